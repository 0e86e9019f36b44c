theorem law_ad {i y : Int32} {k : Int} (hy : y.toInt = k) (hk : 0 ≤ k) (hk8 : k ≤ 8) (h0 : 0 ≤ i.toInt) (h1 : i.toInt ≤ 4104) : (i + y).toInt = i.toInt + k := zi_addc hy (by omega) (by omega)
theorem law_ix {i x : Int32} {L : Nat} {k : Int} (h : x.toInt = i.toInt + k) (hk : 0 ≤ k) (hk8 : k < 8) (h0 : 0 ≤ i.toInt) (hl : i.toInt + 8 ≤ (L : Int)) : vp_in x L := vp_in_iff.mpr ⟨by omega, by omega⟩
theorem law_rc {ce kc zt zv ex : Nat} {i : Int} (h : (ce : Int) ≤ 200 + i + zG zt + zG zv) (h1 : kc = 0) (hi : i ≤ 4104) (hz : 64 ≤ zt ∧ zt ≤ 240400 ∧ 64 ≤ zv ∧ zv ≤ 1202200) (hex : ex ≤ 2) : (ce + kc) + (ex + (8000 - zG zt) + (40000 - zG zv)) ≤ 601024 := by
  have h2 := zG_le (z := zt)
  have h3 := zG_le (z := zv)
  obtain ⟨-, h4, -, h5⟩ := hz
  generalize zG zt = a at *
  generalize zG zv = b at *
  omega
theorem law_rs {sl kn zt zv ex : Nat} {i : Int} (h : (sl : Int) ≤ 260000 + 3 * i + 4 * zt + 2 * zv) (h1 : kn = 0) (hi : i ≤ 4104) (hz : 64 ≤ zt ∧ zt ≤ 240400 ∧ 64 ≤ zv ∧ zv ≤ 1202200) (hex : ex ≤ 13) : (sl + kn) + (ex + (1000000 - 4 * zt) + (2500000 - 2 * zv)) ≤ 7293034 := by
  obtain ⟨-, h4, -, h5⟩ := hz
  omega
theorem law_hm {i x : Int} {n L : Nat} (h : (4105 - i).toNat ≤ n + 1) (hx : x = i + 8) (h0 : 0 ≤ i) (hl : i + 8 ≤ (L : Int)) (hL : L ≤ 4096) : (4105 - x).toNat ≤ n ∧ 0 ≤ x ∧ x ≤ 4104 := by omega
theorem law_gb {i x gb gb2 : Int} (h : gb ≤ 250 * i) (hx : x = i + 8) (h2 : gb2 ≤ gb + 2000) : gb2 ≤ 250 * x := by omega
theorem law_ce {ce kc k9 a b a2 b2 ex : Nat} {i : Int} (h : (ce : Int) ≤ 200 + i + a + b) (h1 : kc = 0) (h2 : k9 + (a + b) ≤ a2 + b2 + ex) (hex : ex ≤ 2) : ((ce + kc + k9 : Nat) : Int) ≤ 200 + (i + 8) + a2 + b2 := by omega
theorem law_sl {sl kn k9 a b a2 b2 ex : Nat} {i : Int} (h : (sl : Int) ≤ 260000 + 3 * i + 4 * a + 2 * b) (h1 : kn = 0) (h2 : k9 + (4 * a + 2 * b) ≤ 4 * a2 + 2 * b2 + ex) (hex : ex ≤ 13) : ((sl + kn + k9 : Nat) : Int) ≤ 260000 + 3 * (i + 8) + 4 * a2 + 2 * b2 := by omega
theorem zIC_hd {x : Nat} {ws : va_W} {tys : List (ClassId × FieldType)} {fed : Int32} {ou : Nat} {gt : Nat → Int32} {gO : Option (sp_S × sp_F)} {gb : Int} (h : zIC x ws tys fed ou gt gO gb) : ∃ fs, ws[0]? = some (x, .inr (11, fs)) := by
  obtain ⟨_, _, _, _, _, _, rfl, -⟩ := h
  exact ⟨_, rfl⟩
theorem zIM_hd {x : Nat} {ws : va_W} {tys : List (ClassId × FieldType)} {ta : Int32} {zt zv : Nat} {gt : Nat → Int32} {gO : Option (sp_S × sp_F)} (h : zIM x ws tys ta zt zv gt gO) : ∃ fs, ws[0]? = some (x, .inr (14, fs)) := by
  obtain ⟨_, _, _, _, _, _, rfl, -⟩ := h
  exact ⟨_, rfl⟩
theorem zIM_sz {x : Nat} {ws : va_W} {tys : List (ClassId × FieldType)} {ta : Int32} {zt zv : Nat} {gt : Nat → Int32} {gO : Option (sp_S × sp_F)} (h : zIM x ws tys ta zt zv gt gO) : 64 ≤ zt ∧ zt ≤ 240400 ∧ 64 ≤ zv ∧ zv ≤ 1202200 := by
  obtain ⟨_, _, _, _, _, _, -, -, -, -, -, -, -, -, h, -⟩ := h
  exact h
theorem law_fd {g g2 h2 : Nat → Int32} {fed ta fed2 ta2 r1 r2 a1 a2 a3 a4 a5 : Int32} (e : fed.toInt = ta.toInt) (h1 : fd_r r1 g g2 (Int32.toNatClampNeg fed) a1 a2 a3 a4 a5) (h3 : fd_r r2 g h2 (Int32.toNatClampNeg ta) a1 a2 a3 a4 a5) (f0 : 0 ≤ fed.toInt) (f1 : fed.toInt + 20 ≤ 2000 ∧ fed2.toInt = fed.toInt + 20 ∧ r1.toInt = fed2.toInt ∨ 2000 < fed.toInt + 20 ∧ fed2.toInt = fed.toInt ∧ r1.toInt = -1) (f2 : ta.toInt + 20 ≤ 2000 ∧ ta2.toInt = ta.toInt + 20 ∧ r2.toInt = ta2.toInt ∨ 2000 < ta.toInt + 20 ∧ ta2.toInt = ta.toInt ∧ r2.toInt = -1) : h2 = g2 := by
  have e2 : fed = ta := Int32.toInt_inj.mp e
  subst e2
  rcases h1 with ⟨u1, u2⟩ | ⟨u1, u2⟩
  · rcases h3 with ⟨v1, v2⟩ | ⟨v1, v2⟩
    · rw [u2, v2]
    · exfalso; omega
  · rcases h3 with ⟨v1, v2⟩ | ⟨v1, v2⟩
    · exfalso; omega
    · funext k; rw [u2 k, v2 k]
theorem law_pa {g : Nat → Int32} {nn fed r : Int32} {o2 : Option (sp_S × sp_F)} (h : pg_an g nn fed r (fun s F => o2 = some (s, F))) : ∃ (T P : Nat → Int32) (V : Nat → Int64) (z : Int32) (E : Nat → Nat) (kw : Nat → Int64) (kf : Nat → Int32) (fw : Nat → Int64) (G : Nat → Tm), (0 ≤ nn.toInt → nn.toInt ≤ fed.toInt → 0 ≤ nn.toInt ∧ 0 ≤ z.toInt ∧ z.toInt ≤ 2000 ∧ (T (Int32.toNatClampNeg z)).toInt = 256 ∧ (P (Int32.toNatClampNeg z)).toInt = nn.toInt ∧ lx_to g nn.toInt T P V (Int32.toNatClampNeg z) nn.toInt.toNat E) ∧ pg_r1 T P V kw kf fw G nn fed r ∧ (0 ≤ r.toInt → o2 = sp_pg T P V (0, 0, kw, kf, []) (0, fw, (fun _ => 0), G)) := by
  rcases h with ⟨u1, u2⟩ | ⟨⟨u1, u2⟩, T, P, V, z, kw, kf, fw, G, ⟨z0, z1, z2, zp, E, z3⟩, u4⟩
  · exact ⟨fun _ => 0, fun _ => 0, fun _ => 0, 0, fun _ => 0, fun _ => 0, fun _ => 0, fun _ => 0, fun _ => Tm.nil, fun h1 h2 => by exfalso; omega, Or.inl ⟨u1, u2⟩, fun h1 => by exfalso; omega⟩
  · refine ⟨T, P, V, z, E, kw, kf, fw, G, fun _ _ => ⟨u1, z0, z1, z2, zp, z3⟩, Or.inr ⟨⟨u1, u2⟩, ?_⟩, ?_⟩
    · rcases u4 with ⟨v1, s, F, v2, v3, -⟩ | ⟨v1, v2⟩
      · exact Or.inl ⟨v1, (s, F), v2, v3⟩
      · exact Or.inr ⟨v1, v2⟩
    · intro h0
      rcases u4 with ⟨v1, s, F, v2, v3, v4⟩ | ⟨v1, v2⟩
      · rw [v4, v2]
      · exfalso; omega
theorem law_pe {T P : Nat → Int32} {V kw : Nat → Int64} {kf : Nat → Int32} {fw : Nat → Int64} {G : Nat → Tm} {nn n2 fed ta r r2 : Int32} (h : pg_r1 T P V kw kf fw G nn fed r) (h2 : pg_r1 T P V kw kf fw G n2 ta r2) (e : n2 = nn) (e2 : fed.toInt = ta.toInt) : r.toInt = r2.toInt ∧ (r.toInt = -1 ∨ 0 ≤ r.toInt) := by
  subst e
  rcases h with ⟨u1, u2⟩ | ⟨u1, u2⟩
  · rcases h2 with ⟨v1, v2⟩ | ⟨v1, v2⟩
    · omega
    · exfalso; omega
  · rcases h2 with ⟨v1, v2⟩ | ⟨v1, v2⟩
    · exfalso; omega
    · rcases u2 with ⟨a, q, b, b2⟩ | ⟨a, b⟩ <;> rcases v2 with ⟨c, q', d, d2⟩ | ⟨c, d⟩
      · have e3 := Option.some.inj (b.symm.trans d)
        subst e3
        have n1 := zn_nat a
        have n2 := zn_nat c
        omega
      · rw [b] at d; cases d
      · rw [b] at d; cases d
      · omega
theorem law_pg {T P : Nat → Int32} {V kw : Nat → Int64} {kf : Nat → Int32} {fw : Nat → Int64} {G : Nat → Tm} {nn n2 fed ta r r2 : Int32} {o oC oM q : Option (sp_S × sp_F)} (h : pg_r1 T P V kw kf fw G nn fed r) (h2 : pg_r1 T P V kw kf fw G n2 ta r2) (e : n2 = nn) (e2 : fed.toInt = ta.toInt) (hC1 : r.toInt = -1 → oC = o) (hC2 : 0 ≤ r.toInt → oC = q) (hM : (r2.toInt = -1 → oM = o) ∧ (0 ≤ r2.toInt → oM = q)) : oM = oC := by
  obtain ⟨h3, h4 | h4⟩ := law_pe h h2 e e2
  · rw [hC1 h4, hM.1 (by omega)]
  · rw [hC2 h4, hM.2 (by omega)]
theorem zIC_fe {x : Nat} {ws : va_W} {tys : List (ClassId × FieldType)} {fed : Int32} {ou : Nat} {gt : Nat → Int32} {gO : Option (sp_S × sp_F)} {gb : Int} (h : zIC x ws tys fed ou gt gO gb) : 0 ≤ fed.toInt := by
  obtain ⟨_, _, _, _, _, _, -, -, h, -⟩ := h
  exact h.1

set_option maxHeartbeats 40000000 in
set_option maxRecDepth 100000 in
theorem law_c0 {p : Program} {e : Env} {s : State} {m : MethodId} {below : List Frame} {meth : Method} {c : Code} (l : Launch) (hlt : l.stackTraces = false) {b L : Nat} {xs : Nat → Int32} (hL : L ≤ 4096) (hx : p.tables.exec = Jvm.exec) (hb : c.code = code) (hr : meth.sig.returnType = ret) (hml : c.maxLocals = 7) (hown : s.vm.findClass RL = some m.cls) (hA : ∀ w ∈ zw, w.before #[Value.ref b] s = true) (hX : va_X b L xs s s.heap) (hbl : b < s.heap.size) (hlocks : meth.locks = false) {A : Nat → Prop} (hAd : A = (fun q : Nat => s.heap.size ≤ q)) (hAA : ∀ q : Nat, s.heap.size ≤ q → A q) (hbA : ¬ A b) {dC : Nat → ClassId} {dI : Nat → Nat → Nat} {aK aV : Nat → Nat} (hN : zN s) (hT : zT aK aV A s s.heap) (x y ou : Nat) (n9 : Nat) (ih : ∀ (i : Int32) (wC : va_W) (tC : List (ClassId × FieldType)) (fed : Int32) (wM : va_W) (tM : List (ClassId × FieldType)) (ta : Int32) (zt zv : Nat) (gt : Nat → Int32) (gO : Option (sp_S × sp_F)) (gb : Int) (H : Heap) (locs : List Loc) (ls : Array Slot) (cells slots : Nat), (4105 - i.toInt).toNat ≤ n9 → 0 ≤ i.toInt → i.toInt ≤ 4104 → zIC x wC tC fed ou gt gO gb → zIM y wM tM ta zt zv gt gO → fed.toInt = ta.toInt → va_P (dC, dI) vwCl (wC ++ wM) H → va_D A (wC ++ wM) → va_K (dC, dI) vwCl (tC ++ tM) s → va_S A s.heap H locs → lv_has ls 7 [(0, .ref b), (1, .ref x), (2, .ref y), (3, .ref ou), (4, .int i)] → (cells : Int) ≤ 200 + i.toInt + zG zt + zG zv → (slots : Int) ≤ 260000 + 3 * i.toInt + 4 * zt + 2 * zv → gb ≤ 250 * i.toInt → W p l e room_1 s m #[Value.ref b] below meth c H locs cells slots (lw_Z below #[Value.ref b] s) (F0 m 23 ls [])) (i : Int32) (wC : va_W) (tC : List (ClassId × FieldType)) (fed : Int32) (wM : va_W) (tM : List (ClassId × FieldType)) (ta : Int32) (zt zv : Nat) (gt : Nat → Int32) (gO : Option (sp_S × sp_F)) (gb : Int) (H : Heap) (locs : List Loc) (ls : Array Slot) (cells slots : Nat) (hm9 : (4105 - i.toInt).toNat ≤ n9 + 1) (hi0 : 0 ≤ i.toInt) (hi1 : i.toInt ≤ 4104) (hIC : zIC x wC tC fed ou gt gO gb) (hIM : zIM y wM tM ta zt zv gt gO) (hft : fed.toInt = ta.toInt) (hP : va_P (dC, dI) vwCl (wC ++ wM) H) (hD : va_D A (wC ++ wM)) (hK : va_K (dC, dI) vwCl (tC ++ tM) s) (hS : va_S A s.heap H locs) (hl : lv_has ls 7 [(0, .ref b), (1, .ref x), (2, .ref y), (3, .ref ou), (4, .int i)]) (hce : (cells : Int) ≤ 200 + i.toInt + zG zt + zG zv) (hsl : (slots : Int) ≤ 260000 + 3 * i.toInt + 4 * zt + 2 * zv) (hgb : gb ≤ 250 * i.toInt) (hil : i.toInt + 8 ≤ (L : Int)) : W p l e room_1 s m #[Value.ref b] below meth c H locs cells slots (lw_Z below #[Value.ref b] s) (F0 m 100 ls []) := by
  have hsz9 := zIM_sz hIM
  have hg1 := zG_le (z := zt)
  have hg2 := zG_le (z := zv)
  have hm : (4105 - i.toInt).toNat ≤ n9 + 1 := hm9
  refine lv_aload_n hx hb dL_law_100 rfl (lv_at hl 1 rfl) ?_
  refine lv_aload_n hx hb dL_law_101 rfl (lv_at hl 0 rfl) ?_
  refine lv_iload hx hb dL_law_102 (lv_at hl 4 rfl) ?_
  refine lv_iconst (v := 1) hx hb dL_law_104 (by decide) ?_
  refine lv_iadd hx hb dL_law_105 ?_
  refine lv_topi (fun x_1 ex_1 => ?_)
  have ix_1 : x_1.toInt = i.toInt + 1 := by rw [ex_1]; exact law_ad (by decide) (by decide) (by decide) hi0 hi1
  refine va_sld hx hb hX hbl hbA hS (law_ix ix_1 (by decide) (by decide) hi0 hil) dL_law_106 ?_
  refine lv_topi (fun x_2 ex_2 => ?_)
  refine lv_aload_n hx hb dL_law_107 rfl (lv_at hl 0 rfl) ?_
  refine lv_iload hx hb dL_law_108 (lv_at hl 4 rfl) ?_
  refine lv_iconst (v := 2) hx hb dL_law_110 (by decide) ?_
  refine lv_iadd hx hb dL_law_111 ?_
  refine lv_topi (fun x_3 ex_3 => ?_)
  have ix_3 : x_3.toInt = i.toInt + 2 := by rw [ex_3]; exact law_ad (by decide) (by decide) (by decide) hi0 hi1
  refine va_sld hx hb hX hbl hbA hS (law_ix ix_3 (by decide) (by decide) hi0 hil) dL_law_112 ?_
  refine lv_topi (fun x_4 ex_4 => ?_)
  refine lv_aload_n hx hb dL_law_113 rfl (lv_at hl 0 rfl) ?_
  refine lv_iload hx hb dL_law_114 (lv_at hl 4 rfl) ?_
  refine lv_iconst (v := 3) hx hb dL_law_116 (by decide) ?_
  refine lv_iadd hx hb dL_law_117 ?_
  refine lv_topi (fun x_5 ex_5 => ?_)
  have ix_5 : x_5.toInt = i.toInt + 3 := by rw [ex_5]; exact law_ad (by decide) (by decide) (by decide) hi0 hi1
  refine va_sld hx hb hX hbl hbA hS (law_ix ix_5 (by decide) (by decide) hi0 hil) dL_law_118 ?_
  refine lv_topi (fun x_6 ex_6 => ?_)
  refine lv_aload_n hx hb dL_law_119 rfl (lv_at hl 0 rfl) ?_
  refine lv_iload hx hb dL_law_120 (lv_at hl 4 rfl) ?_
  refine lv_iconst (v := 4) hx hb dL_law_122 (by decide) ?_
  refine lv_iadd hx hb dL_law_123 ?_
  refine lv_topi (fun x_7 ex_7 => ?_)
  have ix_7 : x_7.toInt = i.toInt + 4 := by rw [ex_7]; exact law_ad (by decide) (by decide) (by decide) hi0 hi1
  refine va_sld hx hb hX hbl hbA hS (law_ix ix_7 (by decide) (by decide) hi0 hil) dL_law_124 ?_
  refine lv_topi (fun x_8 ex_8 => ?_)
  refine lv_aload_n hx hb dL_law_125 rfl (lv_at hl 0 rfl) ?_
  refine lv_iload hx hb dL_law_126 (lv_at hl 4 rfl) ?_
  refine lv_iconst (v := 5) hx hb dL_law_128 (by decide) ?_
  refine lv_iadd hx hb dL_law_129 ?_
  refine lv_topi (fun x_9 ex_9 => ?_)
  have ix_9 : x_9.toInt = i.toInt + 5 := by rw [ex_9]; exact law_ad (by decide) (by decide) (by decide) hi0 hi1
  refine va_sld hx hb hX hbl hbA hS (law_ix ix_9 (by decide) (by decide) hi0 hil) dL_law_130 ?_
  refine lv_topi (fun x_10 ex_10 => ?_)
  have hPc := fr_Pl hP
  have hDc := fr_Dl hD
  have hKc := fr_Kl hK
  have hFc := fr_Fl hD hS hAA
  obtain ⟨fs_11, hfs_11⟩ := zIC_hd hIC
  refine vw_calli (vw_runV (As := [.int x_2, .int x_4, .int x_6, .int x_8, .int x_10]) (rest := []) ⟨hx, hb, hml, hown, hA⟩ (w_X11_feed l dC dI aK aV x wC tC fed ou gt gO gb x_2 x_4 x_6 x_8 x_10 H.size hlt hIC) (cwV 5 hA (zw_V wi_636 wi_637 wi_638 wi_130 (zw_good wi_639)) rfl rfl rfl (by decide +kernel) ⟨(Nat.le_of_ble_eq_true rfl), (Nat.le_of_ble_eq_true rfl)⟩) ⟨zP_blind, va_recv hKc hPc (ci := 11) (q0 := 0) rfl hfs_11, zz_pre hKc hPc hDc hN hT hS hFc⟩ rfl rfl hl.1 rfl (lv_room (Nat.le_of_ble_eq_true rfl)) dL_law_131 ⟨by show cells + 0 ≤ 601024; omega, by show slots + 0 ≤ 7293034; omega⟩) hS (fun q _ h => hFc q h) hFc (fun q _ h => hFc q h) (fun kc9 kn9 E9 ce9 u t H1 locs ht hvm hw hB hz1 hk1 hS hcell hcv hcl => absurd hw id) (fun kc_13 kn_14 r_12 u t H1 locs ht hvm hw hB hz1 hk1 hS => ?_)
  obtain ⟨w_15, t_16, z_17, z_18, z_19, z_20, z_21⟩ := u
  try dsimp only at hw hB
  obtain ⟨hI_22, hq_23, hq_24, hq_25, hq_26, hq_27, hq_28⟩ := hw
  rw [hq_25, hq_27, hq_28] at hI_22
  skip
  have hq_24a := hq_24.1
  have hq_24b := hq_24.2
  obtain ⟨hP1, hK1, hD1⟩ := hB
  rw [ht] at hP1
  have hK1 := va_K.moved hvm.symm hK1
  obtain ⟨hP, hD⟩ := fr_apart hP hD hk1 hFc hP1 hD1
  have hK := (fr_Kr hK).app hK1
  clear hPc hDc hKc hFc hP1 hD1 hK1 hk1 hz1 ht hvm
  generalize H1 = H at hP hS ⊢
  refine lv_pop hx hb dL_law_134 rfl ?_
  refine lv_aload_n hx hb dL_law_135 rfl (lv_at hl 2 rfl) ?_
  refine lv_aload_n hx hb dL_law_136 rfl (lv_at hl 0 rfl) ?_
  refine lv_iload hx hb dL_law_137 (lv_at hl 4 rfl) ?_
  refine lv_iconst (v := 1) hx hb dL_law_139 (by decide) ?_
  refine lv_iadd hx hb dL_law_140 ?_
  refine lv_topi (fun x_30 ex_30 => ?_)
  have ix_30 : x_30.toInt = i.toInt + 1 := by rw [ex_30]; exact law_ad (by decide) (by decide) (by decide) hi0 hi1
  refine va_sld hx hb hX hbl hbA hS (law_ix ix_30 (by decide) (by decide) hi0 hil) dL_law_141 ?_
  refine lv_topi (fun x_31 ex_31 => ?_)
  refine lv_aload_n hx hb dL_law_142 rfl (lv_at hl 0 rfl) ?_
  refine lv_iload hx hb dL_law_143 (lv_at hl 4 rfl) ?_
  refine lv_iconst (v := 2) hx hb dL_law_145 (by decide) ?_
  refine lv_iadd hx hb dL_law_146 ?_
  refine lv_topi (fun x_32 ex_32 => ?_)
  have ix_32 : x_32.toInt = i.toInt + 2 := by rw [ex_32]; exact law_ad (by decide) (by decide) (by decide) hi0 hi1
  refine va_sld hx hb hX hbl hbA hS (law_ix ix_32 (by decide) (by decide) hi0 hil) dL_law_147 ?_
  refine lv_topi (fun x_33 ex_33 => ?_)
  refine lv_aload_n hx hb dL_law_148 rfl (lv_at hl 0 rfl) ?_
  refine lv_iload hx hb dL_law_149 (lv_at hl 4 rfl) ?_
  refine lv_iconst (v := 3) hx hb dL_law_151 (by decide) ?_
  refine lv_iadd hx hb dL_law_152 ?_
  refine lv_topi (fun x_34 ex_34 => ?_)
  have ix_34 : x_34.toInt = i.toInt + 3 := by rw [ex_34]; exact law_ad (by decide) (by decide) (by decide) hi0 hi1
  refine va_sld hx hb hX hbl hbA hS (law_ix ix_34 (by decide) (by decide) hi0 hil) dL_law_153 ?_
  refine lv_topi (fun x_35 ex_35 => ?_)
  refine lv_aload_n hx hb dL_law_154 rfl (lv_at hl 0 rfl) ?_
  refine lv_iload hx hb dL_law_155 (lv_at hl 4 rfl) ?_
  refine lv_iconst (v := 4) hx hb dL_law_157 (by decide) ?_
  refine lv_iadd hx hb dL_law_158 ?_
  refine lv_topi (fun x_36 ex_36 => ?_)
  have ix_36 : x_36.toInt = i.toInt + 4 := by rw [ex_36]; exact law_ad (by decide) (by decide) (by decide) hi0 hi1
  refine va_sld hx hb hX hbl hbA hS (law_ix ix_36 (by decide) (by decide) hi0 hil) dL_law_159 ?_
  refine lv_topi (fun x_37 ex_37 => ?_)
  refine lv_aload_n hx hb dL_law_160 rfl (lv_at hl 0 rfl) ?_
  refine lv_iload hx hb dL_law_161 (lv_at hl 4 rfl) ?_
  refine lv_iconst (v := 5) hx hb dL_law_163 (by decide) ?_
  refine lv_iadd hx hb dL_law_164 ?_
  refine lv_topi (fun x_38 ex_38 => ?_)
  have ix_38 : x_38.toInt = i.toInt + 5 := by rw [ex_38]; exact law_ad (by decide) (by decide) (by decide) hi0 hi1
  refine va_sld hx hb hX hbl hbA hS (law_ix ix_38 (by decide) (by decide) hi0 hil) dL_law_165 ?_
  refine lv_topi (fun x_39 ex_39 => ?_)
  have hPc := fr_Pl hP
  have hDc := fr_Dl hD
  have hKc := fr_Kl hK
  have hFc := fr_Fl hD hS hAA
  obtain ⟨fs_40, hfs_40⟩ := zIM_hd hIM
  refine vw_calli (vw_runV (As := [.int x_31, .int x_33, .int x_35, .int x_37, .int x_39]) (rest := []) ⟨hx, hb, hml, hown, hA⟩ (w_X14_feed l dC dI aK aV y wM tM ta zt zv gt gO x_31 x_33 x_35 x_37 x_39 H.size hlt hIM) (cwV 5 hA (zw_V wi_1687 wi_1688 wi_1689 wi_143 (zw_good wi_1690)) rfl rfl rfl (by decide +kernel) ⟨(Nat.le_of_ble_eq_true rfl), (Nat.le_of_ble_eq_true rfl)⟩) ⟨zP_blind, va_recv hKc hPc (ci := 14) (q0 := 0) rfl hfs_40, zz_pre hKc hPc hDc hN hT hS hFc⟩ rfl rfl hl.1 rfl (lv_room (Nat.le_of_ble_eq_true rfl)) dL_law_166 ⟨by show (cells + kc_13) + 0 ≤ 601024; omega, by show (slots + kn_14) + 0 ≤ 7293034; omega⟩) hS (fun q _ h => hFc q h) hFc (fun q _ h => hFc q h) (fun kc9 kn9 E9 ce9 u t H1 locs ht hvm hw hB hz1 hk1 hS hcell hcv hcl => absurd hw id) (fun kc_42 kn_43 r_41 u t H1 locs ht hvm hw hB hz1 hk1 hS => ?_)
  obtain ⟨w_44, t_45, z_46, z_47, z_48, z_49, z_50⟩ := u
  try dsimp only at hw hB
  obtain ⟨hI_51, hq_52, hq_53, hq_54, hq_55, hq_56, hq_57⟩ := hw
  rw [hq_53, hq_54, hq_57] at hI_51
  have hb_59 : x_31 = x_2 := by rw [ex_31, ex_2, ex_30, ex_1]
  have hb_60 : x_33 = x_4 := by rw [ex_33, ex_4, ex_32, ex_3]
  have hb_61 : x_35 = x_6 := by rw [ex_35, ex_6, ex_34, ex_5]
  have hb_62 : x_37 = x_8 := by rw [ex_37, ex_8, ex_36, ex_7]
  have hb_63 : x_39 = x_10 := by rw [ex_39, ex_10, ex_38, ex_9]
  rw [hb_59, hb_60, hb_61, hb_62, hb_63] at hq_56
  have hgg := law_fd hft hq_26 hq_56 (zIC_fe hIC) hq_23 hq_52
  rw [hgg] at hI_51
  skip
  have hq_55a := hq_55.1
  have hq_55b := hq_55.2
  obtain ⟨hP1, hK1, hD1⟩ := hB
  rw [ht] at hP1
  have hK1 := va_K.moved hvm.symm hK1
  obtain ⟨hP, hD⟩ := fr_apart hP hD hk1 hFc hP1 hD1
  have hK := (fr_Kr hK).app hK1
  clear hPc hDc hKc hFc hP1 hD1 hK1 hk1 hz1 ht hvm
  generalize H1 = H at hP hS ⊢
  refine lv_pop hx hb dL_law_169 rfl ?_
  refine lv_goto (tgt := 556) hx hb dL_law_170 (by decide) ?_
  obtain ⟨x_64, ex_64⟩ : ∃ y : Int32, y = i + Int32.ofInt 8 := ⟨_, rfl⟩
  refine lv_iinc (v := x_64) (lv' := [(4, .int x_64), (0, .ref b), (1, .ref x), (2, .ref y), (3, .ref ou)]) hx hb dL_law_556 hl (k := 4) rfl (by rw [ex_64]) (by decide) rfl (fun ls hl => ?_)
  have ix_64 : x_64.toInt = i.toInt + 8 := by rw [ex_64]; exact law_ad (by decide) (by decide) (by decide) hi0 hi1
  refine lv_goto (tgt := 23) hx hb dL_law_559 (by decide) ?_
  have hsz9 := zIM_sz hI_51
  exact ih x_64 w_15 t_16 z_17 w_44 t_45 z_46 zt zv z_19 gO gb _ _ _ _ _ (by omega) (by omega) (by omega) hI_22 hI_51 (by omega) hP hD hK hS (lv_sub hl [1, 2, 3, 4, 0] rfl) (by omega) (by omega) (law_gb hgb ix_64 (Int.le_add_of_nonneg_right (by decide)))
set_option maxHeartbeats 40000000 in
set_option maxRecDepth 100000 in
theorem law_c1 {p : Program} {e : Env} {s : State} {m : MethodId} {below : List Frame} {meth : Method} {c : Code} (l : Launch) (hlt : l.stackTraces = false) {b L : Nat} {xs : Nat → Int32} (hL : L ≤ 4096) (hx : p.tables.exec = Jvm.exec) (hb : c.code = code) (hr : meth.sig.returnType = ret) (hml : c.maxLocals = 7) (hown : s.vm.findClass RL = some m.cls) (hA : ∀ w ∈ zw, w.before #[Value.ref b] s = true) (hX : va_X b L xs s s.heap) (hbl : b < s.heap.size) (hlocks : meth.locks = false) {A : Nat → Prop} (hAd : A = (fun q : Nat => s.heap.size ≤ q)) (hAA : ∀ q : Nat, s.heap.size ≤ q → A q) (hbA : ¬ A b) {dC : Nat → ClassId} {dI : Nat → Nat → Nat} {aK aV : Nat → Nat} (hN : zN s) (hT : zT aK aV A s s.heap) (x y ou : Nat) (n9 : Nat) (ih : ∀ (i : Int32) (wC : va_W) (tC : List (ClassId × FieldType)) (fed : Int32) (wM : va_W) (tM : List (ClassId × FieldType)) (ta : Int32) (zt zv : Nat) (gt : Nat → Int32) (gO : Option (sp_S × sp_F)) (gb : Int) (H : Heap) (locs : List Loc) (ls : Array Slot) (cells slots : Nat), (4105 - i.toInt).toNat ≤ n9 → 0 ≤ i.toInt → i.toInt ≤ 4104 → zIC x wC tC fed ou gt gO gb → zIM y wM tM ta zt zv gt gO → fed.toInt = ta.toInt → va_P (dC, dI) vwCl (wC ++ wM) H → va_D A (wC ++ wM) → va_K (dC, dI) vwCl (tC ++ tM) s → va_S A s.heap H locs → lv_has ls 7 [(0, .ref b), (1, .ref x), (2, .ref y), (3, .ref ou), (4, .int i)] → (cells : Int) ≤ 200 + i.toInt + zG zt + zG zv → (slots : Int) ≤ 260000 + 3 * i.toInt + 4 * zt + 2 * zv → gb ≤ 250 * i.toInt → W p l e room_1 s m #[Value.ref b] below meth c H locs cells slots (lw_Z below #[Value.ref b] s) (F0 m 23 ls [])) (i : Int32) (wC : va_W) (tC : List (ClassId × FieldType)) (fed : Int32) (wM : va_W) (tM : List (ClassId × FieldType)) (ta : Int32) (zt zv : Nat) (gt : Nat → Int32) (gO : Option (sp_S × sp_F)) (gb : Int) (H : Heap) (locs : List Loc) (ls : Array Slot) (cells slots : Nat) (hm9 : (4105 - i.toInt).toNat ≤ n9 + 1) (hi0 : 0 ≤ i.toInt) (hi1 : i.toInt ≤ 4104) (hIC : zIC x wC tC fed ou gt gO gb) (hIM : zIM y wM tM ta zt zv gt gO) (hft : fed.toInt = ta.toInt) (hP : va_P (dC, dI) vwCl (wC ++ wM) H) (hD : va_D A (wC ++ wM)) (hK : va_K (dC, dI) vwCl (tC ++ tM) s) (hS : va_S A s.heap H locs) (hl : lv_has ls 7 [(0, .ref b), (1, .ref x), (2, .ref y), (3, .ref ou), (4, .int i)]) (hce : (cells : Int) ≤ 200 + i.toInt + zG zt + zG zv) (hsl : (slots : Int) ≤ 260000 + 3 * i.toInt + 4 * zt + 2 * zv) (hgb : gb ≤ 250 * i.toInt) (hil : i.toInt + 8 ≤ (L : Int)) : W p l e room_1 s m #[Value.ref b] below meth c H locs cells slots (lw_Z below #[Value.ref b] s) (F0 m 173 ls []) := by
  have hsz9 := zIM_sz hIM
  have hg1 := zG_le (z := zt)
  have hg2 := zG_le (z := zv)
  have hm : (4105 - i.toInt).toNat ≤ n9 + 1 := hm9
  refine lv_aload_n hx hb dL_law_173 rfl (lv_at hl 1 rfl) ?_
  refine lv_aload_n hx hb dL_law_174 rfl (lv_at hl 0 rfl) ?_
  refine lv_iload hx hb dL_law_175 (lv_at hl 4 rfl) ?_
  refine lv_iconst (v := 1) hx hb dL_law_177 (by decide) ?_
  refine lv_iadd hx hb dL_law_178 ?_
  refine lv_topi (fun x_1 ex_1 => ?_)
  have ix_1 : x_1.toInt = i.toInt + 1 := by rw [ex_1]; exact law_ad (by decide) (by decide) (by decide) hi0 hi1
  refine va_sld hx hb hX hbl hbA hS (law_ix ix_1 (by decide) (by decide) hi0 hil) dL_law_179 ?_
  refine lv_topi (fun x_2 ex_2 => ?_)
  have hPc := fr_Pl hP
  have hDc := fr_Dl hD
  have hKc := fr_Kl hK
  have hFc := fr_Fl hD hS hAA
  obtain ⟨fs_3, hfs_3⟩ := zIC_hd hIC
  refine vw_calli (vw_runV (As := [.int x_2]) (rest := []) ⟨hx, hb, hml, hown, hA⟩ (w_X11_program l dC dI aK aV x wC tC fed ou gt gO gb x_2 H.size hlt hIC (by omega)) (cwV 1 hA (zw_V wi_644 wi_645 wi_646 wi_130 (zw_good wi_647)) rfl rfl rfl (by decide +kernel) ⟨(Nat.le_of_ble_eq_true rfl), (Nat.le_of_ble_eq_true rfl)⟩) ⟨zP_blind, va_recv hKc hPc (ci := 11) (q0 := 0) rfl hfs_3, zz_pre hKc hPc hDc hN hT hS hFc⟩ rfl rfl hl.1 rfl (lv_room (Nat.le_of_ble_eq_true rfl)) dL_law_180 ⟨by show cells + 1 ≤ 601024; omega, by show slots + 6 ≤ 7293034; omega⟩) hS (fun q _ h => hFc q h) hFc (fun q _ h => hFc q h) (fun kc9 kn9 E9 ce9 u t H1 locs ht hvm hw hB hz1 hk1 hS hcell hcv hcl => absurd hw id) (fun kc_5 kn_6 r_4 u t H1 locs ht hvm hw hB hz1 hk1 hS => ?_)
  obtain ⟨w_7, t_8, z_9, z_10, z_11, z_12, z_13⟩ := u
  try dsimp only at hw hB
  obtain ⟨hI_14, hq_15, hq_16, hq_17, hq_18, hq_19, hq_20⟩ := hw
  rw [hq_17, hq_18, hq_19] at hI_14
  obtain ⟨hpan9, hoC9⟩ := hq_20
  obtain ⟨pT, pP, pV, pz, pE, pkw, pkf, pfw, pG, hal9, hpr9, hoD9⟩ := law_pa hpan9
  skip
  have hq_16a := hq_16.1
  have hq_16b := hq_16.2
  obtain ⟨hP1, hK1, hD1⟩ := hB
  rw [ht] at hP1
  have hK1 := va_K.moved hvm.symm hK1
  obtain ⟨hP, hD⟩ := fr_apart hP hD hk1 hFc hP1 hD1
  have hK := (fr_Kr hK).app hK1
  clear hPc hDc hKc hFc hP1 hD1 hK1 hk1 hz1 ht hvm
  generalize H1 = H at hP hS ⊢
  refine lv_pop hx hb dL_law_183 rfl ?_
  refine lv_aload_n hx hb dL_law_184 rfl (lv_at hl 2 rfl) ?_
  refine lv_aload_n hx hb dL_law_185 rfl (lv_at hl 0 rfl) ?_
  refine lv_iload hx hb dL_law_186 (lv_at hl 4 rfl) ?_
  refine lv_iconst (v := 1) hx hb dL_law_188 (by decide) ?_
  refine lv_iadd hx hb dL_law_189 ?_
  refine lv_topi (fun x_22 ex_22 => ?_)
  have ix_22 : x_22.toInt = i.toInt + 1 := by rw [ex_22]; exact law_ad (by decide) (by decide) (by decide) hi0 hi1
  refine va_sld hx hb hX hbl hbA hS (law_ix ix_22 (by decide) (by decide) hi0 hil) dL_law_190 ?_
  refine lv_topi (fun x_23 ex_23 => ?_)
  have hnn9 : x_23 = x_2 := by rw [ex_23, ex_2, ex_22, ex_1]
  have hnn8 := congrArg Int32.toInt hnn9
  have hPc := fr_Pl hP
  have hDc := fr_Dl hD
  have hKc := fr_Kl hK
  have hFc := fr_Fl hD hS hAA
  obtain ⟨fs_24, hfs_24⟩ := zIM_hd hIM
  refine vw_calli (vw_runVX (As := [.int x_23]) (rest := []) ⟨hx, hb, hml, hown, hA⟩ (w_X14_program l dC dI aK aV y wM tM ta zt zv gt gO x_23 H.size hlt hIM pT pP pV pz pE pkw pkf pfw pG (by rw [hnn9]; exact fun h1 h2 => hal9 h1 (by rw [hft]; exact h2))) (vx_cwVW 1 hA (zw_V wi_1691 wi_1692 wi_1693 wi_143 (zw_good wi_1694)) rfl rfl rfl (by decide +kernel) ⟨(Nat.le_of_ble_eq_true rfl), (Nat.le_of_ble_eq_true rfl)⟩) ⟨zP_blind, va_recv hKc hPc (ci := 14) (q0 := 0) rfl hfs_24, zz_pre hKc hPc hDc hN hT hS hFc⟩ rfl rfl hl.1 rfl (lv_room (Nat.le_of_ble_eq_true rfl)) dL_law_191 ⟨by show (cells + kc_5) + 0 ≤ 601024; omega, by show (slots + kn_6) + 0 ≤ 7293034; omega⟩) hS (fun q _ h => hFc q h) hFc (fun q _ h => hFc q h) (fun kc9 kn9 E9 ce9 u t H1 locs ht hvm hw hB hz1 hk1 hS hcell hcv hcl => absurd hw id) (fun kc_26 kn_27 r_25 u t H1 locs ht hvm hw hB hz1 hk1 hS => ?_)
  obtain ⟨w_28, t_29, z_30, z_31, z_32, z_33, z_34⟩ := u
  try dsimp only at hw hB
  obtain ⟨hI_35, hq_36, hq_37, hq_38, hq_39, hq_40, hq_41, hq_42⟩ := hw
  rw [hq_37, hq_38, hq_40] at hI_35
  have hgo9 := law_pg hpr9 hq_41 hnn9 hft hoC9 hoD9 hq_42
  rw [hgo9] at hI_35
  skip
  have hq_39a := hq_39.1
  have hq_39b := hq_39.2
  obtain ⟨hP1, hK1, hD1⟩ := hB
  rw [ht] at hP1
  have hK1 := va_K.moved hvm.symm hK1
  obtain ⟨hP, hD⟩ := fr_apart hP hD hk1 hFc hP1 hD1
  have hK := (fr_Kr hK).app hK1
  clear hPc hDc hKc hFc hP1 hD1 hK1 hk1 hz1 ht hvm
  generalize H1 = H at hP hS ⊢
  refine lv_pop hx hb dL_law_194 rfl ?_
  refine lv_goto (tgt := 556) hx hb dL_law_195 (by decide) ?_
  obtain ⟨x_43, ex_43⟩ : ∃ y : Int32, y = i + Int32.ofInt 8 := ⟨_, rfl⟩
  refine lv_iinc (v := x_43) (lv' := [(4, .int x_43), (0, .ref b), (1, .ref x), (2, .ref y), (3, .ref ou)]) hx hb dL_law_556 hl (k := 4) rfl (by rw [ex_43]) (by decide) rfl (fun ls hl => ?_)
  have ix_43 : x_43.toInt = i.toInt + 8 := by rw [ex_43]; exact law_ad (by decide) (by decide) (by decide) hi0 hi1
  refine lv_goto (tgt := 23) hx hb dL_law_559 (by decide) ?_
  have hsz9 := zIM_sz hI_35
  exact ih x_43 w_7 t_8 z_9 w_28 t_29 z_30 zt zv gt z_12 (gb + 2000) _ _ _ _ _ (by omega) (by omega) (by omega) hI_14 hI_35 (by omega) hP hD hK hS (lv_sub hl [1, 2, 3, 4, 0] rfl) (by omega) (by omega) (law_gb hgb ix_43 (Int.le_refl _))
set_option maxHeartbeats 40000000 in
set_option maxRecDepth 100000 in
theorem law_c2 {p : Program} {e : Env} {s : State} {m : MethodId} {below : List Frame} {meth : Method} {c : Code} (l : Launch) (hlt : l.stackTraces = false) {b L : Nat} {xs : Nat → Int32} (hL : L ≤ 4096) (hx : p.tables.exec = Jvm.exec) (hb : c.code = code) (hr : meth.sig.returnType = ret) (hml : c.maxLocals = 7) (hown : s.vm.findClass RL = some m.cls) (hA : ∀ w ∈ zw, w.before #[Value.ref b] s = true) (hX : va_X b L xs s s.heap) (hbl : b < s.heap.size) (hlocks : meth.locks = false) {A : Nat → Prop} (hAd : A = (fun q : Nat => s.heap.size ≤ q)) (hAA : ∀ q : Nat, s.heap.size ≤ q → A q) (hbA : ¬ A b) {dC : Nat → ClassId} {dI : Nat → Nat → Nat} {aK aV : Nat → Nat} (hN : zN s) (hT : zT aK aV A s s.heap) (x y ou : Nat) (n9 : Nat) (ih : ∀ (i : Int32) (wC : va_W) (tC : List (ClassId × FieldType)) (fed : Int32) (wM : va_W) (tM : List (ClassId × FieldType)) (ta : Int32) (zt zv : Nat) (gt : Nat → Int32) (gO : Option (sp_S × sp_F)) (gb : Int) (H : Heap) (locs : List Loc) (ls : Array Slot) (cells slots : Nat), (4105 - i.toInt).toNat ≤ n9 → 0 ≤ i.toInt → i.toInt ≤ 4104 → zIC x wC tC fed ou gt gO gb → zIM y wM tM ta zt zv gt gO → fed.toInt = ta.toInt → va_P (dC, dI) vwCl (wC ++ wM) H → va_D A (wC ++ wM) → va_K (dC, dI) vwCl (tC ++ tM) s → va_S A s.heap H locs → lv_has ls 7 [(0, .ref b), (1, .ref x), (2, .ref y), (3, .ref ou), (4, .int i)] → (cells : Int) ≤ 200 + i.toInt + zG zt + zG zv → (slots : Int) ≤ 260000 + 3 * i.toInt + 4 * zt + 2 * zv → gb ≤ 250 * i.toInt → W p l e room_1 s m #[Value.ref b] below meth c H locs cells slots (lw_Z below #[Value.ref b] s) (F0 m 23 ls [])) (i : Int32) (wC : va_W) (tC : List (ClassId × FieldType)) (fed : Int32) (wM : va_W) (tM : List (ClassId × FieldType)) (ta : Int32) (zt zv : Nat) (gt : Nat → Int32) (gO : Option (sp_S × sp_F)) (gb : Int) (H : Heap) (locs : List Loc) (ls : Array Slot) (cells slots : Nat) (hm9 : (4105 - i.toInt).toNat ≤ n9 + 1) (hi0 : 0 ≤ i.toInt) (hi1 : i.toInt ≤ 4104) (hIC : zIC x wC tC fed ou gt gO gb) (hIM : zIM y wM tM ta zt zv gt gO) (hft : fed.toInt = ta.toInt) (hP : va_P (dC, dI) vwCl (wC ++ wM) H) (hD : va_D A (wC ++ wM)) (hK : va_K (dC, dI) vwCl (tC ++ tM) s) (hS : va_S A s.heap H locs) (hl : lv_has ls 7 [(0, .ref b), (1, .ref x), (2, .ref y), (3, .ref ou), (4, .int i)]) (hce : (cells : Int) ≤ 200 + i.toInt + zG zt + zG zv) (hsl : (slots : Int) ≤ 260000 + 3 * i.toInt + 4 * zt + 2 * zv) (hgb : gb ≤ 250 * i.toInt) (hil : i.toInt + 8 ≤ (L : Int)) : W p l e room_1 s m #[Value.ref b] below meth c H locs cells slots (lw_Z below #[Value.ref b] s) (F0 m 198 ls []) := by
  have hsz9 := zIM_sz hIM
  have hg1 := zG_le (z := zt)
  have hg2 := zG_le (z := zv)
  have hm : (4105 - i.toInt).toNat ≤ n9 + 1 := hm9
  refine lv_aload_n hx hb dL_law_198 rfl (lv_at hl 1 rfl) ?_
  have hPc := fr_Pl hP
  have hDc := fr_Dl hD
  have hKc := fr_Kl hK
  have hFc := fr_Fl hD hS hAA
  obtain ⟨fs_1, hfs_1⟩ := zIC_hd hIC
  refine vw_calli (vw_runV (As := []) (rest := []) ⟨hx, hb, hml, hown, hA⟩ (w_X11_fault l dC dI aK aV x wC tC fed ou gt gO gb  H.size hlt hIC) (cwV 0 hA (zw_V wi_1066 wi_1067 wi_1068 wi_130 (zw_good wi_1069)) rfl rfl rfl (by decide +kernel) ⟨(Nat.le_of_ble_eq_true rfl), (Nat.le_of_ble_eq_true rfl)⟩) ⟨zP_blind, va_recv hKc hPc (ci := 11) (q0 := 0) rfl hfs_1, zz_pre hKc hPc hDc hN hT hS hFc⟩ rfl rfl hl.1 rfl (lv_room (Nat.le_of_ble_eq_true rfl)) dL_law_199 ⟨by show cells + 0 ≤ 601024; omega, by show slots + 0 ≤ 7293034; omega⟩) hS (fun q _ h => hFc q h) hFc (fun q _ h => hFc q h) (fun kc9 kn9 E9 ce9 u t H1 locs ht hvm hw hB hz1 hk1 hS hcell hcv hcl => absurd hw id) (fun kc_3 kn_4 r_2 u t H1 locs ht hvm hw hB hz1 hk1 hS => ?_)
  obtain ⟨w_5, t_6, z_7, z_8, z_9, z_10, z_11⟩ := u
  try dsimp only at hw hB
  obtain ⟨hI_12, hq_13, hq_14, hq_15, hq_16, hq_17, hq_18⟩ := hw
  rw [hq_15, hq_16, hq_17, hq_18] at hI_12
  skip
  have hq_14a := hq_14.1
  have hq_14b := hq_14.2
  rw [hq_13] at hI_12
  obtain ⟨hP1, hK1, hD1⟩ := hB
  rw [ht] at hP1
  have hK1 := va_K.moved hvm.symm hK1
  obtain ⟨hP, hD⟩ := fr_apart hP hD hk1 hFc hP1 hD1
  have hK := (fr_Kr hK).app hK1
  clear hPc hDc hKc hFc hP1 hD1 hK1 hk1 hz1 ht hvm
  generalize H1 = H at hP hS ⊢
  refine lv_pop hx hb dL_law_202 rfl ?_
  refine lv_aload_n hx hb dL_law_203 rfl (lv_at hl 2 rfl) ?_
  have hPc := fr_Pl hP
  have hDc := fr_Dl hD
  have hKc := fr_Kl hK
  have hFc := fr_Fl hD hS hAA
  obtain ⟨fs_20, hfs_20⟩ := zIM_hd hIM
  refine vw_calli (vw_runV (As := []) (rest := []) ⟨hx, hb, hml, hown, hA⟩ (w_X14_fault l dC dI aK aV y wM tM ta zt zv gt gO  H.size hlt hIM) (cwV 0 hA (zw_V wi_1861 wi_1862 wi_1863 wi_143 (zw_good wi_1864)) rfl rfl rfl (by decide +kernel) ⟨(Nat.le_of_ble_eq_true rfl), (Nat.le_of_ble_eq_true rfl)⟩) ⟨zP_blind, va_recv hKc hPc (ci := 14) (q0 := 0) rfl hfs_20, zz_pre hKc hPc hDc hN hT hS hFc⟩ rfl rfl hl.1 rfl (lv_room (Nat.le_of_ble_eq_true rfl)) dL_law_204 ⟨by show (cells + kc_3) + 0 ≤ 601024; omega, by show (slots + kn_4) + 0 ≤ 7293034; omega⟩) hS (fun q _ h => hFc q h) hFc (fun q _ h => hFc q h) (fun kc9 kn9 E9 ce9 u t H1 locs ht hvm hw hB hz1 hk1 hS hcell hcv hcl => absurd hw id) (fun kc_22 kn_23 r_21 u t H1 locs ht hvm hw hB hz1 hk1 hS => ?_)
  obtain ⟨w_24, t_25, z_26, z_27, z_28, z_29, z_30⟩ := u
  try dsimp only at hw hB
  obtain ⟨hI_31, hq_32, hq_33, hq_34, hq_35, hq_36, hq_37⟩ := hw
  rw [hq_33, hq_34, hq_36, hq_37] at hI_31
  skip
  have hq_35a := hq_35.1
  have hq_35b := hq_35.2
  rw [hq_32] at hI_31
  obtain ⟨hP1, hK1, hD1⟩ := hB
  rw [ht] at hP1
  have hK1 := va_K.moved hvm.symm hK1
  obtain ⟨hP, hD⟩ := fr_apart hP hD hk1 hFc hP1 hD1
  have hK := (fr_Kr hK).app hK1
  clear hPc hDc hKc hFc hP1 hD1 hK1 hk1 hz1 ht hvm
  generalize H1 = H at hP hS ⊢
  refine lv_pop hx hb dL_law_207 rfl ?_
  refine lv_goto (tgt := 556) hx hb dL_law_208 (by decide) ?_
  obtain ⟨x_39, ex_39⟩ : ∃ y : Int32, y = i + Int32.ofInt 8 := ⟨_, rfl⟩
  refine lv_iinc (v := x_39) (lv' := [(4, .int x_39), (0, .ref b), (1, .ref x), (2, .ref y), (3, .ref ou)]) hx hb dL_law_556 hl (k := 4) rfl (by rw [ex_39]) (by decide) rfl (fun ls hl => ?_)
  have ix_39 : x_39.toInt = i.toInt + 8 := by rw [ex_39]; exact law_ad (by decide) (by decide) (by decide) hi0 hi1
  refine lv_goto (tgt := 23) hx hb dL_law_559 (by decide) ?_
  have hsz9 := zIM_sz hI_31
  exact ih x_39 w_5 t_6 fed w_24 t_25 ta zt zv gt gO gb _ _ _ _ _ (by omega) (by omega) (by omega) hI_12 hI_31 (by omega) hP hD hK hS (lv_sub hl [1, 2, 3, 4, 0] rfl) (by omega) (by omega) (law_gb hgb ix_39 (Int.le_add_of_nonneg_right (by decide)))
set_option maxHeartbeats 40000000 in
set_option maxRecDepth 100000 in
theorem law_c3 {p : Program} {e : Env} {s : State} {m : MethodId} {below : List Frame} {meth : Method} {c : Code} (l : Launch) (hlt : l.stackTraces = false) {b L : Nat} {xs : Nat → Int32} (hL : L ≤ 4096) (hx : p.tables.exec = Jvm.exec) (hb : c.code = code) (hr : meth.sig.returnType = ret) (hml : c.maxLocals = 7) (hown : s.vm.findClass RL = some m.cls) (hA : ∀ w ∈ zw, w.before #[Value.ref b] s = true) (hX : va_X b L xs s s.heap) (hbl : b < s.heap.size) (hlocks : meth.locks = false) {A : Nat → Prop} (hAd : A = (fun q : Nat => s.heap.size ≤ q)) (hAA : ∀ q : Nat, s.heap.size ≤ q → A q) (hbA : ¬ A b) {dC : Nat → ClassId} {dI : Nat → Nat → Nat} {aK aV : Nat → Nat} (hN : zN s) (hT : zT aK aV A s s.heap) (x y ou : Nat) (n9 : Nat) (ih : ∀ (i : Int32) (wC : va_W) (tC : List (ClassId × FieldType)) (fed : Int32) (wM : va_W) (tM : List (ClassId × FieldType)) (ta : Int32) (zt zv : Nat) (gt : Nat → Int32) (gO : Option (sp_S × sp_F)) (gb : Int) (H : Heap) (locs : List Loc) (ls : Array Slot) (cells slots : Nat), (4105 - i.toInt).toNat ≤ n9 → 0 ≤ i.toInt → i.toInt ≤ 4104 → zIC x wC tC fed ou gt gO gb → zIM y wM tM ta zt zv gt gO → fed.toInt = ta.toInt → va_P (dC, dI) vwCl (wC ++ wM) H → va_D A (wC ++ wM) → va_K (dC, dI) vwCl (tC ++ tM) s → va_S A s.heap H locs → lv_has ls 7 [(0, .ref b), (1, .ref x), (2, .ref y), (3, .ref ou), (4, .int i)] → (cells : Int) ≤ 200 + i.toInt + zG zt + zG zv → (slots : Int) ≤ 260000 + 3 * i.toInt + 4 * zt + 2 * zv → gb ≤ 250 * i.toInt → W p l e room_1 s m #[Value.ref b] below meth c H locs cells slots (lw_Z below #[Value.ref b] s) (F0 m 23 ls [])) (i : Int32) (wC : va_W) (tC : List (ClassId × FieldType)) (fed : Int32) (wM : va_W) (tM : List (ClassId × FieldType)) (ta : Int32) (zt zv : Nat) (gt : Nat → Int32) (gO : Option (sp_S × sp_F)) (gb : Int) (H : Heap) (locs : List Loc) (ls : Array Slot) (cells slots : Nat) (hm9 : (4105 - i.toInt).toNat ≤ n9 + 1) (hi0 : 0 ≤ i.toInt) (hi1 : i.toInt ≤ 4104) (hIC : zIC x wC tC fed ou gt gO gb) (hIM : zIM y wM tM ta zt zv gt gO) (hft : fed.toInt = ta.toInt) (hP : va_P (dC, dI) vwCl (wC ++ wM) H) (hD : va_D A (wC ++ wM)) (hK : va_K (dC, dI) vwCl (tC ++ tM) s) (hS : va_S A s.heap H locs) (hl : lv_has ls 7 [(0, .ref b), (1, .ref x), (2, .ref y), (3, .ref ou), (4, .int i)]) (hce : (cells : Int) ≤ 200 + i.toInt + zG zt + zG zv) (hsl : (slots : Int) ≤ 260000 + 3 * i.toInt + 4 * zt + 2 * zv) (hgb : gb ≤ 250 * i.toInt) (hil : i.toInt + 8 ≤ (L : Int)) : W p l e room_1 s m #[Value.ref b] below meth c H locs cells slots (lw_Z below #[Value.ref b] s) (F0 m 211 ls []) := by
  have hsz9 := zIM_sz hIM
  have hg1 := zG_le (z := zt)
  have hg2 := zG_le (z := zv)
  have hm : (4105 - i.toInt).toNat ≤ n9 + 1 := hm9
  refine lv_aload_n hx hb dL_law_211 rfl (lv_at hl 1 rfl) ?_
  have hPc := fr_Pl hP
  have hDc := fr_Dl hD
  have hKc := fr_Kl hK
  have hFc := fr_Fl hD hS hAA
  obtain ⟨fs_1, hfs_1⟩ := zIC_hd hIC
  refine vw_calli (vw_runV (As := []) (rest := []) ⟨hx, hb, hml, hown, hA⟩ (w_X11_where l dC dI aK aV x wC tC fed ou gt gO gb  H.size hlt hIC) (cwV 0 hA (zw_V wi_1070 wi_1071 wi_1072 wi_130 (zw_good wi_1073)) rfl rfl rfl (by decide +kernel) ⟨(Nat.le_of_ble_eq_true rfl), (Nat.le_of_ble_eq_true rfl)⟩) ⟨zP_blind, va_recv hKc hPc (ci := 11) (q0 := 0) rfl hfs_1, zz_pre hKc hPc hDc hN hT hS hFc⟩ rfl rfl hl.1 rfl (lv_room (Nat.le_of_ble_eq_true rfl)) dL_law_212 ⟨by show cells + 0 ≤ 601024; omega, by show slots + 0 ≤ 7293034; omega⟩) hS (fun q _ h => hFc q h) hFc (fun q _ h => hFc q h) (fun kc9 kn9 E9 ce9 u t H1 locs ht hvm hw hB hz1 hk1 hS hcell hcv hcl => absurd hw id) (fun kc_3 kn_4 r_2 u t H1 locs ht hvm hw hB hz1 hk1 hS => ?_)
  obtain ⟨w_5, t_6, z_7, z_8, z_9, z_10, z_11⟩ := u
  try dsimp only at hw hB
  obtain ⟨hI_12, hq_13, hq_14, hq_15, hq_16, hq_17, hq_18⟩ := hw
  rw [hq_15, hq_16, hq_17, hq_18] at hI_12
  skip
  have hq_14a := hq_14.1
  have hq_14b := hq_14.2
  rw [hq_13] at hI_12
  obtain ⟨hP1, hK1, hD1⟩ := hB
  rw [ht] at hP1
  have hK1 := va_K.moved hvm.symm hK1
  obtain ⟨hP, hD⟩ := fr_apart hP hD hk1 hFc hP1 hD1
  have hK := (fr_Kr hK).app hK1
  clear hPc hDc hKc hFc hP1 hD1 hK1 hk1 hz1 ht hvm
  generalize H1 = H at hP hS ⊢
  refine lv_pop hx hb dL_law_215 rfl ?_
  refine lv_aload_n hx hb dL_law_216 rfl (lv_at hl 2 rfl) ?_
  have hPc := fr_Pl hP
  have hDc := fr_Dl hD
  have hKc := fr_Kl hK
  have hFc := fr_Fl hD hS hAA
  obtain ⟨fs_20, hfs_20⟩ := zIM_hd hIM
  refine vw_calli (vw_runV (As := []) (rest := []) ⟨hx, hb, hml, hown, hA⟩ (w_X14_where l dC dI aK aV y wM tM ta zt zv gt gO  H.size hlt hIM) (cwV 0 hA (zw_V wi_1865 wi_1866 wi_1867 wi_143 (zw_good wi_1868)) rfl rfl rfl (by decide +kernel) ⟨(Nat.le_of_ble_eq_true rfl), (Nat.le_of_ble_eq_true rfl)⟩) ⟨zP_blind, va_recv hKc hPc (ci := 14) (q0 := 0) rfl hfs_20, zz_pre hKc hPc hDc hN hT hS hFc⟩ rfl rfl hl.1 rfl (lv_room (Nat.le_of_ble_eq_true rfl)) dL_law_217 ⟨by show (cells + kc_3) + 0 ≤ 601024; omega, by show (slots + kn_4) + 0 ≤ 7293034; omega⟩) hS (fun q _ h => hFc q h) hFc (fun q _ h => hFc q h) (fun kc9 kn9 E9 ce9 u t H1 locs ht hvm hw hB hz1 hk1 hS hcell hcv hcl => absurd hw id) (fun kc_22 kn_23 r_21 u t H1 locs ht hvm hw hB hz1 hk1 hS => ?_)
  obtain ⟨w_24, t_25, z_26, z_27, z_28, z_29, z_30⟩ := u
  try dsimp only at hw hB
  obtain ⟨hI_31, hq_32, hq_33, hq_34, hq_35, hq_36, hq_37⟩ := hw
  rw [hq_33, hq_34, hq_36, hq_37] at hI_31
  skip
  have hq_35a := hq_35.1
  have hq_35b := hq_35.2
  rw [hq_32] at hI_31
  obtain ⟨hP1, hK1, hD1⟩ := hB
  rw [ht] at hP1
  have hK1 := va_K.moved hvm.symm hK1
  obtain ⟨hP, hD⟩ := fr_apart hP hD hk1 hFc hP1 hD1
  have hK := (fr_Kr hK).app hK1
  clear hPc hDc hKc hFc hP1 hD1 hK1 hk1 hz1 ht hvm
  generalize H1 = H at hP hS ⊢
  refine lv_pop hx hb dL_law_220 rfl ?_
  refine lv_goto (tgt := 556) hx hb dL_law_221 (by decide) ?_
  obtain ⟨x_39, ex_39⟩ : ∃ y : Int32, y = i + Int32.ofInt 8 := ⟨_, rfl⟩
  refine lv_iinc (v := x_39) (lv' := [(4, .int x_39), (0, .ref b), (1, .ref x), (2, .ref y), (3, .ref ou)]) hx hb dL_law_556 hl (k := 4) rfl (by rw [ex_39]) (by decide) rfl (fun ls hl => ?_)
  have ix_39 : x_39.toInt = i.toInt + 8 := by rw [ex_39]; exact law_ad (by decide) (by decide) (by decide) hi0 hi1
  refine lv_goto (tgt := 23) hx hb dL_law_559 (by decide) ?_
  have hsz9 := zIM_sz hI_31
  exact ih x_39 w_5 t_6 fed w_24 t_25 ta zt zv gt gO gb _ _ _ _ _ (by omega) (by omega) (by omega) hI_12 hI_31 (by omega) hP hD hK hS (lv_sub hl [1, 2, 3, 4, 0] rfl) (by omega) (by omega) (law_gb hgb ix_39 (Int.le_add_of_nonneg_right (by decide)))
set_option maxHeartbeats 40000000 in
set_option maxRecDepth 100000 in
theorem law_c4 {p : Program} {e : Env} {s : State} {m : MethodId} {below : List Frame} {meth : Method} {c : Code} (l : Launch) (hlt : l.stackTraces = false) {b L : Nat} {xs : Nat → Int32} (hL : L ≤ 4096) (hx : p.tables.exec = Jvm.exec) (hb : c.code = code) (hr : meth.sig.returnType = ret) (hml : c.maxLocals = 7) (hown : s.vm.findClass RL = some m.cls) (hA : ∀ w ∈ zw, w.before #[Value.ref b] s = true) (hX : va_X b L xs s s.heap) (hbl : b < s.heap.size) (hlocks : meth.locks = false) {A : Nat → Prop} (hAd : A = (fun q : Nat => s.heap.size ≤ q)) (hAA : ∀ q : Nat, s.heap.size ≤ q → A q) (hbA : ¬ A b) {dC : Nat → ClassId} {dI : Nat → Nat → Nat} {aK aV : Nat → Nat} (hN : zN s) (hT : zT aK aV A s s.heap) (x y ou : Nat) (n9 : Nat) (ih : ∀ (i : Int32) (wC : va_W) (tC : List (ClassId × FieldType)) (fed : Int32) (wM : va_W) (tM : List (ClassId × FieldType)) (ta : Int32) (zt zv : Nat) (gt : Nat → Int32) (gO : Option (sp_S × sp_F)) (gb : Int) (H : Heap) (locs : List Loc) (ls : Array Slot) (cells slots : Nat), (4105 - i.toInt).toNat ≤ n9 → 0 ≤ i.toInt → i.toInt ≤ 4104 → zIC x wC tC fed ou gt gO gb → zIM y wM tM ta zt zv gt gO → fed.toInt = ta.toInt → va_P (dC, dI) vwCl (wC ++ wM) H → va_D A (wC ++ wM) → va_K (dC, dI) vwCl (tC ++ tM) s → va_S A s.heap H locs → lv_has ls 7 [(0, .ref b), (1, .ref x), (2, .ref y), (3, .ref ou), (4, .int i)] → (cells : Int) ≤ 200 + i.toInt + zG zt + zG zv → (slots : Int) ≤ 260000 + 3 * i.toInt + 4 * zt + 2 * zv → gb ≤ 250 * i.toInt → W p l e room_1 s m #[Value.ref b] below meth c H locs cells slots (lw_Z below #[Value.ref b] s) (F0 m 23 ls [])) (i : Int32) (wC : va_W) (tC : List (ClassId × FieldType)) (fed : Int32) (wM : va_W) (tM : List (ClassId × FieldType)) (ta : Int32) (zt zv : Nat) (gt : Nat → Int32) (gO : Option (sp_S × sp_F)) (gb : Int) (H : Heap) (locs : List Loc) (ls : Array Slot) (cells slots : Nat) (hm9 : (4105 - i.toInt).toNat ≤ n9 + 1) (hi0 : 0 ≤ i.toInt) (hi1 : i.toInt ≤ 4104) (hIC : zIC x wC tC fed ou gt gO gb) (hIM : zIM y wM tM ta zt zv gt gO) (hft : fed.toInt = ta.toInt) (hP : va_P (dC, dI) vwCl (wC ++ wM) H) (hD : va_D A (wC ++ wM)) (hK : va_K (dC, dI) vwCl (tC ++ tM) s) (hS : va_S A s.heap H locs) (hl : lv_has ls 7 [(0, .ref b), (1, .ref x), (2, .ref y), (3, .ref ou), (4, .int i)]) (hce : (cells : Int) ≤ 200 + i.toInt + zG zt + zG zv) (hsl : (slots : Int) ≤ 260000 + 3 * i.toInt + 4 * zt + 2 * zv) (hgb : gb ≤ 250 * i.toInt) (hil : i.toInt + 8 ≤ (L : Int)) : W p l e room_1 s m #[Value.ref b] below meth c H locs cells slots (lw_Z below #[Value.ref b] s) (F0 m 224 ls []) := by
  have hsz9 := zIM_sz hIM
  have hg1 := zG_le (z := zt)
  have hg2 := zG_le (z := zv)
  have hm : (4105 - i.toInt).toNat ≤ n9 + 1 := hm9
  refine lv_aload_n hx hb dL_law_224 rfl (lv_at hl 1 rfl) ?_
  refine lv_aload_n hx hb dL_law_225 rfl (lv_at hl 0 rfl) ?_
  refine lv_iload hx hb dL_law_226 (lv_at hl 4 rfl) ?_
  refine lv_iconst (v := 1) hx hb dL_law_228 (by decide) ?_
  refine lv_iadd hx hb dL_law_229 ?_
  refine lv_topi (fun x_1 ex_1 => ?_)
  have ix_1 : x_1.toInt = i.toInt + 1 := by rw [ex_1]; exact law_ad (by decide) (by decide) (by decide) hi0 hi1
  refine va_sld hx hb hX hbl hbA hS (law_ix ix_1 (by decide) (by decide) hi0 hil) dL_law_230 ?_
  refine lv_topi (fun x_2 ex_2 => ?_)
  refine lv_aload_n hx hb dL_law_231 rfl (lv_at hl 0 rfl) ?_
  refine lv_iload hx hb dL_law_232 (lv_at hl 4 rfl) ?_
  refine lv_iconst (v := 2) hx hb dL_law_234 (by decide) ?_
  refine lv_iadd hx hb dL_law_235 ?_
  refine lv_topi (fun x_3 ex_3 => ?_)
  have ix_3 : x_3.toInt = i.toInt + 2 := by rw [ex_3]; exact law_ad (by decide) (by decide) (by decide) hi0 hi1
  refine va_sld hx hb hX hbl hbA hS (law_ix ix_3 (by decide) (by decide) hi0 hil) dL_law_236 ?_
  refine lv_topi (fun x_4 ex_4 => ?_)
  have hPc := fr_Pl hP
  have hDc := fr_Dl hD
  have hKc := fr_Kl hK
  have hFc := fr_Fl hD hS hAA
  obtain ⟨fs_5, hfs_5⟩ := zIC_hd hIC
  refine vw_calli (vw_runV (As := [.int x_2, .int x_4]) (rest := []) ⟨hx, hb, hml, hown, hA⟩ (w_X11_about l dC dI aK aV x wC tC fed ou gt gO gb x_2 x_4 H.size hlt hIC) (cwV 2 hA (zw_V wi_1074 wi_1075 wi_1076 wi_130 (zw_good wi_1077)) rfl rfl rfl (by decide +kernel) ⟨(Nat.le_of_ble_eq_true rfl), (Nat.le_of_ble_eq_true rfl)⟩) ⟨zP_blind, va_recv hKc hPc (ci := 11) (q0 := 0) rfl hfs_5, zz_pre hKc hPc hDc hN hT hS hFc⟩ rfl rfl hl.1 rfl (lv_room (Nat.le_of_ble_eq_true rfl)) dL_law_237 ⟨by show cells + 0 ≤ 601024; omega, by show slots + 0 ≤ 7293034; omega⟩) hS (fun q _ h => hFc q h) hFc (fun q _ h => hFc q h) (fun kc9 kn9 E9 ce9 u t H1 locs ht hvm hw hB hz1 hk1 hS hcell hcv hcl => absurd hw id) (fun kc_7 kn_8 r_6 u t H1 locs ht hvm hw hB hz1 hk1 hS => ?_)
  obtain ⟨w_9, t_10, z_11, z_12, z_13, z_14, z_15⟩ := u
  try dsimp only at hw hB
  obtain ⟨hI_16, hq_17, hq_18, hq_19, hq_20, hq_21, hq_22, hq_23⟩ := hw
  rw [hq_19, hq_20, hq_21, hq_22] at hI_16
  skip
  have hq_18a := hq_18.1
  have hq_18b := hq_18.2
  rw [hq_17] at hI_16
  obtain ⟨hP1, hK1, hD1⟩ := hB
  rw [ht] at hP1
  have hK1 := va_K.moved hvm.symm hK1
  obtain ⟨hP, hD⟩ := fr_apart hP hD hk1 hFc hP1 hD1
  have hK := (fr_Kr hK).app hK1
  clear hPc hDc hKc hFc hP1 hD1 hK1 hk1 hz1 ht hvm
  generalize H1 = H at hP hS ⊢
  refine lv_pop hx hb dL_law_240 rfl ?_
  refine lv_aload_n hx hb dL_law_241 rfl (lv_at hl 2 rfl) ?_
  refine lv_aload_n hx hb dL_law_242 rfl (lv_at hl 0 rfl) ?_
  refine lv_iload hx hb dL_law_243 (lv_at hl 4 rfl) ?_
  refine lv_iconst (v := 1) hx hb dL_law_245 (by decide) ?_
  refine lv_iadd hx hb dL_law_246 ?_
  refine lv_topi (fun x_24 ex_24 => ?_)
  have ix_24 : x_24.toInt = i.toInt + 1 := by rw [ex_24]; exact law_ad (by decide) (by decide) (by decide) hi0 hi1
  refine va_sld hx hb hX hbl hbA hS (law_ix ix_24 (by decide) (by decide) hi0 hil) dL_law_247 ?_
  refine lv_topi (fun x_25 ex_25 => ?_)
  refine lv_aload_n hx hb dL_law_248 rfl (lv_at hl 0 rfl) ?_
  refine lv_iload hx hb dL_law_249 (lv_at hl 4 rfl) ?_
  refine lv_iconst (v := 2) hx hb dL_law_251 (by decide) ?_
  refine lv_iadd hx hb dL_law_252 ?_
  refine lv_topi (fun x_26 ex_26 => ?_)
  have ix_26 : x_26.toInt = i.toInt + 2 := by rw [ex_26]; exact law_ad (by decide) (by decide) (by decide) hi0 hi1
  refine va_sld hx hb hX hbl hbA hS (law_ix ix_26 (by decide) (by decide) hi0 hil) dL_law_253 ?_
  refine lv_topi (fun x_27 ex_27 => ?_)
  have hPc := fr_Pl hP
  have hDc := fr_Dl hD
  have hKc := fr_Kl hK
  have hFc := fr_Fl hD hS hAA
  obtain ⟨fs_28, hfs_28⟩ := zIM_hd hIM
  refine vw_calli (vw_runV (As := [.int x_25, .int x_27]) (rest := []) ⟨hx, hb, hml, hown, hA⟩ (w_X14_about l dC dI aK aV y wM tM ta zt zv gt gO x_25 x_27 H.size hlt hIM) (cwV 2 hA (zw_V wi_1869 wi_1870 wi_1871 wi_143 (zw_good wi_1872)) rfl rfl rfl (by decide +kernel) ⟨(Nat.le_of_ble_eq_true rfl), (Nat.le_of_ble_eq_true rfl)⟩) ⟨zP_blind, va_recv hKc hPc (ci := 14) (q0 := 0) rfl hfs_28, zz_pre hKc hPc hDc hN hT hS hFc⟩ rfl rfl hl.1 rfl (lv_room (Nat.le_of_ble_eq_true rfl)) dL_law_254 ⟨by show (cells + kc_7) + 0 ≤ 601024; omega, by show (slots + kn_8) + 0 ≤ 7293034; omega⟩) hS (fun q _ h => hFc q h) hFc (fun q _ h => hFc q h) (fun kc9 kn9 E9 ce9 u t H1 locs ht hvm hw hB hz1 hk1 hS hcell hcv hcl => absurd hw id) (fun kc_30 kn_31 r_29 u t H1 locs ht hvm hw hB hz1 hk1 hS => ?_)
  obtain ⟨w_32, t_33, z_34, z_35, z_36, z_37, z_38⟩ := u
  try dsimp only at hw hB
  obtain ⟨hI_39, hq_40, hq_41, hq_42, hq_43, hq_44, hq_45, hq_46⟩ := hw
  rw [hq_41, hq_42, hq_44, hq_45] at hI_39
  have hb_47 : x_25 = x_2 := by rw [ex_25, ex_2, ex_24, ex_1]
  have hb_48 : x_27 = x_4 := by rw [ex_27, ex_4, ex_26, ex_3]
  rw [hb_47, hb_48] at hq_46
  have hrr : r_6.toInt = r_29.toInt := congrArg Int32.toInt (hq_23.trans hq_46.symm)
  skip
  have hq_43a := hq_43.1
  have hq_43b := hq_43.2
  rw [hq_40] at hI_39
  obtain ⟨hP1, hK1, hD1⟩ := hB
  rw [ht] at hP1
  have hK1 := va_K.moved hvm.symm hK1
  obtain ⟨hP, hD⟩ := fr_apart hP hD hk1 hFc hP1 hD1
  have hK := (fr_Kr hK).app hK1
  clear hPc hDc hKc hFc hP1 hD1 hK1 hk1 hz1 ht hvm
  generalize H1 = H at hP hS ⊢
  refine lv_pop hx hb dL_law_257 rfl ?_
  refine lv_goto (tgt := 556) hx hb dL_law_258 (by decide) ?_
  obtain ⟨x_49, ex_49⟩ : ∃ y : Int32, y = i + Int32.ofInt 8 := ⟨_, rfl⟩
  refine lv_iinc (v := x_49) (lv' := [(4, .int x_49), (0, .ref b), (1, .ref x), (2, .ref y), (3, .ref ou)]) hx hb dL_law_556 hl (k := 4) rfl (by rw [ex_49]) (by decide) rfl (fun ls hl => ?_)
  have ix_49 : x_49.toInt = i.toInt + 8 := by rw [ex_49]; exact law_ad (by decide) (by decide) (by decide) hi0 hi1
  refine lv_goto (tgt := 23) hx hb dL_law_559 (by decide) ?_
  have hsz9 := zIM_sz hI_39
  exact ih x_49 w_9 t_10 fed w_32 t_33 ta zt zv gt gO gb _ _ _ _ _ (by omega) (by omega) (by omega) hI_16 hI_39 (by omega) hP hD hK hS (lv_sub hl [1, 2, 3, 4, 0] rfl) (by omega) (by omega) (law_gb hgb ix_49 (Int.le_add_of_nonneg_right (by decide)))
set_option maxHeartbeats 40000000 in
set_option maxRecDepth 100000 in
theorem law_c5 {p : Program} {e : Env} {s : State} {m : MethodId} {below : List Frame} {meth : Method} {c : Code} (l : Launch) (hlt : l.stackTraces = false) {b L : Nat} {xs : Nat → Int32} (hL : L ≤ 4096) (hx : p.tables.exec = Jvm.exec) (hb : c.code = code) (hr : meth.sig.returnType = ret) (hml : c.maxLocals = 7) (hown : s.vm.findClass RL = some m.cls) (hA : ∀ w ∈ zw, w.before #[Value.ref b] s = true) (hX : va_X b L xs s s.heap) (hbl : b < s.heap.size) (hlocks : meth.locks = false) {A : Nat → Prop} (hAd : A = (fun q : Nat => s.heap.size ≤ q)) (hAA : ∀ q : Nat, s.heap.size ≤ q → A q) (hbA : ¬ A b) {dC : Nat → ClassId} {dI : Nat → Nat → Nat} {aK aV : Nat → Nat} (hN : zN s) (hT : zT aK aV A s s.heap) (x y ou : Nat) (n9 : Nat) (ih : ∀ (i : Int32) (wC : va_W) (tC : List (ClassId × FieldType)) (fed : Int32) (wM : va_W) (tM : List (ClassId × FieldType)) (ta : Int32) (zt zv : Nat) (gt : Nat → Int32) (gO : Option (sp_S × sp_F)) (gb : Int) (H : Heap) (locs : List Loc) (ls : Array Slot) (cells slots : Nat), (4105 - i.toInt).toNat ≤ n9 → 0 ≤ i.toInt → i.toInt ≤ 4104 → zIC x wC tC fed ou gt gO gb → zIM y wM tM ta zt zv gt gO → fed.toInt = ta.toInt → va_P (dC, dI) vwCl (wC ++ wM) H → va_D A (wC ++ wM) → va_K (dC, dI) vwCl (tC ++ tM) s → va_S A s.heap H locs → lv_has ls 7 [(0, .ref b), (1, .ref x), (2, .ref y), (3, .ref ou), (4, .int i)] → (cells : Int) ≤ 200 + i.toInt + zG zt + zG zv → (slots : Int) ≤ 260000 + 3 * i.toInt + 4 * zt + 2 * zv → gb ≤ 250 * i.toInt → W p l e room_1 s m #[Value.ref b] below meth c H locs cells slots (lw_Z below #[Value.ref b] s) (F0 m 23 ls [])) (i : Int32) (wC : va_W) (tC : List (ClassId × FieldType)) (fed : Int32) (wM : va_W) (tM : List (ClassId × FieldType)) (ta : Int32) (zt zv : Nat) (gt : Nat → Int32) (gO : Option (sp_S × sp_F)) (gb : Int) (H : Heap) (locs : List Loc) (ls : Array Slot) (cells slots : Nat) (hm9 : (4105 - i.toInt).toNat ≤ n9 + 1) (hi0 : 0 ≤ i.toInt) (hi1 : i.toInt ≤ 4104) (hIC : zIC x wC tC fed ou gt gO gb) (hIM : zIM y wM tM ta zt zv gt gO) (hft : fed.toInt = ta.toInt) (hP : va_P (dC, dI) vwCl (wC ++ wM) H) (hD : va_D A (wC ++ wM)) (hK : va_K (dC, dI) vwCl (tC ++ tM) s) (hS : va_S A s.heap H locs) (hl : lv_has ls 7 [(0, .ref b), (1, .ref x), (2, .ref y), (3, .ref ou), (4, .int i)]) (hce : (cells : Int) ≤ 200 + i.toInt + zG zt + zG zv) (hsl : (slots : Int) ≤ 260000 + 3 * i.toInt + 4 * zt + 2 * zv) (hgb : gb ≤ 250 * i.toInt) (hil : i.toInt + 8 ≤ (L : Int)) : W p l e room_1 s m #[Value.ref b] below meth c H locs cells slots (lw_Z below #[Value.ref b] s) (F0 m 261 ls []) := by
  have hsz9 := zIM_sz hIM
  have hg1 := zG_le (z := zt)
  have hg2 := zG_le (z := zv)
  have hm : (4105 - i.toInt).toNat ≤ n9 + 1 := hm9
  refine lv_aload_n hx hb dL_law_261 rfl (lv_at hl 1 rfl) ?_
  refine lv_aload_n hx hb dL_law_262 rfl (lv_at hl 0 rfl) ?_
  refine lv_iload hx hb dL_law_263 (lv_at hl 4 rfl) ?_
  refine lv_iconst (v := 1) hx hb dL_law_265 (by decide) ?_
  refine lv_iadd hx hb dL_law_266 ?_
  refine lv_topi (fun x_1 ex_1 => ?_)
  have ix_1 : x_1.toInt = i.toInt + 1 := by rw [ex_1]; exact law_ad (by decide) (by decide) (by decide) hi0 hi1
  refine va_sld hx hb hX hbl hbA hS (law_ix ix_1 (by decide) (by decide) hi0 hil) dL_law_267 ?_
  refine lv_topi (fun x_2 ex_2 => ?_)
  refine lv_aload_n hx hb dL_law_268 rfl (lv_at hl 0 rfl) ?_
  refine lv_iload hx hb dL_law_269 (lv_at hl 4 rfl) ?_
  refine lv_iconst (v := 2) hx hb dL_law_271 (by decide) ?_
  refine lv_iadd hx hb dL_law_272 ?_
  refine lv_topi (fun x_3 ex_3 => ?_)
  have ix_3 : x_3.toInt = i.toInt + 2 := by rw [ex_3]; exact law_ad (by decide) (by decide) (by decide) hi0 hi1
  refine va_sld hx hb hX hbl hbA hS (law_ix ix_3 (by decide) (by decide) hi0 hil) dL_law_273 ?_
  refine lv_topi (fun x_4 ex_4 => ?_)
  refine lv_aload_n hx hb dL_law_274 rfl (lv_at hl 0 rfl) ?_
  refine lv_iload hx hb dL_law_275 (lv_at hl 4 rfl) ?_
  refine lv_iconst (v := 3) hx hb dL_law_277 (by decide) ?_
  refine lv_iadd hx hb dL_law_278 ?_
  refine lv_topi (fun x_5 ex_5 => ?_)
  have ix_5 : x_5.toInt = i.toInt + 3 := by rw [ex_5]; exact law_ad (by decide) (by decide) (by decide) hi0 hi1
  refine va_sld hx hb hX hbl hbA hS (law_ix ix_5 (by decide) (by decide) hi0 hil) dL_law_279 ?_
  refine lv_topi (fun x_6 ex_6 => ?_)
  refine lv_aload_n hx hb dL_law_280 rfl (lv_at hl 0 rfl) ?_
  refine lv_iload hx hb dL_law_281 (lv_at hl 4 rfl) ?_
  refine lv_iconst (v := 4) hx hb dL_law_283 (by decide) ?_
  refine lv_iadd hx hb dL_law_284 ?_
  refine lv_topi (fun x_7 ex_7 => ?_)
  have ix_7 : x_7.toInt = i.toInt + 4 := by rw [ex_7]; exact law_ad (by decide) (by decide) (by decide) hi0 hi1
  refine va_sld hx hb hX hbl hbA hS (law_ix ix_7 (by decide) (by decide) hi0 hil) dL_law_285 ?_
  refine lv_topi (fun x_8 ex_8 => ?_)
  refine lv_aload_n hx hb dL_law_286 rfl (lv_at hl 0 rfl) ?_
  refine lv_iload hx hb dL_law_287 (lv_at hl 4 rfl) ?_
  refine lv_iconst (v := 5) hx hb dL_law_289 (by decide) ?_
  refine lv_iadd hx hb dL_law_290 ?_
  refine lv_topi (fun x_9 ex_9 => ?_)
  have ix_9 : x_9.toInt = i.toInt + 5 := by rw [ex_9]; exact law_ad (by decide) (by decide) (by decide) hi0 hi1
  refine va_sld hx hb hX hbl hbA hS (law_ix ix_9 (by decide) (by decide) hi0 hil) dL_law_291 ?_
  refine lv_topi (fun x_10 ex_10 => ?_)
  refine lv_aload_n hx hb dL_law_292 rfl (lv_at hl 0 rfl) ?_
  refine lv_iload hx hb dL_law_293 (lv_at hl 4 rfl) ?_
  refine lv_bipush (v := 6) hx hb dL_law_295 (by decide) ?_
  refine lv_iadd hx hb dL_law_297 ?_
  refine lv_topi (fun x_11 ex_11 => ?_)
  have ix_11 : x_11.toInt = i.toInt + 6 := by rw [ex_11]; exact law_ad (by decide) (by decide) (by decide) hi0 hi1
  refine va_sld hx hb hX hbl hbA hS (law_ix ix_11 (by decide) (by decide) hi0 hil) dL_law_298 ?_
  refine lv_topi (fun x_12 ex_12 => ?_)
  refine lv_aload_n hx hb dL_law_299 rfl (lv_at hl 0 rfl) ?_
  refine lv_iload hx hb dL_law_300 (lv_at hl 4 rfl) ?_
  refine lv_bipush (v := 7) hx hb dL_law_302 (by decide) ?_
  refine lv_iadd hx hb dL_law_304 ?_
  refine lv_topi (fun x_13 ex_13 => ?_)
  have ix_13 : x_13.toInt = i.toInt + 7 := by rw [ex_13]; exact law_ad (by decide) (by decide) (by decide) hi0 hi1
  refine va_sld hx hb hX hbl hbA hS (law_ix ix_13 (by decide) (by decide) hi0 hil) dL_law_305 ?_
  refine lv_topi (fun x_14 ex_14 => ?_)
  have hPc := fr_Pl hP
  have hDc := fr_Dl hD
  have hKc := fr_Kl hK
  have hFc := fr_Fl hD hS hAA
  obtain ⟨fs_15, hfs_15⟩ := zIC_hd hIC
  refine vw_calli (vw_runV (As := [.int x_2, .int x_4, .int x_6, .int x_8, .int x_10, .int x_12, .int x_14]) (rest := []) ⟨hx, hb, hml, hown, hA⟩ (w_X11_run l dC dI aK aV x wC tC fed ou gt gO gb x_2 x_4 x_6 x_8 x_10 x_12 x_14 H.size hlt hIC) (cwV 7 hA (zw_V wi_1080 wi_1081 wi_1082 wi_130 (zw_good wi_1083)) rfl rfl rfl (by decide +kernel) ⟨(Nat.le_of_ble_eq_true rfl), (Nat.le_of_ble_eq_true rfl)⟩) ⟨zP_blind, va_recv hKc hPc (ci := 11) (q0 := 0) rfl hfs_15, zz_pre hKc hPc hDc hN hT hS hFc⟩ rfl rfl hl.1 rfl (lv_room (Nat.le_of_ble_eq_true rfl)) dL_law_306 ⟨by show cells + 0 ≤ 601024; omega, by show slots + 0 ≤ 7293034; omega⟩) hS (fun q _ h => hFc q h) hFc (fun q _ h => hFc q h) (fun kc9 kn9 E9 ce9 u t H1 locs ht hvm hw hB hz1 hk1 hS hcell hcv hcl => absurd hw id) (fun kc_17 kn_18 r_16 u t H1 locs ht hvm hw hB hz1 hk1 hS => ?_)
  obtain ⟨w_19, t_20, z_21, z_22, z_23, z_24, z_25⟩ := u
  try dsimp only at hw hB
  obtain ⟨hI_26, hq_27, hq_28, hq_29, hq_30, hq_31, hq_32⟩ := hw
  rw [hq_29, hq_30, hq_31, hq_32] at hI_26
  skip
  have hq_28a := hq_28.1
  have hq_28b := hq_28.2
  rw [hq_27] at hI_26
  obtain ⟨hP1, hK1, hD1⟩ := hB
  rw [ht] at hP1
  have hK1 := va_K.moved hvm.symm hK1
  obtain ⟨hP, hD⟩ := fr_apart hP hD hk1 hFc hP1 hD1
  have hK := (fr_Kr hK).app hK1
  clear hPc hDc hKc hFc hP1 hD1 hK1 hk1 hz1 ht hvm
  generalize H1 = H at hP hS ⊢
  refine lv_pop hx hb dL_law_309 rfl ?_
  refine lv_aload_n hx hb dL_law_310 rfl (lv_at hl 2 rfl) ?_
  refine lv_aload_n hx hb dL_law_311 rfl (lv_at hl 0 rfl) ?_
  refine lv_iload hx hb dL_law_312 (lv_at hl 4 rfl) ?_
  refine lv_iconst (v := 1) hx hb dL_law_314 (by decide) ?_
  refine lv_iadd hx hb dL_law_315 ?_
  refine lv_topi (fun x_34 ex_34 => ?_)
  have ix_34 : x_34.toInt = i.toInt + 1 := by rw [ex_34]; exact law_ad (by decide) (by decide) (by decide) hi0 hi1
  refine va_sld hx hb hX hbl hbA hS (law_ix ix_34 (by decide) (by decide) hi0 hil) dL_law_316 ?_
  refine lv_topi (fun x_35 ex_35 => ?_)
  refine lv_aload_n hx hb dL_law_317 rfl (lv_at hl 0 rfl) ?_
  refine lv_iload hx hb dL_law_318 (lv_at hl 4 rfl) ?_
  refine lv_iconst (v := 2) hx hb dL_law_320 (by decide) ?_
  refine lv_iadd hx hb dL_law_321 ?_
  refine lv_topi (fun x_36 ex_36 => ?_)
  have ix_36 : x_36.toInt = i.toInt + 2 := by rw [ex_36]; exact law_ad (by decide) (by decide) (by decide) hi0 hi1
  refine va_sld hx hb hX hbl hbA hS (law_ix ix_36 (by decide) (by decide) hi0 hil) dL_law_322 ?_
  refine lv_topi (fun x_37 ex_37 => ?_)
  refine lv_aload_n hx hb dL_law_323 rfl (lv_at hl 0 rfl) ?_
  refine lv_iload hx hb dL_law_324 (lv_at hl 4 rfl) ?_
  refine lv_iconst (v := 3) hx hb dL_law_326 (by decide) ?_
  refine lv_iadd hx hb dL_law_327 ?_
  refine lv_topi (fun x_38 ex_38 => ?_)
  have ix_38 : x_38.toInt = i.toInt + 3 := by rw [ex_38]; exact law_ad (by decide) (by decide) (by decide) hi0 hi1
  refine va_sld hx hb hX hbl hbA hS (law_ix ix_38 (by decide) (by decide) hi0 hil) dL_law_328 ?_
  refine lv_topi (fun x_39 ex_39 => ?_)
  refine lv_aload_n hx hb dL_law_329 rfl (lv_at hl 0 rfl) ?_
  refine lv_iload hx hb dL_law_330 (lv_at hl 4 rfl) ?_
  refine lv_iconst (v := 4) hx hb dL_law_332 (by decide) ?_
  refine lv_iadd hx hb dL_law_333 ?_
  refine lv_topi (fun x_40 ex_40 => ?_)
  have ix_40 : x_40.toInt = i.toInt + 4 := by rw [ex_40]; exact law_ad (by decide) (by decide) (by decide) hi0 hi1
  refine va_sld hx hb hX hbl hbA hS (law_ix ix_40 (by decide) (by decide) hi0 hil) dL_law_334 ?_
  refine lv_topi (fun x_41 ex_41 => ?_)
  refine lv_aload_n hx hb dL_law_335 rfl (lv_at hl 0 rfl) ?_
  refine lv_iload hx hb dL_law_336 (lv_at hl 4 rfl) ?_
  refine lv_iconst (v := 5) hx hb dL_law_338 (by decide) ?_
  refine lv_iadd hx hb dL_law_339 ?_
  refine lv_topi (fun x_42 ex_42 => ?_)
  have ix_42 : x_42.toInt = i.toInt + 5 := by rw [ex_42]; exact law_ad (by decide) (by decide) (by decide) hi0 hi1
  refine va_sld hx hb hX hbl hbA hS (law_ix ix_42 (by decide) (by decide) hi0 hil) dL_law_340 ?_
  refine lv_topi (fun x_43 ex_43 => ?_)
  refine lv_aload_n hx hb dL_law_341 rfl (lv_at hl 0 rfl) ?_
  refine lv_iload hx hb dL_law_342 (lv_at hl 4 rfl) ?_
  refine lv_bipush (v := 6) hx hb dL_law_344 (by decide) ?_
  refine lv_iadd hx hb dL_law_346 ?_
  refine lv_topi (fun x_44 ex_44 => ?_)
  have ix_44 : x_44.toInt = i.toInt + 6 := by rw [ex_44]; exact law_ad (by decide) (by decide) (by decide) hi0 hi1
  refine va_sld hx hb hX hbl hbA hS (law_ix ix_44 (by decide) (by decide) hi0 hil) dL_law_347 ?_
  refine lv_topi (fun x_45 ex_45 => ?_)
  refine lv_aload_n hx hb dL_law_348 rfl (lv_at hl 0 rfl) ?_
  refine lv_iload hx hb dL_law_349 (lv_at hl 4 rfl) ?_
  refine lv_bipush (v := 7) hx hb dL_law_351 (by decide) ?_
  refine lv_iadd hx hb dL_law_353 ?_
  refine lv_topi (fun x_46 ex_46 => ?_)
  have ix_46 : x_46.toInt = i.toInt + 7 := by rw [ex_46]; exact law_ad (by decide) (by decide) (by decide) hi0 hi1
  refine va_sld hx hb hX hbl hbA hS (law_ix ix_46 (by decide) (by decide) hi0 hil) dL_law_354 ?_
  refine lv_topi (fun x_47 ex_47 => ?_)
  have hPc := fr_Pl hP
  have hDc := fr_Dl hD
  have hKc := fr_Kl hK
  have hFc := fr_Fl hD hS hAA
  obtain ⟨fs_48, hfs_48⟩ := zIM_hd hIM
  refine vw_calli (vw_runV (As := [.int x_35, .int x_37, .int x_39, .int x_41, .int x_43, .int x_45, .int x_47]) (rest := []) ⟨hx, hb, hml, hown, hA⟩ (w_X14_run l dC dI aK aV y wM tM ta zt zv gt gO x_35 x_37 x_39 x_41 x_43 x_45 x_47 H.size hlt hIM) (cwV 7 hA (zw_V wi_1881 wi_1882 wi_1883 wi_143 (zw_good wi_1884)) rfl rfl rfl (by decide +kernel) ⟨(Nat.le_of_ble_eq_true rfl), (Nat.le_of_ble_eq_true rfl)⟩) ⟨zP_blind, va_recv hKc hPc (ci := 14) (q0 := 0) rfl hfs_48, zz_pre hKc hPc hDc hN hT hS hFc⟩ rfl rfl hl.1 rfl (lv_room (Nat.le_of_ble_eq_true rfl)) dL_law_355 ⟨law_rc hce hq_28a hi1 hsz9 (by decide), law_rs hsl hq_28b hi1 hsz9 (by decide)⟩) hS (fun q _ h => hFc q h) hFc (fun q _ h => hFc q h) (fun kc9 kn9 E9 ce9 u t H1 locs ht hvm hw hB hz1 hk1 hS hcell hcv hcl => absurd hw id) (fun kc_50 kn_51 r_49 u t H1 locs ht hvm hw hB hz1 hk1 hS => ?_)
  obtain ⟨w_52, t_53, z_54, z_55, z_56, z_57, z_58⟩ := u
  try dsimp only at hw hB
  obtain ⟨hI_59, hq_67, hq_68, hq_69, hq_70, hq_71, hq_72, hq_73, hq_74⟩ := hw
  rw [hq_67, hq_73, hq_74] at hI_59
  have hce2 := law_ce hce hq_28a hq_68 (by decide)
  have hsl2 := law_sl hsl hq_28b hq_69 (by decide)
  clear hq_68 hq_69 hq_70 hq_71 hq_72 hce hsl
  obtain ⟨hP1, hK1, hD1⟩ := hB
  rw [ht] at hP1
  have hK1 := va_K.moved hvm.symm hK1
  obtain ⟨hP, hD⟩ := fr_apart hP hD hk1 hFc hP1 hD1
  have hK := (fr_Kr hK).app hK1
  clear hPc hDc hKc hFc hP1 hD1 hK1 hk1 hz1 ht hvm
  generalize H1 = H at hP hS ⊢
  refine lv_pop hx hb dL_law_358 rfl ?_
  refine lv_goto (tgt := 556) hx hb dL_law_359 (by decide) ?_
  obtain ⟨x_75, ex_75⟩ : ∃ y : Int32, y = i + Int32.ofInt 8 := ⟨_, rfl⟩
  refine lv_iinc (v := x_75) (lv' := [(4, .int x_75), (0, .ref b), (1, .ref x), (2, .ref y), (3, .ref ou)]) hx hb dL_law_556 hl (k := 4) rfl (by rw [ex_75]) (by decide) rfl (fun ls hl => ?_)
  have ix_75 : x_75.toInt = i.toInt + 8 := by rw [ex_75]; exact law_ad (by decide) (by decide) (by decide) hi0 hi1
  refine lv_goto (tgt := 23) hx hb dL_law_559 (by decide) ?_
  have hsz9 := zIM_sz hI_59
  have hmm := law_hm hm ix_75 hi0 hil hL
  exact ih x_75 w_19 t_20 fed w_52 t_53 ta z_55 z_56 gt gO gb _ _ _ _ _ hmm.1 hmm.2.1 hmm.2.2 hI_26 hI_59 hft hP hD hK hS (lv_sub hl [1, 2, 3, 4, 0] rfl) (by rw [ix_75]; exact hce2) (by rw [ix_75]; exact hsl2) (law_gb hgb ix_75 (Int.le_add_of_nonneg_right (by decide)))
set_option maxHeartbeats 40000000 in
set_option maxRecDepth 100000 in
theorem law_c6 {p : Program} {e : Env} {s : State} {m : MethodId} {below : List Frame} {meth : Method} {c : Code} (l : Launch) (hlt : l.stackTraces = false) {b L : Nat} {xs : Nat → Int32} (hL : L ≤ 4096) (hx : p.tables.exec = Jvm.exec) (hb : c.code = code) (hr : meth.sig.returnType = ret) (hml : c.maxLocals = 7) (hown : s.vm.findClass RL = some m.cls) (hA : ∀ w ∈ zw, w.before #[Value.ref b] s = true) (hX : va_X b L xs s s.heap) (hbl : b < s.heap.size) (hlocks : meth.locks = false) {A : Nat → Prop} (hAd : A = (fun q : Nat => s.heap.size ≤ q)) (hAA : ∀ q : Nat, s.heap.size ≤ q → A q) (hbA : ¬ A b) {dC : Nat → ClassId} {dI : Nat → Nat → Nat} {aK aV : Nat → Nat} (hN : zN s) (hT : zT aK aV A s s.heap) (x y ou : Nat) (n9 : Nat) (ih : ∀ (i : Int32) (wC : va_W) (tC : List (ClassId × FieldType)) (fed : Int32) (wM : va_W) (tM : List (ClassId × FieldType)) (ta : Int32) (zt zv : Nat) (gt : Nat → Int32) (gO : Option (sp_S × sp_F)) (gb : Int) (H : Heap) (locs : List Loc) (ls : Array Slot) (cells slots : Nat), (4105 - i.toInt).toNat ≤ n9 → 0 ≤ i.toInt → i.toInt ≤ 4104 → zIC x wC tC fed ou gt gO gb → zIM y wM tM ta zt zv gt gO → fed.toInt = ta.toInt → va_P (dC, dI) vwCl (wC ++ wM) H → va_D A (wC ++ wM) → va_K (dC, dI) vwCl (tC ++ tM) s → va_S A s.heap H locs → lv_has ls 7 [(0, .ref b), (1, .ref x), (2, .ref y), (3, .ref ou), (4, .int i)] → (cells : Int) ≤ 200 + i.toInt + zG zt + zG zv → (slots : Int) ≤ 260000 + 3 * i.toInt + 4 * zt + 2 * zv → gb ≤ 250 * i.toInt → W p l e room_1 s m #[Value.ref b] below meth c H locs cells slots (lw_Z below #[Value.ref b] s) (F0 m 23 ls [])) (i : Int32) (wC : va_W) (tC : List (ClassId × FieldType)) (fed : Int32) (wM : va_W) (tM : List (ClassId × FieldType)) (ta : Int32) (zt zv : Nat) (gt : Nat → Int32) (gO : Option (sp_S × sp_F)) (gb : Int) (H : Heap) (locs : List Loc) (ls : Array Slot) (cells slots : Nat) (hm9 : (4105 - i.toInt).toNat ≤ n9 + 1) (hi0 : 0 ≤ i.toInt) (hi1 : i.toInt ≤ 4104) (hIC : zIC x wC tC fed ou gt gO gb) (hIM : zIM y wM tM ta zt zv gt gO) (hft : fed.toInt = ta.toInt) (hP : va_P (dC, dI) vwCl (wC ++ wM) H) (hD : va_D A (wC ++ wM)) (hK : va_K (dC, dI) vwCl (tC ++ tM) s) (hS : va_S A s.heap H locs) (hl : lv_has ls 7 [(0, .ref b), (1, .ref x), (2, .ref y), (3, .ref ou), (4, .int i)]) (hce : (cells : Int) ≤ 200 + i.toInt + zG zt + zG zv) (hsl : (slots : Int) ≤ 260000 + 3 * i.toInt + 4 * zt + 2 * zv) (hgb : gb ≤ 250 * i.toInt) (hil : i.toInt + 8 ≤ (L : Int)) : W p l e room_1 s m #[Value.ref b] below meth c H locs cells slots (lw_Z below #[Value.ref b] s) (F0 m 362 ls []) := by
  have hsz9 := zIM_sz hIM
  have hg1 := zG_le (z := zt)
  have hg2 := zG_le (z := zv)
  have hm : (4105 - i.toInt).toNat ≤ n9 + 1 := hm9
  refine lv_aload_n hx hb dL_law_362 rfl (lv_at hl 1 rfl) ?_
  refine lv_aload_n hx hb dL_law_363 rfl (lv_at hl 0 rfl) ?_
  refine lv_iload hx hb dL_law_364 (lv_at hl 4 rfl) ?_
  refine lv_iconst (v := 1) hx hb dL_law_366 (by decide) ?_
  refine lv_iadd hx hb dL_law_367 ?_
  refine lv_topi (fun x_1 ex_1 => ?_)
  have ix_1 : x_1.toInt = i.toInt + 1 := by rw [ex_1]; exact law_ad (by decide) (by decide) (by decide) hi0 hi1
  refine va_sld hx hb hX hbl hbA hS (law_ix ix_1 (by decide) (by decide) hi0 hil) dL_law_368 ?_
  refine lv_topi (fun x_2 ex_2 => ?_)
  refine lv_aload_n hx hb dL_law_369 rfl (lv_at hl 0 rfl) ?_
  refine lv_iload hx hb dL_law_370 (lv_at hl 4 rfl) ?_
  refine lv_iconst (v := 2) hx hb dL_law_372 (by decide) ?_
  refine lv_iadd hx hb dL_law_373 ?_
  refine lv_topi (fun x_3 ex_3 => ?_)
  have ix_3 : x_3.toInt = i.toInt + 2 := by rw [ex_3]; exact law_ad (by decide) (by decide) (by decide) hi0 hi1
  refine va_sld hx hb hX hbl hbA hS (law_ix ix_3 (by decide) (by decide) hi0 hil) dL_law_374 ?_
  refine lv_topi (fun x_4 ex_4 => ?_)
  refine lv_aload_n hx hb dL_law_375 rfl (lv_at hl 0 rfl) ?_
  refine lv_iload hx hb dL_law_376 (lv_at hl 4 rfl) ?_
  refine lv_iconst (v := 3) hx hb dL_law_378 (by decide) ?_
  refine lv_iadd hx hb dL_law_379 ?_
  refine lv_topi (fun x_5 ex_5 => ?_)
  have ix_5 : x_5.toInt = i.toInt + 3 := by rw [ex_5]; exact law_ad (by decide) (by decide) (by decide) hi0 hi1
  refine va_sld hx hb hX hbl hbA hS (law_ix ix_5 (by decide) (by decide) hi0 hil) dL_law_380 ?_
  refine lv_topi (fun x_6 ex_6 => ?_)
  refine lv_aload_n hx hb dL_law_381 rfl (lv_at hl 0 rfl) ?_
  refine lv_iload hx hb dL_law_382 (lv_at hl 4 rfl) ?_
  refine lv_iconst (v := 4) hx hb dL_law_384 (by decide) ?_
  refine lv_iadd hx hb dL_law_385 ?_
  refine lv_topi (fun x_7 ex_7 => ?_)
  have ix_7 : x_7.toInt = i.toInt + 4 := by rw [ex_7]; exact law_ad (by decide) (by decide) (by decide) hi0 hi1
  refine va_sld hx hb hX hbl hbA hS (law_ix ix_7 (by decide) (by decide) hi0 hil) dL_law_386 ?_
  refine lv_topi (fun x_8 ex_8 => ?_)
  refine lv_aload_n hx hb dL_law_387 rfl (lv_at hl 0 rfl) ?_
  refine lv_iload hx hb dL_law_388 (lv_at hl 4 rfl) ?_
  refine lv_iconst (v := 5) hx hb dL_law_390 (by decide) ?_
  refine lv_iadd hx hb dL_law_391 ?_
  refine lv_topi (fun x_9 ex_9 => ?_)
  have ix_9 : x_9.toInt = i.toInt + 5 := by rw [ex_9]; exact law_ad (by decide) (by decide) (by decide) hi0 hi1
  refine va_sld hx hb hX hbl hbA hS (law_ix ix_9 (by decide) (by decide) hi0 hil) dL_law_392 ?_
  refine lv_topi (fun x_10 ex_10 => ?_)
  refine lv_aload_n hx hb dL_law_393 rfl (lv_at hl 0 rfl) ?_
  refine lv_iload hx hb dL_law_394 (lv_at hl 4 rfl) ?_
  refine lv_bipush (v := 6) hx hb dL_law_396 (by decide) ?_
  refine lv_iadd hx hb dL_law_398 ?_
  refine lv_topi (fun x_11 ex_11 => ?_)
  have ix_11 : x_11.toInt = i.toInt + 6 := by rw [ex_11]; exact law_ad (by decide) (by decide) (by decide) hi0 hi1
  refine va_sld hx hb hX hbl hbA hS (law_ix ix_11 (by decide) (by decide) hi0 hil) dL_law_399 ?_
  refine lv_topi (fun x_12 ex_12 => ?_)
  have hPc := fr_Pl hP
  have hDc := fr_Dl hD
  have hKc := fr_Kl hK
  have hFc := fr_Fl hD hS hAA
  obtain ⟨fs_13, hfs_13⟩ := zIC_hd hIC
  refine vw_calli (vw_runV (As := [.int x_2, .int x_4, .int x_6, .int x_8, .int x_10, .int x_12]) (rest := []) ⟨hx, hb, hml, hown, hA⟩ (w_X11_plain l dC dI aK aV x wC tC fed ou gt gO gb x_2 x_4 x_6 x_8 x_10 x_12 H.size hlt hIC) (cwV 6 hA (zw_V wi_1287 wi_1288 wi_1289 wi_130 (zw_good wi_1290)) rfl rfl rfl (by decide +kernel) ⟨(Nat.le_of_ble_eq_true rfl), (Nat.le_of_ble_eq_true rfl)⟩) ⟨zP_blind, va_recv hKc hPc (ci := 11) (q0 := 0) rfl hfs_13, zz_pre hKc hPc hDc hN hT hS hFc⟩ rfl rfl hl.1 rfl (lv_room (Nat.le_of_ble_eq_true rfl)) dL_law_400 ⟨by show cells + 0 ≤ 601024; omega, by show slots + 0 ≤ 7293034; omega⟩) hS (fun q _ h => hFc q h) hFc (fun q _ h => hFc q h) (fun kc9 kn9 E9 ce9 u t H1 locs ht hvm hw hB hz1 hk1 hS hcell hcv hcl => absurd hw id) (fun kc_15 kn_16 r_14 u t H1 locs ht hvm hw hB hz1 hk1 hS => ?_)
  obtain ⟨w_17, t_18, z_19, z_20, z_21, z_22, z_23⟩ := u
  try dsimp only at hw hB
  obtain ⟨hI_24, hq_25, hq_26, hq_27, hq_28, hq_29, hq_30, hq_31⟩ := hw
  rw [hq_27, hq_28, hq_29, hq_30] at hI_24
  skip
  have hq_26a := hq_26.1
  have hq_26b := hq_26.2
  rw [hq_25] at hI_24
  obtain ⟨hP1, hK1, hD1⟩ := hB
  rw [ht] at hP1
  have hK1 := va_K.moved hvm.symm hK1
  obtain ⟨hP, hD⟩ := fr_apart hP hD hk1 hFc hP1 hD1
  have hK := (fr_Kr hK).app hK1
  clear hPc hDc hKc hFc hP1 hD1 hK1 hk1 hz1 ht hvm
  generalize H1 = H at hP hS ⊢
  refine lv_aload_n hx hb dL_law_403 rfl (lv_at hl 2 rfl) ?_
  refine lv_aload_n hx hb dL_law_404 rfl (lv_at hl 0 rfl) ?_
  refine lv_iload hx hb dL_law_405 (lv_at hl 4 rfl) ?_
  refine lv_iconst (v := 1) hx hb dL_law_407 (by decide) ?_
  refine lv_iadd hx hb dL_law_408 ?_
  refine lv_topi (fun x_32 ex_32 => ?_)
  have ix_32 : x_32.toInt = i.toInt + 1 := by rw [ex_32]; exact law_ad (by decide) (by decide) (by decide) hi0 hi1
  refine va_sld hx hb hX hbl hbA hS (law_ix ix_32 (by decide) (by decide) hi0 hil) dL_law_409 ?_
  refine lv_topi (fun x_33 ex_33 => ?_)
  refine lv_aload_n hx hb dL_law_410 rfl (lv_at hl 0 rfl) ?_
  refine lv_iload hx hb dL_law_411 (lv_at hl 4 rfl) ?_
  refine lv_iconst (v := 2) hx hb dL_law_413 (by decide) ?_
  refine lv_iadd hx hb dL_law_414 ?_
  refine lv_topi (fun x_34 ex_34 => ?_)
  have ix_34 : x_34.toInt = i.toInt + 2 := by rw [ex_34]; exact law_ad (by decide) (by decide) (by decide) hi0 hi1
  refine va_sld hx hb hX hbl hbA hS (law_ix ix_34 (by decide) (by decide) hi0 hil) dL_law_415 ?_
  refine lv_topi (fun x_35 ex_35 => ?_)
  refine lv_aload_n hx hb dL_law_416 rfl (lv_at hl 0 rfl) ?_
  refine lv_iload hx hb dL_law_417 (lv_at hl 4 rfl) ?_
  refine lv_iconst (v := 3) hx hb dL_law_419 (by decide) ?_
  refine lv_iadd hx hb dL_law_420 ?_
  refine lv_topi (fun x_36 ex_36 => ?_)
  have ix_36 : x_36.toInt = i.toInt + 3 := by rw [ex_36]; exact law_ad (by decide) (by decide) (by decide) hi0 hi1
  refine va_sld hx hb hX hbl hbA hS (law_ix ix_36 (by decide) (by decide) hi0 hil) dL_law_421 ?_
  refine lv_topi (fun x_37 ex_37 => ?_)
  refine lv_aload_n hx hb dL_law_422 rfl (lv_at hl 0 rfl) ?_
  refine lv_iload hx hb dL_law_423 (lv_at hl 4 rfl) ?_
  refine lv_iconst (v := 4) hx hb dL_law_425 (by decide) ?_
  refine lv_iadd hx hb dL_law_426 ?_
  refine lv_topi (fun x_38 ex_38 => ?_)
  have ix_38 : x_38.toInt = i.toInt + 4 := by rw [ex_38]; exact law_ad (by decide) (by decide) (by decide) hi0 hi1
  refine va_sld hx hb hX hbl hbA hS (law_ix ix_38 (by decide) (by decide) hi0 hil) dL_law_427 ?_
  refine lv_topi (fun x_39 ex_39 => ?_)
  refine lv_aload_n hx hb dL_law_428 rfl (lv_at hl 0 rfl) ?_
  refine lv_iload hx hb dL_law_429 (lv_at hl 4 rfl) ?_
  refine lv_iconst (v := 5) hx hb dL_law_431 (by decide) ?_
  refine lv_iadd hx hb dL_law_432 ?_
  refine lv_topi (fun x_40 ex_40 => ?_)
  have ix_40 : x_40.toInt = i.toInt + 5 := by rw [ex_40]; exact law_ad (by decide) (by decide) (by decide) hi0 hi1
  refine va_sld hx hb hX hbl hbA hS (law_ix ix_40 (by decide) (by decide) hi0 hil) dL_law_433 ?_
  refine lv_topi (fun x_41 ex_41 => ?_)
  refine lv_aload_n hx hb dL_law_434 rfl (lv_at hl 0 rfl) ?_
  refine lv_iload hx hb dL_law_435 (lv_at hl 4 rfl) ?_
  refine lv_bipush (v := 6) hx hb dL_law_437 (by decide) ?_
  refine lv_iadd hx hb dL_law_439 ?_
  refine lv_topi (fun x_42 ex_42 => ?_)
  have ix_42 : x_42.toInt = i.toInt + 6 := by rw [ex_42]; exact law_ad (by decide) (by decide) (by decide) hi0 hi1
  refine va_sld hx hb hX hbl hbA hS (law_ix ix_42 (by decide) (by decide) hi0 hil) dL_law_440 ?_
  refine lv_topi (fun x_43 ex_43 => ?_)
  have hPc := fr_Pl hP
  have hDc := fr_Dl hD
  have hKc := fr_Kl hK
  have hFc := fr_Fl hD hS hAA
  obtain ⟨fs_44, hfs_44⟩ := zIM_hd hIM
  refine vw_calli (vw_runV (As := [.int x_33, .int x_35, .int x_37, .int x_39, .int x_41, .int x_43]) (rest := [.int r_14]) ⟨hx, hb, hml, hown, hA⟩ (w_X14_plain l dC dI aK aV y wM tM ta zt zv gt gO x_33 x_35 x_37 x_39 x_41 x_43 H.size hlt hIM) (cwV 6 hA (zw_V wi_1986 wi_1987 wi_1988 wi_143 (zw_good wi_1989)) rfl rfl rfl (by decide +kernel) ⟨(Nat.le_of_ble_eq_true rfl), (Nat.le_of_ble_eq_true rfl)⟩) ⟨zP_blind, va_recv hKc hPc (ci := 14) (q0 := 0) rfl hfs_44, zz_pre hKc hPc hDc hN hT hS hFc⟩ rfl rfl hl.1 rfl (lv_room (Nat.le_of_ble_eq_true rfl)) dL_law_441 ⟨law_rc hce hq_26a hi1 hsz9 (by decide), law_rs hsl hq_26b hi1 hsz9 (by decide)⟩) hS (fun q _ h => hFc q h) hFc (fun q _ h => hFc q h) (fun kc9 kn9 E9 ce9 u t H1 locs ht hvm hw hB hz1 hk1 hS hcell hcv hcl => absurd hw id) (fun kc_46 kn_47 r_45 u t H1 locs ht hvm hw hB hz1 hk1 hS => ?_)
  obtain ⟨w_48, t_49, z_50, z_51, z_52, z_53, z_54⟩ := u
  try dsimp only at hw hB
  obtain ⟨hI_55, hq_63, hq_64, hq_65, hq_66, hq_67, hq_68, hq_69, hq_70, hq_71⟩ := hw
  rw [hq_63, hq_69, hq_70] at hI_55
  have hce2 := law_ce hce hq_26a hq_64 (by decide)
  have hsl2 := law_sl hsl hq_26b hq_65 (by decide)
  clear hq_64 hq_65 hq_66 hq_67 hq_68 hce hsl
  have hb_72 : x_33 = x_2 := by rw [ex_33, ex_2, ex_32, ex_1]
  have hb_73 : x_35 = x_4 := by rw [ex_35, ex_4, ex_34, ex_3]
  have hb_74 : x_37 = x_6 := by rw [ex_37, ex_6, ex_36, ex_5]
  have hb_75 : x_39 = x_8 := by rw [ex_39, ex_8, ex_38, ex_7]
  have hb_76 : x_41 = x_10 := by rw [ex_41, ex_10, ex_40, ex_9]
  have hb_77 : x_43 = x_12 := by rw [ex_43, ex_12, ex_42, ex_11]
  rw [hb_72, hb_73, hb_74, hb_75, hb_76, hb_77] at hq_71
  have hrr : r_14.toInt = r_45.toInt := congrArg Int32.toInt (plR_1 hq_31 hq_71)
  obtain ⟨hP1, hK1, hD1⟩ := hB
  rw [ht] at hP1
  have hK1 := va_K.moved hvm.symm hK1
  obtain ⟨hP, hD⟩ := fr_apart hP hD hk1 hFc hP1 hD1
  have hK := (fr_Kr hK).app hK1
  clear hPc hDc hKc hFc hP1 hD1 hK1 hk1 hz1 ht hvm
  generalize H1 = H at hP hS ⊢
  refine lv_icmp_eq (tgt := 556) hx hb dL_law_444 (by decide) (fun c_78 => ?_) (fun c_78 => ?_)
  · have ic_78 : r_14.toInt = r_45.toInt := zi_eq c_78
    obtain ⟨x_79, ex_79⟩ : ∃ y : Int32, y = i + Int32.ofInt 8 := ⟨_, rfl⟩
    refine lv_iinc (v := x_79) (lv' := [(4, .int x_79), (0, .ref b), (1, .ref x), (2, .ref y), (3, .ref ou)]) hx hb dL_law_556 hl (k := 4) rfl (by rw [ex_79]) (by decide) rfl (fun ls hl => ?_)
    have ix_79 : x_79.toInt = i.toInt + 8 := by rw [ex_79]; exact law_ad (by decide) (by decide) (by decide) hi0 hi1
    refine lv_goto (tgt := 23) hx hb dL_law_559 (by decide) ?_
    have hsz9 := zIM_sz hI_55
    have hmm := law_hm hm ix_79 hi0 hil hL
    exact ih x_79 w_17 t_18 fed w_48 t_49 ta z_51 z_52 gt gO gb _ _ _ _ _ hmm.1 hmm.2.1 hmm.2.2 hI_24 hI_55 hft hP hD hK hS (lv_sub hl [1, 2, 3, 4, 0] rfl) (by rw [ix_79]; exact hce2) (by rw [ix_79]; exact hsl2) (law_gb hgb ix_79 (Int.le_add_of_nonneg_right (by decide)))
  · have ic_78 : r_14.toInt ≠ r_45.toInt := zi_ne c_78
    exfalso
    omega
set_option maxHeartbeats 40000000 in
set_option maxRecDepth 100000 in
theorem law_c7 {p : Program} {e : Env} {s : State} {m : MethodId} {below : List Frame} {meth : Method} {c : Code} (l : Launch) (hlt : l.stackTraces = false) {b L : Nat} {xs : Nat → Int32} (hL : L ≤ 4096) (hx : p.tables.exec = Jvm.exec) (hb : c.code = code) (hr : meth.sig.returnType = ret) (hml : c.maxLocals = 7) (hown : s.vm.findClass RL = some m.cls) (hA : ∀ w ∈ zw, w.before #[Value.ref b] s = true) (hX : va_X b L xs s s.heap) (hbl : b < s.heap.size) (hlocks : meth.locks = false) {A : Nat → Prop} (hAd : A = (fun q : Nat => s.heap.size ≤ q)) (hAA : ∀ q : Nat, s.heap.size ≤ q → A q) (hbA : ¬ A b) {dC : Nat → ClassId} {dI : Nat → Nat → Nat} {aK aV : Nat → Nat} (hN : zN s) (hT : zT aK aV A s s.heap) (x y ou : Nat) (n9 : Nat) (ih : ∀ (i : Int32) (wC : va_W) (tC : List (ClassId × FieldType)) (fed : Int32) (wM : va_W) (tM : List (ClassId × FieldType)) (ta : Int32) (zt zv : Nat) (gt : Nat → Int32) (gO : Option (sp_S × sp_F)) (gb : Int) (H : Heap) (locs : List Loc) (ls : Array Slot) (cells slots : Nat), (4105 - i.toInt).toNat ≤ n9 → 0 ≤ i.toInt → i.toInt ≤ 4104 → zIC x wC tC fed ou gt gO gb → zIM y wM tM ta zt zv gt gO → fed.toInt = ta.toInt → va_P (dC, dI) vwCl (wC ++ wM) H → va_D A (wC ++ wM) → va_K (dC, dI) vwCl (tC ++ tM) s → va_S A s.heap H locs → lv_has ls 7 [(0, .ref b), (1, .ref x), (2, .ref y), (3, .ref ou), (4, .int i)] → (cells : Int) ≤ 200 + i.toInt + zG zt + zG zv → (slots : Int) ≤ 260000 + 3 * i.toInt + 4 * zt + 2 * zv → gb ≤ 250 * i.toInt → W p l e room_1 s m #[Value.ref b] below meth c H locs cells slots (lw_Z below #[Value.ref b] s) (F0 m 23 ls [])) (i : Int32) (wC : va_W) (tC : List (ClassId × FieldType)) (fed : Int32) (wM : va_W) (tM : List (ClassId × FieldType)) (ta : Int32) (zt zv : Nat) (gt : Nat → Int32) (gO : Option (sp_S × sp_F)) (gb : Int) (H : Heap) (locs : List Loc) (ls : Array Slot) (cells slots : Nat) (hm9 : (4105 - i.toInt).toNat ≤ n9 + 1) (hi0 : 0 ≤ i.toInt) (hi1 : i.toInt ≤ 4104) (hIC : zIC x wC tC fed ou gt gO gb) (hIM : zIM y wM tM ta zt zv gt gO) (hft : fed.toInt = ta.toInt) (hP : va_P (dC, dI) vwCl (wC ++ wM) H) (hD : va_D A (wC ++ wM)) (hK : va_K (dC, dI) vwCl (tC ++ tM) s) (hS : va_S A s.heap H locs) (hl : lv_has ls 7 [(0, .ref b), (1, .ref x), (2, .ref y), (3, .ref ou), (4, .int i)]) (hce : (cells : Int) ≤ 200 + i.toInt + zG zt + zG zv) (hsl : (slots : Int) ≤ 260000 + 3 * i.toInt + 4 * zt + 2 * zv) (hgb : gb ≤ 250 * i.toInt) (hil : i.toInt + 8 ≤ (L : Int)) : W p l e room_1 s m #[Value.ref b] below meth c H locs cells slots (lw_Z below #[Value.ref b] s) (F0 m 449 ls []) := by
  have hsz9 := zIM_sz hIM
  have hg1 := zG_le (z := zt)
  have hg2 := zG_le (z := zv)
  have hm : (4105 - i.toInt).toNat ≤ n9 + 1 := hm9
  refine lv_aload_n hx hb dL_law_449 rfl (lv_at hl 1 rfl) ?_
  refine lv_aload_n hx hb dL_law_450 rfl (lv_at hl 0 rfl) ?_
  refine lv_iload hx hb dL_law_451 (lv_at hl 4 rfl) ?_
  refine lv_iconst (v := 1) hx hb dL_law_453 (by decide) ?_
  refine lv_iadd hx hb dL_law_454 ?_
  refine lv_topi (fun x_1 ex_1 => ?_)
  have ix_1 : x_1.toInt = i.toInt + 1 := by rw [ex_1]; exact law_ad (by decide) (by decide) (by decide) hi0 hi1
  refine va_sld hx hb hX hbl hbA hS (law_ix ix_1 (by decide) (by decide) hi0 hil) dL_law_455 ?_
  refine lv_topi (fun x_2 ex_2 => ?_)
  refine lv_if_eq (tgt := 463) hx hb dL_law_456 (by decide) (fun c_3 => ?_) (fun c_3 => ?_)
  · have ic_3 : x_2.toInt = 0 := zi_eq c_3
    refine lv_iconst (v := 0) hx hb dL_law_463 (by decide) ?_
    have hPc := fr_Pl hP
    have hDc := fr_Dl hD
    have hKc := fr_Kl hK
    have hFc := fr_Fl hD hS hAA
    obtain ⟨fs_4, hfs_4⟩ := zIC_hd hIC
    refine vw_calli (vw_runV (As := [.int 0]) (rest := []) ⟨hx, hb, hml, hown, hA⟩ (w_X11_show l dC dI aK aV x wC tC fed ou gt gO gb 0 H.size hlt hIC) (cwV 1 hA (zw_V wi_1291 wi_1292 wi_1293 wi_130 (zw_good wi_1294)) rfl rfl rfl (by decide +kernel) ⟨(Nat.le_of_ble_eq_true rfl), (Nat.le_of_ble_eq_true rfl)⟩) ⟨zP_blind, va_recv hKc hPc (ci := 11) (q0 := 0) rfl hfs_4, zz_pre hKc hPc hDc hN hT hS hFc⟩ rfl rfl hl.1 rfl (lv_room (Nat.le_of_ble_eq_true rfl)) dL_law_464 ⟨by show cells + 0 ≤ 601024; omega, by show slots + 0 ≤ 7293034; omega⟩) hS (fun q _ h => hFc q h) hFc (fun q _ h => hFc q h) (fun kc9 kn9 E9 ce9 u t H1 locs ht hvm hw hB hz1 hk1 hS hcell hcv hcl => absurd hw id) (fun kc_6 kn_7 r_5 u t H1 locs ht hvm hw hB hz1 hk1 hS => ?_)
    obtain ⟨w_8, t_9, z_10, z_11, z_12, z_13, z_14⟩ := u
    try dsimp only at hw hB
    obtain ⟨hI_15, hq_16, hq_17, hq_18, hq_19, hq_20, hq_21⟩ := hw
    rw [hq_18, hq_19, hq_20, hq_21] at hI_15
    skip
    have hq_17a := hq_17.1
    have hq_17b := hq_17.2
    rw [hq_16] at hI_15
    obtain ⟨hP1, hK1, hD1⟩ := hB
    rw [ht] at hP1
    have hK1 := va_K.moved hvm.symm hK1
    obtain ⟨hP, hD⟩ := fr_apart hP hD hk1 hFc hP1 hD1
    have hK := (fr_Kr hK).app hK1
    clear hPc hDc hKc hFc hP1 hD1 hK1 hk1 hz1 ht hvm
    generalize H1 = H at hP hS ⊢
    refine lv_pop hx hb dL_law_467 rfl ?_
    refine lv_aload_n hx hb dL_law_468 rfl (lv_at hl 2 rfl) ?_
    refine lv_aload_n hx hb dL_law_469 rfl (lv_at hl 0 rfl) ?_
    refine lv_iload hx hb dL_law_470 (lv_at hl 4 rfl) ?_
    refine lv_iconst (v := 1) hx hb dL_law_472 (by decide) ?_
    refine lv_iadd hx hb dL_law_473 ?_
    refine lv_topi (fun x_23 ex_23 => ?_)
    have ix_23 : x_23.toInt = i.toInt + 1 := by rw [ex_23]; exact law_ad (by decide) (by decide) (by decide) hi0 hi1
    refine va_sld hx hb hX hbl hbA hS (law_ix ix_23 (by decide) (by decide) hi0 hil) dL_law_474 ?_
    refine lv_topi (fun x_24 ex_24 => ?_)
    refine lv_if_eq (tgt := 482) hx hb dL_law_475 (by decide) (fun c_25 => ?_) (fun c_25 => ?_)
    · have ic_25 : x_24.toInt = 0 := zi_eq c_25
      refine lv_iconst (v := 0) hx hb dL_law_482 (by decide) ?_
      have hPc := fr_Pl hP
      have hDc := fr_Dl hD
      have hKc := fr_Kl hK
      have hFc := fr_Fl hD hS hAA
      obtain ⟨fs_26, hfs_26⟩ := zIM_hd hIM
      refine vw_calli (vw_runVX (As := [.int 0]) (rest := []) ⟨hx, hb, hml, hown, hA⟩ (w_X14_show l dC dI aK aV y wM tM ta zt zv gt gO 0 H.size hlt hIM) (vx_cwVW 1 hA (zw_V wi_1990 wi_1991 wi_1992 wi_143 (zw_good wi_1993)) rfl rfl rfl (by decide +kernel) ⟨(Nat.le_of_ble_eq_true rfl), (Nat.le_of_ble_eq_true rfl)⟩) ⟨zP_blind, va_recv hKc hPc (ci := 14) (q0 := 0) rfl hfs_26, zz_pre hKc hPc hDc hN hT hS hFc⟩ rfl rfl hl.1 rfl (lv_room (Nat.le_of_ble_eq_true rfl)) dL_law_483 ⟨by show (cells + kc_6) + 0 ≤ 601024; omega, by show (slots + kn_7) + 0 ≤ 7293034; omega⟩) hS (fun q _ h => hFc q h) hFc (fun q _ h => hFc q h) (fun kc9 kn9 E9 ce9 u t H1 locs ht hvm hw hB hz1 hk1 hS hcell hcv hcl => absurd hw id) (fun kc_28 kn_29 r_27 u t H1 locs ht hvm hw hB hz1 hk1 hS => ?_)
      obtain ⟨w_30, t_31, z_32, z_33, z_34, z_35, z_36⟩ := u
      try dsimp only at hw hB
      obtain ⟨hI_37, hq_38, hq_39, hq_40, hq_41, hq_42, hq_43⟩ := hw
      rw [hq_39, hq_40, hq_42, hq_43] at hI_37
      skip
      have hq_41a := hq_41.1
      have hq_41b := hq_41.2
      rw [hq_38] at hI_37
      obtain ⟨hP1, hK1, hD1⟩ := hB
      rw [ht] at hP1
      have hK1 := va_K.moved hvm.symm hK1
      obtain ⟨hP, hD⟩ := fr_apart hP hD hk1 hFc hP1 hD1
      have hK := (fr_Kr hK).app hK1
      clear hPc hDc hKc hFc hP1 hD1 hK1 hk1 hz1 ht hvm
      generalize H1 = H at hP hS ⊢
      refine lv_pop hx hb dL_law_486 rfl ?_
      refine lv_goto (tgt := 556) hx hb dL_law_487 (by decide) ?_
      obtain ⟨x_45, ex_45⟩ : ∃ y : Int32, y = i + Int32.ofInt 8 := ⟨_, rfl⟩
      refine lv_iinc (v := x_45) (lv' := [(4, .int x_45), (0, .ref b), (1, .ref x), (2, .ref y), (3, .ref ou)]) hx hb dL_law_556 hl (k := 4) rfl (by rw [ex_45]) (by decide) rfl (fun ls hl => ?_)
      have ix_45 : x_45.toInt = i.toInt + 8 := by rw [ex_45]; exact law_ad (by decide) (by decide) (by decide) hi0 hi1
      refine lv_goto (tgt := 23) hx hb dL_law_559 (by decide) ?_
      have hsz9 := zIM_sz hI_37
      exact ih x_45 w_8 t_9 fed w_30 t_31 ta zt zv gt gO gb _ _ _ _ _ (by omega) (by omega) (by omega) hI_15 hI_37 (by omega) hP hD hK hS (lv_sub hl [1, 2, 3, 4, 0] rfl) (by omega) (by omega) (law_gb hgb ix_45 (Int.le_add_of_nonneg_right (by decide)))
    · have ic_25 : x_24.toInt ≠ 0 := zi_ne c_25
      refine lv_iconst (v := 1) hx hb dL_law_478 (by decide) ?_
      refine lv_goto (tgt := 483) hx hb dL_law_479 (by decide) ?_
      have hPc := fr_Pl hP
      have hDc := fr_Dl hD
      have hKc := fr_Kl hK
      have hFc := fr_Fl hD hS hAA
      obtain ⟨fs_46, hfs_46⟩ := zIM_hd hIM
      refine vw_calli (vw_runVX (As := [.int 1]) (rest := []) ⟨hx, hb, hml, hown, hA⟩ (w_X14_show l dC dI aK aV y wM tM ta zt zv gt gO 1 H.size hlt hIM) (vx_cwVW 1 hA (zw_V wi_1990 wi_1991 wi_1992 wi_143 (zw_good wi_1993)) rfl rfl rfl (by decide +kernel) ⟨(Nat.le_of_ble_eq_true rfl), (Nat.le_of_ble_eq_true rfl)⟩) ⟨zP_blind, va_recv hKc hPc (ci := 14) (q0 := 0) rfl hfs_46, zz_pre hKc hPc hDc hN hT hS hFc⟩ rfl rfl hl.1 rfl (lv_room (Nat.le_of_ble_eq_true rfl)) dL_law_483 ⟨by show (cells + kc_6) + 0 ≤ 601024; omega, by show (slots + kn_7) + 0 ≤ 7293034; omega⟩) hS (fun q _ h => hFc q h) hFc (fun q _ h => hFc q h) (fun kc9 kn9 E9 ce9 u t H1 locs ht hvm hw hB hz1 hk1 hS hcell hcv hcl => absurd hw id) (fun kc_48 kn_49 r_47 u t H1 locs ht hvm hw hB hz1 hk1 hS => ?_)
      obtain ⟨w_50, t_51, z_52, z_53, z_54, z_55, z_56⟩ := u
      try dsimp only at hw hB
      obtain ⟨hI_57, hq_58, hq_59, hq_60, hq_61, hq_62, hq_63⟩ := hw
      rw [hq_59, hq_60, hq_62, hq_63] at hI_57
      skip
      have hq_61a := hq_61.1
      have hq_61b := hq_61.2
      rw [hq_58] at hI_57
      obtain ⟨hP1, hK1, hD1⟩ := hB
      rw [ht] at hP1
      have hK1 := va_K.moved hvm.symm hK1
      obtain ⟨hP, hD⟩ := fr_apart hP hD hk1 hFc hP1 hD1
      have hK := (fr_Kr hK).app hK1
      clear hPc hDc hKc hFc hP1 hD1 hK1 hk1 hz1 ht hvm
      generalize H1 = H at hP hS ⊢
      refine lv_pop hx hb dL_law_486 rfl ?_
      refine lv_goto (tgt := 556) hx hb dL_law_487 (by decide) ?_
      obtain ⟨x_65, ex_65⟩ : ∃ y : Int32, y = i + Int32.ofInt 8 := ⟨_, rfl⟩
      refine lv_iinc (v := x_65) (lv' := [(4, .int x_65), (0, .ref b), (1, .ref x), (2, .ref y), (3, .ref ou)]) hx hb dL_law_556 hl (k := 4) rfl (by rw [ex_65]) (by decide) rfl (fun ls hl => ?_)
      have ix_65 : x_65.toInt = i.toInt + 8 := by rw [ex_65]; exact law_ad (by decide) (by decide) (by decide) hi0 hi1
      refine lv_goto (tgt := 23) hx hb dL_law_559 (by decide) ?_
      have hsz9 := zIM_sz hI_57
      exact ih x_65 w_8 t_9 fed w_50 t_51 ta zt zv gt gO gb _ _ _ _ _ (by omega) (by omega) (by omega) hI_15 hI_57 (by omega) hP hD hK hS (lv_sub hl [1, 2, 3, 4, 0] rfl) (by omega) (by omega) (law_gb hgb ix_65 (Int.le_add_of_nonneg_right (by decide)))
  · have ic_3 : x_2.toInt ≠ 0 := zi_ne c_3
    refine lv_iconst (v := 1) hx hb dL_law_459 (by decide) ?_
    refine lv_goto (tgt := 464) hx hb dL_law_460 (by decide) ?_
    have hPc := fr_Pl hP
    have hDc := fr_Dl hD
    have hKc := fr_Kl hK
    have hFc := fr_Fl hD hS hAA
    obtain ⟨fs_66, hfs_66⟩ := zIC_hd hIC
    refine vw_calli (vw_runV (As := [.int 1]) (rest := []) ⟨hx, hb, hml, hown, hA⟩ (w_X11_show l dC dI aK aV x wC tC fed ou gt gO gb 1 H.size hlt hIC) (cwV 1 hA (zw_V wi_1291 wi_1292 wi_1293 wi_130 (zw_good wi_1294)) rfl rfl rfl (by decide +kernel) ⟨(Nat.le_of_ble_eq_true rfl), (Nat.le_of_ble_eq_true rfl)⟩) ⟨zP_blind, va_recv hKc hPc (ci := 11) (q0 := 0) rfl hfs_66, zz_pre hKc hPc hDc hN hT hS hFc⟩ rfl rfl hl.1 rfl (lv_room (Nat.le_of_ble_eq_true rfl)) dL_law_464 ⟨by show cells + 0 ≤ 601024; omega, by show slots + 0 ≤ 7293034; omega⟩) hS (fun q _ h => hFc q h) hFc (fun q _ h => hFc q h) (fun kc9 kn9 E9 ce9 u t H1 locs ht hvm hw hB hz1 hk1 hS hcell hcv hcl => absurd hw id) (fun kc_68 kn_69 r_67 u t H1 locs ht hvm hw hB hz1 hk1 hS => ?_)
    obtain ⟨w_70, t_71, z_72, z_73, z_74, z_75, z_76⟩ := u
    try dsimp only at hw hB
    obtain ⟨hI_77, hq_78, hq_79, hq_80, hq_81, hq_82, hq_83⟩ := hw
    rw [hq_80, hq_81, hq_82, hq_83] at hI_77
    skip
    have hq_79a := hq_79.1
    have hq_79b := hq_79.2
    rw [hq_78] at hI_77
    obtain ⟨hP1, hK1, hD1⟩ := hB
    rw [ht] at hP1
    have hK1 := va_K.moved hvm.symm hK1
    obtain ⟨hP, hD⟩ := fr_apart hP hD hk1 hFc hP1 hD1
    have hK := (fr_Kr hK).app hK1
    clear hPc hDc hKc hFc hP1 hD1 hK1 hk1 hz1 ht hvm
    generalize H1 = H at hP hS ⊢
    refine lv_pop hx hb dL_law_467 rfl ?_
    refine lv_aload_n hx hb dL_law_468 rfl (lv_at hl 2 rfl) ?_
    refine lv_aload_n hx hb dL_law_469 rfl (lv_at hl 0 rfl) ?_
    refine lv_iload hx hb dL_law_470 (lv_at hl 4 rfl) ?_
    refine lv_iconst (v := 1) hx hb dL_law_472 (by decide) ?_
    refine lv_iadd hx hb dL_law_473 ?_
    refine lv_topi (fun x_85 ex_85 => ?_)
    have ix_85 : x_85.toInt = i.toInt + 1 := by rw [ex_85]; exact law_ad (by decide) (by decide) (by decide) hi0 hi1
    refine va_sld hx hb hX hbl hbA hS (law_ix ix_85 (by decide) (by decide) hi0 hil) dL_law_474 ?_
    refine lv_topi (fun x_86 ex_86 => ?_)
    refine lv_if_eq (tgt := 482) hx hb dL_law_475 (by decide) (fun c_87 => ?_) (fun c_87 => ?_)
    · have ic_87 : x_86.toInt = 0 := zi_eq c_87
      refine lv_iconst (v := 0) hx hb dL_law_482 (by decide) ?_
      have hPc := fr_Pl hP
      have hDc := fr_Dl hD
      have hKc := fr_Kl hK
      have hFc := fr_Fl hD hS hAA
      obtain ⟨fs_88, hfs_88⟩ := zIM_hd hIM
      refine vw_calli (vw_runVX (As := [.int 0]) (rest := []) ⟨hx, hb, hml, hown, hA⟩ (w_X14_show l dC dI aK aV y wM tM ta zt zv gt gO 0 H.size hlt hIM) (vx_cwVW 1 hA (zw_V wi_1990 wi_1991 wi_1992 wi_143 (zw_good wi_1993)) rfl rfl rfl (by decide +kernel) ⟨(Nat.le_of_ble_eq_true rfl), (Nat.le_of_ble_eq_true rfl)⟩) ⟨zP_blind, va_recv hKc hPc (ci := 14) (q0 := 0) rfl hfs_88, zz_pre hKc hPc hDc hN hT hS hFc⟩ rfl rfl hl.1 rfl (lv_room (Nat.le_of_ble_eq_true rfl)) dL_law_483 ⟨by show (cells + kc_68) + 0 ≤ 601024; omega, by show (slots + kn_69) + 0 ≤ 7293034; omega⟩) hS (fun q _ h => hFc q h) hFc (fun q _ h => hFc q h) (fun kc9 kn9 E9 ce9 u t H1 locs ht hvm hw hB hz1 hk1 hS hcell hcv hcl => absurd hw id) (fun kc_90 kn_91 r_89 u t H1 locs ht hvm hw hB hz1 hk1 hS => ?_)
      obtain ⟨w_92, t_93, z_94, z_95, z_96, z_97, z_98⟩ := u
      try dsimp only at hw hB
      obtain ⟨hI_99, hq_100, hq_101, hq_102, hq_103, hq_104, hq_105⟩ := hw
      rw [hq_101, hq_102, hq_104, hq_105] at hI_99
      skip
      have hq_103a := hq_103.1
      have hq_103b := hq_103.2
      rw [hq_100] at hI_99
      obtain ⟨hP1, hK1, hD1⟩ := hB
      rw [ht] at hP1
      have hK1 := va_K.moved hvm.symm hK1
      obtain ⟨hP, hD⟩ := fr_apart hP hD hk1 hFc hP1 hD1
      have hK := (fr_Kr hK).app hK1
      clear hPc hDc hKc hFc hP1 hD1 hK1 hk1 hz1 ht hvm
      generalize H1 = H at hP hS ⊢
      refine lv_pop hx hb dL_law_486 rfl ?_
      refine lv_goto (tgt := 556) hx hb dL_law_487 (by decide) ?_
      obtain ⟨x_107, ex_107⟩ : ∃ y : Int32, y = i + Int32.ofInt 8 := ⟨_, rfl⟩
      refine lv_iinc (v := x_107) (lv' := [(4, .int x_107), (0, .ref b), (1, .ref x), (2, .ref y), (3, .ref ou)]) hx hb dL_law_556 hl (k := 4) rfl (by rw [ex_107]) (by decide) rfl (fun ls hl => ?_)
      have ix_107 : x_107.toInt = i.toInt + 8 := by rw [ex_107]; exact law_ad (by decide) (by decide) (by decide) hi0 hi1
      refine lv_goto (tgt := 23) hx hb dL_law_559 (by decide) ?_
      have hsz9 := zIM_sz hI_99
      exact ih x_107 w_70 t_71 fed w_92 t_93 ta zt zv gt gO gb _ _ _ _ _ (by omega) (by omega) (by omega) hI_77 hI_99 (by omega) hP hD hK hS (lv_sub hl [1, 2, 3, 4, 0] rfl) (by omega) (by omega) (law_gb hgb ix_107 (Int.le_add_of_nonneg_right (by decide)))
    · have ic_87 : x_86.toInt ≠ 0 := zi_ne c_87
      refine lv_iconst (v := 1) hx hb dL_law_478 (by decide) ?_
      refine lv_goto (tgt := 483) hx hb dL_law_479 (by decide) ?_
      have hPc := fr_Pl hP
      have hDc := fr_Dl hD
      have hKc := fr_Kl hK
      have hFc := fr_Fl hD hS hAA
      obtain ⟨fs_108, hfs_108⟩ := zIM_hd hIM
      refine vw_calli (vw_runVX (As := [.int 1]) (rest := []) ⟨hx, hb, hml, hown, hA⟩ (w_X14_show l dC dI aK aV y wM tM ta zt zv gt gO 1 H.size hlt hIM) (vx_cwVW 1 hA (zw_V wi_1990 wi_1991 wi_1992 wi_143 (zw_good wi_1993)) rfl rfl rfl (by decide +kernel) ⟨(Nat.le_of_ble_eq_true rfl), (Nat.le_of_ble_eq_true rfl)⟩) ⟨zP_blind, va_recv hKc hPc (ci := 14) (q0 := 0) rfl hfs_108, zz_pre hKc hPc hDc hN hT hS hFc⟩ rfl rfl hl.1 rfl (lv_room (Nat.le_of_ble_eq_true rfl)) dL_law_483 ⟨by show (cells + kc_68) + 0 ≤ 601024; omega, by show (slots + kn_69) + 0 ≤ 7293034; omega⟩) hS (fun q _ h => hFc q h) hFc (fun q _ h => hFc q h) (fun kc9 kn9 E9 ce9 u t H1 locs ht hvm hw hB hz1 hk1 hS hcell hcv hcl => absurd hw id) (fun kc_110 kn_111 r_109 u t H1 locs ht hvm hw hB hz1 hk1 hS => ?_)
      obtain ⟨w_112, t_113, z_114, z_115, z_116, z_117, z_118⟩ := u
      try dsimp only at hw hB
      obtain ⟨hI_119, hq_120, hq_121, hq_122, hq_123, hq_124, hq_125⟩ := hw
      rw [hq_121, hq_122, hq_124, hq_125] at hI_119
      skip
      have hq_123a := hq_123.1
      have hq_123b := hq_123.2
      rw [hq_120] at hI_119
      obtain ⟨hP1, hK1, hD1⟩ := hB
      rw [ht] at hP1
      have hK1 := va_K.moved hvm.symm hK1
      obtain ⟨hP, hD⟩ := fr_apart hP hD hk1 hFc hP1 hD1
      have hK := (fr_Kr hK).app hK1
      clear hPc hDc hKc hFc hP1 hD1 hK1 hk1 hz1 ht hvm
      generalize H1 = H at hP hS ⊢
      refine lv_pop hx hb dL_law_486 rfl ?_
      refine lv_goto (tgt := 556) hx hb dL_law_487 (by decide) ?_
      obtain ⟨x_127, ex_127⟩ : ∃ y : Int32, y = i + Int32.ofInt 8 := ⟨_, rfl⟩
      refine lv_iinc (v := x_127) (lv' := [(4, .int x_127), (0, .ref b), (1, .ref x), (2, .ref y), (3, .ref ou)]) hx hb dL_law_556 hl (k := 4) rfl (by rw [ex_127]) (by decide) rfl (fun ls hl => ?_)
      have ix_127 : x_127.toInt = i.toInt + 8 := by rw [ex_127]; exact law_ad (by decide) (by decide) (by decide) hi0 hi1
      refine lv_goto (tgt := 23) hx hb dL_law_559 (by decide) ?_
      have hsz9 := zIM_sz hI_119
      exact ih x_127 w_70 t_71 fed w_112 t_113 ta zt zv gt gO gb _ _ _ _ _ (by omega) (by omega) (by omega) hI_77 hI_119 (by omega) hP hD hK hS (lv_sub hl [1, 2, 3, 4, 0] rfl) (by omega) (by omega) (law_gb hgb ix_127 (Int.le_add_of_nonneg_right (by decide)))
set_option maxHeartbeats 40000000 in
set_option maxRecDepth 100000 in
theorem law_c8 {p : Program} {e : Env} {s : State} {m : MethodId} {below : List Frame} {meth : Method} {c : Code} (l : Launch) (hlt : l.stackTraces = false) {b L : Nat} {xs : Nat → Int32} (hL : L ≤ 4096) (hx : p.tables.exec = Jvm.exec) (hb : c.code = code) (hr : meth.sig.returnType = ret) (hml : c.maxLocals = 7) (hown : s.vm.findClass RL = some m.cls) (hA : ∀ w ∈ zw, w.before #[Value.ref b] s = true) (hX : va_X b L xs s s.heap) (hbl : b < s.heap.size) (hlocks : meth.locks = false) {A : Nat → Prop} (hAd : A = (fun q : Nat => s.heap.size ≤ q)) (hAA : ∀ q : Nat, s.heap.size ≤ q → A q) (hbA : ¬ A b) {dC : Nat → ClassId} {dI : Nat → Nat → Nat} {aK aV : Nat → Nat} (hN : zN s) (hT : zT aK aV A s s.heap) (x y ou : Nat) (n9 : Nat) (ih : ∀ (i : Int32) (wC : va_W) (tC : List (ClassId × FieldType)) (fed : Int32) (wM : va_W) (tM : List (ClassId × FieldType)) (ta : Int32) (zt zv : Nat) (gt : Nat → Int32) (gO : Option (sp_S × sp_F)) (gb : Int) (H : Heap) (locs : List Loc) (ls : Array Slot) (cells slots : Nat), (4105 - i.toInt).toNat ≤ n9 → 0 ≤ i.toInt → i.toInt ≤ 4104 → zIC x wC tC fed ou gt gO gb → zIM y wM tM ta zt zv gt gO → fed.toInt = ta.toInt → va_P (dC, dI) vwCl (wC ++ wM) H → va_D A (wC ++ wM) → va_K (dC, dI) vwCl (tC ++ tM) s → va_S A s.heap H locs → lv_has ls 7 [(0, .ref b), (1, .ref x), (2, .ref y), (3, .ref ou), (4, .int i)] → (cells : Int) ≤ 200 + i.toInt + zG zt + zG zv → (slots : Int) ≤ 260000 + 3 * i.toInt + 4 * zt + 2 * zv → gb ≤ 250 * i.toInt → W p l e room_1 s m #[Value.ref b] below meth c H locs cells slots (lw_Z below #[Value.ref b] s) (F0 m 23 ls [])) (i : Int32) (wC : va_W) (tC : List (ClassId × FieldType)) (fed : Int32) (wM : va_W) (tM : List (ClassId × FieldType)) (ta : Int32) (zt zv : Nat) (gt : Nat → Int32) (gO : Option (sp_S × sp_F)) (gb : Int) (H : Heap) (locs : List Loc) (ls : Array Slot) (cells slots : Nat) (hm9 : (4105 - i.toInt).toNat ≤ n9 + 1) (hi0 : 0 ≤ i.toInt) (hi1 : i.toInt ≤ 4104) (hIC : zIC x wC tC fed ou gt gO gb) (hIM : zIM y wM tM ta zt zv gt gO) (hft : fed.toInt = ta.toInt) (hP : va_P (dC, dI) vwCl (wC ++ wM) H) (hD : va_D A (wC ++ wM)) (hK : va_K (dC, dI) vwCl (tC ++ tM) s) (hS : va_S A s.heap H locs) (hl : lv_has ls 7 [(0, .ref b), (1, .ref x), (2, .ref y), (3, .ref ou), (4, .int i)]) (hce : (cells : Int) ≤ 200 + i.toInt + zG zt + zG zv) (hsl : (slots : Int) ≤ 260000 + 3 * i.toInt + 4 * zt + 2 * zv) (hgb : gb ≤ 250 * i.toInt) (hil : i.toInt + 8 ≤ (L : Int)) : W p l e room_1 s m #[Value.ref b] below meth c H locs cells slots (lw_Z below #[Value.ref b] s) (F0 m 490 ls []) := by
  have hsz9 := zIM_sz hIM
  have hg1 := zG_le (z := zt)
  have hg2 := zG_le (z := zv)
  have hm : (4105 - i.toInt).toNat ≤ n9 + 1 := hm9
  refine lv_aload_n hx hb dL_law_490 rfl (lv_at hl 1 rfl) ?_
  refine lv_aload_n hx hb dL_law_491 rfl (lv_at hl 0 rfl) ?_
  refine lv_iload hx hb dL_law_492 (lv_at hl 4 rfl) ?_
  refine lv_iconst (v := 1) hx hb dL_law_494 (by decide) ?_
  refine lv_iadd hx hb dL_law_495 ?_
  refine lv_topi (fun x_1 ex_1 => ?_)
  have ix_1 : x_1.toInt = i.toInt + 1 := by rw [ex_1]; exact law_ad (by decide) (by decide) (by decide) hi0 hi1
  refine va_sld hx hb hX hbl hbA hS (law_ix ix_1 (by decide) (by decide) hi0 hil) dL_law_496 ?_
  refine lv_topi (fun x_2 ex_2 => ?_)
  refine lv_aload_n hx hb dL_law_497 rfl (lv_at hl 3 rfl) ?_
  have hPc := fr_Pl hP
  have hDc := fr_Dl hD
  have hKc := fr_Kl hK
  have hFc := fr_Fl hD hS hAA
  obtain ⟨fs_3, hfs_3⟩ := zIC_hd hIC
  refine vx_calli (vx_runSX (As := [.ref x, .int x_2, .ref ou]) (rest := []) ⟨hx, hb, hml, hown, hA⟩ (fr_vx (mc := 1) (ms := 6) (post2 := fun r (v : va_W × List (ClassId × FieldType) × Int32 × Nat × (Nat → Int32) × Option (sp_S × sp_F) × Int) => zIC x v.1 v.2.1 v.2.2.1 v.2.2.2.1 v.2.2.2.2.1 v.2.2.2.2.2.1 v.2.2.2.2.2.2 ∧ v.2.2.1 = fed ∧ v.2.2.2.1 = ou ∧ v.2.2.2.2.1 = gt ∧ v.2.2.2.2.2.1 = gO ∧ v.2.2.2.2.2.2 = gb) (w_L_out l dC dI aK aV x wC tC fed ou gt gO gb x_2 H.size hlt hIC) (fun kc kn r v h => ⟨⟨h.1, h.2.1, h.2.2.2⟩, h.2.2.1.1, h.2.2.1.2⟩)) (vx_cwSW 3 hA (zw_S wi_1343 wi_1344 wi_129 (zw_good wi_1345)) rfl rfl rfl (by decide +kernel) ⟨(Nat.le_of_ble_eq_true rfl), (Nat.le_of_ble_eq_true rfl)⟩) ⟨zP_blind, zz_pre hKc hPc hDc hN hT hS hFc⟩ rfl rfl hl.1 rfl (lv_room (Nat.le_of_ble_eq_true rfl)) dL_law_498 ⟨by show cells + 1 ≤ 601024; omega, by show slots + 6 ≤ 7293034; omega⟩) hS (fun q _ h => hFc q h) hFc (fun q _ h => hFc q h) (fun E9 ce9 q9 u t H1 locs ht hvm hw hB hz1 hk1 hS hcell hcv hcl => absurd hw id) (fun r_4 u t H1 locs ht hvm hw hB hz1 hk1 hS => ?_)
  obtain ⟨w_7, t_8, z_9, z_10, z_11, z_12, z_13⟩ := u
  try dsimp only at hw hB
  obtain ⟨hI_14, hq_15, hq_17, hq_18, hq_19, hq_20⟩ := hw
  rw [hq_15, hq_17, hq_18, hq_19, hq_20] at hI_14
  obtain ⟨hP1, hK1, hD1⟩ := hB
  rw [ht] at hP1
  have hK1 := va_K.moved hvm.symm hK1
  obtain ⟨hP, hD⟩ := fr_apart hP hD hk1 hFc hP1 hD1
  have hK := (fr_Kr hK).app hK1
  clear hPc hDc hKc hFc hP1 hD1 hK1 hk1 hz1 ht hvm
  generalize H1 = H at hP hS ⊢
  refine lv_istore (lv' := [(5, .int r_4), (0, .ref b), (1, .ref x), (2, .ref y), (3, .ref ou), (4, .int i)]) hx hb dL_law_501 hl (by decide) rfl (fun ls hl => ?_)
  refine lv_aload_n hx hb dL_law_503 rfl (lv_at hl 3 rfl) ?_
  refine lv_aload_n hx hb dL_law_504 rfl (lv_at hl 1 rfl) ?_
  refine lv_iload hx hb dL_law_505 (lv_at hl 5 rfl) ?_
  refine lv_iconst (v := 1) hx hb dL_law_507 (by decide) ?_
  refine lv_iadd hx hb dL_law_508 ?_
  refine lv_topi (fun x_22 ex_22 => ?_)
  have ix_22 : x_22.toInt = i.toInt + 1 := by rw [ex_22]; exact law_ad (by decide) (by decide) (by decide) hi0 hi1
  refine va_sld hx hb hX hbl hbA hS (law_ix ix_22 (by decide) (by decide) hi0 hil) dL_law_509 ?_
  refine lv_topi (fun x_23 ex_23 => ?_)
  have hPc := fr_Pl hP
  have hDc := fr_Dl hD
  have hKc := fr_Kl hK
  have hFc := fr_Fl hD hS hAA
  obtain ⟨fs_24, hfs_24⟩ := zIM_hd hIM
  refine vw_calli (vw_runV (As := [.int x_23]) (rest := []) ⟨hx, hb, hml, hown, hA⟩ (w_X14_out l dC dI aK aV y wM tM ta zt zv gt gO x_23 H.size hlt hIM) (cwV 1 hA (zw_V wi_2013 wi_2014 wi_2015 wi_143 (zw_good wi_2016)) rfl rfl rfl (by decide +kernel) ⟨(Nat.le_of_ble_eq_true rfl), (Nat.le_of_ble_eq_true rfl)⟩) ⟨zP_blind, va_recv hKc hPc (ci := 14) (q0 := 0) rfl hfs_24, zz_pre hKc hPc hDc hN hT hS hFc⟩ rfl rfl hl.1 rfl (lv_room (Nat.le_of_ble_eq_true rfl)) dL_law_510 ⟨by show (cells + 1) + 0 ≤ 601024; omega, by show (slots + 6) + 0 ≤ 7293034; omega⟩) hS (fun q _ h => hFc q h) hFc (fun q _ h => hFc q h) (fun kc9 kn9 E9 ce9 u t H1 locs ht hvm hw hB hz1 hk1 hS hcell hcv hcl => absurd hw id) (fun kc_26 kn_27 r_25 u t H1 locs ht hvm hw hB hz1 hk1 hS => ?_)
  obtain ⟨w_28, t_29, z_30, z_31, z_32, z_33, z_34⟩ := u
  try dsimp only at hw hB
  obtain ⟨hI_35, hq_36, hq_37, hq_38, hq_39, hq_40, hq_41⟩ := hw
  rw [hq_37, hq_38, hq_40, hq_41] at hI_35
  skip
  have hq_39a := hq_39.1
  have hq_39b := hq_39.2
  rw [hq_36] at hI_35
  obtain ⟨hP1, hK1, hD1⟩ := hB
  rw [ht] at hP1
  have hK1 := va_K.moved hvm.symm hK1
  obtain ⟨hP, hD⟩ := fr_apart hP hD hk1 hFc hP1 hD1
  have hK := (fr_Kr hK).app hK1
  clear hPc hDc hKc hFc hP1 hD1 hK1 hk1 hz1 ht hvm
  generalize H1 = H at hP hS ⊢
  refine lv_istore (lv' := [(6, .int r_25), (5, .int r_4), (0, .ref b), (1, .ref x), (2, .ref y), (3, .ref ou), (4, .int i)]) hx hb dL_law_513 hl (by decide) rfl (fun ls hl => ?_)
  refine lv_goto (tgt := 556) hx hb dL_law_515 (by decide) ?_
  obtain ⟨x_43, ex_43⟩ : ∃ y : Int32, y = i + Int32.ofInt 8 := ⟨_, rfl⟩
  refine lv_iinc (v := x_43) (lv' := [(4, .int x_43), (6, .int r_25), (5, .int r_4), (0, .ref b), (1, .ref x), (2, .ref y), (3, .ref ou)]) hx hb dL_law_556 hl (k := 6) rfl (by rw [ex_43]) (by decide) rfl (fun ls hl => ?_)
  have ix_43 : x_43.toInt = i.toInt + 8 := by rw [ex_43]; exact law_ad (by decide) (by decide) (by decide) hi0 hi1
  refine lv_goto (tgt := 23) hx hb dL_law_559 (by decide) ?_
  have hsz9 := zIM_sz hI_35
  exact ih x_43 w_7 t_8 fed w_28 t_29 ta zt zv gt gO gb _ _ _ _ _ (by omega) (by omega) (by omega) hI_14 hI_35 (by omega) hP hD hK hS (lv_sub hl [3, 4, 5, 6, 0] rfl) (by omega) (by omega) (law_gb hgb ix_43 (Int.le_add_of_nonneg_right (by decide)))
set_option maxHeartbeats 40000000 in
set_option maxRecDepth 100000 in
theorem law_c9 {p : Program} {e : Env} {s : State} {m : MethodId} {below : List Frame} {meth : Method} {c : Code} (l : Launch) (hlt : l.stackTraces = false) {b L : Nat} {xs : Nat → Int32} (hL : L ≤ 4096) (hx : p.tables.exec = Jvm.exec) (hb : c.code = code) (hr : meth.sig.returnType = ret) (hml : c.maxLocals = 7) (hown : s.vm.findClass RL = some m.cls) (hA : ∀ w ∈ zw, w.before #[Value.ref b] s = true) (hX : va_X b L xs s s.heap) (hbl : b < s.heap.size) (hlocks : meth.locks = false) {A : Nat → Prop} (hAd : A = (fun q : Nat => s.heap.size ≤ q)) (hAA : ∀ q : Nat, s.heap.size ≤ q → A q) (hbA : ¬ A b) {dC : Nat → ClassId} {dI : Nat → Nat → Nat} {aK aV : Nat → Nat} (hN : zN s) (hT : zT aK aV A s s.heap) (x y ou : Nat) (n9 : Nat) (ih : ∀ (i : Int32) (wC : va_W) (tC : List (ClassId × FieldType)) (fed : Int32) (wM : va_W) (tM : List (ClassId × FieldType)) (ta : Int32) (zt zv : Nat) (gt : Nat → Int32) (gO : Option (sp_S × sp_F)) (gb : Int) (H : Heap) (locs : List Loc) (ls : Array Slot) (cells slots : Nat), (4105 - i.toInt).toNat ≤ n9 → 0 ≤ i.toInt → i.toInt ≤ 4104 → zIC x wC tC fed ou gt gO gb → zIM y wM tM ta zt zv gt gO → fed.toInt = ta.toInt → va_P (dC, dI) vwCl (wC ++ wM) H → va_D A (wC ++ wM) → va_K (dC, dI) vwCl (tC ++ tM) s → va_S A s.heap H locs → lv_has ls 7 [(0, .ref b), (1, .ref x), (2, .ref y), (3, .ref ou), (4, .int i)] → (cells : Int) ≤ 200 + i.toInt + zG zt + zG zv → (slots : Int) ≤ 260000 + 3 * i.toInt + 4 * zt + 2 * zv → gb ≤ 250 * i.toInt → W p l e room_1 s m #[Value.ref b] below meth c H locs cells slots (lw_Z below #[Value.ref b] s) (F0 m 23 ls [])) (i : Int32) (wC : va_W) (tC : List (ClassId × FieldType)) (fed : Int32) (wM : va_W) (tM : List (ClassId × FieldType)) (ta : Int32) (zt zv : Nat) (gt : Nat → Int32) (gO : Option (sp_S × sp_F)) (gb : Int) (H : Heap) (locs : List Loc) (ls : Array Slot) (cells slots : Nat) (hm9 : (4105 - i.toInt).toNat ≤ n9 + 1) (hi0 : 0 ≤ i.toInt) (hi1 : i.toInt ≤ 4104) (hIC : zIC x wC tC fed ou gt gO gb) (hIM : zIM y wM tM ta zt zv gt gO) (hft : fed.toInt = ta.toInt) (hP : va_P (dC, dI) vwCl (wC ++ wM) H) (hD : va_D A (wC ++ wM)) (hK : va_K (dC, dI) vwCl (tC ++ tM) s) (hS : va_S A s.heap H locs) (hl : lv_has ls 7 [(0, .ref b), (1, .ref x), (2, .ref y), (3, .ref ou), (4, .int i)]) (hce : (cells : Int) ≤ 200 + i.toInt + zG zt + zG zv) (hsl : (slots : Int) ≤ 260000 + 3 * i.toInt + 4 * zt + 2 * zv) (hgb : gb ≤ 250 * i.toInt) (hil : i.toInt + 8 ≤ (L : Int)) : W p l e room_1 s m #[Value.ref b] below meth c H locs cells slots (lw_Z below #[Value.ref b] s) (F0 m 518 ls []) := by
  have hsz9 := zIM_sz hIM
  have hg1 := zG_le (z := zt)
  have hg2 := zG_le (z := zv)
  have hm : (4105 - i.toInt).toNat ≤ n9 + 1 := hm9
  refine lv_aload_n hx hb dL_law_518 rfl (lv_at hl 1 rfl) ?_
  have hPc := fr_Pl hP
  have hDc := fr_Dl hD
  have hKc := fr_Kl hK
  have hFc := fr_Fl hD hS hAA
  obtain ⟨fs_1, hfs_1⟩ := zIC_hd hIC
  refine vw_calli (vw_runV (As := []) (rest := []) ⟨hx, hb, hml, hown, hA⟩ (w_X11_release l dC dI aK aV x wC tC fed ou gt gO gb  H.size hlt hIC) (cwV 0 hA (zw_V wi_1334 wi_1335 wi_1336 wi_130 (zw_good wi_1337)) rfl rfl rfl (by decide +kernel) ⟨(Nat.le_of_ble_eq_true rfl), (Nat.le_of_ble_eq_true rfl)⟩) ⟨zP_blind, va_recv hKc hPc (ci := 11) (q0 := 0) rfl hfs_1, zz_pre hKc hPc hDc hN hT hS hFc⟩ rfl rfl hl.1 rfl (lv_room (Nat.le_of_ble_eq_true rfl)) dL_law_519 ⟨by show cells + 0 ≤ 601024; omega, by show slots + 0 ≤ 7293034; omega⟩) hS (fun q _ h => hFc q h) hFc (fun q _ h => hFc q h) (fun kc9 kn9 E9 ce9 u t H1 locs ht hvm hw hB hz1 hk1 hS hcell hcv hcl => absurd hw id) (fun kc_3 kn_4 r_2 u t H1 locs ht hvm hw hB hz1 hk1 hS => ?_)
  obtain ⟨w_5, t_6, z_7, z_8, z_9, z_10, z_11⟩ := u
  try dsimp only at hw hB
  obtain ⟨hI_12, hq_13, hq_14, hq_15, hq_16, hq_17, hq_18⟩ := hw
  rw [hq_15, hq_16, hq_17, hq_18] at hI_12
  skip
  have hq_14a := hq_14.1
  have hq_14b := hq_14.2
  rw [hq_13] at hI_12
  obtain ⟨hP1, hK1, hD1⟩ := hB
  rw [ht] at hP1
  have hK1 := va_K.moved hvm.symm hK1
  obtain ⟨hP, hD⟩ := fr_apart hP hD hk1 hFc hP1 hD1
  have hK := (fr_Kr hK).app hK1
  clear hPc hDc hKc hFc hP1 hD1 hK1 hk1 hz1 ht hvm
  generalize H1 = H at hP hS ⊢
  refine lv_pop hx hb dL_law_522 rfl ?_
  refine lv_aload_n hx hb dL_law_523 rfl (lv_at hl 2 rfl) ?_
  have hPc := fr_Pl hP
  have hDc := fr_Dl hD
  have hKc := fr_Kl hK
  have hFc := fr_Fl hD hS hAA
  obtain ⟨fs_20, hfs_20⟩ := zIM_hd hIM
  refine vw_calli (vw_runV (As := []) (rest := []) ⟨hx, hb, hml, hown, hA⟩ (w_X14_release l dC dI aK aV y wM tM ta zt zv gt gO  H.size hlt hIM) (cwV 0 hA (zw_V wi_2017 wi_2018 wi_2019 wi_143 (zw_good wi_2020)) rfl rfl rfl (by decide +kernel) ⟨(Nat.le_of_ble_eq_true rfl), (Nat.le_of_ble_eq_true rfl)⟩) ⟨zP_blind, va_recv hKc hPc (ci := 14) (q0 := 0) rfl hfs_20, zz_pre hKc hPc hDc hN hT hS hFc⟩ rfl rfl hl.1 rfl (lv_room (Nat.le_of_ble_eq_true rfl)) dL_law_524 ⟨by show (cells + kc_3) + 0 ≤ 601024; omega, by show (slots + kn_4) + 0 ≤ 7293034; omega⟩) hS (fun q _ h => hFc q h) hFc (fun q _ h => hFc q h) (fun kc9 kn9 E9 ce9 u t H1 locs ht hvm hw hB hz1 hk1 hS hcell hcv hcl => absurd hw id) (fun kc_22 kn_23 r_21 u t H1 locs ht hvm hw hB hz1 hk1 hS => ?_)
  obtain ⟨w_24, t_25, z_26, z_27, z_28, z_29, z_30⟩ := u
  try dsimp only at hw hB
  obtain ⟨hI_31, hq_32, hq_33, hq_34, hq_35, hq_36, hq_37⟩ := hw
  rw [hq_33, hq_34, hq_36, hq_37] at hI_31
  skip
  have hq_35a := hq_35.1
  have hq_35b := hq_35.2
  rw [hq_32] at hI_31
  obtain ⟨hP1, hK1, hD1⟩ := hB
  rw [ht] at hP1
  have hK1 := va_K.moved hvm.symm hK1
  obtain ⟨hP, hD⟩ := fr_apart hP hD hk1 hFc hP1 hD1
  have hK := (fr_Kr hK).app hK1
  clear hPc hDc hKc hFc hP1 hD1 hK1 hk1 hz1 ht hvm
  generalize H1 = H at hP hS ⊢
  refine lv_pop hx hb dL_law_527 rfl ?_
  refine lv_goto (tgt := 556) hx hb dL_law_528 (by decide) ?_
  obtain ⟨x_39, ex_39⟩ : ∃ y : Int32, y = i + Int32.ofInt 8 := ⟨_, rfl⟩
  refine lv_iinc (v := x_39) (lv' := [(4, .int x_39), (0, .ref b), (1, .ref x), (2, .ref y), (3, .ref ou)]) hx hb dL_law_556 hl (k := 4) rfl (by rw [ex_39]) (by decide) rfl (fun ls hl => ?_)
  have ix_39 : x_39.toInt = i.toInt + 8 := by rw [ex_39]; exact law_ad (by decide) (by decide) (by decide) hi0 hi1
  refine lv_goto (tgt := 23) hx hb dL_law_559 (by decide) ?_
  have hsz9 := zIM_sz hI_31
  exact ih x_39 w_5 t_6 fed w_24 t_25 ta zt zv gt gO gb _ _ _ _ _ (by omega) (by omega) (by omega) hI_12 hI_31 (by omega) hP hD hK hS (lv_sub hl [1, 2, 3, 4, 0] rfl) (by omega) (by omega) (law_gb hgb ix_39 (Int.le_add_of_nonneg_right (by decide)))
set_option maxHeartbeats 40000000 in
set_option maxRecDepth 100000 in
theorem law_c10 {p : Program} {e : Env} {s : State} {m : MethodId} {below : List Frame} {meth : Method} {c : Code} (l : Launch) (hlt : l.stackTraces = false) {b L : Nat} {xs : Nat → Int32} (hL : L ≤ 4096) (hx : p.tables.exec = Jvm.exec) (hb : c.code = code) (hr : meth.sig.returnType = ret) (hml : c.maxLocals = 7) (hown : s.vm.findClass RL = some m.cls) (hA : ∀ w ∈ zw, w.before #[Value.ref b] s = true) (hX : va_X b L xs s s.heap) (hbl : b < s.heap.size) (hlocks : meth.locks = false) {A : Nat → Prop} (hAd : A = (fun q : Nat => s.heap.size ≤ q)) (hAA : ∀ q : Nat, s.heap.size ≤ q → A q) (hbA : ¬ A b) {dC : Nat → ClassId} {dI : Nat → Nat → Nat} {aK aV : Nat → Nat} (hN : zN s) (hT : zT aK aV A s s.heap) (x y ou : Nat) (n9 : Nat) (ih : ∀ (i : Int32) (wC : va_W) (tC : List (ClassId × FieldType)) (fed : Int32) (wM : va_W) (tM : List (ClassId × FieldType)) (ta : Int32) (zt zv : Nat) (gt : Nat → Int32) (gO : Option (sp_S × sp_F)) (gb : Int) (H : Heap) (locs : List Loc) (ls : Array Slot) (cells slots : Nat), (4105 - i.toInt).toNat ≤ n9 → 0 ≤ i.toInt → i.toInt ≤ 4104 → zIC x wC tC fed ou gt gO gb → zIM y wM tM ta zt zv gt gO → fed.toInt = ta.toInt → va_P (dC, dI) vwCl (wC ++ wM) H → va_D A (wC ++ wM) → va_K (dC, dI) vwCl (tC ++ tM) s → va_S A s.heap H locs → lv_has ls 7 [(0, .ref b), (1, .ref x), (2, .ref y), (3, .ref ou), (4, .int i)] → (cells : Int) ≤ 200 + i.toInt + zG zt + zG zv → (slots : Int) ≤ 260000 + 3 * i.toInt + 4 * zt + 2 * zv → gb ≤ 250 * i.toInt → W p l e room_1 s m #[Value.ref b] below meth c H locs cells slots (lw_Z below #[Value.ref b] s) (F0 m 23 ls [])) (i : Int32) (wC : va_W) (tC : List (ClassId × FieldType)) (fed : Int32) (wM : va_W) (tM : List (ClassId × FieldType)) (ta : Int32) (zt zv : Nat) (gt : Nat → Int32) (gO : Option (sp_S × sp_F)) (gb : Int) (H : Heap) (locs : List Loc) (ls : Array Slot) (cells slots : Nat) (hm9 : (4105 - i.toInt).toNat ≤ n9 + 1) (hi0 : 0 ≤ i.toInt) (hi1 : i.toInt ≤ 4104) (hIC : zIC x wC tC fed ou gt gO gb) (hIM : zIM y wM tM ta zt zv gt gO) (hft : fed.toInt = ta.toInt) (hP : va_P (dC, dI) vwCl (wC ++ wM) H) (hD : va_D A (wC ++ wM)) (hK : va_K (dC, dI) vwCl (tC ++ tM) s) (hS : va_S A s.heap H locs) (hl : lv_has ls 7 [(0, .ref b), (1, .ref x), (2, .ref y), (3, .ref ou), (4, .int i)]) (hce : (cells : Int) ≤ 200 + i.toInt + zG zt + zG zv) (hsl : (slots : Int) ≤ 260000 + 3 * i.toInt + 4 * zt + 2 * zv) (hgb : gb ≤ 250 * i.toInt) (hil : i.toInt + 8 ≤ (L : Int)) : W p l e room_1 s m #[Value.ref b] below meth c H locs cells slots (lw_Z below #[Value.ref b] s) (F0 m 531 ls []) := by
  have hsz9 := zIM_sz hIM
  have hg1 := zG_le (z := zt)
  have hg2 := zG_le (z := zv)
  have hm : (4105 - i.toInt).toNat ≤ n9 + 1 := hm9
  refine lv_aload_n hx hb dL_law_531 rfl (lv_at hl 1 rfl) ?_
  refine lv_aload_n hx hb dL_law_532 rfl (lv_at hl 0 rfl) ?_
  refine lv_iload hx hb dL_law_533 (lv_at hl 4 rfl) ?_
  refine lv_iconst (v := 1) hx hb dL_law_535 (by decide) ?_
  refine lv_iadd hx hb dL_law_536 ?_
  refine lv_topi (fun x_1 ex_1 => ?_)
  have ix_1 : x_1.toInt = i.toInt + 1 := by rw [ex_1]; exact law_ad (by decide) (by decide) (by decide) hi0 hi1
  refine va_sld hx hb hX hbl hbA hS (law_ix ix_1 (by decide) (by decide) hi0 hil) dL_law_537 ?_
  refine lv_topi (fun x_2 ex_2 => ?_)
  have hPc := fr_Pl hP
  have hDc := fr_Dl hD
  have hKc := fr_Kl hK
  have hFc := fr_Fl hD hS hAA
  obtain ⟨fs_3, hfs_3⟩ := zIC_hd hIC
  refine vw_calli (vw_runV (As := [.int x_2]) (rest := []) ⟨hx, hb, hml, hown, hA⟩ (w_X11_count l dC dI aK aV x wC tC fed ou gt gO gb x_2 H.size hlt hIC) (cwV 1 hA (zw_V wi_1339 wi_1340 wi_1341 wi_130 (zw_good wi_1342)) rfl rfl rfl (by decide +kernel) ⟨(Nat.le_of_ble_eq_true rfl), (Nat.le_of_ble_eq_true rfl)⟩) ⟨zP_blind, va_recv hKc hPc (ci := 11) (q0 := 0) rfl hfs_3, zz_pre hKc hPc hDc hN hT hS hFc⟩ rfl rfl hl.1 rfl (lv_room (Nat.le_of_ble_eq_true rfl)) dL_law_538 ⟨by show cells + 0 ≤ 601024; omega, by show slots + 0 ≤ 7293034; omega⟩) hS (fun q _ h => hFc q h) hFc (fun q _ h => hFc q h) (fun kc9 kn9 E9 ce9 u t H1 locs ht hvm hw hB hz1 hk1 hS hcell hcv hcl => absurd hw id) (fun kc_5 kn_6 r_4 u t H1 locs ht hvm hw hB hz1 hk1 hS => ?_)
  obtain ⟨w_7, t_8, z_9, z_10, z_11, z_12, z_13⟩ := u
  try dsimp only at hw hB
  obtain ⟨hI_14, hq_15, hq_16, hq_17, hq_18, hq_19, hq_20⟩ := hw
  rw [hq_17, hq_18, hq_19, hq_20] at hI_14
  skip
  have hq_16a := hq_16.1
  have hq_16b := hq_16.2
  rw [hq_15] at hI_14
  obtain ⟨hP1, hK1, hD1⟩ := hB
  rw [ht] at hP1
  have hK1 := va_K.moved hvm.symm hK1
  obtain ⟨hP, hD⟩ := fr_apart hP hD hk1 hFc hP1 hD1
  have hK := (fr_Kr hK).app hK1
  clear hPc hDc hKc hFc hP1 hD1 hK1 hk1 hz1 ht hvm
  generalize H1 = H at hP hS ⊢
  refine lv_pop hx hb dL_law_541 rfl ?_
  refine lv_aload_n hx hb dL_law_542 rfl (lv_at hl 2 rfl) ?_
  refine lv_aload_n hx hb dL_law_543 rfl (lv_at hl 0 rfl) ?_
  refine lv_iload hx hb dL_law_544 (lv_at hl 4 rfl) ?_
  refine lv_iconst (v := 1) hx hb dL_law_546 (by decide) ?_
  refine lv_iadd hx hb dL_law_547 ?_
  refine lv_topi (fun x_22 ex_22 => ?_)
  have ix_22 : x_22.toInt = i.toInt + 1 := by rw [ex_22]; exact law_ad (by decide) (by decide) (by decide) hi0 hi1
  refine va_sld hx hb hX hbl hbA hS (law_ix ix_22 (by decide) (by decide) hi0 hil) dL_law_548 ?_
  refine lv_topi (fun x_23 ex_23 => ?_)
  have hPc := fr_Pl hP
  have hDc := fr_Dl hD
  have hKc := fr_Kl hK
  have hFc := fr_Fl hD hS hAA
  obtain ⟨fs_24, hfs_24⟩ := zIM_hd hIM
  refine vw_calli (vw_runV (As := [.int x_23]) (rest := []) ⟨hx, hb, hml, hown, hA⟩ (w_X14_count l dC dI aK aV y wM tM ta zt zv gt gO x_23 H.size hlt hIM) (cwV 1 hA (zw_V wi_2021 wi_2022 wi_2023 wi_143 (zw_good wi_2024)) rfl rfl rfl (by decide +kernel) ⟨(Nat.le_of_ble_eq_true rfl), (Nat.le_of_ble_eq_true rfl)⟩) ⟨zP_blind, va_recv hKc hPc (ci := 14) (q0 := 0) rfl hfs_24, zz_pre hKc hPc hDc hN hT hS hFc⟩ rfl rfl hl.1 rfl (lv_room (Nat.le_of_ble_eq_true rfl)) dL_law_549 ⟨by show (cells + kc_5) + 0 ≤ 601024; omega, by show (slots + kn_6) + 0 ≤ 7293034; omega⟩) hS (fun q _ h => hFc q h) hFc (fun q _ h => hFc q h) (fun kc9 kn9 E9 ce9 u t H1 locs ht hvm hw hB hz1 hk1 hS hcell hcv hcl => absurd hw id) (fun kc_26 kn_27 r_25 u t H1 locs ht hvm hw hB hz1 hk1 hS => ?_)
  obtain ⟨w_28, t_29, z_30, z_31, z_32, z_33, z_34⟩ := u
  try dsimp only at hw hB
  obtain ⟨hI_35, hq_36, hq_37, hq_38, hq_39, hq_40, hq_41⟩ := hw
  rw [hq_37, hq_38, hq_40, hq_41] at hI_35
  skip
  have hq_39a := hq_39.1
  have hq_39b := hq_39.2
  rw [hq_36] at hI_35
  obtain ⟨hP1, hK1, hD1⟩ := hB
  rw [ht] at hP1
  have hK1 := va_K.moved hvm.symm hK1
  obtain ⟨hP, hD⟩ := fr_apart hP hD hk1 hFc hP1 hD1
  have hK := (fr_Kr hK).app hK1
  clear hPc hDc hKc hFc hP1 hD1 hK1 hk1 hz1 ht hvm
  generalize H1 = H at hP hS ⊢
  refine lv_pop hx hb dL_law_552 rfl ?_
  refine lv_goto (tgt := 556) hx hb dL_law_553 (by decide) ?_
  obtain ⟨x_43, ex_43⟩ : ∃ y : Int32, y = i + Int32.ofInt 8 := ⟨_, rfl⟩
  refine lv_iinc (v := x_43) (lv' := [(4, .int x_43), (0, .ref b), (1, .ref x), (2, .ref y), (3, .ref ou)]) hx hb dL_law_556 hl (k := 4) rfl (by rw [ex_43]) (by decide) rfl (fun ls hl => ?_)
  have ix_43 : x_43.toInt = i.toInt + 8 := by rw [ex_43]; exact law_ad (by decide) (by decide) (by decide) hi0 hi1
  refine lv_goto (tgt := 23) hx hb dL_law_559 (by decide) ?_
  have hsz9 := zIM_sz hI_35
  exact ih x_43 w_7 t_8 fed w_28 t_29 ta zt zv gt gO gb _ _ _ _ _ (by omega) (by omega) (by omega) hI_14 hI_35 (by omega) hP hD hK hS (lv_sub hl [1, 2, 3, 4, 0] rfl) (by omega) (by omega) (law_gb hgb ix_43 (Int.le_add_of_nonneg_right (by decide)))
set_option maxHeartbeats 40000000 in
set_option maxRecDepth 100000 in
theorem law_c11 {p : Program} {e : Env} {s : State} {m : MethodId} {below : List Frame} {meth : Method} {c : Code} (l : Launch) (hlt : l.stackTraces = false) {b L : Nat} {xs : Nat → Int32} (hL : L ≤ 4096) (hx : p.tables.exec = Jvm.exec) (hb : c.code = code) (hr : meth.sig.returnType = ret) (hml : c.maxLocals = 7) (hown : s.vm.findClass RL = some m.cls) (hA : ∀ w ∈ zw, w.before #[Value.ref b] s = true) (hX : va_X b L xs s s.heap) (hbl : b < s.heap.size) (hlocks : meth.locks = false) {A : Nat → Prop} (hAd : A = (fun q : Nat => s.heap.size ≤ q)) (hAA : ∀ q : Nat, s.heap.size ≤ q → A q) (hbA : ¬ A b) {dC : Nat → ClassId} {dI : Nat → Nat → Nat} {aK aV : Nat → Nat} (hN : zN s) (hT : zT aK aV A s s.heap) (x y ou : Nat) (n9 : Nat) (ih : ∀ (i : Int32) (wC : va_W) (tC : List (ClassId × FieldType)) (fed : Int32) (wM : va_W) (tM : List (ClassId × FieldType)) (ta : Int32) (zt zv : Nat) (gt : Nat → Int32) (gO : Option (sp_S × sp_F)) (gb : Int) (H : Heap) (locs : List Loc) (ls : Array Slot) (cells slots : Nat), (4105 - i.toInt).toNat ≤ n9 → 0 ≤ i.toInt → i.toInt ≤ 4104 → zIC x wC tC fed ou gt gO gb → zIM y wM tM ta zt zv gt gO → fed.toInt = ta.toInt → va_P (dC, dI) vwCl (wC ++ wM) H → va_D A (wC ++ wM) → va_K (dC, dI) vwCl (tC ++ tM) s → va_S A s.heap H locs → lv_has ls 7 [(0, .ref b), (1, .ref x), (2, .ref y), (3, .ref ou), (4, .int i)] → (cells : Int) ≤ 200 + i.toInt + zG zt + zG zv → (slots : Int) ≤ 260000 + 3 * i.toInt + 4 * zt + 2 * zv → gb ≤ 250 * i.toInt → W p l e room_1 s m #[Value.ref b] below meth c H locs cells slots (lw_Z below #[Value.ref b] s) (F0 m 23 ls [])) (i : Int32) (wC : va_W) (tC : List (ClassId × FieldType)) (fed : Int32) (wM : va_W) (tM : List (ClassId × FieldType)) (ta : Int32) (zt zv : Nat) (gt : Nat → Int32) (gO : Option (sp_S × sp_F)) (gb : Int) (H : Heap) (locs : List Loc) (ls : Array Slot) (cells slots : Nat) (hm9 : (4105 - i.toInt).toNat ≤ n9 + 1) (hi0 : 0 ≤ i.toInt) (hi1 : i.toInt ≤ 4104) (hIC : zIC x wC tC fed ou gt gO gb) (hIM : zIM y wM tM ta zt zv gt gO) (hft : fed.toInt = ta.toInt) (hP : va_P (dC, dI) vwCl (wC ++ wM) H) (hD : va_D A (wC ++ wM)) (hK : va_K (dC, dI) vwCl (tC ++ tM) s) (hS : va_S A s.heap H locs) (hl : lv_has ls 7 [(0, .ref b), (1, .ref x), (2, .ref y), (3, .ref ou), (4, .int i)]) (hce : (cells : Int) ≤ 200 + i.toInt + zG zt + zG zv) (hsl : (slots : Int) ≤ 260000 + 3 * i.toInt + 4 * zt + 2 * zv) (hgb : gb ≤ 250 * i.toInt) (hil : i.toInt + 8 ≤ (L : Int)) : W p l e room_1 s m #[Value.ref b] below meth c H locs cells slots (lw_Z below #[Value.ref b] s) (F0 m 556 ls []) := by
  have hsz9 := zIM_sz hIM
  have hg1 := zG_le (z := zt)
  have hg2 := zG_le (z := zv)
  have hm : (4105 - i.toInt).toNat ≤ n9 + 1 := hm9
  obtain ⟨x_1, ex_1⟩ : ∃ y : Int32, y = i + Int32.ofInt 8 := ⟨_, rfl⟩
  refine lv_iinc (v := x_1) (lv' := [(4, .int x_1), (0, .ref b), (1, .ref x), (2, .ref y), (3, .ref ou)]) hx hb dL_law_556 hl (k := 4) rfl (by rw [ex_1]) (by decide) rfl (fun ls hl => ?_)
  have ix_1 : x_1.toInt = i.toInt + 8 := by rw [ex_1]; exact law_ad (by decide) (by decide) (by decide) hi0 hi1
  refine lv_goto (tgt := 23) hx hb dL_law_559 (by decide) ?_
  have hsz9 := zIM_sz hIM
  exact ih x_1 wC tC fed wM tM ta zt zv gt gO gb _ _ _ _ _ (by omega) (by omega) (by omega) hIC hIM (by omega) hP hD hK hS (lv_sub hl [1, 2, 3, 4, 0] rfl) (by omega) (by omega) (law_gb hgb ix_1 (Int.le_add_of_nonneg_right (by decide)))
set_option maxHeartbeats 40000000 in
set_option maxRecDepth 100000 in
theorem law_loop {p : Program} {e : Env} {s : State} {m : MethodId} {below : List Frame} {meth : Method} {c : Code} (l : Launch) (hlt : l.stackTraces = false) {b L : Nat} {xs : Nat → Int32} (hL : L ≤ 4096) (hx : p.tables.exec = Jvm.exec) (hb : c.code = code) (hr : meth.sig.returnType = ret) (hml : c.maxLocals = 7) (hown : s.vm.findClass RL = some m.cls) (hA : ∀ w ∈ zw, w.before #[Value.ref b] s = true) (hX : va_X b L xs s s.heap) (hbl : b < s.heap.size) (hlocks : meth.locks = false) {A : Nat → Prop} (hAd : A = (fun q : Nat => s.heap.size ≤ q)) (hAA : ∀ q : Nat, s.heap.size ≤ q → A q) (hbA : ¬ A b) {dC : Nat → ClassId} {dI : Nat → Nat → Nat} {aK aV : Nat → Nat} (hN : zN s) (hT : zT aK aV A s s.heap) (x y ou : Nat) : ∀ (n9 : Nat) (i : Int32) (wC : va_W) (tC : List (ClassId × FieldType)) (fed : Int32) (wM : va_W) (tM : List (ClassId × FieldType)) (ta : Int32) (zt zv : Nat) (gt : Nat → Int32) (gO : Option (sp_S × sp_F)) (gb : Int) (H : Heap) (locs : List Loc) (ls : Array Slot) (cells slots : Nat), (4105 - i.toInt).toNat ≤ n9 → 0 ≤ i.toInt → i.toInt ≤ 4104 → zIC x wC tC fed ou gt gO gb → zIM y wM tM ta zt zv gt gO → fed.toInt = ta.toInt → va_P (dC, dI) vwCl (wC ++ wM) H → va_D A (wC ++ wM) → va_K (dC, dI) vwCl (tC ++ tM) s → va_S A s.heap H locs → lv_has ls 7 [(0, .ref b), (1, .ref x), (2, .ref y), (3, .ref ou), (4, .int i)] → (cells : Int) ≤ 200 + i.toInt + zG zt + zG zv → (slots : Int) ≤ 260000 + 3 * i.toInt + 4 * zt + 2 * zv → gb ≤ 250 * i.toInt → W p l e room_1 s m #[Value.ref b] below meth c H locs cells slots (lw_Z below #[Value.ref b] s) (F0 m 23 ls []) := by
  intro n9
  induction n9 with
  | zero => intro i wC tC fed wM tM ta zt zv gt gO gb H locs ls cells slots hm hi0 hi1 hIC hIM hft hP hD hK hS hl hce hsl hgb; exfalso; omega
  | succ n9 ih =>
    intro i wC tC fed wM tM ta zt zv gt gO gb H locs ls cells slots hm hi0 hi1 hIC hIM hft hP hD hK hS hl hce hsl hgb
    have hsz9 := zIM_sz hIM
    have hg1 := zG_le (z := zt)
    have hg2 := zG_le (z := zv)
    refine lv_iload hx hb dL_law_23 (lv_at hl 4 rfl) ?_
    refine lv_aload_n hx hb dL_law_25 rfl (lv_at hl 0 rfl) ?_
    refine va_slen hx hb hX hbl hbA hS dL_law_26 ?_
    refine lv_topi (fun x_1 ex_1 => ?_)
    have ix_1 : x_1.toInt = (L : Int) := by rw [ex_1]; exact nI_toInt (by omega)
    refine lv_bipush (v := 8) hx hb dL_law_27 (by decide) ?_
    refine lv_isub hx hb dL_law_29 ?_
    refine lv_topi (fun x_2 ex_2 => ?_)
    have ix_2 : x_2.toInt = x_1.toInt - 8 := by rw [ex_2]; exact zi_subc (by decide) (by omega) (by omega)
    refine lv_icmp_gt (tgt := 562) hx hb dL_law_30 (by decide) (fun c_3 => ?_) (fun c_3 => ?_)
    · have ic_3 : x_2.toInt < i.toInt := zi_lt c_3
      refine lv_iconst (v := 1) hx hb dL_law_562 (by decide) ?_
      refine va_forget (fun q hq => by have h9 := hS.2.2 q hq; rw [hAd] at h9; exact h9) ?_
      refine W.widen (k := 601024) (n := 7293034) (by omega) (by omega) ?_
      exact lw_ret hx hb hr hlocks dL_law_563
    · have ic_3 : i.toInt ≤ x_2.toInt := zi_nlt c_3
      refine lv_aload_n hx hb dL_law_33 rfl (lv_at hl 0 rfl) ?_
      refine lv_iload hx hb dL_law_34 (lv_at hl 4 rfl) ?_
      refine va_sld hx hb hX hbl hbA hS (vp_in_iff.mpr ⟨by omega, by omega⟩) dL_law_36 ?_
      refine lv_topi (fun x_4 ex_4 => ?_)
      refine lv_bipush (v := 15) hx hb dL_law_37 (by decide) ?_
      refine lv_iand hx hb dL_law_39 ?_
      refine lv_topi (fun x_5 ex_5 => ?_)
      obtain ⟨j, hj, ej⟩ := pk_andE x_4 (m := 15) 4 (by decide)
      obtain rfl : x_5 = nI j := ex_5.trans ej
      have hc : j = 0 ∨ j = 1 ∨ j = 2 ∨ j = 3 ∨ j = 4 ∨ j = 5 ∨ j = 6 ∨ j = 7 ∨ j = 8 ∨ j = 9 ∨ j = 10 ∨ 11 ≤ j := by omega
      rcases hc with rfl | rfl | rfl | rfl | rfl | rfl | rfl | rfl | rfl | rfl | rfl | hj11
      · exact lv_tableIn (off := 60) (tgt := 100) hx hb dL_law_40 (by decide) (by decide) (by decide) (by decide) (law_c0 l hlt hL hx hb hr hml hown hA hX hbl hlocks hAd hAA hbA hN hT x y ou n9 ih i wC tC fed wM tM ta zt zv gt gO gb H locs ls cells slots hm hi0 hi1 hIC hIM hft hP hD hK hS hl hce hsl hgb (by omega))
      · exact lv_tableIn (off := 133) (tgt := 173) hx hb dL_law_40 (by decide) (by decide) (by decide) (by decide) (law_c1 l hlt hL hx hb hr hml hown hA hX hbl hlocks hAd hAA hbA hN hT x y ou n9 ih i wC tC fed wM tM ta zt zv gt gO gb H locs ls cells slots hm hi0 hi1 hIC hIM hft hP hD hK hS hl hce hsl hgb (by omega))
      · exact lv_tableIn (off := 158) (tgt := 198) hx hb dL_law_40 (by decide) (by decide) (by decide) (by decide) (law_c2 l hlt hL hx hb hr hml hown hA hX hbl hlocks hAd hAA hbA hN hT x y ou n9 ih i wC tC fed wM tM ta zt zv gt gO gb H locs ls cells slots hm hi0 hi1 hIC hIM hft hP hD hK hS hl hce hsl hgb (by omega))
      · exact lv_tableIn (off := 171) (tgt := 211) hx hb dL_law_40 (by decide) (by decide) (by decide) (by decide) (law_c3 l hlt hL hx hb hr hml hown hA hX hbl hlocks hAd hAA hbA hN hT x y ou n9 ih i wC tC fed wM tM ta zt zv gt gO gb H locs ls cells slots hm hi0 hi1 hIC hIM hft hP hD hK hS hl hce hsl hgb (by omega))
      · exact lv_tableIn (off := 184) (tgt := 224) hx hb dL_law_40 (by decide) (by decide) (by decide) (by decide) (law_c4 l hlt hL hx hb hr hml hown hA hX hbl hlocks hAd hAA hbA hN hT x y ou n9 ih i wC tC fed wM tM ta zt zv gt gO gb H locs ls cells slots hm hi0 hi1 hIC hIM hft hP hD hK hS hl hce hsl hgb (by omega))
      · exact lv_tableIn (off := 221) (tgt := 261) hx hb dL_law_40 (by decide) (by decide) (by decide) (by decide) (law_c5 l hlt hL hx hb hr hml hown hA hX hbl hlocks hAd hAA hbA hN hT x y ou n9 ih i wC tC fed wM tM ta zt zv gt gO gb H locs ls cells slots hm hi0 hi1 hIC hIM hft hP hD hK hS hl hce hsl hgb (by omega))
      · exact lv_tableIn (off := 322) (tgt := 362) hx hb dL_law_40 (by decide) (by decide) (by decide) (by decide) (law_c6 l hlt hL hx hb hr hml hown hA hX hbl hlocks hAd hAA hbA hN hT x y ou n9 ih i wC tC fed wM tM ta zt zv gt gO gb H locs ls cells slots hm hi0 hi1 hIC hIM hft hP hD hK hS hl hce hsl hgb (by omega))
      · exact lv_tableIn (off := 409) (tgt := 449) hx hb dL_law_40 (by decide) (by decide) (by decide) (by decide) (law_c7 l hlt hL hx hb hr hml hown hA hX hbl hlocks hAd hAA hbA hN hT x y ou n9 ih i wC tC fed wM tM ta zt zv gt gO gb H locs ls cells slots hm hi0 hi1 hIC hIM hft hP hD hK hS hl hce hsl hgb (by omega))
      · exact lv_tableIn (off := 450) (tgt := 490) hx hb dL_law_40 (by decide) (by decide) (by decide) (by decide) (law_c8 l hlt hL hx hb hr hml hown hA hX hbl hlocks hAd hAA hbA hN hT x y ou n9 ih i wC tC fed wM tM ta zt zv gt gO gb H locs ls cells slots hm hi0 hi1 hIC hIM hft hP hD hK hS hl hce hsl hgb (by omega))
      · exact lv_tableIn (off := 478) (tgt := 518) hx hb dL_law_40 (by decide) (by decide) (by decide) (by decide) (law_c9 l hlt hL hx hb hr hml hown hA hX hbl hlocks hAd hAA hbA hN hT x y ou n9 ih i wC tC fed wM tM ta zt zv gt gO gb H locs ls cells slots hm hi0 hi1 hIC hIM hft hP hD hK hS hl hce hsl hgb (by omega))
      · exact lv_tableIn (off := 491) (tgt := 531) hx hb dL_law_40 (by decide) (by decide) (by decide) (by decide) (law_c10 l hlt hL hx hb hr hml hown hA hX hbl hlocks hAd hAA hbA hN hT x y ou n9 ih i wC tC fed wM tM ta zt zv gt gO gb H locs ls cells slots hm hi0 hi1 hIC hIM hft hP hD hK hS hl hce hsl hgb (by omega))
      · exact lv_tableOut (tgt := 556) hx hb dL_law_40 (Or.inr (by rw [nI_toInt (by omega)]; omega)) (by decide) (law_c11 l hlt hL hx hb hr hml hown hA hX hbl hlocks hAd hAA hbA hN hT x y ou n9 ih i wC tC fed wM tM ta zt zv gt gO gb H locs ls cells slots hm hi0 hi1 hIC hIM hft hP hD hK hS hl hce hsl hgb (by omega))
