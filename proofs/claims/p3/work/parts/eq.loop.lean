theorem law_ad {i y : Int32} {k : Int} (hy : y.toInt = k) (hk : 0 ≤ k) (hk8 : k ≤ 8) (h0 : 0 ≤ i.toInt) (h1 : i.toInt ≤ 4104) : (i + y).toInt = i.toInt + k := zi_addc hy (by omega) (by omega)
theorem law_ix {i x : Int32} {L : Nat} {k : Int} (h : x.toInt = i.toInt + k) (hk : 0 ≤ k) (hk8 : k < 8) (h0 : 0 ≤ i.toInt) (hl : i.toInt + 8 ≤ (L : Int)) : vp_in x L := vp_in_iff.mpr ⟨by omega, by omega⟩
theorem law_rc {ce kc zt zv ex : Nat} {i : Int} (h : (ce : Int) ≤ 200 + i + zG zt + zG zv) (h1 : kc = 0) (hi : i ≤ 4104) (hz : 64 ≤ zt ∧ zt ≤ 240400 ∧ 64 ≤ zv ∧ zv ≤ 1202200) (hex : ex ≤ 2) : (ce + kc) + (ex + (8000 - zG zt) + (40000 - zG zv)) ≤ 601024 := by
  have h2 := zG_le (z := zt)
  have h3 := zG_le (z := zv)
  obtain ⟨-, h4, -, h5⟩ := hz
  generalize zG zt = a at *
  generalize zG zv = b at *
  omega
theorem law_rs {sl kn zt zv ex : Nat} {i : Int} (h : (sl : Int) ≤ 260000 + 3 * i + 4 * zt + 2 * zv) (h1 : kn = 0) (hi : i ≤ 4104) (hz : 64 ≤ zt ∧ zt ≤ 240400 ∧ 64 ≤ zv ∧ zv ≤ 1202200) (hex : ex ≤ 13) : (sl + kn) + (ex + (1000000 - 4 * zt) + (2500000 - 2 * zv)) ≤ 7293034 := by
  obtain ⟨-, h4, -, h5⟩ := hz
  omega
theorem law_hm {i x : Int} {n L : Nat} (h : (4105 - i).toNat ≤ n + 1) (hx : x = i + 8) (h0 : 0 ≤ i) (hl : i + 8 ≤ (L : Int)) (hL : L ≤ 4096) : (4105 - x).toNat ≤ n ∧ 0 ≤ x ∧ x ≤ 4104 := by omega
theorem law_ce {ce kc k9 a b a2 b2 ex : Nat} {i : Int} (h : (ce : Int) ≤ 200 + i + a + b) (h1 : kc = 0) (h2 : k9 + (a + b) ≤ a2 + b2 + ex) (hex : ex ≤ 2) : ((ce + kc + k9 : Nat) : Int) ≤ 200 + (i + 8) + a2 + b2 := by omega
theorem law_sl {sl kn k9 a b a2 b2 ex : Nat} {i : Int} (h : (sl : Int) ≤ 260000 + 3 * i + 4 * a + 2 * b) (h1 : kn = 0) (h2 : k9 + (4 * a + 2 * b) ≤ 4 * a2 + 2 * b2 + ex) (hex : ex ≤ 13) : ((sl + kn + k9 : Nat) : Int) ≤ 260000 + 3 * (i + 8) + 4 * a2 + 2 * b2 := by omega
theorem zIC_hd {x : Nat} {ws : va_W} {tys : List (ClassId × FieldType)} {fed : Int32} {ou : Nat} {gt : Nat → Int32} (h : zIC x ws tys fed ou gt) : ∃ fs, ws[0]? = some (x, .inr (11, fs)) := by
  obtain ⟨_, _, _, _, _, _, rfl, -⟩ := h
  exact ⟨_, rfl⟩
theorem zIM_hd {x : Nat} {ws : va_W} {tys : List (ClassId × FieldType)} {ta : Int32} {zt zv : Nat} {gt : Nat → Int32} (h : zIM x ws tys ta zt zv gt) : ∃ fs, ws[0]? = some (x, .inr (14, fs)) := by
  obtain ⟨_, _, _, _, _, _, rfl, -⟩ := h
  exact ⟨_, rfl⟩
theorem zIM_sz {x : Nat} {ws : va_W} {tys : List (ClassId × FieldType)} {ta : Int32} {zt zv : Nat} {gt : Nat → Int32} (h : zIM x ws tys ta zt zv gt) : 64 ≤ zt ∧ zt ≤ 240400 ∧ 64 ≤ zv ∧ zv ≤ 1202200 := by
  obtain ⟨_, _, _, _, _, _, -, -, -, -, -, -, -, -, h, -⟩ := h
  exact h
theorem law_fd {g g2 h2 : Nat → Int32} {fed ta fed2 ta2 r1 r2 a1 a2 a3 a4 a5 : Int32} (e : fed.toInt = ta.toInt) (h1 : fd_r r1 g g2 (Int32.toNatClampNeg fed) a1 a2 a3 a4 a5) (h3 : fd_r r2 g h2 (Int32.toNatClampNeg ta) a1 a2 a3 a4 a5) (f0 : 0 ≤ fed.toInt) (f1 : fed.toInt + 20 ≤ 2000 ∧ fed2.toInt = fed.toInt + 20 ∧ r1.toInt = fed2.toInt ∨ 2000 < fed.toInt + 20 ∧ fed2.toInt = fed.toInt ∧ r1.toInt = -1) (f2 : ta.toInt + 20 ≤ 2000 ∧ ta2.toInt = ta.toInt + 20 ∧ r2.toInt = ta2.toInt ∨ 2000 < ta.toInt + 20 ∧ ta2.toInt = ta.toInt ∧ r2.toInt = -1) : h2 = g2 := by
  have e2 : fed = ta := Int32.toInt_inj.mp e
  subst e2
  rcases h1 with ⟨u1, u2⟩ | ⟨u1, u2⟩
  · rcases h3 with ⟨v1, v2⟩ | ⟨v1, v2⟩
    · rw [u2, v2]
    · exfalso; omega
  · rcases h3 with ⟨v1, v2⟩ | ⟨v1, v2⟩
    · exfalso; omega
    · funext k; rw [u2 k, v2 k]
theorem law_pa {g : Nat → Int32} {nn fed r : Int32} (h : pg_an g nn fed r) : ∃ (T P : Nat → Int32) (V : Nat → Int64) (z : Int32) (E : Nat → Nat) (kw : Nat → Int64) (kf : Nat → Int32) (fw : Nat → Int64), (0 ≤ nn.toInt → nn.toInt ≤ fed.toInt → 0 ≤ nn.toInt ∧ 0 ≤ z.toInt ∧ z.toInt ≤ 2000 ∧ (T (Int32.toNatClampNeg z)).toInt = 256 ∧ lx_to g nn.toInt T P V (Int32.toNatClampNeg z) nn.toInt.toNat E) ∧ pg_r1 T V kw kf fw nn fed r := by
  rcases h with ⟨u1, u2⟩ | ⟨⟨u1, u2⟩, T, P, V, z, kw, kf, fw, ⟨z0, z1, z2, -, E, z3⟩, u4⟩
  · exact ⟨fun _ => 0, fun _ => 0, fun _ => 0, 0, fun _ => 0, fun _ => 0, fun _ => 0, fun _ => 0, fun h1 h2 => by exfalso; omega, Or.inl ⟨u1, u2⟩⟩
  · exact ⟨T, P, V, z, E, kw, kf, fw, fun _ _ => ⟨u1, z0, z1, z2, z3⟩, Or.inr ⟨⟨u1, u2⟩, u4⟩⟩
theorem law_pe {T : Nat → Int32} {V kw : Nat → Int64} {kf : Nat → Int32} {fw : Nat → Int64} {nn n2 fed ta r r2 : Int32} (h : pg_r1 T V kw kf fw nn fed r) (h2 : pg_r1 T V kw kf fw n2 ta r2) (e : n2 = nn) (e2 : fed.toInt = ta.toInt) : r.toInt = r2.toInt := by
  subst e
  rcases h with ⟨u1, u2⟩ | ⟨u1, u2⟩
  · rcases h2 with ⟨v1, v2⟩ | ⟨v1, v2⟩
    · omega
    · exfalso; omega
  · rcases h2 with ⟨v1, v2⟩ | ⟨v1, v2⟩
    · exfalso; omega
    · rcases u2 with ⟨a, b⟩ | ⟨a, b⟩ <;> rcases v2 with ⟨c, d⟩ | ⟨c, d⟩
      · have e3 := Option.some.inj (b.symm.trans d)
        have n1 := zn_nat a
        have n2 := zn_nat c
        omega
      · rw [b] at d; cases d
      · rw [b] at d; cases d
      · omega
theorem zIC_fe {x : Nat} {ws : va_W} {tys : List (ClassId × FieldType)} {fed : Int32} {ou : Nat} {gt : Nat → Int32} (h : zIC x ws tys fed ou gt) : 0 ≤ fed.toInt := by
  obtain ⟨_, _, _, _, _, _, -, -, h, -⟩ := h
  exact h.1

set_option maxHeartbeats 40000000 in
set_option maxRecDepth 100000 in
theorem law_c0 {p : Program} {e : Env} {s : State} {m : MethodId} {below : List Frame} {meth : Method} {c : Code} (l : Launch) (hlt : l.stackTraces = false) {b L : Nat} {xs : Nat → Int32} (hL : L ≤ 4096) (hx : p.tables.exec = Jvm.exec) (hb : c.code = code) (hr : meth.sig.returnType = ret) (hml : c.maxLocals = 7) (hown : s.vm.findClass RL = some m.cls) (hA : ∀ w ∈ zw, w.before #[Value.ref b] s = true) (hX : va_X b L xs s s.heap) (hbl : b < s.heap.size) (hlocks : meth.locks = false) {A : Nat → Prop} (hAd : A = (fun q : Nat => s.heap.size ≤ q)) (hAA : ∀ q : Nat, s.heap.size ≤ q → A q) (hbA : ¬ A b) {dC : Nat → ClassId} {dI : Nat → Nat → Nat} {aK aV : Nat → Nat} (hN : zN s) (hT : zT aK aV A s s.heap) (x y ou : Nat) (n9 : Nat) (ih : ∀ (i : Int32) (wC : va_W) (tC : List (ClassId × FieldType)) (fed : Int32) (wM : va_W) (tM : List (ClassId × FieldType)) (ta : Int32) (zt zv : Nat) (gt : Nat → Int32) (H : Heap) (locs : List Loc) (ls : Array Slot) (cells slots : Nat), (4105 - i.toInt).toNat ≤ n9 → 0 ≤ i.toInt → i.toInt ≤ 4104 → zIC x wC tC fed ou gt → zIM y wM tM ta zt zv gt → fed.toInt = ta.toInt → va_P (dC, dI) vwCl (wC ++ wM) H → va_D A (wC ++ wM) → va_K (dC, dI) vwCl (tC ++ tM) s → va_S A s.heap H locs → lv_has ls 7 [(0, .ref b), (1, .ref x), (2, .ref y), (3, .ref ou), (4, .int i)] → (cells : Int) ≤ 200 + i.toInt + zG zt + zG zv → (slots : Int) ≤ 260000 + 3 * i.toInt + 4 * zt + 2 * zv → W p l e room_1 s m #[Value.ref b] below meth c H locs cells slots (lw_Z below #[Value.ref b] s) (F0 m 23 ls [])) (i : Int32) (wC : va_W) (tC : List (ClassId × FieldType)) (fed : Int32) (wM : va_W) (tM : List (ClassId × FieldType)) (ta : Int32) (zt zv : Nat) (gt : Nat → Int32) (H : Heap) (locs : List Loc) (ls : Array Slot) (cells slots : Nat) (hm9 : (4105 - i.toInt).toNat ≤ n9 + 1) (hi0 : 0 ≤ i.toInt) (hi1 : i.toInt ≤ 4104) (hIC : zIC x wC tC fed ou gt) (hIM : zIM y wM tM ta zt zv gt) (hft : fed.toInt = ta.toInt) (hP : va_P (dC, dI) vwCl (wC ++ wM) H) (hD : va_D A (wC ++ wM)) (hK : va_K (dC, dI) vwCl (tC ++ tM) s) (hS : va_S A s.heap H locs) (hl : lv_has ls 7 [(0, .ref b), (1, .ref x), (2, .ref y), (3, .ref ou), (4, .int i)]) (hce : (cells : Int) ≤ 200 + i.toInt + zG zt + zG zv) (hsl : (slots : Int) ≤ 260000 + 3 * i.toInt + 4 * zt + 2 * zv) (hil : i.toInt + 8 ≤ (L : Int)) : W p l e room_1 s m #[Value.ref b] below meth c H locs cells slots (lw_Z below #[Value.ref b] s) (F0 m 100 ls []) := by
  have hsz9 := zIM_sz hIM
  have hg1 := zG_le (z := zt)
  have hg2 := zG_le (z := zv)
  have hm : (4105 - i.toInt).toNat ≤ n9 + 1 := hm9
  refine lv_aload_n hx hb dL_law_100 rfl (lv_at hl 1 rfl) ?_
  refine lv_aload_n hx hb dL_law_101 rfl (lv_at hl 0 rfl) ?_
  refine lv_iload hx hb dL_law_102 (lv_at hl 4 rfl) ?_
  refine lv_iconst (v := 1) hx hb dL_law_104 (by decide) ?_
  refine lv_iadd hx hb dL_law_105 ?_
  refine lv_topi (fun x_1 ex_1 => ?_)
  have ix_1 : x_1.toInt = i.toInt + 1 := by rw [ex_1]; exact law_ad (by decide) (by decide) (by decide) hi0 hi1
  refine va_sld hx hb hX hbl hbA hS (law_ix ix_1 (by decide) (by decide) hi0 hil) dL_law_106 ?_
  refine lv_topi (fun x_2 ex_2 => ?_)
  refine lv_aload_n hx hb dL_law_107 rfl (lv_at hl 0 rfl) ?_
  refine lv_iload hx hb dL_law_108 (lv_at hl 4 rfl) ?_
  refine lv_iconst (v := 2) hx hb dL_law_110 (by decide) ?_
  refine lv_iadd hx hb dL_law_111 ?_
  refine lv_topi (fun x_3 ex_3 => ?_)
  have ix_3 : x_3.toInt = i.toInt + 2 := by rw [ex_3]; exact law_ad (by decide) (by decide) (by decide) hi0 hi1
  refine va_sld hx hb hX hbl hbA hS (law_ix ix_3 (by decide) (by decide) hi0 hil) dL_law_112 ?_
  refine lv_topi (fun x_4 ex_4 => ?_)
  refine lv_aload_n hx hb dL_law_113 rfl (lv_at hl 0 rfl) ?_
  refine lv_iload hx hb dL_law_114 (lv_at hl 4 rfl) ?_
  refine lv_iconst (v := 3) hx hb dL_law_116 (by decide) ?_
  refine lv_iadd hx hb dL_law_117 ?_
  refine lv_topi (fun x_5 ex_5 => ?_)
  have ix_5 : x_5.toInt = i.toInt + 3 := by rw [ex_5]; exact law_ad (by decide) (by decide) (by decide) hi0 hi1
  refine va_sld hx hb hX hbl hbA hS (law_ix ix_5 (by decide) (by decide) hi0 hil) dL_law_118 ?_
  refine lv_topi (fun x_6 ex_6 => ?_)
  refine lv_aload_n hx hb dL_law_119 rfl (lv_at hl 0 rfl) ?_
  refine lv_iload hx hb dL_law_120 (lv_at hl 4 rfl) ?_
  refine lv_iconst (v := 4) hx hb dL_law_122 (by decide) ?_
  refine lv_iadd hx hb dL_law_123 ?_
  refine lv_topi (fun x_7 ex_7 => ?_)
  have ix_7 : x_7.toInt = i.toInt + 4 := by rw [ex_7]; exact law_ad (by decide) (by decide) (by decide) hi0 hi1
  refine va_sld hx hb hX hbl hbA hS (law_ix ix_7 (by decide) (by decide) hi0 hil) dL_law_124 ?_
  refine lv_topi (fun x_8 ex_8 => ?_)
  refine lv_aload_n hx hb dL_law_125 rfl (lv_at hl 0 rfl) ?_
  refine lv_iload hx hb dL_law_126 (lv_at hl 4 rfl) ?_
  refine lv_iconst (v := 5) hx hb dL_law_128 (by decide) ?_
  refine lv_iadd hx hb dL_law_129 ?_
  refine lv_topi (fun x_9 ex_9 => ?_)
  have ix_9 : x_9.toInt = i.toInt + 5 := by rw [ex_9]; exact law_ad (by decide) (by decide) (by decide) hi0 hi1
  refine va_sld hx hb hX hbl hbA hS (law_ix ix_9 (by decide) (by decide) hi0 hil) dL_law_130 ?_
  refine lv_topi (fun x_10 ex_10 => ?_)
  have hPc := fr_Pl hP
  have hDc := fr_Dl hD
  have hKc := fr_Kl hK
  have hFc := fr_Fl hD hS hAA
  obtain ⟨fs_11, hfs_11⟩ := zIC_hd hIC
  refine vw_calli (vw_runV (As := [.int x_2, .int x_4, .int x_6, .int x_8, .int x_10]) (rest := []) ⟨hx, hb, hml, hown, hA⟩ (w_X11_feed l dC dI aK aV x wC tC fed ou gt x_2 x_4 x_6 x_8 x_10 H.size hlt hIC) (cwV 5 hA (zw_V wi_636 wi_637 wi_638 wi_130 (zw_good wi_639)) rfl rfl rfl (by decide +kernel) ⟨(Nat.le_of_ble_eq_true rfl), (Nat.le_of_ble_eq_true rfl)⟩) ⟨zP_blind, va_recv hKc hPc (ci := 11) (q0 := 0) rfl hfs_11, zz_pre hKc hPc hDc hN hT hS hFc⟩ rfl rfl hl.1 rfl (lv_room (Nat.le_of_ble_eq_true rfl)) dL_law_131 ⟨by show cells + 0 ≤ 601024; omega, by show slots + 0 ≤ 7293034; omega⟩) hS (fun q _ h => hFc q h) hFc (fun q _ h => hFc q h) (fun kc9 kn9 E9 ce9 u t H1 locs ht hvm hw hB hz1 hk1 hS hcell hcv hcl => absurd hw id) (fun kc_13 kn_14 r_12 u t H1 locs ht hvm hw hB hz1 hk1 hS => ?_)
  obtain ⟨w_15, t_16, z_17, z_18, z_19⟩ := u
  try dsimp only at hw hB
  obtain ⟨hI_20, hq_21, hq_22, hq_23, hq_24⟩ := hw
  rw [hq_23] at hI_20
  skip
  have hq_22a := hq_22.1
  have hq_22b := hq_22.2
  obtain ⟨hP1, hK1, hD1⟩ := hB
  rw [ht] at hP1
  have hK1 := va_K.moved hvm.symm hK1
  obtain ⟨hP, hD⟩ := fr_apart hP hD hk1 hFc hP1 hD1
  have hK := (fr_Kr hK).app hK1
  clear hPc hDc hKc hFc hP1 hD1 hK1 hk1 hz1 ht hvm
  generalize H1 = H at hP hS ⊢
  refine lv_pop hx hb dL_law_134 rfl ?_
  refine lv_aload_n hx hb dL_law_135 rfl (lv_at hl 2 rfl) ?_
  refine lv_aload_n hx hb dL_law_136 rfl (lv_at hl 0 rfl) ?_
  refine lv_iload hx hb dL_law_137 (lv_at hl 4 rfl) ?_
  refine lv_iconst (v := 1) hx hb dL_law_139 (by decide) ?_
  refine lv_iadd hx hb dL_law_140 ?_
  refine lv_topi (fun x_28 ex_28 => ?_)
  have ix_28 : x_28.toInt = i.toInt + 1 := by rw [ex_28]; exact law_ad (by decide) (by decide) (by decide) hi0 hi1
  refine va_sld hx hb hX hbl hbA hS (law_ix ix_28 (by decide) (by decide) hi0 hil) dL_law_141 ?_
  refine lv_topi (fun x_29 ex_29 => ?_)
  refine lv_aload_n hx hb dL_law_142 rfl (lv_at hl 0 rfl) ?_
  refine lv_iload hx hb dL_law_143 (lv_at hl 4 rfl) ?_
  refine lv_iconst (v := 2) hx hb dL_law_145 (by decide) ?_
  refine lv_iadd hx hb dL_law_146 ?_
  refine lv_topi (fun x_30 ex_30 => ?_)
  have ix_30 : x_30.toInt = i.toInt + 2 := by rw [ex_30]; exact law_ad (by decide) (by decide) (by decide) hi0 hi1
  refine va_sld hx hb hX hbl hbA hS (law_ix ix_30 (by decide) (by decide) hi0 hil) dL_law_147 ?_
  refine lv_topi (fun x_31 ex_31 => ?_)
  refine lv_aload_n hx hb dL_law_148 rfl (lv_at hl 0 rfl) ?_
  refine lv_iload hx hb dL_law_149 (lv_at hl 4 rfl) ?_
  refine lv_iconst (v := 3) hx hb dL_law_151 (by decide) ?_
  refine lv_iadd hx hb dL_law_152 ?_
  refine lv_topi (fun x_32 ex_32 => ?_)
  have ix_32 : x_32.toInt = i.toInt + 3 := by rw [ex_32]; exact law_ad (by decide) (by decide) (by decide) hi0 hi1
  refine va_sld hx hb hX hbl hbA hS (law_ix ix_32 (by decide) (by decide) hi0 hil) dL_law_153 ?_
  refine lv_topi (fun x_33 ex_33 => ?_)
  refine lv_aload_n hx hb dL_law_154 rfl (lv_at hl 0 rfl) ?_
  refine lv_iload hx hb dL_law_155 (lv_at hl 4 rfl) ?_
  refine lv_iconst (v := 4) hx hb dL_law_157 (by decide) ?_
  refine lv_iadd hx hb dL_law_158 ?_
  refine lv_topi (fun x_34 ex_34 => ?_)
  have ix_34 : x_34.toInt = i.toInt + 4 := by rw [ex_34]; exact law_ad (by decide) (by decide) (by decide) hi0 hi1
  refine va_sld hx hb hX hbl hbA hS (law_ix ix_34 (by decide) (by decide) hi0 hil) dL_law_159 ?_
  refine lv_topi (fun x_35 ex_35 => ?_)
  refine lv_aload_n hx hb dL_law_160 rfl (lv_at hl 0 rfl) ?_
  refine lv_iload hx hb dL_law_161 (lv_at hl 4 rfl) ?_
  refine lv_iconst (v := 5) hx hb dL_law_163 (by decide) ?_
  refine lv_iadd hx hb dL_law_164 ?_
  refine lv_topi (fun x_36 ex_36 => ?_)
  have ix_36 : x_36.toInt = i.toInt + 5 := by rw [ex_36]; exact law_ad (by decide) (by decide) (by decide) hi0 hi1
  refine va_sld hx hb hX hbl hbA hS (law_ix ix_36 (by decide) (by decide) hi0 hil) dL_law_165 ?_
  refine lv_topi (fun x_37 ex_37 => ?_)
  have hPc := fr_Pl hP
  have hDc := fr_Dl hD
  have hKc := fr_Kl hK
  have hFc := fr_Fl hD hS hAA
  obtain ⟨fs_38, hfs_38⟩ := zIM_hd hIM
  refine vw_calli (vw_runV (As := [.int x_29, .int x_31, .int x_33, .int x_35, .int x_37]) (rest := []) ⟨hx, hb, hml, hown, hA⟩ (w_X14_feed l dC dI aK aV y wM tM ta zt zv gt x_29 x_31 x_33 x_35 x_37 H.size hlt hIM) (cwV 5 hA (zw_V wi_1687 wi_1688 wi_1689 wi_143 (zw_good wi_1690)) rfl rfl rfl (by decide +kernel) ⟨(Nat.le_of_ble_eq_true rfl), (Nat.le_of_ble_eq_true rfl)⟩) ⟨zP_blind, va_recv hKc hPc (ci := 14) (q0 := 0) rfl hfs_38, zz_pre hKc hPc hDc hN hT hS hFc⟩ rfl rfl hl.1 rfl (lv_room (Nat.le_of_ble_eq_true rfl)) dL_law_166 ⟨by show (cells + kc_13) + 0 ≤ 601024; omega, by show (slots + kn_14) + 0 ≤ 7293034; omega⟩) hS (fun q _ h => hFc q h) hFc (fun q _ h => hFc q h) (fun kc9 kn9 E9 ce9 u t H1 locs ht hvm hw hB hz1 hk1 hS hcell hcv hcl => absurd hw id) (fun kc_40 kn_41 r_39 u t H1 locs ht hvm hw hB hz1 hk1 hS => ?_)
  obtain ⟨w_42, t_43, z_44, z_45, z_46, z_47⟩ := u
  try dsimp only at hw hB
  obtain ⟨hI_48, hq_49, hq_50, hq_51, hq_52, hq_53⟩ := hw
  rw [hq_50, hq_51] at hI_48
  have hb_56 : x_29 = x_2 := by rw [ex_29, ex_2, ex_28, ex_1]
  have hb_57 : x_31 = x_4 := by rw [ex_31, ex_4, ex_30, ex_3]
  have hb_58 : x_33 = x_6 := by rw [ex_33, ex_6, ex_32, ex_5]
  have hb_59 : x_35 = x_8 := by rw [ex_35, ex_8, ex_34, ex_7]
  have hb_60 : x_37 = x_10 := by rw [ex_37, ex_10, ex_36, ex_9]
  rw [hb_56, hb_57, hb_58, hb_59, hb_60] at hq_53
  have hgg := law_fd hft hq_24 hq_53 (zIC_fe hIC) hq_21 hq_49
  rw [hgg] at hI_48
  skip
  have hq_52a := hq_52.1
  have hq_52b := hq_52.2
  obtain ⟨hP1, hK1, hD1⟩ := hB
  rw [ht] at hP1
  have hK1 := va_K.moved hvm.symm hK1
  obtain ⟨hP, hD⟩ := fr_apart hP hD hk1 hFc hP1 hD1
  have hK := (fr_Kr hK).app hK1
  clear hPc hDc hKc hFc hP1 hD1 hK1 hk1 hz1 ht hvm
  generalize H1 = H at hP hS ⊢
  refine lv_pop hx hb dL_law_169 rfl ?_
  refine lv_goto (tgt := 556) hx hb dL_law_170 (by decide) ?_
  obtain ⟨x_61, ex_61⟩ : ∃ y : Int32, y = i + Int32.ofInt 8 := ⟨_, rfl⟩
  refine lv_iinc (v := x_61) (lv' := [(4, .int x_61), (0, .ref b), (1, .ref x), (2, .ref y), (3, .ref ou)]) hx hb dL_law_556 hl (k := 4) rfl (by rw [ex_61]) (by decide) rfl (fun ls hl => ?_)
  have ix_61 : x_61.toInt = i.toInt + 8 := by rw [ex_61]; exact law_ad (by decide) (by decide) (by decide) hi0 hi1
  refine lv_goto (tgt := 23) hx hb dL_law_559 (by decide) ?_
  have hsz9 := zIM_sz hI_48
  exact ih x_61 w_15 t_16 z_17 w_42 t_43 z_44 zt zv z_19 _ _ _ _ _ (by omega) (by omega) (by omega) hI_20 hI_48 (by omega) hP hD hK hS (lv_sub hl [1, 2, 3, 4, 0] rfl) (by omega) (by omega)
set_option maxHeartbeats 40000000 in
set_option maxRecDepth 100000 in
theorem law_c1 {p : Program} {e : Env} {s : State} {m : MethodId} {below : List Frame} {meth : Method} {c : Code} (l : Launch) (hlt : l.stackTraces = false) {b L : Nat} {xs : Nat → Int32} (hL : L ≤ 4096) (hx : p.tables.exec = Jvm.exec) (hb : c.code = code) (hr : meth.sig.returnType = ret) (hml : c.maxLocals = 7) (hown : s.vm.findClass RL = some m.cls) (hA : ∀ w ∈ zw, w.before #[Value.ref b] s = true) (hX : va_X b L xs s s.heap) (hbl : b < s.heap.size) (hlocks : meth.locks = false) {A : Nat → Prop} (hAd : A = (fun q : Nat => s.heap.size ≤ q)) (hAA : ∀ q : Nat, s.heap.size ≤ q → A q) (hbA : ¬ A b) {dC : Nat → ClassId} {dI : Nat → Nat → Nat} {aK aV : Nat → Nat} (hN : zN s) (hT : zT aK aV A s s.heap) (x y ou : Nat) (n9 : Nat) (ih : ∀ (i : Int32) (wC : va_W) (tC : List (ClassId × FieldType)) (fed : Int32) (wM : va_W) (tM : List (ClassId × FieldType)) (ta : Int32) (zt zv : Nat) (gt : Nat → Int32) (H : Heap) (locs : List Loc) (ls : Array Slot) (cells slots : Nat), (4105 - i.toInt).toNat ≤ n9 → 0 ≤ i.toInt → i.toInt ≤ 4104 → zIC x wC tC fed ou gt → zIM y wM tM ta zt zv gt → fed.toInt = ta.toInt → va_P (dC, dI) vwCl (wC ++ wM) H → va_D A (wC ++ wM) → va_K (dC, dI) vwCl (tC ++ tM) s → va_S A s.heap H locs → lv_has ls 7 [(0, .ref b), (1, .ref x), (2, .ref y), (3, .ref ou), (4, .int i)] → (cells : Int) ≤ 200 + i.toInt + zG zt + zG zv → (slots : Int) ≤ 260000 + 3 * i.toInt + 4 * zt + 2 * zv → W p l e room_1 s m #[Value.ref b] below meth c H locs cells slots (lw_Z below #[Value.ref b] s) (F0 m 23 ls [])) (i : Int32) (wC : va_W) (tC : List (ClassId × FieldType)) (fed : Int32) (wM : va_W) (tM : List (ClassId × FieldType)) (ta : Int32) (zt zv : Nat) (gt : Nat → Int32) (H : Heap) (locs : List Loc) (ls : Array Slot) (cells slots : Nat) (hm9 : (4105 - i.toInt).toNat ≤ n9 + 1) (hi0 : 0 ≤ i.toInt) (hi1 : i.toInt ≤ 4104) (hIC : zIC x wC tC fed ou gt) (hIM : zIM y wM tM ta zt zv gt) (hft : fed.toInt = ta.toInt) (hP : va_P (dC, dI) vwCl (wC ++ wM) H) (hD : va_D A (wC ++ wM)) (hK : va_K (dC, dI) vwCl (tC ++ tM) s) (hS : va_S A s.heap H locs) (hl : lv_has ls 7 [(0, .ref b), (1, .ref x), (2, .ref y), (3, .ref ou), (4, .int i)]) (hce : (cells : Int) ≤ 200 + i.toInt + zG zt + zG zv) (hsl : (slots : Int) ≤ 260000 + 3 * i.toInt + 4 * zt + 2 * zv) (hil : i.toInt + 8 ≤ (L : Int)) : W p l e room_1 s m #[Value.ref b] below meth c H locs cells slots (lw_Z below #[Value.ref b] s) (F0 m 173 ls []) := by
  have hsz9 := zIM_sz hIM
  have hg1 := zG_le (z := zt)
  have hg2 := zG_le (z := zv)
  have hm : (4105 - i.toInt).toNat ≤ n9 + 1 := hm9
  refine lv_aload_n hx hb dL_law_173 rfl (lv_at hl 1 rfl) ?_
  refine lv_aload_n hx hb dL_law_174 rfl (lv_at hl 0 rfl) ?_
  refine lv_iload hx hb dL_law_175 (lv_at hl 4 rfl) ?_
  refine lv_iconst (v := 1) hx hb dL_law_177 (by decide) ?_
  refine lv_iadd hx hb dL_law_178 ?_
  refine lv_topi (fun x_1 ex_1 => ?_)
  have ix_1 : x_1.toInt = i.toInt + 1 := by rw [ex_1]; exact law_ad (by decide) (by decide) (by decide) hi0 hi1
  refine va_sld hx hb hX hbl hbA hS (law_ix ix_1 (by decide) (by decide) hi0 hil) dL_law_179 ?_
  refine lv_topi (fun x_2 ex_2 => ?_)
  have hPc := fr_Pl hP
  have hDc := fr_Dl hD
  have hKc := fr_Kl hK
  have hFc := fr_Fl hD hS hAA
  obtain ⟨fs_3, hfs_3⟩ := zIC_hd hIC
  refine vw_calli (vw_runV (As := [.int x_2]) (rest := []) ⟨hx, hb, hml, hown, hA⟩ (w_X11_program l dC dI aK aV x wC tC fed ou gt x_2 H.size hlt hIC) (cwV 1 hA (zw_V wi_644 wi_645 wi_646 wi_130 (zw_good wi_647)) rfl rfl rfl (by decide +kernel) ⟨(Nat.le_of_ble_eq_true rfl), (Nat.le_of_ble_eq_true rfl)⟩) ⟨zP_blind, va_recv hKc hPc (ci := 11) (q0 := 0) rfl hfs_3, zz_pre hKc hPc hDc hN hT hS hFc⟩ rfl rfl hl.1 rfl (lv_room (Nat.le_of_ble_eq_true rfl)) dL_law_180 ⟨by show cells + 1 ≤ 601024; omega, by show slots + 6 ≤ 7293034; omega⟩) hS (fun q _ h => hFc q h) hFc (fun q _ h => hFc q h) (fun kc9 kn9 E9 ce9 u t H1 locs ht hvm hw hB hz1 hk1 hS hcell hcv hcl => absurd hw id) (fun kc_5 kn_6 r_4 u t H1 locs ht hvm hw hB hz1 hk1 hS => ?_)
  obtain ⟨w_7, t_8, z_9, z_10, z_11⟩ := u
  try dsimp only at hw hB
  obtain ⟨hI_12, hq_13, hq_14, hq_15, hq_16, hq_17⟩ := hw
  rw [hq_15, hq_16] at hI_12
  obtain ⟨pT, pP, pV, pz, pE, pkw, pkf, pfw, hal9, hpr9⟩ := law_pa hq_17
  skip
  have hq_14a := hq_14.1
  have hq_14b := hq_14.2
  obtain ⟨hP1, hK1, hD1⟩ := hB
  rw [ht] at hP1
  have hK1 := va_K.moved hvm.symm hK1
  obtain ⟨hP, hD⟩ := fr_apart hP hD hk1 hFc hP1 hD1
  have hK := (fr_Kr hK).app hK1
  clear hPc hDc hKc hFc hP1 hD1 hK1 hk1 hz1 ht hvm
  generalize H1 = H at hP hS ⊢
  refine lv_aload_n hx hb dL_law_183 rfl (lv_at hl 2 rfl) ?_
  refine lv_aload_n hx hb dL_law_184 rfl (lv_at hl 0 rfl) ?_
  refine lv_iload hx hb dL_law_185 (lv_at hl 4 rfl) ?_
  refine lv_iconst (v := 1) hx hb dL_law_187 (by decide) ?_
  refine lv_iadd hx hb dL_law_188 ?_
  refine lv_topi (fun x_20 ex_20 => ?_)
  have ix_20 : x_20.toInt = i.toInt + 1 := by rw [ex_20]; exact law_ad (by decide) (by decide) (by decide) hi0 hi1
  refine va_sld hx hb hX hbl hbA hS (law_ix ix_20 (by decide) (by decide) hi0 hil) dL_law_189 ?_
  refine lv_topi (fun x_21 ex_21 => ?_)
  have hnn9 : x_21 = x_2 := by rw [ex_21, ex_2, ex_20, ex_1]
  have hnn8 := congrArg Int32.toInt hnn9
  have hPc := fr_Pl hP
  have hDc := fr_Dl hD
  have hKc := fr_Kl hK
  have hFc := fr_Fl hD hS hAA
  obtain ⟨fs_22, hfs_22⟩ := zIM_hd hIM
  refine vw_calli (vw_runVX (As := [.int x_21]) (rest := [.int r_4]) ⟨hx, hb, hml, hown, hA⟩ (w_X14_program l dC dI aK aV y wM tM ta zt zv gt x_21 H.size hlt hIM pT pP pV pz pE pkw pkf pfw (by rw [hnn9]; exact fun h1 h2 => hal9 h1 (by rw [hft]; exact h2))) (vx_cwVW 1 hA (zw_V wi_1691 wi_1692 wi_1693 wi_143 (zw_good wi_1694)) rfl rfl rfl (by decide +kernel) ⟨(Nat.le_of_ble_eq_true rfl), (Nat.le_of_ble_eq_true rfl)⟩) ⟨zP_blind, va_recv hKc hPc (ci := 14) (q0 := 0) rfl hfs_22, zz_pre hKc hPc hDc hN hT hS hFc⟩ rfl rfl hl.1 rfl (lv_room (Nat.le_of_ble_eq_true rfl)) dL_law_190 ⟨by show (cells + kc_5) + 0 ≤ 601024; omega, by show (slots + kn_6) + 0 ≤ 7293034; omega⟩) hS (fun q _ h => hFc q h) hFc (fun q _ h => hFc q h) (fun kc9 kn9 E9 ce9 u t H1 locs ht hvm hw hB hz1 hk1 hS hcell hcv hcl => absurd hw id) (fun kc_24 kn_25 r_23 u t H1 locs ht hvm hw hB hz1 hk1 hS => ?_)
  obtain ⟨w_26, t_27, z_28, z_29, z_30, z_31⟩ := u
  try dsimp only at hw hB
  obtain ⟨hI_32, hq_33, hq_34, hq_35, hq_36, hq_37, hq_38⟩ := hw
  rw [hq_34, hq_35, hq_37] at hI_32
  have hrr : r_4.toInt = r_23.toInt := law_pe hpr9 hq_38 hnn9 hft
  skip
  have hq_36a := hq_36.1
  have hq_36b := hq_36.2
  obtain ⟨hP1, hK1, hD1⟩ := hB
  rw [ht] at hP1
  have hK1 := va_K.moved hvm.symm hK1
  obtain ⟨hP, hD⟩ := fr_apart hP hD hk1 hFc hP1 hD1
  have hK := (fr_Kr hK).app hK1
  clear hPc hDc hKc hFc hP1 hD1 hK1 hk1 hz1 ht hvm
  generalize H1 = H at hP hS ⊢
  refine lv_icmp_eq (tgt := 556) hx hb dL_law_193 (by decide) (fun c_40 => ?_) (fun c_40 => ?_)
  · have ic_40 : r_4.toInt = r_23.toInt := zi_eq c_40
    obtain ⟨x_41, ex_41⟩ : ∃ y : Int32, y = i + Int32.ofInt 8 := ⟨_, rfl⟩
    refine lv_iinc (v := x_41) (lv' := [(4, .int x_41), (0, .ref b), (1, .ref x), (2, .ref y), (3, .ref ou)]) hx hb dL_law_556 hl (k := 4) rfl (by rw [ex_41]) (by decide) rfl (fun ls hl => ?_)
    have ix_41 : x_41.toInt = i.toInt + 8 := by rw [ex_41]; exact law_ad (by decide) (by decide) (by decide) hi0 hi1
    refine lv_goto (tgt := 23) hx hb dL_law_559 (by decide) ?_
    have hsz9 := zIM_sz hI_32
    exact ih x_41 w_7 t_8 z_9 w_26 t_27 z_28 zt zv gt _ _ _ _ _ (by omega) (by omega) (by omega) hI_12 hI_32 (by omega) hP hD hK hS (lv_sub hl [1, 2, 3, 4, 0] rfl) (by omega) (by omega)
  · have ic_40 : r_4.toInt ≠ r_23.toInt := zi_ne c_40
    exfalso
    omega
set_option maxHeartbeats 40000000 in
set_option maxRecDepth 100000 in
theorem law_c2 {p : Program} {e : Env} {s : State} {m : MethodId} {below : List Frame} {meth : Method} {c : Code} (l : Launch) (hlt : l.stackTraces = false) {b L : Nat} {xs : Nat → Int32} (hL : L ≤ 4096) (hx : p.tables.exec = Jvm.exec) (hb : c.code = code) (hr : meth.sig.returnType = ret) (hml : c.maxLocals = 7) (hown : s.vm.findClass RL = some m.cls) (hA : ∀ w ∈ zw, w.before #[Value.ref b] s = true) (hX : va_X b L xs s s.heap) (hbl : b < s.heap.size) (hlocks : meth.locks = false) {A : Nat → Prop} (hAd : A = (fun q : Nat => s.heap.size ≤ q)) (hAA : ∀ q : Nat, s.heap.size ≤ q → A q) (hbA : ¬ A b) {dC : Nat → ClassId} {dI : Nat → Nat → Nat} {aK aV : Nat → Nat} (hN : zN s) (hT : zT aK aV A s s.heap) (x y ou : Nat) (n9 : Nat) (ih : ∀ (i : Int32) (wC : va_W) (tC : List (ClassId × FieldType)) (fed : Int32) (wM : va_W) (tM : List (ClassId × FieldType)) (ta : Int32) (zt zv : Nat) (gt : Nat → Int32) (H : Heap) (locs : List Loc) (ls : Array Slot) (cells slots : Nat), (4105 - i.toInt).toNat ≤ n9 → 0 ≤ i.toInt → i.toInt ≤ 4104 → zIC x wC tC fed ou gt → zIM y wM tM ta zt zv gt → fed.toInt = ta.toInt → va_P (dC, dI) vwCl (wC ++ wM) H → va_D A (wC ++ wM) → va_K (dC, dI) vwCl (tC ++ tM) s → va_S A s.heap H locs → lv_has ls 7 [(0, .ref b), (1, .ref x), (2, .ref y), (3, .ref ou), (4, .int i)] → (cells : Int) ≤ 200 + i.toInt + zG zt + zG zv → (slots : Int) ≤ 260000 + 3 * i.toInt + 4 * zt + 2 * zv → W p l e room_1 s m #[Value.ref b] below meth c H locs cells slots (lw_Z below #[Value.ref b] s) (F0 m 23 ls [])) (i : Int32) (wC : va_W) (tC : List (ClassId × FieldType)) (fed : Int32) (wM : va_W) (tM : List (ClassId × FieldType)) (ta : Int32) (zt zv : Nat) (gt : Nat → Int32) (H : Heap) (locs : List Loc) (ls : Array Slot) (cells slots : Nat) (hm9 : (4105 - i.toInt).toNat ≤ n9 + 1) (hi0 : 0 ≤ i.toInt) (hi1 : i.toInt ≤ 4104) (hIC : zIC x wC tC fed ou gt) (hIM : zIM y wM tM ta zt zv gt) (hft : fed.toInt = ta.toInt) (hP : va_P (dC, dI) vwCl (wC ++ wM) H) (hD : va_D A (wC ++ wM)) (hK : va_K (dC, dI) vwCl (tC ++ tM) s) (hS : va_S A s.heap H locs) (hl : lv_has ls 7 [(0, .ref b), (1, .ref x), (2, .ref y), (3, .ref ou), (4, .int i)]) (hce : (cells : Int) ≤ 200 + i.toInt + zG zt + zG zv) (hsl : (slots : Int) ≤ 260000 + 3 * i.toInt + 4 * zt + 2 * zv) (hil : i.toInt + 8 ≤ (L : Int)) : W p l e room_1 s m #[Value.ref b] below meth c H locs cells slots (lw_Z below #[Value.ref b] s) (F0 m 198 ls []) := by
  have hsz9 := zIM_sz hIM
  have hg1 := zG_le (z := zt)
  have hg2 := zG_le (z := zv)
  have hm : (4105 - i.toInt).toNat ≤ n9 + 1 := hm9
  refine lv_aload_n hx hb dL_law_198 rfl (lv_at hl 1 rfl) ?_
  have hPc := fr_Pl hP
  have hDc := fr_Dl hD
  have hKc := fr_Kl hK
  have hFc := fr_Fl hD hS hAA
  obtain ⟨fs_1, hfs_1⟩ := zIC_hd hIC
  refine vw_calli (vw_runV (As := []) (rest := []) ⟨hx, hb, hml, hown, hA⟩ (w_X11_fault l dC dI aK aV x wC tC fed ou gt  H.size hlt hIC) (cwV 0 hA (zw_V wi_1066 wi_1067 wi_1068 wi_130 (zw_good wi_1069)) rfl rfl rfl (by decide +kernel) ⟨(Nat.le_of_ble_eq_true rfl), (Nat.le_of_ble_eq_true rfl)⟩) ⟨zP_blind, va_recv hKc hPc (ci := 11) (q0 := 0) rfl hfs_1, zz_pre hKc hPc hDc hN hT hS hFc⟩ rfl rfl hl.1 rfl (lv_room (Nat.le_of_ble_eq_true rfl)) dL_law_199 ⟨by show cells + 0 ≤ 601024; omega, by show slots + 0 ≤ 7293034; omega⟩) hS (fun q _ h => hFc q h) hFc (fun q _ h => hFc q h) (fun kc9 kn9 E9 ce9 u t H1 locs ht hvm hw hB hz1 hk1 hS hcell hcv hcl => absurd hw id) (fun kc_3 kn_4 r_2 u t H1 locs ht hvm hw hB hz1 hk1 hS => ?_)
  obtain ⟨w_5, t_6, z_7, z_8, z_9⟩ := u
  try dsimp only at hw hB
  obtain ⟨hI_10, hq_11, hq_12, hq_13, hq_14⟩ := hw
  rw [hq_13, hq_14] at hI_10
  skip
  have hq_12a := hq_12.1
  have hq_12b := hq_12.2
  rw [hq_11] at hI_10
  obtain ⟨hP1, hK1, hD1⟩ := hB
  rw [ht] at hP1
  have hK1 := va_K.moved hvm.symm hK1
  obtain ⟨hP, hD⟩ := fr_apart hP hD hk1 hFc hP1 hD1
  have hK := (fr_Kr hK).app hK1
  clear hPc hDc hKc hFc hP1 hD1 hK1 hk1 hz1 ht hvm
  generalize H1 = H at hP hS ⊢
  refine lv_pop hx hb dL_law_202 rfl ?_
  refine lv_aload_n hx hb dL_law_203 rfl (lv_at hl 2 rfl) ?_
  have hPc := fr_Pl hP
  have hDc := fr_Dl hD
  have hKc := fr_Kl hK
  have hFc := fr_Fl hD hS hAA
  obtain ⟨fs_18, hfs_18⟩ := zIM_hd hIM
  refine vw_calli (vw_runV (As := []) (rest := []) ⟨hx, hb, hml, hown, hA⟩ (w_X14_fault l dC dI aK aV y wM tM ta zt zv gt  H.size hlt hIM) (cwV 0 hA (zw_V wi_1861 wi_1862 wi_1863 wi_143 (zw_good wi_1864)) rfl rfl rfl (by decide +kernel) ⟨(Nat.le_of_ble_eq_true rfl), (Nat.le_of_ble_eq_true rfl)⟩) ⟨zP_blind, va_recv hKc hPc (ci := 14) (q0 := 0) rfl hfs_18, zz_pre hKc hPc hDc hN hT hS hFc⟩ rfl rfl hl.1 rfl (lv_room (Nat.le_of_ble_eq_true rfl)) dL_law_204 ⟨by show (cells + kc_3) + 0 ≤ 601024; omega, by show (slots + kn_4) + 0 ≤ 7293034; omega⟩) hS (fun q _ h => hFc q h) hFc (fun q _ h => hFc q h) (fun kc9 kn9 E9 ce9 u t H1 locs ht hvm hw hB hz1 hk1 hS hcell hcv hcl => absurd hw id) (fun kc_20 kn_21 r_19 u t H1 locs ht hvm hw hB hz1 hk1 hS => ?_)
  obtain ⟨w_22, t_23, z_24, z_25, z_26, z_27⟩ := u
  try dsimp only at hw hB
  obtain ⟨hI_28, hq_29, hq_30, hq_31, hq_32, hq_33⟩ := hw
  rw [hq_30, hq_31, hq_33] at hI_28
  skip
  have hq_32a := hq_32.1
  have hq_32b := hq_32.2
  rw [hq_29] at hI_28
  obtain ⟨hP1, hK1, hD1⟩ := hB
  rw [ht] at hP1
  have hK1 := va_K.moved hvm.symm hK1
  obtain ⟨hP, hD⟩ := fr_apart hP hD hk1 hFc hP1 hD1
  have hK := (fr_Kr hK).app hK1
  clear hPc hDc hKc hFc hP1 hD1 hK1 hk1 hz1 ht hvm
  generalize H1 = H at hP hS ⊢
  refine lv_pop hx hb dL_law_207 rfl ?_
  refine lv_goto (tgt := 556) hx hb dL_law_208 (by decide) ?_
  obtain ⟨x_36, ex_36⟩ : ∃ y : Int32, y = i + Int32.ofInt 8 := ⟨_, rfl⟩
  refine lv_iinc (v := x_36) (lv' := [(4, .int x_36), (0, .ref b), (1, .ref x), (2, .ref y), (3, .ref ou)]) hx hb dL_law_556 hl (k := 4) rfl (by rw [ex_36]) (by decide) rfl (fun ls hl => ?_)
  have ix_36 : x_36.toInt = i.toInt + 8 := by rw [ex_36]; exact law_ad (by decide) (by decide) (by decide) hi0 hi1
  refine lv_goto (tgt := 23) hx hb dL_law_559 (by decide) ?_
  have hsz9 := zIM_sz hI_28
  exact ih x_36 w_5 t_6 fed w_22 t_23 ta zt zv gt _ _ _ _ _ (by omega) (by omega) (by omega) hI_10 hI_28 (by omega) hP hD hK hS (lv_sub hl [1, 2, 3, 4, 0] rfl) (by omega) (by omega)
set_option maxHeartbeats 40000000 in
set_option maxRecDepth 100000 in
theorem law_c3 {p : Program} {e : Env} {s : State} {m : MethodId} {below : List Frame} {meth : Method} {c : Code} (l : Launch) (hlt : l.stackTraces = false) {b L : Nat} {xs : Nat → Int32} (hL : L ≤ 4096) (hx : p.tables.exec = Jvm.exec) (hb : c.code = code) (hr : meth.sig.returnType = ret) (hml : c.maxLocals = 7) (hown : s.vm.findClass RL = some m.cls) (hA : ∀ w ∈ zw, w.before #[Value.ref b] s = true) (hX : va_X b L xs s s.heap) (hbl : b < s.heap.size) (hlocks : meth.locks = false) {A : Nat → Prop} (hAd : A = (fun q : Nat => s.heap.size ≤ q)) (hAA : ∀ q : Nat, s.heap.size ≤ q → A q) (hbA : ¬ A b) {dC : Nat → ClassId} {dI : Nat → Nat → Nat} {aK aV : Nat → Nat} (hN : zN s) (hT : zT aK aV A s s.heap) (x y ou : Nat) (n9 : Nat) (ih : ∀ (i : Int32) (wC : va_W) (tC : List (ClassId × FieldType)) (fed : Int32) (wM : va_W) (tM : List (ClassId × FieldType)) (ta : Int32) (zt zv : Nat) (gt : Nat → Int32) (H : Heap) (locs : List Loc) (ls : Array Slot) (cells slots : Nat), (4105 - i.toInt).toNat ≤ n9 → 0 ≤ i.toInt → i.toInt ≤ 4104 → zIC x wC tC fed ou gt → zIM y wM tM ta zt zv gt → fed.toInt = ta.toInt → va_P (dC, dI) vwCl (wC ++ wM) H → va_D A (wC ++ wM) → va_K (dC, dI) vwCl (tC ++ tM) s → va_S A s.heap H locs → lv_has ls 7 [(0, .ref b), (1, .ref x), (2, .ref y), (3, .ref ou), (4, .int i)] → (cells : Int) ≤ 200 + i.toInt + zG zt + zG zv → (slots : Int) ≤ 260000 + 3 * i.toInt + 4 * zt + 2 * zv → W p l e room_1 s m #[Value.ref b] below meth c H locs cells slots (lw_Z below #[Value.ref b] s) (F0 m 23 ls [])) (i : Int32) (wC : va_W) (tC : List (ClassId × FieldType)) (fed : Int32) (wM : va_W) (tM : List (ClassId × FieldType)) (ta : Int32) (zt zv : Nat) (gt : Nat → Int32) (H : Heap) (locs : List Loc) (ls : Array Slot) (cells slots : Nat) (hm9 : (4105 - i.toInt).toNat ≤ n9 + 1) (hi0 : 0 ≤ i.toInt) (hi1 : i.toInt ≤ 4104) (hIC : zIC x wC tC fed ou gt) (hIM : zIM y wM tM ta zt zv gt) (hft : fed.toInt = ta.toInt) (hP : va_P (dC, dI) vwCl (wC ++ wM) H) (hD : va_D A (wC ++ wM)) (hK : va_K (dC, dI) vwCl (tC ++ tM) s) (hS : va_S A s.heap H locs) (hl : lv_has ls 7 [(0, .ref b), (1, .ref x), (2, .ref y), (3, .ref ou), (4, .int i)]) (hce : (cells : Int) ≤ 200 + i.toInt + zG zt + zG zv) (hsl : (slots : Int) ≤ 260000 + 3 * i.toInt + 4 * zt + 2 * zv) (hil : i.toInt + 8 ≤ (L : Int)) : W p l e room_1 s m #[Value.ref b] below meth c H locs cells slots (lw_Z below #[Value.ref b] s) (F0 m 211 ls []) := by
  have hsz9 := zIM_sz hIM
  have hg1 := zG_le (z := zt)
  have hg2 := zG_le (z := zv)
  have hm : (4105 - i.toInt).toNat ≤ n9 + 1 := hm9
  refine lv_aload_n hx hb dL_law_211 rfl (lv_at hl 1 rfl) ?_
  have hPc := fr_Pl hP
  have hDc := fr_Dl hD
  have hKc := fr_Kl hK
  have hFc := fr_Fl hD hS hAA
  obtain ⟨fs_1, hfs_1⟩ := zIC_hd hIC
  refine vw_calli (vw_runV (As := []) (rest := []) ⟨hx, hb, hml, hown, hA⟩ (w_X11_where l dC dI aK aV x wC tC fed ou gt  H.size hlt hIC) (cwV 0 hA (zw_V wi_1070 wi_1071 wi_1072 wi_130 (zw_good wi_1073)) rfl rfl rfl (by decide +kernel) ⟨(Nat.le_of_ble_eq_true rfl), (Nat.le_of_ble_eq_true rfl)⟩) ⟨zP_blind, va_recv hKc hPc (ci := 11) (q0 := 0) rfl hfs_1, zz_pre hKc hPc hDc hN hT hS hFc⟩ rfl rfl hl.1 rfl (lv_room (Nat.le_of_ble_eq_true rfl)) dL_law_212 ⟨by show cells + 0 ≤ 601024; omega, by show slots + 0 ≤ 7293034; omega⟩) hS (fun q _ h => hFc q h) hFc (fun q _ h => hFc q h) (fun kc9 kn9 E9 ce9 u t H1 locs ht hvm hw hB hz1 hk1 hS hcell hcv hcl => absurd hw id) (fun kc_3 kn_4 r_2 u t H1 locs ht hvm hw hB hz1 hk1 hS => ?_)
  obtain ⟨w_5, t_6, z_7, z_8, z_9⟩ := u
  try dsimp only at hw hB
  obtain ⟨hI_10, hq_11, hq_12, hq_13, hq_14⟩ := hw
  rw [hq_13, hq_14] at hI_10
  skip
  have hq_12a := hq_12.1
  have hq_12b := hq_12.2
  rw [hq_11] at hI_10
  obtain ⟨hP1, hK1, hD1⟩ := hB
  rw [ht] at hP1
  have hK1 := va_K.moved hvm.symm hK1
  obtain ⟨hP, hD⟩ := fr_apart hP hD hk1 hFc hP1 hD1
  have hK := (fr_Kr hK).app hK1
  clear hPc hDc hKc hFc hP1 hD1 hK1 hk1 hz1 ht hvm
  generalize H1 = H at hP hS ⊢
  refine lv_pop hx hb dL_law_215 rfl ?_
  refine lv_aload_n hx hb dL_law_216 rfl (lv_at hl 2 rfl) ?_
  have hPc := fr_Pl hP
  have hDc := fr_Dl hD
  have hKc := fr_Kl hK
  have hFc := fr_Fl hD hS hAA
  obtain ⟨fs_18, hfs_18⟩ := zIM_hd hIM
  refine vw_calli (vw_runV (As := []) (rest := []) ⟨hx, hb, hml, hown, hA⟩ (w_X14_where l dC dI aK aV y wM tM ta zt zv gt  H.size hlt hIM) (cwV 0 hA (zw_V wi_1865 wi_1866 wi_1867 wi_143 (zw_good wi_1868)) rfl rfl rfl (by decide +kernel) ⟨(Nat.le_of_ble_eq_true rfl), (Nat.le_of_ble_eq_true rfl)⟩) ⟨zP_blind, va_recv hKc hPc (ci := 14) (q0 := 0) rfl hfs_18, zz_pre hKc hPc hDc hN hT hS hFc⟩ rfl rfl hl.1 rfl (lv_room (Nat.le_of_ble_eq_true rfl)) dL_law_217 ⟨by show (cells + kc_3) + 0 ≤ 601024; omega, by show (slots + kn_4) + 0 ≤ 7293034; omega⟩) hS (fun q _ h => hFc q h) hFc (fun q _ h => hFc q h) (fun kc9 kn9 E9 ce9 u t H1 locs ht hvm hw hB hz1 hk1 hS hcell hcv hcl => absurd hw id) (fun kc_20 kn_21 r_19 u t H1 locs ht hvm hw hB hz1 hk1 hS => ?_)
  obtain ⟨w_22, t_23, z_24, z_25, z_26, z_27⟩ := u
  try dsimp only at hw hB
  obtain ⟨hI_28, hq_29, hq_30, hq_31, hq_32, hq_33⟩ := hw
  rw [hq_30, hq_31, hq_33] at hI_28
  skip
  have hq_32a := hq_32.1
  have hq_32b := hq_32.2
  rw [hq_29] at hI_28
  obtain ⟨hP1, hK1, hD1⟩ := hB
  rw [ht] at hP1
  have hK1 := va_K.moved hvm.symm hK1
  obtain ⟨hP, hD⟩ := fr_apart hP hD hk1 hFc hP1 hD1
  have hK := (fr_Kr hK).app hK1
  clear hPc hDc hKc hFc hP1 hD1 hK1 hk1 hz1 ht hvm
  generalize H1 = H at hP hS ⊢
  refine lv_pop hx hb dL_law_220 rfl ?_
  refine lv_goto (tgt := 556) hx hb dL_law_221 (by decide) ?_
  obtain ⟨x_36, ex_36⟩ : ∃ y : Int32, y = i + Int32.ofInt 8 := ⟨_, rfl⟩
  refine lv_iinc (v := x_36) (lv' := [(4, .int x_36), (0, .ref b), (1, .ref x), (2, .ref y), (3, .ref ou)]) hx hb dL_law_556 hl (k := 4) rfl (by rw [ex_36]) (by decide) rfl (fun ls hl => ?_)
  have ix_36 : x_36.toInt = i.toInt + 8 := by rw [ex_36]; exact law_ad (by decide) (by decide) (by decide) hi0 hi1
  refine lv_goto (tgt := 23) hx hb dL_law_559 (by decide) ?_
  have hsz9 := zIM_sz hI_28
  exact ih x_36 w_5 t_6 fed w_22 t_23 ta zt zv gt _ _ _ _ _ (by omega) (by omega) (by omega) hI_10 hI_28 (by omega) hP hD hK hS (lv_sub hl [1, 2, 3, 4, 0] rfl) (by omega) (by omega)
set_option maxHeartbeats 40000000 in
set_option maxRecDepth 100000 in
theorem law_c4 {p : Program} {e : Env} {s : State} {m : MethodId} {below : List Frame} {meth : Method} {c : Code} (l : Launch) (hlt : l.stackTraces = false) {b L : Nat} {xs : Nat → Int32} (hL : L ≤ 4096) (hx : p.tables.exec = Jvm.exec) (hb : c.code = code) (hr : meth.sig.returnType = ret) (hml : c.maxLocals = 7) (hown : s.vm.findClass RL = some m.cls) (hA : ∀ w ∈ zw, w.before #[Value.ref b] s = true) (hX : va_X b L xs s s.heap) (hbl : b < s.heap.size) (hlocks : meth.locks = false) {A : Nat → Prop} (hAd : A = (fun q : Nat => s.heap.size ≤ q)) (hAA : ∀ q : Nat, s.heap.size ≤ q → A q) (hbA : ¬ A b) {dC : Nat → ClassId} {dI : Nat → Nat → Nat} {aK aV : Nat → Nat} (hN : zN s) (hT : zT aK aV A s s.heap) (x y ou : Nat) (n9 : Nat) (ih : ∀ (i : Int32) (wC : va_W) (tC : List (ClassId × FieldType)) (fed : Int32) (wM : va_W) (tM : List (ClassId × FieldType)) (ta : Int32) (zt zv : Nat) (gt : Nat → Int32) (H : Heap) (locs : List Loc) (ls : Array Slot) (cells slots : Nat), (4105 - i.toInt).toNat ≤ n9 → 0 ≤ i.toInt → i.toInt ≤ 4104 → zIC x wC tC fed ou gt → zIM y wM tM ta zt zv gt → fed.toInt = ta.toInt → va_P (dC, dI) vwCl (wC ++ wM) H → va_D A (wC ++ wM) → va_K (dC, dI) vwCl (tC ++ tM) s → va_S A s.heap H locs → lv_has ls 7 [(0, .ref b), (1, .ref x), (2, .ref y), (3, .ref ou), (4, .int i)] → (cells : Int) ≤ 200 + i.toInt + zG zt + zG zv → (slots : Int) ≤ 260000 + 3 * i.toInt + 4 * zt + 2 * zv → W p l e room_1 s m #[Value.ref b] below meth c H locs cells slots (lw_Z below #[Value.ref b] s) (F0 m 23 ls [])) (i : Int32) (wC : va_W) (tC : List (ClassId × FieldType)) (fed : Int32) (wM : va_W) (tM : List (ClassId × FieldType)) (ta : Int32) (zt zv : Nat) (gt : Nat → Int32) (H : Heap) (locs : List Loc) (ls : Array Slot) (cells slots : Nat) (hm9 : (4105 - i.toInt).toNat ≤ n9 + 1) (hi0 : 0 ≤ i.toInt) (hi1 : i.toInt ≤ 4104) (hIC : zIC x wC tC fed ou gt) (hIM : zIM y wM tM ta zt zv gt) (hft : fed.toInt = ta.toInt) (hP : va_P (dC, dI) vwCl (wC ++ wM) H) (hD : va_D A (wC ++ wM)) (hK : va_K (dC, dI) vwCl (tC ++ tM) s) (hS : va_S A s.heap H locs) (hl : lv_has ls 7 [(0, .ref b), (1, .ref x), (2, .ref y), (3, .ref ou), (4, .int i)]) (hce : (cells : Int) ≤ 200 + i.toInt + zG zt + zG zv) (hsl : (slots : Int) ≤ 260000 + 3 * i.toInt + 4 * zt + 2 * zv) (hil : i.toInt + 8 ≤ (L : Int)) : W p l e room_1 s m #[Value.ref b] below meth c H locs cells slots (lw_Z below #[Value.ref b] s) (F0 m 224 ls []) := by
  have hsz9 := zIM_sz hIM
  have hg1 := zG_le (z := zt)
  have hg2 := zG_le (z := zv)
  have hm : (4105 - i.toInt).toNat ≤ n9 + 1 := hm9
  refine lv_aload_n hx hb dL_law_224 rfl (lv_at hl 1 rfl) ?_
  refine lv_aload_n hx hb dL_law_225 rfl (lv_at hl 0 rfl) ?_
  refine lv_iload hx hb dL_law_226 (lv_at hl 4 rfl) ?_
  refine lv_iconst (v := 1) hx hb dL_law_228 (by decide) ?_
  refine lv_iadd hx hb dL_law_229 ?_
  refine lv_topi (fun x_1 ex_1 => ?_)
  have ix_1 : x_1.toInt = i.toInt + 1 := by rw [ex_1]; exact law_ad (by decide) (by decide) (by decide) hi0 hi1
  refine va_sld hx hb hX hbl hbA hS (law_ix ix_1 (by decide) (by decide) hi0 hil) dL_law_230 ?_
  refine lv_topi (fun x_2 ex_2 => ?_)
  refine lv_aload_n hx hb dL_law_231 rfl (lv_at hl 0 rfl) ?_
  refine lv_iload hx hb dL_law_232 (lv_at hl 4 rfl) ?_
  refine lv_iconst (v := 2) hx hb dL_law_234 (by decide) ?_
  refine lv_iadd hx hb dL_law_235 ?_
  refine lv_topi (fun x_3 ex_3 => ?_)
  have ix_3 : x_3.toInt = i.toInt + 2 := by rw [ex_3]; exact law_ad (by decide) (by decide) (by decide) hi0 hi1
  refine va_sld hx hb hX hbl hbA hS (law_ix ix_3 (by decide) (by decide) hi0 hil) dL_law_236 ?_
  refine lv_topi (fun x_4 ex_4 => ?_)
  have hPc := fr_Pl hP
  have hDc := fr_Dl hD
  have hKc := fr_Kl hK
  have hFc := fr_Fl hD hS hAA
  obtain ⟨fs_5, hfs_5⟩ := zIC_hd hIC
  refine vw_calli (vw_runV (As := [.int x_2, .int x_4]) (rest := []) ⟨hx, hb, hml, hown, hA⟩ (w_X11_about l dC dI aK aV x wC tC fed ou gt x_2 x_4 H.size hlt hIC) (cwV 2 hA (zw_V wi_1074 wi_1075 wi_1076 wi_130 (zw_good wi_1077)) rfl rfl rfl (by decide +kernel) ⟨(Nat.le_of_ble_eq_true rfl), (Nat.le_of_ble_eq_true rfl)⟩) ⟨zP_blind, va_recv hKc hPc (ci := 11) (q0 := 0) rfl hfs_5, zz_pre hKc hPc hDc hN hT hS hFc⟩ rfl rfl hl.1 rfl (lv_room (Nat.le_of_ble_eq_true rfl)) dL_law_237 ⟨by show cells + 0 ≤ 601024; omega, by show slots + 0 ≤ 7293034; omega⟩) hS (fun q _ h => hFc q h) hFc (fun q _ h => hFc q h) (fun kc9 kn9 E9 ce9 u t H1 locs ht hvm hw hB hz1 hk1 hS hcell hcv hcl => absurd hw id) (fun kc_7 kn_8 r_6 u t H1 locs ht hvm hw hB hz1 hk1 hS => ?_)
  obtain ⟨w_9, t_10, z_11, z_12, z_13⟩ := u
  try dsimp only at hw hB
  obtain ⟨hI_14, hq_15, hq_16, hq_17, hq_18⟩ := hw
  rw [hq_17, hq_18] at hI_14
  skip
  have hq_16a := hq_16.1
  have hq_16b := hq_16.2
  rw [hq_15] at hI_14
  obtain ⟨hP1, hK1, hD1⟩ := hB
  rw [ht] at hP1
  have hK1 := va_K.moved hvm.symm hK1
  obtain ⟨hP, hD⟩ := fr_apart hP hD hk1 hFc hP1 hD1
  have hK := (fr_Kr hK).app hK1
  clear hPc hDc hKc hFc hP1 hD1 hK1 hk1 hz1 ht hvm
  generalize H1 = H at hP hS ⊢
  refine lv_pop hx hb dL_law_240 rfl ?_
  refine lv_aload_n hx hb dL_law_241 rfl (lv_at hl 2 rfl) ?_
  refine lv_aload_n hx hb dL_law_242 rfl (lv_at hl 0 rfl) ?_
  refine lv_iload hx hb dL_law_243 (lv_at hl 4 rfl) ?_
  refine lv_iconst (v := 1) hx hb dL_law_245 (by decide) ?_
  refine lv_iadd hx hb dL_law_246 ?_
  refine lv_topi (fun x_22 ex_22 => ?_)
  have ix_22 : x_22.toInt = i.toInt + 1 := by rw [ex_22]; exact law_ad (by decide) (by decide) (by decide) hi0 hi1
  refine va_sld hx hb hX hbl hbA hS (law_ix ix_22 (by decide) (by decide) hi0 hil) dL_law_247 ?_
  refine lv_topi (fun x_23 ex_23 => ?_)
  refine lv_aload_n hx hb dL_law_248 rfl (lv_at hl 0 rfl) ?_
  refine lv_iload hx hb dL_law_249 (lv_at hl 4 rfl) ?_
  refine lv_iconst (v := 2) hx hb dL_law_251 (by decide) ?_
  refine lv_iadd hx hb dL_law_252 ?_
  refine lv_topi (fun x_24 ex_24 => ?_)
  have ix_24 : x_24.toInt = i.toInt + 2 := by rw [ex_24]; exact law_ad (by decide) (by decide) (by decide) hi0 hi1
  refine va_sld hx hb hX hbl hbA hS (law_ix ix_24 (by decide) (by decide) hi0 hil) dL_law_253 ?_
  refine lv_topi (fun x_25 ex_25 => ?_)
  have hPc := fr_Pl hP
  have hDc := fr_Dl hD
  have hKc := fr_Kl hK
  have hFc := fr_Fl hD hS hAA
  obtain ⟨fs_26, hfs_26⟩ := zIM_hd hIM
  refine vw_calli (vw_runV (As := [.int x_23, .int x_25]) (rest := []) ⟨hx, hb, hml, hown, hA⟩ (w_X14_about l dC dI aK aV y wM tM ta zt zv gt x_23 x_25 H.size hlt hIM) (cwV 2 hA (zw_V wi_1869 wi_1870 wi_1871 wi_143 (zw_good wi_1872)) rfl rfl rfl (by decide +kernel) ⟨(Nat.le_of_ble_eq_true rfl), (Nat.le_of_ble_eq_true rfl)⟩) ⟨zP_blind, va_recv hKc hPc (ci := 14) (q0 := 0) rfl hfs_26, zz_pre hKc hPc hDc hN hT hS hFc⟩ rfl rfl hl.1 rfl (lv_room (Nat.le_of_ble_eq_true rfl)) dL_law_254 ⟨by show (cells + kc_7) + 0 ≤ 601024; omega, by show (slots + kn_8) + 0 ≤ 7293034; omega⟩) hS (fun q _ h => hFc q h) hFc (fun q _ h => hFc q h) (fun kc9 kn9 E9 ce9 u t H1 locs ht hvm hw hB hz1 hk1 hS hcell hcv hcl => absurd hw id) (fun kc_28 kn_29 r_27 u t H1 locs ht hvm hw hB hz1 hk1 hS => ?_)
  obtain ⟨w_30, t_31, z_32, z_33, z_34, z_35⟩ := u
  try dsimp only at hw hB
  obtain ⟨hI_36, hq_37, hq_38, hq_39, hq_40, hq_41⟩ := hw
  rw [hq_38, hq_39, hq_41] at hI_36
  skip
  have hq_40a := hq_40.1
  have hq_40b := hq_40.2
  rw [hq_37] at hI_36
  obtain ⟨hP1, hK1, hD1⟩ := hB
  rw [ht] at hP1
  have hK1 := va_K.moved hvm.symm hK1
  obtain ⟨hP, hD⟩ := fr_apart hP hD hk1 hFc hP1 hD1
  have hK := (fr_Kr hK).app hK1
  clear hPc hDc hKc hFc hP1 hD1 hK1 hk1 hz1 ht hvm
  generalize H1 = H at hP hS ⊢
  refine lv_pop hx hb dL_law_257 rfl ?_
  refine lv_goto (tgt := 556) hx hb dL_law_258 (by decide) ?_
  obtain ⟨x_44, ex_44⟩ : ∃ y : Int32, y = i + Int32.ofInt 8 := ⟨_, rfl⟩
  refine lv_iinc (v := x_44) (lv' := [(4, .int x_44), (0, .ref b), (1, .ref x), (2, .ref y), (3, .ref ou)]) hx hb dL_law_556 hl (k := 4) rfl (by rw [ex_44]) (by decide) rfl (fun ls hl => ?_)
  have ix_44 : x_44.toInt = i.toInt + 8 := by rw [ex_44]; exact law_ad (by decide) (by decide) (by decide) hi0 hi1
  refine lv_goto (tgt := 23) hx hb dL_law_559 (by decide) ?_
  have hsz9 := zIM_sz hI_36
  exact ih x_44 w_9 t_10 fed w_30 t_31 ta zt zv gt _ _ _ _ _ (by omega) (by omega) (by omega) hI_14 hI_36 (by omega) hP hD hK hS (lv_sub hl [1, 2, 3, 4, 0] rfl) (by omega) (by omega)
set_option maxHeartbeats 40000000 in
set_option maxRecDepth 100000 in
theorem law_c5 {p : Program} {e : Env} {s : State} {m : MethodId} {below : List Frame} {meth : Method} {c : Code} (l : Launch) (hlt : l.stackTraces = false) {b L : Nat} {xs : Nat → Int32} (hL : L ≤ 4096) (hx : p.tables.exec = Jvm.exec) (hb : c.code = code) (hr : meth.sig.returnType = ret) (hml : c.maxLocals = 7) (hown : s.vm.findClass RL = some m.cls) (hA : ∀ w ∈ zw, w.before #[Value.ref b] s = true) (hX : va_X b L xs s s.heap) (hbl : b < s.heap.size) (hlocks : meth.locks = false) {A : Nat → Prop} (hAd : A = (fun q : Nat => s.heap.size ≤ q)) (hAA : ∀ q : Nat, s.heap.size ≤ q → A q) (hbA : ¬ A b) {dC : Nat → ClassId} {dI : Nat → Nat → Nat} {aK aV : Nat → Nat} (hN : zN s) (hT : zT aK aV A s s.heap) (x y ou : Nat) (n9 : Nat) (ih : ∀ (i : Int32) (wC : va_W) (tC : List (ClassId × FieldType)) (fed : Int32) (wM : va_W) (tM : List (ClassId × FieldType)) (ta : Int32) (zt zv : Nat) (gt : Nat → Int32) (H : Heap) (locs : List Loc) (ls : Array Slot) (cells slots : Nat), (4105 - i.toInt).toNat ≤ n9 → 0 ≤ i.toInt → i.toInt ≤ 4104 → zIC x wC tC fed ou gt → zIM y wM tM ta zt zv gt → fed.toInt = ta.toInt → va_P (dC, dI) vwCl (wC ++ wM) H → va_D A (wC ++ wM) → va_K (dC, dI) vwCl (tC ++ tM) s → va_S A s.heap H locs → lv_has ls 7 [(0, .ref b), (1, .ref x), (2, .ref y), (3, .ref ou), (4, .int i)] → (cells : Int) ≤ 200 + i.toInt + zG zt + zG zv → (slots : Int) ≤ 260000 + 3 * i.toInt + 4 * zt + 2 * zv → W p l e room_1 s m #[Value.ref b] below meth c H locs cells slots (lw_Z below #[Value.ref b] s) (F0 m 23 ls [])) (i : Int32) (wC : va_W) (tC : List (ClassId × FieldType)) (fed : Int32) (wM : va_W) (tM : List (ClassId × FieldType)) (ta : Int32) (zt zv : Nat) (gt : Nat → Int32) (H : Heap) (locs : List Loc) (ls : Array Slot) (cells slots : Nat) (hm9 : (4105 - i.toInt).toNat ≤ n9 + 1) (hi0 : 0 ≤ i.toInt) (hi1 : i.toInt ≤ 4104) (hIC : zIC x wC tC fed ou gt) (hIM : zIM y wM tM ta zt zv gt) (hft : fed.toInt = ta.toInt) (hP : va_P (dC, dI) vwCl (wC ++ wM) H) (hD : va_D A (wC ++ wM)) (hK : va_K (dC, dI) vwCl (tC ++ tM) s) (hS : va_S A s.heap H locs) (hl : lv_has ls 7 [(0, .ref b), (1, .ref x), (2, .ref y), (3, .ref ou), (4, .int i)]) (hce : (cells : Int) ≤ 200 + i.toInt + zG zt + zG zv) (hsl : (slots : Int) ≤ 260000 + 3 * i.toInt + 4 * zt + 2 * zv) (hil : i.toInt + 8 ≤ (L : Int)) : W p l e room_1 s m #[Value.ref b] below meth c H locs cells slots (lw_Z below #[Value.ref b] s) (F0 m 261 ls []) := by
  have hsz9 := zIM_sz hIM
  have hg1 := zG_le (z := zt)
  have hg2 := zG_le (z := zv)
  have hm : (4105 - i.toInt).toNat ≤ n9 + 1 := hm9
  refine lv_aload_n hx hb dL_law_261 rfl (lv_at hl 1 rfl) ?_
  refine lv_aload_n hx hb dL_law_262 rfl (lv_at hl 0 rfl) ?_
  refine lv_iload hx hb dL_law_263 (lv_at hl 4 rfl) ?_
  refine lv_iconst (v := 1) hx hb dL_law_265 (by decide) ?_
  refine lv_iadd hx hb dL_law_266 ?_
  refine lv_topi (fun x_1 ex_1 => ?_)
  have ix_1 : x_1.toInt = i.toInt + 1 := by rw [ex_1]; exact law_ad (by decide) (by decide) (by decide) hi0 hi1
  refine va_sld hx hb hX hbl hbA hS (law_ix ix_1 (by decide) (by decide) hi0 hil) dL_law_267 ?_
  refine lv_topi (fun x_2 ex_2 => ?_)
  refine lv_aload_n hx hb dL_law_268 rfl (lv_at hl 0 rfl) ?_
  refine lv_iload hx hb dL_law_269 (lv_at hl 4 rfl) ?_
  refine lv_iconst (v := 2) hx hb dL_law_271 (by decide) ?_
  refine lv_iadd hx hb dL_law_272 ?_
  refine lv_topi (fun x_3 ex_3 => ?_)
  have ix_3 : x_3.toInt = i.toInt + 2 := by rw [ex_3]; exact law_ad (by decide) (by decide) (by decide) hi0 hi1
  refine va_sld hx hb hX hbl hbA hS (law_ix ix_3 (by decide) (by decide) hi0 hil) dL_law_273 ?_
  refine lv_topi (fun x_4 ex_4 => ?_)
  refine lv_aload_n hx hb dL_law_274 rfl (lv_at hl 0 rfl) ?_
  refine lv_iload hx hb dL_law_275 (lv_at hl 4 rfl) ?_
  refine lv_iconst (v := 3) hx hb dL_law_277 (by decide) ?_
  refine lv_iadd hx hb dL_law_278 ?_
  refine lv_topi (fun x_5 ex_5 => ?_)
  have ix_5 : x_5.toInt = i.toInt + 3 := by rw [ex_5]; exact law_ad (by decide) (by decide) (by decide) hi0 hi1
  refine va_sld hx hb hX hbl hbA hS (law_ix ix_5 (by decide) (by decide) hi0 hil) dL_law_279 ?_
  refine lv_topi (fun x_6 ex_6 => ?_)
  refine lv_aload_n hx hb dL_law_280 rfl (lv_at hl 0 rfl) ?_
  refine lv_iload hx hb dL_law_281 (lv_at hl 4 rfl) ?_
  refine lv_iconst (v := 4) hx hb dL_law_283 (by decide) ?_
  refine lv_iadd hx hb dL_law_284 ?_
  refine lv_topi (fun x_7 ex_7 => ?_)
  have ix_7 : x_7.toInt = i.toInt + 4 := by rw [ex_7]; exact law_ad (by decide) (by decide) (by decide) hi0 hi1
  refine va_sld hx hb hX hbl hbA hS (law_ix ix_7 (by decide) (by decide) hi0 hil) dL_law_285 ?_
  refine lv_topi (fun x_8 ex_8 => ?_)
  refine lv_aload_n hx hb dL_law_286 rfl (lv_at hl 0 rfl) ?_
  refine lv_iload hx hb dL_law_287 (lv_at hl 4 rfl) ?_
  refine lv_iconst (v := 5) hx hb dL_law_289 (by decide) ?_
  refine lv_iadd hx hb dL_law_290 ?_
  refine lv_topi (fun x_9 ex_9 => ?_)
  have ix_9 : x_9.toInt = i.toInt + 5 := by rw [ex_9]; exact law_ad (by decide) (by decide) (by decide) hi0 hi1
  refine va_sld hx hb hX hbl hbA hS (law_ix ix_9 (by decide) (by decide) hi0 hil) dL_law_291 ?_
  refine lv_topi (fun x_10 ex_10 => ?_)
  refine lv_aload_n hx hb dL_law_292 rfl (lv_at hl 0 rfl) ?_
  refine lv_iload hx hb dL_law_293 (lv_at hl 4 rfl) ?_
  refine lv_bipush (v := 6) hx hb dL_law_295 (by decide) ?_
  refine lv_iadd hx hb dL_law_297 ?_
  refine lv_topi (fun x_11 ex_11 => ?_)
  have ix_11 : x_11.toInt = i.toInt + 6 := by rw [ex_11]; exact law_ad (by decide) (by decide) (by decide) hi0 hi1
  refine va_sld hx hb hX hbl hbA hS (law_ix ix_11 (by decide) (by decide) hi0 hil) dL_law_298 ?_
  refine lv_topi (fun x_12 ex_12 => ?_)
  refine lv_aload_n hx hb dL_law_299 rfl (lv_at hl 0 rfl) ?_
  refine lv_iload hx hb dL_law_300 (lv_at hl 4 rfl) ?_
  refine lv_bipush (v := 7) hx hb dL_law_302 (by decide) ?_
  refine lv_iadd hx hb dL_law_304 ?_
  refine lv_topi (fun x_13 ex_13 => ?_)
  have ix_13 : x_13.toInt = i.toInt + 7 := by rw [ex_13]; exact law_ad (by decide) (by decide) (by decide) hi0 hi1
  refine va_sld hx hb hX hbl hbA hS (law_ix ix_13 (by decide) (by decide) hi0 hil) dL_law_305 ?_
  refine lv_topi (fun x_14 ex_14 => ?_)
  have hPc := fr_Pl hP
  have hDc := fr_Dl hD
  have hKc := fr_Kl hK
  have hFc := fr_Fl hD hS hAA
  obtain ⟨fs_15, hfs_15⟩ := zIC_hd hIC
  refine vw_calli (vw_runV (As := [.int x_2, .int x_4, .int x_6, .int x_8, .int x_10, .int x_12, .int x_14]) (rest := []) ⟨hx, hb, hml, hown, hA⟩ (w_X11_run l dC dI aK aV x wC tC fed ou gt x_2 x_4 x_6 x_8 x_10 x_12 x_14 H.size hlt hIC) (cwV 7 hA (zw_V wi_1080 wi_1081 wi_1082 wi_130 (zw_good wi_1083)) rfl rfl rfl (by decide +kernel) ⟨(Nat.le_of_ble_eq_true rfl), (Nat.le_of_ble_eq_true rfl)⟩) ⟨zP_blind, va_recv hKc hPc (ci := 11) (q0 := 0) rfl hfs_15, zz_pre hKc hPc hDc hN hT hS hFc⟩ rfl rfl hl.1 rfl (lv_room (Nat.le_of_ble_eq_true rfl)) dL_law_306 ⟨by show cells + 0 ≤ 601024; omega, by show slots + 0 ≤ 7293034; omega⟩) hS (fun q _ h => hFc q h) hFc (fun q _ h => hFc q h) (fun kc9 kn9 E9 ce9 u t H1 locs ht hvm hw hB hz1 hk1 hS hcell hcv hcl => absurd hw id) (fun kc_17 kn_18 r_16 u t H1 locs ht hvm hw hB hz1 hk1 hS => ?_)
  obtain ⟨w_19, t_20, z_21, z_22, z_23⟩ := u
  try dsimp only at hw hB
  obtain ⟨hI_24, hq_25, hq_26, hq_27, hq_28⟩ := hw
  rw [hq_27, hq_28] at hI_24
  skip
  have hq_26a := hq_26.1
  have hq_26b := hq_26.2
  rw [hq_25] at hI_24
  obtain ⟨hP1, hK1, hD1⟩ := hB
  rw [ht] at hP1
  have hK1 := va_K.moved hvm.symm hK1
  obtain ⟨hP, hD⟩ := fr_apart hP hD hk1 hFc hP1 hD1
  have hK := (fr_Kr hK).app hK1
  clear hPc hDc hKc hFc hP1 hD1 hK1 hk1 hz1 ht hvm
  generalize H1 = H at hP hS ⊢
  refine lv_pop hx hb dL_law_309 rfl ?_
  refine lv_aload_n hx hb dL_law_310 rfl (lv_at hl 2 rfl) ?_
  refine lv_aload_n hx hb dL_law_311 rfl (lv_at hl 0 rfl) ?_
  refine lv_iload hx hb dL_law_312 (lv_at hl 4 rfl) ?_
  refine lv_iconst (v := 1) hx hb dL_law_314 (by decide) ?_
  refine lv_iadd hx hb dL_law_315 ?_
  refine lv_topi (fun x_32 ex_32 => ?_)
  have ix_32 : x_32.toInt = i.toInt + 1 := by rw [ex_32]; exact law_ad (by decide) (by decide) (by decide) hi0 hi1
  refine va_sld hx hb hX hbl hbA hS (law_ix ix_32 (by decide) (by decide) hi0 hil) dL_law_316 ?_
  refine lv_topi (fun x_33 ex_33 => ?_)
  refine lv_aload_n hx hb dL_law_317 rfl (lv_at hl 0 rfl) ?_
  refine lv_iload hx hb dL_law_318 (lv_at hl 4 rfl) ?_
  refine lv_iconst (v := 2) hx hb dL_law_320 (by decide) ?_
  refine lv_iadd hx hb dL_law_321 ?_
  refine lv_topi (fun x_34 ex_34 => ?_)
  have ix_34 : x_34.toInt = i.toInt + 2 := by rw [ex_34]; exact law_ad (by decide) (by decide) (by decide) hi0 hi1
  refine va_sld hx hb hX hbl hbA hS (law_ix ix_34 (by decide) (by decide) hi0 hil) dL_law_322 ?_
  refine lv_topi (fun x_35 ex_35 => ?_)
  refine lv_aload_n hx hb dL_law_323 rfl (lv_at hl 0 rfl) ?_
  refine lv_iload hx hb dL_law_324 (lv_at hl 4 rfl) ?_
  refine lv_iconst (v := 3) hx hb dL_law_326 (by decide) ?_
  refine lv_iadd hx hb dL_law_327 ?_
  refine lv_topi (fun x_36 ex_36 => ?_)
  have ix_36 : x_36.toInt = i.toInt + 3 := by rw [ex_36]; exact law_ad (by decide) (by decide) (by decide) hi0 hi1
  refine va_sld hx hb hX hbl hbA hS (law_ix ix_36 (by decide) (by decide) hi0 hil) dL_law_328 ?_
  refine lv_topi (fun x_37 ex_37 => ?_)
  refine lv_aload_n hx hb dL_law_329 rfl (lv_at hl 0 rfl) ?_
  refine lv_iload hx hb dL_law_330 (lv_at hl 4 rfl) ?_
  refine lv_iconst (v := 4) hx hb dL_law_332 (by decide) ?_
  refine lv_iadd hx hb dL_law_333 ?_
  refine lv_topi (fun x_38 ex_38 => ?_)
  have ix_38 : x_38.toInt = i.toInt + 4 := by rw [ex_38]; exact law_ad (by decide) (by decide) (by decide) hi0 hi1
  refine va_sld hx hb hX hbl hbA hS (law_ix ix_38 (by decide) (by decide) hi0 hil) dL_law_334 ?_
  refine lv_topi (fun x_39 ex_39 => ?_)
  refine lv_aload_n hx hb dL_law_335 rfl (lv_at hl 0 rfl) ?_
  refine lv_iload hx hb dL_law_336 (lv_at hl 4 rfl) ?_
  refine lv_iconst (v := 5) hx hb dL_law_338 (by decide) ?_
  refine lv_iadd hx hb dL_law_339 ?_
  refine lv_topi (fun x_40 ex_40 => ?_)
  have ix_40 : x_40.toInt = i.toInt + 5 := by rw [ex_40]; exact law_ad (by decide) (by decide) (by decide) hi0 hi1
  refine va_sld hx hb hX hbl hbA hS (law_ix ix_40 (by decide) (by decide) hi0 hil) dL_law_340 ?_
  refine lv_topi (fun x_41 ex_41 => ?_)
  refine lv_aload_n hx hb dL_law_341 rfl (lv_at hl 0 rfl) ?_
  refine lv_iload hx hb dL_law_342 (lv_at hl 4 rfl) ?_
  refine lv_bipush (v := 6) hx hb dL_law_344 (by decide) ?_
  refine lv_iadd hx hb dL_law_346 ?_
  refine lv_topi (fun x_42 ex_42 => ?_)
  have ix_42 : x_42.toInt = i.toInt + 6 := by rw [ex_42]; exact law_ad (by decide) (by decide) (by decide) hi0 hi1
  refine va_sld hx hb hX hbl hbA hS (law_ix ix_42 (by decide) (by decide) hi0 hil) dL_law_347 ?_
  refine lv_topi (fun x_43 ex_43 => ?_)
  refine lv_aload_n hx hb dL_law_348 rfl (lv_at hl 0 rfl) ?_
  refine lv_iload hx hb dL_law_349 (lv_at hl 4 rfl) ?_
  refine lv_bipush (v := 7) hx hb dL_law_351 (by decide) ?_
  refine lv_iadd hx hb dL_law_353 ?_
  refine lv_topi (fun x_44 ex_44 => ?_)
  have ix_44 : x_44.toInt = i.toInt + 7 := by rw [ex_44]; exact law_ad (by decide) (by decide) (by decide) hi0 hi1
  refine va_sld hx hb hX hbl hbA hS (law_ix ix_44 (by decide) (by decide) hi0 hil) dL_law_354 ?_
  refine lv_topi (fun x_45 ex_45 => ?_)
  have hPc := fr_Pl hP
  have hDc := fr_Dl hD
  have hKc := fr_Kl hK
  have hFc := fr_Fl hD hS hAA
  obtain ⟨fs_46, hfs_46⟩ := zIM_hd hIM
  refine vw_calli (vw_runV (As := [.int x_33, .int x_35, .int x_37, .int x_39, .int x_41, .int x_43, .int x_45]) (rest := []) ⟨hx, hb, hml, hown, hA⟩ (w_X14_run l dC dI aK aV y wM tM ta zt zv gt x_33 x_35 x_37 x_39 x_41 x_43 x_45 H.size hlt hIM) (cwV 7 hA (zw_V wi_1881 wi_1882 wi_1883 wi_143 (zw_good wi_1884)) rfl rfl rfl (by decide +kernel) ⟨(Nat.le_of_ble_eq_true rfl), (Nat.le_of_ble_eq_true rfl)⟩) ⟨zP_blind, va_recv hKc hPc (ci := 14) (q0 := 0) rfl hfs_46, zz_pre hKc hPc hDc hN hT hS hFc⟩ rfl rfl hl.1 rfl (lv_room (Nat.le_of_ble_eq_true rfl)) dL_law_355 ⟨law_rc hce hq_26a hi1 hsz9 (by decide), law_rs hsl hq_26b hi1 hsz9 (by decide)⟩) hS (fun q _ h => hFc q h) hFc (fun q _ h => hFc q h) (fun kc9 kn9 E9 ce9 u t H1 locs ht hvm hw hB hz1 hk1 hS hcell hcv hcl => absurd hw id) (fun kc_48 kn_49 r_47 u t H1 locs ht hvm hw hB hz1 hk1 hS => ?_)
  obtain ⟨w_50, t_51, z_52, z_53, z_54, z_55⟩ := u
  try dsimp only at hw hB
  obtain ⟨hI_56, hq_64, hq_65, hq_66, hq_67, hq_68, hq_69, hq_70⟩ := hw
  rw [hq_64, hq_70] at hI_56
  have hce2 := law_ce hce hq_26a hq_65 (by decide)
  have hsl2 := law_sl hsl hq_26b hq_66 (by decide)
  clear hq_65 hq_66 hq_67 hq_68 hq_69 hce hsl
  obtain ⟨hP1, hK1, hD1⟩ := hB
  rw [ht] at hP1
  have hK1 := va_K.moved hvm.symm hK1
  obtain ⟨hP, hD⟩ := fr_apart hP hD hk1 hFc hP1 hD1
  have hK := (fr_Kr hK).app hK1
  clear hPc hDc hKc hFc hP1 hD1 hK1 hk1 hz1 ht hvm
  generalize H1 = H at hP hS ⊢
  refine lv_pop hx hb dL_law_358 rfl ?_
  refine lv_goto (tgt := 556) hx hb dL_law_359 (by decide) ?_
  obtain ⟨x_71, ex_71⟩ : ∃ y : Int32, y = i + Int32.ofInt 8 := ⟨_, rfl⟩
  refine lv_iinc (v := x_71) (lv' := [(4, .int x_71), (0, .ref b), (1, .ref x), (2, .ref y), (3, .ref ou)]) hx hb dL_law_556 hl (k := 4) rfl (by rw [ex_71]) (by decide) rfl (fun ls hl => ?_)
  have ix_71 : x_71.toInt = i.toInt + 8 := by rw [ex_71]; exact law_ad (by decide) (by decide) (by decide) hi0 hi1
  refine lv_goto (tgt := 23) hx hb dL_law_559 (by decide) ?_
  have hsz9 := zIM_sz hI_56
  have hmm := law_hm hm ix_71 hi0 hil hL
  exact ih x_71 w_19 t_20 fed w_50 t_51 ta z_53 z_54 gt _ _ _ _ _ hmm.1 hmm.2.1 hmm.2.2 hI_24 hI_56 hft hP hD hK hS (lv_sub hl [1, 2, 3, 4, 0] rfl) (by rw [ix_71]; exact hce2) (by rw [ix_71]; exact hsl2)
set_option maxHeartbeats 40000000 in
set_option maxRecDepth 100000 in
theorem law_c6 {p : Program} {e : Env} {s : State} {m : MethodId} {below : List Frame} {meth : Method} {c : Code} (l : Launch) (hlt : l.stackTraces = false) {b L : Nat} {xs : Nat → Int32} (hL : L ≤ 4096) (hx : p.tables.exec = Jvm.exec) (hb : c.code = code) (hr : meth.sig.returnType = ret) (hml : c.maxLocals = 7) (hown : s.vm.findClass RL = some m.cls) (hA : ∀ w ∈ zw, w.before #[Value.ref b] s = true) (hX : va_X b L xs s s.heap) (hbl : b < s.heap.size) (hlocks : meth.locks = false) {A : Nat → Prop} (hAd : A = (fun q : Nat => s.heap.size ≤ q)) (hAA : ∀ q : Nat, s.heap.size ≤ q → A q) (hbA : ¬ A b) {dC : Nat → ClassId} {dI : Nat → Nat → Nat} {aK aV : Nat → Nat} (hN : zN s) (hT : zT aK aV A s s.heap) (x y ou : Nat) (n9 : Nat) (ih : ∀ (i : Int32) (wC : va_W) (tC : List (ClassId × FieldType)) (fed : Int32) (wM : va_W) (tM : List (ClassId × FieldType)) (ta : Int32) (zt zv : Nat) (gt : Nat → Int32) (H : Heap) (locs : List Loc) (ls : Array Slot) (cells slots : Nat), (4105 - i.toInt).toNat ≤ n9 → 0 ≤ i.toInt → i.toInt ≤ 4104 → zIC x wC tC fed ou gt → zIM y wM tM ta zt zv gt → fed.toInt = ta.toInt → va_P (dC, dI) vwCl (wC ++ wM) H → va_D A (wC ++ wM) → va_K (dC, dI) vwCl (tC ++ tM) s → va_S A s.heap H locs → lv_has ls 7 [(0, .ref b), (1, .ref x), (2, .ref y), (3, .ref ou), (4, .int i)] → (cells : Int) ≤ 200 + i.toInt + zG zt + zG zv → (slots : Int) ≤ 260000 + 3 * i.toInt + 4 * zt + 2 * zv → W p l e room_1 s m #[Value.ref b] below meth c H locs cells slots (lw_Z below #[Value.ref b] s) (F0 m 23 ls [])) (i : Int32) (wC : va_W) (tC : List (ClassId × FieldType)) (fed : Int32) (wM : va_W) (tM : List (ClassId × FieldType)) (ta : Int32) (zt zv : Nat) (gt : Nat → Int32) (H : Heap) (locs : List Loc) (ls : Array Slot) (cells slots : Nat) (hm9 : (4105 - i.toInt).toNat ≤ n9 + 1) (hi0 : 0 ≤ i.toInt) (hi1 : i.toInt ≤ 4104) (hIC : zIC x wC tC fed ou gt) (hIM : zIM y wM tM ta zt zv gt) (hft : fed.toInt = ta.toInt) (hP : va_P (dC, dI) vwCl (wC ++ wM) H) (hD : va_D A (wC ++ wM)) (hK : va_K (dC, dI) vwCl (tC ++ tM) s) (hS : va_S A s.heap H locs) (hl : lv_has ls 7 [(0, .ref b), (1, .ref x), (2, .ref y), (3, .ref ou), (4, .int i)]) (hce : (cells : Int) ≤ 200 + i.toInt + zG zt + zG zv) (hsl : (slots : Int) ≤ 260000 + 3 * i.toInt + 4 * zt + 2 * zv) (hil : i.toInt + 8 ≤ (L : Int)) : W p l e room_1 s m #[Value.ref b] below meth c H locs cells slots (lw_Z below #[Value.ref b] s) (F0 m 362 ls []) := by
  have hsz9 := zIM_sz hIM
  have hg1 := zG_le (z := zt)
  have hg2 := zG_le (z := zv)
  have hm : (4105 - i.toInt).toNat ≤ n9 + 1 := hm9
  refine lv_aload_n hx hb dL_law_362 rfl (lv_at hl 1 rfl) ?_
  refine lv_aload_n hx hb dL_law_363 rfl (lv_at hl 0 rfl) ?_
  refine lv_iload hx hb dL_law_364 (lv_at hl 4 rfl) ?_
  refine lv_iconst (v := 1) hx hb dL_law_366 (by decide) ?_
  refine lv_iadd hx hb dL_law_367 ?_
  refine lv_topi (fun x_1 ex_1 => ?_)
  have ix_1 : x_1.toInt = i.toInt + 1 := by rw [ex_1]; exact law_ad (by decide) (by decide) (by decide) hi0 hi1
  refine va_sld hx hb hX hbl hbA hS (law_ix ix_1 (by decide) (by decide) hi0 hil) dL_law_368 ?_
  refine lv_topi (fun x_2 ex_2 => ?_)
  refine lv_aload_n hx hb dL_law_369 rfl (lv_at hl 0 rfl) ?_
  refine lv_iload hx hb dL_law_370 (lv_at hl 4 rfl) ?_
  refine lv_iconst (v := 2) hx hb dL_law_372 (by decide) ?_
  refine lv_iadd hx hb dL_law_373 ?_
  refine lv_topi (fun x_3 ex_3 => ?_)
  have ix_3 : x_3.toInt = i.toInt + 2 := by rw [ex_3]; exact law_ad (by decide) (by decide) (by decide) hi0 hi1
  refine va_sld hx hb hX hbl hbA hS (law_ix ix_3 (by decide) (by decide) hi0 hil) dL_law_374 ?_
  refine lv_topi (fun x_4 ex_4 => ?_)
  refine lv_aload_n hx hb dL_law_375 rfl (lv_at hl 0 rfl) ?_
  refine lv_iload hx hb dL_law_376 (lv_at hl 4 rfl) ?_
  refine lv_iconst (v := 3) hx hb dL_law_378 (by decide) ?_
  refine lv_iadd hx hb dL_law_379 ?_
  refine lv_topi (fun x_5 ex_5 => ?_)
  have ix_5 : x_5.toInt = i.toInt + 3 := by rw [ex_5]; exact law_ad (by decide) (by decide) (by decide) hi0 hi1
  refine va_sld hx hb hX hbl hbA hS (law_ix ix_5 (by decide) (by decide) hi0 hil) dL_law_380 ?_
  refine lv_topi (fun x_6 ex_6 => ?_)
  refine lv_aload_n hx hb dL_law_381 rfl (lv_at hl 0 rfl) ?_
  refine lv_iload hx hb dL_law_382 (lv_at hl 4 rfl) ?_
  refine lv_iconst (v := 4) hx hb dL_law_384 (by decide) ?_
  refine lv_iadd hx hb dL_law_385 ?_
  refine lv_topi (fun x_7 ex_7 => ?_)
  have ix_7 : x_7.toInt = i.toInt + 4 := by rw [ex_7]; exact law_ad (by decide) (by decide) (by decide) hi0 hi1
  refine va_sld hx hb hX hbl hbA hS (law_ix ix_7 (by decide) (by decide) hi0 hil) dL_law_386 ?_
  refine lv_topi (fun x_8 ex_8 => ?_)
  refine lv_aload_n hx hb dL_law_387 rfl (lv_at hl 0 rfl) ?_
  refine lv_iload hx hb dL_law_388 (lv_at hl 4 rfl) ?_
  refine lv_iconst (v := 5) hx hb dL_law_390 (by decide) ?_
  refine lv_iadd hx hb dL_law_391 ?_
  refine lv_topi (fun x_9 ex_9 => ?_)
  have ix_9 : x_9.toInt = i.toInt + 5 := by rw [ex_9]; exact law_ad (by decide) (by decide) (by decide) hi0 hi1
  refine va_sld hx hb hX hbl hbA hS (law_ix ix_9 (by decide) (by decide) hi0 hil) dL_law_392 ?_
  refine lv_topi (fun x_10 ex_10 => ?_)
  refine lv_aload_n hx hb dL_law_393 rfl (lv_at hl 0 rfl) ?_
  refine lv_iload hx hb dL_law_394 (lv_at hl 4 rfl) ?_
  refine lv_bipush (v := 6) hx hb dL_law_396 (by decide) ?_
  refine lv_iadd hx hb dL_law_398 ?_
  refine lv_topi (fun x_11 ex_11 => ?_)
  have ix_11 : x_11.toInt = i.toInt + 6 := by rw [ex_11]; exact law_ad (by decide) (by decide) (by decide) hi0 hi1
  refine va_sld hx hb hX hbl hbA hS (law_ix ix_11 (by decide) (by decide) hi0 hil) dL_law_399 ?_
  refine lv_topi (fun x_12 ex_12 => ?_)
  have hPc := fr_Pl hP
  have hDc := fr_Dl hD
  have hKc := fr_Kl hK
  have hFc := fr_Fl hD hS hAA
  obtain ⟨fs_13, hfs_13⟩ := zIC_hd hIC
  refine vw_calli (vw_runV (As := [.int x_2, .int x_4, .int x_6, .int x_8, .int x_10, .int x_12]) (rest := []) ⟨hx, hb, hml, hown, hA⟩ (w_X11_plain l dC dI aK aV x wC tC fed ou gt x_2 x_4 x_6 x_8 x_10 x_12 H.size hlt hIC) (cwV 6 hA (zw_V wi_1287 wi_1288 wi_1289 wi_130 (zw_good wi_1290)) rfl rfl rfl (by decide +kernel) ⟨(Nat.le_of_ble_eq_true rfl), (Nat.le_of_ble_eq_true rfl)⟩) ⟨zP_blind, va_recv hKc hPc (ci := 11) (q0 := 0) rfl hfs_13, zz_pre hKc hPc hDc hN hT hS hFc⟩ rfl rfl hl.1 rfl (lv_room (Nat.le_of_ble_eq_true rfl)) dL_law_400 ⟨by show cells + 0 ≤ 601024; omega, by show slots + 0 ≤ 7293034; omega⟩) hS (fun q _ h => hFc q h) hFc (fun q _ h => hFc q h) (fun kc9 kn9 E9 ce9 u t H1 locs ht hvm hw hB hz1 hk1 hS hcell hcv hcl => absurd hw id) (fun kc_15 kn_16 r_14 u t H1 locs ht hvm hw hB hz1 hk1 hS => ?_)
  obtain ⟨w_17, t_18, z_19, z_20, z_21⟩ := u
  try dsimp only at hw hB
  obtain ⟨hI_22, hq_23, hq_24, hq_25, hq_26⟩ := hw
  rw [hq_25, hq_26] at hI_22
  skip
  have hq_24a := hq_24.1
  have hq_24b := hq_24.2
  rw [hq_23] at hI_22
  obtain ⟨hP1, hK1, hD1⟩ := hB
  rw [ht] at hP1
  have hK1 := va_K.moved hvm.symm hK1
  obtain ⟨hP, hD⟩ := fr_apart hP hD hk1 hFc hP1 hD1
  have hK := (fr_Kr hK).app hK1
  clear hPc hDc hKc hFc hP1 hD1 hK1 hk1 hz1 ht hvm
  generalize H1 = H at hP hS ⊢
  refine lv_pop hx hb dL_law_403 rfl ?_
  refine lv_aload_n hx hb dL_law_404 rfl (lv_at hl 2 rfl) ?_
  refine lv_aload_n hx hb dL_law_405 rfl (lv_at hl 0 rfl) ?_
  refine lv_iload hx hb dL_law_406 (lv_at hl 4 rfl) ?_
  refine lv_iconst (v := 1) hx hb dL_law_408 (by decide) ?_
  refine lv_iadd hx hb dL_law_409 ?_
  refine lv_topi (fun x_30 ex_30 => ?_)
  have ix_30 : x_30.toInt = i.toInt + 1 := by rw [ex_30]; exact law_ad (by decide) (by decide) (by decide) hi0 hi1
  refine va_sld hx hb hX hbl hbA hS (law_ix ix_30 (by decide) (by decide) hi0 hil) dL_law_410 ?_
  refine lv_topi (fun x_31 ex_31 => ?_)
  refine lv_aload_n hx hb dL_law_411 rfl (lv_at hl 0 rfl) ?_
  refine lv_iload hx hb dL_law_412 (lv_at hl 4 rfl) ?_
  refine lv_iconst (v := 2) hx hb dL_law_414 (by decide) ?_
  refine lv_iadd hx hb dL_law_415 ?_
  refine lv_topi (fun x_32 ex_32 => ?_)
  have ix_32 : x_32.toInt = i.toInt + 2 := by rw [ex_32]; exact law_ad (by decide) (by decide) (by decide) hi0 hi1
  refine va_sld hx hb hX hbl hbA hS (law_ix ix_32 (by decide) (by decide) hi0 hil) dL_law_416 ?_
  refine lv_topi (fun x_33 ex_33 => ?_)
  refine lv_aload_n hx hb dL_law_417 rfl (lv_at hl 0 rfl) ?_
  refine lv_iload hx hb dL_law_418 (lv_at hl 4 rfl) ?_
  refine lv_iconst (v := 3) hx hb dL_law_420 (by decide) ?_
  refine lv_iadd hx hb dL_law_421 ?_
  refine lv_topi (fun x_34 ex_34 => ?_)
  have ix_34 : x_34.toInt = i.toInt + 3 := by rw [ex_34]; exact law_ad (by decide) (by decide) (by decide) hi0 hi1
  refine va_sld hx hb hX hbl hbA hS (law_ix ix_34 (by decide) (by decide) hi0 hil) dL_law_422 ?_
  refine lv_topi (fun x_35 ex_35 => ?_)
  refine lv_aload_n hx hb dL_law_423 rfl (lv_at hl 0 rfl) ?_
  refine lv_iload hx hb dL_law_424 (lv_at hl 4 rfl) ?_
  refine lv_iconst (v := 4) hx hb dL_law_426 (by decide) ?_
  refine lv_iadd hx hb dL_law_427 ?_
  refine lv_topi (fun x_36 ex_36 => ?_)
  have ix_36 : x_36.toInt = i.toInt + 4 := by rw [ex_36]; exact law_ad (by decide) (by decide) (by decide) hi0 hi1
  refine va_sld hx hb hX hbl hbA hS (law_ix ix_36 (by decide) (by decide) hi0 hil) dL_law_428 ?_
  refine lv_topi (fun x_37 ex_37 => ?_)
  refine lv_aload_n hx hb dL_law_429 rfl (lv_at hl 0 rfl) ?_
  refine lv_iload hx hb dL_law_430 (lv_at hl 4 rfl) ?_
  refine lv_iconst (v := 5) hx hb dL_law_432 (by decide) ?_
  refine lv_iadd hx hb dL_law_433 ?_
  refine lv_topi (fun x_38 ex_38 => ?_)
  have ix_38 : x_38.toInt = i.toInt + 5 := by rw [ex_38]; exact law_ad (by decide) (by decide) (by decide) hi0 hi1
  refine va_sld hx hb hX hbl hbA hS (law_ix ix_38 (by decide) (by decide) hi0 hil) dL_law_434 ?_
  refine lv_topi (fun x_39 ex_39 => ?_)
  refine lv_aload_n hx hb dL_law_435 rfl (lv_at hl 0 rfl) ?_
  refine lv_iload hx hb dL_law_436 (lv_at hl 4 rfl) ?_
  refine lv_bipush (v := 6) hx hb dL_law_438 (by decide) ?_
  refine lv_iadd hx hb dL_law_440 ?_
  refine lv_topi (fun x_40 ex_40 => ?_)
  have ix_40 : x_40.toInt = i.toInt + 6 := by rw [ex_40]; exact law_ad (by decide) (by decide) (by decide) hi0 hi1
  refine va_sld hx hb hX hbl hbA hS (law_ix ix_40 (by decide) (by decide) hi0 hil) dL_law_441 ?_
  refine lv_topi (fun x_41 ex_41 => ?_)
  have hPc := fr_Pl hP
  have hDc := fr_Dl hD
  have hKc := fr_Kl hK
  have hFc := fr_Fl hD hS hAA
  obtain ⟨fs_42, hfs_42⟩ := zIM_hd hIM
  refine vw_calli (vw_runV (As := [.int x_31, .int x_33, .int x_35, .int x_37, .int x_39, .int x_41]) (rest := []) ⟨hx, hb, hml, hown, hA⟩ (w_X14_plain l dC dI aK aV y wM tM ta zt zv gt x_31 x_33 x_35 x_37 x_39 x_41 H.size hlt hIM) (cwV 6 hA (zw_V wi_1986 wi_1987 wi_1988 wi_143 (zw_good wi_1989)) rfl rfl rfl (by decide +kernel) ⟨(Nat.le_of_ble_eq_true rfl), (Nat.le_of_ble_eq_true rfl)⟩) ⟨zP_blind, va_recv hKc hPc (ci := 14) (q0 := 0) rfl hfs_42, zz_pre hKc hPc hDc hN hT hS hFc⟩ rfl rfl hl.1 rfl (lv_room (Nat.le_of_ble_eq_true rfl)) dL_law_442 ⟨law_rc hce hq_24a hi1 hsz9 (by decide), law_rs hsl hq_24b hi1 hsz9 (by decide)⟩) hS (fun q _ h => hFc q h) hFc (fun q _ h => hFc q h) (fun kc9 kn9 E9 ce9 u t H1 locs ht hvm hw hB hz1 hk1 hS hcell hcv hcl => absurd hw id) (fun kc_44 kn_45 r_43 u t H1 locs ht hvm hw hB hz1 hk1 hS => ?_)
  obtain ⟨w_46, t_47, z_48, z_49, z_50, z_51⟩ := u
  try dsimp only at hw hB
  obtain ⟨hI_52, hq_60, hq_61, hq_62, hq_63, hq_64, hq_65, hq_66⟩ := hw
  rw [hq_60, hq_66] at hI_52
  have hce2 := law_ce hce hq_24a hq_61 (by decide)
  have hsl2 := law_sl hsl hq_24b hq_62 (by decide)
  clear hq_61 hq_62 hq_63 hq_64 hq_65 hce hsl
  obtain ⟨hP1, hK1, hD1⟩ := hB
  rw [ht] at hP1
  have hK1 := va_K.moved hvm.symm hK1
  obtain ⟨hP, hD⟩ := fr_apart hP hD hk1 hFc hP1 hD1
  have hK := (fr_Kr hK).app hK1
  clear hPc hDc hKc hFc hP1 hD1 hK1 hk1 hz1 ht hvm
  generalize H1 = H at hP hS ⊢
  refine lv_pop hx hb dL_law_445 rfl ?_
  refine lv_goto (tgt := 556) hx hb dL_law_446 (by decide) ?_
  obtain ⟨x_67, ex_67⟩ : ∃ y : Int32, y = i + Int32.ofInt 8 := ⟨_, rfl⟩
  refine lv_iinc (v := x_67) (lv' := [(4, .int x_67), (0, .ref b), (1, .ref x), (2, .ref y), (3, .ref ou)]) hx hb dL_law_556 hl (k := 4) rfl (by rw [ex_67]) (by decide) rfl (fun ls hl => ?_)
  have ix_67 : x_67.toInt = i.toInt + 8 := by rw [ex_67]; exact law_ad (by decide) (by decide) (by decide) hi0 hi1
  refine lv_goto (tgt := 23) hx hb dL_law_559 (by decide) ?_
  have hsz9 := zIM_sz hI_52
  have hmm := law_hm hm ix_67 hi0 hil hL
  exact ih x_67 w_17 t_18 fed w_46 t_47 ta z_49 z_50 gt _ _ _ _ _ hmm.1 hmm.2.1 hmm.2.2 hI_22 hI_52 hft hP hD hK hS (lv_sub hl [1, 2, 3, 4, 0] rfl) (by rw [ix_67]; exact hce2) (by rw [ix_67]; exact hsl2)
set_option maxHeartbeats 40000000 in
set_option maxRecDepth 100000 in
theorem law_c7 {p : Program} {e : Env} {s : State} {m : MethodId} {below : List Frame} {meth : Method} {c : Code} (l : Launch) (hlt : l.stackTraces = false) {b L : Nat} {xs : Nat → Int32} (hL : L ≤ 4096) (hx : p.tables.exec = Jvm.exec) (hb : c.code = code) (hr : meth.sig.returnType = ret) (hml : c.maxLocals = 7) (hown : s.vm.findClass RL = some m.cls) (hA : ∀ w ∈ zw, w.before #[Value.ref b] s = true) (hX : va_X b L xs s s.heap) (hbl : b < s.heap.size) (hlocks : meth.locks = false) {A : Nat → Prop} (hAd : A = (fun q : Nat => s.heap.size ≤ q)) (hAA : ∀ q : Nat, s.heap.size ≤ q → A q) (hbA : ¬ A b) {dC : Nat → ClassId} {dI : Nat → Nat → Nat} {aK aV : Nat → Nat} (hN : zN s) (hT : zT aK aV A s s.heap) (x y ou : Nat) (n9 : Nat) (ih : ∀ (i : Int32) (wC : va_W) (tC : List (ClassId × FieldType)) (fed : Int32) (wM : va_W) (tM : List (ClassId × FieldType)) (ta : Int32) (zt zv : Nat) (gt : Nat → Int32) (H : Heap) (locs : List Loc) (ls : Array Slot) (cells slots : Nat), (4105 - i.toInt).toNat ≤ n9 → 0 ≤ i.toInt → i.toInt ≤ 4104 → zIC x wC tC fed ou gt → zIM y wM tM ta zt zv gt → fed.toInt = ta.toInt → va_P (dC, dI) vwCl (wC ++ wM) H → va_D A (wC ++ wM) → va_K (dC, dI) vwCl (tC ++ tM) s → va_S A s.heap H locs → lv_has ls 7 [(0, .ref b), (1, .ref x), (2, .ref y), (3, .ref ou), (4, .int i)] → (cells : Int) ≤ 200 + i.toInt + zG zt + zG zv → (slots : Int) ≤ 260000 + 3 * i.toInt + 4 * zt + 2 * zv → W p l e room_1 s m #[Value.ref b] below meth c H locs cells slots (lw_Z below #[Value.ref b] s) (F0 m 23 ls [])) (i : Int32) (wC : va_W) (tC : List (ClassId × FieldType)) (fed : Int32) (wM : va_W) (tM : List (ClassId × FieldType)) (ta : Int32) (zt zv : Nat) (gt : Nat → Int32) (H : Heap) (locs : List Loc) (ls : Array Slot) (cells slots : Nat) (hm9 : (4105 - i.toInt).toNat ≤ n9 + 1) (hi0 : 0 ≤ i.toInt) (hi1 : i.toInt ≤ 4104) (hIC : zIC x wC tC fed ou gt) (hIM : zIM y wM tM ta zt zv gt) (hft : fed.toInt = ta.toInt) (hP : va_P (dC, dI) vwCl (wC ++ wM) H) (hD : va_D A (wC ++ wM)) (hK : va_K (dC, dI) vwCl (tC ++ tM) s) (hS : va_S A s.heap H locs) (hl : lv_has ls 7 [(0, .ref b), (1, .ref x), (2, .ref y), (3, .ref ou), (4, .int i)]) (hce : (cells : Int) ≤ 200 + i.toInt + zG zt + zG zv) (hsl : (slots : Int) ≤ 260000 + 3 * i.toInt + 4 * zt + 2 * zv) (hil : i.toInt + 8 ≤ (L : Int)) : W p l e room_1 s m #[Value.ref b] below meth c H locs cells slots (lw_Z below #[Value.ref b] s) (F0 m 449 ls []) := by
  have hsz9 := zIM_sz hIM
  have hg1 := zG_le (z := zt)
  have hg2 := zG_le (z := zv)
  have hm : (4105 - i.toInt).toNat ≤ n9 + 1 := hm9
  refine lv_aload_n hx hb dL_law_449 rfl (lv_at hl 1 rfl) ?_
  refine lv_aload_n hx hb dL_law_450 rfl (lv_at hl 0 rfl) ?_
  refine lv_iload hx hb dL_law_451 (lv_at hl 4 rfl) ?_
  refine lv_iconst (v := 1) hx hb dL_law_453 (by decide) ?_
  refine lv_iadd hx hb dL_law_454 ?_
  refine lv_topi (fun x_1 ex_1 => ?_)
  have ix_1 : x_1.toInt = i.toInt + 1 := by rw [ex_1]; exact law_ad (by decide) (by decide) (by decide) hi0 hi1
  refine va_sld hx hb hX hbl hbA hS (law_ix ix_1 (by decide) (by decide) hi0 hil) dL_law_455 ?_
  refine lv_topi (fun x_2 ex_2 => ?_)
  refine lv_if_eq (tgt := 463) hx hb dL_law_456 (by decide) (fun c_3 => ?_) (fun c_3 => ?_)
  · have ic_3 : x_2.toInt = 0 := zi_eq c_3
    refine lv_iconst (v := 0) hx hb dL_law_463 (by decide) ?_
    have hPc := fr_Pl hP
    have hDc := fr_Dl hD
    have hKc := fr_Kl hK
    have hFc := fr_Fl hD hS hAA
    obtain ⟨fs_4, hfs_4⟩ := zIC_hd hIC
    refine vw_calli (vw_runV (As := [.int 0]) (rest := []) ⟨hx, hb, hml, hown, hA⟩ (w_X11_show l dC dI aK aV x wC tC fed ou gt 0 H.size hlt hIC) (cwV 1 hA (zw_V wi_1291 wi_1292 wi_1293 wi_130 (zw_good wi_1294)) rfl rfl rfl (by decide +kernel) ⟨(Nat.le_of_ble_eq_true rfl), (Nat.le_of_ble_eq_true rfl)⟩) ⟨zP_blind, va_recv hKc hPc (ci := 11) (q0 := 0) rfl hfs_4, zz_pre hKc hPc hDc hN hT hS hFc⟩ rfl rfl hl.1 rfl (lv_room (Nat.le_of_ble_eq_true rfl)) dL_law_464 ⟨by show cells + 0 ≤ 601024; omega, by show slots + 0 ≤ 7293034; omega⟩) hS (fun q _ h => hFc q h) hFc (fun q _ h => hFc q h) (fun kc9 kn9 E9 ce9 u t H1 locs ht hvm hw hB hz1 hk1 hS hcell hcv hcl => absurd hw id) (fun kc_6 kn_7 r_5 u t H1 locs ht hvm hw hB hz1 hk1 hS => ?_)
    obtain ⟨w_8, t_9, z_10, z_11, z_12⟩ := u
    try dsimp only at hw hB
    obtain ⟨hI_13, hq_14, hq_15, hq_16, hq_17⟩ := hw
    rw [hq_16, hq_17] at hI_13
    skip
    have hq_15a := hq_15.1
    have hq_15b := hq_15.2
    rw [hq_14] at hI_13
    obtain ⟨hP1, hK1, hD1⟩ := hB
    rw [ht] at hP1
    have hK1 := va_K.moved hvm.symm hK1
    obtain ⟨hP, hD⟩ := fr_apart hP hD hk1 hFc hP1 hD1
    have hK := (fr_Kr hK).app hK1
    clear hPc hDc hKc hFc hP1 hD1 hK1 hk1 hz1 ht hvm
    generalize H1 = H at hP hS ⊢
    refine lv_pop hx hb dL_law_467 rfl ?_
    refine lv_aload_n hx hb dL_law_468 rfl (lv_at hl 2 rfl) ?_
    refine lv_aload_n hx hb dL_law_469 rfl (lv_at hl 0 rfl) ?_
    refine lv_iload hx hb dL_law_470 (lv_at hl 4 rfl) ?_
    refine lv_iconst (v := 1) hx hb dL_law_472 (by decide) ?_
    refine lv_iadd hx hb dL_law_473 ?_
    refine lv_topi (fun x_21 ex_21 => ?_)
    have ix_21 : x_21.toInt = i.toInt + 1 := by rw [ex_21]; exact law_ad (by decide) (by decide) (by decide) hi0 hi1
    refine va_sld hx hb hX hbl hbA hS (law_ix ix_21 (by decide) (by decide) hi0 hil) dL_law_474 ?_
    refine lv_topi (fun x_22 ex_22 => ?_)
    refine lv_if_eq (tgt := 482) hx hb dL_law_475 (by decide) (fun c_23 => ?_) (fun c_23 => ?_)
    · have ic_23 : x_22.toInt = 0 := zi_eq c_23
      refine lv_iconst (v := 0) hx hb dL_law_482 (by decide) ?_
      have hPc := fr_Pl hP
      have hDc := fr_Dl hD
      have hKc := fr_Kl hK
      have hFc := fr_Fl hD hS hAA
      obtain ⟨fs_24, hfs_24⟩ := zIM_hd hIM
      refine vw_calli (vw_runVX (As := [.int 0]) (rest := []) ⟨hx, hb, hml, hown, hA⟩ (w_X14_show l dC dI aK aV y wM tM ta zt zv gt 0 H.size hlt hIM) (vx_cwVW 1 hA (zw_V wi_1990 wi_1991 wi_1992 wi_143 (zw_good wi_1993)) rfl rfl rfl (by decide +kernel) ⟨(Nat.le_of_ble_eq_true rfl), (Nat.le_of_ble_eq_true rfl)⟩) ⟨zP_blind, va_recv hKc hPc (ci := 14) (q0 := 0) rfl hfs_24, zz_pre hKc hPc hDc hN hT hS hFc⟩ rfl rfl hl.1 rfl (lv_room (Nat.le_of_ble_eq_true rfl)) dL_law_483 ⟨by show (cells + kc_6) + 0 ≤ 601024; omega, by show (slots + kn_7) + 0 ≤ 7293034; omega⟩) hS (fun q _ h => hFc q h) hFc (fun q _ h => hFc q h) (fun kc9 kn9 E9 ce9 u t H1 locs ht hvm hw hB hz1 hk1 hS hcell hcv hcl => absurd hw id) (fun kc_26 kn_27 r_25 u t H1 locs ht hvm hw hB hz1 hk1 hS => ?_)
      obtain ⟨w_28, t_29, z_30, z_31, z_32, z_33⟩ := u
      try dsimp only at hw hB
      obtain ⟨hI_34, hq_35, hq_36, hq_37, hq_38, hq_39⟩ := hw
      rw [hq_36, hq_37, hq_39] at hI_34
      skip
      have hq_38a := hq_38.1
      have hq_38b := hq_38.2
      rw [hq_35] at hI_34
      obtain ⟨hP1, hK1, hD1⟩ := hB
      rw [ht] at hP1
      have hK1 := va_K.moved hvm.symm hK1
      obtain ⟨hP, hD⟩ := fr_apart hP hD hk1 hFc hP1 hD1
      have hK := (fr_Kr hK).app hK1
      clear hPc hDc hKc hFc hP1 hD1 hK1 hk1 hz1 ht hvm
      generalize H1 = H at hP hS ⊢
      refine lv_pop hx hb dL_law_486 rfl ?_
      refine lv_goto (tgt := 556) hx hb dL_law_487 (by decide) ?_
      obtain ⟨x_42, ex_42⟩ : ∃ y : Int32, y = i + Int32.ofInt 8 := ⟨_, rfl⟩
      refine lv_iinc (v := x_42) (lv' := [(4, .int x_42), (0, .ref b), (1, .ref x), (2, .ref y), (3, .ref ou)]) hx hb dL_law_556 hl (k := 4) rfl (by rw [ex_42]) (by decide) rfl (fun ls hl => ?_)
      have ix_42 : x_42.toInt = i.toInt + 8 := by rw [ex_42]; exact law_ad (by decide) (by decide) (by decide) hi0 hi1
      refine lv_goto (tgt := 23) hx hb dL_law_559 (by decide) ?_
      have hsz9 := zIM_sz hI_34
      exact ih x_42 w_8 t_9 fed w_28 t_29 ta zt zv gt _ _ _ _ _ (by omega) (by omega) (by omega) hI_13 hI_34 (by omega) hP hD hK hS (lv_sub hl [1, 2, 3, 4, 0] rfl) (by omega) (by omega)
    · have ic_23 : x_22.toInt ≠ 0 := zi_ne c_23
      refine lv_iconst (v := 1) hx hb dL_law_478 (by decide) ?_
      refine lv_goto (tgt := 483) hx hb dL_law_479 (by decide) ?_
      have hPc := fr_Pl hP
      have hDc := fr_Dl hD
      have hKc := fr_Kl hK
      have hFc := fr_Fl hD hS hAA
      obtain ⟨fs_43, hfs_43⟩ := zIM_hd hIM
      refine vw_calli (vw_runVX (As := [.int 1]) (rest := []) ⟨hx, hb, hml, hown, hA⟩ (w_X14_show l dC dI aK aV y wM tM ta zt zv gt 1 H.size hlt hIM) (vx_cwVW 1 hA (zw_V wi_1990 wi_1991 wi_1992 wi_143 (zw_good wi_1993)) rfl rfl rfl (by decide +kernel) ⟨(Nat.le_of_ble_eq_true rfl), (Nat.le_of_ble_eq_true rfl)⟩) ⟨zP_blind, va_recv hKc hPc (ci := 14) (q0 := 0) rfl hfs_43, zz_pre hKc hPc hDc hN hT hS hFc⟩ rfl rfl hl.1 rfl (lv_room (Nat.le_of_ble_eq_true rfl)) dL_law_483 ⟨by show (cells + kc_6) + 0 ≤ 601024; omega, by show (slots + kn_7) + 0 ≤ 7293034; omega⟩) hS (fun q _ h => hFc q h) hFc (fun q _ h => hFc q h) (fun kc9 kn9 E9 ce9 u t H1 locs ht hvm hw hB hz1 hk1 hS hcell hcv hcl => absurd hw id) (fun kc_45 kn_46 r_44 u t H1 locs ht hvm hw hB hz1 hk1 hS => ?_)
      obtain ⟨w_47, t_48, z_49, z_50, z_51, z_52⟩ := u
      try dsimp only at hw hB
      obtain ⟨hI_53, hq_54, hq_55, hq_56, hq_57, hq_58⟩ := hw
      rw [hq_55, hq_56, hq_58] at hI_53
      skip
      have hq_57a := hq_57.1
      have hq_57b := hq_57.2
      rw [hq_54] at hI_53
      obtain ⟨hP1, hK1, hD1⟩ := hB
      rw [ht] at hP1
      have hK1 := va_K.moved hvm.symm hK1
      obtain ⟨hP, hD⟩ := fr_apart hP hD hk1 hFc hP1 hD1
      have hK := (fr_Kr hK).app hK1
      clear hPc hDc hKc hFc hP1 hD1 hK1 hk1 hz1 ht hvm
      generalize H1 = H at hP hS ⊢
      refine lv_pop hx hb dL_law_486 rfl ?_
      refine lv_goto (tgt := 556) hx hb dL_law_487 (by decide) ?_
      obtain ⟨x_61, ex_61⟩ : ∃ y : Int32, y = i + Int32.ofInt 8 := ⟨_, rfl⟩
      refine lv_iinc (v := x_61) (lv' := [(4, .int x_61), (0, .ref b), (1, .ref x), (2, .ref y), (3, .ref ou)]) hx hb dL_law_556 hl (k := 4) rfl (by rw [ex_61]) (by decide) rfl (fun ls hl => ?_)
      have ix_61 : x_61.toInt = i.toInt + 8 := by rw [ex_61]; exact law_ad (by decide) (by decide) (by decide) hi0 hi1
      refine lv_goto (tgt := 23) hx hb dL_law_559 (by decide) ?_
      have hsz9 := zIM_sz hI_53
      exact ih x_61 w_8 t_9 fed w_47 t_48 ta zt zv gt _ _ _ _ _ (by omega) (by omega) (by omega) hI_13 hI_53 (by omega) hP hD hK hS (lv_sub hl [1, 2, 3, 4, 0] rfl) (by omega) (by omega)
  · have ic_3 : x_2.toInt ≠ 0 := zi_ne c_3
    refine lv_iconst (v := 1) hx hb dL_law_459 (by decide) ?_
    refine lv_goto (tgt := 464) hx hb dL_law_460 (by decide) ?_
    have hPc := fr_Pl hP
    have hDc := fr_Dl hD
    have hKc := fr_Kl hK
    have hFc := fr_Fl hD hS hAA
    obtain ⟨fs_62, hfs_62⟩ := zIC_hd hIC
    refine vw_calli (vw_runV (As := [.int 1]) (rest := []) ⟨hx, hb, hml, hown, hA⟩ (w_X11_show l dC dI aK aV x wC tC fed ou gt 1 H.size hlt hIC) (cwV 1 hA (zw_V wi_1291 wi_1292 wi_1293 wi_130 (zw_good wi_1294)) rfl rfl rfl (by decide +kernel) ⟨(Nat.le_of_ble_eq_true rfl), (Nat.le_of_ble_eq_true rfl)⟩) ⟨zP_blind, va_recv hKc hPc (ci := 11) (q0 := 0) rfl hfs_62, zz_pre hKc hPc hDc hN hT hS hFc⟩ rfl rfl hl.1 rfl (lv_room (Nat.le_of_ble_eq_true rfl)) dL_law_464 ⟨by show cells + 0 ≤ 601024; omega, by show slots + 0 ≤ 7293034; omega⟩) hS (fun q _ h => hFc q h) hFc (fun q _ h => hFc q h) (fun kc9 kn9 E9 ce9 u t H1 locs ht hvm hw hB hz1 hk1 hS hcell hcv hcl => absurd hw id) (fun kc_64 kn_65 r_63 u t H1 locs ht hvm hw hB hz1 hk1 hS => ?_)
    obtain ⟨w_66, t_67, z_68, z_69, z_70⟩ := u
    try dsimp only at hw hB
    obtain ⟨hI_71, hq_72, hq_73, hq_74, hq_75⟩ := hw
    rw [hq_74, hq_75] at hI_71
    skip
    have hq_73a := hq_73.1
    have hq_73b := hq_73.2
    rw [hq_72] at hI_71
    obtain ⟨hP1, hK1, hD1⟩ := hB
    rw [ht] at hP1
    have hK1 := va_K.moved hvm.symm hK1
    obtain ⟨hP, hD⟩ := fr_apart hP hD hk1 hFc hP1 hD1
    have hK := (fr_Kr hK).app hK1
    clear hPc hDc hKc hFc hP1 hD1 hK1 hk1 hz1 ht hvm
    generalize H1 = H at hP hS ⊢
    refine lv_pop hx hb dL_law_467 rfl ?_
    refine lv_aload_n hx hb dL_law_468 rfl (lv_at hl 2 rfl) ?_
    refine lv_aload_n hx hb dL_law_469 rfl (lv_at hl 0 rfl) ?_
    refine lv_iload hx hb dL_law_470 (lv_at hl 4 rfl) ?_
    refine lv_iconst (v := 1) hx hb dL_law_472 (by decide) ?_
    refine lv_iadd hx hb dL_law_473 ?_
    refine lv_topi (fun x_79 ex_79 => ?_)
    have ix_79 : x_79.toInt = i.toInt + 1 := by rw [ex_79]; exact law_ad (by decide) (by decide) (by decide) hi0 hi1
    refine va_sld hx hb hX hbl hbA hS (law_ix ix_79 (by decide) (by decide) hi0 hil) dL_law_474 ?_
    refine lv_topi (fun x_80 ex_80 => ?_)
    refine lv_if_eq (tgt := 482) hx hb dL_law_475 (by decide) (fun c_81 => ?_) (fun c_81 => ?_)
    · have ic_81 : x_80.toInt = 0 := zi_eq c_81
      refine lv_iconst (v := 0) hx hb dL_law_482 (by decide) ?_
      have hPc := fr_Pl hP
      have hDc := fr_Dl hD
      have hKc := fr_Kl hK
      have hFc := fr_Fl hD hS hAA
      obtain ⟨fs_82, hfs_82⟩ := zIM_hd hIM
      refine vw_calli (vw_runVX (As := [.int 0]) (rest := []) ⟨hx, hb, hml, hown, hA⟩ (w_X14_show l dC dI aK aV y wM tM ta zt zv gt 0 H.size hlt hIM) (vx_cwVW 1 hA (zw_V wi_1990 wi_1991 wi_1992 wi_143 (zw_good wi_1993)) rfl rfl rfl (by decide +kernel) ⟨(Nat.le_of_ble_eq_true rfl), (Nat.le_of_ble_eq_true rfl)⟩) ⟨zP_blind, va_recv hKc hPc (ci := 14) (q0 := 0) rfl hfs_82, zz_pre hKc hPc hDc hN hT hS hFc⟩ rfl rfl hl.1 rfl (lv_room (Nat.le_of_ble_eq_true rfl)) dL_law_483 ⟨by show (cells + kc_64) + 0 ≤ 601024; omega, by show (slots + kn_65) + 0 ≤ 7293034; omega⟩) hS (fun q _ h => hFc q h) hFc (fun q _ h => hFc q h) (fun kc9 kn9 E9 ce9 u t H1 locs ht hvm hw hB hz1 hk1 hS hcell hcv hcl => absurd hw id) (fun kc_84 kn_85 r_83 u t H1 locs ht hvm hw hB hz1 hk1 hS => ?_)
      obtain ⟨w_86, t_87, z_88, z_89, z_90, z_91⟩ := u
      try dsimp only at hw hB
      obtain ⟨hI_92, hq_93, hq_94, hq_95, hq_96, hq_97⟩ := hw
      rw [hq_94, hq_95, hq_97] at hI_92
      skip
      have hq_96a := hq_96.1
      have hq_96b := hq_96.2
      rw [hq_93] at hI_92
      obtain ⟨hP1, hK1, hD1⟩ := hB
      rw [ht] at hP1
      have hK1 := va_K.moved hvm.symm hK1
      obtain ⟨hP, hD⟩ := fr_apart hP hD hk1 hFc hP1 hD1
      have hK := (fr_Kr hK).app hK1
      clear hPc hDc hKc hFc hP1 hD1 hK1 hk1 hz1 ht hvm
      generalize H1 = H at hP hS ⊢
      refine lv_pop hx hb dL_law_486 rfl ?_
      refine lv_goto (tgt := 556) hx hb dL_law_487 (by decide) ?_
      obtain ⟨x_100, ex_100⟩ : ∃ y : Int32, y = i + Int32.ofInt 8 := ⟨_, rfl⟩
      refine lv_iinc (v := x_100) (lv' := [(4, .int x_100), (0, .ref b), (1, .ref x), (2, .ref y), (3, .ref ou)]) hx hb dL_law_556 hl (k := 4) rfl (by rw [ex_100]) (by decide) rfl (fun ls hl => ?_)
      have ix_100 : x_100.toInt = i.toInt + 8 := by rw [ex_100]; exact law_ad (by decide) (by decide) (by decide) hi0 hi1
      refine lv_goto (tgt := 23) hx hb dL_law_559 (by decide) ?_
      have hsz9 := zIM_sz hI_92
      exact ih x_100 w_66 t_67 fed w_86 t_87 ta zt zv gt _ _ _ _ _ (by omega) (by omega) (by omega) hI_71 hI_92 (by omega) hP hD hK hS (lv_sub hl [1, 2, 3, 4, 0] rfl) (by omega) (by omega)
    · have ic_81 : x_80.toInt ≠ 0 := zi_ne c_81
      refine lv_iconst (v := 1) hx hb dL_law_478 (by decide) ?_
      refine lv_goto (tgt := 483) hx hb dL_law_479 (by decide) ?_
      have hPc := fr_Pl hP
      have hDc := fr_Dl hD
      have hKc := fr_Kl hK
      have hFc := fr_Fl hD hS hAA
      obtain ⟨fs_101, hfs_101⟩ := zIM_hd hIM
      refine vw_calli (vw_runVX (As := [.int 1]) (rest := []) ⟨hx, hb, hml, hown, hA⟩ (w_X14_show l dC dI aK aV y wM tM ta zt zv gt 1 H.size hlt hIM) (vx_cwVW 1 hA (zw_V wi_1990 wi_1991 wi_1992 wi_143 (zw_good wi_1993)) rfl rfl rfl (by decide +kernel) ⟨(Nat.le_of_ble_eq_true rfl), (Nat.le_of_ble_eq_true rfl)⟩) ⟨zP_blind, va_recv hKc hPc (ci := 14) (q0 := 0) rfl hfs_101, zz_pre hKc hPc hDc hN hT hS hFc⟩ rfl rfl hl.1 rfl (lv_room (Nat.le_of_ble_eq_true rfl)) dL_law_483 ⟨by show (cells + kc_64) + 0 ≤ 601024; omega, by show (slots + kn_65) + 0 ≤ 7293034; omega⟩) hS (fun q _ h => hFc q h) hFc (fun q _ h => hFc q h) (fun kc9 kn9 E9 ce9 u t H1 locs ht hvm hw hB hz1 hk1 hS hcell hcv hcl => absurd hw id) (fun kc_103 kn_104 r_102 u t H1 locs ht hvm hw hB hz1 hk1 hS => ?_)
      obtain ⟨w_105, t_106, z_107, z_108, z_109, z_110⟩ := u
      try dsimp only at hw hB
      obtain ⟨hI_111, hq_112, hq_113, hq_114, hq_115, hq_116⟩ := hw
      rw [hq_113, hq_114, hq_116] at hI_111
      skip
      have hq_115a := hq_115.1
      have hq_115b := hq_115.2
      rw [hq_112] at hI_111
      obtain ⟨hP1, hK1, hD1⟩ := hB
      rw [ht] at hP1
      have hK1 := va_K.moved hvm.symm hK1
      obtain ⟨hP, hD⟩ := fr_apart hP hD hk1 hFc hP1 hD1
      have hK := (fr_Kr hK).app hK1
      clear hPc hDc hKc hFc hP1 hD1 hK1 hk1 hz1 ht hvm
      generalize H1 = H at hP hS ⊢
      refine lv_pop hx hb dL_law_486 rfl ?_
      refine lv_goto (tgt := 556) hx hb dL_law_487 (by decide) ?_
      obtain ⟨x_119, ex_119⟩ : ∃ y : Int32, y = i + Int32.ofInt 8 := ⟨_, rfl⟩
      refine lv_iinc (v := x_119) (lv' := [(4, .int x_119), (0, .ref b), (1, .ref x), (2, .ref y), (3, .ref ou)]) hx hb dL_law_556 hl (k := 4) rfl (by rw [ex_119]) (by decide) rfl (fun ls hl => ?_)
      have ix_119 : x_119.toInt = i.toInt + 8 := by rw [ex_119]; exact law_ad (by decide) (by decide) (by decide) hi0 hi1
      refine lv_goto (tgt := 23) hx hb dL_law_559 (by decide) ?_
      have hsz9 := zIM_sz hI_111
      exact ih x_119 w_66 t_67 fed w_105 t_106 ta zt zv gt _ _ _ _ _ (by omega) (by omega) (by omega) hI_71 hI_111 (by omega) hP hD hK hS (lv_sub hl [1, 2, 3, 4, 0] rfl) (by omega) (by omega)
set_option maxHeartbeats 40000000 in
set_option maxRecDepth 100000 in
theorem law_c8 {p : Program} {e : Env} {s : State} {m : MethodId} {below : List Frame} {meth : Method} {c : Code} (l : Launch) (hlt : l.stackTraces = false) {b L : Nat} {xs : Nat → Int32} (hL : L ≤ 4096) (hx : p.tables.exec = Jvm.exec) (hb : c.code = code) (hr : meth.sig.returnType = ret) (hml : c.maxLocals = 7) (hown : s.vm.findClass RL = some m.cls) (hA : ∀ w ∈ zw, w.before #[Value.ref b] s = true) (hX : va_X b L xs s s.heap) (hbl : b < s.heap.size) (hlocks : meth.locks = false) {A : Nat → Prop} (hAd : A = (fun q : Nat => s.heap.size ≤ q)) (hAA : ∀ q : Nat, s.heap.size ≤ q → A q) (hbA : ¬ A b) {dC : Nat → ClassId} {dI : Nat → Nat → Nat} {aK aV : Nat → Nat} (hN : zN s) (hT : zT aK aV A s s.heap) (x y ou : Nat) (n9 : Nat) (ih : ∀ (i : Int32) (wC : va_W) (tC : List (ClassId × FieldType)) (fed : Int32) (wM : va_W) (tM : List (ClassId × FieldType)) (ta : Int32) (zt zv : Nat) (gt : Nat → Int32) (H : Heap) (locs : List Loc) (ls : Array Slot) (cells slots : Nat), (4105 - i.toInt).toNat ≤ n9 → 0 ≤ i.toInt → i.toInt ≤ 4104 → zIC x wC tC fed ou gt → zIM y wM tM ta zt zv gt → fed.toInt = ta.toInt → va_P (dC, dI) vwCl (wC ++ wM) H → va_D A (wC ++ wM) → va_K (dC, dI) vwCl (tC ++ tM) s → va_S A s.heap H locs → lv_has ls 7 [(0, .ref b), (1, .ref x), (2, .ref y), (3, .ref ou), (4, .int i)] → (cells : Int) ≤ 200 + i.toInt + zG zt + zG zv → (slots : Int) ≤ 260000 + 3 * i.toInt + 4 * zt + 2 * zv → W p l e room_1 s m #[Value.ref b] below meth c H locs cells slots (lw_Z below #[Value.ref b] s) (F0 m 23 ls [])) (i : Int32) (wC : va_W) (tC : List (ClassId × FieldType)) (fed : Int32) (wM : va_W) (tM : List (ClassId × FieldType)) (ta : Int32) (zt zv : Nat) (gt : Nat → Int32) (H : Heap) (locs : List Loc) (ls : Array Slot) (cells slots : Nat) (hm9 : (4105 - i.toInt).toNat ≤ n9 + 1) (hi0 : 0 ≤ i.toInt) (hi1 : i.toInt ≤ 4104) (hIC : zIC x wC tC fed ou gt) (hIM : zIM y wM tM ta zt zv gt) (hft : fed.toInt = ta.toInt) (hP : va_P (dC, dI) vwCl (wC ++ wM) H) (hD : va_D A (wC ++ wM)) (hK : va_K (dC, dI) vwCl (tC ++ tM) s) (hS : va_S A s.heap H locs) (hl : lv_has ls 7 [(0, .ref b), (1, .ref x), (2, .ref y), (3, .ref ou), (4, .int i)]) (hce : (cells : Int) ≤ 200 + i.toInt + zG zt + zG zv) (hsl : (slots : Int) ≤ 260000 + 3 * i.toInt + 4 * zt + 2 * zv) (hil : i.toInt + 8 ≤ (L : Int)) : W p l e room_1 s m #[Value.ref b] below meth c H locs cells slots (lw_Z below #[Value.ref b] s) (F0 m 490 ls []) := by
  have hsz9 := zIM_sz hIM
  have hg1 := zG_le (z := zt)
  have hg2 := zG_le (z := zv)
  have hm : (4105 - i.toInt).toNat ≤ n9 + 1 := hm9
  refine lv_aload_n hx hb dL_law_490 rfl (lv_at hl 1 rfl) ?_
  refine lv_aload_n hx hb dL_law_491 rfl (lv_at hl 0 rfl) ?_
  refine lv_iload hx hb dL_law_492 (lv_at hl 4 rfl) ?_
  refine lv_iconst (v := 1) hx hb dL_law_494 (by decide) ?_
  refine lv_iadd hx hb dL_law_495 ?_
  refine lv_topi (fun x_1 ex_1 => ?_)
  have ix_1 : x_1.toInt = i.toInt + 1 := by rw [ex_1]; exact law_ad (by decide) (by decide) (by decide) hi0 hi1
  refine va_sld hx hb hX hbl hbA hS (law_ix ix_1 (by decide) (by decide) hi0 hil) dL_law_496 ?_
  refine lv_topi (fun x_2 ex_2 => ?_)
  refine lv_aload_n hx hb dL_law_497 rfl (lv_at hl 3 rfl) ?_
  have hPc := fr_Pl hP
  have hDc := fr_Dl hD
  have hKc := fr_Kl hK
  have hFc := fr_Fl hD hS hAA
  obtain ⟨fs_3, hfs_3⟩ := zIC_hd hIC
  refine vx_calli (vx_runSX (As := [.ref x, .int x_2, .ref ou]) (rest := []) ⟨hx, hb, hml, hown, hA⟩ (fr_vx (mc := 1) (ms := 6) (post2 := fun r (v : va_W × List (ClassId × FieldType) × Int32 × Nat × (Nat → Int32)) => zIC x v.1 v.2.1 v.2.2.1 v.2.2.2.1 v.2.2.2.2 ∧ v.2.2.1 = fed ∧ v.2.2.2.1 = ou ∧ v.2.2.2.2 = gt) (w_L_out l dC dI aK aV x wC tC fed ou gt x_2 H.size hlt hIC) (fun kc kn r v h => ⟨⟨h.1, h.2.1, h.2.2.2⟩, h.2.2.1.1, h.2.2.1.2⟩)) (vx_cwSW 3 hA (zw_S wi_1343 wi_1344 wi_129 (zw_good wi_1345)) rfl rfl rfl (by decide +kernel) ⟨(Nat.le_of_ble_eq_true rfl), (Nat.le_of_ble_eq_true rfl)⟩) ⟨zP_blind, zz_pre hKc hPc hDc hN hT hS hFc⟩ rfl rfl hl.1 rfl (lv_room (Nat.le_of_ble_eq_true rfl)) dL_law_498 ⟨by show cells + 1 ≤ 601024; omega, by show slots + 6 ≤ 7293034; omega⟩) hS (fun q _ h => hFc q h) hFc (fun q _ h => hFc q h) (fun E9 ce9 q9 u t H1 locs ht hvm hw hB hz1 hk1 hS hcell hcv hcl => absurd hw id) (fun r_4 u t H1 locs ht hvm hw hB hz1 hk1 hS => ?_)
  obtain ⟨w_7, t_8, z_9, z_10, z_11⟩ := u
  try dsimp only at hw hB
  obtain ⟨hI_12, hq_13, hq_15, hq_16⟩ := hw
  rw [hq_13, hq_15, hq_16] at hI_12
  obtain ⟨hP1, hK1, hD1⟩ := hB
  rw [ht] at hP1
  have hK1 := va_K.moved hvm.symm hK1
  obtain ⟨hP, hD⟩ := fr_apart hP hD hk1 hFc hP1 hD1
  have hK := (fr_Kr hK).app hK1
  clear hPc hDc hKc hFc hP1 hD1 hK1 hk1 hz1 ht hvm
  generalize H1 = H at hP hS ⊢
  refine lv_istore (lv' := [(5, .int r_4), (0, .ref b), (1, .ref x), (2, .ref y), (3, .ref ou), (4, .int i)]) hx hb dL_law_501 hl (by decide) rfl (fun ls hl => ?_)
  refine lv_aload_n hx hb dL_law_503 rfl (lv_at hl 3 rfl) ?_
  refine lv_aload_n hx hb dL_law_504 rfl (lv_at hl 1 rfl) ?_
  refine lv_iload hx hb dL_law_505 (lv_at hl 5 rfl) ?_
  refine lv_iconst (v := 1) hx hb dL_law_507 (by decide) ?_
  refine lv_iadd hx hb dL_law_508 ?_
  refine lv_topi (fun x_20 ex_20 => ?_)
  have ix_20 : x_20.toInt = i.toInt + 1 := by rw [ex_20]; exact law_ad (by decide) (by decide) (by decide) hi0 hi1
  refine va_sld hx hb hX hbl hbA hS (law_ix ix_20 (by decide) (by decide) hi0 hil) dL_law_509 ?_
  refine lv_topi (fun x_21 ex_21 => ?_)
  have hPc := fr_Pl hP
  have hDc := fr_Dl hD
  have hKc := fr_Kl hK
  have hFc := fr_Fl hD hS hAA
  obtain ⟨fs_22, hfs_22⟩ := zIM_hd hIM
  refine vw_calli (vw_runV (As := [.int x_21]) (rest := []) ⟨hx, hb, hml, hown, hA⟩ (w_X14_out l dC dI aK aV y wM tM ta zt zv gt x_21 H.size hlt hIM) (cwV 1 hA (zw_V wi_2013 wi_2014 wi_2015 wi_143 (zw_good wi_2016)) rfl rfl rfl (by decide +kernel) ⟨(Nat.le_of_ble_eq_true rfl), (Nat.le_of_ble_eq_true rfl)⟩) ⟨zP_blind, va_recv hKc hPc (ci := 14) (q0 := 0) rfl hfs_22, zz_pre hKc hPc hDc hN hT hS hFc⟩ rfl rfl hl.1 rfl (lv_room (Nat.le_of_ble_eq_true rfl)) dL_law_510 ⟨by show (cells + 1) + 0 ≤ 601024; omega, by show (slots + 6) + 0 ≤ 7293034; omega⟩) hS (fun q _ h => hFc q h) hFc (fun q _ h => hFc q h) (fun kc9 kn9 E9 ce9 u t H1 locs ht hvm hw hB hz1 hk1 hS hcell hcv hcl => absurd hw id) (fun kc_24 kn_25 r_23 u t H1 locs ht hvm hw hB hz1 hk1 hS => ?_)
  obtain ⟨w_26, t_27, z_28, z_29, z_30, z_31⟩ := u
  try dsimp only at hw hB
  obtain ⟨hI_32, hq_33, hq_34, hq_35, hq_36, hq_37⟩ := hw
  rw [hq_34, hq_35, hq_37] at hI_32
  skip
  have hq_36a := hq_36.1
  have hq_36b := hq_36.2
  rw [hq_33] at hI_32
  obtain ⟨hP1, hK1, hD1⟩ := hB
  rw [ht] at hP1
  have hK1 := va_K.moved hvm.symm hK1
  obtain ⟨hP, hD⟩ := fr_apart hP hD hk1 hFc hP1 hD1
  have hK := (fr_Kr hK).app hK1
  clear hPc hDc hKc hFc hP1 hD1 hK1 hk1 hz1 ht hvm
  generalize H1 = H at hP hS ⊢
  refine lv_istore (lv' := [(6, .int r_23), (5, .int r_4), (0, .ref b), (1, .ref x), (2, .ref y), (3, .ref ou), (4, .int i)]) hx hb dL_law_513 hl (by decide) rfl (fun ls hl => ?_)
  refine lv_goto (tgt := 556) hx hb dL_law_515 (by decide) ?_
  obtain ⟨x_40, ex_40⟩ : ∃ y : Int32, y = i + Int32.ofInt 8 := ⟨_, rfl⟩
  refine lv_iinc (v := x_40) (lv' := [(4, .int x_40), (6, .int r_23), (5, .int r_4), (0, .ref b), (1, .ref x), (2, .ref y), (3, .ref ou)]) hx hb dL_law_556 hl (k := 6) rfl (by rw [ex_40]) (by decide) rfl (fun ls hl => ?_)
  have ix_40 : x_40.toInt = i.toInt + 8 := by rw [ex_40]; exact law_ad (by decide) (by decide) (by decide) hi0 hi1
  refine lv_goto (tgt := 23) hx hb dL_law_559 (by decide) ?_
  have hsz9 := zIM_sz hI_32
  exact ih x_40 w_7 t_8 fed w_26 t_27 ta zt zv gt _ _ _ _ _ (by omega) (by omega) (by omega) hI_12 hI_32 (by omega) hP hD hK hS (lv_sub hl [3, 4, 5, 6, 0] rfl) (by omega) (by omega)
set_option maxHeartbeats 40000000 in
set_option maxRecDepth 100000 in
theorem law_c9 {p : Program} {e : Env} {s : State} {m : MethodId} {below : List Frame} {meth : Method} {c : Code} (l : Launch) (hlt : l.stackTraces = false) {b L : Nat} {xs : Nat → Int32} (hL : L ≤ 4096) (hx : p.tables.exec = Jvm.exec) (hb : c.code = code) (hr : meth.sig.returnType = ret) (hml : c.maxLocals = 7) (hown : s.vm.findClass RL = some m.cls) (hA : ∀ w ∈ zw, w.before #[Value.ref b] s = true) (hX : va_X b L xs s s.heap) (hbl : b < s.heap.size) (hlocks : meth.locks = false) {A : Nat → Prop} (hAd : A = (fun q : Nat => s.heap.size ≤ q)) (hAA : ∀ q : Nat, s.heap.size ≤ q → A q) (hbA : ¬ A b) {dC : Nat → ClassId} {dI : Nat → Nat → Nat} {aK aV : Nat → Nat} (hN : zN s) (hT : zT aK aV A s s.heap) (x y ou : Nat) (n9 : Nat) (ih : ∀ (i : Int32) (wC : va_W) (tC : List (ClassId × FieldType)) (fed : Int32) (wM : va_W) (tM : List (ClassId × FieldType)) (ta : Int32) (zt zv : Nat) (gt : Nat → Int32) (H : Heap) (locs : List Loc) (ls : Array Slot) (cells slots : Nat), (4105 - i.toInt).toNat ≤ n9 → 0 ≤ i.toInt → i.toInt ≤ 4104 → zIC x wC tC fed ou gt → zIM y wM tM ta zt zv gt → fed.toInt = ta.toInt → va_P (dC, dI) vwCl (wC ++ wM) H → va_D A (wC ++ wM) → va_K (dC, dI) vwCl (tC ++ tM) s → va_S A s.heap H locs → lv_has ls 7 [(0, .ref b), (1, .ref x), (2, .ref y), (3, .ref ou), (4, .int i)] → (cells : Int) ≤ 200 + i.toInt + zG zt + zG zv → (slots : Int) ≤ 260000 + 3 * i.toInt + 4 * zt + 2 * zv → W p l e room_1 s m #[Value.ref b] below meth c H locs cells slots (lw_Z below #[Value.ref b] s) (F0 m 23 ls [])) (i : Int32) (wC : va_W) (tC : List (ClassId × FieldType)) (fed : Int32) (wM : va_W) (tM : List (ClassId × FieldType)) (ta : Int32) (zt zv : Nat) (gt : Nat → Int32) (H : Heap) (locs : List Loc) (ls : Array Slot) (cells slots : Nat) (hm9 : (4105 - i.toInt).toNat ≤ n9 + 1) (hi0 : 0 ≤ i.toInt) (hi1 : i.toInt ≤ 4104) (hIC : zIC x wC tC fed ou gt) (hIM : zIM y wM tM ta zt zv gt) (hft : fed.toInt = ta.toInt) (hP : va_P (dC, dI) vwCl (wC ++ wM) H) (hD : va_D A (wC ++ wM)) (hK : va_K (dC, dI) vwCl (tC ++ tM) s) (hS : va_S A s.heap H locs) (hl : lv_has ls 7 [(0, .ref b), (1, .ref x), (2, .ref y), (3, .ref ou), (4, .int i)]) (hce : (cells : Int) ≤ 200 + i.toInt + zG zt + zG zv) (hsl : (slots : Int) ≤ 260000 + 3 * i.toInt + 4 * zt + 2 * zv) (hil : i.toInt + 8 ≤ (L : Int)) : W p l e room_1 s m #[Value.ref b] below meth c H locs cells slots (lw_Z below #[Value.ref b] s) (F0 m 518 ls []) := by
  have hsz9 := zIM_sz hIM
  have hg1 := zG_le (z := zt)
  have hg2 := zG_le (z := zv)
  have hm : (4105 - i.toInt).toNat ≤ n9 + 1 := hm9
  refine lv_aload_n hx hb dL_law_518 rfl (lv_at hl 1 rfl) ?_
  have hPc := fr_Pl hP
  have hDc := fr_Dl hD
  have hKc := fr_Kl hK
  have hFc := fr_Fl hD hS hAA
  obtain ⟨fs_1, hfs_1⟩ := zIC_hd hIC
  refine vw_calli (vw_runV (As := []) (rest := []) ⟨hx, hb, hml, hown, hA⟩ (w_X11_release l dC dI aK aV x wC tC fed ou gt  H.size hlt hIC) (cwV 0 hA (zw_V wi_1334 wi_1335 wi_1336 wi_130 (zw_good wi_1337)) rfl rfl rfl (by decide +kernel) ⟨(Nat.le_of_ble_eq_true rfl), (Nat.le_of_ble_eq_true rfl)⟩) ⟨zP_blind, va_recv hKc hPc (ci := 11) (q0 := 0) rfl hfs_1, zz_pre hKc hPc hDc hN hT hS hFc⟩ rfl rfl hl.1 rfl (lv_room (Nat.le_of_ble_eq_true rfl)) dL_law_519 ⟨by show cells + 0 ≤ 601024; omega, by show slots + 0 ≤ 7293034; omega⟩) hS (fun q _ h => hFc q h) hFc (fun q _ h => hFc q h) (fun kc9 kn9 E9 ce9 u t H1 locs ht hvm hw hB hz1 hk1 hS hcell hcv hcl => absurd hw id) (fun kc_3 kn_4 r_2 u t H1 locs ht hvm hw hB hz1 hk1 hS => ?_)
  obtain ⟨w_5, t_6, z_7, z_8, z_9⟩ := u
  try dsimp only at hw hB
  obtain ⟨hI_10, hq_11, hq_12, hq_13, hq_14⟩ := hw
  rw [hq_13, hq_14] at hI_10
  skip
  have hq_12a := hq_12.1
  have hq_12b := hq_12.2
  rw [hq_11] at hI_10
  obtain ⟨hP1, hK1, hD1⟩ := hB
  rw [ht] at hP1
  have hK1 := va_K.moved hvm.symm hK1
  obtain ⟨hP, hD⟩ := fr_apart hP hD hk1 hFc hP1 hD1
  have hK := (fr_Kr hK).app hK1
  clear hPc hDc hKc hFc hP1 hD1 hK1 hk1 hz1 ht hvm
  generalize H1 = H at hP hS ⊢
  refine lv_pop hx hb dL_law_522 rfl ?_
  refine lv_aload_n hx hb dL_law_523 rfl (lv_at hl 2 rfl) ?_
  have hPc := fr_Pl hP
  have hDc := fr_Dl hD
  have hKc := fr_Kl hK
  have hFc := fr_Fl hD hS hAA
  obtain ⟨fs_18, hfs_18⟩ := zIM_hd hIM
  refine vw_calli (vw_runV (As := []) (rest := []) ⟨hx, hb, hml, hown, hA⟩ (w_X14_release l dC dI aK aV y wM tM ta zt zv gt  H.size hlt hIM) (cwV 0 hA (zw_V wi_2017 wi_2018 wi_2019 wi_143 (zw_good wi_2020)) rfl rfl rfl (by decide +kernel) ⟨(Nat.le_of_ble_eq_true rfl), (Nat.le_of_ble_eq_true rfl)⟩) ⟨zP_blind, va_recv hKc hPc (ci := 14) (q0 := 0) rfl hfs_18, zz_pre hKc hPc hDc hN hT hS hFc⟩ rfl rfl hl.1 rfl (lv_room (Nat.le_of_ble_eq_true rfl)) dL_law_524 ⟨by show (cells + kc_3) + 0 ≤ 601024; omega, by show (slots + kn_4) + 0 ≤ 7293034; omega⟩) hS (fun q _ h => hFc q h) hFc (fun q _ h => hFc q h) (fun kc9 kn9 E9 ce9 u t H1 locs ht hvm hw hB hz1 hk1 hS hcell hcv hcl => absurd hw id) (fun kc_20 kn_21 r_19 u t H1 locs ht hvm hw hB hz1 hk1 hS => ?_)
  obtain ⟨w_22, t_23, z_24, z_25, z_26, z_27⟩ := u
  try dsimp only at hw hB
  obtain ⟨hI_28, hq_29, hq_30, hq_31, hq_32, hq_33⟩ := hw
  rw [hq_30, hq_31, hq_33] at hI_28
  skip
  have hq_32a := hq_32.1
  have hq_32b := hq_32.2
  rw [hq_29] at hI_28
  obtain ⟨hP1, hK1, hD1⟩ := hB
  rw [ht] at hP1
  have hK1 := va_K.moved hvm.symm hK1
  obtain ⟨hP, hD⟩ := fr_apart hP hD hk1 hFc hP1 hD1
  have hK := (fr_Kr hK).app hK1
  clear hPc hDc hKc hFc hP1 hD1 hK1 hk1 hz1 ht hvm
  generalize H1 = H at hP hS ⊢
  refine lv_pop hx hb dL_law_527 rfl ?_
  refine lv_goto (tgt := 556) hx hb dL_law_528 (by decide) ?_
  obtain ⟨x_36, ex_36⟩ : ∃ y : Int32, y = i + Int32.ofInt 8 := ⟨_, rfl⟩
  refine lv_iinc (v := x_36) (lv' := [(4, .int x_36), (0, .ref b), (1, .ref x), (2, .ref y), (3, .ref ou)]) hx hb dL_law_556 hl (k := 4) rfl (by rw [ex_36]) (by decide) rfl (fun ls hl => ?_)
  have ix_36 : x_36.toInt = i.toInt + 8 := by rw [ex_36]; exact law_ad (by decide) (by decide) (by decide) hi0 hi1
  refine lv_goto (tgt := 23) hx hb dL_law_559 (by decide) ?_
  have hsz9 := zIM_sz hI_28
  exact ih x_36 w_5 t_6 fed w_22 t_23 ta zt zv gt _ _ _ _ _ (by omega) (by omega) (by omega) hI_10 hI_28 (by omega) hP hD hK hS (lv_sub hl [1, 2, 3, 4, 0] rfl) (by omega) (by omega)
set_option maxHeartbeats 40000000 in
set_option maxRecDepth 100000 in
theorem law_c10 {p : Program} {e : Env} {s : State} {m : MethodId} {below : List Frame} {meth : Method} {c : Code} (l : Launch) (hlt : l.stackTraces = false) {b L : Nat} {xs : Nat → Int32} (hL : L ≤ 4096) (hx : p.tables.exec = Jvm.exec) (hb : c.code = code) (hr : meth.sig.returnType = ret) (hml : c.maxLocals = 7) (hown : s.vm.findClass RL = some m.cls) (hA : ∀ w ∈ zw, w.before #[Value.ref b] s = true) (hX : va_X b L xs s s.heap) (hbl : b < s.heap.size) (hlocks : meth.locks = false) {A : Nat → Prop} (hAd : A = (fun q : Nat => s.heap.size ≤ q)) (hAA : ∀ q : Nat, s.heap.size ≤ q → A q) (hbA : ¬ A b) {dC : Nat → ClassId} {dI : Nat → Nat → Nat} {aK aV : Nat → Nat} (hN : zN s) (hT : zT aK aV A s s.heap) (x y ou : Nat) (n9 : Nat) (ih : ∀ (i : Int32) (wC : va_W) (tC : List (ClassId × FieldType)) (fed : Int32) (wM : va_W) (tM : List (ClassId × FieldType)) (ta : Int32) (zt zv : Nat) (gt : Nat → Int32) (H : Heap) (locs : List Loc) (ls : Array Slot) (cells slots : Nat), (4105 - i.toInt).toNat ≤ n9 → 0 ≤ i.toInt → i.toInt ≤ 4104 → zIC x wC tC fed ou gt → zIM y wM tM ta zt zv gt → fed.toInt = ta.toInt → va_P (dC, dI) vwCl (wC ++ wM) H → va_D A (wC ++ wM) → va_K (dC, dI) vwCl (tC ++ tM) s → va_S A s.heap H locs → lv_has ls 7 [(0, .ref b), (1, .ref x), (2, .ref y), (3, .ref ou), (4, .int i)] → (cells : Int) ≤ 200 + i.toInt + zG zt + zG zv → (slots : Int) ≤ 260000 + 3 * i.toInt + 4 * zt + 2 * zv → W p l e room_1 s m #[Value.ref b] below meth c H locs cells slots (lw_Z below #[Value.ref b] s) (F0 m 23 ls [])) (i : Int32) (wC : va_W) (tC : List (ClassId × FieldType)) (fed : Int32) (wM : va_W) (tM : List (ClassId × FieldType)) (ta : Int32) (zt zv : Nat) (gt : Nat → Int32) (H : Heap) (locs : List Loc) (ls : Array Slot) (cells slots : Nat) (hm9 : (4105 - i.toInt).toNat ≤ n9 + 1) (hi0 : 0 ≤ i.toInt) (hi1 : i.toInt ≤ 4104) (hIC : zIC x wC tC fed ou gt) (hIM : zIM y wM tM ta zt zv gt) (hft : fed.toInt = ta.toInt) (hP : va_P (dC, dI) vwCl (wC ++ wM) H) (hD : va_D A (wC ++ wM)) (hK : va_K (dC, dI) vwCl (tC ++ tM) s) (hS : va_S A s.heap H locs) (hl : lv_has ls 7 [(0, .ref b), (1, .ref x), (2, .ref y), (3, .ref ou), (4, .int i)]) (hce : (cells : Int) ≤ 200 + i.toInt + zG zt + zG zv) (hsl : (slots : Int) ≤ 260000 + 3 * i.toInt + 4 * zt + 2 * zv) (hil : i.toInt + 8 ≤ (L : Int)) : W p l e room_1 s m #[Value.ref b] below meth c H locs cells slots (lw_Z below #[Value.ref b] s) (F0 m 531 ls []) := by
  have hsz9 := zIM_sz hIM
  have hg1 := zG_le (z := zt)
  have hg2 := zG_le (z := zv)
  have hm : (4105 - i.toInt).toNat ≤ n9 + 1 := hm9
  refine lv_aload_n hx hb dL_law_531 rfl (lv_at hl 1 rfl) ?_
  refine lv_aload_n hx hb dL_law_532 rfl (lv_at hl 0 rfl) ?_
  refine lv_iload hx hb dL_law_533 (lv_at hl 4 rfl) ?_
  refine lv_iconst (v := 1) hx hb dL_law_535 (by decide) ?_
  refine lv_iadd hx hb dL_law_536 ?_
  refine lv_topi (fun x_1 ex_1 => ?_)
  have ix_1 : x_1.toInt = i.toInt + 1 := by rw [ex_1]; exact law_ad (by decide) (by decide) (by decide) hi0 hi1
  refine va_sld hx hb hX hbl hbA hS (law_ix ix_1 (by decide) (by decide) hi0 hil) dL_law_537 ?_
  refine lv_topi (fun x_2 ex_2 => ?_)
  have hPc := fr_Pl hP
  have hDc := fr_Dl hD
  have hKc := fr_Kl hK
  have hFc := fr_Fl hD hS hAA
  obtain ⟨fs_3, hfs_3⟩ := zIC_hd hIC
  refine vw_calli (vw_runV (As := [.int x_2]) (rest := []) ⟨hx, hb, hml, hown, hA⟩ (w_X11_count l dC dI aK aV x wC tC fed ou gt x_2 H.size hlt hIC) (cwV 1 hA (zw_V wi_1339 wi_1340 wi_1341 wi_130 (zw_good wi_1342)) rfl rfl rfl (by decide +kernel) ⟨(Nat.le_of_ble_eq_true rfl), (Nat.le_of_ble_eq_true rfl)⟩) ⟨zP_blind, va_recv hKc hPc (ci := 11) (q0 := 0) rfl hfs_3, zz_pre hKc hPc hDc hN hT hS hFc⟩ rfl rfl hl.1 rfl (lv_room (Nat.le_of_ble_eq_true rfl)) dL_law_538 ⟨by show cells + 0 ≤ 601024; omega, by show slots + 0 ≤ 7293034; omega⟩) hS (fun q _ h => hFc q h) hFc (fun q _ h => hFc q h) (fun kc9 kn9 E9 ce9 u t H1 locs ht hvm hw hB hz1 hk1 hS hcell hcv hcl => absurd hw id) (fun kc_5 kn_6 r_4 u t H1 locs ht hvm hw hB hz1 hk1 hS => ?_)
  obtain ⟨w_7, t_8, z_9, z_10, z_11⟩ := u
  try dsimp only at hw hB
  obtain ⟨hI_12, hq_13, hq_14, hq_15, hq_16⟩ := hw
  rw [hq_15, hq_16] at hI_12
  skip
  have hq_14a := hq_14.1
  have hq_14b := hq_14.2
  rw [hq_13] at hI_12
  obtain ⟨hP1, hK1, hD1⟩ := hB
  rw [ht] at hP1
  have hK1 := va_K.moved hvm.symm hK1
  obtain ⟨hP, hD⟩ := fr_apart hP hD hk1 hFc hP1 hD1
  have hK := (fr_Kr hK).app hK1
  clear hPc hDc hKc hFc hP1 hD1 hK1 hk1 hz1 ht hvm
  generalize H1 = H at hP hS ⊢
  refine lv_pop hx hb dL_law_541 rfl ?_
  refine lv_aload_n hx hb dL_law_542 rfl (lv_at hl 2 rfl) ?_
  refine lv_aload_n hx hb dL_law_543 rfl (lv_at hl 0 rfl) ?_
  refine lv_iload hx hb dL_law_544 (lv_at hl 4 rfl) ?_
  refine lv_iconst (v := 1) hx hb dL_law_546 (by decide) ?_
  refine lv_iadd hx hb dL_law_547 ?_
  refine lv_topi (fun x_20 ex_20 => ?_)
  have ix_20 : x_20.toInt = i.toInt + 1 := by rw [ex_20]; exact law_ad (by decide) (by decide) (by decide) hi0 hi1
  refine va_sld hx hb hX hbl hbA hS (law_ix ix_20 (by decide) (by decide) hi0 hil) dL_law_548 ?_
  refine lv_topi (fun x_21 ex_21 => ?_)
  have hPc := fr_Pl hP
  have hDc := fr_Dl hD
  have hKc := fr_Kl hK
  have hFc := fr_Fl hD hS hAA
  obtain ⟨fs_22, hfs_22⟩ := zIM_hd hIM
  refine vw_calli (vw_runV (As := [.int x_21]) (rest := []) ⟨hx, hb, hml, hown, hA⟩ (w_X14_count l dC dI aK aV y wM tM ta zt zv gt x_21 H.size hlt hIM) (cwV 1 hA (zw_V wi_2021 wi_2022 wi_2023 wi_143 (zw_good wi_2024)) rfl rfl rfl (by decide +kernel) ⟨(Nat.le_of_ble_eq_true rfl), (Nat.le_of_ble_eq_true rfl)⟩) ⟨zP_blind, va_recv hKc hPc (ci := 14) (q0 := 0) rfl hfs_22, zz_pre hKc hPc hDc hN hT hS hFc⟩ rfl rfl hl.1 rfl (lv_room (Nat.le_of_ble_eq_true rfl)) dL_law_549 ⟨by show (cells + kc_5) + 0 ≤ 601024; omega, by show (slots + kn_6) + 0 ≤ 7293034; omega⟩) hS (fun q _ h => hFc q h) hFc (fun q _ h => hFc q h) (fun kc9 kn9 E9 ce9 u t H1 locs ht hvm hw hB hz1 hk1 hS hcell hcv hcl => absurd hw id) (fun kc_24 kn_25 r_23 u t H1 locs ht hvm hw hB hz1 hk1 hS => ?_)
  obtain ⟨w_26, t_27, z_28, z_29, z_30, z_31⟩ := u
  try dsimp only at hw hB
  obtain ⟨hI_32, hq_33, hq_34, hq_35, hq_36, hq_37⟩ := hw
  rw [hq_34, hq_35, hq_37] at hI_32
  skip
  have hq_36a := hq_36.1
  have hq_36b := hq_36.2
  rw [hq_33] at hI_32
  obtain ⟨hP1, hK1, hD1⟩ := hB
  rw [ht] at hP1
  have hK1 := va_K.moved hvm.symm hK1
  obtain ⟨hP, hD⟩ := fr_apart hP hD hk1 hFc hP1 hD1
  have hK := (fr_Kr hK).app hK1
  clear hPc hDc hKc hFc hP1 hD1 hK1 hk1 hz1 ht hvm
  generalize H1 = H at hP hS ⊢
  refine lv_pop hx hb dL_law_552 rfl ?_
  refine lv_goto (tgt := 556) hx hb dL_law_553 (by decide) ?_
  obtain ⟨x_40, ex_40⟩ : ∃ y : Int32, y = i + Int32.ofInt 8 := ⟨_, rfl⟩
  refine lv_iinc (v := x_40) (lv' := [(4, .int x_40), (0, .ref b), (1, .ref x), (2, .ref y), (3, .ref ou)]) hx hb dL_law_556 hl (k := 4) rfl (by rw [ex_40]) (by decide) rfl (fun ls hl => ?_)
  have ix_40 : x_40.toInt = i.toInt + 8 := by rw [ex_40]; exact law_ad (by decide) (by decide) (by decide) hi0 hi1
  refine lv_goto (tgt := 23) hx hb dL_law_559 (by decide) ?_
  have hsz9 := zIM_sz hI_32
  exact ih x_40 w_7 t_8 fed w_26 t_27 ta zt zv gt _ _ _ _ _ (by omega) (by omega) (by omega) hI_12 hI_32 (by omega) hP hD hK hS (lv_sub hl [1, 2, 3, 4, 0] rfl) (by omega) (by omega)
set_option maxHeartbeats 40000000 in
set_option maxRecDepth 100000 in
theorem law_c11 {p : Program} {e : Env} {s : State} {m : MethodId} {below : List Frame} {meth : Method} {c : Code} (l : Launch) (hlt : l.stackTraces = false) {b L : Nat} {xs : Nat → Int32} (hL : L ≤ 4096) (hx : p.tables.exec = Jvm.exec) (hb : c.code = code) (hr : meth.sig.returnType = ret) (hml : c.maxLocals = 7) (hown : s.vm.findClass RL = some m.cls) (hA : ∀ w ∈ zw, w.before #[Value.ref b] s = true) (hX : va_X b L xs s s.heap) (hbl : b < s.heap.size) (hlocks : meth.locks = false) {A : Nat → Prop} (hAd : A = (fun q : Nat => s.heap.size ≤ q)) (hAA : ∀ q : Nat, s.heap.size ≤ q → A q) (hbA : ¬ A b) {dC : Nat → ClassId} {dI : Nat → Nat → Nat} {aK aV : Nat → Nat} (hN : zN s) (hT : zT aK aV A s s.heap) (x y ou : Nat) (n9 : Nat) (ih : ∀ (i : Int32) (wC : va_W) (tC : List (ClassId × FieldType)) (fed : Int32) (wM : va_W) (tM : List (ClassId × FieldType)) (ta : Int32) (zt zv : Nat) (gt : Nat → Int32) (H : Heap) (locs : List Loc) (ls : Array Slot) (cells slots : Nat), (4105 - i.toInt).toNat ≤ n9 → 0 ≤ i.toInt → i.toInt ≤ 4104 → zIC x wC tC fed ou gt → zIM y wM tM ta zt zv gt → fed.toInt = ta.toInt → va_P (dC, dI) vwCl (wC ++ wM) H → va_D A (wC ++ wM) → va_K (dC, dI) vwCl (tC ++ tM) s → va_S A s.heap H locs → lv_has ls 7 [(0, .ref b), (1, .ref x), (2, .ref y), (3, .ref ou), (4, .int i)] → (cells : Int) ≤ 200 + i.toInt + zG zt + zG zv → (slots : Int) ≤ 260000 + 3 * i.toInt + 4 * zt + 2 * zv → W p l e room_1 s m #[Value.ref b] below meth c H locs cells slots (lw_Z below #[Value.ref b] s) (F0 m 23 ls [])) (i : Int32) (wC : va_W) (tC : List (ClassId × FieldType)) (fed : Int32) (wM : va_W) (tM : List (ClassId × FieldType)) (ta : Int32) (zt zv : Nat) (gt : Nat → Int32) (H : Heap) (locs : List Loc) (ls : Array Slot) (cells slots : Nat) (hm9 : (4105 - i.toInt).toNat ≤ n9 + 1) (hi0 : 0 ≤ i.toInt) (hi1 : i.toInt ≤ 4104) (hIC : zIC x wC tC fed ou gt) (hIM : zIM y wM tM ta zt zv gt) (hft : fed.toInt = ta.toInt) (hP : va_P (dC, dI) vwCl (wC ++ wM) H) (hD : va_D A (wC ++ wM)) (hK : va_K (dC, dI) vwCl (tC ++ tM) s) (hS : va_S A s.heap H locs) (hl : lv_has ls 7 [(0, .ref b), (1, .ref x), (2, .ref y), (3, .ref ou), (4, .int i)]) (hce : (cells : Int) ≤ 200 + i.toInt + zG zt + zG zv) (hsl : (slots : Int) ≤ 260000 + 3 * i.toInt + 4 * zt + 2 * zv) (hil : i.toInt + 8 ≤ (L : Int)) : W p l e room_1 s m #[Value.ref b] below meth c H locs cells slots (lw_Z below #[Value.ref b] s) (F0 m 556 ls []) := by
  have hsz9 := zIM_sz hIM
  have hg1 := zG_le (z := zt)
  have hg2 := zG_le (z := zv)
  have hm : (4105 - i.toInt).toNat ≤ n9 + 1 := hm9
  obtain ⟨x_1, ex_1⟩ : ∃ y : Int32, y = i + Int32.ofInt 8 := ⟨_, rfl⟩
  refine lv_iinc (v := x_1) (lv' := [(4, .int x_1), (0, .ref b), (1, .ref x), (2, .ref y), (3, .ref ou)]) hx hb dL_law_556 hl (k := 4) rfl (by rw [ex_1]) (by decide) rfl (fun ls hl => ?_)
  have ix_1 : x_1.toInt = i.toInt + 8 := by rw [ex_1]; exact law_ad (by decide) (by decide) (by decide) hi0 hi1
  refine lv_goto (tgt := 23) hx hb dL_law_559 (by decide) ?_
  have hsz9 := zIM_sz hIM
  exact ih x_1 wC tC fed wM tM ta zt zv gt _ _ _ _ _ (by omega) (by omega) (by omega) hIC hIM (by omega) hP hD hK hS (lv_sub hl [1, 2, 3, 4, 0] rfl) (by omega) (by omega)
set_option maxHeartbeats 40000000 in
set_option maxRecDepth 100000 in
theorem law_loop {p : Program} {e : Env} {s : State} {m : MethodId} {below : List Frame} {meth : Method} {c : Code} (l : Launch) (hlt : l.stackTraces = false) {b L : Nat} {xs : Nat → Int32} (hL : L ≤ 4096) (hx : p.tables.exec = Jvm.exec) (hb : c.code = code) (hr : meth.sig.returnType = ret) (hml : c.maxLocals = 7) (hown : s.vm.findClass RL = some m.cls) (hA : ∀ w ∈ zw, w.before #[Value.ref b] s = true) (hX : va_X b L xs s s.heap) (hbl : b < s.heap.size) (hlocks : meth.locks = false) {A : Nat → Prop} (hAd : A = (fun q : Nat => s.heap.size ≤ q)) (hAA : ∀ q : Nat, s.heap.size ≤ q → A q) (hbA : ¬ A b) {dC : Nat → ClassId} {dI : Nat → Nat → Nat} {aK aV : Nat → Nat} (hN : zN s) (hT : zT aK aV A s s.heap) (x y ou : Nat) : ∀ (n9 : Nat) (i : Int32) (wC : va_W) (tC : List (ClassId × FieldType)) (fed : Int32) (wM : va_W) (tM : List (ClassId × FieldType)) (ta : Int32) (zt zv : Nat) (gt : Nat → Int32) (H : Heap) (locs : List Loc) (ls : Array Slot) (cells slots : Nat), (4105 - i.toInt).toNat ≤ n9 → 0 ≤ i.toInt → i.toInt ≤ 4104 → zIC x wC tC fed ou gt → zIM y wM tM ta zt zv gt → fed.toInt = ta.toInt → va_P (dC, dI) vwCl (wC ++ wM) H → va_D A (wC ++ wM) → va_K (dC, dI) vwCl (tC ++ tM) s → va_S A s.heap H locs → lv_has ls 7 [(0, .ref b), (1, .ref x), (2, .ref y), (3, .ref ou), (4, .int i)] → (cells : Int) ≤ 200 + i.toInt + zG zt + zG zv → (slots : Int) ≤ 260000 + 3 * i.toInt + 4 * zt + 2 * zv → W p l e room_1 s m #[Value.ref b] below meth c H locs cells slots (lw_Z below #[Value.ref b] s) (F0 m 23 ls []) := by
  intro n9
  induction n9 with
  | zero => intro i wC tC fed wM tM ta zt zv gt H locs ls cells slots hm hi0 hi1 hIC hIM hft hP hD hK hS hl hce hsl; exfalso; omega
  | succ n9 ih =>
    intro i wC tC fed wM tM ta zt zv gt H locs ls cells slots hm hi0 hi1 hIC hIM hft hP hD hK hS hl hce hsl
    have hsz9 := zIM_sz hIM
    have hg1 := zG_le (z := zt)
    have hg2 := zG_le (z := zv)
    refine lv_iload hx hb dL_law_23 (lv_at hl 4 rfl) ?_
    refine lv_aload_n hx hb dL_law_25 rfl (lv_at hl 0 rfl) ?_
    refine va_slen hx hb hX hbl hbA hS dL_law_26 ?_
    refine lv_topi (fun x_1 ex_1 => ?_)
    have ix_1 : x_1.toInt = (L : Int) := by rw [ex_1]; exact nI_toInt (by omega)
    refine lv_bipush (v := 8) hx hb dL_law_27 (by decide) ?_
    refine lv_isub hx hb dL_law_29 ?_
    refine lv_topi (fun x_2 ex_2 => ?_)
    have ix_2 : x_2.toInt = x_1.toInt - 8 := by rw [ex_2]; exact zi_subc (by decide) (by omega) (by omega)
    refine lv_icmp_gt (tgt := 562) hx hb dL_law_30 (by decide) (fun c_3 => ?_) (fun c_3 => ?_)
    · have ic_3 : x_2.toInt < i.toInt := zi_lt c_3
      refine lv_iconst (v := 1) hx hb dL_law_562 (by decide) ?_
      refine va_forget (fun q hq => by have h9 := hS.2.2 q hq; rw [hAd] at h9; exact h9) ?_
      refine W.widen (k := 601024) (n := 7293034) (by omega) (by omega) ?_
      exact lw_ret hx hb hr hlocks dL_law_563
    · have ic_3 : i.toInt ≤ x_2.toInt := zi_nlt c_3
      refine lv_aload_n hx hb dL_law_33 rfl (lv_at hl 0 rfl) ?_
      refine lv_iload hx hb dL_law_34 (lv_at hl 4 rfl) ?_
      refine va_sld hx hb hX hbl hbA hS (vp_in_iff.mpr ⟨by omega, by omega⟩) dL_law_36 ?_
      refine lv_topi (fun x_4 ex_4 => ?_)
      refine lv_bipush (v := 15) hx hb dL_law_37 (by decide) ?_
      refine lv_iand hx hb dL_law_39 ?_
      refine lv_topi (fun x_5 ex_5 => ?_)
      obtain ⟨j, hj, ej⟩ := pk_andE x_4 (m := 15) 4 (by decide)
      obtain rfl : x_5 = nI j := ex_5.trans ej
      have hc : j = 0 ∨ j = 1 ∨ j = 2 ∨ j = 3 ∨ j = 4 ∨ j = 5 ∨ j = 6 ∨ j = 7 ∨ j = 8 ∨ j = 9 ∨ j = 10 ∨ 11 ≤ j := by omega
      rcases hc with rfl | rfl | rfl | rfl | rfl | rfl | rfl | rfl | rfl | rfl | rfl | hj11
      · exact lv_tableIn (off := 60) (tgt := 100) hx hb dL_law_40 (by decide) (by decide) (by decide) (by decide) (law_c0 l hlt hL hx hb hr hml hown hA hX hbl hlocks hAd hAA hbA hN hT x y ou n9 ih i wC tC fed wM tM ta zt zv gt H locs ls cells slots hm hi0 hi1 hIC hIM hft hP hD hK hS hl hce hsl (by omega))
      · exact lv_tableIn (off := 133) (tgt := 173) hx hb dL_law_40 (by decide) (by decide) (by decide) (by decide) (law_c1 l hlt hL hx hb hr hml hown hA hX hbl hlocks hAd hAA hbA hN hT x y ou n9 ih i wC tC fed wM tM ta zt zv gt H locs ls cells slots hm hi0 hi1 hIC hIM hft hP hD hK hS hl hce hsl (by omega))
      · exact lv_tableIn (off := 158) (tgt := 198) hx hb dL_law_40 (by decide) (by decide) (by decide) (by decide) (law_c2 l hlt hL hx hb hr hml hown hA hX hbl hlocks hAd hAA hbA hN hT x y ou n9 ih i wC tC fed wM tM ta zt zv gt H locs ls cells slots hm hi0 hi1 hIC hIM hft hP hD hK hS hl hce hsl (by omega))
      · exact lv_tableIn (off := 171) (tgt := 211) hx hb dL_law_40 (by decide) (by decide) (by decide) (by decide) (law_c3 l hlt hL hx hb hr hml hown hA hX hbl hlocks hAd hAA hbA hN hT x y ou n9 ih i wC tC fed wM tM ta zt zv gt H locs ls cells slots hm hi0 hi1 hIC hIM hft hP hD hK hS hl hce hsl (by omega))
      · exact lv_tableIn (off := 184) (tgt := 224) hx hb dL_law_40 (by decide) (by decide) (by decide) (by decide) (law_c4 l hlt hL hx hb hr hml hown hA hX hbl hlocks hAd hAA hbA hN hT x y ou n9 ih i wC tC fed wM tM ta zt zv gt H locs ls cells slots hm hi0 hi1 hIC hIM hft hP hD hK hS hl hce hsl (by omega))
      · exact lv_tableIn (off := 221) (tgt := 261) hx hb dL_law_40 (by decide) (by decide) (by decide) (by decide) (law_c5 l hlt hL hx hb hr hml hown hA hX hbl hlocks hAd hAA hbA hN hT x y ou n9 ih i wC tC fed wM tM ta zt zv gt H locs ls cells slots hm hi0 hi1 hIC hIM hft hP hD hK hS hl hce hsl (by omega))
      · exact lv_tableIn (off := 322) (tgt := 362) hx hb dL_law_40 (by decide) (by decide) (by decide) (by decide) (law_c6 l hlt hL hx hb hr hml hown hA hX hbl hlocks hAd hAA hbA hN hT x y ou n9 ih i wC tC fed wM tM ta zt zv gt H locs ls cells slots hm hi0 hi1 hIC hIM hft hP hD hK hS hl hce hsl (by omega))
      · exact lv_tableIn (off := 409) (tgt := 449) hx hb dL_law_40 (by decide) (by decide) (by decide) (by decide) (law_c7 l hlt hL hx hb hr hml hown hA hX hbl hlocks hAd hAA hbA hN hT x y ou n9 ih i wC tC fed wM tM ta zt zv gt H locs ls cells slots hm hi0 hi1 hIC hIM hft hP hD hK hS hl hce hsl (by omega))
      · exact lv_tableIn (off := 450) (tgt := 490) hx hb dL_law_40 (by decide) (by decide) (by decide) (by decide) (law_c8 l hlt hL hx hb hr hml hown hA hX hbl hlocks hAd hAA hbA hN hT x y ou n9 ih i wC tC fed wM tM ta zt zv gt H locs ls cells slots hm hi0 hi1 hIC hIM hft hP hD hK hS hl hce hsl (by omega))
      · exact lv_tableIn (off := 478) (tgt := 518) hx hb dL_law_40 (by decide) (by decide) (by decide) (by decide) (law_c9 l hlt hL hx hb hr hml hown hA hX hbl hlocks hAd hAA hbA hN hT x y ou n9 ih i wC tC fed wM tM ta zt zv gt H locs ls cells slots hm hi0 hi1 hIC hIM hft hP hD hK hS hl hce hsl (by omega))
      · exact lv_tableIn (off := 491) (tgt := 531) hx hb dL_law_40 (by decide) (by decide) (by decide) (by decide) (law_c10 l hlt hL hx hb hr hml hown hA hX hbl hlocks hAd hAA hbA hN hT x y ou n9 ih i wC tC fed wM tM ta zt zv gt H locs ls cells slots hm hi0 hi1 hIC hIM hft hP hD hK hS hl hce hsl (by omega))
      · exact lv_tableOut (tgt := 556) hx hb dL_law_40 (Or.inr (by rw [nI_toInt (by omega)]; omega)) (by decide) (law_c11 l hlt hL hx hb hr hml hown hA hX hbl hlocks hAd hAA hbA hN hT x y ou n9 ih i wC tC fed wM tM ta zt zv gt H locs ls cells slots hm hi0 hi1 hIC hIM hft hP hD hK hS hl hce hsl (by omega))
