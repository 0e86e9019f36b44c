/-! a match, as the reference goes through it -/
/-- the kinds seen so far, as bits -/
def rx_sb (se : Int32) (Q : List Nat) : Prop := ∀ k, k < 20 → (zbit se k = true ↔ k ∈ Q)
theorem rx_sb_0 : rx_sb 0 [] := fun k hk => by rw [zbit_z (by omega)]; simp
theorem rx_sb_n {se kd v u : Int32} {Q : List Nat} (h : rx_sb se Q) (h0 : 0 ≤ kd.toInt) (h1 : kd.toInt < 20) (ev : v = se >>> (kd &&& 31)) (eu : u = v &&& 1) : u.toInt = 1 ↔ Int32.toNatClampNeg kd ∈ Q := by
  have hn := zn_nat h0
  rw [← h _ (by omega), ← zbit_sr h0 (by omega), ← ev, ← zbit_and1, ← eu]
  exact ⟨fun g => Int32.toInt_inj.mp (g.trans (by decide)), fun g => by rw [g]; decide⟩
theorem rx_sb_s {se kd se2 x : Int32} {Q : List Nat} (h : rx_sb se Q) (h0 : 0 ≤ kd.toInt) (h1 : kd.toInt < 20) (e1 : x = 1 <<< (kd &&& 31)) (e2 : se2 = se ||| x) : rx_sb se2 (Int32.toNatClampNeg kd :: Q) := fun k hk => by
  rw [e2, zbit_or, e1, zbit_sh h0 (by omega) (by omega), List.mem_cons, ← h k hk, Bool.or_eq_true]
  constructor
  · rintro (g | g)
    · exact Or.inr g
    · exact Or.inl (by simpa using g)
  · rintro (g | g)
    · exact Or.inr (by simpa using g)
    · exact Or.inl g
theorem rx_aw {c x : Tm} {pp kk : Int} {L M : List Int64} {mn sd : Int32} (hl : tm_li c) (hm : (M.length : Int) = mn.toInt) (hs : sd.toInt = (L.length : Int) + (M.length : Int)) : ((tm_wj (tm_sn c (Tm.arm pp kk L.length M.length x)) : Nat) : Int) = max (max ((tm_wj c : Nat) : Int) (if mn.toInt = 0 then 0 else sd.toInt)) ((tm_wj x : Nat) : Int) := by
  rw [tm_wj_sn hl]
  show ((max (tm_wj c) (if M.length = 0 then tm_wj x else max (L.length + M.length) (tm_wj x)) : Nat) : Int) = _
  by_cases u : M.length = 0
  · rw [if_pos u, if_pos (by omega)]; omega
  · rw [if_neg u, if_neg (by omega)]; omega
def rx_no (P : Prop) : Prop := ¬ P
/-- is it the arm for all? -/
def rx_an (t : Int) (v : Int32) : Prop := t = 95 ↔ v.toInt ≠ 0
def rx_u8 (u kd : Int32) : Prop := (u.toInt ≠ 0 ↔ kd.toInt = -1) ∧ (kd.toInt = -1 ∨ 0 ≤ kd.toInt)
def rx_mk (kd : Int32) : Int := if kd.toInt = -1 then -2 else kd.toInt
def rx_mq (kd : Int32) (Q : List Nat) : List Nat := if kd.toInt = -1 then Q else Int32.toNatClampNeg kd :: Q
/-- the arms of the reference so far -/
def rx_ml (T P : Nat → Int32) (V : Nat → Int64) (E : List Int64 → sp_S → Option (Tm × sp_S)) (L : List Int64) (o : Option (Tm × sp_S)) (st : Nat → Prop) (kn : Nat → Int64) (fi : Nat → Int32) (kz : Int32) (wh ma : Nat → Int32) (nm : Nat → Int64) (pz : Int32) (A B : Nat → Nat → Int32) (nm0 : Nat → Int64) (a0 : Nat) (fr cnt se : Int32) (mr : Int) (W : Tm → Prop) : Prop := ∃ (c : Tm) (i n : Nat) (Q : List Nat) (kw : Nat → Int64) (kf : Nat → Int32) (C : List (Int64 × Int)), st i ∧ sp_kr kn fi kz kw kf ∧ sp_cr wh ma nm pz C ∧ (n : Int) = 8 - cnt.toInt ∧ rx_sb se Q ∧ rLs B nm c fr a0 (Int32.toNatClampNeg pz) cnt A nm0 ∧ W c ∧ (mr ≠ 0 → o = sp_as T P V E L n Q c (i, Int32.toNatClampNeg kz, kw, kf, C)) ∧ (mr = 0 → o = if (T i).toInt = 125 then some (c, (i + 1, Int32.toNatClampNeg kz, kw, kf, C)) else none)
/-- behind an arm's pattern -/
def rx_mj (T P : Nat → Int32) (V : Nat → Int64) (E : List Int64 → sp_S → Option (Tm × sp_S)) (L : List Int64) (Q : List Nat) (s0 : sp_S) (st : Nat → Prop) (kn : Nat → Int64) (fi : Nat → Int32) (kz : Int32) (sc : Nat → Int64) (sd : Int32) (C : List (Int64 × Int)) (kd mn se u : Int32) : Prop := ∃ (i : Nat) (M : List Int64) (kw : Nat → Int64) (kf : Nat → Int32), st i ∧ sp_nr sc sd (L ++ M) ∧ sp_kr kn fi kz kw kf ∧ rx_sb se (rx_mq kd Q) ∧ rx_u8 u kd ∧ (M.length : Int) = mn.toInt ∧ sp_am T P V E L Q s0 = (sp_ab T E (L ++ M) (i, Int32.toNatClampNeg kz, kw, kf, C)).bind fun s2 => some (rx_mk kd, Tm.arm (P s0.1).toInt kd.toInt L.length M.length s2.1, s2.2)
section
variable {T P : Nat → Int32} {V : Nat → Int64} {E : List Int64 → sp_S → Option (Tm × sp_S)} {L LM M : List Int64} {Q : List Nat} {o : Option (Tm × sp_S)} {s0 : sp_S} {st : Nat → Prop} {kn kw kw2 : Nat → Int64} {fi kf kf2 kf3 : Nat → Int32} {kz kz2 : Int32} {wh ma : Nat → Int32} {nm sc nm0 : Nat → Int64} {A B : Nat → Nat → Int32} {pz cnt cnt2 se se2 sd kd u mn fr : Int32} {mr2 pp : Int} {C C2 : List (Int64 × Int)} {a i i2 n a0 hh mm : Nat} {K : Nat × (Nat → Int64) × (Nat → Int32) × List (Int64 × Int)} {wd : Int64} {c t : Tm} {W : Tm → Prop}
theorem sp_as_u : sp_as T P V E L (n + 1) Q c s0 = (sp_am T P V E L Q s0).bind fun r =>
    if r.1 = -2 then (if (T r.2.2.1).toInt = 125 then some (tm_sn c r.2.1, sp_to r.2.2 (r.2.2.1 + 1)) else none)
    else if (T r.2.2.1).toInt = 124 then sp_as T P V E L n (r.1.toNat :: Q) (tm_sn c r.2.1) (sp_to r.2.2 (r.2.2.1 + 1))
    else if (T r.2.2.1).toInt = 125 then some (tm_sn c r.2.1, sp_to r.2.2 (r.2.2.1 + 1)) else none := rfl
theorem rx_ml_x (hq : o = sp_as T P V E L n Q c s0) (h : sp_am T P V E L Q s0 = none) : o = none := by
  rw [hq]
  cases n with
  | zero => rfl
  | succ n => rw [sp_as_u, h]; rfl
theorem rx_ml_8 (hn : (n : Int) = 8 - cnt.toInt) (hc : cnt.toInt = 8) (hq : o = sp_as T P V E L n Q c s0) : o = none := by
  obtain rfl : n = 0 := by omega
  exact hq
theorem rx_pa {k : Nat} : sp_pa T V L k (a, K) = (rx_fs T V L (a + 1)).bind fun q => (sp_te k ((q.1.length : Int) - L.length) (q.2, K)).bind fun s2 => some (q.1, s2) := by
  unfold sp_pa rx_fs
  by_cases h : (T (a + 1)).toInt = 40
  · rw [if_pos h, if_pos h]; rfl
  · rw [if_neg h, if_neg h]
    show (sp_te k 0 (a + 1, K)).bind _ = (sp_te k ((L.length : Int) - L.length) (a + 1, K)).bind _
    rw [Int.sub_self]
theorem rx_mj_a (h95 : (T a).toInt = 95) (hst : st (a + 1)) (hn : sp_nr sc sd L) (hk : sp_kr kn fi kz kw kf) (hb : rx_sb se Q) (hkd : kd.toInt = -1) (hmn : mn.toInt = 0) (hu : u.toInt ≠ 0) : rx_mj T P V E L Q (a, Int32.toNatClampNeg kz, kw, kf, C) st kn fi kz sc sd C kd mn se u := by
  refine ⟨a + 1, [], kw, kf, hst, by rw [List.append_nil]; exact hn, hk, ?_, ⟨⟨fun _ => hkd, fun _ => hu⟩, Or.inl hkd⟩, hmn.symm, ?_⟩
  · unfold rx_mq; rw [if_pos hkd]; exact hb
  · unfold rx_mk; rw [if_pos hkd, hkd, List.append_nil]; exact sp_am_any h95 rfl
theorem rx_am_q (h259 : (T a).toInt = 259) (ew : V a = wd) (hkh : sp_kh wd kz kw kf (some (kd, kz2, kw2, kf2))) (hq : Int32.toNatClampNeg kd ∈ Q) : sp_am T P V E L Q (a, Int32.toNatClampNeg kz, kw, kf, C) = none := by
  rw [sp_am_kd h259, hkh V a C ew]; exact if_pos hq
theorem rx_am_f (h259 : (T a).toInt = 259) (ew : V a = wd) (hkh : sp_kh wd kz kw kf (some (kd, kz2, kw2, kf2))) (hq : Int32.toNatClampNeg kd ∉ Q) (hf : rx_fs T V L (a + 1) = none) : sp_am T P V E L Q (a, Int32.toNatClampNeg kz, kw, kf, C) = none := by
  rw [sp_am_kd h259, hkh V a C ew]
  refine (if_neg hq).trans ?_
  show (sp_pa T V L (Int32.toNatClampNeg kd) (a, Int32.toNatClampNeg kz2, kw2, kf2, C)).bind _ = none
  rw [rx_pa, hf]; rfl
theorem rx_pa_t {o3 : Option (Nat → Int32)} (hf : rx_fs T V L (a + 1) = some (L ++ M, i2)) (hM : (M.length : Int) = mn.toInt) (htd : sp_td kd mn kf2 o3) : sp_pa T V L (Int32.toNatClampNeg kd) (a, Int32.toNatClampNeg kz2, kw2, kf2, C) = o3.map fun q => (L ++ M, (i2, Int32.toNatClampNeg kz2, kw2, q, C)) := by
  rw [rx_pa, hf]
  show (sp_te (Int32.toNatClampNeg kd) (((L ++ M).length : Int) - L.length) (i2, Int32.toNatClampNeg kz2, kw2, kf2, C)).bind _ = _
  rw [show ((L ++ M).length : Int) - L.length = mn.toInt by rw [List.length_append]; omega, htd]
  cases o3 <;> rfl
theorem rx_am_t (h259 : (T a).toInt = 259) (ew : V a = wd) (hkh : sp_kh wd kz kw kf (some (kd, kz2, kw2, kf2))) (hq : Int32.toNatClampNeg kd ∉ Q) (hf : rx_fs T V L (a + 1) = some (L ++ M, i2)) (hM : (M.length : Int) = mn.toInt) (htd : sp_td kd mn kf2 none) : sp_am T P V E L Q (a, Int32.toNatClampNeg kz, kw, kf, C) = none := by
  rw [sp_am_kd h259, hkh V a C ew]
  refine (if_neg hq).trans ?_
  show (sp_pa T V L (Int32.toNatClampNeg kd) (a, Int32.toNatClampNeg kz2, kw2, kf2, C)).bind _ = none
  rw [rx_pa_t hf hM htd]; rfl
theorem rx_mj_k (h259 : (T a).toInt = 259) (ew : V a = wd) (hkh : sp_kh wd kz kw kf (some (kd, kz2, kw2, kf2))) (hq : Int32.toNatClampNeg kd ∉ Q) (hf : rx_fs T V L (a + 1) = some (L ++ M, i2)) (hM : (M.length : Int) = mn.toInt) (hst : st i2) (hn : sp_nr sc sd (L ++ M)) (htd : sp_td kd mn kf2 (some kf3)) (hk : sp_kr kn fi kz2 kw2 kf3) (hb : rx_sb se2 (Int32.toNatClampNeg kd :: Q)) (h0 : 0 ≤ kd.toInt) (hu : u.toInt = 0) : rx_mj T P V E L Q (a, Int32.toNatClampNeg kz, kw, kf, C) st kn fi kz2 sc sd C kd mn se2 u := by
  have h1 : ¬ kd.toInt = -1 := by omega
  refine ⟨i2, M, kw2, kf3, hst, hn, hk, ?_, ⟨⟨fun g => absurd hu g, fun g => absurd g h1⟩, Or.inr h0⟩, hM, ?_⟩
  · unfold rx_mq; rw [if_neg h1]; exact hb
  · unfold rx_mk; rw [if_neg h1, sp_am_kd h259, hkh V a C ew]
    refine (if_neg hq).trans ?_
    show (sp_pa T V L (Int32.toNatClampNeg kd) (a, Int32.toNatClampNeg kz2, kw2, kf2, C)).bind _ = _
    rw [rx_pa_t hf hM htd]
    show (sp_ab T E (L ++ M) (i2, Int32.toNatClampNeg kz2, kw2, kf3, C)).bind (fun s2 => some (((Int32.toNatClampNeg kd : Nat) : Int), Tm.arm (P a).toInt ((Int32.toNatClampNeg kd : Nat) : Int) L.length ((L ++ M).length - L.length) s2.1, s2.2)) = _
    rw [zn_nat h0, List.length_append, Nat.add_sub_cancel_left]
theorem rx_am_b (h : sp_am T P V E L Q s0 = (sp_ab T E LM (i, K)).bind fun s2 => some (rx_mk kd, Tm.arm pp kd.toInt hh mm s2.1, s2.2)) (hb : (T i).toInt ≠ 261) : sp_am T P V E L Q s0 = none := by
  rw [h, sp_ab_n hb]; rfl
theorem rx_am_e (h : sp_am T P V E L Q s0 = (sp_ab T E LM (i, K)).bind fun s2 => some (rx_mk kd, Tm.arm pp kd.toInt hh mm s2.1, s2.2)) (hb : (T i).toInt = 261) (q : E LM (i + 1, K) = none) : sp_am T P V E L Q s0 = none := by
  rw [h, sp_ab_y hb rfl q]; rfl
theorem rx_ml_1 (hW : W (tm_sn c (Tm.arm pp kd.toInt hh mm t))) (hn : (n : Int) = 8 - cnt.toInt) (hc : cnt.toInt < 8) (hq : o = sp_as T P V E L n Q c s0) (h : sp_am T P V E L Q s0 = (sp_ab T E LM (i, K)).bind fun s2 => some (rx_mk kd, Tm.arm pp kd.toInt hh mm s2.1, s2.2)) (hb : (T i).toInt = 261) (q : E LM (i + 1, K) = some (t, (i2, Int32.toNatClampNeg kz, kw, kf, C))) (hu : rx_u8 u kd) (h8 : u.toInt = 0) (h124 : (T i2).toInt = 124) (hs : st (i2 + 1)) (hk : sp_kr kn fi kz kw kf) (hcr : sp_cr wh ma nm pz C) (ec : cnt2.toInt = cnt.toInt + 1) (hsb : rx_sb se (rx_mq kd Q)) (hl : rLs B nm (tm_sn c (Tm.arm pp kd.toInt hh mm t)) fr a0 (Int32.toNatClampNeg pz) cnt2 A nm0) (hmr : mr2 ≠ 0) : rx_ml T P V E L o st kn fi kz wh ma nm pz A B nm0 a0 fr cnt2 se mr2 W := by
  have hk1 : ¬ kd.toInt = -1 := fun g => (hu.1.mpr g) h8
  have hk0 := hu.2.resolve_left hk1
  have hnk := zn_nat hk0
  obtain ⟨k, rfl⟩ : ∃ k, n = k + 1 := ⟨n - 1, by omega⟩
  refine ⟨_, i2 + 1, k, rx_mq kd Q, kw, kf, C, hs, hk, hcr, by omega, hsb, hl, hW, fun _ => ?_, fun g => absurd g hmr⟩
  rw [hq, sp_as_u, h, sp_ab_y hb rfl q]
  show (if rx_mk kd = -2 then _ else _) = _
  unfold rx_mk rx_mq
  rw [if_neg hk1, if_neg (by omega), if_neg hk1]
  refine (if_pos h124).trans ?_
  show sp_as T P V E L k (kd.toInt.toNat :: Q) _ _ = _
  rw [show kd.toInt.toNat = Int32.toNatClampNeg kd by omega]; rfl
theorem rx_ml_2 (hW : W (tm_sn c (Tm.arm pp kd.toInt hh mm t))) (hn : (n : Int) = 8 - cnt.toInt) (hc : cnt.toInt < 8) (hq : o = sp_as T P V E L n Q c s0) (h : sp_am T P V E L Q s0 = (sp_ab T E LM (i, K)).bind fun s2 => some (rx_mk kd, Tm.arm pp kd.toInt hh mm s2.1, s2.2)) (hb : (T i).toInt = 261) (q : E LM (i + 1, K) = some (t, (i2, Int32.toNatClampNeg kz, kw, kf, C))) (hu : rx_u8 u kd) (h124 : u.toInt ≠ 0 ∨ (T i2).toInt ≠ 124) (hs : st i2) (hk : sp_kr kn fi kz kw kf) (hcr : sp_cr wh ma nm pz C) (ec : cnt2.toInt = cnt.toInt + 1) (hsb : rx_sb se (rx_mq kd Q)) (hl : rLs B nm (tm_sn c (Tm.arm pp kd.toInt hh mm t)) fr a0 (Int32.toNatClampNeg pz) cnt2 A nm0) (hmr : mr2 = 0) : rx_ml T P V E L o st kn fi kz wh ma nm pz A B nm0 a0 fr cnt2 se mr2 W := by
  obtain ⟨k, rfl⟩ : ∃ k, n = k + 1 := ⟨n - 1, by omega⟩
  refine ⟨_, i2, k, rx_mq kd Q, kw, kf, C, hs, hk, hcr, by omega, hsb, hl, hW, fun g => absurd hmr g, fun _ => ?_⟩
  rw [hq, sp_as_u, h, sp_ab_y hb rfl q]
  show (if rx_mk kd = -2 then _ else _) = _
  by_cases hk1 : kd.toInt = -1
  · rw [if_pos (by unfold rx_mk; rw [if_pos hk1])]; rfl
  · have hk0 := hu.2.resolve_left hk1
    rw [if_neg (by unfold rx_mk; rw [if_neg hk1]; omega)]
    have h4 : (T i2).toInt ≠ 124 := h124.resolve_left (fun g => hk1 (hu.1.mp g))
    exact if_neg h4
theorem rx_ml_0 (hst : st i) (hk : sp_kr kn fi kz kw kf) (hc : sp_cr wh ma nm pz C) (hf : fr.toInt = -1) (ha : a0 = Int32.toNatClampNeg pz) (hW : W Tm.nil) : rx_ml T P V E L (sp_as T P V E L 8 [] Tm.nil (i, Int32.toNatClampNeg kz, kw, kf, C)) st kn fi kz wh ma nm pz A A nm a0 fr 0 0 (Int32.toInt 1) W := ⟨Tm.nil, i, 8, [], kw, kf, C, hst, hk, hc, by decide, rx_sb_0, by rw [ha]; exact rLs_nil hf (by decide), hW, fun _ => rfl, fun g => absurd g (by decide)⟩
end
