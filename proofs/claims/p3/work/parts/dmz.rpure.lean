/-! a whole program, as the reference goes through it -/
/-- the functions, as the reference keeps them -/
def sp_fr (fn : Nat → Int64) (td : Nat → Int32) (fz : Int32) (fw : Nat → Int64) (ft : Nat → Int) : Prop := ∀ j : Nat, (j : Int) < fz.toInt → sp_cv (fw j) (fn j) ∧ ft j = (td j).toInt
theorem rx_fo_n {fn : Nat → Int64} {td : Nat → Int32} {fz r : Int32} {fw : Nat → Int64} {ft : Nat → Int} {w v : Int64} (h : sp_fr fn td fz fw ft) (hc : sp_cv w v) (h0 : 0 ≤ fz.toInt) (hf : rx_ff fn v fz r) (hr : r.toInt = -1) : sp_fi fw w (Int32.toNatClampNeg fz) = Int32.toNatClampNeg fz := by
  have n0 := zn_nat h0
  rcases hf with ⟨-, g⟩ | ⟨g, -⟩
  · exact sp_fi_none (fun j hj q => g j (by omega) ((sp_cv_inj (h j (by omega)).1 hc).mp q))
  · omega
theorem rx_fo_y {fn : Nat → Int64} {td : Nat → Int32} {fz r : Int32} {fw : Nat → Int64} {ft : Nat → Int} {w v : Int64} (h : sp_fr fn td fz fw ft) (hc : sp_cv w v) (h0 : 0 ≤ fz.toInt) (hf : rx_ff fn v fz r) (hr : r.toInt ≠ -1) : sp_fi fw w (Int32.toNatClampNeg fz) ≠ Int32.toNatClampNeg fz := by
  have n0 := zn_nat h0
  rcases hf with ⟨g, -⟩ | ⟨g0, g1, g2, g3⟩
  · exact absurd g hr
  · have n1 := zn_nat g0
    rw [sp_fi_eq (k := Int32.toNatClampNeg r) (by omega) (fun j hj q => g3 j (by omega) ((sp_cv_inj (h j (by omega)).1 hc).mp q)) (Or.inr ((sp_cv_inj (h _ (by omega)).1 hc).mpr g2))]
    omega
theorem rx_fr_s {fn fn2 : Nat → Int64} {td td2 : Nat → Int32} {fz fz2 x : Int32} {fw : Nat → Int64} {ft : Nat → Int} {w v : Int64} {m : Int} (h : sp_fr fn td fz fw ft) (hc : sp_cv w v) (ef : fn2 = vp_updL fn (Int32.toNatClampNeg fz) v) (et : td2 = upd td (Int32.toNatClampNeg fz) x) (hx : m = x.toInt) (ez : fz2.toInt = fz.toInt + 1) (h0 : 0 ≤ fz.toInt) : sp_fr fn2 td2 fz2 (vp_updL fw (Int32.toNatClampNeg fz) w) (fun k => if k = Int32.toNatClampNeg fz then m else ft k) := fun j hj => by
  have n0 := zn_nat h0
  by_cases u : j = Int32.toNatClampNeg fz
  · rw [ef, et, u, zu_s]
    exact ⟨by simp [vp_updL]; exact hc, by simp; exact hx⟩
  · have := h j (by omega)
    rw [ef, et, zu_n u]
    exact ⟨by simp [vp_updL, u]; exact this.1, by simp [u]; exact this.2⟩
/-- the definitions so far -/
def rx_rd (T : Nat → Int32) (V : Nat → Int64) (D : Option (sp_S × sp_F)) (st : Nat → Prop) (kn : Nat → Int64) (fi : Nat → Int32) (kz : Int32) (wh ma : Nat → Int32) (nm : Nat → Int64) (pz : Int32) (fn : Nat → Int64) (td : Nat → Int32) (fz : Int32) (mr : Int) : Prop := ∃ (i n : Nat) (kw : Nat → Int64) (kf : Nat → Int32) (C : List (Int64 × Int)) (fw : Nat → Int64) (ft : Nat → Int), st i ∧ sp_kr kn fi kz kw kf ∧ sp_cr wh ma nm pz C ∧ sp_fr fn td fz fw ft ∧ (n : Int) = 31 - fz.toInt ∧ (mr ≠ 0 → D = sp_ds T V n (i, Int32.toNatClampNeg kz, kw, kf, C) (Int32.toNatClampNeg fz, fw, ft)) ∧ (mr = 0 → D = some ((i, Int32.toNatClampNeg kz, kw, kf, C), (Int32.toNatClampNeg fz, fw, ft)))
/-- names told so far -/
def rx_tn (T : Nat → Int32) (V : Nat → Int64) (o : Option (List Int64 × Nat)) (st : Nat → Prop) (sc : Nat → Int64) (sd : Int32) : Prop := ∃ (M : List Int64) (n i : Nat), st i ∧ sp_nr sc sd M ∧ (n : Int) = 6 - sd.toInt ∧ o = sp_tn T V n M i
theorem sp_nr_0 {sc : Nat → Int64} {k : Int32} (h : k.toInt = 0) : sp_nr sc k [] := ⟨h.symm, fun j hj => absurd hj (Nat.not_lt_zero _)⟩
section
variable {T : Nat → Int32} {V : Nat → Int64} {D : Option (sp_S × sp_F)} {K : Nat × (Nat → Int64) × (Nat → Int32) × List (Int64 × Int)} {F : sp_F} {s s2 : sp_S} {a b f n k i i2 : Nat} {fw fw2 : Nat → Int64} {ft ft2 : Nat → Int} {M : List Int64}
theorem rx_rd_x (hq : D = sp_ds T V n s F) (h : sp_df T V s F = none) : D = none := by
  rw [hq]
  cases n with
  | zero => rfl
  | succ n => unfold sp_ds; rw [h]; rfl
theorem rx_df_1 (h : ¬ ((T a).toInt = 268 ∧ f < 30)) : sp_df T V (a, K) (f, fw, ft) = none := by unfold sp_df; exact if_neg h
theorem rx_df_2 (h1 : (T a).toInt = 268) (h : ¬ ((T (a + 1)).toInt = 258 ∧ sp_fi fw (V (a + 1)) f = f)) : sp_df T V (a, K) (f, fw, ft) = none := by
  unfold sp_df
  by_cases hf : f < 30
  · exact (if_pos ⟨h1, hf⟩).trans (if_neg h)
  · exact if_neg (fun g => hf g.2)
theorem rx_df_eq (h1 : (T a).toInt = 268) (hf : f < 30) (h2 : (T (a + 1)).toInt = 258) (h3 : sp_fi fw (V (a + 1)) f = f) : sp_df T V (a, K) (f, fw, ft) = (sp_tn T V 6 [] (a + 2)).bind fun q => if (T q.2).toInt = 61 then (sp_E T V 30 q.1 (q.2 + 1, K)).bind fun s2 => if (T s2.1).toInt = 59 then some (sp_to s2 (s2.1 + 1), (f + 1, vp_updL fw f (V (a + 1)), fun k => if k = f then (q.1.length : Int) else ft k)) else none else none := by
  unfold sp_df
  exact (if_pos ⟨h1, hf⟩).trans (if_pos ⟨h2, h3⟩)
theorem rx_tn_x1 (h : (T i).toInt = 258) (hm : V i ∈ M) : sp_tn T V n M i = none := by
  unfold sp_tn; rw [if_pos h]
  cases n with
  | zero => rfl
  | succ n => exact if_neg (fun g => g hm)
theorem rx_tn_x2 (h : (T i).toInt = 258) (hn : n = 0) : sp_tn T V n M i = none := by
  subst hn; unfold sp_tn; rw [if_pos h]
theorem rx_tn_s (h : (T i).toInt = 258) (hn : n = k + 1) (hm : V i ∉ M) : sp_tn T V n M i = sp_tn T V k (M ++ [V i]) (i + 1) := by
  subst hn
  conv => lhs; unfold sp_tn
  rw [if_pos h]; exact if_pos hm
theorem rx_tn_n (h : (T i).toInt ≠ 258) : sp_tn T V n M i = some (M, i) := by unfold sp_tn; rw [if_neg h]
theorem rx_df_3 (e1 : (T a).toInt = 268) (e2 : f < 30) (e3 : (T (a + 1)).toInt = 258) (e4 : sp_fi fw (V (a + 1)) f = f) (q : sp_tn T V 6 [] (a + 2) = none) : sp_df T V (a, K) (f, fw, ft) = none := (rx_df_eq e1 e2 e3 e4).trans (sp_bx q)
theorem rx_df_4 (e1 : (T a).toInt = 268) (e2 : f < 30) (e3 : (T (a + 1)).toInt = 258) (e4 : sp_fi fw (V (a + 1)) f = f) (q : sp_tn T V 6 [] (a + 2) = some (M, b)) (h : ¬ (T b).toInt = 61) : sp_df T V (a, K) (f, fw, ft) = none := (rx_df_eq e1 e2 e3 e4).trans ((sp_b1 q).trans (if_neg h))
theorem rx_df_5 (e1 : (T a).toInt = 268) (e2 : f < 30) (e3 : (T (a + 1)).toInt = 258) (e4 : sp_fi fw (V (a + 1)) f = f) (q : sp_tn T V 6 [] (a + 2) = some (M, b)) (h : (T b).toInt = 61) (q2 : sp_E T V 30 M (b + 1, K) = none) : sp_df T V (a, K) (f, fw, ft) = none := (rx_df_eq e1 e2 e3 e4).trans ((sp_b1 q).trans ((if_pos h).trans (sp_bx q2)))
theorem rx_df_6 (e1 : (T a).toInt = 268) (e2 : f < 30) (e3 : (T (a + 1)).toInt = 258) (e4 : sp_fi fw (V (a + 1)) f = f) (q : sp_tn T V 6 [] (a + 2) = some (M, b)) (h : (T b).toInt = 61) (q2 : sp_E T V 30 M (b + 1, K) = some s2) (h2 : ¬ (T s2.1).toInt = 59) : sp_df T V (a, K) (f, fw, ft) = none := (rx_df_eq e1 e2 e3 e4).trans ((sp_b1 q).trans ((if_pos h).trans ((sp_b1 q2).trans (if_neg h2))))
theorem rx_df_y (e1 : (T a).toInt = 268) (e2 : f < 30) (e3 : (T (a + 1)).toInt = 258) (e4 : sp_fi fw (V (a + 1)) f = f) (q : sp_tn T V 6 [] (a + 2) = some (M, b)) (h : (T b).toInt = 61) (q2 : sp_E T V 30 M (b + 1, K) = some s2) (h2 : (T s2.1).toInt = 59) : sp_df T V (a, K) (f, fw, ft) = some ((s2.1 + 1, s2.2), (f + 1, vp_updL fw f (V (a + 1)), fun k => if k = f then (M.length : Int) else ft k)) := (rx_df_eq e1 e2 e3 e4).trans ((sp_b1 q).trans ((if_pos h).trans ((sp_b1 q2).trans (if_pos h2))))
end
theorem rx_rd_s {T : Nat → Int32} {V : Nat → Int64} {D : Option (sp_S × sp_F)} {s : sp_S} {n i2 : Nat} {fw fw2 : Nat → Int64} {ft ft2 : Nat → Int} {st : Nat → Prop} {kn kw : Nat → Int64} {fi kf : Nat → Int32} {kz : Int32} {wh ma : Nat → Int32} {nm : Nat → Int64} {pz : Int32} {fn : Nat → Int64} {td : Nat → Int32} {fz fz2 : Int32} {mr2 : Int} {C : List (Int64 × Int)} (hn : (n : Int) = 31 - fz.toInt) (hf : fz.toInt < 30) (h0 : 0 ≤ fz.toInt) (hq : D = sp_ds T V n s (Int32.toNatClampNeg fz, fw, ft)) (hd : sp_df T V s (Int32.toNatClampNeg fz, fw, ft) = some ((i2, Int32.toNatClampNeg kz, kw, kf, C), (Int32.toNatClampNeg fz + 1, fw2, ft2))) (hs : st i2) (hk : sp_kr kn fi kz kw kf) (hc : sp_cr wh ma nm pz C) (ez : fz2.toInt = fz.toInt + 1) (hfr : sp_fr fn td fz2 fw2 ft2) (hm : (mr2 ≠ 0 ∧ (T i2).toInt ≠ 256) ∨ (mr2 = 0 ∧ (T i2).toInt = 256)) : rx_rd T V D st kn fi kz wh ma nm pz fn td fz2 mr2 := by
  have e := zn_1 ez h0
  obtain ⟨k, rfl⟩ : ∃ k, n = k + 1 := ⟨n - 1, by omega⟩
  have hq2 : D = if (T i2).toInt = 256 then some ((i2, Int32.toNatClampNeg kz, kw, kf, C), (Int32.toNatClampNeg fz2, fw2, ft2)) else sp_ds T V k (i2, Int32.toNatClampNeg kz, kw, kf, C) (Int32.toNatClampNeg fz2, fw2, ft2) := by
    rw [hq, e]; conv => lhs; unfold sp_ds
    exact sp_b1 hd
  refine ⟨i2, k, kw, kf, C, fw2, ft2, hs, hk, hc, hfr, by omega, fun g => ?_, fun g => ?_⟩
  · rcases hm with ⟨u, v⟩ | ⟨u, v⟩
    · exact hq2.trans (if_neg v)
    · exact absurd u g
  · rcases hm with ⟨u, v⟩ | ⟨u, v⟩
    · exact absurd g u
    · exact hq2.trans (if_pos v)
/-- a call that is good -/
def rx_gd (fn : Nat → Int64) (td ma : Nat → Int32) (nm : Nat → Int64) (fz : Int32) (k : Nat) : Prop := ∃ r : Nat, (r : Int) < fz.toInt ∧ fn r = nm k ∧ (∀ j, j < r → fn j ≠ nm k) ∧ (td r).toInt = (ma k).toInt
theorem rx_gd_y {fn : Nat → Int64} {td ma : Nat → Int32} {nm : Nat → Int64} {fz r : Int32} {k : Nat} (h : rx_ff fn (nm k) fz r) (h0 : r.toInt ≠ -1) (e : (td (Int32.toNatClampNeg r)).toInt = (ma k).toInt) : rx_gd fn td ma nm fz k := by
  rcases h with ⟨g, -⟩ | ⟨g0, g1, g2, g3⟩
  · exact absurd g h0
  · have n1 := zn_nat g0
    exact ⟨_, by omega, g2, fun j hj => g3 j (by omega), e⟩
theorem rx_gd_n {fn : Nat → Int64} {td ma : Nat → Int32} {nm : Nat → Int64} {fz r : Int32} {k : Nat} (h : rx_ff fn (nm k) fz r) (e : r.toInt = -1 ∨ (td (Int32.toNatClampNeg r)).toInt ≠ (ma k).toInt) : ¬ rx_gd fn td ma nm fz k := by
  rintro ⟨q, h1, h2, h3, h4⟩
  rcases h with ⟨g, g2⟩ | ⟨g0, g1, g2, g3⟩
  · exact g2 q h1 h2
  · have n1 := zn_nat g0
    have eq : q = Int32.toNatClampNeg r := by
      rcases Nat.lt_trichotomy q (Int32.toNatClampNeg r) with u | u | u
      · exact absurd h2 (g3 q (by omega))
      · exact u
      · exact absurd g2 (h3 _ u)
    rw [← eq] at e
    exact e.elim (fun u => by omega) (fun u => u h4)
/-- the calls so far, the worst of them -/
def rx_wo (fn : Nat → Int64) (td ma : Nat → Int32) (nm : Nat → Int64) (fz : Int32) (wh : Nat → Int32) (wo k3 : Int32) : Prop := (wo.toInt = -1 → ∀ k : Nat, (k : Int) < k3.toInt → (wh k).toInt = 3 → rx_gd fn td ma nm fz k) ∧ (wo.toInt ≠ -1 → ∃ k : Nat, (k : Int) < k3.toInt ∧ (wh k).toInt = 3 ∧ ¬ rx_gd fn td ma nm fz k)
section
variable {fn : Nat → Int64} {td ma : Nat → Int32} {nm : Nat → Int64} {fz : Int32} {wh : Nat → Int32} {wo wo2 k3 k4 : Int32}
theorem rx_wo_0 (h : wo.toInt = -1) (hk : k3.toInt = 0) : rx_wo fn td ma nm fz wh wo k3 := ⟨fun _ k h1 => by omega, fun g => absurd h g⟩
theorem rx_wo_g (h : rx_wo fn td ma nm fz wh wo k3) (h0 : 0 ≤ k3.toInt) (e : k4.toInt = k3.toInt + 1) (hg : (wh (Int32.toNatClampNeg k3)).toInt ≠ 3 ∨ rx_gd fn td ma nm fz (Int32.toNatClampNeg k3)) : rx_wo fn td ma nm fz wh wo k4 := by
  have n0 := zn_nat h0
  refine ⟨fun g k h1 h2 => ?_, fun g => ?_⟩
  · by_cases u : k = Int32.toNatClampNeg k3
    · rw [u] at h2 ⊢; exact hg.resolve_left (fun g => g h2)
    · exact h.1 g k (by omega) h2
  · obtain ⟨k, h1, h2⟩ := h.2 g
    exact ⟨k, by omega, h2⟩
theorem rx_wo_b (h0 : 0 ≤ k3.toInt) (e : k4.toInt = k3.toInt + 1) (h3 : (wh (Int32.toNatClampNeg k3)).toInt = 3) (hb : ¬ rx_gd fn td ma nm fz (Int32.toNatClampNeg k3)) (hw : wo2.toInt ≠ -1) : rx_wo fn td ma nm fz wh wo2 k4 := by
  have n0 := zn_nat h0
  exact ⟨fun g => absurd g hw, fun _ => ⟨_, by omega, h3, hb⟩⟩
end
section
variable {T : Nat → Int32} {V : Nat → Int64} {s0 : sp_S} {F0 : sp_F} {s : sp_S} {fn : Nat → Int64} {td ma : Nat → Int32} {nm : Nat → Int64} {fz : Int32} {wh : Nat → Int32} {wo pz k3 : Int32} {fw : Nat → Int64} {ft : Nat → Int}
theorem rx_pg_eq (hD : sp_ds T V 31 s0 F0 = some (s, (Int32.toNatClampNeg fz, fw, ft))) : sp_pg T V s0 F0 = if ∀ c ∈ s.2.2.2.2, sp_fi fw c.1 (Int32.toNatClampNeg fz) < Int32.toNatClampNeg fz ∧ ft (sp_fi fw c.1 (Int32.toNatClampNeg fz)) = c.2 then some (Int32.toNatClampNeg fz) else none := by
  unfold sp_pg; exact sp_b1 hD
theorem rx_pg_y (hD : sp_ds T V 31 s0 F0 = some (s, (Int32.toNatClampNeg fz, fw, ft))) (h0 : 0 ≤ fz.toInt) (hw : rx_wo fn td ma nm fz wh wo k3) (hk3 : k3.toInt = pz.toInt) (hwo : wo.toInt = -1) (hc : sp_cr wh ma nm pz s.2.2.2.2) (hf : sp_fr fn td fz fw ft) : sp_pg T V s0 F0 = some (Int32.toNatClampNeg fz) := by
  have n0 := zn_nat h0
  refine (rx_pg_eq hD).trans (if_pos (fun c hm => ?_))
  obtain ⟨k, h1, h2, h3, h4⟩ := hc.2 c hm
  obtain ⟨r, r1, r2, r3, r4⟩ := hw.1 hwo k (by omega) h2
  have e : sp_fi fw c.1 (Int32.toNatClampNeg fz) = r := sp_fi_eq (by omega) (fun j hj q => r3 j hj ((sp_cv_inj (hf j (by omega)).1 h3).mp q)) (Or.inr ((sp_cv_inj (hf r r1).1 h3).mpr r2))
  rw [e]
  exact ⟨by omega, by rw [(hf r r1).2, r4, h4]⟩
theorem rx_pg_n (hD : sp_ds T V 31 s0 F0 = some (s, (Int32.toNatClampNeg fz, fw, ft))) (h0 : 0 ≤ fz.toInt) (hw : rx_wo fn td ma nm fz wh wo k3) (hk3 : k3.toInt = pz.toInt) (hwo : wo.toInt ≠ -1) (hc : sp_cr wh ma nm pz s.2.2.2.2) (hf : sp_fr fn td fz fw ft) : sp_pg T V s0 F0 = none := by
  have n0 := zn_nat h0
  refine (rx_pg_eq hD).trans (if_neg (fun g => ?_))
  obtain ⟨k, h1, h2, h3⟩ := hw.2 hwo
  obtain ⟨c, hm, h4, h5⟩ := hc.1 k (by omega) h2
  obtain ⟨g1, g2⟩ := g c hm
  have hj : ∀ j, j < Int32.toNatClampNeg fz → (fw j = c.1 ↔ fn j = nm k) := fun j hj => sp_cv_inj (hf j (by omega)).1 h4
  exact h3 ⟨sp_fi fw c.1 (Int32.toNatClampNeg fz), by omega, (hj _ g1).mp (sp_fi_at _ g1), fun j h9 q => sp_fi_ne _ j h9 ((hj j (by omega)).mpr q), by rw [← (hf _ (by omega)).2, g2, h5]⟩
end
theorem rx_pgx {T : Nat → Int32} {V : Nat → Int64} {s0 : sp_S} {F0 : sp_F} (h : sp_ds T V 31 s0 F0 = none) : sp_pg T V s0 F0 = none := sp_bx h
