/-! a whole program, as the reference goes through it -/
/-- the functions, as the reference keeps them -/
def sp_fr (fn : Nat → Int64) (td : Nat → Int32) (fz : Int32) (fw : Nat → Int64) (ft : Nat → Int) : Prop := ∀ j : Nat, (j : Int) < fz.toInt → sp_cv (fw j) (fn j) ∧ ft j = (td j).toInt
theorem rx_fo_n {fn : Nat → Int64} {td : Nat → Int32} {fz r : Int32} {fw : Nat → Int64} {ft : Nat → Int} {w v : Int64} (h : sp_fr fn td fz fw ft) (hc : sp_cv w v) (h0 : 0 ≤ fz.toInt) (hf : rx_ff fn v fz r) (hr : r.toInt = -1) : sp_fi fw w (Int32.toNatClampNeg fz) = Int32.toNatClampNeg fz := by
  have n0 := zn_nat h0
  rcases hf with ⟨-, g⟩ | ⟨g, -⟩
  · exact sp_fi_none (fun j hj q => g j (by omega) ((sp_cv_inj (h j (by omega)).1 hc).mp q))
  · omega
theorem rx_fo_y {fn : Nat → Int64} {td : Nat → Int32} {fz r : Int32} {fw : Nat → Int64} {ft : Nat → Int} {w v : Int64} (h : sp_fr fn td fz fw ft) (hc : sp_cv w v) (h0 : 0 ≤ fz.toInt) (hf : rx_ff fn v fz r) (hr : r.toInt ≠ -1) : sp_fi fw w (Int32.toNatClampNeg fz) ≠ Int32.toNatClampNeg fz := by
  have n0 := zn_nat h0
  rcases hf with ⟨g, -⟩ | ⟨g0, g1, g2, g3⟩
  · exact absurd g hr
  · have n1 := zn_nat g0
    rw [sp_fi_eq (k := Int32.toNatClampNeg r) (by omega) (fun j hj q => g3 j (by omega) ((sp_cv_inj (h j (by omega)).1 hc).mp q)) (Or.inr ((sp_cv_inj (h _ (by omega)).1 hc).mpr g2))]
    omega
theorem rx_fr_s {fn fn2 : Nat → Int64} {td td2 : Nat → Int32} {fz fz2 x : Int32} {fw : Nat → Int64} {ft : Nat → Int} {w v : Int64} {m : Int} (h : sp_fr fn td fz fw ft) (hc : sp_cv w v) (ef : fn2 = vp_updL fn (Int32.toNatClampNeg fz) v) (et : td2 = upd td (Int32.toNatClampNeg fz) x) (hx : m = x.toInt) (ez : fz2.toInt = fz.toInt + 1) (h0 : 0 ≤ fz.toInt) : sp_fr fn2 td2 fz2 (vp_updL fw (Int32.toNatClampNeg fz) w) (fun k => if k = Int32.toNatClampNeg fz then m else ft k) := fun j hj => by
  have n0 := zn_nat h0
  by_cases u : j = Int32.toNatClampNeg fz
  · rw [ef, et, u, zu_s]
    exact ⟨by simp [vp_updL]; exact hc, by simp; exact hx⟩
  · have := h j (by omega)
    rw [ef, et, zu_n u]
    exact ⟨by simp [vp_updL, u]; exact this.1, by simp [u]; exact this.2⟩
/-- the functions' trees -/
def rPg (B : Nat → Nat → Int32) (nm : Nat → Int64) (fs bo : Nat → Int32) (n : Nat) (G : Nat → Tm) (z : Nat) : Prop := ∀ f, f < n → ∃ a b : Nat, (fs f).toInt = (a : Int) ∧ (bo f).toInt = (b : Int) - 1 ∧ b ≤ z ∧ rI B (rJ nm) (G f) 0 a b ∧ ¬ tm_cl (G f)
theorem rPg_0 {B : Nat → Nat → Int32} {nm : Nat → Int64} {fs bo : Nat → Int32} {n : Nat} {G : Nat → Tm} {z : Nat} (h : n = 0) : rPg B nm fs bo n G z := fun f hf => by omega
theorem rPg_s {B B2 : Nat → Nat → Int32} {nm nm2 : Nat → Int64} {fs bo fs2 bo2 : Nat → Int32} {n : Nat} {G : Nat → Tm} {z z2 : Nat} {t : Tm} {x y : Int32} (h : rPg B nm fs bo n G z) (hF : rF z B B2 nm nm2) (ht : rI B2 (rJ nm2) t 0 z z2) (hcl : ¬ tm_cl t) (ef : fs2 = upd fs n x) (hx : x.toInt = (z : Int)) (eb : bo2 = upd bo n y) (hy : y.toInt = (z2 : Int) - 1) : rPg B2 nm2 fs2 bo2 (n + 1) (fun k => if k = n then t else G k) z2 := fun f hf => by
  have hz := rI_le t ht
  by_cases u : f = n
  · subst u
    refine ⟨z, z2, by rw [ef, zu_s]; exact hx, by rw [eb, zu_s]; exact hy, Nat.le_refl _, ?_, ?_⟩
    · dsimp only; rw [if_pos rfl]; exact ht
    · dsimp only; rw [if_pos rfl]; exact hcl
  · obtain ⟨a, b, h1, h2, h3, h4, h5⟩ := h f (by omega)
    refine ⟨a, b, by rw [ef, zu_n u]; exact h1, by rw [eb, zu_n u]; exact h2, by omega, ?_, ?_⟩
    · dsimp only; rw [if_neg u]; exact rI_mv hF h4 h3
    · dsimp only; rw [if_neg u]; exact h5
/-- what stays where calls get their function -/
theorem rI_ow {R R2 : Nat → Nat → Int32} {J : Nat → Int64 → Prop} (h0 : ∀ k i, i ≠ 2 → R2 i k = R i k) (h2 : ∀ k, (R 0 k).toInt ≠ 3 → R2 2 k = R 2 k) : ∀ (t : Tm) {fi : Int32} {a b : Nat}, rI R J t fi a b → rI R2 J t fi a b
  | .leaf (some (0, _, _, _, _, _)), _, a, b, ⟨e, g1, g2, g3⟩ => ⟨e, by rw [h0 _ 0 (by decide)]; exact g1, by rw [h0 _ 1 (by decide)]; exact g2, by rw [h2 a (by omega)]; exact g3⟩
  | .leaf (some (_ + 1, _, _, _, _, _)), _, a, b, ⟨e, g1, g2, g3⟩ => ⟨e, by rw [h0 _ 0 (by decide)]; exact g1, by rw [h0 _ 1 (by decide)]; exact g2, by rw [h2 a (by omega)]; exact g3⟩
  | .branch 0 (.leaf (some (0, _, _, _, _, w))) x, _, a, b, ⟨m, q, e, g1, g2, g3, g4⟩ => ⟨m, by rw [h0 _ 3 (by decide)]; exact rI_ow h0 h2 x q, e, by rw [h0 _ 0 (by decide)]; exact g1, by rw [h0 _ 1 (by decide)]; exact g2, g3, by rw [h0 _ 7 (by decide)]; exact g4⟩
  | .branch 0 (.leaf (some (1, _, _, _, _, _))) x, _, a, b, ⟨m, q, e, g1, g2, g3, g4⟩ => ⟨m, by rw [h0 _ 3 (by decide)]; exact rI_ow h0 h2 x q, e, by rw [h0 _ 0 (by decide)]; exact g1, by rw [h0 _ 1 (by decide)]; exact g2, by rw [h2 m (by omega)]; exact g3, by rw [h0 _ 7 (by decide)]; exact g4⟩
  | .branch 1 (.leaf (some (0, _, _, _, _, _))) (.branch _ x y), _, a, b, ⟨m, n, q1, q2, e, g1, g2, g3, g4, g5⟩ => ⟨m, n, rI_ow h0 h2 x q1, rI_ow h0 h2 y q2, e, by rw [h0 _ 0 (by decide)]; exact g1, by rw [h0 _ 1 (by decide)]; exact g2, by rw [h2 n (by omega)]; exact g3, by rw [h0 _ 3 (by decide)]; exact g4, by rw [h0 _ 4 (by decide)]; exact g5⟩
  | .branch 1 (.leaf (some (_ + 1, _, _, _, _, _))) (.branch _ x y), _, a, b, ⟨m, n, q1, q2, e, g1, g2, g3, g4, g5⟩ => ⟨m, n, rI_ow h0 h2 x q1, rI_ow h0 h2 y q2, e, by rw [h0 _ 0 (by decide)]; exact g1, by rw [h0 _ 1 (by decide)]; exact g2, by rw [h2 n (by omega)]; exact g3, by rw [h0 _ 3 (by decide)]; exact g4, by rw [h0 _ 4 (by decide)]; exact g5⟩
  | .branch 2 (.leaf (some (_, _, _, _, _, _))) (.branch _ x (.branch _ y z)), _, a, b, ⟨m, n, q, q1, q2, q3, e, g1, g2, g3, g4, g5⟩ => ⟨m, n, q, rI_ow h0 h2 x q1, rI_ow h0 h2 y q2, rI_ow h0 h2 z q3, e, by rw [h0 _ 0 (by decide)]; exact g1, by rw [h0 _ 1 (by decide)]; exact g2, by rw [h0 _ 3 (by decide)]; exact g3, by rw [h0 _ 4 (by decide)]; exact g4, by rw [h0 _ 5 (by decide)]; exact g5⟩
  | .branch 0 (.leaf (some (2, _, _, _, _, _))) x, _, a, b, ⟨m, q, e, g1, g2, g3⟩ => ⟨m, by rw [h0 _ 3 (by decide)]; exact rI_ow h0 h2 x q, e, by rw [h0 _ 0 (by decide)]; exact g1, by rw [h0 _ 1 (by decide)]; exact g2, by rw [h2 m (by omega)]; exact g3⟩
  | .branch 0 (.leaf (some (_ + 3, _, _, _, _, _))) x, _, a, b, ⟨m, q, e, g1, g2, g3, g4, g5, g6⟩ => ⟨m, rI_ow h0 h2 x q, e, by rw [h0 _ 0 (by decide)]; exact g1, by rw [h0 _ 1 (by decide)]; exact g2, by rw [h2 m (by omega)]; exact g3, by rw [h0 _ 4 (by decide)]; exact g4, by rw [h0 _ 7 (by decide)]; exact g5, by rw [h0 _ 3 (by decide)]; exact g6⟩
  | .branch 0 (.leaf none) _, _, _, _, h9 => h9.elim
  | .branch 0 (.branch _ _ _) _, _, _, _, h9 => h9.elim
  | .branch 1 (.leaf none) _, _, _, _, h9 => h9.elim
  | .branch 1 (.branch _ _ _) _, _, _, _, h9 => h9.elim
  | .branch 1 (.leaf (some (0, _, _, _, _, _))) (.leaf _), _, _, _, h9 => h9.elim
  | .branch 1 (.leaf (some (_ + 1, _, _, _, _, _))) (.leaf _), _, _, _, h9 => h9.elim
  | .branch 2 (.leaf none) _, _, _, _, h9 => h9.elim
  | .branch 2 (.branch _ _ _) _, _, _, _, h9 => h9.elim
  | .branch 2 (.leaf (some (_, _, _, _, _, _))) (.leaf _), _, _, _, h9 => h9.elim
  | .branch 2 (.leaf (some (_, _, _, _, _, _))) (.branch _ _ (.leaf _)), _, _, _, h9 => h9.elim
  | .leaf none, _, _, _, h => h
  | .branch (_ + 3) x y, fi, a, b, ⟨m, q1, l, e, q2⟩ => ⟨m, rI_ow h0 h2 x q1, l, e, by rw [h0 _ 6 (by decide)]; exact rI_ow h0 h2 y q2⟩
theorem rPg_ow {wh pl ow ow2 on tw th be ma : Nat → Int32} {nm : Nat → Int64} {fs bo : Nat → Int32} {n z : Nat} {G : Nat → Tm} (h : rPg (rcs wh pl ow on tw th be ma) nm fs bo n G z) (h2 : ∀ k, (wh k).toInt ≠ 3 → ow2 k = ow k) : rPg (rcs wh pl ow2 on tw th be ma) nm fs bo n G z := fun f hf => by
  obtain ⟨a, b, h1, h3, h4, h5, h6⟩ := h f hf
  refine ⟨a, b, h1, h3, h4, rI_ow (fun k i hi => ?_) h2 _ h5, h6⟩
  match i, hi with
  | 0, _ => rfl
  | 1, _ => rfl
  | 2, g => exact absurd rfl g
  | 3, _ => rfl
  | 4, _ => rfl
  | 5, _ => rfl
  | 6, _ => rfl
  | _ + 7, _ => rfl
/-- the definitions so far -/
def rx_rd (T P : Nat → Int32) (V : Nat → Int64) (D : Option (sp_S × sp_F)) (st : Nat → Prop) (kn : Nat → Int64) (fi : Nat → Int32) (kz : Int32) (wh ma : Nat → Int32) (nm : Nat → Int64) (pz : Int32) (B : Nat → Nat → Int32) (fs bo : Nat → Int32) (fn : Nat → Int64) (td : Nat → Int32) (fz : Int32) (mr : Int) (wd : Nat → Int32) : Prop := ∃ (i n : Nat) (kw : Nat → Int64) (kf : Nat → Int32) (C : List (Int64 × Int)) (fw : Nat → Int64) (ft : Nat → Int) (G : Nat → Tm), st i ∧ sp_kr kn fi kz kw kf ∧ sp_cr wh ma nm pz C ∧ sp_fr fn td fz fw ft ∧ (n : Int) = 31 - fz.toInt ∧ rPg B nm fs bo (Int32.toNatClampNeg fz) G (Int32.toNatClampNeg pz) ∧ rWa wd td fz G ∧ (mr ≠ 0 → D = sp_ds T P V n (i, Int32.toNatClampNeg kz, kw, kf, C) (Int32.toNatClampNeg fz, fw, ft, G)) ∧ (mr = 0 → D = some ((i, Int32.toNatClampNeg kz, kw, kf, C), (Int32.toNatClampNeg fz, fw, ft, G)))
/-- names told so far -/
def rx_tn (T : Nat → Int32) (V : Nat → Int64) (o : Option (List Int64 × Nat)) (st : Nat → Prop) (sc : Nat → Int64) (sd : Int32) : Prop := ∃ (M : List Int64) (n i : Nat), st i ∧ sp_nr sc sd M ∧ (n : Int) = 6 - sd.toInt ∧ o = sp_tn T V n M i
theorem sp_nr_0 {sc : Nat → Int64} {k : Int32} (h : k.toInt = 0) : sp_nr sc k [] := ⟨h.symm, fun j hj => absurd hj (Nat.not_lt_zero _), List.nodup_nil⟩
section
variable {T P : Nat → Int32} {V : Nat → Int64} {D : Option (sp_S × sp_F)} {K : Nat × (Nat → Int64) × (Nat → Int32) × List (Int64 × Int)} {F : sp_F} {s s2 : sp_S} {a b f n k i i2 : Nat} {fw fw2 : Nat → Int64} {ft ft2 : Nat → Int} {G : Nat → Tm} {M : List Int64} {s3 : Tm × sp_S}
theorem rx_rd_x (hq : D = sp_ds T P V n s F) (h : sp_df T P V s F = none) : D = none := by
  rw [hq]
  cases n with
  | zero => rfl
  | succ n => unfold sp_ds; rw [h]; rfl
theorem rx_df_1 (h : ¬ ((T a).toInt = 268 ∧ f < 30)) : sp_df T P V (a, K) (f, fw, ft, G) = none := by unfold sp_df; exact if_neg h
theorem rx_df_2 (h1 : (T a).toInt = 268) (h : ¬ ((T (a + 1)).toInt = 258 ∧ sp_fi fw (V (a + 1)) f = f)) : sp_df T P V (a, K) (f, fw, ft, G) = none := by
  unfold sp_df
  by_cases hf : f < 30
  · exact (if_pos ⟨h1, hf⟩).trans (if_neg h)
  · exact if_neg (fun g => hf g.2)
theorem rx_df_eq (h1 : (T a).toInt = 268) (hf : f < 30) (h2 : (T (a + 1)).toInt = 258) (h3 : sp_fi fw (V (a + 1)) f = f) : sp_df T P V (a, K) (f, fw, ft, G) = (sp_tn T V 6 [] (a + 2)).bind fun q => if (T q.2).toInt = 61 then (sp_E T P V 30 q.1 (q.2 + 1, K)).bind fun s2 => if (T s2.2.1).toInt = 59 then some (sp_to s2.2 (s2.2.1 + 1), (f + 1, vp_updL fw f (V (a + 1)), (fun k => if k = f then (q.1.length : Int) else ft k), fun k => if k = f then s2.1 else G k)) else none else none := by
  unfold sp_df
  exact (if_pos ⟨h1, hf⟩).trans (if_pos ⟨h2, h3⟩)
theorem rx_tn_x1 (h : (T i).toInt = 258) (hm : V i ∈ M) : sp_tn T V n M i = none := by
  unfold sp_tn; rw [if_pos h]
  cases n with
  | zero => rfl
  | succ n => exact if_neg (fun g => g hm)
theorem rx_tn_x2 (h : (T i).toInt = 258) (hn : n = 0) : sp_tn T V n M i = none := by
  subst hn; unfold sp_tn; rw [if_pos h]
theorem rx_tn_s (h : (T i).toInt = 258) (hn : n = k + 1) (hm : V i ∉ M) : sp_tn T V n M i = sp_tn T V k (M ++ [V i]) (i + 1) := by
  subst hn
  conv => lhs; unfold sp_tn
  rw [if_pos h]; exact if_pos hm
theorem rx_tn_n (h : (T i).toInt ≠ 258) : sp_tn T V n M i = some (M, i) := by unfold sp_tn; rw [if_neg h]
theorem rx_df_3 (e1 : (T a).toInt = 268) (e2 : f < 30) (e3 : (T (a + 1)).toInt = 258) (e4 : sp_fi fw (V (a + 1)) f = f) (q : sp_tn T V 6 [] (a + 2) = none) : sp_df T P V (a, K) (f, fw, ft, G) = none := (rx_df_eq e1 e2 e3 e4).trans (sp_bx q)
theorem rx_df_4 (e1 : (T a).toInt = 268) (e2 : f < 30) (e3 : (T (a + 1)).toInt = 258) (e4 : sp_fi fw (V (a + 1)) f = f) (q : sp_tn T V 6 [] (a + 2) = some (M, b)) (h : ¬ (T b).toInt = 61) : sp_df T P V (a, K) (f, fw, ft, G) = none := (rx_df_eq e1 e2 e3 e4).trans ((sp_b1 q).trans (if_neg h))
theorem rx_df_5 (e1 : (T a).toInt = 268) (e2 : f < 30) (e3 : (T (a + 1)).toInt = 258) (e4 : sp_fi fw (V (a + 1)) f = f) (q : sp_tn T V 6 [] (a + 2) = some (M, b)) (h : (T b).toInt = 61) (q2 : sp_E T P V 30 M (b + 1, K) = none) : sp_df T P V (a, K) (f, fw, ft, G) = none := (rx_df_eq e1 e2 e3 e4).trans ((sp_b1 q).trans ((if_pos h).trans (sp_bx q2)))
theorem rx_df_6 (e1 : (T a).toInt = 268) (e2 : f < 30) (e3 : (T (a + 1)).toInt = 258) (e4 : sp_fi fw (V (a + 1)) f = f) (q : sp_tn T V 6 [] (a + 2) = some (M, b)) (h : (T b).toInt = 61) (q2 : sp_E T P V 30 M (b + 1, K) = some s3) (h2 : ¬ (T s3.2.1).toInt = 59) : sp_df T P V (a, K) (f, fw, ft, G) = none := (rx_df_eq e1 e2 e3 e4).trans ((sp_b1 q).trans ((if_pos h).trans ((sp_b1 q2).trans (if_neg h2))))
theorem rx_df_y (e1 : (T a).toInt = 268) (e2 : f < 30) (e3 : (T (a + 1)).toInt = 258) (e4 : sp_fi fw (V (a + 1)) f = f) (q : sp_tn T V 6 [] (a + 2) = some (M, b)) (h : (T b).toInt = 61) (q2 : sp_E T P V 30 M (b + 1, K) = some s3) (h2 : (T s3.2.1).toInt = 59) : sp_df T P V (a, K) (f, fw, ft, G) = some ((s3.2.1 + 1, s3.2.2), (f + 1, vp_updL fw f (V (a + 1)), (fun k => if k = f then (M.length : Int) else ft k), fun k => if k = f then s3.1 else G k)) := (rx_df_eq e1 e2 e3 e4).trans ((sp_b1 q).trans ((if_pos h).trans ((sp_b1 q2).trans (if_pos h2))))
end
theorem rx_rd_s {T P : Nat → Int32} {V : Nat → Int64} {D : Option (sp_S × sp_F)} {s : sp_S} {n i2 : Nat} {fw fw2 : Nat → Int64} {ft ft2 : Nat → Int} {G G2 : Nat → Tm} {B : Nat → Nat → Int32} {fs bo : Nat → Int32} {st : Nat → Prop} {kn kw : Nat → Int64} {fi kf : Nat → Int32} {kz : Int32} {wh ma : Nat → Int32} {nm : Nat → Int64} {pz : Int32} {fn : Nat → Int64} {td : Nat → Int32} {fz fz2 : Int32} {mr2 : Int} {C : List (Int64 × Int)} {wd : Nat → Int32} (hwa : rWa wd td fz2 G2) (hn : (n : Int) = 31 - fz.toInt) (hf : fz.toInt < 30) (h0 : 0 ≤ fz.toInt) (hq : D = sp_ds T P V n s (Int32.toNatClampNeg fz, fw, ft, G)) (hd : sp_df T P V s (Int32.toNatClampNeg fz, fw, ft, G) = some ((i2, Int32.toNatClampNeg kz, kw, kf, C), (Int32.toNatClampNeg fz + 1, fw2, ft2, G2))) (hpg : rPg B nm fs bo (Int32.toNatClampNeg fz + 1) G2 (Int32.toNatClampNeg pz)) (hs : st i2) (hk : sp_kr kn fi kz kw kf) (hc : sp_cr wh ma nm pz C) (ez : fz2.toInt = fz.toInt + 1) (hfr : sp_fr fn td fz2 fw2 ft2) (hm : (mr2 ≠ 0 ∧ (T i2).toInt ≠ 256) ∨ (mr2 = 0 ∧ (T i2).toInt = 256)) : rx_rd T P V D st kn fi kz wh ma nm pz B fs bo fn td fz2 mr2 wd := by
  have e := zn_1 ez h0
  obtain ⟨k, rfl⟩ : ∃ k, n = k + 1 := ⟨n - 1, by omega⟩
  have hq2 : D = if (T i2).toInt = 256 then some ((i2, Int32.toNatClampNeg kz, kw, kf, C), (Int32.toNatClampNeg fz2, fw2, ft2, G2)) else sp_ds T P V k (i2, Int32.toNatClampNeg kz, kw, kf, C) (Int32.toNatClampNeg fz2, fw2, ft2, G2) := by
    rw [hq, e]; conv => lhs; unfold sp_ds
    exact sp_b1 hd
  refine ⟨i2, k, kw, kf, C, fw2, ft2, G2, hs, hk, hc, hfr, by omega, by rw [e]; exact hpg, hwa, fun g => ?_, fun g => ?_⟩
  · rcases hm with ⟨u, v⟩ | ⟨u, v⟩
    · exact hq2.trans (if_neg v)
    · exact absurd u g
  · rcases hm with ⟨u, v⟩ | ⟨u, v⟩
    · exact absurd g u
    · exact hq2.trans (if_pos v)
/-- a call that is good -/
def rx_gd (fn : Nat → Int64) (td ma : Nat → Int32) (nm : Nat → Int64) (fz : Int32) (k : Nat) : Prop := ∃ r : Nat, (r : Int) < fz.toInt ∧ fn r = nm k ∧ (∀ j, j < r → fn j ≠ nm k) ∧ (td r).toInt = (ma k).toInt
theorem rx_gd_y {fn : Nat → Int64} {td ma : Nat → Int32} {nm : Nat → Int64} {fz r : Int32} {k : Nat} (h : rx_ff fn (nm k) fz r) (h0 : r.toInt ≠ -1) (e : (td (Int32.toNatClampNeg r)).toInt = (ma k).toInt) : rx_gd fn td ma nm fz k := by
  rcases h with ⟨g, -⟩ | ⟨g0, g1, g2, g3⟩
  · exact absurd g h0
  · have n1 := zn_nat g0
    exact ⟨_, by omega, g2, fun j hj => g3 j (by omega), e⟩
theorem rx_gd_n {fn : Nat → Int64} {td ma : Nat → Int32} {nm : Nat → Int64} {fz r : Int32} {k : Nat} (h : rx_ff fn (nm k) fz r) (e : r.toInt = -1 ∨ (td (Int32.toNatClampNeg r)).toInt ≠ (ma k).toInt) : ¬ rx_gd fn td ma nm fz k := by
  rintro ⟨q, h1, h2, h3, h4⟩
  rcases h with ⟨g, g2⟩ | ⟨g0, g1, g2, g3⟩
  · exact g2 q h1 h2
  · have n1 := zn_nat g0
    have eq : q = Int32.toNatClampNeg r := by
      rcases Nat.lt_trichotomy q (Int32.toNatClampNeg r) with u | u | u
      · exact absurd h2 (g3 q (by omega))
      · exact u
      · exact absurd g2 (h3 _ u)
    rw [← eq] at e
    exact e.elim (fun u => by omega) (fun u => u h4)
/-- the calls so far, the worst of them -/
def rx_wo (fn : Nat → Int64) (td ma : Nat → Int32) (nm : Nat → Int64) (fz : Int32) (wh ow : Nat → Int32) (wo k3 : Int32) : Prop := (wo.toInt = -1 → ∀ k : Nat, (k : Int) < k3.toInt → (wh k).toInt = 3 → rx_gd fn td ma nm fz k ∧ rx_ff fn (nm k) fz (ow k) ∧ 0 ≤ (ow k).toInt) ∧ (wo.toInt ≠ -1 → ∃ k : Nat, (k : Int) < k3.toInt ∧ (wh k).toInt = 3 ∧ ¬ rx_gd fn td ma nm fz k)
section
variable {fn : Nat → Int64} {td ma : Nat → Int32} {nm : Nat → Int64} {fz : Int32} {wh ow ow2 : Nat → Int32} {wo wo2 k3 k4 : Int32}
theorem rx_wo_0 (h : wo.toInt = -1) (hk : k3.toInt = 0) : rx_wo fn td ma nm fz wh ow wo k3 := ⟨fun _ k h1 => by omega, fun g => absurd h g⟩
theorem rx_wo_n (h : rx_wo fn td ma nm fz wh ow wo k3) (h0 : 0 ≤ k3.toInt) (e : k4.toInt = k3.toInt + 1) (hg : (wh (Int32.toNatClampNeg k3)).toInt ≠ 3) : rx_wo fn td ma nm fz wh ow wo k4 := by
  have n0 := zn_nat h0
  refine ⟨fun g k h1 h2 => ?_, fun g => ?_⟩
  · by_cases u : k = Int32.toNatClampNeg k3
    · rw [u] at h2; exact absurd h2 hg
    · exact h.1 g k (by omega) h2
  · obtain ⟨k, h1, h2⟩ := h.2 g
    exact ⟨k, by omega, h2⟩
theorem rx_wo_y {r : Int32} (h : rx_wo fn td ma nm fz wh ow wo k3) (h0 : 0 ≤ k3.toInt) (e : k4.toInt = k3.toInt + 1) (hf : rx_ff fn (nm (Int32.toNatClampNeg k3)) fz r) (hr : r.toInt ≠ -1) (et : (td (Int32.toNatClampNeg r)).toInt = (ma (Int32.toNatClampNeg k3)).toInt) (eo : ow2 = upd ow (Int32.toNatClampNeg k3) r) : rx_wo fn td ma nm fz wh ow2 wo k4 := by
  have n0 := zn_nat h0
  refine ⟨fun g k h1 h2 => ?_, fun g => ?_⟩
  · by_cases u : k = Int32.toNatClampNeg k3
    · rw [u, eo, zu_s]
      exact ⟨rx_gd_y hf hr et, hf, hf.elim (fun g => absurd g.1 hr) (fun g => g.1)⟩
    · rw [eo, zu_n u]; exact h.1 g k (by omega) h2
  · obtain ⟨k, h1, h2⟩ := h.2 g
    exact ⟨k, by omega, h2⟩
theorem rx_wo_b (h0 : 0 ≤ k3.toInt) (e : k4.toInt = k3.toInt + 1) (h3 : (wh (Int32.toNatClampNeg k3)).toInt = 3) (hb : ¬ rx_gd fn td ma nm fz (Int32.toNatClampNeg k3)) (hw : wo2.toInt ≠ -1) : rx_wo fn td ma nm fz wh ow wo2 k4 := by
  have n0 := zn_nat h0
  exact ⟨fun g => absurd g hw, fun _ => ⟨_, by omega, h3, hb⟩⟩
end
section
variable {T P : Nat → Int32} {V : Nat → Int64} {s0 : sp_S} {F0 : sp_F} {s : sp_S} {fn : Nat → Int64} {td ma : Nat → Int32} {nm : Nat → Int64} {fz : Int32} {wh ow : Nat → Int32} {wo pz k3 : Int32} {fw : Nat → Int64} {ft : Nat → Int} {G : Nat → Tm}
theorem rx_pg_eq (hD : sp_ds T P V 31 s0 F0 = some (s, (Int32.toNatClampNeg fz, fw, ft, G))) : sp_pg T P V s0 F0 = if ∀ c ∈ s.2.2.2.2, sp_fi fw c.1 (Int32.toNatClampNeg fz) < Int32.toNatClampNeg fz ∧ ft (sp_fi fw c.1 (Int32.toNatClampNeg fz)) = c.2 then some (s, (Int32.toNatClampNeg fz, fw, ft, G)) else none := by
  unfold sp_pg; exact sp_b1 hD
theorem rx_pg_y (hD : sp_ds T P V 31 s0 F0 = some (s, (Int32.toNatClampNeg fz, fw, ft, G))) (h0 : 0 ≤ fz.toInt) (hw : rx_wo fn td ma nm fz wh ow wo k3) (hk3 : k3.toInt = pz.toInt) (hwo : wo.toInt = -1) (hc : sp_cr wh ma nm pz s.2.2.2.2) (hf : sp_fr fn td fz fw ft) : sp_pg T P V s0 F0 = some (s, (Int32.toNatClampNeg fz, fw, ft, G)) := by
  have n0 := zn_nat h0
  refine (rx_pg_eq hD).trans (if_pos (fun c hm => ?_))
  obtain ⟨k, h1, h2, h3, h4⟩ := hc.2 c hm
  obtain ⟨⟨r, r1, r2, r3, r4⟩, -⟩ := hw.1 hwo k (by omega) h2
  have e : sp_fi fw c.1 (Int32.toNatClampNeg fz) = r := sp_fi_eq (by omega) (fun j hj q => r3 j hj ((sp_cv_inj (hf j (by omega)).1 h3).mp q)) (Or.inr ((sp_cv_inj (hf r r1).1 h3).mpr r2))
  rw [e]
  exact ⟨by omega, by rw [(hf r r1).2, r4, h4]⟩
theorem rx_pg_n (hD : sp_ds T P V 31 s0 F0 = some (s, (Int32.toNatClampNeg fz, fw, ft, G))) (h0 : 0 ≤ fz.toInt) (hw : rx_wo fn td ma nm fz wh ow wo k3) (hk3 : k3.toInt = pz.toInt) (hwo : wo.toInt ≠ -1) (hc : sp_cr wh ma nm pz s.2.2.2.2) (hf : sp_fr fn td fz fw ft) : sp_pg T P V s0 F0 = none := by
  have n0 := zn_nat h0
  refine (rx_pg_eq hD).trans (if_neg (fun g => ?_))
  obtain ⟨k, h1, h2, h3⟩ := hw.2 hwo
  obtain ⟨c, hm, h4, h5⟩ := hc.1 k (by omega) h2
  obtain ⟨g1, g2⟩ := g c hm
  have hj : ∀ j, j < Int32.toNatClampNeg fz → (fw j = c.1 ↔ fn j = nm k) := fun j hj => sp_cv_inj (hf j (by omega)).1 h4
  exact h3 ⟨sp_fi fw c.1 (Int32.toNatClampNeg fz), by omega, (hj _ g1).mp (sp_fi_at _ g1), fun j h9 q => sp_fi_ne _ j h9 ((hj j (by omega)).mpr q), by rw [← (hf _ (by omega)).2, g2, h5]⟩
end
theorem rx_pgx {T P : Nat → Int32} {V : Nat → Int64} {s0 : sp_S} {F0 : sp_F} (h : sp_ds T P V 31 s0 F0 = none) : sp_pg T P V s0 F0 = none := sp_bx h
/-- each call's function -/
def rCa (fn : Nat → Int64) (fz : Int32) (B : Nat → Nat → Int32) (nm : Nat → Int64) (z : Nat) : Prop := ∀ k, k < z → (B 0 k).toInt = 3 → rx_ff fn (nm k) fz (B 2 k) ∧ 0 ≤ (B 2 k).toInt
theorem rx_wo_ca {fn : Nat → Int64} {nm : Nat → Int64} {fz : Int32} {wh pl ow on tw th be ma td : Nat → Int32} {wo pz k3 : Int32} (hw : rx_wo fn td ma nm fz wh ow wo k3) (h0 : 0 ≤ pz.toInt) (hk3 : k3.toInt = pz.toInt) (hwo : wo.toInt = -1) : rCa fn fz (rcs wh pl ow on tw th be ma) nm (Int32.toNatClampNeg pz) := fun k hk g => by
  have n0 := zn_nat h0
  exact (hw.1 hwo k (by omega) g).2
/-- what a program was read as -/
def rx_pp (o : Option (sp_S × sp_F)) (kn : Nat → Int64) (fi : Nat → Int32) (kz : Int32) (fn : Nat → Int64) (td : Nat → Int32) (fz : Int32) (B : Nat → Nat → Int32) (nm : Nat → Int64) (fs bo : Nat → Int32) (pz : Int32) (wd mk : Nat → Int32) : Prop := ∃ (s : sp_S) (kw : Nat → Int64) (kf : Nat → Int32) (fw : Nat → Int64) (ft : Nat → Int) (G : Nat → Tm), o = some (s, (Int32.toNatClampNeg fz, fw, ft, G)) ∧ s.2.1 = Int32.toNatClampNeg kz ∧ s.2.2.1 = kw ∧ s.2.2.2.1 = kf ∧ sp_kr kn fi kz kw kf ∧ sp_fr fn td fz fw ft ∧ rPg B nm fs bo (Int32.toNatClampNeg fz) G (Int32.toNatClampNeg pz) ∧ rWa wd td fz G ∧ rMa B mk (Int32.toNatClampNeg pz) ∧ rCa fn fz B nm (Int32.toNatClampNeg pz)
