section
theorem zn_1 {x y : Int32} (h : y.toInt = x.toInt + 1) (h0 : 0 ≤ x.toInt) : Int32.toNatClampNeg y = Int32.toNatClampNeg x + 1 := by
  have := zn_nat h0
  have := zn_nat (x := y) (by omega)
  omega
/-- a pattern's names so far -/
def sp_pl (T P : Nat → Int32) (V : Nat → Int64) (L0 : List Int64) (a0 : Nat) (gn : Nat → Int64) (ar : Int32) (fi mo : Int) (a : Nat) : Prop := ∃ (M : List Int64) (n : Nat), sp_nl gn ar (L0 ++ M) ∧ (M.length : Int) = fi ∧ (n : Int) = 3 - fi ∧ sp_im (mo ≠ 0) (sp_pn T V 3 L0 a0 = sp_pn T V n (L0 ++ M) a) ∧ sp_im (mo = 0) (sp_pn T V 3 L0 a0 = if (T a).toInt = 41 then some (L0 ++ M, a + 1) else none) ∧ sp_im (mo ≠ 0) (pf_pn T P V 3 L0 a0 = pf_pn T P V n (L0 ++ M) a) ∧ sp_im (mo = 0) (pf_pn T P V 3 L0 a0 = (P a).toInt)
theorem sp_pl_0 {T P : Nat → Int32} {V : Nat → Int64} {L0 : List Int64} {a0 a : Nat} {gn : Nat → Int64} {ar : Int32} {fi mo : Int} (h : sp_nl gn ar L0) (hf : fi = 0) (hm : mo ≠ 0) (e : a = a0) : sp_pl T P V L0 a0 gn ar fi mo a := ⟨[], 3, by rw [List.append_nil]; exact h, hf.symm, by omega, fun _ => by rw [List.append_nil, e], fun g => absurd g hm, fun _ => by rw [List.append_nil, e], fun g => absurd g hm⟩
theorem sp_pn_x {T : Nat → Int32} {V : Nat → Int64} {L : List Int64} {a b : Nat} {so ar : Int32} {w : Int64} {gn : Nat → Int64} (hl : sp_nl gn ar L) (eb : b = a + 1) (ht : (T b).toInt = so.toInt) (ew : w = V b) (h : ¬ sp_nn so w ar L) : ∀ n, sp_pn T V n L a = none
  | 0 => rfl
  | n + 1 => by
    have := hl.1
    unfold sp_pn
    rw [← eb, ← ew, if_neg (fun g => h ⟨by omega, g.2.1, by omega⟩)]
theorem pf_pn_x {T P : Nat → Int32} {V : Nat → Int64} {L : List Int64} {a b : Nat} {so ar : Int32} {w : Int64} {gn : Nat → Int64} (hl : sp_nl gn ar L) (eb : b = a + 1) (ht : (T b).toInt = so.toInt) (ew : w = V b) (h : ¬ sp_nn so w ar L) : ∀ n, pf_pn T P V n L a = (P b).toInt
  | 0 => by rw [eb]; rfl
  | n + 1 => by
    have := hl.1
    unfold pf_pn
    rw [← eb, ← ew, if_neg (fun g => h ⟨by omega, g.2.1, by omega⟩)]
theorem pf_pa_x {T P : Nat → Int32} {V : Nat → Int64} {L : List Int64} {a b : Nat} {p : Int} (eb : b = a + 1) (h : (T b).toInt = 40) (hp : sp_pn T V 3 L b = none) (hq : pf_pn T P V 3 L b = p) : pf_pa T P V L a = p := by
  subst eb; unfold pf_pa
  exact (if_pos h).trans ((pf_b_n hp).trans hq)
theorem pf_pa_y {T P : Nat → Int32} {V : Nat → Int64} {L M : List Int64} {a b c : Nat} (eb : b = a + 1) (h : (T b).toInt = 40) (hp : sp_pn T V 3 L b = if (T c).toInt = 41 then some (L ++ M, c + 1) else none) (h41 : (T c).toInt = 41) : pf_pa T P V L a = (P a).toInt := by
  rw [if_pos h41] at hp
  subst eb; unfold pf_pa
  exact (if_pos h).trans (pf_b_s hp)
theorem pf_pa_n {T P : Nat → Int32} {V : Nat → Int64} {L : List Int64} {a b : Nat} (eb : b = a + 1) (h : (T b).toInt ≠ 40) : pf_pa T P V L a = (P a).toInt := by
  subst eb; unfold pf_pa
  exact if_neg h
theorem sp_pl_s {T P : Nat → Int32} {V : Nat → Int64} {L0 M : List Int64} {a0 a b c n : Nat} {gn gn2 : Nat → Int64} {ar ar2 so : Int32} {fi fi2 mo2 : Int} {w : Int64} (hl : sp_nl gn ar (L0 ++ M)) (hM : (M.length : Int) = fi) (hn : (n : Int) = 3 - fi) (h3 : fi < 3) (hr : sp_pn T V 3 L0 a0 = sp_pn T V n (L0 ++ M) a) (hg : pf_pn T P V 3 L0 a0 = pf_pn T P V n (L0 ++ M) a) (eb : b = a + 1) (ec : c = b + 1) (ht : (T b).toInt = so.toInt) (ew : w = V b) (hnn : sp_nn so w ar (L0 ++ M)) (h2 : sp_nl gn2 ar2 (L0 ++ M ++ [w])) (hf2 : fi2 = fi + 1) (hmo : mo2 ≠ 0 ∧ (T c).toInt = 44 ∨ mo2 = 0 ∧ (T c).toInt ≠ 44) : sp_pl T P V L0 a0 gn2 ar2 fi2 mo2 c := by
  have hlen := hl.1
  obtain ⟨k, rfl⟩ : ∃ k, n = k + 1 := ⟨n - 1, by omega⟩
  have e2 : c = a + 2 := by omega
  have hs : sp_pn T V (k + 1) (L0 ++ M) a = if (T c).toInt = 44 then sp_pn T V k (L0 ++ (M ++ [w])) c else if (T c).toInt = 41 then some (L0 ++ (M ++ [w]), c + 1) else none := by
    rw [← List.append_assoc]
    conv => lhs; unfold sp_pn
    rw [← eb, ← e2, ← ew, if_pos ⟨by have := hnn.1; omega, hnn.2.1, by have := hnn.2.2; omega⟩, show a + 3 = c + 1 by omega]
  have hs2 : pf_pn T P V (k + 1) (L0 ++ M) a = if (T c).toInt = 44 then pf_pn T P V k (L0 ++ (M ++ [w])) c else (P c).toInt := by
    rw [← List.append_assoc]
    conv => lhs; unfold pf_pn
    rw [← eb, ← e2, ← ew, if_pos ⟨by have := hnn.1; omega, hnn.2.1, by have := hnn.2.2; omega⟩]
  rw [hs] at hr
  rw [hs2] at hg
  refine ⟨M ++ [w], k, by rw [← List.append_assoc]; exact h2, by rw [List.length_append]; show ((M.length + 1 : Nat) : Int) = _; omega, by omega, fun g => ?_, fun g => ?_, fun g => ?_, fun g => ?_⟩
  · rw [hr, if_pos (by rcases hmo with q | q; exact q.2; exact absurd q.1 g)]
  · rw [hr, if_neg (by rcases hmo with q | q; exact absurd g q.1; exact q.2)]
  · rw [hg, if_pos (by rcases hmo with q | q; exact q.2; exact absurd q.1 g)]
  · rw [hg, if_neg (by rcases hmo with q | q; exact absurd g q.1; exact q.2)]
/-- a pattern -/
def sp_pq (T : Nat → Int32) (V : Nat → Int64) (L : List Int64) (k a : Nat) (kf : Nat → Int32) (o : Option (List Int64 × Nat × (Nat → Int32))) : Prop := ∀ (z : Nat) (kw : Nat → Int64) (C : List (Int64 × Int × Int)), sp_pa T V L k (a, z, kw, kf, C) = o.map (fun q => (q.1, (q.2.1, z, kw, q.2.2, C)))
theorem sp_pq_n {T : Nat → Int32} {V : Nat → Int64} {L : List Int64} {ki fi : Int32} {a b : Nat} {kf kf2 : Nat → Int32} (eb : b = a + 1) (h : (T b).toInt ≠ 40) (hf : fi.toInt = 0) (ht : sp_td ki fi kf (some kf2)) : sp_pq T V L (Int32.toNatClampNeg ki) a kf (some (L, b, kf2)) := fun z kw C => by
  unfold sp_pa
  have := ht b z kw C
  rw [hf] at this
  rw [show (a, z, kw, kf, C).1 + 1 = b from eb.symm, if_neg h]
  show (sp_te _ 0 (b, z, kw, kf, C)).bind _ = _
  rw [this]; rfl
theorem sp_pq_nx {T : Nat → Int32} {V : Nat → Int64} {L : List Int64} {ki fi : Int32} {a b : Nat} {kf : Nat → Int32} (eb : b = a + 1) (h : (T b).toInt ≠ 40) (hf : fi.toInt = 0) (ht : sp_td ki fi kf none) : sp_pq T V L (Int32.toNatClampNeg ki) a kf none := fun z kw C => by
  unfold sp_pa
  have := ht b z kw C
  rw [hf] at this
  rw [show (a, z, kw, kf, C).1 + 1 = b from eb.symm, if_neg h]
  show (sp_te _ 0 (b, z, kw, kf, C)).bind _ = _
  rw [this]; rfl
theorem sp_pq_x {T : Nat → Int32} {V : Nat → Int64} {L : List Int64} {k a b : Nat} {kf : Nat → Int32} (eb : b = a + 1) (h : (T b).toInt = 40) (hp : sp_pn T V 3 L b = none) : sp_pq T V L k a kf none := fun z kw C => by
  unfold sp_pa
  rw [show (a, z, kw, kf, C).1 + 1 = b from eb.symm, if_pos h, hp]; rfl
theorem sp_pq_y {T : Nat → Int32} {V : Nat → Int64} {L M : List Int64} {ki fi : Int32} {a b c d : Nat} {kf kf2 : Nat → Int32} (eb : b = a + 1) (h : (T b).toInt = 40) (hp : sp_pn T V 3 L b = if (T c).toInt = 41 then some (L ++ M, c + 1) else none) (h41 : (T c).toInt = 41) (ed : d = c + 1) (hM : (M.length : Int) = fi.toInt) (ht : sp_td ki fi kf (some kf2)) : sp_pq T V L (Int32.toNatClampNeg ki) a kf (some (L ++ M, d, kf2)) := fun z kw C => by
  have hte := ht d z kw C
  unfold sp_pa
  rw [show (a, z, kw, kf, C).1 + 1 = b from eb.symm, if_pos h, hp, if_pos h41, ← ed]
  show (sp_te _ (((L ++ M).length : Int) - L.length) (d, z, kw, kf, C)).bind _ = _
  rw [show (((L ++ M).length : Int) - L.length) = fi.toInt by rw [List.length_append]; omega, hte]; rfl
theorem sp_pq_yx {T : Nat → Int32} {V : Nat → Int64} {L M : List Int64} {ki fi : Int32} {a b c d : Nat} {kf : Nat → Int32} (eb : b = a + 1) (h : (T b).toInt = 40) (hp : sp_pn T V 3 L b = if (T c).toInt = 41 then some (L ++ M, c + 1) else none) (h41 : (T c).toInt = 41) (ed : d = c + 1) (hM : (M.length : Int) = fi.toInt) (ht : sp_td ki fi kf none) : sp_pq T V L (Int32.toNatClampNeg ki) a kf none := fun z kw C => by
  have hte := ht d z kw C
  unfold sp_pa
  rw [show (a, z, kw, kf, C).1 + 1 = b from eb.symm, if_pos h, hp, if_pos h41, ← ed]
  show (sp_te _ (((L ++ M).length : Int) - L.length) (d, z, kw, kf, C)).bind _ = _
  rw [show (((L ++ M).length : Int) - L.length) = fi.toInt by rw [List.length_append]; omega, hte]; rfl

set_option maxHeartbeats 4000000 in
set_option maxRecDepth 100000 in
theorem c_X7_pattern_s (l : Launch) (dC : Nat → ClassId) (dI : Nat → Nat → Nat) (aK aV : Nat → Nat) (h0 : Nat) (ptok : Nat) (pnee : Nat) (pnam : Nat) (pbui : Nat) (pdra : Nat) (ar : Int32) (fu : Int32) (fn : Int32) (fp : Int32) (ts : Nat) (tp : Nat) (tw : Nat) (t1 : ClassId) (t2 : ClassId) (t3 : ClassId) (z : Int32) (pa : Int32) (so : Int32) (pl : Int32) (wd : Int64) (gs : Nat → Int32) (gp : Nat → Int32) (gw : Nat → Int64) (gco : Nat) (gar : Nat) (gki : Nat) (gfu : Nat) (kw : Nat) (kf : Nat) (k1 : ClassId) (k2 : ClassId) (kz : Int32) (kgw : Nat → Int64) (kgf : Nat → Int32) (nk : ClassId) (gn : Nat → Int64) (fw : Nat) (fe : Nat) (ff : Nat) (f1 : ClassId) (f2 : ClassId) (f3 : ClassId) (fz : Int32) (fgw : Nat → Int64) (fge : Nat → Int32) (fgf : Nat → Int32) (ki : Int32) (gN : List Int64) (sz : Nat) (hlt : l.stackTraces = false) (hz0 : 0 ≤ z.toInt) (hz1 : z.toInt ≤ 2000) (ha0 : 0 ≤ pa.toInt) (ha1 : pa.toInt ≤ z.toInt) (hgz : gs (Int32.toNatClampNeg z) = 256) (hpt : zpt gs gp z pa pl so) (hso : so.toInt = 256 ∨ pa.toInt < z.toInt) (hk0 : 0 ≤ kz.toInt) (hk1 : kz.toInt ≤ 20) (hkf : zx 4 kgf) (hn0 : 0 ≤ ar.toInt) (hn1 : ar.toInt ≤ 24) (hf0 : 0 ≤ fz.toInt) (hf1 : fz.toInt ≤ 30) (hfe : zx 3000 fge) (hfu0 : 0 ≤ fu.toInt) (hfu1 : fu.toInt < fz.toInt) (hnm0 : ar.toInt ≤ (fgf (5 * Int32.toNatClampNeg fu + 1)).toInt) (hnm1 : (fgf (5 * Int32.toNatClampNeg fu + 1)).toInt ≤ 24) (hi0 : 0 ≤ ki.toInt) (hi1 : ki.toInt < 20) (hpz : pa.toInt < z.toInt) (hnl : sp_nl gn ar gN) : vy_Met l yX7_pattern (Cond.code yX7_pattern cX7_pattern 5 none :: zw) ({ frames := 20, cells := 1, slots := 6, locals := 800 }) (va_Pc [.ref h0, .int ki] (zP dC dI aK aV sz [(t1, .int), (t2, .int), (t3, .long), (k1, .long), (k2, .int), (nk, .long), (f1, .long), (f2, .int), (f3, .int)] [(h0, .inr (7, [.ref ptok, .ref pnee, .ref pnam, .int ar, .ref pbui, .ref pdra, .int fu, .int fn, .int fp])), (ptok, .inr (10, [.ref ts, .ref tp, .ref tw, .int z, .int pa, .int so, .int pl, .long wd])), (ts, .inl (t1, 2001, .inl gs)), (tp, .inl (t2, 2001, .inl gp)), (tw, .inl (t3, 2001, .inr (.inl gw))), (pdra, .inr (9, [.ref gco, .ref gar, .ref gki, .ref gfu])), (gki, .inr (4, [.ref kw, .ref kf, .int kz])), (kw, .inl (k1, 20, .inr (.inl kgw))), (kf, .inl (k2, 20, .inl kgf)), (pnam, .inl (nk, 24, .inr (.inl gn))), (gfu, .inr (3, [.ref fw, .ref fe, .ref ff, .int fz])), (fw, .inl (f1, 30, .inr (.inl fgw))), (fe, .inl (f2, 30, .inl fge)), (ff, .inl (f3, 150, .inl fgf))])) (va_Qv (fun u : Int32 × Int32 × Int32 × Int64 × Int32 × (Nat → Int64) × (Nat → Int32) × (Nat → Int32) => match u with | (pa2, so2, pl2, wd2, ar2, gn2, fgf2, kgf2) => (0 ≤ pa2.toInt) ∧ (pa2.toInt ≤ z.toInt) ∧ (0 ≤ ar2.toInt) ∧ (ar2.toInt ≤ 24) ∧ (so2.toInt = 256 ∨ pa2.toInt < z.toInt) ∧ (pa.toInt ≤ pa2.toInt) ∧ (ar.toInt ≤ ar2.toInt) ∧ (zx 4 kgf2) ∧ ((kgf2 (Int32.toNatClampNeg ki)).toInt = ar2.toInt - ar.toInt) ∧ (zkt kgf kgf2) ∧ (ar2.toInt ≤ (fgf2 (5 * Int32.toNatClampNeg fu + 1)).toInt) ∧ ((fgf2 (5 * Int32.toNatClampNeg fu + 1)).toInt ≤ 24) ∧ (zff fgf fgf2) ∧ (zpt gs gp z pa2 pl2 so2) ∧ (pl.toInt ≤ pl2.toInt) ∧ (pa.toInt = z.toInt ∨ pl.toInt + 1 ≤ pl2.toInt) ∧ (pa.toInt = z.toInt ∨ pa.toInt < pa2.toInt) ∧ (sp_wd gw pa2 wd2) ∧ (cF fgf fgf2 (Int32.toNatClampNeg fu) 0 0 (Int32.toInt ar2)) ∧ (∃ M : List Int64, sp_nl gn2 ar2 (gN ++ M) ∧ sp_pq gs gw gN (Int32.toNatClampNeg ki) (Int32.toNatClampNeg pa) kgf (some (gN ++ M, Int32.toNatClampNeg pa2, kgf2)))) (fun u => match u with | (pa2, so2, pl2, wd2, ar2, gn2, fgf2, kgf2) => zQ dC dI (va_A [(h0, .inr (7, [.ref ptok, .ref pnee, .ref pnam, .int ar, .ref pbui, .ref pdra, .int fu, .int fn, .int fp])), (ptok, .inr (10, [.ref ts, .ref tp, .ref tw, .int z, .int pa, .int so, .int pl, .long wd])), (ts, .inl (t1, 2001, .inl gs)), (tp, .inl (t2, 2001, .inl gp)), (tw, .inl (t3, 2001, .inr (.inl gw))), (pdra, .inr (9, [.ref gco, .ref gar, .ref gki, .ref gfu])), (gki, .inr (4, [.ref kw, .ref kf, .int kz])), (kw, .inl (k1, 20, .inr (.inl kgw))), (kf, .inl (k2, 20, .inl kgf)), (pnam, .inl (nk, 24, .inr (.inl gn))), (gfu, .inr (3, [.ref fw, .ref fe, .ref ff, .int fz])), (fw, .inl (f1, 30, .inr (.inl fgw))), (fe, .inl (f2, 30, .inl fge)), (ff, .inl (f3, 150, .inl fgf))] sz) [(t1, .int), (t2, .int), (t3, .long), (k1, .long), (k2, .int), (nk, .long), (f1, .long), (f2, .int), (f3, .int)] [(h0, .inr (7, [.ref ptok, .ref pnee, .ref pnam, .int ar2, .ref pbui, .ref pdra, .int fu, .int fn, .int fp])), (ptok, .inr (10, [.ref ts, .ref tp, .ref tw, .int z, .int pa2, .int so2, .int pl2, .long wd2])), (ts, .inl (t1, 2001, .inl gs)), (tp, .inl (t2, 2001, .inl gp)), (tw, .inl (t3, 2001, .inr (.inl gw))), (pdra, .inr (9, [.ref gco, .ref gar, .ref gki, .ref gfu])), (gki, .inr (4, [.ref kw, .ref kf, .int kz])), (kw, .inl (k1, 20, .inr (.inl kgw))), (kf, .inl (k2, 20, .inl kgf2)), (pnam, .inl (nk, 24, .inr (.inl gn2))), (gfu, .inr (3, [.ref fw, .ref fe, .ref ff, .int fz])), (fw, .inl (f1, 30, .inr (.inl fgw))), (fe, .inl (f2, 30, .inl fge)), (ff, .inl (f3, 150, .inl fgf2))]) (va_A [(h0, .inr (7, [.ref ptok, .ref pnee, .ref pnam, .int ar, .ref pbui, .ref pdra, .int fu, .int fn, .int fp])), (ptok, .inr (10, [.ref ts, .ref tp, .ref tw, .int z, .int pa, .int so, .int pl, .long wd])), (ts, .inl (t1, 2001, .inl gs)), (tp, .inl (t2, 2001, .inl gp)), (tw, .inl (t3, 2001, .inr (.inl gw))), (pdra, .inr (9, [.ref gco, .ref gar, .ref gki, .ref gfu])), (gki, .inr (4, [.ref kw, .ref kf, .int kz])), (kw, .inl (k1, 20, .inr (.inl kgw))), (kf, .inl (k2, 20, .inl kgf)), (pnam, .inl (nk, 24, .inr (.inl gn))), (gfu, .inr (3, [.ref fw, .ref fe, .ref ff, .int fz])), (fw, .inl (f1, 30, .inr (.inl fgw))), (fe, .inl (f2, 30, .inl fge)), (ff, .inl (f3, 150, .inl fgf))] sz)) (vx_X (fun u : Int32 × Int32 × Int32 × Int64 × Int32 × (Nat → Int64) × (Nat → Int32) × Int32 × Int32 => match u with | (pa2, so2, pl2, wd2, ar2, gn2, fgf2, fn2, fp2) => (0 ≤ pa2.toInt) ∧ (pa2.toInt ≤ z.toInt) ∧ (0 ≤ ar2.toInt) ∧ (ar2.toInt ≤ 24) ∧ (so2.toInt = 256 ∨ pa2.toInt < z.toInt) ∧ (pa.toInt ≤ pa2.toInt) ∧ (ar.toInt ≤ ar2.toInt) ∧ (Int32.toInt fp2 = pf_pa gs gp gw gN (Int32.toNatClampNeg pa)) ∧ (sp_pq gs gw gN (Int32.toNatClampNeg ki) (Int32.toNatClampNeg pa) kgf none)) (fun E u t => E = "java/lang/IllegalStateException" ∧ (match u with | (pa2, so2, pl2, wd2, ar2, gn2, fgf2, fn2, fp2) => zQ dC dI (va_A [(h0, .inr (7, [.ref ptok, .ref pnee, .ref pnam, .int ar, .ref pbui, .ref pdra, .int fu, .int fn, .int fp])), (ptok, .inr (10, [.ref ts, .ref tp, .ref tw, .int z, .int pa, .int so, .int pl, .long wd])), (ts, .inl (t1, 2001, .inl gs)), (tp, .inl (t2, 2001, .inl gp)), (tw, .inl (t3, 2001, .inr (.inl gw))), (pdra, .inr (9, [.ref gco, .ref gar, .ref gki, .ref gfu])), (gki, .inr (4, [.ref kw, .ref kf, .int kz])), (kw, .inl (k1, 20, .inr (.inl kgw))), (kf, .inl (k2, 20, .inl kgf)), (pnam, .inl (nk, 24, .inr (.inl gn))), (gfu, .inr (3, [.ref fw, .ref fe, .ref ff, .int fz])), (fw, .inl (f1, 30, .inr (.inl fgw))), (fe, .inl (f2, 30, .inl fge)), (ff, .inl (f3, 150, .inl fgf))] sz) [(t1, .int), (t2, .int), (t3, .long), (k1, .long), (k2, .int), (nk, .long), (f1, .long), (f2, .int), (f3, .int)] [(h0, .inr (7, [.ref ptok, .ref pnee, .ref pnam, .int ar2, .ref pbui, .ref pdra, .int fu, .int fn2, .int fp2])), (ptok, .inr (10, [.ref ts, .ref tp, .ref tw, .int z, .int pa2, .int so2, .int pl2, .long wd2])), (ts, .inl (t1, 2001, .inl gs)), (tp, .inl (t2, 2001, .inl gp)), (tw, .inl (t3, 2001, .inr (.inl gw))), (pdra, .inr (9, [.ref gco, .ref gar, .ref gki, .ref gfu])), (gki, .inr (4, [.ref kw, .ref kf, .int kz])), (kw, .inl (k1, 20, .inr (.inl kgw))), (kf, .inl (k2, 20, .inl kgf)), (pnam, .inl (nk, 24, .inr (.inl gn2))), (gfu, .inr (3, [.ref fw, .ref fe, .ref ff, .int fz])), (fw, .inl (f1, 30, .inr (.inl fgw))), (fe, .inl (f2, 30, .inl fge)), (ff, .inl (f3, 150, .inl fgf2))] t)) (va_A [(h0, .inr (7, [.ref ptok, .ref pnee, .ref pnam, .int ar, .ref pbui, .ref pdra, .int fu, .int fn, .int fp])), (ptok, .inr (10, [.ref ts, .ref tp, .ref tw, .int z, .int pa, .int so, .int pl, .long wd])), (ts, .inl (t1, 2001, .inl gs)), (tp, .inl (t2, 2001, .inl gp)), (tw, .inl (t3, 2001, .inr (.inl gw))), (pdra, .inr (9, [.ref gco, .ref gar, .ref gki, .ref gfu])), (gki, .inr (4, [.ref kw, .ref kf, .int kz])), (kw, .inl (k1, 20, .inr (.inl kgw))), (kf, .inl (k2, 20, .inl kgf)), (pnam, .inl (nk, 24, .inr (.inl gn))), (gfu, .inr (3, [.ref fw, .ref fe, .ref ff, .int fz])), (fw, .inl (f1, 30, .inr (.inl fgw))), (fe, .inl (f2, 30, .inl fge)), (ff, .inl (f3, 150, .inl fgf))] sz)) 0 0 1 6 (va_A [(h0, .inr (7, [.ref ptok, .ref pnee, .ref pnam, .int ar, .ref pbui, .ref pdra, .int fu, .int fn, .int fp])), (ptok, .inr (10, [.ref ts, .ref tp, .ref tw, .int z, .int pa, .int so, .int pl, .long wd])), (ts, .inl (t1, 2001, .inl gs)), (tp, .inl (t2, 2001, .inl gp)), (tw, .inl (t3, 2001, .inr (.inl gw))), (pdra, .inr (9, [.ref gco, .ref gar, .ref gki, .ref gfu])), (gki, .inr (4, [.ref kw, .ref kf, .int kz])), (kw, .inl (k1, 20, .inr (.inl kgw))), (kf, .inl (k2, 20, .inl kgf)), (pnam, .inl (nk, 24, .inr (.inl gn))), (gfu, .inr (3, [.ref fw, .ref fe, .ref ff, .int fz])), (fw, .inl (f1, 30, .inr (.inl fgw))), (fe, .inl (f2, 30, .inl fge)), (ff, .inl (f3, 150, .inl fgf))] sz) := by
  refine vy_ofW (cc := cX7_pattern) (maxL := 5) (ret := none) (by decide) rfl ?_
  intro p e s m args below meth c s₁ B hml hnh hv
  obtain ⟨rfl, hsz, hP, hK, hD0, hN, hT⟩ := hv
  have hx := B.exec
  have hb := B.bytes
  have hr := B.returns
  have hts := atoms_spec (ws := Cond.code yX7_pattern cX7_pattern 5 none :: zw) B.pre
  have hA : ∀ w ∈ zw, w.before _ s = true := fun w h => hts w (List.mem_cons_of_mem _ h)
  have hown : s.vm.findClass RX7 = some m.cls := findClass_of_methodNamed B.named
  have hlocks := B.notSynchronized
  subst hsz
  have hD := hD0.self (sz := s.heap.size)
  generalize hAe : va_A [(h0, .inr (7, [.ref ptok, .ref pnee, .ref pnam, .int ar, .ref pbui, .ref pdra, .int fu, .int fn, .int fp])), (ptok, .inr (10, [.ref ts, .ref tp, .ref tw, .int z, .int pa, .int so, .int pl, .long wd])), (ts, .inl (t1, 2001, .inl gs)), (tp, .inl (t2, 2001, .inl gp)), (tw, .inl (t3, 2001, .inr (.inl gw))), (pdra, .inr (9, [.ref gco, .ref gar, .ref gki, .ref gfu])), (gki, .inr (4, [.ref kw, .ref kf, .int kz])), (kw, .inl (k1, 20, .inr (.inl kgw))), (kf, .inl (k2, 20, .inl kgf)), (pnam, .inl (nk, 24, .inr (.inl gn))), (gfu, .inr (3, [.ref fw, .ref fe, .ref ff, .int fz])), (fw, .inl (f1, 30, .inr (.inl fgw))), (fe, .inl (f2, 30, .inl fge)), (ff, .inl (f3, 150, .inl fgf))] s.heap.size = A at hD hT ⊢
  have hAA : ∀ q : Nat, s.heap.size ≤ q → A q := fun q h => by rw [← hAe]; exact Or.inr h
  have hS : va_S A s.heap s.heap [] := va_S.rf
  have hl := lv_entry ([.ref h0, .int ki]) (n := 5) (Nat.le_of_ble_eq_true rfl)
  rw [lg_entry_eq]
  generalize (lg_sl ([.ref h0, .int ki]) ++ List.replicate (5 - (lg_sl ([.ref h0, .int ki])).length) Slot.unset).toArray = ls at hl ⊢
  have hl : lv_has ls 5 [(0, .ref h0), (1, .int ki)] := hl
  refine lv_aload_n hx hb dX7_pattern_0 rfl (lv_at hl 0 rfl) ?_
  have hppa : Int32.toInt (gp (Int32.toNatClampNeg pa)) = pl.toInt := by rw [hpt.2.1]
  refine va_get (D := (dC, dI)) (ci := 7) (v := .ref ptok) (C := RX7) (T := TX7) (N := 9) hx hb hA zin_X7 hown hK hP 0 rfl rfl 0 (by decide) (hA _ wi_387) (fun _ h9 => h9) rfl dX7_pattern_1 ?_
  refine va_get (D := (dC, dI)) (ci := 10) (v := .int pl) (C := RX10) (T := TX10) (N := 8) hx hb hA zin_X10 hown hK hP 1 rfl rfl 6 (by decide) (hA _ wi_355) (fun _ h9 => h9) rfl dX7_pattern_4 ?_
  refine lv_istore_n (lv' := [(2, .int pl), (0, .ref h0), (1, .int ki)]) hx hb dX7_pattern_7 rfl hl (by decide) rfl (fun ls hl => ?_)
  refine lv_iconst (v := 0) hx hb dX7_pattern_8 (by decide) ?_
  refine lv_istore_n (lv' := [(3, .int 0), (2, .int pl), (0, .ref h0), (1, .int ki)]) hx hb dX7_pattern_9 rfl hl (by decide) rfl (fun ls hl => ?_)
  refine lv_aload_n hx hb dX7_pattern_10 rfl (lv_at hl 2 rfl) ?_
  refine va_get (D := (dC, dI)) (ci := 7) (v := .ref ptok) (C := RX7) (T := TX7) (N := 9) hx hb hA zin_X7 hown hK hP 0 rfl rfl 0 (by decide) (hA _ wi_387) (fun _ h9 => h9) rfl dX7_pattern_11 ?_
  have hPc := hP.sub (ws' := [(ptok, .inr (10, [.ref ts, .ref tp, .ref tw, .int z, .int pa, .int so, .int pl, .long wd])), (ts, .inl (t1, 2001, .inl gs)), (tp, .inl (t2, 2001, .inl gp)), (tw, .inl (t3, 2001, .inr (.inl gw)))]) [1, 2, 3, 4] rfl
  have hDc := hD.sub (ws' := [(ptok, .inr (10, [.ref ts, .ref tp, .ref tw, .int z, .int pa, .int so, .int pl, .long wd])), (ts, .inl (t1, 2001, .inl gs)), (tp, .inl (t2, 2001, .inl gp)), (tw, .inl (t3, 2001, .inr (.inl gw)))]) [1, 2, 3, 4] (by decide) rfl
  have hKc := hK.sub (tys' := [(t1, .int), (t2, .int), (t3, .long)]) [0, 1, 2] rfl
  have hFc := va_free (wc := [(ptok, .inr (10, [.ref ts, .ref tp, .ref tw, .int z, .int pa, .int so, .int pl, .long wd])), (ts, .inl (t1, 2001, .inl gs)), (tp, .inl (t2, 2001, .inl gp)), (tw, .inl (t3, 2001, .inr (.inl gw)))]) hD hS hAA [1, 2, 3, 4] rfl
  refine va_callv (va_runV (As := []) (rest := []) ⟨hx, hb, hml, hown, hA⟩ (c_X10_advance_s l dC dI aK aV ptok ts tp tw t1 t2 t3 z pa so pl wd gs gp gw s.heap.size (by omega) (by omega) (by omega) (by omega) hgz hpt) (cwV 0 hA (zw_V wi_881 wi_775 wi_776 wi_137 (zw_good wi_777)) rfl rfl rfl (by decide +kernel) ⟨(Nat.le_of_ble_eq_true rfl), (Nat.le_of_ble_eq_true rfl)⟩) ⟨zP_blind, va_recv hKc hPc (ci := 10) (q0 := 0) rfl rfl, zz_pre hKc hPc hDc hN hT hS hFc⟩ rfl rfl hl.1 rfl (lv_room (Nat.le_of_ble_eq_true rfl)) dX7_pattern_14 ⟨(Nat.le_of_ble_eq_true rfl), (Nat.le_of_ble_eq_true rfl)⟩) hS (fun q _ h => hFc q h) hFc (fun u t H1 locs ht hvm hw hB hz1 hk1 hS => ?_)
  obtain ⟨pa_2, so_3, pl_4, wd_5⟩ := u
  obtain ⟨hP1, hK1, hD1⟩ := hB
  rw [ht] at hP1
  have hK1 := va_K.moved hvm.symm hK1
  obtain ⟨hP, hD⟩ := va_join (wr := [(h0, .inr (7, [.ref ptok, .ref pnee, .ref pnam, .int ar, .ref pbui, .ref pdra, .int fu, .int fn, .int fp])), (pdra, .inr (9, [.ref gco, .ref gar, .ref gki, .ref gfu])), (gki, .inr (4, [.ref kw, .ref kf, .int kz])), (kw, .inl (k1, 20, .inr (.inl kgw))), (kf, .inl (k2, 20, .inl kgf)), (pnam, .inl (nk, 24, .inr (.inl gn))), (gfu, .inr (3, [.ref fw, .ref fe, .ref ff, .int fz])), (fw, .inl (f1, 30, .inr (.inl fgw))), (fe, .inl (f2, 30, .inl fge)), (ff, .inl (f3, 150, .inl fgf))]) (w1 := [(ptok, .inr (10, [.ref ts, .ref tp, .ref tw, .int z, .int pa_2, .int so_3, .int pl_4, .long wd_5])), (ts, .inl (t1, 2001, .inl gs)), (tp, .inl (t2, 2001, .inl gp)), (tw, .inl (t3, 2001, .inr (.inl gw)))]) hP hD [1, 2, 3, 4] [0, 5, 6, 7, 8, 9, 10, 11, 12, 13] rfl rfl (by decide) (by decide) hk1 hFc hP1 hD1
  have hK := (hK.sub (tys' := [(k1, .long), (k2, .int), (nk, .long), (f1, .long), (f2, .int), (f3, .int)]) [3, 4, 5, 6, 7, 8] rfl).app hK1
  generalize H1 = H at hP hS ⊢
  have hP : va_P (dC, dI) vwCl [(h0, .inr (7, [.ref ptok, .ref pnee, .ref pnam, .int ar, .ref pbui, .ref pdra, .int fu, .int fn, .int fp])), (pdra, .inr (9, [.ref gco, .ref gar, .ref gki, .ref gfu])), (gki, .inr (4, [.ref kw, .ref kf, .int kz])), (kw, .inl (k1, 20, .inr (.inl kgw))), (kf, .inl (k2, 20, .inl kgf)), (pnam, .inl (nk, 24, .inr (.inl gn))), (gfu, .inr (3, [.ref fw, .ref fe, .ref ff, .int fz])), (fw, .inl (f1, 30, .inr (.inl fgw))), (fe, .inl (f2, 30, .inl fge)), (ff, .inl (f3, 150, .inl fgf)), (ptok, .inr (10, [.ref ts, .ref tp, .ref tw, .int z, .int pa_2, .int so_3, .int pl_4, .long wd_5])), (ts, .inl (t1, 2001, .inl gs)), (tp, .inl (t2, 2001, .inl gp)), (tw, .inl (t3, 2001, .inr (.inl gw)))] H := hP
  have hD : va_D A [(h0, .inr (7, [.ref ptok, .ref pnee, .ref pnam, .int ar, .ref pbui, .ref pdra, .int fu, .int fn, .int fp])), (pdra, .inr (9, [.ref gco, .ref gar, .ref gki, .ref gfu])), (gki, .inr (4, [.ref kw, .ref kf, .int kz])), (kw, .inl (k1, 20, .inr (.inl kgw))), (kf, .inl (k2, 20, .inl kgf)), (pnam, .inl (nk, 24, .inr (.inl gn))), (gfu, .inr (3, [.ref fw, .ref fe, .ref ff, .int fz])), (fw, .inl (f1, 30, .inr (.inl fgw))), (fe, .inl (f2, 30, .inl fge)), (ff, .inl (f3, 150, .inl fgf)), (ptok, .inr (10, [.ref ts, .ref tp, .ref tw, .int z, .int pa_2, .int so_3, .int pl_4, .long wd_5])), (ts, .inl (t1, 2001, .inl gs)), (tp, .inl (t2, 2001, .inl gp)), (tw, .inl (t3, 2001, .inr (.inl gw)))] := hD
  have hK : va_K (dC, dI) vwCl [(k1, .long), (k2, .int), (nk, .long), (f1, .long), (f2, .int), (f3, .int), (t1, .int), (t2, .int), (t3, .long)] s := hK
  obtain ⟨hq_6, hq_7, hq_8, hq_9, hq_10, hq_11, hq_12, hq_13, hq_14, hq_15⟩ := hw
  have htpa_2 : Int32.toInt (gs (Int32.toNatClampNeg pa_2)) = so_3.toInt := by rw [hq_11.2.2]
  have hppa_2 : Int32.toInt (gp (Int32.toNatClampNeg pa_2)) = pl_4.toInt := by rw [hq_11.2.1]
  have hnpa_2 : Int32.toNatClampNeg pa_2 = Int32.toNatClampNeg pa + 1 := zn_1 (by omega) (by omega)
  refine lv_aload_n hx hb dX7_pattern_17 rfl (lv_at hl 2 rfl) ?_
  refine va_get (D := (dC, dI)) (ci := 7) (v := .ref ptok) (C := RX7) (T := TX7) (N := 9) hx hb hA zin_X7 hown hK hP 0 rfl rfl 0 (by decide) (hA _ wi_387) (fun _ h9 => h9) rfl dX7_pattern_18 ?_
  refine va_get (D := (dC, dI)) (ci := 10) (v := .int so_3) (C := RX10) (T := TX10) (N := 8) hx hb hA zin_X10 hown hK hP 10 rfl rfl 5 (by decide) (hA _ wi_353) (fun _ h9 => h9) rfl dX7_pattern_21 ?_
  refine lv_bipush (v := 40) hx hb dX7_pattern_24 (by decide) ?_
  refine lv_icmp_ne (tgt := 112) hx hb dX7_pattern_26 (by decide) (fun c_16 => ?_) (fun c_16 => ?_)
  · have ic_16 : so_3.toInt ≠ 40 := zi_ne c_16
    refine lv_aload_n hx hb dX7_pattern_112 rfl (lv_at hl 2 rfl) ?_
    refine lv_iload_n hx hb dX7_pattern_113 rfl (lv_at hl 3 rfl) ?_
    refine lv_iload_n hx hb dX7_pattern_114 rfl (lv_at hl 0 rfl) ?_
    refine lv_iload_n hx hb dX7_pattern_115 rfl (lv_at hl 1 rfl) ?_
    have hPc := hP.sub (ws' := [(h0, .inr (7, [.ref ptok, .ref pnee, .ref pnam, .int ar, .ref pbui, .ref pdra, .int fu, .int fn, .int fp])), (pdra, .inr (9, [.ref gco, .ref gar, .ref gki, .ref gfu])), (gki, .inr (4, [.ref kw, .ref kf, .int kz])), (kw, .inl (k1, 20, .inr (.inl kgw))), (kf, .inl (k2, 20, .inl kgf))]) [0, 1, 2, 3, 4] rfl
    have hDc := hD.sub (ws' := [(h0, .inr (7, [.ref ptok, .ref pnee, .ref pnam, .int ar, .ref pbui, .ref pdra, .int fu, .int fn, .int fp])), (pdra, .inr (9, [.ref gco, .ref gar, .ref gki, .ref gfu])), (gki, .inr (4, [.ref kw, .ref kf, .int kz])), (kw, .inl (k1, 20, .inr (.inl kgw))), (kf, .inl (k2, 20, .inl kgf))]) [0, 1, 2, 3, 4] (by decide) rfl
    have hKc := hK.sub (tys' := [(k1, .long), (k2, .int)]) [0, 1] rfl
    have hFc := va_free (wc := [(h0, .inr (7, [.ref ptok, .ref pnee, .ref pnam, .int ar, .ref pbui, .ref pdra, .int fu, .int fn, .int fp])), (pdra, .inr (9, [.ref gco, .ref gar, .ref gki, .ref gfu])), (gki, .inr (4, [.ref kw, .ref kf, .int kz])), (kw, .inl (k1, 20, .inr (.inl kgw))), (kf, .inl (k2, 20, .inl kgf))]) hD hS hAA [0, 1, 2, 3, 4] rfl
    refine vy_callv (vy_runV (As := [.int ki, .int 0, .int pl]) (rest := []) ⟨hx, hb, hml, hown, hA⟩ (c_X7_toldToEnd_s l dC dI aK aV h0 ptok pnee pnam pbui pdra ar fu fn fp gco gar gki gfu kw kf k1 k2 kz kgw kgf ki 0 pl H.size hlt (by omega) (by omega) hkf (by omega) (by omega) (by have h9_0 : Int32.toInt 0 = 0 := (by decide); omega) (by have h9_0 : Int32.toInt 0 = 0 := (by decide); omega)) (cwV 3 hA (zw_V wi_974 wi_976 wi_22 wi_136 (zw_good wi_977)) rfl rfl rfl (by decide +kernel) ⟨(Nat.le_of_ble_eq_true rfl), (Nat.le_of_ble_eq_true rfl)⟩) ⟨zP_blind, va_recv hKc hPc (ci := 7) (q0 := 0) rfl rfl, zz_pre hKc hPc hDc hN hT hS hFc⟩ rfl rfl hl.1 rfl (lv_room (Nat.le_of_ble_eq_true rfl)) dX7_pattern_116 ⟨(Nat.le_of_ble_eq_true rfl), (Nat.le_of_ble_eq_true rfl)⟩) hS (fun q _ h => hFc q h) hFc (fun q _ h => hFc q h) (fun E9 ce9 q9 u t H1 locs ht hvm hw hB hz1 hk1 hS hcell hcv hcl => ?_) (fun u t H1 locs ht hvm hw hB hz1 hk1 hS => ?_)
    · obtain ⟨x_fn2_18, x_fp2_19⟩ := u
      obtain ⟨rfl, hP1, hK1, hD1⟩ := hB
      rw [ht] at hP1
      have hK1 := va_K.moved hvm.symm hK1
      obtain ⟨hP, hD⟩ := va_join (wr := [(pnam, .inl (nk, 24, .inr (.inl gn))), (gfu, .inr (3, [.ref fw, .ref fe, .ref ff, .int fz])), (fw, .inl (f1, 30, .inr (.inl fgw))), (fe, .inl (f2, 30, .inl fge)), (ff, .inl (f3, 150, .inl fgf)), (ptok, .inr (10, [.ref ts, .ref tp, .ref tw, .int z, .int pa_2, .int so_3, .int pl_4, .long wd_5])), (ts, .inl (t1, 2001, .inl gs)), (tp, .inl (t2, 2001, .inl gp)), (tw, .inl (t3, 2001, .inr (.inl gw)))]) (w1 := [(h0, .inr (7, [.ref ptok, .ref pnee, .ref pnam, .int ar, .ref pbui, .ref pdra, .int fu, .int x_fn2_18, .int x_fp2_19])), (pdra, .inr (9, [.ref gco, .ref gar, .ref gki, .ref gfu])), (gki, .inr (4, [.ref kw, .ref kf, .int kz])), (kw, .inl (k1, 20, .inr (.inl kgw))), (kf, .inl (k2, 20, .inl kgf))]) hP hD [0, 1, 2, 3, 4] [5, 6, 7, 8, 9, 10, 11, 12, 13] rfl rfl (by decide) (by decide) hk1 hFc hP1 hD1
      have hK := (hK.sub (tys' := [(nk, .long), (f1, .long), (f2, .int), (f3, .int), (t1, .int), (t2, .int), (t3, .long)]) [2, 3, 4, 5, 6, 7, 8] rfl).app hK1
      clear hPc hDc hFc hP1 hD1 hk1 hz1 ht hvm
      generalize H1 = H at hP hS hcell ⊢
      have hP : va_P (dC, dI) vwCl [(pnam, .inl (nk, 24, .inr (.inl gn))), (gfu, .inr (3, [.ref fw, .ref fe, .ref ff, .int fz])), (fw, .inl (f1, 30, .inr (.inl fgw))), (fe, .inl (f2, 30, .inl fge)), (ff, .inl (f3, 150, .inl fgf)), (ptok, .inr (10, [.ref ts, .ref tp, .ref tw, .int z, .int pa_2, .int so_3, .int pl_4, .long wd_5])), (ts, .inl (t1, 2001, .inl gs)), (tp, .inl (t2, 2001, .inl gp)), (tw, .inl (t3, 2001, .inr (.inl gw))), (h0, .inr (7, [.ref ptok, .ref pnee, .ref pnam, .int ar, .ref pbui, .ref pdra, .int fu, .int x_fn2_18, .int x_fp2_19])), (pdra, .inr (9, [.ref gco, .ref gar, .ref gki, .ref gfu])), (gki, .inr (4, [.ref kw, .ref kf, .int kz])), (kw, .inl (k1, 20, .inr (.inl kgw))), (kf, .inl (k2, 20, .inl kgf))] H := hP
      have hD : va_D A [(pnam, .inl (nk, 24, .inr (.inl gn))), (gfu, .inr (3, [.ref fw, .ref fe, .ref ff, .int fz])), (fw, .inl (f1, 30, .inr (.inl fgw))), (fe, .inl (f2, 30, .inl fge)), (ff, .inl (f3, 150, .inl fgf)), (ptok, .inr (10, [.ref ts, .ref tp, .ref tw, .int z, .int pa_2, .int so_3, .int pl_4, .long wd_5])), (ts, .inl (t1, 2001, .inl gs)), (tp, .inl (t2, 2001, .inl gp)), (tw, .inl (t3, 2001, .inr (.inl gw))), (h0, .inr (7, [.ref ptok, .ref pnee, .ref pnam, .int ar, .ref pbui, .ref pdra, .int fu, .int x_fn2_18, .int x_fp2_19])), (pdra, .inr (9, [.ref gco, .ref gar, .ref gki, .ref gfu])), (gki, .inr (4, [.ref kw, .ref kf, .int kz])), (kw, .inl (k1, 20, .inr (.inl kgw))), (kf, .inl (k2, 20, .inl kgf))] := hD
      have hK : va_K (dC, dI) vwCl [(nk, .long), (f1, .long), (f2, .int), (f3, .int), (t1, .int), (t2, .int), (t3, .long), (k1, .long), (k2, .int)] s := hK
      obtain ⟨hq_20, hq_21⟩ := hw
      try dsimp only at hq_20 hq_21
      refine vx_widen (k := 1) (n := 6) (Nat.le_of_ble_eq_true rfl) (Nat.le_of_ble_eq_true rfl) ?_
      have hP9 := hP.sub (ws' := [(h0, .inr (7, [.ref ptok, .ref pnee, .ref pnam, .int ar, .ref pbui, .ref pdra, .int fu, .int x_fn2_18, .int x_fp2_19])), (ptok, .inr (10, [.ref ts, .ref tp, .ref tw, .int z, .int pa_2, .int so_3, .int pl_4, .long wd_5])), (ts, .inl (t1, 2001, .inl gs)), (tp, .inl (t2, 2001, .inl gp)), (tw, .inl (t3, 2001, .inr (.inl gw))), (pdra, .inr (9, [.ref gco, .ref gar, .ref gki, .ref gfu])), (gki, .inr (4, [.ref kw, .ref kf, .int kz])), (kw, .inl (k1, 20, .inr (.inl kgw))), (kf, .inl (k2, 20, .inl kgf)), (pnam, .inl (nk, 24, .inr (.inl gn))), (gfu, .inr (3, [.ref fw, .ref fe, .ref ff, .int fz])), (fw, .inl (f1, 30, .inr (.inl fgw))), (fe, .inl (f2, 30, .inl fge)), (ff, .inl (f3, 150, .inl fgf))]) [9, 5, 6, 7, 8, 10, 11, 12, 13, 0, 1, 2, 3, 4] rfl
      have hD9 := hD.sub (ws' := [(h0, .inr (7, [.ref ptok, .ref pnee, .ref pnam, .int ar, .ref pbui, .ref pdra, .int fu, .int x_fn2_18, .int x_fp2_19])), (ptok, .inr (10, [.ref ts, .ref tp, .ref tw, .int z, .int pa_2, .int so_3, .int pl_4, .long wd_5])), (ts, .inl (t1, 2001, .inl gs)), (tp, .inl (t2, 2001, .inl gp)), (tw, .inl (t3, 2001, .inr (.inl gw))), (pdra, .inr (9, [.ref gco, .ref gar, .ref gki, .ref gfu])), (gki, .inr (4, [.ref kw, .ref kf, .int kz])), (kw, .inl (k1, 20, .inr (.inl kgw))), (kf, .inl (k2, 20, .inl kgf)), (pnam, .inl (nk, 24, .inr (.inl gn))), (gfu, .inr (3, [.ref fw, .ref fe, .ref ff, .int fz])), (fw, .inl (f1, 30, .inr (.inl fgw))), (fe, .inl (f2, 30, .inl fge)), (ff, .inl (f3, 150, .inl fgf))]) [9, 5, 6, 7, 8, 10, 11, 12, 13, 0, 1, 2, 3, 4] (by decide) rfl
      have hK9 := hK.sub (tys' := [(t1, .int), (t2, .int), (t3, .long), (k1, .long), (k2, .int), (nk, .long), (f1, .long), (f2, .int), (f3, .int)]) [4, 5, 6, 7, 8, 0, 1, 2, 3] rfl
      exact vy_monoX vy_thr (vx_out (fun x hx => (hnh x hx).elim) hlocks hcell hcv hcl (fun t ht hvm => ⟨(pa_2, so_3, pl_4, wd_5, ar, gn, fgf, x_fn2_18, x_fp2_19), ⟨by omega, by omega, by omega, by omega, by omega, by omega, by omega, (show Int32.toInt x_fp2_19 = Int32.toInt (gp (Int32.toNatClampNeg pa)) by omega).trans (pf_pa_n hnpa_2 (by omega)).symm, sp_pq_nx hnpa_2 (by omega) (by decide) hq_21⟩, ⟨rfl, by rw [ht]; exact hP9, va_K.moved hvm hK9, hD9⟩, hS.F ht⟩) hS.2.2 (Nat.le_of_ble_eq_true rfl) (Nat.le_of_ble_eq_true rfl))
    · obtain ⟨y_kgf2_22, rfl⟩ : ∃ z, z = u := ⟨_, rfl⟩
      obtain ⟨hP1, hK1, hD1⟩ := hB
      rw [ht] at hP1
      have hK1 := va_K.moved hvm.symm hK1
      obtain ⟨hP, hD⟩ := va_join (wr := [(pnam, .inl (nk, 24, .inr (.inl gn))), (gfu, .inr (3, [.ref fw, .ref fe, .ref ff, .int fz])), (fw, .inl (f1, 30, .inr (.inl fgw))), (fe, .inl (f2, 30, .inl fge)), (ff, .inl (f3, 150, .inl fgf)), (ptok, .inr (10, [.ref ts, .ref tp, .ref tw, .int z, .int pa_2, .int so_3, .int pl_4, .long wd_5])), (ts, .inl (t1, 2001, .inl gs)), (tp, .inl (t2, 2001, .inl gp)), (tw, .inl (t3, 2001, .inr (.inl gw)))]) (w1 := [(h0, .inr (7, [.ref ptok, .ref pnee, .ref pnam, .int ar, .ref pbui, .ref pdra, .int fu, .int fn, .int fp])), (pdra, .inr (9, [.ref gco, .ref gar, .ref gki, .ref gfu])), (gki, .inr (4, [.ref kw, .ref kf, .int kz])), (kw, .inl (k1, 20, .inr (.inl kgw))), (kf, .inl (k2, 20, .inl y_kgf2_22))]) hP hD [0, 1, 2, 3, 4] [5, 6, 7, 8, 9, 10, 11, 12, 13] rfl rfl (by decide) (by decide) hk1 hFc hP1 hD1
      have hK := (hK.sub (tys' := [(nk, .long), (f1, .long), (f2, .int), (f3, .int), (t1, .int), (t2, .int), (t3, .long)]) [2, 3, 4, 5, 6, 7, 8] rfl).app hK1
      clear hPc hDc hFc hP1 hD1 hk1 hz1 ht hvm
      generalize H1 = H at hP hS ⊢
      have hP : va_P (dC, dI) vwCl [(pnam, .inl (nk, 24, .inr (.inl gn))), (gfu, .inr (3, [.ref fw, .ref fe, .ref ff, .int fz])), (fw, .inl (f1, 30, .inr (.inl fgw))), (fe, .inl (f2, 30, .inl fge)), (ff, .inl (f3, 150, .inl fgf)), (ptok, .inr (10, [.ref ts, .ref tp, .ref tw, .int z, .int pa_2, .int so_3, .int pl_4, .long wd_5])), (ts, .inl (t1, 2001, .inl gs)), (tp, .inl (t2, 2001, .inl gp)), (tw, .inl (t3, 2001, .inr (.inl gw))), (h0, .inr (7, [.ref ptok, .ref pnee, .ref pnam, .int ar, .ref pbui, .ref pdra, .int fu, .int fn, .int fp])), (pdra, .inr (9, [.ref gco, .ref gar, .ref gki, .ref gfu])), (gki, .inr (4, [.ref kw, .ref kf, .int kz])), (kw, .inl (k1, 20, .inr (.inl kgw))), (kf, .inl (k2, 20, .inl y_kgf2_22))] H := hP
      have hD : va_D A [(pnam, .inl (nk, 24, .inr (.inl gn))), (gfu, .inr (3, [.ref fw, .ref fe, .ref ff, .int fz])), (fw, .inl (f1, 30, .inr (.inl fgw))), (fe, .inl (f2, 30, .inl fge)), (ff, .inl (f3, 150, .inl fgf)), (ptok, .inr (10, [.ref ts, .ref tp, .ref tw, .int z, .int pa_2, .int so_3, .int pl_4, .long wd_5])), (ts, .inl (t1, 2001, .inl gs)), (tp, .inl (t2, 2001, .inl gp)), (tw, .inl (t3, 2001, .inr (.inl gw))), (h0, .inr (7, [.ref ptok, .ref pnee, .ref pnam, .int ar, .ref pbui, .ref pdra, .int fu, .int fn, .int fp])), (pdra, .inr (9, [.ref gco, .ref gar, .ref gki, .ref gfu])), (gki, .inr (4, [.ref kw, .ref kf, .int kz])), (kw, .inl (k1, 20, .inr (.inl kgw))), (kf, .inl (k2, 20, .inl y_kgf2_22))] := hD
      have hK : va_K (dC, dI) vwCl [(nk, .long), (f1, .long), (f2, .int), (f3, .int), (t1, .int), (t2, .int), (t3, .long), (k1, .long), (k2, .int)] s := hK
      refine W.widen (k := 0) (n := 0) (Nat.le_of_ble_eq_true rfl) (Nat.le_of_ble_eq_true rfl) ?_
      obtain ⟨hq_23, hq_24, hq_25, hq_26⟩ := hw
      have hP9 := hP.sub (ws' := [(h0, .inr (7, [.ref ptok, .ref pnee, .ref pnam, .int ar, .ref pbui, .ref pdra, .int fu, .int fn, .int fp])), (ptok, .inr (10, [.ref ts, .ref tp, .ref tw, .int z, .int pa_2, .int so_3, .int pl_4, .long wd_5])), (ts, .inl (t1, 2001, .inl gs)), (tp, .inl (t2, 2001, .inl gp)), (tw, .inl (t3, 2001, .inr (.inl gw))), (pdra, .inr (9, [.ref gco, .ref gar, .ref gki, .ref gfu])), (gki, .inr (4, [.ref kw, .ref kf, .int kz])), (kw, .inl (k1, 20, .inr (.inl kgw))), (kf, .inl (k2, 20, .inl y_kgf2_22)), (pnam, .inl (nk, 24, .inr (.inl gn))), (gfu, .inr (3, [.ref fw, .ref fe, .ref ff, .int fz])), (fw, .inl (f1, 30, .inr (.inl fgw))), (fe, .inl (f2, 30, .inl fge)), (ff, .inl (f3, 150, .inl fgf))]) [9, 5, 6, 7, 8, 10, 11, 12, 13, 0, 1, 2, 3, 4] rfl
      have hD9 := hD.sub (ws' := [(h0, .inr (7, [.ref ptok, .ref pnee, .ref pnam, .int ar, .ref pbui, .ref pdra, .int fu, .int fn, .int fp])), (ptok, .inr (10, [.ref ts, .ref tp, .ref tw, .int z, .int pa_2, .int so_3, .int pl_4, .long wd_5])), (ts, .inl (t1, 2001, .inl gs)), (tp, .inl (t2, 2001, .inl gp)), (tw, .inl (t3, 2001, .inr (.inl gw))), (pdra, .inr (9, [.ref gco, .ref gar, .ref gki, .ref gfu])), (gki, .inr (4, [.ref kw, .ref kf, .int kz])), (kw, .inl (k1, 20, .inr (.inl kgw))), (kf, .inl (k2, 20, .inl y_kgf2_22)), (pnam, .inl (nk, 24, .inr (.inl gn))), (gfu, .inr (3, [.ref fw, .ref fe, .ref ff, .int fz])), (fw, .inl (f1, 30, .inr (.inl fgw))), (fe, .inl (f2, 30, .inl fge)), (ff, .inl (f3, 150, .inl fgf))]) [9, 5, 6, 7, 8, 10, 11, 12, 13, 0, 1, 2, 3, 4] (by decide) rfl
      have hK9 := hK.sub (tys' := [(t1, .int), (t2, .int), (t3, .long), (k1, .long), (k2, .int), (nk, .long), (f1, .long), (f2, .int), (f3, .int)]) [4, 5, 6, 7, 8, 0, 1, 2, 3] rfl
      exact vy_mono vy_ret (vx_ret (W.vret hx hb hr (fun t ht hW => ⟨⟨(pa_2, so_3, pl_4, wd_5, ar, gn, fgf, y_kgf2_22), rfl, ⟨by omega, by omega, by omega, by omega, by omega, by omega, by omega, hq_23, (by rw [hq_24]; have h9 : Int32.toInt 0 = 0 := (by decide); omega), hq_25, by omega, by omega, zff_rf, hq_11, by omega, by omega, by omega, hq_15, (cF_w0 hnm0), ⟨[], by rw [List.append_nil]; exact hnl, by rw [List.append_nil]; exact sp_pq_n hnpa_2 (by omega) (by decide) hq_26⟩⟩, by rw [ht]; exact hP9, va_K.moved hW.alike hK9, hD9⟩, hS.F ht⟩) hS.2.2 dX7_pattern_119))
  · have ic_16 : so_3.toInt = 40 := zi_eq c_16
    refine lv_iconst (v := 1) hx hb dX7_pattern_29 (by decide) ?_
    refine lv_istore (lv' := [(4, .int 1), (3, .int 0), (2, .int pl), (0, .ref h0), (1, .int ki)]) hx hb dX7_pattern_30 hl (by decide) rfl (fun ls hl => ?_)
    have loop_32 : ∀ (n9 : Nat) (fi : Int32) (mo : Int32) (la : Int32) (lp : Int32) (ls_ : Int32) (ll : Int32) (lw : Int64) (lg : Nat → Int64) (lf : Nat → Int32) (H : Heap) (locs : List Loc) (ls : Array Slot), (3 - fi.toInt + 1).toNat ≤ n9 → 0 ≤ fi.toInt → fi.toInt ≤ 3 → la.toInt = ar.toInt + fi.toInt → pa.toInt = z.toInt ∨ pl.toInt + 1 ≤ ll.toInt → pl.toInt ≤ ll.toInt → pa.toInt = z.toInt ∨ pa.toInt < lp.toInt → lp.toInt < z.toInt ∨ mo.toInt = 0 → ls_.toInt = 256 ∨ lp.toInt < z.toInt → pa.toInt ≤ lp.toInt → ar.toInt ≤ la.toInt → 0 ≤ la.toInt → la.toInt ≤ 24 → 0 ≤ lp.toInt → lp.toInt ≤ z.toInt → la.toInt ≤ (lf (5 * Int32.toNatClampNeg fu + 1)).toInt → (lf (5 * Int32.toNatClampNeg fu + 1)).toInt ≤ 24 → zff fgf lf → zpt gs gp z lp ll ls_ → cF fgf lf (Int32.toNatClampNeg fu) 0 0 (Int32.toInt la) → sp_wd gw lp lw → sp_pl gs gp gw gN (Int32.toNatClampNeg pa + 1) lg la (Int32.toInt fi) (Int32.toInt mo) (Int32.toNatClampNeg lp) → va_P (dC, dI) vwCl [(h0, .inr (7, [.ref ptok, .ref pnee, .ref pnam, .int la, .ref pbui, .ref pdra, .int fu, .int fn, .int fp])), (pdra, .inr (9, [.ref gco, .ref gar, .ref gki, .ref gfu])), (gki, .inr (4, [.ref kw, .ref kf, .int kz])), (kw, .inl (k1, 20, .inr (.inl kgw))), (kf, .inl (k2, 20, .inl kgf)), (pnam, .inl (nk, 24, .inr (.inl lg))), (gfu, .inr (3, [.ref fw, .ref fe, .ref ff, .int fz])), (fw, .inl (f1, 30, .inr (.inl fgw))), (fe, .inl (f2, 30, .inl fge)), (ff, .inl (f3, 150, .inl lf)), (ptok, .inr (10, [.ref ts, .ref tp, .ref tw, .int z, .int lp, .int ls_, .int ll, .long lw])), (ts, .inl (t1, 2001, .inl gs)), (tp, .inl (t2, 2001, .inl gp)), (tw, .inl (t3, 2001, .inr (.inl gw)))] H → va_D A [(h0, .inr (7, [.ref ptok, .ref pnee, .ref pnam, .int la, .ref pbui, .ref pdra, .int fu, .int fn, .int fp])), (pdra, .inr (9, [.ref gco, .ref gar, .ref gki, .ref gfu])), (gki, .inr (4, [.ref kw, .ref kf, .int kz])), (kw, .inl (k1, 20, .inr (.inl kgw))), (kf, .inl (k2, 20, .inl kgf)), (pnam, .inl (nk, 24, .inr (.inl lg))), (gfu, .inr (3, [.ref fw, .ref fe, .ref ff, .int fz])), (fw, .inl (f1, 30, .inr (.inl fgw))), (fe, .inl (f2, 30, .inl fge)), (ff, .inl (f3, 150, .inl lf)), (ptok, .inr (10, [.ref ts, .ref tp, .ref tw, .int z, .int lp, .int ls_, .int ll, .long lw])), (ts, .inl (t1, 2001, .inl gs)), (tp, .inl (t2, 2001, .inl gp)), (tw, .inl (t3, 2001, .inr (.inl gw)))] → va_S A s.heap H locs → lv_has ls 5 [(4, .int mo), (3, .int fi), (2, .int pl), (0, .ref h0), (1, .int ki)] → W p l e (headSpec (Cond.code yX7_pattern cX7_pattern 5 none :: zw) ({ frames := 20, cells := 1, slots := 6, locals := 800 })).room s m #[.ref h0, .int ki] below meth c H locs 0 0 (vy_MQ below (va_Qv (fun u : Int32 × Int32 × Int32 × Int64 × Int32 × (Nat → Int64) × (Nat → Int32) × (Nat → Int32) => match u with | (pa2, so2, pl2, wd2, ar2, gn2, fgf2, kgf2) => (0 ≤ pa2.toInt) ∧ (pa2.toInt ≤ z.toInt) ∧ (0 ≤ ar2.toInt) ∧ (ar2.toInt ≤ 24) ∧ (so2.toInt = 256 ∨ pa2.toInt < z.toInt) ∧ (pa.toInt ≤ pa2.toInt) ∧ (ar.toInt ≤ ar2.toInt) ∧ (zx 4 kgf2) ∧ ((kgf2 (Int32.toNatClampNeg ki)).toInt = ar2.toInt - ar.toInt) ∧ (zkt kgf kgf2) ∧ (ar2.toInt ≤ (fgf2 (5 * Int32.toNatClampNeg fu + 1)).toInt) ∧ ((fgf2 (5 * Int32.toNatClampNeg fu + 1)).toInt ≤ 24) ∧ (zff fgf fgf2) ∧ (zpt gs gp z pa2 pl2 so2) ∧ (pl.toInt ≤ pl2.toInt) ∧ (pa.toInt = z.toInt ∨ pl.toInt + 1 ≤ pl2.toInt) ∧ (pa.toInt = z.toInt ∨ pa.toInt < pa2.toInt) ∧ (sp_wd gw pa2 wd2) ∧ (cF fgf fgf2 (Int32.toNatClampNeg fu) 0 0 (Int32.toInt ar2)) ∧ (∃ M : List Int64, sp_nl gn2 ar2 (gN ++ M) ∧ sp_pq gs gw gN (Int32.toNatClampNeg ki) (Int32.toNatClampNeg pa) kgf (some (gN ++ M, Int32.toNatClampNeg pa2, kgf2)))) (fun u => match u with | (pa2, so2, pl2, wd2, ar2, gn2, fgf2, kgf2) => zQ dC dI A [(t1, .int), (t2, .int), (t3, .long), (k1, .long), (k2, .int), (nk, .long), (f1, .long), (f2, .int), (f3, .int)] [(h0, .inr (7, [.ref ptok, .ref pnee, .ref pnam, .int ar2, .ref pbui, .ref pdra, .int fu, .int fn, .int fp])), (ptok, .inr (10, [.ref ts, .ref tp, .ref tw, .int z, .int pa2, .int so2, .int pl2, .long wd2])), (ts, .inl (t1, 2001, .inl gs)), (tp, .inl (t2, 2001, .inl gp)), (tw, .inl (t3, 2001, .inr (.inl gw))), (pdra, .inr (9, [.ref gco, .ref gar, .ref gki, .ref gfu])), (gki, .inr (4, [.ref kw, .ref kf, .int kz])), (kw, .inl (k1, 20, .inr (.inl kgw))), (kf, .inl (k2, 20, .inl kgf2)), (pnam, .inl (nk, 24, .inr (.inl gn2))), (gfu, .inr (3, [.ref fw, .ref fe, .ref ff, .int fz])), (fw, .inl (f1, 30, .inr (.inl fgw))), (fe, .inl (f2, 30, .inl fge)), (ff, .inl (f3, 150, .inl fgf2))]) A) (vx_X (fun u : Int32 × Int32 × Int32 × Int64 × Int32 × (Nat → Int64) × (Nat → Int32) × Int32 × Int32 => match u with | (pa2, so2, pl2, wd2, ar2, gn2, fgf2, fn2, fp2) => (0 ≤ pa2.toInt) ∧ (pa2.toInt ≤ z.toInt) ∧ (0 ≤ ar2.toInt) ∧ (ar2.toInt ≤ 24) ∧ (so2.toInt = 256 ∨ pa2.toInt < z.toInt) ∧ (pa.toInt ≤ pa2.toInt) ∧ (ar.toInt ≤ ar2.toInt) ∧ (Int32.toInt fp2 = pf_pa gs gp gw gN (Int32.toNatClampNeg pa)) ∧ (sp_pq gs gw gN (Int32.toNatClampNeg ki) (Int32.toNatClampNeg pa) kgf none)) (fun E u t => E = "java/lang/IllegalStateException" ∧ (match u with | (pa2, so2, pl2, wd2, ar2, gn2, fgf2, fn2, fp2) => zQ dC dI A [(t1, .int), (t2, .int), (t3, .long), (k1, .long), (k2, .int), (nk, .long), (f1, .long), (f2, .int), (f3, .int)] [(h0, .inr (7, [.ref ptok, .ref pnee, .ref pnam, .int ar2, .ref pbui, .ref pdra, .int fu, .int fn2, .int fp2])), (ptok, .inr (10, [.ref ts, .ref tp, .ref tw, .int z, .int pa2, .int so2, .int pl2, .long wd2])), (ts, .inl (t1, 2001, .inl gs)), (tp, .inl (t2, 2001, .inl gp)), (tw, .inl (t3, 2001, .inr (.inl gw))), (pdra, .inr (9, [.ref gco, .ref gar, .ref gki, .ref gfu])), (gki, .inr (4, [.ref kw, .ref kf, .int kz])), (kw, .inl (k1, 20, .inr (.inl kgw))), (kf, .inl (k2, 20, .inl kgf)), (pnam, .inl (nk, 24, .inr (.inl gn2))), (gfu, .inr (3, [.ref fw, .ref fe, .ref ff, .int fz])), (fw, .inl (f1, 30, .inr (.inl fgw))), (fe, .inl (f2, 30, .inl fge)), (ff, .inl (f3, 150, .inl fgf2))] t)) A) #[.ref h0, .int ki] s 0 0 1 6 A) (F0 m 32 ls []) := by
      intro n9
      induction n9 with
      | zero => intro fi mo la lp ls_ ll lw lg lf H locs ls hm hfi0 hfi1 hfia hpll hpll2 hpll3 hmoz hls hlpp hlaa hla0 hla1 hlp0 hlp1 hlnm hlnm1 hlff hlpt hlcf hlwd hlS; exfalso; omega
      | succ n9 ih =>
        intro fi mo la lp ls_ ll lw lg lf H locs ls hm hfi0 hfi1 hfia hpll hpll2 hpll3 hmoz hls hlpp hlaa hla0 hla1 hlp0 hlp1 hlnm hlnm1 hlff hlpt hlcf hlwd hlS hP hD hS hl
        have htlp : Int32.toInt (gs (Int32.toNatClampNeg lp)) = ls_.toInt := by rw [hlpt.2.2]
        have hplp : Int32.toInt (gp (Int32.toNatClampNeg lp)) = ll.toInt := by rw [hlpt.2.1]
        obtain ⟨lM, ln, hM1, hM2, hM3, hM4, hM5, hM6, hM7⟩ := hlS
        refine lv_iload hx hb dX7_pattern_32 (lv_at hl 0 rfl) ?_
        refine lv_if_eq (tgt := 106) hx hb dX7_pattern_34 (by decide) (fun c_27 => ?_) (fun c_27 => ?_)
        · have ic_27 : mo.toInt = 0 := zi_eq c_27
          have h9x : Int32.toInt 41 = 41 := (by decide)
          refine lv_aload_n hx hb dX7_pattern_106 rfl (lv_at hl 3 rfl) ?_
          refine lv_bipush (v := 41) hx hb dX7_pattern_107 (by decide) ?_
          have hPc := hP.sub (ws' := [(h0, .inr (7, [.ref ptok, .ref pnee, .ref pnam, .int la, .ref pbui, .ref pdra, .int fu, .int fn, .int fp])), (ptok, .inr (10, [.ref ts, .ref tp, .ref tw, .int z, .int lp, .int ls_, .int ll, .long lw])), (ts, .inl (t1, 2001, .inl gs)), (tp, .inl (t2, 2001, .inl gp)), (tw, .inl (t3, 2001, .inr (.inl gw)))]) [0, 10, 11, 12, 13] rfl
          have hDc := hD.sub (ws' := [(h0, .inr (7, [.ref ptok, .ref pnee, .ref pnam, .int la, .ref pbui, .ref pdra, .int fu, .int fn, .int fp])), (ptok, .inr (10, [.ref ts, .ref tp, .ref tw, .int z, .int lp, .int ls_, .int ll, .long lw])), (ts, .inl (t1, 2001, .inl gs)), (tp, .inl (t2, 2001, .inl gp)), (tw, .inl (t3, 2001, .inr (.inl gw)))]) [0, 10, 11, 12, 13] (by decide) rfl
          have hKc := hK.sub (tys' := [(t1, .int), (t2, .int), (t3, .long)]) [6, 7, 8] rfl
          have hFc := va_free (wc := [(h0, .inr (7, [.ref ptok, .ref pnee, .ref pnam, .int la, .ref pbui, .ref pdra, .int fu, .int fn, .int fp])), (ptok, .inr (10, [.ref ts, .ref tp, .ref tw, .int z, .int lp, .int ls_, .int ll, .long lw])), (ts, .inl (t1, 2001, .inl gs)), (tp, .inl (t2, 2001, .inl gp)), (tw, .inl (t3, 2001, .inr (.inl gw)))]) hD hS hAA [0, 10, 11, 12, 13] rfl
          refine vy_callv (vy_runV (As := [.int 41]) (rest := []) ⟨hx, hb, hml, hown, hA⟩ (c_X7_expect_s l dC dI aK aV h0 ptok pnee pnam pbui pdra la fu fn fp ts tp tw t1 t2 t3 z lp ls_ ll lw gs gp gw 41 H.size hlt (by omega) (by omega) (by omega) (by omega) hgz hlpt (by omega)) (cwV 1 hA (zw_V wi_873 wi_875 wi_7 wi_136 (zw_good wi_876)) rfl rfl rfl (by decide +kernel) ⟨(Nat.le_of_ble_eq_true rfl), (Nat.le_of_ble_eq_true rfl)⟩) ⟨zP_blind, va_recv hKc hPc (ci := 7) (q0 := 0) rfl rfl, zz_pre hKc hPc hDc hN hT hS hFc⟩ rfl rfl hl.1 rfl (lv_room (Nat.le_of_ble_eq_true rfl)) dX7_pattern_109 ⟨(Nat.le_of_ble_eq_true rfl), (Nat.le_of_ble_eq_true rfl)⟩) hS (fun q _ h => hFc q h) hFc (fun q _ h => hFc q h) (fun E9 ce9 q9 u t H1 locs ht hvm hw hB hz1 hk1 hS hcell hcv hcl => ?_) (fun u t H1 locs ht hvm hw hB hz1 hk1 hS => ?_)
          · obtain ⟨x_fn2_29, x_fp2_30⟩ := u
            obtain ⟨rfl, hP1, hK1, hD1⟩ := hB
            rw [ht] at hP1
            have hK1 := va_K.moved hvm.symm hK1
            obtain ⟨hP, hD⟩ := va_join (wr := [(pdra, .inr (9, [.ref gco, .ref gar, .ref gki, .ref gfu])), (gki, .inr (4, [.ref kw, .ref kf, .int kz])), (kw, .inl (k1, 20, .inr (.inl kgw))), (kf, .inl (k2, 20, .inl kgf)), (pnam, .inl (nk, 24, .inr (.inl lg))), (gfu, .inr (3, [.ref fw, .ref fe, .ref ff, .int fz])), (fw, .inl (f1, 30, .inr (.inl fgw))), (fe, .inl (f2, 30, .inl fge)), (ff, .inl (f3, 150, .inl lf))]) (w1 := [(h0, .inr (7, [.ref ptok, .ref pnee, .ref pnam, .int la, .ref pbui, .ref pdra, .int fu, .int x_fn2_29, .int x_fp2_30])), (ptok, .inr (10, [.ref ts, .ref tp, .ref tw, .int z, .int lp, .int ls_, .int ll, .long lw])), (ts, .inl (t1, 2001, .inl gs)), (tp, .inl (t2, 2001, .inl gp)), (tw, .inl (t3, 2001, .inr (.inl gw)))]) hP hD [0, 10, 11, 12, 13] [1, 2, 3, 4, 5, 6, 7, 8, 9] rfl rfl (by decide) (by decide) hk1 hFc hP1 hD1
            have hK := (hK.sub (tys' := [(k1, .long), (k2, .int), (nk, .long), (f1, .long), (f2, .int), (f3, .int)]) [0, 1, 2, 3, 4, 5] rfl).app hK1
            clear hPc hDc hFc hP1 hD1 hk1 hz1 ht hvm
            generalize H1 = H at hP hS hcell ⊢
            have hP : va_P (dC, dI) vwCl [(pdra, .inr (9, [.ref gco, .ref gar, .ref gki, .ref gfu])), (gki, .inr (4, [.ref kw, .ref kf, .int kz])), (kw, .inl (k1, 20, .inr (.inl kgw))), (kf, .inl (k2, 20, .inl kgf)), (pnam, .inl (nk, 24, .inr (.inl lg))), (gfu, .inr (3, [.ref fw, .ref fe, .ref ff, .int fz])), (fw, .inl (f1, 30, .inr (.inl fgw))), (fe, .inl (f2, 30, .inl fge)), (ff, .inl (f3, 150, .inl lf)), (h0, .inr (7, [.ref ptok, .ref pnee, .ref pnam, .int la, .ref pbui, .ref pdra, .int fu, .int x_fn2_29, .int x_fp2_30])), (ptok, .inr (10, [.ref ts, .ref tp, .ref tw, .int z, .int lp, .int ls_, .int ll, .long lw])), (ts, .inl (t1, 2001, .inl gs)), (tp, .inl (t2, 2001, .inl gp)), (tw, .inl (t3, 2001, .inr (.inl gw)))] H := hP
            have hD : va_D A [(pdra, .inr (9, [.ref gco, .ref gar, .ref gki, .ref gfu])), (gki, .inr (4, [.ref kw, .ref kf, .int kz])), (kw, .inl (k1, 20, .inr (.inl kgw))), (kf, .inl (k2, 20, .inl kgf)), (pnam, .inl (nk, 24, .inr (.inl lg))), (gfu, .inr (3, [.ref fw, .ref fe, .ref ff, .int fz])), (fw, .inl (f1, 30, .inr (.inl fgw))), (fe, .inl (f2, 30, .inl fge)), (ff, .inl (f3, 150, .inl lf)), (h0, .inr (7, [.ref ptok, .ref pnee, .ref pnam, .int la, .ref pbui, .ref pdra, .int fu, .int x_fn2_29, .int x_fp2_30])), (ptok, .inr (10, [.ref ts, .ref tp, .ref tw, .int z, .int lp, .int ls_, .int ll, .long lw])), (ts, .inl (t1, 2001, .inl gs)), (tp, .inl (t2, 2001, .inl gp)), (tw, .inl (t3, 2001, .inr (.inl gw)))] := hD
            have hK : va_K (dC, dI) vwCl [(k1, .long), (k2, .int), (nk, .long), (f1, .long), (f2, .int), (f3, .int), (t1, .int), (t2, .int), (t3, .long)] s := hK
            obtain ⟨hq_31, hq_32⟩ := hw
            try dsimp only at hq_31 hq_32
            refine vx_widen (k := 1) (n := 6) (Nat.le_of_ble_eq_true rfl) (Nat.le_of_ble_eq_true rfl) ?_
            have hP9 := hP.sub (ws' := [(h0, .inr (7, [.ref ptok, .ref pnee, .ref pnam, .int la, .ref pbui, .ref pdra, .int fu, .int x_fn2_29, .int x_fp2_30])), (ptok, .inr (10, [.ref ts, .ref tp, .ref tw, .int z, .int lp, .int ls_, .int ll, .long lw])), (ts, .inl (t1, 2001, .inl gs)), (tp, .inl (t2, 2001, .inl gp)), (tw, .inl (t3, 2001, .inr (.inl gw))), (pdra, .inr (9, [.ref gco, .ref gar, .ref gki, .ref gfu])), (gki, .inr (4, [.ref kw, .ref kf, .int kz])), (kw, .inl (k1, 20, .inr (.inl kgw))), (kf, .inl (k2, 20, .inl kgf)), (pnam, .inl (nk, 24, .inr (.inl lg))), (gfu, .inr (3, [.ref fw, .ref fe, .ref ff, .int fz])), (fw, .inl (f1, 30, .inr (.inl fgw))), (fe, .inl (f2, 30, .inl fge)), (ff, .inl (f3, 150, .inl lf))]) [9, 10, 11, 12, 13, 0, 1, 2, 3, 4, 5, 6, 7, 8] rfl
            have hD9 := hD.sub (ws' := [(h0, .inr (7, [.ref ptok, .ref pnee, .ref pnam, .int la, .ref pbui, .ref pdra, .int fu, .int x_fn2_29, .int x_fp2_30])), (ptok, .inr (10, [.ref ts, .ref tp, .ref tw, .int z, .int lp, .int ls_, .int ll, .long lw])), (ts, .inl (t1, 2001, .inl gs)), (tp, .inl (t2, 2001, .inl gp)), (tw, .inl (t3, 2001, .inr (.inl gw))), (pdra, .inr (9, [.ref gco, .ref gar, .ref gki, .ref gfu])), (gki, .inr (4, [.ref kw, .ref kf, .int kz])), (kw, .inl (k1, 20, .inr (.inl kgw))), (kf, .inl (k2, 20, .inl kgf)), (pnam, .inl (nk, 24, .inr (.inl lg))), (gfu, .inr (3, [.ref fw, .ref fe, .ref ff, .int fz])), (fw, .inl (f1, 30, .inr (.inl fgw))), (fe, .inl (f2, 30, .inl fge)), (ff, .inl (f3, 150, .inl lf))]) [9, 10, 11, 12, 13, 0, 1, 2, 3, 4, 5, 6, 7, 8] (by decide) rfl
            have hK9 := hK.sub (tys' := [(t1, .int), (t2, .int), (t3, .long), (k1, .long), (k2, .int), (nk, .long), (f1, .long), (f2, .int), (f3, .int)]) [6, 7, 8, 0, 1, 2, 3, 4, 5] rfl
            exact vy_monoX vy_thr (vx_out (fun x hx => (hnh x hx).elim) hlocks hcell hcv hcl (fun t ht hvm => ⟨(lp, ls_, ll, lw, la, lg, lf, x_fn2_29, x_fp2_30), ⟨by omega, by omega, by omega, by omega, by omega, by omega, by omega, (show Int32.toInt x_fp2_30 = Int32.toInt (gp (Int32.toNatClampNeg lp)) by omega).trans (pf_pa_x hnpa_2 (by omega) (by rw [hnpa_2, hM5 (by omega), if_neg (by omega)]) (by rw [hnpa_2]; exact hM7 (by omega))).symm, sp_pq_x hnpa_2 (by omega) (by rw [hnpa_2, hM5 (by omega), if_neg (by omega)])⟩, ⟨rfl, by rw [ht]; exact hP9, va_K.moved hvm hK9, hD9⟩, hS.F ht⟩) hS.2.2 (Nat.le_of_ble_eq_true rfl) (Nat.le_of_ble_eq_true rfl))
          · obtain ⟨y_pa2_33, y_so2_34, y_pl2_35, y_wd2_36⟩ := u
            obtain ⟨hP1, hK1, hD1⟩ := hB
            rw [ht] at hP1
            have hK1 := va_K.moved hvm.symm hK1
            obtain ⟨hP, hD⟩ := va_join (wr := [(pdra, .inr (9, [.ref gco, .ref gar, .ref gki, .ref gfu])), (gki, .inr (4, [.ref kw, .ref kf, .int kz])), (kw, .inl (k1, 20, .inr (.inl kgw))), (kf, .inl (k2, 20, .inl kgf)), (pnam, .inl (nk, 24, .inr (.inl lg))), (gfu, .inr (3, [.ref fw, .ref fe, .ref ff, .int fz])), (fw, .inl (f1, 30, .inr (.inl fgw))), (fe, .inl (f2, 30, .inl fge)), (ff, .inl (f3, 150, .inl lf))]) (w1 := [(h0, .inr (7, [.ref ptok, .ref pnee, .ref pnam, .int la, .ref pbui, .ref pdra, .int fu, .int fn, .int fp])), (ptok, .inr (10, [.ref ts, .ref tp, .ref tw, .int z, .int y_pa2_33, .int y_so2_34, .int y_pl2_35, .long y_wd2_36])), (ts, .inl (t1, 2001, .inl gs)), (tp, .inl (t2, 2001, .inl gp)), (tw, .inl (t3, 2001, .inr (.inl gw)))]) hP hD [0, 10, 11, 12, 13] [1, 2, 3, 4, 5, 6, 7, 8, 9] rfl rfl (by decide) (by decide) hk1 hFc hP1 hD1
            have hK := (hK.sub (tys' := [(k1, .long), (k2, .int), (nk, .long), (f1, .long), (f2, .int), (f3, .int)]) [0, 1, 2, 3, 4, 5] rfl).app hK1
            clear hPc hDc hFc hP1 hD1 hk1 hz1 ht hvm
            generalize H1 = H at hP hS ⊢
            have hP : va_P (dC, dI) vwCl [(pdra, .inr (9, [.ref gco, .ref gar, .ref gki, .ref gfu])), (gki, .inr (4, [.ref kw, .ref kf, .int kz])), (kw, .inl (k1, 20, .inr (.inl kgw))), (kf, .inl (k2, 20, .inl kgf)), (pnam, .inl (nk, 24, .inr (.inl lg))), (gfu, .inr (3, [.ref fw, .ref fe, .ref ff, .int fz])), (fw, .inl (f1, 30, .inr (.inl fgw))), (fe, .inl (f2, 30, .inl fge)), (ff, .inl (f3, 150, .inl lf)), (h0, .inr (7, [.ref ptok, .ref pnee, .ref pnam, .int la, .ref pbui, .ref pdra, .int fu, .int fn, .int fp])), (ptok, .inr (10, [.ref ts, .ref tp, .ref tw, .int z, .int y_pa2_33, .int y_so2_34, .int y_pl2_35, .long y_wd2_36])), (ts, .inl (t1, 2001, .inl gs)), (tp, .inl (t2, 2001, .inl gp)), (tw, .inl (t3, 2001, .inr (.inl gw)))] H := hP
            have hD : va_D A [(pdra, .inr (9, [.ref gco, .ref gar, .ref gki, .ref gfu])), (gki, .inr (4, [.ref kw, .ref kf, .int kz])), (kw, .inl (k1, 20, .inr (.inl kgw))), (kf, .inl (k2, 20, .inl kgf)), (pnam, .inl (nk, 24, .inr (.inl lg))), (gfu, .inr (3, [.ref fw, .ref fe, .ref ff, .int fz])), (fw, .inl (f1, 30, .inr (.inl fgw))), (fe, .inl (f2, 30, .inl fge)), (ff, .inl (f3, 150, .inl lf)), (h0, .inr (7, [.ref ptok, .ref pnee, .ref pnam, .int la, .ref pbui, .ref pdra, .int fu, .int fn, .int fp])), (ptok, .inr (10, [.ref ts, .ref tp, .ref tw, .int z, .int y_pa2_33, .int y_so2_34, .int y_pl2_35, .long y_wd2_36])), (ts, .inl (t1, 2001, .inl gs)), (tp, .inl (t2, 2001, .inl gp)), (tw, .inl (t3, 2001, .inr (.inl gw)))] := hD
            have hK : va_K (dC, dI) vwCl [(k1, .long), (k2, .int), (nk, .long), (f1, .long), (f2, .int), (f3, .int), (t1, .int), (t2, .int), (t3, .long)] s := hK
            refine W.widen (k := 0) (n := 0) (Nat.le_of_ble_eq_true rfl) (Nat.le_of_ble_eq_true rfl) ?_
            obtain ⟨hq_37, hq_38, hq_39, hq_40, hq_41, hq_42, hq_43, hq_44, hq_45, hq_46, hq_47⟩ := hw
            have hty_pa2_33 : Int32.toInt (gs (Int32.toNatClampNeg y_pa2_33)) = y_so2_34.toInt := by rw [hq_43.2.2]
            have hpy_pa2_33 : Int32.toInt (gp (Int32.toNatClampNeg y_pa2_33)) = y_pl2_35.toInt := by rw [hq_43.2.1]
            have hny_pa2_33 : Int32.toNatClampNeg y_pa2_33 = Int32.toNatClampNeg lp + 1 := zn_1 (by omega) (by omega)
            refine lv_aload_n hx hb dX7_pattern_112 rfl (lv_at hl 3 rfl) ?_
            refine lv_iload_n hx hb dX7_pattern_113 rfl (lv_at hl 4 rfl) ?_
            refine lv_iload_n hx hb dX7_pattern_114 rfl (lv_at hl 1 rfl) ?_
            refine lv_iload_n hx hb dX7_pattern_115 rfl (lv_at hl 2 rfl) ?_
            have hPc := hP.sub (ws' := [(h0, .inr (7, [.ref ptok, .ref pnee, .ref pnam, .int la, .ref pbui, .ref pdra, .int fu, .int fn, .int fp])), (pdra, .inr (9, [.ref gco, .ref gar, .ref gki, .ref gfu])), (gki, .inr (4, [.ref kw, .ref kf, .int kz])), (kw, .inl (k1, 20, .inr (.inl kgw))), (kf, .inl (k2, 20, .inl kgf))]) [9, 0, 1, 2, 3] rfl
            have hDc := hD.sub (ws' := [(h0, .inr (7, [.ref ptok, .ref pnee, .ref pnam, .int la, .ref pbui, .ref pdra, .int fu, .int fn, .int fp])), (pdra, .inr (9, [.ref gco, .ref gar, .ref gki, .ref gfu])), (gki, .inr (4, [.ref kw, .ref kf, .int kz])), (kw, .inl (k1, 20, .inr (.inl kgw))), (kf, .inl (k2, 20, .inl kgf))]) [9, 0, 1, 2, 3] (by decide) rfl
            have hKc := hK.sub (tys' := [(k1, .long), (k2, .int)]) [0, 1] rfl
            have hFc := va_free (wc := [(h0, .inr (7, [.ref ptok, .ref pnee, .ref pnam, .int la, .ref pbui, .ref pdra, .int fu, .int fn, .int fp])), (pdra, .inr (9, [.ref gco, .ref gar, .ref gki, .ref gfu])), (gki, .inr (4, [.ref kw, .ref kf, .int kz])), (kw, .inl (k1, 20, .inr (.inl kgw))), (kf, .inl (k2, 20, .inl kgf))]) hD hS hAA [9, 0, 1, 2, 3] rfl
            refine vy_callv (vy_runV (As := [.int ki, .int fi, .int pl]) (rest := []) ⟨hx, hb, hml, hown, hA⟩ (c_X7_toldToEnd_s l dC dI aK aV h0 ptok pnee pnam pbui pdra la fu fn fp gco gar gki gfu kw kf k1 k2 kz kgw kgf ki fi pl H.size hlt (by omega) (by omega) hkf (by omega) (by omega) (by omega) (by omega)) (cwV 3 hA (zw_V wi_974 wi_976 wi_22 wi_136 (zw_good wi_977)) rfl rfl rfl (by decide +kernel) ⟨(Nat.le_of_ble_eq_true rfl), (Nat.le_of_ble_eq_true rfl)⟩) ⟨zP_blind, va_recv hKc hPc (ci := 7) (q0 := 0) rfl rfl, zz_pre hKc hPc hDc hN hT hS hFc⟩ rfl rfl hl.1 rfl (lv_room (Nat.le_of_ble_eq_true rfl)) dX7_pattern_116 ⟨(Nat.le_of_ble_eq_true rfl), (Nat.le_of_ble_eq_true rfl)⟩) hS (fun q _ h => hFc q h) hFc (fun q _ h => hFc q h) (fun E9 ce9 q9 u t H1 locs ht hvm hw hB hz1 hk1 hS hcell hcv hcl => ?_) (fun u t H1 locs ht hvm hw hB hz1 hk1 hS => ?_)
            · obtain ⟨x_fn2_49, x_fp2_50⟩ := u
              obtain ⟨rfl, hP1, hK1, hD1⟩ := hB
              rw [ht] at hP1
              have hK1 := va_K.moved hvm.symm hK1
              obtain ⟨hP, hD⟩ := va_join (wr := [(pnam, .inl (nk, 24, .inr (.inl lg))), (gfu, .inr (3, [.ref fw, .ref fe, .ref ff, .int fz])), (fw, .inl (f1, 30, .inr (.inl fgw))), (fe, .inl (f2, 30, .inl fge)), (ff, .inl (f3, 150, .inl lf)), (ptok, .inr (10, [.ref ts, .ref tp, .ref tw, .int z, .int y_pa2_33, .int y_so2_34, .int y_pl2_35, .long y_wd2_36])), (ts, .inl (t1, 2001, .inl gs)), (tp, .inl (t2, 2001, .inl gp)), (tw, .inl (t3, 2001, .inr (.inl gw)))]) (w1 := [(h0, .inr (7, [.ref ptok, .ref pnee, .ref pnam, .int la, .ref pbui, .ref pdra, .int fu, .int x_fn2_49, .int x_fp2_50])), (pdra, .inr (9, [.ref gco, .ref gar, .ref gki, .ref gfu])), (gki, .inr (4, [.ref kw, .ref kf, .int kz])), (kw, .inl (k1, 20, .inr (.inl kgw))), (kf, .inl (k2, 20, .inl kgf))]) hP hD [9, 0, 1, 2, 3] [4, 5, 6, 7, 8, 10, 11, 12, 13] rfl rfl (by decide) (by decide) hk1 hFc hP1 hD1
              have hK := (hK.sub (tys' := [(nk, .long), (f1, .long), (f2, .int), (f3, .int), (t1, .int), (t2, .int), (t3, .long)]) [2, 3, 4, 5, 6, 7, 8] rfl).app hK1
              clear hPc hDc hFc hP1 hD1 hk1 hz1 ht hvm
              generalize H1 = H at hP hS hcell ⊢
              have hP : va_P (dC, dI) vwCl [(pnam, .inl (nk, 24, .inr (.inl lg))), (gfu, .inr (3, [.ref fw, .ref fe, .ref ff, .int fz])), (fw, .inl (f1, 30, .inr (.inl fgw))), (fe, .inl (f2, 30, .inl fge)), (ff, .inl (f3, 150, .inl lf)), (ptok, .inr (10, [.ref ts, .ref tp, .ref tw, .int z, .int y_pa2_33, .int y_so2_34, .int y_pl2_35, .long y_wd2_36])), (ts, .inl (t1, 2001, .inl gs)), (tp, .inl (t2, 2001, .inl gp)), (tw, .inl (t3, 2001, .inr (.inl gw))), (h0, .inr (7, [.ref ptok, .ref pnee, .ref pnam, .int la, .ref pbui, .ref pdra, .int fu, .int x_fn2_49, .int x_fp2_50])), (pdra, .inr (9, [.ref gco, .ref gar, .ref gki, .ref gfu])), (gki, .inr (4, [.ref kw, .ref kf, .int kz])), (kw, .inl (k1, 20, .inr (.inl kgw))), (kf, .inl (k2, 20, .inl kgf))] H := hP
              have hD : va_D A [(pnam, .inl (nk, 24, .inr (.inl lg))), (gfu, .inr (3, [.ref fw, .ref fe, .ref ff, .int fz])), (fw, .inl (f1, 30, .inr (.inl fgw))), (fe, .inl (f2, 30, .inl fge)), (ff, .inl (f3, 150, .inl lf)), (ptok, .inr (10, [.ref ts, .ref tp, .ref tw, .int z, .int y_pa2_33, .int y_so2_34, .int y_pl2_35, .long y_wd2_36])), (ts, .inl (t1, 2001, .inl gs)), (tp, .inl (t2, 2001, .inl gp)), (tw, .inl (t3, 2001, .inr (.inl gw))), (h0, .inr (7, [.ref ptok, .ref pnee, .ref pnam, .int la, .ref pbui, .ref pdra, .int fu, .int x_fn2_49, .int x_fp2_50])), (pdra, .inr (9, [.ref gco, .ref gar, .ref gki, .ref gfu])), (gki, .inr (4, [.ref kw, .ref kf, .int kz])), (kw, .inl (k1, 20, .inr (.inl kgw))), (kf, .inl (k2, 20, .inl kgf))] := hD
              have hK : va_K (dC, dI) vwCl [(nk, .long), (f1, .long), (f2, .int), (f3, .int), (t1, .int), (t2, .int), (t3, .long), (k1, .long), (k2, .int)] s := hK
              obtain ⟨hq_51, hq_52⟩ := hw
              try dsimp only at hq_51 hq_52
              refine vx_widen (k := 1) (n := 6) (Nat.le_of_ble_eq_true rfl) (Nat.le_of_ble_eq_true rfl) ?_
              have hP9 := hP.sub (ws' := [(h0, .inr (7, [.ref ptok, .ref pnee, .ref pnam, .int la, .ref pbui, .ref pdra, .int fu, .int x_fn2_49, .int x_fp2_50])), (ptok, .inr (10, [.ref ts, .ref tp, .ref tw, .int z, .int y_pa2_33, .int y_so2_34, .int y_pl2_35, .long y_wd2_36])), (ts, .inl (t1, 2001, .inl gs)), (tp, .inl (t2, 2001, .inl gp)), (tw, .inl (t3, 2001, .inr (.inl gw))), (pdra, .inr (9, [.ref gco, .ref gar, .ref gki, .ref gfu])), (gki, .inr (4, [.ref kw, .ref kf, .int kz])), (kw, .inl (k1, 20, .inr (.inl kgw))), (kf, .inl (k2, 20, .inl kgf)), (pnam, .inl (nk, 24, .inr (.inl lg))), (gfu, .inr (3, [.ref fw, .ref fe, .ref ff, .int fz])), (fw, .inl (f1, 30, .inr (.inl fgw))), (fe, .inl (f2, 30, .inl fge)), (ff, .inl (f3, 150, .inl lf))]) [9, 5, 6, 7, 8, 10, 11, 12, 13, 0, 1, 2, 3, 4] rfl
              have hD9 := hD.sub (ws' := [(h0, .inr (7, [.ref ptok, .ref pnee, .ref pnam, .int la, .ref pbui, .ref pdra, .int fu, .int x_fn2_49, .int x_fp2_50])), (ptok, .inr (10, [.ref ts, .ref tp, .ref tw, .int z, .int y_pa2_33, .int y_so2_34, .int y_pl2_35, .long y_wd2_36])), (ts, .inl (t1, 2001, .inl gs)), (tp, .inl (t2, 2001, .inl gp)), (tw, .inl (t3, 2001, .inr (.inl gw))), (pdra, .inr (9, [.ref gco, .ref gar, .ref gki, .ref gfu])), (gki, .inr (4, [.ref kw, .ref kf, .int kz])), (kw, .inl (k1, 20, .inr (.inl kgw))), (kf, .inl (k2, 20, .inl kgf)), (pnam, .inl (nk, 24, .inr (.inl lg))), (gfu, .inr (3, [.ref fw, .ref fe, .ref ff, .int fz])), (fw, .inl (f1, 30, .inr (.inl fgw))), (fe, .inl (f2, 30, .inl fge)), (ff, .inl (f3, 150, .inl lf))]) [9, 5, 6, 7, 8, 10, 11, 12, 13, 0, 1, 2, 3, 4] (by decide) rfl
              have hK9 := hK.sub (tys' := [(t1, .int), (t2, .int), (t3, .long), (k1, .long), (k2, .int), (nk, .long), (f1, .long), (f2, .int), (f3, .int)]) [4, 5, 6, 7, 8, 0, 1, 2, 3] rfl
              exact vy_monoX vy_thr (vx_out (fun x hx => (hnh x hx).elim) hlocks hcell hcv hcl (fun t ht hvm => ⟨(y_pa2_33, y_so2_34, y_pl2_35, y_wd2_36, la, lg, lf, x_fn2_49, x_fp2_50), ⟨by omega, by omega, by omega, by omega, by omega, by omega, by omega, (show Int32.toInt x_fp2_50 = Int32.toInt (gp (Int32.toNatClampNeg pa)) by omega).trans (pf_pa_y (c := Int32.toNatClampNeg lp) (M := lM) hnpa_2 (by omega) (by rw [hnpa_2]; exact hM5 (by omega)) (by omega)).symm, sp_pq_yx hnpa_2 (by omega) (by rw [hnpa_2]; exact hM5 (by omega)) (by omega) hny_pa2_33 hM2 hq_52⟩, ⟨rfl, by rw [ht]; exact hP9, va_K.moved hvm hK9, hD9⟩, hS.F ht⟩) hS.2.2 (Nat.le_of_ble_eq_true rfl) (Nat.le_of_ble_eq_true rfl))
            · obtain ⟨y_kgf2_53, rfl⟩ : ∃ z, z = u := ⟨_, rfl⟩
              obtain ⟨hP1, hK1, hD1⟩ := hB
              rw [ht] at hP1
              have hK1 := va_K.moved hvm.symm hK1
              obtain ⟨hP, hD⟩ := va_join (wr := [(pnam, .inl (nk, 24, .inr (.inl lg))), (gfu, .inr (3, [.ref fw, .ref fe, .ref ff, .int fz])), (fw, .inl (f1, 30, .inr (.inl fgw))), (fe, .inl (f2, 30, .inl fge)), (ff, .inl (f3, 150, .inl lf)), (ptok, .inr (10, [.ref ts, .ref tp, .ref tw, .int z, .int y_pa2_33, .int y_so2_34, .int y_pl2_35, .long y_wd2_36])), (ts, .inl (t1, 2001, .inl gs)), (tp, .inl (t2, 2001, .inl gp)), (tw, .inl (t3, 2001, .inr (.inl gw)))]) (w1 := [(h0, .inr (7, [.ref ptok, .ref pnee, .ref pnam, .int la, .ref pbui, .ref pdra, .int fu, .int fn, .int fp])), (pdra, .inr (9, [.ref gco, .ref gar, .ref gki, .ref gfu])), (gki, .inr (4, [.ref kw, .ref kf, .int kz])), (kw, .inl (k1, 20, .inr (.inl kgw))), (kf, .inl (k2, 20, .inl y_kgf2_53))]) hP hD [9, 0, 1, 2, 3] [4, 5, 6, 7, 8, 10, 11, 12, 13] rfl rfl (by decide) (by decide) hk1 hFc hP1 hD1
              have hK := (hK.sub (tys' := [(nk, .long), (f1, .long), (f2, .int), (f3, .int), (t1, .int), (t2, .int), (t3, .long)]) [2, 3, 4, 5, 6, 7, 8] rfl).app hK1
              clear hPc hDc hFc hP1 hD1 hk1 hz1 ht hvm
              generalize H1 = H at hP hS ⊢
              have hP : va_P (dC, dI) vwCl [(pnam, .inl (nk, 24, .inr (.inl lg))), (gfu, .inr (3, [.ref fw, .ref fe, .ref ff, .int fz])), (fw, .inl (f1, 30, .inr (.inl fgw))), (fe, .inl (f2, 30, .inl fge)), (ff, .inl (f3, 150, .inl lf)), (ptok, .inr (10, [.ref ts, .ref tp, .ref tw, .int z, .int y_pa2_33, .int y_so2_34, .int y_pl2_35, .long y_wd2_36])), (ts, .inl (t1, 2001, .inl gs)), (tp, .inl (t2, 2001, .inl gp)), (tw, .inl (t3, 2001, .inr (.inl gw))), (h0, .inr (7, [.ref ptok, .ref pnee, .ref pnam, .int la, .ref pbui, .ref pdra, .int fu, .int fn, .int fp])), (pdra, .inr (9, [.ref gco, .ref gar, .ref gki, .ref gfu])), (gki, .inr (4, [.ref kw, .ref kf, .int kz])), (kw, .inl (k1, 20, .inr (.inl kgw))), (kf, .inl (k2, 20, .inl y_kgf2_53))] H := hP
              have hD : va_D A [(pnam, .inl (nk, 24, .inr (.inl lg))), (gfu, .inr (3, [.ref fw, .ref fe, .ref ff, .int fz])), (fw, .inl (f1, 30, .inr (.inl fgw))), (fe, .inl (f2, 30, .inl fge)), (ff, .inl (f3, 150, .inl lf)), (ptok, .inr (10, [.ref ts, .ref tp, .ref tw, .int z, .int y_pa2_33, .int y_so2_34, .int y_pl2_35, .long y_wd2_36])), (ts, .inl (t1, 2001, .inl gs)), (tp, .inl (t2, 2001, .inl gp)), (tw, .inl (t3, 2001, .inr (.inl gw))), (h0, .inr (7, [.ref ptok, .ref pnee, .ref pnam, .int la, .ref pbui, .ref pdra, .int fu, .int fn, .int fp])), (pdra, .inr (9, [.ref gco, .ref gar, .ref gki, .ref gfu])), (gki, .inr (4, [.ref kw, .ref kf, .int kz])), (kw, .inl (k1, 20, .inr (.inl kgw))), (kf, .inl (k2, 20, .inl y_kgf2_53))] := hD
              have hK : va_K (dC, dI) vwCl [(nk, .long), (f1, .long), (f2, .int), (f3, .int), (t1, .int), (t2, .int), (t3, .long), (k1, .long), (k2, .int)] s := hK
              refine W.widen (k := 0) (n := 0) (Nat.le_of_ble_eq_true rfl) (Nat.le_of_ble_eq_true rfl) ?_
              obtain ⟨hq_54, hq_55, hq_56, hq_57⟩ := hw
              have hP9 := hP.sub (ws' := [(h0, .inr (7, [.ref ptok, .ref pnee, .ref pnam, .int la, .ref pbui, .ref pdra, .int fu, .int fn, .int fp])), (ptok, .inr (10, [.ref ts, .ref tp, .ref tw, .int z, .int y_pa2_33, .int y_so2_34, .int y_pl2_35, .long y_wd2_36])), (ts, .inl (t1, 2001, .inl gs)), (tp, .inl (t2, 2001, .inl gp)), (tw, .inl (t3, 2001, .inr (.inl gw))), (pdra, .inr (9, [.ref gco, .ref gar, .ref gki, .ref gfu])), (gki, .inr (4, [.ref kw, .ref kf, .int kz])), (kw, .inl (k1, 20, .inr (.inl kgw))), (kf, .inl (k2, 20, .inl y_kgf2_53)), (pnam, .inl (nk, 24, .inr (.inl lg))), (gfu, .inr (3, [.ref fw, .ref fe, .ref ff, .int fz])), (fw, .inl (f1, 30, .inr (.inl fgw))), (fe, .inl (f2, 30, .inl fge)), (ff, .inl (f3, 150, .inl lf))]) [9, 5, 6, 7, 8, 10, 11, 12, 13, 0, 1, 2, 3, 4] rfl
              have hD9 := hD.sub (ws' := [(h0, .inr (7, [.ref ptok, .ref pnee, .ref pnam, .int la, .ref pbui, .ref pdra, .int fu, .int fn, .int fp])), (ptok, .inr (10, [.ref ts, .ref tp, .ref tw, .int z, .int y_pa2_33, .int y_so2_34, .int y_pl2_35, .long y_wd2_36])), (ts, .inl (t1, 2001, .inl gs)), (tp, .inl (t2, 2001, .inl gp)), (tw, .inl (t3, 2001, .inr (.inl gw))), (pdra, .inr (9, [.ref gco, .ref gar, .ref gki, .ref gfu])), (gki, .inr (4, [.ref kw, .ref kf, .int kz])), (kw, .inl (k1, 20, .inr (.inl kgw))), (kf, .inl (k2, 20, .inl y_kgf2_53)), (pnam, .inl (nk, 24, .inr (.inl lg))), (gfu, .inr (3, [.ref fw, .ref fe, .ref ff, .int fz])), (fw, .inl (f1, 30, .inr (.inl fgw))), (fe, .inl (f2, 30, .inl fge)), (ff, .inl (f3, 150, .inl lf))]) [9, 5, 6, 7, 8, 10, 11, 12, 13, 0, 1, 2, 3, 4] (by decide) rfl
              have hK9 := hK.sub (tys' := [(t1, .int), (t2, .int), (t3, .long), (k1, .long), (k2, .int), (nk, .long), (f1, .long), (f2, .int), (f3, .int)]) [4, 5, 6, 7, 8, 0, 1, 2, 3] rfl
              exact vy_mono vy_ret (vx_ret (W.vret hx hb hr (fun t ht hW => ⟨⟨(y_pa2_33, y_so2_34, y_pl2_35, y_wd2_36, la, lg, lf, y_kgf2_53), rfl, ⟨by omega, by omega, by omega, by omega, by omega, by omega, by omega, hq_54, (by rw [hq_55]; have h9 : Int32.toInt 0 = 0 := (by decide); omega), hq_56, by omega, by omega, hlff, hq_43, by omega, by omega, by omega, hq_47, hlcf, ⟨lM, hM1, sp_pq_y hnpa_2 (by omega) (by rw [hnpa_2]; exact hM5 (by omega)) (by omega) hny_pa2_33 hM2 hq_57⟩⟩, by rw [ht]; exact hP9, va_K.moved hW.alike hK9, hD9⟩, hS.F ht⟩) hS.2.2 dX7_pattern_119))
        · have ic_27 : mo.toInt ≠ 0 := zi_ne c_27
          refine lv_iload_n hx hb dX7_pattern_37 rfl (lv_at hl 1 rfl) ?_
          refine lv_iconst (v := 3) hx hb dX7_pattern_38 (by decide) ?_
          refine lv_icmp_gt (tgt := 106) hx hb dX7_pattern_39 (by decide) (fun c_58 => ?_) (fun c_58 => ?_)
          · have ic_58 : 3 < fi.toInt := zi_lt c_58
            have h9x : Int32.toInt 41 = 41 := (by decide)
            refine lv_aload_n hx hb dX7_pattern_106 rfl (lv_at hl 3 rfl) ?_
            refine lv_bipush (v := 41) hx hb dX7_pattern_107 (by decide) ?_
            have hPc := hP.sub (ws' := [(h0, .inr (7, [.ref ptok, .ref pnee, .ref pnam, .int la, .ref pbui, .ref pdra, .int fu, .int fn, .int fp])), (ptok, .inr (10, [.ref ts, .ref tp, .ref tw, .int z, .int lp, .int ls_, .int ll, .long lw])), (ts, .inl (t1, 2001, .inl gs)), (tp, .inl (t2, 2001, .inl gp)), (tw, .inl (t3, 2001, .inr (.inl gw)))]) [0, 10, 11, 12, 13] rfl
            have hDc := hD.sub (ws' := [(h0, .inr (7, [.ref ptok, .ref pnee, .ref pnam, .int la, .ref pbui, .ref pdra, .int fu, .int fn, .int fp])), (ptok, .inr (10, [.ref ts, .ref tp, .ref tw, .int z, .int lp, .int ls_, .int ll, .long lw])), (ts, .inl (t1, 2001, .inl gs)), (tp, .inl (t2, 2001, .inl gp)), (tw, .inl (t3, 2001, .inr (.inl gw)))]) [0, 10, 11, 12, 13] (by decide) rfl
            have hKc := hK.sub (tys' := [(t1, .int), (t2, .int), (t3, .long)]) [6, 7, 8] rfl
            have hFc := va_free (wc := [(h0, .inr (7, [.ref ptok, .ref pnee, .ref pnam, .int la, .ref pbui, .ref pdra, .int fu, .int fn, .int fp])), (ptok, .inr (10, [.ref ts, .ref tp, .ref tw, .int z, .int lp, .int ls_, .int ll, .long lw])), (ts, .inl (t1, 2001, .inl gs)), (tp, .inl (t2, 2001, .inl gp)), (tw, .inl (t3, 2001, .inr (.inl gw)))]) hD hS hAA [0, 10, 11, 12, 13] rfl
            refine vy_callv (vy_runV (As := [.int 41]) (rest := []) ⟨hx, hb, hml, hown, hA⟩ (c_X7_expect_s l dC dI aK aV h0 ptok pnee pnam pbui pdra la fu fn fp ts tp tw t1 t2 t3 z lp ls_ ll lw gs gp gw 41 H.size hlt (by omega) (by omega) (by omega) (by omega) hgz hlpt (by omega)) (cwV 1 hA (zw_V wi_873 wi_875 wi_7 wi_136 (zw_good wi_876)) rfl rfl rfl (by decide +kernel) ⟨(Nat.le_of_ble_eq_true rfl), (Nat.le_of_ble_eq_true rfl)⟩) ⟨zP_blind, va_recv hKc hPc (ci := 7) (q0 := 0) rfl rfl, zz_pre hKc hPc hDc hN hT hS hFc⟩ rfl rfl hl.1 rfl (lv_room (Nat.le_of_ble_eq_true rfl)) dX7_pattern_109 ⟨(Nat.le_of_ble_eq_true rfl), (Nat.le_of_ble_eq_true rfl)⟩) hS (fun q _ h => hFc q h) hFc (fun q _ h => hFc q h) (fun E9 ce9 q9 u t H1 locs ht hvm hw hB hz1 hk1 hS hcell hcv hcl => ?_) (fun u t H1 locs ht hvm hw hB hz1 hk1 hS => ?_)
            · obtain ⟨x_fn2_60, x_fp2_61⟩ := u
              obtain ⟨rfl, hP1, hK1, hD1⟩ := hB
              rw [ht] at hP1
              have hK1 := va_K.moved hvm.symm hK1
              obtain ⟨hP, hD⟩ := va_join (wr := [(pdra, .inr (9, [.ref gco, .ref gar, .ref gki, .ref gfu])), (gki, .inr (4, [.ref kw, .ref kf, .int kz])), (kw, .inl (k1, 20, .inr (.inl kgw))), (kf, .inl (k2, 20, .inl kgf)), (pnam, .inl (nk, 24, .inr (.inl lg))), (gfu, .inr (3, [.ref fw, .ref fe, .ref ff, .int fz])), (fw, .inl (f1, 30, .inr (.inl fgw))), (fe, .inl (f2, 30, .inl fge)), (ff, .inl (f3, 150, .inl lf))]) (w1 := [(h0, .inr (7, [.ref ptok, .ref pnee, .ref pnam, .int la, .ref pbui, .ref pdra, .int fu, .int x_fn2_60, .int x_fp2_61])), (ptok, .inr (10, [.ref ts, .ref tp, .ref tw, .int z, .int lp, .int ls_, .int ll, .long lw])), (ts, .inl (t1, 2001, .inl gs)), (tp, .inl (t2, 2001, .inl gp)), (tw, .inl (t3, 2001, .inr (.inl gw)))]) hP hD [0, 10, 11, 12, 13] [1, 2, 3, 4, 5, 6, 7, 8, 9] rfl rfl (by decide) (by decide) hk1 hFc hP1 hD1
              have hK := (hK.sub (tys' := [(k1, .long), (k2, .int), (nk, .long), (f1, .long), (f2, .int), (f3, .int)]) [0, 1, 2, 3, 4, 5] rfl).app hK1
              clear hPc hDc hFc hP1 hD1 hk1 hz1 ht hvm
              generalize H1 = H at hP hS hcell ⊢
              have hP : va_P (dC, dI) vwCl [(pdra, .inr (9, [.ref gco, .ref gar, .ref gki, .ref gfu])), (gki, .inr (4, [.ref kw, .ref kf, .int kz])), (kw, .inl (k1, 20, .inr (.inl kgw))), (kf, .inl (k2, 20, .inl kgf)), (pnam, .inl (nk, 24, .inr (.inl lg))), (gfu, .inr (3, [.ref fw, .ref fe, .ref ff, .int fz])), (fw, .inl (f1, 30, .inr (.inl fgw))), (fe, .inl (f2, 30, .inl fge)), (ff, .inl (f3, 150, .inl lf)), (h0, .inr (7, [.ref ptok, .ref pnee, .ref pnam, .int la, .ref pbui, .ref pdra, .int fu, .int x_fn2_60, .int x_fp2_61])), (ptok, .inr (10, [.ref ts, .ref tp, .ref tw, .int z, .int lp, .int ls_, .int ll, .long lw])), (ts, .inl (t1, 2001, .inl gs)), (tp, .inl (t2, 2001, .inl gp)), (tw, .inl (t3, 2001, .inr (.inl gw)))] H := hP
              have hD : va_D A [(pdra, .inr (9, [.ref gco, .ref gar, .ref gki, .ref gfu])), (gki, .inr (4, [.ref kw, .ref kf, .int kz])), (kw, .inl (k1, 20, .inr (.inl kgw))), (kf, .inl (k2, 20, .inl kgf)), (pnam, .inl (nk, 24, .inr (.inl lg))), (gfu, .inr (3, [.ref fw, .ref fe, .ref ff, .int fz])), (fw, .inl (f1, 30, .inr (.inl fgw))), (fe, .inl (f2, 30, .inl fge)), (ff, .inl (f3, 150, .inl lf)), (h0, .inr (7, [.ref ptok, .ref pnee, .ref pnam, .int la, .ref pbui, .ref pdra, .int fu, .int x_fn2_60, .int x_fp2_61])), (ptok, .inr (10, [.ref ts, .ref tp, .ref tw, .int z, .int lp, .int ls_, .int ll, .long lw])), (ts, .inl (t1, 2001, .inl gs)), (tp, .inl (t2, 2001, .inl gp)), (tw, .inl (t3, 2001, .inr (.inl gw)))] := hD
              have hK : va_K (dC, dI) vwCl [(k1, .long), (k2, .int), (nk, .long), (f1, .long), (f2, .int), (f3, .int), (t1, .int), (t2, .int), (t3, .long)] s := hK
              obtain ⟨hq_62, hq_63⟩ := hw
              try dsimp only at hq_62 hq_63
              refine vx_widen (k := 1) (n := 6) (Nat.le_of_ble_eq_true rfl) (Nat.le_of_ble_eq_true rfl) ?_
              have hP9 := hP.sub (ws' := [(h0, .inr (7, [.ref ptok, .ref pnee, .ref pnam, .int la, .ref pbui, .ref pdra, .int fu, .int x_fn2_60, .int x_fp2_61])), (ptok, .inr (10, [.ref ts, .ref tp, .ref tw, .int z, .int lp, .int ls_, .int ll, .long lw])), (ts, .inl (t1, 2001, .inl gs)), (tp, .inl (t2, 2001, .inl gp)), (tw, .inl (t3, 2001, .inr (.inl gw))), (pdra, .inr (9, [.ref gco, .ref gar, .ref gki, .ref gfu])), (gki, .inr (4, [.ref kw, .ref kf, .int kz])), (kw, .inl (k1, 20, .inr (.inl kgw))), (kf, .inl (k2, 20, .inl kgf)), (pnam, .inl (nk, 24, .inr (.inl lg))), (gfu, .inr (3, [.ref fw, .ref fe, .ref ff, .int fz])), (fw, .inl (f1, 30, .inr (.inl fgw))), (fe, .inl (f2, 30, .inl fge)), (ff, .inl (f3, 150, .inl lf))]) [9, 10, 11, 12, 13, 0, 1, 2, 3, 4, 5, 6, 7, 8] rfl
              have hD9 := hD.sub (ws' := [(h0, .inr (7, [.ref ptok, .ref pnee, .ref pnam, .int la, .ref pbui, .ref pdra, .int fu, .int x_fn2_60, .int x_fp2_61])), (ptok, .inr (10, [.ref ts, .ref tp, .ref tw, .int z, .int lp, .int ls_, .int ll, .long lw])), (ts, .inl (t1, 2001, .inl gs)), (tp, .inl (t2, 2001, .inl gp)), (tw, .inl (t3, 2001, .inr (.inl gw))), (pdra, .inr (9, [.ref gco, .ref gar, .ref gki, .ref gfu])), (gki, .inr (4, [.ref kw, .ref kf, .int kz])), (kw, .inl (k1, 20, .inr (.inl kgw))), (kf, .inl (k2, 20, .inl kgf)), (pnam, .inl (nk, 24, .inr (.inl lg))), (gfu, .inr (3, [.ref fw, .ref fe, .ref ff, .int fz])), (fw, .inl (f1, 30, .inr (.inl fgw))), (fe, .inl (f2, 30, .inl fge)), (ff, .inl (f3, 150, .inl lf))]) [9, 10, 11, 12, 13, 0, 1, 2, 3, 4, 5, 6, 7, 8] (by decide) rfl
              have hK9 := hK.sub (tys' := [(t1, .int), (t2, .int), (t3, .long), (k1, .long), (k2, .int), (nk, .long), (f1, .long), (f2, .int), (f3, .int)]) [6, 7, 8, 0, 1, 2, 3, 4, 5] rfl
              exact vy_monoX vy_thr (vx_out (fun x hx => (hnh x hx).elim) hlocks hcell hcv hcl (fun t ht hvm => ⟨(lp, ls_, ll, lw, la, lg, lf, x_fn2_60, x_fp2_61), ⟨by omega, by omega, by omega, by omega, by omega, by omega, by omega, (show Int32.toInt x_fp2_61 = Int32.toInt (gp (Int32.toNatClampNeg lp)) by omega).trans (pf_pa_x hnpa_2 (by omega) (by rw [hnpa_2, hM5 (by omega), if_neg (by omega)]) (by rw [hnpa_2]; exact hM7 (by omega))).symm, sp_pq_x hnpa_2 (by omega) (by rw [hnpa_2, hM5 (by omega), if_neg (by omega)])⟩, ⟨rfl, by rw [ht]; exact hP9, va_K.moved hvm hK9, hD9⟩, hS.F ht⟩) hS.2.2 (Nat.le_of_ble_eq_true rfl) (Nat.le_of_ble_eq_true rfl))
            · obtain ⟨y_pa2_64, y_so2_65, y_pl2_66, y_wd2_67⟩ := u
              obtain ⟨hP1, hK1, hD1⟩ := hB
              rw [ht] at hP1
              have hK1 := va_K.moved hvm.symm hK1
              obtain ⟨hP, hD⟩ := va_join (wr := [(pdra, .inr (9, [.ref gco, .ref gar, .ref gki, .ref gfu])), (gki, .inr (4, [.ref kw, .ref kf, .int kz])), (kw, .inl (k1, 20, .inr (.inl kgw))), (kf, .inl (k2, 20, .inl kgf)), (pnam, .inl (nk, 24, .inr (.inl lg))), (gfu, .inr (3, [.ref fw, .ref fe, .ref ff, .int fz])), (fw, .inl (f1, 30, .inr (.inl fgw))), (fe, .inl (f2, 30, .inl fge)), (ff, .inl (f3, 150, .inl lf))]) (w1 := [(h0, .inr (7, [.ref ptok, .ref pnee, .ref pnam, .int la, .ref pbui, .ref pdra, .int fu, .int fn, .int fp])), (ptok, .inr (10, [.ref ts, .ref tp, .ref tw, .int z, .int y_pa2_64, .int y_so2_65, .int y_pl2_66, .long y_wd2_67])), (ts, .inl (t1, 2001, .inl gs)), (tp, .inl (t2, 2001, .inl gp)), (tw, .inl (t3, 2001, .inr (.inl gw)))]) hP hD [0, 10, 11, 12, 13] [1, 2, 3, 4, 5, 6, 7, 8, 9] rfl rfl (by decide) (by decide) hk1 hFc hP1 hD1
              have hK := (hK.sub (tys' := [(k1, .long), (k2, .int), (nk, .long), (f1, .long), (f2, .int), (f3, .int)]) [0, 1, 2, 3, 4, 5] rfl).app hK1
              clear hPc hDc hFc hP1 hD1 hk1 hz1 ht hvm
              generalize H1 = H at hP hS ⊢
              have hP : va_P (dC, dI) vwCl [(pdra, .inr (9, [.ref gco, .ref gar, .ref gki, .ref gfu])), (gki, .inr (4, [.ref kw, .ref kf, .int kz])), (kw, .inl (k1, 20, .inr (.inl kgw))), (kf, .inl (k2, 20, .inl kgf)), (pnam, .inl (nk, 24, .inr (.inl lg))), (gfu, .inr (3, [.ref fw, .ref fe, .ref ff, .int fz])), (fw, .inl (f1, 30, .inr (.inl fgw))), (fe, .inl (f2, 30, .inl fge)), (ff, .inl (f3, 150, .inl lf)), (h0, .inr (7, [.ref ptok, .ref pnee, .ref pnam, .int la, .ref pbui, .ref pdra, .int fu, .int fn, .int fp])), (ptok, .inr (10, [.ref ts, .ref tp, .ref tw, .int z, .int y_pa2_64, .int y_so2_65, .int y_pl2_66, .long y_wd2_67])), (ts, .inl (t1, 2001, .inl gs)), (tp, .inl (t2, 2001, .inl gp)), (tw, .inl (t3, 2001, .inr (.inl gw)))] H := hP
              have hD : va_D A [(pdra, .inr (9, [.ref gco, .ref gar, .ref gki, .ref gfu])), (gki, .inr (4, [.ref kw, .ref kf, .int kz])), (kw, .inl (k1, 20, .inr (.inl kgw))), (kf, .inl (k2, 20, .inl kgf)), (pnam, .inl (nk, 24, .inr (.inl lg))), (gfu, .inr (3, [.ref fw, .ref fe, .ref ff, .int fz])), (fw, .inl (f1, 30, .inr (.inl fgw))), (fe, .inl (f2, 30, .inl fge)), (ff, .inl (f3, 150, .inl lf)), (h0, .inr (7, [.ref ptok, .ref pnee, .ref pnam, .int la, .ref pbui, .ref pdra, .int fu, .int fn, .int fp])), (ptok, .inr (10, [.ref ts, .ref tp, .ref tw, .int z, .int y_pa2_64, .int y_so2_65, .int y_pl2_66, .long y_wd2_67])), (ts, .inl (t1, 2001, .inl gs)), (tp, .inl (t2, 2001, .inl gp)), (tw, .inl (t3, 2001, .inr (.inl gw)))] := hD
              have hK : va_K (dC, dI) vwCl [(k1, .long), (k2, .int), (nk, .long), (f1, .long), (f2, .int), (f3, .int), (t1, .int), (t2, .int), (t3, .long)] s := hK
              refine W.widen (k := 0) (n := 0) (Nat.le_of_ble_eq_true rfl) (Nat.le_of_ble_eq_true rfl) ?_
              obtain ⟨hq_68, hq_69, hq_70, hq_71, hq_72, hq_73, hq_74, hq_75, hq_76, hq_77, hq_78⟩ := hw
              have hty_pa2_64 : Int32.toInt (gs (Int32.toNatClampNeg y_pa2_64)) = y_so2_65.toInt := by rw [hq_74.2.2]
              have hpy_pa2_64 : Int32.toInt (gp (Int32.toNatClampNeg y_pa2_64)) = y_pl2_66.toInt := by rw [hq_74.2.1]
              have hny_pa2_64 : Int32.toNatClampNeg y_pa2_64 = Int32.toNatClampNeg lp + 1 := zn_1 (by omega) (by omega)
              refine lv_aload_n hx hb dX7_pattern_112 rfl (lv_at hl 3 rfl) ?_
              refine lv_iload_n hx hb dX7_pattern_113 rfl (lv_at hl 4 rfl) ?_
              refine lv_iload_n hx hb dX7_pattern_114 rfl (lv_at hl 1 rfl) ?_
              refine lv_iload_n hx hb dX7_pattern_115 rfl (lv_at hl 2 rfl) ?_
              have hPc := hP.sub (ws' := [(h0, .inr (7, [.ref ptok, .ref pnee, .ref pnam, .int la, .ref pbui, .ref pdra, .int fu, .int fn, .int fp])), (pdra, .inr (9, [.ref gco, .ref gar, .ref gki, .ref gfu])), (gki, .inr (4, [.ref kw, .ref kf, .int kz])), (kw, .inl (k1, 20, .inr (.inl kgw))), (kf, .inl (k2, 20, .inl kgf))]) [9, 0, 1, 2, 3] rfl
              have hDc := hD.sub (ws' := [(h0, .inr (7, [.ref ptok, .ref pnee, .ref pnam, .int la, .ref pbui, .ref pdra, .int fu, .int fn, .int fp])), (pdra, .inr (9, [.ref gco, .ref gar, .ref gki, .ref gfu])), (gki, .inr (4, [.ref kw, .ref kf, .int kz])), (kw, .inl (k1, 20, .inr (.inl kgw))), (kf, .inl (k2, 20, .inl kgf))]) [9, 0, 1, 2, 3] (by decide) rfl
              have hKc := hK.sub (tys' := [(k1, .long), (k2, .int)]) [0, 1] rfl
              have hFc := va_free (wc := [(h0, .inr (7, [.ref ptok, .ref pnee, .ref pnam, .int la, .ref pbui, .ref pdra, .int fu, .int fn, .int fp])), (pdra, .inr (9, [.ref gco, .ref gar, .ref gki, .ref gfu])), (gki, .inr (4, [.ref kw, .ref kf, .int kz])), (kw, .inl (k1, 20, .inr (.inl kgw))), (kf, .inl (k2, 20, .inl kgf))]) hD hS hAA [9, 0, 1, 2, 3] rfl
              refine vy_callv (vy_runV (As := [.int ki, .int fi, .int pl]) (rest := []) ⟨hx, hb, hml, hown, hA⟩ (c_X7_toldToEnd_s l dC dI aK aV h0 ptok pnee pnam pbui pdra la fu fn fp gco gar gki gfu kw kf k1 k2 kz kgw kgf ki fi pl H.size hlt (by omega) (by omega) hkf (by omega) (by omega) (by omega) (by omega)) (cwV 3 hA (zw_V wi_974 wi_976 wi_22 wi_136 (zw_good wi_977)) rfl rfl rfl (by decide +kernel) ⟨(Nat.le_of_ble_eq_true rfl), (Nat.le_of_ble_eq_true rfl)⟩) ⟨zP_blind, va_recv hKc hPc (ci := 7) (q0 := 0) rfl rfl, zz_pre hKc hPc hDc hN hT hS hFc⟩ rfl rfl hl.1 rfl (lv_room (Nat.le_of_ble_eq_true rfl)) dX7_pattern_116 ⟨(Nat.le_of_ble_eq_true rfl), (Nat.le_of_ble_eq_true rfl)⟩) hS (fun q _ h => hFc q h) hFc (fun q _ h => hFc q h) (fun E9 ce9 q9 u t H1 locs ht hvm hw hB hz1 hk1 hS hcell hcv hcl => ?_) (fun u t H1 locs ht hvm hw hB hz1 hk1 hS => ?_)
              · obtain ⟨x_fn2_80, x_fp2_81⟩ := u
                obtain ⟨rfl, hP1, hK1, hD1⟩ := hB
                rw [ht] at hP1
                have hK1 := va_K.moved hvm.symm hK1
                obtain ⟨hP, hD⟩ := va_join (wr := [(pnam, .inl (nk, 24, .inr (.inl lg))), (gfu, .inr (3, [.ref fw, .ref fe, .ref ff, .int fz])), (fw, .inl (f1, 30, .inr (.inl fgw))), (fe, .inl (f2, 30, .inl fge)), (ff, .inl (f3, 150, .inl lf)), (ptok, .inr (10, [.ref ts, .ref tp, .ref tw, .int z, .int y_pa2_64, .int y_so2_65, .int y_pl2_66, .long y_wd2_67])), (ts, .inl (t1, 2001, .inl gs)), (tp, .inl (t2, 2001, .inl gp)), (tw, .inl (t3, 2001, .inr (.inl gw)))]) (w1 := [(h0, .inr (7, [.ref ptok, .ref pnee, .ref pnam, .int la, .ref pbui, .ref pdra, .int fu, .int x_fn2_80, .int x_fp2_81])), (pdra, .inr (9, [.ref gco, .ref gar, .ref gki, .ref gfu])), (gki, .inr (4, [.ref kw, .ref kf, .int kz])), (kw, .inl (k1, 20, .inr (.inl kgw))), (kf, .inl (k2, 20, .inl kgf))]) hP hD [9, 0, 1, 2, 3] [4, 5, 6, 7, 8, 10, 11, 12, 13] rfl rfl (by decide) (by decide) hk1 hFc hP1 hD1
                have hK := (hK.sub (tys' := [(nk, .long), (f1, .long), (f2, .int), (f3, .int), (t1, .int), (t2, .int), (t3, .long)]) [2, 3, 4, 5, 6, 7, 8] rfl).app hK1
                clear hPc hDc hFc hP1 hD1 hk1 hz1 ht hvm
                generalize H1 = H at hP hS hcell ⊢
                have hP : va_P (dC, dI) vwCl [(pnam, .inl (nk, 24, .inr (.inl lg))), (gfu, .inr (3, [.ref fw, .ref fe, .ref ff, .int fz])), (fw, .inl (f1, 30, .inr (.inl fgw))), (fe, .inl (f2, 30, .inl fge)), (ff, .inl (f3, 150, .inl lf)), (ptok, .inr (10, [.ref ts, .ref tp, .ref tw, .int z, .int y_pa2_64, .int y_so2_65, .int y_pl2_66, .long y_wd2_67])), (ts, .inl (t1, 2001, .inl gs)), (tp, .inl (t2, 2001, .inl gp)), (tw, .inl (t3, 2001, .inr (.inl gw))), (h0, .inr (7, [.ref ptok, .ref pnee, .ref pnam, .int la, .ref pbui, .ref pdra, .int fu, .int x_fn2_80, .int x_fp2_81])), (pdra, .inr (9, [.ref gco, .ref gar, .ref gki, .ref gfu])), (gki, .inr (4, [.ref kw, .ref kf, .int kz])), (kw, .inl (k1, 20, .inr (.inl kgw))), (kf, .inl (k2, 20, .inl kgf))] H := hP
                have hD : va_D A [(pnam, .inl (nk, 24, .inr (.inl lg))), (gfu, .inr (3, [.ref fw, .ref fe, .ref ff, .int fz])), (fw, .inl (f1, 30, .inr (.inl fgw))), (fe, .inl (f2, 30, .inl fge)), (ff, .inl (f3, 150, .inl lf)), (ptok, .inr (10, [.ref ts, .ref tp, .ref tw, .int z, .int y_pa2_64, .int y_so2_65, .int y_pl2_66, .long y_wd2_67])), (ts, .inl (t1, 2001, .inl gs)), (tp, .inl (t2, 2001, .inl gp)), (tw, .inl (t3, 2001, .inr (.inl gw))), (h0, .inr (7, [.ref ptok, .ref pnee, .ref pnam, .int la, .ref pbui, .ref pdra, .int fu, .int x_fn2_80, .int x_fp2_81])), (pdra, .inr (9, [.ref gco, .ref gar, .ref gki, .ref gfu])), (gki, .inr (4, [.ref kw, .ref kf, .int kz])), (kw, .inl (k1, 20, .inr (.inl kgw))), (kf, .inl (k2, 20, .inl kgf))] := hD
                have hK : va_K (dC, dI) vwCl [(nk, .long), (f1, .long), (f2, .int), (f3, .int), (t1, .int), (t2, .int), (t3, .long), (k1, .long), (k2, .int)] s := hK
                obtain ⟨hq_82, hq_83⟩ := hw
                try dsimp only at hq_82 hq_83
                refine vx_widen (k := 1) (n := 6) (Nat.le_of_ble_eq_true rfl) (Nat.le_of_ble_eq_true rfl) ?_
                have hP9 := hP.sub (ws' := [(h0, .inr (7, [.ref ptok, .ref pnee, .ref pnam, .int la, .ref pbui, .ref pdra, .int fu, .int x_fn2_80, .int x_fp2_81])), (ptok, .inr (10, [.ref ts, .ref tp, .ref tw, .int z, .int y_pa2_64, .int y_so2_65, .int y_pl2_66, .long y_wd2_67])), (ts, .inl (t1, 2001, .inl gs)), (tp, .inl (t2, 2001, .inl gp)), (tw, .inl (t3, 2001, .inr (.inl gw))), (pdra, .inr (9, [.ref gco, .ref gar, .ref gki, .ref gfu])), (gki, .inr (4, [.ref kw, .ref kf, .int kz])), (kw, .inl (k1, 20, .inr (.inl kgw))), (kf, .inl (k2, 20, .inl kgf)), (pnam, .inl (nk, 24, .inr (.inl lg))), (gfu, .inr (3, [.ref fw, .ref fe, .ref ff, .int fz])), (fw, .inl (f1, 30, .inr (.inl fgw))), (fe, .inl (f2, 30, .inl fge)), (ff, .inl (f3, 150, .inl lf))]) [9, 5, 6, 7, 8, 10, 11, 12, 13, 0, 1, 2, 3, 4] rfl
                have hD9 := hD.sub (ws' := [(h0, .inr (7, [.ref ptok, .ref pnee, .ref pnam, .int la, .ref pbui, .ref pdra, .int fu, .int x_fn2_80, .int x_fp2_81])), (ptok, .inr (10, [.ref ts, .ref tp, .ref tw, .int z, .int y_pa2_64, .int y_so2_65, .int y_pl2_66, .long y_wd2_67])), (ts, .inl (t1, 2001, .inl gs)), (tp, .inl (t2, 2001, .inl gp)), (tw, .inl (t3, 2001, .inr (.inl gw))), (pdra, .inr (9, [.ref gco, .ref gar, .ref gki, .ref gfu])), (gki, .inr (4, [.ref kw, .ref kf, .int kz])), (kw, .inl (k1, 20, .inr (.inl kgw))), (kf, .inl (k2, 20, .inl kgf)), (pnam, .inl (nk, 24, .inr (.inl lg))), (gfu, .inr (3, [.ref fw, .ref fe, .ref ff, .int fz])), (fw, .inl (f1, 30, .inr (.inl fgw))), (fe, .inl (f2, 30, .inl fge)), (ff, .inl (f3, 150, .inl lf))]) [9, 5, 6, 7, 8, 10, 11, 12, 13, 0, 1, 2, 3, 4] (by decide) rfl
                have hK9 := hK.sub (tys' := [(t1, .int), (t2, .int), (t3, .long), (k1, .long), (k2, .int), (nk, .long), (f1, .long), (f2, .int), (f3, .int)]) [4, 5, 6, 7, 8, 0, 1, 2, 3] rfl
                exact vy_monoX vy_thr (vx_out (fun x hx => (hnh x hx).elim) hlocks hcell hcv hcl (fun t ht hvm => ⟨(y_pa2_64, y_so2_65, y_pl2_66, y_wd2_67, la, lg, lf, x_fn2_80, x_fp2_81), ⟨by omega, by omega, by omega, by omega, by omega, by omega, by omega, (show Int32.toInt x_fp2_81 = Int32.toInt (gp (Int32.toNatClampNeg pa)) by omega).trans (pf_pa_y (c := Int32.toNatClampNeg lp) (M := lM) hnpa_2 (by omega) (by rw [hnpa_2]; exact hM5 (by omega)) (by omega)).symm, sp_pq_yx hnpa_2 (by omega) (by rw [hnpa_2]; exact hM5 (by omega)) (by omega) hny_pa2_64 hM2 hq_83⟩, ⟨rfl, by rw [ht]; exact hP9, va_K.moved hvm hK9, hD9⟩, hS.F ht⟩) hS.2.2 (Nat.le_of_ble_eq_true rfl) (Nat.le_of_ble_eq_true rfl))
              · obtain ⟨y_kgf2_84, rfl⟩ : ∃ z, z = u := ⟨_, rfl⟩
                obtain ⟨hP1, hK1, hD1⟩ := hB
                rw [ht] at hP1
                have hK1 := va_K.moved hvm.symm hK1
                obtain ⟨hP, hD⟩ := va_join (wr := [(pnam, .inl (nk, 24, .inr (.inl lg))), (gfu, .inr (3, [.ref fw, .ref fe, .ref ff, .int fz])), (fw, .inl (f1, 30, .inr (.inl fgw))), (fe, .inl (f2, 30, .inl fge)), (ff, .inl (f3, 150, .inl lf)), (ptok, .inr (10, [.ref ts, .ref tp, .ref tw, .int z, .int y_pa2_64, .int y_so2_65, .int y_pl2_66, .long y_wd2_67])), (ts, .inl (t1, 2001, .inl gs)), (tp, .inl (t2, 2001, .inl gp)), (tw, .inl (t3, 2001, .inr (.inl gw)))]) (w1 := [(h0, .inr (7, [.ref ptok, .ref pnee, .ref pnam, .int la, .ref pbui, .ref pdra, .int fu, .int fn, .int fp])), (pdra, .inr (9, [.ref gco, .ref gar, .ref gki, .ref gfu])), (gki, .inr (4, [.ref kw, .ref kf, .int kz])), (kw, .inl (k1, 20, .inr (.inl kgw))), (kf, .inl (k2, 20, .inl y_kgf2_84))]) hP hD [9, 0, 1, 2, 3] [4, 5, 6, 7, 8, 10, 11, 12, 13] rfl rfl (by decide) (by decide) hk1 hFc hP1 hD1
                have hK := (hK.sub (tys' := [(nk, .long), (f1, .long), (f2, .int), (f3, .int), (t1, .int), (t2, .int), (t3, .long)]) [2, 3, 4, 5, 6, 7, 8] rfl).app hK1
                clear hPc hDc hFc hP1 hD1 hk1 hz1 ht hvm
                generalize H1 = H at hP hS ⊢
                have hP : va_P (dC, dI) vwCl [(pnam, .inl (nk, 24, .inr (.inl lg))), (gfu, .inr (3, [.ref fw, .ref fe, .ref ff, .int fz])), (fw, .inl (f1, 30, .inr (.inl fgw))), (fe, .inl (f2, 30, .inl fge)), (ff, .inl (f3, 150, .inl lf)), (ptok, .inr (10, [.ref ts, .ref tp, .ref tw, .int z, .int y_pa2_64, .int y_so2_65, .int y_pl2_66, .long y_wd2_67])), (ts, .inl (t1, 2001, .inl gs)), (tp, .inl (t2, 2001, .inl gp)), (tw, .inl (t3, 2001, .inr (.inl gw))), (h0, .inr (7, [.ref ptok, .ref pnee, .ref pnam, .int la, .ref pbui, .ref pdra, .int fu, .int fn, .int fp])), (pdra, .inr (9, [.ref gco, .ref gar, .ref gki, .ref gfu])), (gki, .inr (4, [.ref kw, .ref kf, .int kz])), (kw, .inl (k1, 20, .inr (.inl kgw))), (kf, .inl (k2, 20, .inl y_kgf2_84))] H := hP
                have hD : va_D A [(pnam, .inl (nk, 24, .inr (.inl lg))), (gfu, .inr (3, [.ref fw, .ref fe, .ref ff, .int fz])), (fw, .inl (f1, 30, .inr (.inl fgw))), (fe, .inl (f2, 30, .inl fge)), (ff, .inl (f3, 150, .inl lf)), (ptok, .inr (10, [.ref ts, .ref tp, .ref tw, .int z, .int y_pa2_64, .int y_so2_65, .int y_pl2_66, .long y_wd2_67])), (ts, .inl (t1, 2001, .inl gs)), (tp, .inl (t2, 2001, .inl gp)), (tw, .inl (t3, 2001, .inr (.inl gw))), (h0, .inr (7, [.ref ptok, .ref pnee, .ref pnam, .int la, .ref pbui, .ref pdra, .int fu, .int fn, .int fp])), (pdra, .inr (9, [.ref gco, .ref gar, .ref gki, .ref gfu])), (gki, .inr (4, [.ref kw, .ref kf, .int kz])), (kw, .inl (k1, 20, .inr (.inl kgw))), (kf, .inl (k2, 20, .inl y_kgf2_84))] := hD
                have hK : va_K (dC, dI) vwCl [(nk, .long), (f1, .long), (f2, .int), (f3, .int), (t1, .int), (t2, .int), (t3, .long), (k1, .long), (k2, .int)] s := hK
                refine W.widen (k := 0) (n := 0) (Nat.le_of_ble_eq_true rfl) (Nat.le_of_ble_eq_true rfl) ?_
                obtain ⟨hq_85, hq_86, hq_87, hq_88⟩ := hw
                have hP9 := hP.sub (ws' := [(h0, .inr (7, [.ref ptok, .ref pnee, .ref pnam, .int la, .ref pbui, .ref pdra, .int fu, .int fn, .int fp])), (ptok, .inr (10, [.ref ts, .ref tp, .ref tw, .int z, .int y_pa2_64, .int y_so2_65, .int y_pl2_66, .long y_wd2_67])), (ts, .inl (t1, 2001, .inl gs)), (tp, .inl (t2, 2001, .inl gp)), (tw, .inl (t3, 2001, .inr (.inl gw))), (pdra, .inr (9, [.ref gco, .ref gar, .ref gki, .ref gfu])), (gki, .inr (4, [.ref kw, .ref kf, .int kz])), (kw, .inl (k1, 20, .inr (.inl kgw))), (kf, .inl (k2, 20, .inl y_kgf2_84)), (pnam, .inl (nk, 24, .inr (.inl lg))), (gfu, .inr (3, [.ref fw, .ref fe, .ref ff, .int fz])), (fw, .inl (f1, 30, .inr (.inl fgw))), (fe, .inl (f2, 30, .inl fge)), (ff, .inl (f3, 150, .inl lf))]) [9, 5, 6, 7, 8, 10, 11, 12, 13, 0, 1, 2, 3, 4] rfl
                have hD9 := hD.sub (ws' := [(h0, .inr (7, [.ref ptok, .ref pnee, .ref pnam, .int la, .ref pbui, .ref pdra, .int fu, .int fn, .int fp])), (ptok, .inr (10, [.ref ts, .ref tp, .ref tw, .int z, .int y_pa2_64, .int y_so2_65, .int y_pl2_66, .long y_wd2_67])), (ts, .inl (t1, 2001, .inl gs)), (tp, .inl (t2, 2001, .inl gp)), (tw, .inl (t3, 2001, .inr (.inl gw))), (pdra, .inr (9, [.ref gco, .ref gar, .ref gki, .ref gfu])), (gki, .inr (4, [.ref kw, .ref kf, .int kz])), (kw, .inl (k1, 20, .inr (.inl kgw))), (kf, .inl (k2, 20, .inl y_kgf2_84)), (pnam, .inl (nk, 24, .inr (.inl lg))), (gfu, .inr (3, [.ref fw, .ref fe, .ref ff, .int fz])), (fw, .inl (f1, 30, .inr (.inl fgw))), (fe, .inl (f2, 30, .inl fge)), (ff, .inl (f3, 150, .inl lf))]) [9, 5, 6, 7, 8, 10, 11, 12, 13, 0, 1, 2, 3, 4] (by decide) rfl
                have hK9 := hK.sub (tys' := [(t1, .int), (t2, .int), (t3, .long), (k1, .long), (k2, .int), (nk, .long), (f1, .long), (f2, .int), (f3, .int)]) [4, 5, 6, 7, 8, 0, 1, 2, 3] rfl
                exact vy_mono vy_ret (vx_ret (W.vret hx hb hr (fun t ht hW => ⟨⟨(y_pa2_64, y_so2_65, y_pl2_66, y_wd2_67, la, lg, lf, y_kgf2_84), rfl, ⟨by omega, by omega, by omega, by omega, by omega, by omega, by omega, hq_85, (by rw [hq_86]; have h9 : Int32.toInt 0 = 0 := (by decide); omega), hq_87, by omega, by omega, hlff, hq_74, by omega, by omega, by omega, hq_78, hlcf, ⟨lM, hM1, sp_pq_y hnpa_2 (by omega) (by rw [hnpa_2]; exact hM5 (by omega)) (by omega) hny_pa2_64 hM2 hq_88⟩⟩, by rw [ht]; exact hP9, va_K.moved hW.alike hK9, hD9⟩, hS.F ht⟩) hS.2.2 dX7_pattern_119))
          · have ic_58 : fi.toInt ≤ 3 := zi_nlt c_58
            refine lv_aload_n hx hb dX7_pattern_42 rfl (lv_at hl 3 rfl) ?_
            refine va_get (D := (dC, dI)) (ci := 7) (v := .ref ptok) (C := RX7) (T := TX7) (N := 9) hx hb hA zin_X7 hown hK hP 0 rfl rfl 0 (by decide) (hA _ wi_387) (fun _ h9 => h9) rfl dX7_pattern_43 ?_
            have hPc := hP.sub (ws' := [(ptok, .inr (10, [.ref ts, .ref tp, .ref tw, .int z, .int lp, .int ls_, .int ll, .long lw])), (ts, .inl (t1, 2001, .inl gs)), (tp, .inl (t2, 2001, .inl gp)), (tw, .inl (t3, 2001, .inr (.inl gw)))]) [10, 11, 12, 13] rfl
            have hDc := hD.sub (ws' := [(ptok, .inr (10, [.ref ts, .ref tp, .ref tw, .int z, .int lp, .int ls_, .int ll, .long lw])), (ts, .inl (t1, 2001, .inl gs)), (tp, .inl (t2, 2001, .inl gp)), (tw, .inl (t3, 2001, .inr (.inl gw)))]) [10, 11, 12, 13] (by decide) rfl
            have hKc := hK.sub (tys' := [(t1, .int), (t2, .int), (t3, .long)]) [6, 7, 8] rfl
            have hFc := va_free (wc := [(ptok, .inr (10, [.ref ts, .ref tp, .ref tw, .int z, .int lp, .int ls_, .int ll, .long lw])), (ts, .inl (t1, 2001, .inl gs)), (tp, .inl (t2, 2001, .inl gp)), (tw, .inl (t3, 2001, .inr (.inl gw)))]) hD hS hAA [10, 11, 12, 13] rfl
            refine va_callv (va_runV (As := []) (rest := []) ⟨hx, hb, hml, hown, hA⟩ (c_X10_advance_s l dC dI aK aV ptok ts tp tw t1 t2 t3 z lp ls_ ll lw gs gp gw H.size (by omega) (by omega) (by omega) (by omega) hgz hlpt) (cwV 0 hA (zw_V wi_881 wi_775 wi_776 wi_137 (zw_good wi_777)) rfl rfl rfl (by decide +kernel) ⟨(Nat.le_of_ble_eq_true rfl), (Nat.le_of_ble_eq_true rfl)⟩) ⟨zP_blind, va_recv hKc hPc (ci := 10) (q0 := 0) rfl rfl, zz_pre hKc hPc hDc hN hT hS hFc⟩ rfl rfl hl.1 rfl (lv_room (Nat.le_of_ble_eq_true rfl)) dX7_pattern_46 ⟨(Nat.le_of_ble_eq_true rfl), (Nat.le_of_ble_eq_true rfl)⟩) hS (fun q _ h => hFc q h) hFc (fun u t H1 locs ht hvm hw hB hz1 hk1 hS => ?_)
            obtain ⟨pa_90, so_91, pl_92, wd_93⟩ := u
            obtain ⟨hP1, hK1, hD1⟩ := hB
            rw [ht] at hP1
            have hK1 := va_K.moved hvm.symm hK1
            obtain ⟨hP, hD⟩ := va_join (wr := [(h0, .inr (7, [.ref ptok, .ref pnee, .ref pnam, .int la, .ref pbui, .ref pdra, .int fu, .int fn, .int fp])), (pdra, .inr (9, [.ref gco, .ref gar, .ref gki, .ref gfu])), (gki, .inr (4, [.ref kw, .ref kf, .int kz])), (kw, .inl (k1, 20, .inr (.inl kgw))), (kf, .inl (k2, 20, .inl kgf)), (pnam, .inl (nk, 24, .inr (.inl lg))), (gfu, .inr (3, [.ref fw, .ref fe, .ref ff, .int fz])), (fw, .inl (f1, 30, .inr (.inl fgw))), (fe, .inl (f2, 30, .inl fge)), (ff, .inl (f3, 150, .inl lf))]) (w1 := [(ptok, .inr (10, [.ref ts, .ref tp, .ref tw, .int z, .int pa_90, .int so_91, .int pl_92, .long wd_93])), (ts, .inl (t1, 2001, .inl gs)), (tp, .inl (t2, 2001, .inl gp)), (tw, .inl (t3, 2001, .inr (.inl gw)))]) hP hD [10, 11, 12, 13] [0, 1, 2, 3, 4, 5, 6, 7, 8, 9] rfl rfl (by decide) (by decide) hk1 hFc hP1 hD1
            have hK := (hK.sub (tys' := [(k1, .long), (k2, .int), (nk, .long), (f1, .long), (f2, .int), (f3, .int)]) [0, 1, 2, 3, 4, 5] rfl).app hK1
            generalize H1 = H at hP hS ⊢
            have hP : va_P (dC, dI) vwCl [(h0, .inr (7, [.ref ptok, .ref pnee, .ref pnam, .int la, .ref pbui, .ref pdra, .int fu, .int fn, .int fp])), (pdra, .inr (9, [.ref gco, .ref gar, .ref gki, .ref gfu])), (gki, .inr (4, [.ref kw, .ref kf, .int kz])), (kw, .inl (k1, 20, .inr (.inl kgw))), (kf, .inl (k2, 20, .inl kgf)), (pnam, .inl (nk, 24, .inr (.inl lg))), (gfu, .inr (3, [.ref fw, .ref fe, .ref ff, .int fz])), (fw, .inl (f1, 30, .inr (.inl fgw))), (fe, .inl (f2, 30, .inl fge)), (ff, .inl (f3, 150, .inl lf)), (ptok, .inr (10, [.ref ts, .ref tp, .ref tw, .int z, .int pa_90, .int so_91, .int pl_92, .long wd_93])), (ts, .inl (t1, 2001, .inl gs)), (tp, .inl (t2, 2001, .inl gp)), (tw, .inl (t3, 2001, .inr (.inl gw)))] H := hP
            have hD : va_D A [(h0, .inr (7, [.ref ptok, .ref pnee, .ref pnam, .int la, .ref pbui, .ref pdra, .int fu, .int fn, .int fp])), (pdra, .inr (9, [.ref gco, .ref gar, .ref gki, .ref gfu])), (gki, .inr (4, [.ref kw, .ref kf, .int kz])), (kw, .inl (k1, 20, .inr (.inl kgw))), (kf, .inl (k2, 20, .inl kgf)), (pnam, .inl (nk, 24, .inr (.inl lg))), (gfu, .inr (3, [.ref fw, .ref fe, .ref ff, .int fz])), (fw, .inl (f1, 30, .inr (.inl fgw))), (fe, .inl (f2, 30, .inl fge)), (ff, .inl (f3, 150, .inl lf)), (ptok, .inr (10, [.ref ts, .ref tp, .ref tw, .int z, .int pa_90, .int so_91, .int pl_92, .long wd_93])), (ts, .inl (t1, 2001, .inl gs)), (tp, .inl (t2, 2001, .inl gp)), (tw, .inl (t3, 2001, .inr (.inl gw)))] := hD
            have hK : va_K (dC, dI) vwCl [(k1, .long), (k2, .int), (nk, .long), (f1, .long), (f2, .int), (f3, .int), (t1, .int), (t2, .int), (t3, .long)] s := hK
            obtain ⟨hq_94, hq_95, hq_96, hq_97, hq_98, hq_99, hq_100, hq_101, hq_102, hq_103⟩ := hw
            have htpa_90 : Int32.toInt (gs (Int32.toNatClampNeg pa_90)) = so_91.toInt := by rw [hq_99.2.2]
            have hppa_90 : Int32.toInt (gp (Int32.toNatClampNeg pa_90)) = pl_92.toInt := by rw [hq_99.2.1]
            have hnpa_90 : Int32.toNatClampNeg pa_90 = Int32.toNatClampNeg lp + 1 := zn_1 (by omega) (by omega)
            refine lv_aload_n hx hb dX7_pattern_49 rfl (lv_at hl 3 rfl) ?_
            have hPc := hP.sub (ws' := [(h0, .inr (7, [.ref ptok, .ref pnee, .ref pnam, .int la, .ref pbui, .ref pdra, .int fu, .int fn, .int fp])), (ptok, .inr (10, [.ref ts, .ref tp, .ref tw, .int z, .int pa_90, .int so_91, .int pl_92, .long wd_93])), (ts, .inl (t1, 2001, .inl gs)), (tp, .inl (t2, 2001, .inl gp)), (tw, .inl (t3, 2001, .inr (.inl gw))), (pdra, .inr (9, [.ref gco, .ref gar, .ref gki, .ref gfu])), (gki, .inr (4, [.ref kw, .ref kf, .int kz])), (kw, .inl (k1, 20, .inr (.inl kgw))), (kf, .inl (k2, 20, .inl kgf)), (pnam, .inl (nk, 24, .inr (.inl lg)))]) [0, 10, 11, 12, 13, 1, 2, 3, 4, 5] rfl
            have hDc := hD.sub (ws' := [(h0, .inr (7, [.ref ptok, .ref pnee, .ref pnam, .int la, .ref pbui, .ref pdra, .int fu, .int fn, .int fp])), (ptok, .inr (10, [.ref ts, .ref tp, .ref tw, .int z, .int pa_90, .int so_91, .int pl_92, .long wd_93])), (ts, .inl (t1, 2001, .inl gs)), (tp, .inl (t2, 2001, .inl gp)), (tw, .inl (t3, 2001, .inr (.inl gw))), (pdra, .inr (9, [.ref gco, .ref gar, .ref gki, .ref gfu])), (gki, .inr (4, [.ref kw, .ref kf, .int kz])), (kw, .inl (k1, 20, .inr (.inl kgw))), (kf, .inl (k2, 20, .inl kgf)), (pnam, .inl (nk, 24, .inr (.inl lg)))]) [0, 10, 11, 12, 13, 1, 2, 3, 4, 5] (by decide) rfl
            have hKc := hK.sub (tys' := [(t1, .int), (t2, .int), (t3, .long), (k1, .long), (k2, .int), (nk, .long)]) [6, 7, 8, 0, 1, 2] rfl
            have hFc := va_free (wc := [(h0, .inr (7, [.ref ptok, .ref pnee, .ref pnam, .int la, .ref pbui, .ref pdra, .int fu, .int fn, .int fp])), (ptok, .inr (10, [.ref ts, .ref tp, .ref tw, .int z, .int pa_90, .int so_91, .int pl_92, .long wd_93])), (ts, .inl (t1, 2001, .inl gs)), (tp, .inl (t2, 2001, .inl gp)), (tw, .inl (t3, 2001, .inr (.inl gw))), (pdra, .inr (9, [.ref gco, .ref gar, .ref gki, .ref gfu])), (gki, .inr (4, [.ref kw, .ref kf, .int kz])), (kw, .inl (k1, 20, .inr (.inl kgw))), (kf, .inl (k2, 20, .inl kgf)), (pnam, .inl (nk, 24, .inr (.inl lg)))]) hD hS hAA [0, 10, 11, 12, 13, 1, 2, 3, 4, 5] rfl
            refine vy_callv (vy_runV (As := []) (rest := []) ⟨hx, hb, hml, hown, hA⟩ (c_X7_newName_s l dC dI aK aV h0 ptok pnee pnam pbui pdra la fu fn fp ts tp tw t1 t2 t3 z pa_90 so_91 pl_92 wd_93 gs gp gw gco gar gki gfu kw kf k1 k2 kz kgw kgf nk lg (gN ++ lM) H.size hlt (by omega) (by omega) (by omega) (by omega) hgz (by omega) (by omega) hkf (by omega) (by omega) hM1) (cwV 0 hA (zw_V wi_894 wi_896 wi_10 wi_136 (zw_good wi_897)) rfl rfl rfl (by decide +kernel) ⟨(Nat.le_of_ble_eq_true rfl), (Nat.le_of_ble_eq_true rfl)⟩) ⟨zP_blind, va_recv hKc hPc (ci := 7) (q0 := 0) rfl rfl, zz_pre hKc hPc hDc hN hT hS hFc⟩ rfl rfl hl.1 rfl (lv_room (Nat.le_of_ble_eq_true rfl)) dX7_pattern_50 ⟨(Nat.le_of_ble_eq_true rfl), (Nat.le_of_ble_eq_true rfl)⟩) hS (fun q _ h => hFc q h) hFc (fun q _ h => hFc q h) (fun E9 ce9 q9 u t H1 locs ht hvm hw hB hz1 hk1 hS hcell hcv hcl => ?_) (fun u t H1 locs ht hvm hw hB hz1 hk1 hS => ?_)
            · obtain ⟨x_fn2_105, x_fp2_106⟩ := u
              obtain ⟨rfl, hP1, hK1, hD1⟩ := hB
              rw [ht] at hP1
              have hK1 := va_K.moved hvm.symm hK1
              obtain ⟨hP, hD⟩ := va_join (wr := [(gfu, .inr (3, [.ref fw, .ref fe, .ref ff, .int fz])), (fw, .inl (f1, 30, .inr (.inl fgw))), (fe, .inl (f2, 30, .inl fge)), (ff, .inl (f3, 150, .inl lf))]) (w1 := [(h0, .inr (7, [.ref ptok, .ref pnee, .ref pnam, .int la, .ref pbui, .ref pdra, .int fu, .int x_fn2_105, .int x_fp2_106])), (ptok, .inr (10, [.ref ts, .ref tp, .ref tw, .int z, .int pa_90, .int so_91, .int pl_92, .long wd_93])), (ts, .inl (t1, 2001, .inl gs)), (tp, .inl (t2, 2001, .inl gp)), (tw, .inl (t3, 2001, .inr (.inl gw))), (pdra, .inr (9, [.ref gco, .ref gar, .ref gki, .ref gfu])), (gki, .inr (4, [.ref kw, .ref kf, .int kz])), (kw, .inl (k1, 20, .inr (.inl kgw))), (kf, .inl (k2, 20, .inl kgf)), (pnam, .inl (nk, 24, .inr (.inl lg)))]) hP hD [0, 10, 11, 12, 13, 1, 2, 3, 4, 5] [6, 7, 8, 9] rfl rfl (by decide) (by decide) hk1 hFc hP1 hD1
              have hK := (hK.sub (tys' := [(f1, .long), (f2, .int), (f3, .int)]) [3, 4, 5] rfl).app hK1
              clear hPc hDc hFc hP1 hD1 hk1 hz1 ht hvm
              generalize H1 = H at hP hS hcell ⊢
              have hP : va_P (dC, dI) vwCl [(gfu, .inr (3, [.ref fw, .ref fe, .ref ff, .int fz])), (fw, .inl (f1, 30, .inr (.inl fgw))), (fe, .inl (f2, 30, .inl fge)), (ff, .inl (f3, 150, .inl lf)), (h0, .inr (7, [.ref ptok, .ref pnee, .ref pnam, .int la, .ref pbui, .ref pdra, .int fu, .int x_fn2_105, .int x_fp2_106])), (ptok, .inr (10, [.ref ts, .ref tp, .ref tw, .int z, .int pa_90, .int so_91, .int pl_92, .long wd_93])), (ts, .inl (t1, 2001, .inl gs)), (tp, .inl (t2, 2001, .inl gp)), (tw, .inl (t3, 2001, .inr (.inl gw))), (pdra, .inr (9, [.ref gco, .ref gar, .ref gki, .ref gfu])), (gki, .inr (4, [.ref kw, .ref kf, .int kz])), (kw, .inl (k1, 20, .inr (.inl kgw))), (kf, .inl (k2, 20, .inl kgf)), (pnam, .inl (nk, 24, .inr (.inl lg)))] H := hP
              have hD : va_D A [(gfu, .inr (3, [.ref fw, .ref fe, .ref ff, .int fz])), (fw, .inl (f1, 30, .inr (.inl fgw))), (fe, .inl (f2, 30, .inl fge)), (ff, .inl (f3, 150, .inl lf)), (h0, .inr (7, [.ref ptok, .ref pnee, .ref pnam, .int la, .ref pbui, .ref pdra, .int fu, .int x_fn2_105, .int x_fp2_106])), (ptok, .inr (10, [.ref ts, .ref tp, .ref tw, .int z, .int pa_90, .int so_91, .int pl_92, .long wd_93])), (ts, .inl (t1, 2001, .inl gs)), (tp, .inl (t2, 2001, .inl gp)), (tw, .inl (t3, 2001, .inr (.inl gw))), (pdra, .inr (9, [.ref gco, .ref gar, .ref gki, .ref gfu])), (gki, .inr (4, [.ref kw, .ref kf, .int kz])), (kw, .inl (k1, 20, .inr (.inl kgw))), (kf, .inl (k2, 20, .inl kgf)), (pnam, .inl (nk, 24, .inr (.inl lg)))] := hD
              have hK : va_K (dC, dI) vwCl [(f1, .long), (f2, .int), (f3, .int), (t1, .int), (t2, .int), (t3, .long), (k1, .long), (k2, .int), (nk, .long)] s := hK
              obtain ⟨hq_107, hq_108⟩ := hw
              try dsimp only at hq_107 hq_108
              refine vx_widen (k := 1) (n := 6) (Nat.le_of_ble_eq_true rfl) (Nat.le_of_ble_eq_true rfl) ?_
              have hP9 := hP.sub (ws' := [(h0, .inr (7, [.ref ptok, .ref pnee, .ref pnam, .int la, .ref pbui, .ref pdra, .int fu, .int x_fn2_105, .int x_fp2_106])), (ptok, .inr (10, [.ref ts, .ref tp, .ref tw, .int z, .int pa_90, .int so_91, .int pl_92, .long wd_93])), (ts, .inl (t1, 2001, .inl gs)), (tp, .inl (t2, 2001, .inl gp)), (tw, .inl (t3, 2001, .inr (.inl gw))), (pdra, .inr (9, [.ref gco, .ref gar, .ref gki, .ref gfu])), (gki, .inr (4, [.ref kw, .ref kf, .int kz])), (kw, .inl (k1, 20, .inr (.inl kgw))), (kf, .inl (k2, 20, .inl kgf)), (pnam, .inl (nk, 24, .inr (.inl lg))), (gfu, .inr (3, [.ref fw, .ref fe, .ref ff, .int fz])), (fw, .inl (f1, 30, .inr (.inl fgw))), (fe, .inl (f2, 30, .inl fge)), (ff, .inl (f3, 150, .inl lf))]) [4, 5, 6, 7, 8, 9, 10, 11, 12, 13, 0, 1, 2, 3] rfl
              have hD9 := hD.sub (ws' := [(h0, .inr (7, [.ref ptok, .ref pnee, .ref pnam, .int la, .ref pbui, .ref pdra, .int fu, .int x_fn2_105, .int x_fp2_106])), (ptok, .inr (10, [.ref ts, .ref tp, .ref tw, .int z, .int pa_90, .int so_91, .int pl_92, .long wd_93])), (ts, .inl (t1, 2001, .inl gs)), (tp, .inl (t2, 2001, .inl gp)), (tw, .inl (t3, 2001, .inr (.inl gw))), (pdra, .inr (9, [.ref gco, .ref gar, .ref gki, .ref gfu])), (gki, .inr (4, [.ref kw, .ref kf, .int kz])), (kw, .inl (k1, 20, .inr (.inl kgw))), (kf, .inl (k2, 20, .inl kgf)), (pnam, .inl (nk, 24, .inr (.inl lg))), (gfu, .inr (3, [.ref fw, .ref fe, .ref ff, .int fz])), (fw, .inl (f1, 30, .inr (.inl fgw))), (fe, .inl (f2, 30, .inl fge)), (ff, .inl (f3, 150, .inl lf))]) [4, 5, 6, 7, 8, 9, 10, 11, 12, 13, 0, 1, 2, 3] (by decide) rfl
              have hK9 := hK.sub (tys' := [(t1, .int), (t2, .int), (t3, .long), (k1, .long), (k2, .int), (nk, .long), (f1, .long), (f2, .int), (f3, .int)]) [3, 4, 5, 6, 7, 8, 0, 1, 2] rfl
              exact vy_monoX vy_thr (vx_out (fun x hx => (hnh x hx).elim) hlocks hcell hcv hcl (fun t ht hvm => ⟨(pa_90, so_91, pl_92, wd_93, la, lg, lf, x_fn2_105, x_fp2_106), ⟨by omega, by omega, by omega, by omega, by omega, by omega, by omega, (show Int32.toInt x_fp2_106 = Int32.toInt (gp (Int32.toNatClampNeg pa_90)) by omega).trans (pf_pa_x hnpa_2 (by omega) (by rw [hnpa_2, hM4 (by omega)]; exact sp_pn_x hM1 hnpa_90 htpa_90 hq_103 hq_108 _) (by rw [hnpa_2]; exact (hM6 (by omega)).trans (pf_pn_x hM1 hnpa_90 htpa_90 hq_103 hq_108 _))).symm, sp_pq_x hnpa_2 (by omega) (by rw [hnpa_2, hM4 (by omega)]; exact sp_pn_x hM1 hnpa_90 htpa_90 hq_103 hq_108 _)⟩, ⟨rfl, by rw [ht]; exact hP9, va_K.moved hvm hK9, hD9⟩, hS.F ht⟩) hS.2.2 (Nat.le_of_ble_eq_true rfl) (Nat.le_of_ble_eq_true rfl))
            · obtain ⟨hP1, hK1, hD1⟩ := hB
              rw [ht] at hP1
              have hK1 := va_K.moved hvm.symm hK1
              obtain ⟨hP, hD⟩ := va_join (wr := [(gfu, .inr (3, [.ref fw, .ref fe, .ref ff, .int fz])), (fw, .inl (f1, 30, .inr (.inl fgw))), (fe, .inl (f2, 30, .inl fge)), (ff, .inl (f3, 150, .inl lf))]) (w1 := [(h0, .inr (7, [.ref ptok, .ref pnee, .ref pnam, .int la, .ref pbui, .ref pdra, .int fu, .int fn, .int fp])), (ptok, .inr (10, [.ref ts, .ref tp, .ref tw, .int z, .int pa_90, .int so_91, .int pl_92, .long wd_93])), (ts, .inl (t1, 2001, .inl gs)), (tp, .inl (t2, 2001, .inl gp)), (tw, .inl (t3, 2001, .inr (.inl gw))), (pdra, .inr (9, [.ref gco, .ref gar, .ref gki, .ref gfu])), (gki, .inr (4, [.ref kw, .ref kf, .int kz])), (kw, .inl (k1, 20, .inr (.inl kgw))), (kf, .inl (k2, 20, .inl kgf)), (pnam, .inl (nk, 24, .inr (.inl lg)))]) hP hD [0, 10, 11, 12, 13, 1, 2, 3, 4, 5] [6, 7, 8, 9] rfl rfl (by decide) (by decide) hk1 hFc hP1 hD1
              have hK := (hK.sub (tys' := [(f1, .long), (f2, .int), (f3, .int)]) [3, 4, 5] rfl).app hK1
              clear hPc hDc hFc hP1 hD1 hk1 hz1 ht hvm
              generalize H1 = H at hP hS ⊢
              have hP : va_P (dC, dI) vwCl [(gfu, .inr (3, [.ref fw, .ref fe, .ref ff, .int fz])), (fw, .inl (f1, 30, .inr (.inl fgw))), (fe, .inl (f2, 30, .inl fge)), (ff, .inl (f3, 150, .inl lf)), (h0, .inr (7, [.ref ptok, .ref pnee, .ref pnam, .int la, .ref pbui, .ref pdra, .int fu, .int fn, .int fp])), (ptok, .inr (10, [.ref ts, .ref tp, .ref tw, .int z, .int pa_90, .int so_91, .int pl_92, .long wd_93])), (ts, .inl (t1, 2001, .inl gs)), (tp, .inl (t2, 2001, .inl gp)), (tw, .inl (t3, 2001, .inr (.inl gw))), (pdra, .inr (9, [.ref gco, .ref gar, .ref gki, .ref gfu])), (gki, .inr (4, [.ref kw, .ref kf, .int kz])), (kw, .inl (k1, 20, .inr (.inl kgw))), (kf, .inl (k2, 20, .inl kgf)), (pnam, .inl (nk, 24, .inr (.inl lg)))] H := hP
              have hD : va_D A [(gfu, .inr (3, [.ref fw, .ref fe, .ref ff, .int fz])), (fw, .inl (f1, 30, .inr (.inl fgw))), (fe, .inl (f2, 30, .inl fge)), (ff, .inl (f3, 150, .inl lf)), (h0, .inr (7, [.ref ptok, .ref pnee, .ref pnam, .int la, .ref pbui, .ref pdra, .int fu, .int fn, .int fp])), (ptok, .inr (10, [.ref ts, .ref tp, .ref tw, .int z, .int pa_90, .int so_91, .int pl_92, .long wd_93])), (ts, .inl (t1, 2001, .inl gs)), (tp, .inl (t2, 2001, .inl gp)), (tw, .inl (t3, 2001, .inr (.inl gw))), (pdra, .inr (9, [.ref gco, .ref gar, .ref gki, .ref gfu])), (gki, .inr (4, [.ref kw, .ref kf, .int kz])), (kw, .inl (k1, 20, .inr (.inl kgw))), (kf, .inl (k2, 20, .inl kgf)), (pnam, .inl (nk, 24, .inr (.inl lg)))] := hD
              have hK : va_K (dC, dI) vwCl [(f1, .long), (f2, .int), (f3, .int), (t1, .int), (t2, .int), (t3, .long), (k1, .long), (k2, .int), (nk, .long)] s := hK
              refine W.widen (k := 0) (n := 0) (Nat.le_of_ble_eq_true rfl) (Nat.le_of_ble_eq_true rfl) ?_
              obtain ⟨hq_109, hq_110, hq_111⟩ := hw
              refine lv_iload_n hx hb dX7_pattern_53 rfl (lv_at hl 1 rfl) ?_
              refine lv_iconst (v := 3) hx hb dX7_pattern_54 (by decide) ?_
              refine lv_icmp_lt (tgt := 62) hx hb dX7_pattern_55 (by decide) (fun c_112 => ?_) (fun c_112 => ?_)
              · have ic_112 : fi.toInt < 3 := zi_lt c_112
                refine lv_aload_n hx hb dX7_pattern_62 rfl (lv_at hl 3 rfl) ?_
                refine lv_aload_n hx hb dX7_pattern_63 rfl (lv_at hl 3 rfl) ?_
                refine va_get (D := (dC, dI)) (ci := 7) (v := .ref ptok) (C := RX7) (T := TX7) (N := 9) hx hb hA zin_X7 hown hK hP 4 rfl rfl 0 (by decide) (hA _ wi_387) (fun _ h9 => h9) rfl dX7_pattern_64 ?_
                refine va_get (D := (dC, dI)) (ci := 10) (v := .long wd_93) (C := RX10) (T := TX10) (N := 8) hx hb hA zin_X10 hown hK hP 5 rfl rfl 7 (by decide) (hA _ wi_357) (fun _ h9 => h9) rfl dX7_pattern_67 ?_
                have hPc := hP.sub (ws' := [(h0, .inr (7, [.ref ptok, .ref pnee, .ref pnam, .int la, .ref pbui, .ref pdra, .int fu, .int fn, .int fp])), (pnam, .inl (nk, 24, .inr (.inl lg))), (pdra, .inr (9, [.ref gco, .ref gar, .ref gki, .ref gfu])), (gfu, .inr (3, [.ref fw, .ref fe, .ref ff, .int fz])), (fw, .inl (f1, 30, .inr (.inl fgw))), (fe, .inl (f2, 30, .inl fge)), (ff, .inl (f3, 150, .inl lf))]) [4, 13, 9, 0, 1, 2, 3] rfl
                have hDc := hD.sub (ws' := [(h0, .inr (7, [.ref ptok, .ref pnee, .ref pnam, .int la, .ref pbui, .ref pdra, .int fu, .int fn, .int fp])), (pnam, .inl (nk, 24, .inr (.inl lg))), (pdra, .inr (9, [.ref gco, .ref gar, .ref gki, .ref gfu])), (gfu, .inr (3, [.ref fw, .ref fe, .ref ff, .int fz])), (fw, .inl (f1, 30, .inr (.inl fgw))), (fe, .inl (f2, 30, .inl fge)), (ff, .inl (f3, 150, .inl lf))]) [4, 13, 9, 0, 1, 2, 3] (by decide) rfl
                have hKc := hK.sub (tys' := [(nk, .long), (f1, .long), (f2, .int), (f3, .int)]) [8, 0, 1, 2] rfl
                have hFc := va_free (wc := [(h0, .inr (7, [.ref ptok, .ref pnee, .ref pnam, .int la, .ref pbui, .ref pdra, .int fu, .int fn, .int fp])), (pnam, .inl (nk, 24, .inr (.inl lg))), (pdra, .inr (9, [.ref gco, .ref gar, .ref gki, .ref gfu])), (gfu, .inr (3, [.ref fw, .ref fe, .ref ff, .int fz])), (fw, .inl (f1, 30, .inr (.inl fgw))), (fe, .inl (f2, 30, .inl fge)), (ff, .inl (f3, 150, .inl lf))]) hD hS hAA [4, 13, 9, 0, 1, 2, 3] rfl
                refine va_calli (va_runV (As := [.long wd_93]) (rest := []) ⟨hx, hb, hml, hown, hA⟩ (c_X7_tell_s l dC dI aK aV h0 ptok pnee pnam pbui pdra la fu fn fp nk lg gco gar gki gfu fw fe ff f1 f2 f3 fz fgw fge lf wd_93 (gN ++ lM) H.size (by omega) (by omega) (by omega) (by omega) hfe (by omega) (by omega) (by omega) (by omega) (by omega) hM1) (cwV 1 hA (zw_V wi_902 wi_904 wi_12 wi_136 (zw_good wi_905)) rfl rfl rfl (by decide +kernel) ⟨(Nat.le_of_ble_eq_true rfl), (Nat.le_of_ble_eq_true rfl)⟩) ⟨zP_blind, va_recv hKc hPc (ci := 7) (q0 := 0) rfl rfl, zz_pre hKc hPc hDc hN hT hS hFc⟩ rfl rfl hl.1 rfl (lv_room (Nat.le_of_ble_eq_true rfl)) dX7_pattern_70 ⟨(Nat.le_of_ble_eq_true rfl), (Nat.le_of_ble_eq_true rfl)⟩) hS (fun q _ h => hFc q h) hFc (fun r_113 u t H1 locs ht hvm hw hB hz1 hk1 hS => ?_)
                obtain ⟨ar_114, gn_115, fgf_116⟩ := u
                obtain ⟨hP1, hK1, hD1⟩ := hB
                rw [ht] at hP1
                have hK1 := va_K.moved hvm.symm hK1
                obtain ⟨hP, hD⟩ := va_join (wr := [(ptok, .inr (10, [.ref ts, .ref tp, .ref tw, .int z, .int pa_90, .int so_91, .int pl_92, .long wd_93])), (ts, .inl (t1, 2001, .inl gs)), (tp, .inl (t2, 2001, .inl gp)), (tw, .inl (t3, 2001, .inr (.inl gw))), (gki, .inr (4, [.ref kw, .ref kf, .int kz])), (kw, .inl (k1, 20, .inr (.inl kgw))), (kf, .inl (k2, 20, .inl kgf))]) (w1 := [(h0, .inr (7, [.ref ptok, .ref pnee, .ref pnam, .int ar_114, .ref pbui, .ref pdra, .int fu, .int fn, .int fp])), (pnam, .inl (nk, 24, .inr (.inl gn_115))), (pdra, .inr (9, [.ref gco, .ref gar, .ref gki, .ref gfu])), (gfu, .inr (3, [.ref fw, .ref fe, .ref ff, .int fz])), (fw, .inl (f1, 30, .inr (.inl fgw))), (fe, .inl (f2, 30, .inl fge)), (ff, .inl (f3, 150, .inl fgf_116))]) hP hD [4, 13, 9, 0, 1, 2, 3] [5, 6, 7, 8, 10, 11, 12] rfl rfl (by decide) (by decide) hk1 hFc hP1 hD1
                have hK := (hK.sub (tys' := [(t1, .int), (t2, .int), (t3, .long), (k1, .long), (k2, .int)]) [3, 4, 5, 6, 7] rfl).app hK1
                generalize H1 = H at hP hS ⊢
                have hP : va_P (dC, dI) vwCl [(ptok, .inr (10, [.ref ts, .ref tp, .ref tw, .int z, .int pa_90, .int so_91, .int pl_92, .long wd_93])), (ts, .inl (t1, 2001, .inl gs)), (tp, .inl (t2, 2001, .inl gp)), (tw, .inl (t3, 2001, .inr (.inl gw))), (gki, .inr (4, [.ref kw, .ref kf, .int kz])), (kw, .inl (k1, 20, .inr (.inl kgw))), (kf, .inl (k2, 20, .inl kgf)), (h0, .inr (7, [.ref ptok, .ref pnee, .ref pnam, .int ar_114, .ref pbui, .ref pdra, .int fu, .int fn, .int fp])), (pnam, .inl (nk, 24, .inr (.inl gn_115))), (pdra, .inr (9, [.ref gco, .ref gar, .ref gki, .ref gfu])), (gfu, .inr (3, [.ref fw, .ref fe, .ref ff, .int fz])), (fw, .inl (f1, 30, .inr (.inl fgw))), (fe, .inl (f2, 30, .inl fge)), (ff, .inl (f3, 150, .inl fgf_116))] H := hP
                have hD : va_D A [(ptok, .inr (10, [.ref ts, .ref tp, .ref tw, .int z, .int pa_90, .int so_91, .int pl_92, .long wd_93])), (ts, .inl (t1, 2001, .inl gs)), (tp, .inl (t2, 2001, .inl gp)), (tw, .inl (t3, 2001, .inr (.inl gw))), (gki, .inr (4, [.ref kw, .ref kf, .int kz])), (kw, .inl (k1, 20, .inr (.inl kgw))), (kf, .inl (k2, 20, .inl kgf)), (h0, .inr (7, [.ref ptok, .ref pnee, .ref pnam, .int ar_114, .ref pbui, .ref pdra, .int fu, .int fn, .int fp])), (pnam, .inl (nk, 24, .inr (.inl gn_115))), (pdra, .inr (9, [.ref gco, .ref gar, .ref gki, .ref gfu])), (gfu, .inr (3, [.ref fw, .ref fe, .ref ff, .int fz])), (fw, .inl (f1, 30, .inr (.inl fgw))), (fe, .inl (f2, 30, .inl fge)), (ff, .inl (f3, 150, .inl fgf_116))] := hD
                have hK : va_K (dC, dI) vwCl [(t1, .int), (t2, .int), (t3, .long), (k1, .long), (k2, .int), (nk, .long), (f1, .long), (f2, .int), (f3, .int)] s := hK
                have hw_r_113 := hw
                try dsimp only at hw_r_113
                obtain ⟨hq_117, hq_118, hq_119, hq_120, hq_121, hq_122, hq_123⟩ := hw
                have hcf_124 : cF fgf fgf_116 (Int32.toNatClampNeg fu) 0 0 (Int32.toInt ar_114) := cF_e (cF_tr hlcf hq_123) rfl rfl (by omega)
                have hff_125 : zff fgf fgf_116 := zff_tr hlff hq_121
                refine lv_pop hx hb dX7_pattern_73 rfl ?_
                refine lv_aload_n hx hb dX7_pattern_74 rfl (lv_at hl 3 rfl) ?_
                refine va_get (D := (dC, dI)) (ci := 7) (v := .ref ptok) (C := RX7) (T := TX7) (N := 9) hx hb hA zin_X7 hown hK hP 7 rfl rfl 0 (by decide) (hA _ wi_387) (fun _ h9 => h9) rfl dX7_pattern_75 ?_
                have hPc := hP.sub (ws' := [(ptok, .inr (10, [.ref ts, .ref tp, .ref tw, .int z, .int pa_90, .int so_91, .int pl_92, .long wd_93])), (ts, .inl (t1, 2001, .inl gs)), (tp, .inl (t2, 2001, .inl gp)), (tw, .inl (t3, 2001, .inr (.inl gw)))]) [0, 1, 2, 3] rfl
                have hDc := hD.sub (ws' := [(ptok, .inr (10, [.ref ts, .ref tp, .ref tw, .int z, .int pa_90, .int so_91, .int pl_92, .long wd_93])), (ts, .inl (t1, 2001, .inl gs)), (tp, .inl (t2, 2001, .inl gp)), (tw, .inl (t3, 2001, .inr (.inl gw)))]) [0, 1, 2, 3] (by decide) rfl
                have hKc := hK.sub (tys' := [(t1, .int), (t2, .int), (t3, .long)]) [0, 1, 2] rfl
                have hFc := va_free (wc := [(ptok, .inr (10, [.ref ts, .ref tp, .ref tw, .int z, .int pa_90, .int so_91, .int pl_92, .long wd_93])), (ts, .inl (t1, 2001, .inl gs)), (tp, .inl (t2, 2001, .inl gp)), (tw, .inl (t3, 2001, .inr (.inl gw)))]) hD hS hAA [0, 1, 2, 3] rfl
                refine va_callv (va_runV (As := []) (rest := []) ⟨hx, hb, hml, hown, hA⟩ (c_X10_advance_s l dC dI aK aV ptok ts tp tw t1 t2 t3 z pa_90 so_91 pl_92 wd_93 gs gp gw H.size (by omega) (by omega) (by omega) (by omega) hgz hq_99) (cwV 0 hA (zw_V wi_881 wi_775 wi_776 wi_137 (zw_good wi_777)) rfl rfl rfl (by decide +kernel) ⟨(Nat.le_of_ble_eq_true rfl), (Nat.le_of_ble_eq_true rfl)⟩) ⟨zP_blind, va_recv hKc hPc (ci := 10) (q0 := 0) rfl rfl, zz_pre hKc hPc hDc hN hT hS hFc⟩ rfl rfl hl.1 rfl (lv_room (Nat.le_of_ble_eq_true rfl)) dX7_pattern_78 ⟨(Nat.le_of_ble_eq_true rfl), (Nat.le_of_ble_eq_true rfl)⟩) hS (fun q _ h => hFc q h) hFc (fun u t H1 locs ht hvm hw hB hz1 hk1 hS => ?_)
                obtain ⟨pa_127, so_128, pl_129, wd_130⟩ := u
                obtain ⟨hP1, hK1, hD1⟩ := hB
                rw [ht] at hP1
                have hK1 := va_K.moved hvm.symm hK1
                obtain ⟨hP, hD⟩ := va_join (wr := [(gki, .inr (4, [.ref kw, .ref kf, .int kz])), (kw, .inl (k1, 20, .inr (.inl kgw))), (kf, .inl (k2, 20, .inl kgf)), (h0, .inr (7, [.ref ptok, .ref pnee, .ref pnam, .int ar_114, .ref pbui, .ref pdra, .int fu, .int fn, .int fp])), (pnam, .inl (nk, 24, .inr (.inl gn_115))), (pdra, .inr (9, [.ref gco, .ref gar, .ref gki, .ref gfu])), (gfu, .inr (3, [.ref fw, .ref fe, .ref ff, .int fz])), (fw, .inl (f1, 30, .inr (.inl fgw))), (fe, .inl (f2, 30, .inl fge)), (ff, .inl (f3, 150, .inl fgf_116))]) (w1 := [(ptok, .inr (10, [.ref ts, .ref tp, .ref tw, .int z, .int pa_127, .int so_128, .int pl_129, .long wd_130])), (ts, .inl (t1, 2001, .inl gs)), (tp, .inl (t2, 2001, .inl gp)), (tw, .inl (t3, 2001, .inr (.inl gw)))]) hP hD [0, 1, 2, 3] [4, 5, 6, 7, 8, 9, 10, 11, 12, 13] rfl rfl (by decide) (by decide) hk1 hFc hP1 hD1
                have hK := (hK.sub (tys' := [(k1, .long), (k2, .int), (nk, .long), (f1, .long), (f2, .int), (f3, .int)]) [3, 4, 5, 6, 7, 8] rfl).app hK1
                generalize H1 = H at hP hS ⊢
                have hP : va_P (dC, dI) vwCl [(gki, .inr (4, [.ref kw, .ref kf, .int kz])), (kw, .inl (k1, 20, .inr (.inl kgw))), (kf, .inl (k2, 20, .inl kgf)), (h0, .inr (7, [.ref ptok, .ref pnee, .ref pnam, .int ar_114, .ref pbui, .ref pdra, .int fu, .int fn, .int fp])), (pnam, .inl (nk, 24, .inr (.inl gn_115))), (pdra, .inr (9, [.ref gco, .ref gar, .ref gki, .ref gfu])), (gfu, .inr (3, [.ref fw, .ref fe, .ref ff, .int fz])), (fw, .inl (f1, 30, .inr (.inl fgw))), (fe, .inl (f2, 30, .inl fge)), (ff, .inl (f3, 150, .inl fgf_116)), (ptok, .inr (10, [.ref ts, .ref tp, .ref tw, .int z, .int pa_127, .int so_128, .int pl_129, .long wd_130])), (ts, .inl (t1, 2001, .inl gs)), (tp, .inl (t2, 2001, .inl gp)), (tw, .inl (t3, 2001, .inr (.inl gw)))] H := hP
                have hD : va_D A [(gki, .inr (4, [.ref kw, .ref kf, .int kz])), (kw, .inl (k1, 20, .inr (.inl kgw))), (kf, .inl (k2, 20, .inl kgf)), (h0, .inr (7, [.ref ptok, .ref pnee, .ref pnam, .int ar_114, .ref pbui, .ref pdra, .int fu, .int fn, .int fp])), (pnam, .inl (nk, 24, .inr (.inl gn_115))), (pdra, .inr (9, [.ref gco, .ref gar, .ref gki, .ref gfu])), (gfu, .inr (3, [.ref fw, .ref fe, .ref ff, .int fz])), (fw, .inl (f1, 30, .inr (.inl fgw))), (fe, .inl (f2, 30, .inl fge)), (ff, .inl (f3, 150, .inl fgf_116)), (ptok, .inr (10, [.ref ts, .ref tp, .ref tw, .int z, .int pa_127, .int so_128, .int pl_129, .long wd_130])), (ts, .inl (t1, 2001, .inl gs)), (tp, .inl (t2, 2001, .inl gp)), (tw, .inl (t3, 2001, .inr (.inl gw)))] := hD
                have hK : va_K (dC, dI) vwCl [(k1, .long), (k2, .int), (nk, .long), (f1, .long), (f2, .int), (f3, .int), (t1, .int), (t2, .int), (t3, .long)] s := hK
                obtain ⟨hq_131, hq_132, hq_133, hq_134, hq_135, hq_136, hq_137, hq_138, hq_139, hq_140⟩ := hw
                have htpa_127 : Int32.toInt (gs (Int32.toNatClampNeg pa_127)) = so_128.toInt := by rw [hq_136.2.2]
                have hppa_127 : Int32.toInt (gp (Int32.toNatClampNeg pa_127)) = pl_129.toInt := by rw [hq_136.2.1]
                have hnpa_127 : Int32.toNatClampNeg pa_127 = Int32.toNatClampNeg pa_90 + 1 := zn_1 (by omega) (by omega)
                obtain ⟨x_141, ex_141⟩ : ∃ y : Int32, y = fi + Int32.ofInt 1 := ⟨_, rfl⟩
                refine lv_iinc (v := x_141) (lv' := [(3, .int x_141), (4, .int mo), (2, .int pl), (0, .ref h0), (1, .int ki)]) hx hb dX7_pattern_81 hl (k := 1) rfl (by rw [ex_141]) (by decide) rfl (fun ls hl => ?_)
                have ix_141 : x_141.toInt = fi.toInt + 1 := by rw [ex_141]; exact zi_addc (by decide) (by omega) (by omega)
                refine lv_aload_n hx hb dX7_pattern_84 rfl (lv_at hl 3 rfl) ?_
                refine va_get (D := (dC, dI)) (ci := 7) (v := .ref ptok) (C := RX7) (T := TX7) (N := 9) hx hb hA zin_X7 hown hK hP 3 rfl rfl 0 (by decide) (hA _ wi_387) (fun _ h9 => h9) rfl dX7_pattern_85 ?_
                refine va_get (D := (dC, dI)) (ci := 10) (v := .int so_128) (C := RX10) (T := TX10) (N := 8) hx hb hA zin_X10 hown hK hP 10 rfl rfl 5 (by decide) (hA _ wi_353) (fun _ h9 => h9) rfl dX7_pattern_88 ?_
                refine lv_bipush (v := 44) hx hb dX7_pattern_91 (by decide) ?_
                refine lv_icmp_ne (tgt := 100) hx hb dX7_pattern_93 (by decide) (fun c_142 => ?_) (fun c_142 => ?_)
                · have ic_142 : so_128.toInt ≠ 44 := zi_ne c_142
                  refine lv_iconst (v := 0) hx hb dX7_pattern_100 (by decide) ?_
                  refine lv_istore (lv' := [(4, .int 0), (3, .int x_141), (2, .int pl), (0, .ref h0), (1, .int ki)]) hx hb dX7_pattern_101 hl (by decide) rfl (fun ls hl => ?_)
                  refine lv_goto (tgt := 32) hx hb dX7_pattern_103 (by decide) ?_
                  have hls_143 : sp_pl gs gp gw gN (Int32.toNatClampNeg pa + 1) gn_115 ar_114 (Int32.toInt x_141) (Int32.toInt 0) (Int32.toNatClampNeg pa_127) := sp_pl_s hM1 hM2 hM3 (by omega) (hM4 (by omega)) (hM6 (by omega)) hnpa_90 hnpa_127 htpa_90 hq_103 hq_111 hq_122 (by omega) (Or.inr ⟨by decide, by omega⟩)
                  exact ih x_141 0 ar_114 pa_127 so_128 pl_129 wd_130 gn_115 fgf_116 _ _ _ (by have h9_0 : Int32.toInt 0 = 0 := (by decide); omega) (by have h9_0 : Int32.toInt 0 = 0 := (by decide); omega) (by have h9_0 : Int32.toInt 0 = 0 := (by decide); omega) (by have h9_0 : Int32.toInt 0 = 0 := (by decide); omega) (by have h9_0 : Int32.toInt 0 = 0 := (by decide); omega) (by have h9_0 : Int32.toInt 0 = 0 := (by decide); omega) (by have h9_0 : Int32.toInt 0 = 0 := (by decide); omega) (by have h9_0 : Int32.toInt 0 = 0 := (by decide); omega) (by have h9_0 : Int32.toInt 0 = 0 := (by decide); omega) (by have h9_0 : Int32.toInt 0 = 0 := (by decide); omega) (by have h9_0 : Int32.toInt 0 = 0 := (by decide); omega) (by have h9_0 : Int32.toInt 0 = 0 := (by decide); omega) (by have h9_0 : Int32.toInt 0 = 0 := (by decide); omega) (by have h9_0 : Int32.toInt 0 = 0 := (by decide); omega) (by have h9_0 : Int32.toInt 0 = 0 := (by decide); omega) (by have h9_0 : Int32.toInt 0 = 0 := (by decide); omega) (by have h9_0 : Int32.toInt 0 = 0 := (by decide); omega) hff_125 hq_136 hcf_124 hq_140 hls_143 (hP.sub [3, 5, 0, 1, 2, 4, 6, 7, 8, 9, 10, 11, 12, 13] rfl) (hD.sub [3, 5, 0, 1, 2, 4, 6, 7, 8, 9, 10, 11, 12, 13] (by decide) rfl) hS (lv_sub hl [0, 1, 2, 3, 4] rfl)
                · have ic_142 : so_128.toInt = 44 := zi_eq c_142
                  refine lv_iconst (v := 1) hx hb dX7_pattern_96 (by decide) ?_
                  refine lv_goto (tgt := 101) hx hb dX7_pattern_97 (by decide) ?_
                  refine lv_istore (lv' := [(4, .int 1), (3, .int x_141), (2, .int pl), (0, .ref h0), (1, .int ki)]) hx hb dX7_pattern_101 hl (by decide) rfl (fun ls hl => ?_)
                  refine lv_goto (tgt := 32) hx hb dX7_pattern_103 (by decide) ?_
                  have hls_144 : sp_pl gs gp gw gN (Int32.toNatClampNeg pa + 1) gn_115 ar_114 (Int32.toInt x_141) (Int32.toInt 1) (Int32.toNatClampNeg pa_127) := sp_pl_s hM1 hM2 hM3 (by omega) (hM4 (by omega)) (hM6 (by omega)) hnpa_90 hnpa_127 htpa_90 hq_103 hq_111 hq_122 (by omega) (Or.inl ⟨by decide, by omega⟩)
                  exact ih x_141 1 ar_114 pa_127 so_128 pl_129 wd_130 gn_115 fgf_116 _ _ _ (by have h9_0 : Int32.toInt 1 = 1 := (by decide); omega) (by have h9_0 : Int32.toInt 1 = 1 := (by decide); omega) (by have h9_0 : Int32.toInt 1 = 1 := (by decide); omega) (by have h9_0 : Int32.toInt 1 = 1 := (by decide); omega) (by have h9_0 : Int32.toInt 1 = 1 := (by decide); omega) (by have h9_0 : Int32.toInt 1 = 1 := (by decide); omega) (by have h9_0 : Int32.toInt 1 = 1 := (by decide); omega) (by have h9_0 : Int32.toInt 1 = 1 := (by decide); omega) (by have h9_0 : Int32.toInt 1 = 1 := (by decide); omega) (by have h9_0 : Int32.toInt 1 = 1 := (by decide); omega) (by have h9_0 : Int32.toInt 1 = 1 := (by decide); omega) (by have h9_0 : Int32.toInt 1 = 1 := (by decide); omega) (by have h9_0 : Int32.toInt 1 = 1 := (by decide); omega) (by have h9_0 : Int32.toInt 1 = 1 := (by decide); omega) (by have h9_0 : Int32.toInt 1 = 1 := (by decide); omega) (by have h9_0 : Int32.toInt 1 = 1 := (by decide); omega) (by have h9_0 : Int32.toInt 1 = 1 := (by decide); omega) hff_125 hq_136 hcf_124 hq_140 hls_144 (hP.sub [3, 5, 0, 1, 2, 4, 6, 7, 8, 9, 10, 11, 12, 13] rfl) (hD.sub [3, 5, 0, 1, 2, 4, 6, 7, 8, 9, 10, 11, 12, 13] (by decide) rfl) hS (lv_sub hl [0, 1, 2, 3, 4] rfl)
              · have ic_112 : 3 ≤ fi.toInt := zi_nlt c_112
                refine lv_aload_n hx hb dX7_pattern_58 rfl (lv_at hl 3 rfl) ?_
                have hPc := hP.sub (ws' := [(h0, .inr (7, [.ref ptok, .ref pnee, .ref pnam, .int la, .ref pbui, .ref pdra, .int fu, .int fn, .int fp])), (ptok, .inr (10, [.ref ts, .ref tp, .ref tw, .int z, .int pa_90, .int so_91, .int pl_92, .long wd_93])), (ts, .inl (t1, 2001, .inl gs)), (tp, .inl (t2, 2001, .inl gp)), (tw, .inl (t3, 2001, .inr (.inl gw))), (pdra, .inr (9, [.ref gco, .ref gar, .ref gki, .ref gfu])), (gki, .inr (4, [.ref kw, .ref kf, .int kz])), (kw, .inl (k1, 20, .inr (.inl kgw))), (kf, .inl (k2, 20, .inl kgf))]) [4, 5, 6, 7, 8, 9, 10, 11, 12] rfl
                have hDc := hD.sub (ws' := [(h0, .inr (7, [.ref ptok, .ref pnee, .ref pnam, .int la, .ref pbui, .ref pdra, .int fu, .int fn, .int fp])), (ptok, .inr (10, [.ref ts, .ref tp, .ref tw, .int z, .int pa_90, .int so_91, .int pl_92, .long wd_93])), (ts, .inl (t1, 2001, .inl gs)), (tp, .inl (t2, 2001, .inl gp)), (tw, .inl (t3, 2001, .inr (.inl gw))), (pdra, .inr (9, [.ref gco, .ref gar, .ref gki, .ref gfu])), (gki, .inr (4, [.ref kw, .ref kf, .int kz])), (kw, .inl (k1, 20, .inr (.inl kgw))), (kf, .inl (k2, 20, .inl kgf))]) [4, 5, 6, 7, 8, 9, 10, 11, 12] (by decide) rfl
                have hKc := hK.sub (tys' := [(t1, .int), (t2, .int), (t3, .long), (k1, .long), (k2, .int)]) [3, 4, 5, 6, 7] rfl
                have hFc := va_free (wc := [(h0, .inr (7, [.ref ptok, .ref pnee, .ref pnam, .int la, .ref pbui, .ref pdra, .int fu, .int fn, .int fp])), (ptok, .inr (10, [.ref ts, .ref tp, .ref tw, .int z, .int pa_90, .int so_91, .int pl_92, .long wd_93])), (ts, .inl (t1, 2001, .inl gs)), (tp, .inl (t2, 2001, .inl gp)), (tw, .inl (t3, 2001, .inr (.inl gw))), (pdra, .inr (9, [.ref gco, .ref gar, .ref gki, .ref gfu])), (gki, .inr (4, [.ref kw, .ref kf, .int kz])), (kw, .inl (k1, 20, .inr (.inl kgw))), (kf, .inl (k2, 20, .inl kgf))]) hD hS hAA [4, 5, 6, 7, 8, 9, 10, 11, 12] rfl
                refine vy_callv (vy_runV (As := []) (rest := []) ⟨hx, hb, hml, hown, hA⟩ (c_X7_failMany l dC dI aK aV h0 ptok pnee pnam pbui pdra la fu fn fp ts tp tw t1 t2 t3 z pa_90 so_91 pl_92 wd_93 gs gp gw gco gar gki gfu kw kf k1 k2 kz kgw kgf H.size hlt (by omega) (by omega) (by omega) (by omega) hgz (by omega) (by omega) hkf) (cwV 0 hA (zw_V wi_790 wi_792 wi_4 wi_136 (zw_good wi_793)) rfl rfl rfl (by decide +kernel) ⟨(Nat.le_of_ble_eq_true rfl), (Nat.le_of_ble_eq_true rfl)⟩) ⟨zP_blind, va_recv hKc hPc (ci := 7) (q0 := 0) rfl rfl, zz_pre hKc hPc hDc hN hT hS hFc⟩ rfl rfl hl.1 rfl (lv_room (Nat.le_of_ble_eq_true rfl)) dX7_pattern_59 ⟨(Nat.le_of_ble_eq_true rfl), (Nat.le_of_ble_eq_true rfl)⟩) hS (fun q _ h => hFc q h) hFc (fun q _ h => hFc q h) (fun E9 ce9 q9 u t H1 locs ht hvm hw hB hz1 hk1 hS hcell hcv hcl => ?_) (fun u t H1 locs ht hvm hw hB hz1 hk1 hS => absurd hw id)
                obtain ⟨x_fn2_146, x_fp2_147⟩ := u
                obtain ⟨rfl, hP1, hK1, hD1⟩ := hB
                rw [ht] at hP1
                have hK1 := va_K.moved hvm.symm hK1
                obtain ⟨hP, hD⟩ := va_join (wr := [(gfu, .inr (3, [.ref fw, .ref fe, .ref ff, .int fz])), (fw, .inl (f1, 30, .inr (.inl fgw))), (fe, .inl (f2, 30, .inl fge)), (ff, .inl (f3, 150, .inl lf)), (pnam, .inl (nk, 24, .inr (.inl lg)))]) (w1 := [(h0, .inr (7, [.ref ptok, .ref pnee, .ref pnam, .int la, .ref pbui, .ref pdra, .int fu, .int x_fn2_146, .int x_fp2_147])), (ptok, .inr (10, [.ref ts, .ref tp, .ref tw, .int z, .int pa_90, .int so_91, .int pl_92, .long wd_93])), (ts, .inl (t1, 2001, .inl gs)), (tp, .inl (t2, 2001, .inl gp)), (tw, .inl (t3, 2001, .inr (.inl gw))), (pdra, .inr (9, [.ref gco, .ref gar, .ref gki, .ref gfu])), (gki, .inr (4, [.ref kw, .ref kf, .int kz])), (kw, .inl (k1, 20, .inr (.inl kgw))), (kf, .inl (k2, 20, .inl kgf))]) hP hD [4, 5, 6, 7, 8, 9, 10, 11, 12] [0, 1, 2, 3, 13] rfl rfl (by decide) (by decide) hk1 hFc hP1 hD1
                have hK := (hK.sub (tys' := [(f1, .long), (f2, .int), (f3, .int), (nk, .long)]) [0, 1, 2, 8] rfl).app hK1
                clear hPc hDc hFc hP1 hD1 hk1 hz1 ht hvm
                generalize H1 = H at hP hS hcell ⊢
                have hP : va_P (dC, dI) vwCl [(gfu, .inr (3, [.ref fw, .ref fe, .ref ff, .int fz])), (fw, .inl (f1, 30, .inr (.inl fgw))), (fe, .inl (f2, 30, .inl fge)), (ff, .inl (f3, 150, .inl lf)), (pnam, .inl (nk, 24, .inr (.inl lg))), (h0, .inr (7, [.ref ptok, .ref pnee, .ref pnam, .int la, .ref pbui, .ref pdra, .int fu, .int x_fn2_146, .int x_fp2_147])), (ptok, .inr (10, [.ref ts, .ref tp, .ref tw, .int z, .int pa_90, .int so_91, .int pl_92, .long wd_93])), (ts, .inl (t1, 2001, .inl gs)), (tp, .inl (t2, 2001, .inl gp)), (tw, .inl (t3, 2001, .inr (.inl gw))), (pdra, .inr (9, [.ref gco, .ref gar, .ref gki, .ref gfu])), (gki, .inr (4, [.ref kw, .ref kf, .int kz])), (kw, .inl (k1, 20, .inr (.inl kgw))), (kf, .inl (k2, 20, .inl kgf))] H := hP
                have hD : va_D A [(gfu, .inr (3, [.ref fw, .ref fe, .ref ff, .int fz])), (fw, .inl (f1, 30, .inr (.inl fgw))), (fe, .inl (f2, 30, .inl fge)), (ff, .inl (f3, 150, .inl lf)), (pnam, .inl (nk, 24, .inr (.inl lg))), (h0, .inr (7, [.ref ptok, .ref pnee, .ref pnam, .int la, .ref pbui, .ref pdra, .int fu, .int x_fn2_146, .int x_fp2_147])), (ptok, .inr (10, [.ref ts, .ref tp, .ref tw, .int z, .int pa_90, .int so_91, .int pl_92, .long wd_93])), (ts, .inl (t1, 2001, .inl gs)), (tp, .inl (t2, 2001, .inl gp)), (tw, .inl (t3, 2001, .inr (.inl gw))), (pdra, .inr (9, [.ref gco, .ref gar, .ref gki, .ref gfu])), (gki, .inr (4, [.ref kw, .ref kf, .int kz])), (kw, .inl (k1, 20, .inr (.inl kgw))), (kf, .inl (k2, 20, .inl kgf))] := hD
                have hK : va_K (dC, dI) vwCl [(f1, .long), (f2, .int), (f3, .int), (nk, .long), (t1, .int), (t2, .int), (t3, .long), (k1, .long), (k2, .int)] s := hK
                have hq_148 := hw
                try dsimp only at hq_148
                refine vx_widen (k := 1) (n := 6) (Nat.le_of_ble_eq_true rfl) (Nat.le_of_ble_eq_true rfl) ?_
                have hP9 := hP.sub (ws' := [(h0, .inr (7, [.ref ptok, .ref pnee, .ref pnam, .int la, .ref pbui, .ref pdra, .int fu, .int x_fn2_146, .int x_fp2_147])), (ptok, .inr (10, [.ref ts, .ref tp, .ref tw, .int z, .int pa_90, .int so_91, .int pl_92, .long wd_93])), (ts, .inl (t1, 2001, .inl gs)), (tp, .inl (t2, 2001, .inl gp)), (tw, .inl (t3, 2001, .inr (.inl gw))), (pdra, .inr (9, [.ref gco, .ref gar, .ref gki, .ref gfu])), (gki, .inr (4, [.ref kw, .ref kf, .int kz])), (kw, .inl (k1, 20, .inr (.inl kgw))), (kf, .inl (k2, 20, .inl kgf)), (pnam, .inl (nk, 24, .inr (.inl lg))), (gfu, .inr (3, [.ref fw, .ref fe, .ref ff, .int fz])), (fw, .inl (f1, 30, .inr (.inl fgw))), (fe, .inl (f2, 30, .inl fge)), (ff, .inl (f3, 150, .inl lf))]) [5, 6, 7, 8, 9, 10, 11, 12, 13, 4, 0, 1, 2, 3] rfl
                have hD9 := hD.sub (ws' := [(h0, .inr (7, [.ref ptok, .ref pnee, .ref pnam, .int la, .ref pbui, .ref pdra, .int fu, .int x_fn2_146, .int x_fp2_147])), (ptok, .inr (10, [.ref ts, .ref tp, .ref tw, .int z, .int pa_90, .int so_91, .int pl_92, .long wd_93])), (ts, .inl (t1, 2001, .inl gs)), (tp, .inl (t2, 2001, .inl gp)), (tw, .inl (t3, 2001, .inr (.inl gw))), (pdra, .inr (9, [.ref gco, .ref gar, .ref gki, .ref gfu])), (gki, .inr (4, [.ref kw, .ref kf, .int kz])), (kw, .inl (k1, 20, .inr (.inl kgw))), (kf, .inl (k2, 20, .inl kgf)), (pnam, .inl (nk, 24, .inr (.inl lg))), (gfu, .inr (3, [.ref fw, .ref fe, .ref ff, .int fz])), (fw, .inl (f1, 30, .inr (.inl fgw))), (fe, .inl (f2, 30, .inl fge)), (ff, .inl (f3, 150, .inl lf))]) [5, 6, 7, 8, 9, 10, 11, 12, 13, 4, 0, 1, 2, 3] (by decide) rfl
                have hK9 := hK.sub (tys' := [(t1, .int), (t2, .int), (t3, .long), (k1, .long), (k2, .int), (nk, .long), (f1, .long), (f2, .int), (f3, .int)]) [4, 5, 6, 7, 8, 3, 0, 1, 2] rfl
                exact vy_monoX vy_thr (vx_out (fun x hx => (hnh x hx).elim) hlocks hcell hcv hcl (fun t ht hvm => ⟨(pa_90, so_91, pl_92, wd_93, la, lg, lf, x_fn2_146, x_fp2_147), ⟨by omega, by omega, by omega, by omega, by omega, by omega, by omega, (show Int32.toInt x_fp2_147 = Int32.toInt (gp (Int32.toNatClampNeg pa_90)) by omega).trans (pf_pa_x hnpa_2 (by omega) (by rw [hnpa_2, hM4 (by omega), show ln = 0 by omega]; rfl) (by rw [hnpa_2, hM6 (by omega), show ln = 0 by omega, hnpa_90]; rfl)).symm, sp_pq_x hnpa_2 (by omega) (by rw [hnpa_2, hM4 (by omega), show ln = 0 by omega]; rfl)⟩, ⟨rfl, by rw [ht]; exact hP9, va_K.moved hvm hK9, hD9⟩, hS.F ht⟩) hS.2.2 (Nat.le_of_ble_eq_true rfl) (Nat.le_of_ble_eq_true rfl))
    have hls_149 : sp_pl gs gp gw gN (Int32.toNatClampNeg pa + 1) gn ar (Int32.toInt 0) (Int32.toInt 1) (Int32.toNatClampNeg pa_2) := sp_pl_0 hnl (by decide) (by decide) hnpa_2
    exact loop_32 _ 0 1 ar pa_2 so_3 pl_4 wd_5 gn fgf _ _ _ (Nat.le_refl _) (by have h9_0 : Int32.toInt 0 = 0 := (by decide); have h9_1 : Int32.toInt 1 = 1 := (by decide); omega) (by have h9_0 : Int32.toInt 0 = 0 := (by decide); have h9_1 : Int32.toInt 1 = 1 := (by decide); omega) (by have h9_0 : Int32.toInt 0 = 0 := (by decide); have h9_1 : Int32.toInt 1 = 1 := (by decide); omega) (by have h9_0 : Int32.toInt 0 = 0 := (by decide); have h9_1 : Int32.toInt 1 = 1 := (by decide); omega) (by have h9_0 : Int32.toInt 0 = 0 := (by decide); have h9_1 : Int32.toInt 1 = 1 := (by decide); omega) (by have h9_0 : Int32.toInt 0 = 0 := (by decide); have h9_1 : Int32.toInt 1 = 1 := (by decide); omega) (by have h9_0 : Int32.toInt 0 = 0 := (by decide); have h9_1 : Int32.toInt 1 = 1 := (by decide); omega) (by have h9_0 : Int32.toInt 0 = 0 := (by decide); have h9_1 : Int32.toInt 1 = 1 := (by decide); omega) (by have h9_0 : Int32.toInt 0 = 0 := (by decide); have h9_1 : Int32.toInt 1 = 1 := (by decide); omega) (by have h9_0 : Int32.toInt 0 = 0 := (by decide); have h9_1 : Int32.toInt 1 = 1 := (by decide); omega) (by have h9_0 : Int32.toInt 0 = 0 := (by decide); have h9_1 : Int32.toInt 1 = 1 := (by decide); omega) (by have h9_0 : Int32.toInt 0 = 0 := (by decide); have h9_1 : Int32.toInt 1 = 1 := (by decide); omega) (by have h9_0 : Int32.toInt 0 = 0 := (by decide); have h9_1 : Int32.toInt 1 = 1 := (by decide); omega) (by have h9_0 : Int32.toInt 0 = 0 := (by decide); have h9_1 : Int32.toInt 1 = 1 := (by decide); omega) (by have h9_0 : Int32.toInt 0 = 0 := (by decide); have h9_1 : Int32.toInt 1 = 1 := (by decide); omega) (by have h9_0 : Int32.toInt 0 = 0 := (by decide); have h9_1 : Int32.toInt 1 = 1 := (by decide); omega) zff_rf hq_11 (cF_w0 hnm0) hq_15 hls_149 (hP.sub [0, 1, 2, 3, 4, 5, 6, 7, 8, 9, 10, 11, 12, 13] rfl) (hD.sub [0, 1, 2, 3, 4, 5, 6, 7, 8, 9, 10, 11, 12, 13] (by decide) rfl) hS (lv_sub hl [0, 1, 2, 3, 4] rfl)

end
section
/-- the calls that the code holds: word, arguments, place -/
def sp_cl (op a b pl : Nat → Int32) (V : Nat → Int64) (zz cz : Int32) (C : List (Int64 × Int × Int)) : Prop := (∀ r : Nat, (r : Int) < cz.toInt → (op r).toInt = 6 ∨ (op r).toInt = 7 → (0 ≤ (a r).toInt ∧ (a r).toInt ≤ zz.toInt) ∧ (V (Int32.toNatClampNeg (a r)), (b r).toInt, (pl r).toInt) ∈ C) ∧ ∀ q ∈ C, ∃ r : Nat, (r : Int) < cz.toInt ∧ ((op r).toInt = 6 ∨ (op r).toInt = 7) ∧ V (Int32.toNatClampNeg (a r)) = q.1 ∧ (b r).toInt = q.2.1 ∧ (pl r).toInt = q.2.2
theorem sp_cl_up {op op2 a a2 b b2 pl pl2 : Nat → Int32} {V : Nat → Int64} {zz cz : Int32} {C : List (Int64 × Int × Int)} (h : sp_cl op a b pl V zz cz C) (ho : ∀ r : Nat, (r : Int) < cz.toInt → op2 r = op r) (hu : ∀ r : Nat, (r : Int) < cz.toInt → (op r).toInt = 6 ∨ (op r).toInt = 7 → a2 r = a r ∧ b2 r = b r ∧ pl2 r = pl r) : sp_cl op2 a2 b2 pl2 V zz cz C := by
  refine ⟨fun r hr g => ?_, fun q hq => ?_⟩
  · rw [ho r hr] at g
    rw [(hu r hr g).1, (hu r hr g).2.1, (hu r hr g).2.2]
    exact h.1 r hr g
  · obtain ⟨r, hr, g, e1, e2, e3⟩ := h.2 q hq
    exact ⟨r, hr, by rw [ho r hr]; exact g, by rw [(hu r hr g).1]; exact e1, by rw [(hu r hr g).2.1]; exact e2, by rw [(hu r hr g).2.2]; exact e3⟩
theorem sp_cl_ap {op op2 a a2 b b2 pl pl2 : Nat → Int32} {V : Nat → Int64} {zz cz cz2 o x y p : Int32} {C : List (Int64 × Int × Int)} (h : sp_cl op a b pl V zz cz C) (h0 : 0 ≤ cz.toInt) (ez : cz2.toInt = cz.toInt + 1) (eo : op2 = upd op (Int32.toNatClampNeg cz) o) (ea : a2 = upd a (Int32.toNatClampNeg cz) x) (eb : b2 = upd b (Int32.toNatClampNeg cz) y) (ep : pl2 = upd pl (Int32.toNatClampNeg cz) p) (ho : o.toInt ≠ 6 ∧ o.toInt ≠ 7) : sp_cl op2 a2 b2 pl2 V zz cz2 C := by
  have hn := zn_nat h0
  refine ⟨fun r hr g => ?_, fun q hq => ?_⟩
  · by_cases u : r = Int32.toNatClampNeg cz
    · rw [eo, u, zu_s] at g; omega
    · rw [eo, zu_n u] at g
      rw [ea, eb, ep, zu_n u, zu_n u, zu_n u]
      exact h.1 r (by omega) g
  · obtain ⟨r, hr, g, e1, e2, e3⟩ := h.2 q hq
    have u : r ≠ Int32.toNatClampNeg cz := by omega
    exact ⟨r, by omega, by rw [eo, zu_n u]; exact g, by rw [ea, zu_n u]; exact e1, by rw [eb, zu_n u]; exact e2, by rw [ep, zu_n u]; exact e3⟩
theorem sp_cl_ca {op op2 a a2 b b2 pl pl2 : Nat → Int32} {V : Nat → Int64} {zz cz cz2 o x y y0 wh : Int32} {w : Int64} {n p : Int} {C : List (Int64 × Int × Int)} (h : sp_cl op a b pl V zz cz C) (h0 : 0 ≤ cz.toInt) (ez : cz2.toInt = cz.toInt + 1) (eo : op2 = upd op (Int32.toNatClampNeg cz) o) (ea : a2 = upd a (Int32.toNatClampNeg cz) x) (eb : b2 = upd (upd b (Int32.toNatClampNeg cz) y0) (Int32.toNatClampNeg cz) y) (ep : pl2 = upd pl (Int32.toNatClampNeg cz) wh) (ho : o.toInt = 6 ∨ o.toInt = 7) (hx : 0 ≤ x.toInt ∧ x.toInt ≤ zz.toInt) (ew : V (Int32.toNatClampNeg x) = w) (en : y.toInt = n) (eh : wh.toInt = p) : sp_cl op2 a2 b2 pl2 V zz cz2 (C ++ [(w, n, p)]) := by
  have hn := zn_nat h0
  rw [zu_uu] at eb
  refine ⟨fun r hr g => ?_, fun q hq => ?_⟩
  · by_cases u : r = Int32.toNatClampNeg cz
    · rw [ea, eb, ep, u, zu_s, zu_s, zu_s, ew, en, eh]; exact ⟨hx, List.mem_append.mpr (Or.inr List.mem_cons_self)⟩
    · rw [eo, zu_n u] at g
      rw [ea, eb, ep, zu_n u, zu_n u, zu_n u]
      exact ⟨(h.1 r (by omega) g).1, List.mem_append.mpr (Or.inl (h.1 r (by omega) g).2)⟩
  · rcases List.mem_append.mp hq with g1 | g1
    · obtain ⟨r, hr, g, e1, e2, e3⟩ := h.2 q g1
      have u : r ≠ Int32.toNatClampNeg cz := by omega
      exact ⟨r, by omega, by rw [eo, zu_n u]; exact g, by rw [ea, zu_n u]; exact e1, by rw [eb, zu_n u]; exact e2, by rw [ep, zu_n u]; exact e3⟩
    · rw [List.mem_singleton.mp g1]
      exact ⟨Int32.toNatClampNeg cz, by omega, by rw [eo, zu_s]; exact ho, by rw [ea, zu_s]; exact ew, by rw [eb, zu_s]; exact en, by rw [ep, zu_s]; exact eh⟩
/-- what an expression made of the kinds, the calls; its tree -/
def sp_r (nop na nb npl : Nat → Int32) (V : Nat → Int64) (zz cz2 pa2 kz2 : Int32) (kw2 : Nat → Int64) (kf2 : Nat → Int32) (Z : Tm → Prop) (o : Option (Tm × sp_S)) : Prop := ∃ C2 t, sp_cl nop na nb npl V zz cz2 C2 ∧ o = some (t, (Int32.toNatClampNeg pa2, Int32.toNatClampNeg kz2, kw2, kf2, C2)) ∧ Z t
theorem sp_b1 {α β : Type} {x : Option α} {s : α} {f : α → Option β} (h : x = some s) : x.bind f = f s := by rw [h]; rfl
theorem sp_bx {α β : Type} {x : Option α} {f : α → Option β} (h : x = none) : x.bind f = none := by rw [h]; rfl
section
variable {T P : Nat → Int32} {V : Nat → Int64} {E : List Int64 → sp_S → Option (Tm × sp_S)} {L : List Int64} {K : Nat × (Nat → Int64) × (Nat → Int32) × List (Int64 × Int × Int)} {gn : Nat → Int64} {so ar : Int32} {w : Int64} {a b c d e : Nat} {s1 s2 : Tm × sp_S} {o : Option (Tm × sp_S)}
theorem sp_le_x1 (hl : sp_nl gn ar L) (eb : b = a + 1) (ht : (T b).toInt = so.toInt) (ew : w = V b) (h : ¬ sp_nn so w ar L) : sp_le T P V E L (a, K) = none := by
  have := hl.1
  unfold sp_le
  exact if_neg (fun g => h ⟨by rw [← ht, eb]; exact g.1, by rw [ew, eb]; exact g.2.1, by have := g.2.2; omega⟩)
theorem sp_le_eq (hl : sp_nl gn ar L) (eb : b = a + 1) (ht : (T b).toInt = so.toInt) (ew : w = V b) (h : sp_nn so w ar L) (ec : c = b + 1) : sp_le T P V E L (a, K) = if (T c).toInt = 61 then (E L (c + 1, K)).bind fun s1 => if (T s1.2.1).toInt = 263 then (E (L ++ [w]) (sp_to s1.2 (s1.2.1 + 1))).bind fun s2 => some (.tlet (P a).toInt L.length s1.1 s2.1, s2.2) else none else none := by
  have := hl.1
  have e2 : c = a + 2 := by omega
  unfold sp_le
  rw [if_pos ⟨by show (T (a + 1)).toInt = 258; rw [← eb, ht]; exact h.1, by show V (a + 1) ∉ L; rw [← eb, ← ew]; exact h.2.1, by have := h.2.2; omega⟩]
  subst e2; subst eb; rw [ew]; rfl
theorem sp_le_x2 (hl : sp_nl gn ar L) (eb : b = a + 1) (ht : (T b).toInt = so.toInt) (ew : w = V b) (h : sp_nn so w ar L) (ec : c = b + 1) (h2 : (T c).toInt ≠ 61) : sp_le T P V E L (a, K) = none := by rw [sp_le_eq hl eb ht ew h ec, if_neg h2]
theorem sp_le_x3 (hl : sp_nl gn ar L) (eb : b = a + 1) (ht : (T b).toInt = so.toInt) (ew : w = V b) (h : sp_nn so w ar L) (ec : c = b + 1) (h2 : (T c).toInt = 61) (ed : d = c + 1) (q : E L (d, K) = none) : sp_le T P V E L (a, K) = none := by rw [sp_le_eq hl eb ht ew h ec, if_pos h2, ← ed, q]; rfl
theorem sp_le_x4 (hl : sp_nl gn ar L) (eb : b = a + 1) (ht : (T b).toInt = so.toInt) (ew : w = V b) (h : sp_nn so w ar L) (ec : c = b + 1) (h2 : (T c).toInt = 61) (ed : d = c + 1) (q : E L (d, K) = some s1) (h3 : (T s1.2.1).toInt ≠ 263) : sp_le T P V E L (a, K) = none := by rw [sp_le_eq hl eb ht ew h ec, if_pos h2, ← ed, q]; exact if_neg h3
theorem sp_le_y (hl : sp_nl gn ar L) (eb : b = a + 1) (ht : (T b).toInt = so.toInt) (ew : w = V b) (h : sp_nn so w ar L) (ec : c = b + 1) (h2 : (T c).toInt = 61) (ed : d = c + 1) (q : E L (d, K) = some s1) (h3 : (T s1.2.1).toInt = 263) (ee : e = s1.2.1 + 1) (q2 : E (L ++ [w]) (e, s1.2.2) = o) : sp_le T P V E L (a, K) = o.bind fun s2 => some (.tlet (P a).toInt L.length s1.1 s2.1, s2.2) := by rw [sp_le_eq hl eb ht ew h ec, if_pos h2, ← ed, q]; refine Eq.trans (if_pos h3) ?_; rw [← ee, ← q2]; rfl
theorem sp_if_1 (eb : b = a + 1) (q : E L (b, K) = some s1) : sp_if T P E L (a, K) = if (T s1.2.1).toInt = 265 then (E L (sp_to s1.2 (s1.2.1 + 1))).bind fun s2 => if (T s2.2.1).toInt = 266 then (E L (sp_to s2.2 (s2.2.1 + 1))).bind fun s3 => some (.ite (P a).toInt s1.1 s2.1 s3.1, s3.2) else none else none := by
  unfold sp_if; rw [show sp_to (a, K) ((a, K).1 + 1) = (b, K) by rw [eb]; rfl, q]; rfl
theorem sp_if_x0 (eb : b = a + 1) (q : E L (b, K) = none) : sp_if T P E L (a, K) = none := by
  unfold sp_if; rw [show sp_to (a, K) ((a, K).1 + 1) = (b, K) by rw [eb]; rfl, q]; rfl
theorem sp_if_x1 (eb : b = a + 1) (q : E L (b, K) = some s1) (h : (T s1.2.1).toInt ≠ 265) : sp_if T P E L (a, K) = none := by rw [sp_if_1 eb q, if_neg h]
theorem sp_if_x2 (eb : b = a + 1) (q : E L (b, K) = some s1) (h : (T s1.2.1).toInt = 265) (ec : c = s1.2.1 + 1) (q2 : E L (c, s1.2.2) = none) : sp_if T P E L (a, K) = none := by rw [sp_if_1 eb q, if_pos h, show sp_to s1.2 (s1.2.1 + 1) = (c, s1.2.2) by rw [ec]; rfl, q2]; rfl
theorem sp_if_x3 (eb : b = a + 1) (q : E L (b, K) = some s1) (h : (T s1.2.1).toInt = 265) (ec : c = s1.2.1 + 1) (q2 : E L (c, s1.2.2) = some s2) (h2 : (T s2.2.1).toInt ≠ 266) : sp_if T P E L (a, K) = none := by rw [sp_if_1 eb q, if_pos h, show sp_to s1.2 (s1.2.1 + 1) = (c, s1.2.2) by rw [ec]; rfl, q2]; exact if_neg h2
theorem sp_if_y (eb : b = a + 1) (q : E L (b, K) = some s1) (h : (T s1.2.1).toInt = 265) (ec : c = s1.2.1 + 1) (q2 : E L (c, s1.2.2) = some s2) (h2 : (T s2.2.1).toInt = 266) (ed : d = s2.2.1 + 1) (q3 : E L (d, s2.2.2) = o) : sp_if T P E L (a, K) = o.bind fun s3 => some (.ite (P a).toInt s1.1 s2.1 s3.1, s3.2) := by rw [sp_if_1 eb q, if_pos h, show sp_to s1.2 (s1.2.1 + 1) = (c, s1.2.2) by rw [ec]; rfl, q2]; refine Eq.trans (if_pos h2) ?_; rw [show sp_to s2.2 (s2.2.1 + 1) = (d, s2.2.2) by rw [ed]; rfl, ← q3]
/-- arguments -/
theorem sp_ar_t {most n : Nat} {m : Tm} (h : ¬ tm_ln m < most) : sp_ar T E most L n m (a, K) = none := by
  cases n with
  | zero => rfl
  | succ n => unfold sp_ar; rw [if_neg h]
theorem sp_ar_x {most n : Nat} {m : Tm} (eb : b = a + 1) (q : E L (b, K) = none) : sp_ar T E most L n m (a, K) = none := by
  cases n with
  | zero => rfl
  | succ n =>
    unfold sp_ar
    rw [show sp_to (a, K) ((a, K).1 + 1) = (b, K) by rw [eb]; rfl, q]
    split <;> rfl
theorem sp_ar_s {most n : Nat} {m : Tm} (h : tm_ln m < most) (eb : b = a + 1) (q : E L (b, K) = some s1) : sp_ar T E most L (n + 1) m (a, K) = if (T s1.2.1).toInt = 44 then sp_ar T E most L n (tm_sn m s1.1) s1.2 else if (T s1.2.1).toInt = 41 then some (tm_sn m s1.1, sp_to s1.2 (s1.2.1 + 1)) else none := by
  conv => lhs; unfold sp_ar
  rw [if_pos h, show sp_to (a, K) ((a, K).1 + 1) = (b, K) by rw [eb]; rfl, q]; rfl
theorem sp_E_nb {f : Nat} (h : ¬ ((T a).toInt = 262 ∨ (T a).toInt = 264 ∨ (T a).toInt = 267 ∨ (T a).toInt = 260 ∨ (T a).toInt = 258 ∨ (T a).toInt = 259 ∨ (T a).toInt = 40)) : sp_E T P V f L (a, K) = none := by
  cases f with
  | zero => rfl
  | succ f =>
    have h1 : (T a).toInt ≠ 262 := fun g => h (by omega)
    have h2 : (T a).toInt ≠ 264 := fun g => h (by omega)
    have h3 : (T a).toInt ≠ 267 := fun g => h (by omega)
    have h4 : (T a).toInt ≠ 260 := fun g => h (by omega)
    have h5 : (T a).toInt ≠ 258 := fun g => h (by omega)
    have h6 : (T a).toInt ≠ 259 := fun g => h (by omega)
    have h7 : (T a).toInt ≠ 40 := fun g => h (by omega)
    show sp_e T P V (sp_E T P V f) L (a, K) = none
    unfold sp_e sp_cm sp_sm sp_pt sp_at
    simp only [h1, h2, h3, h4, h5, h6, h7, if_false]
    rfl
end
theorem sp_cl_a {op a a2 b pl : Nat → Int32} {V : Nat → Int64} {zz cz x : Int32} {k : Nat} {C : List (Int64 × Int × Int)} (h : sp_cl op a b pl V zz cz C) (e : a2 = upd a k x) (hk : (op k).toInt ≠ 6 ∧ (op k).toInt ≠ 7) : sp_cl op a2 b pl V zz cz C := sp_cl_up h (fun _ _ => rfl) (fun r _ g => ⟨by rw [e, zu_n (fun u => by subst u; omega)], rfl, rfl⟩)
theorem sp_cl_b {op a b b2 pl : Nat → Int32} {V : Nat → Int64} {zz cz x : Int32} {k : Nat} {C : List (Int64 × Int × Int)} (h : sp_cl op a b pl V zz cz C) (e : b2 = upd b k x) (hk : (op k).toInt ≠ 6 ∧ (op k).toInt ≠ 7) : sp_cl op a b2 pl V zz cz C := sp_cl_up h (fun _ _ => rfl) (fun r _ g => ⟨rfl, by rw [e, zu_n (fun u => by subst u; omega)], rfl⟩)
/-- a loop's rest -/
def sp_lp (op a b pl : Nat → Int32) (V : Nat → Int64) (zz cz pa kz : Int32) (kw : Nat → Int64) (kf : Nat → Int32) (Z : Tm → Prop) (o : Option (Tm × sp_S)) (F : Nat → Tm × sp_S → Option (Tm × sp_S)) (p : Int) (H : Nat → Tm × sp_S → Int) (i : Int) : Prop := ∃ (C : List (Int64 × Int × Int)) (n : Nat) (t : Tm), sp_cl op a b pl V zz cz C ∧ (n : Int) = 2001 - i ∧ o = F n (t, (Int32.toNatClampNeg pa, Int32.toNatClampNeg kz, kw, kf, C)) ∧ p = H n (t, (Int32.toNatClampNeg pa, Int32.toNatClampNeg kz, kw, kf, C)) ∧ Z t
/-- arguments so far -/
def sp_la (T P : Nat → Int32) (op a b pl : Nat → Int32) (V : Nat → Int64) (zz cz pa kz : Int32) (kw : Nat → Int64) (kf : Nat → Int32) (Z : Tm → Prop) (o : Option (Tm × sp_S)) (F : Nat → Tm → sp_S → Option (Tm × sp_S)) (p : Int) (H : Nat → Tm → sp_S → Int) (cnt : Int32) (mr : Int) : Prop := ∃ (C : List (Int64 × Int × Int)) (n : Nat) (t : Tm), sp_cl op a b pl V zz cz C ∧ (n : Int) = 2001 - cnt.toInt ∧ (tm_ln t : Int) = cnt.toInt ∧ Z t ∧ sp_im (mr ≠ 0) (o = F n t (Int32.toNatClampNeg pa, Int32.toNatClampNeg kz, kw, kf, C)) ∧ sp_im (mr = 0) (o = if (T (Int32.toNatClampNeg pa)).toInt = 41 then some (t, (Int32.toNatClampNeg pa + 1, Int32.toNatClampNeg kz, kw, kf, C)) else none) ∧ sp_im (mr ≠ 0) (p = H n t (Int32.toNatClampNeg pa, Int32.toNatClampNeg kz, kw, kf, C)) ∧ sp_im (mr = 0) (p = (P (Int32.toNatClampNeg pa)).toInt)
def sp_ra (nop na nb npl : Nat → Int32) (V : Nat → Int64) (zz cz2 pa2 kz2 : Int32) (kw2 : Nat → Int64) (kf2 : Nat → Int32) (r : Int32) (Z : Tm → Prop) (o : Option (Tm × sp_S)) : Prop := ∃ C2 t, sp_cl nop na nb npl V zz cz2 C2 ∧ o = some (t, (Int32.toNatClampNeg pa2, Int32.toNatClampNeg kz2, kw2, kf2, C2)) ∧ (tm_ln t : Int) = r.toInt ∧ Z t
section
variable {T P : Nat → Int32} {V : Nat → Int64} {E : List Int64 → sp_S → Option (Tm × sp_S)} {L : List Int64} {K : Nat × (Nat → Int64) × (Nat → Int32) × List (Int64 × Int × Int)} {a b c d e : Nat} {s1 s2 : Tm × sp_S} {o : Option (Tm × sp_S)} {t : Tm}
theorem pf_ar_t {X : List Int64 → sp_S → Int} {most n : Nat} {m : Tm} (h : ¬ tm_ln m < most) (eb : b = a + 1) : pf_ar T P E X most L n m (a, K) = (P b).toInt := by
  subst eb
  cases n with
  | zero => rfl
  | succ n => unfold pf_ar; exact if_neg h
theorem pf_ar_x {X : List Int64 → sp_S → Int} {most n : Nat} {m : Tm} (hn : 1 ≤ n) (h : tm_ln m < most) (eb : b = a + 1) (q : E L (b, K) = none) : pf_ar T P E X most L n m (a, K) = X L (b, K) := by
  subst eb
  obtain ⟨k, rfl⟩ : ∃ k, n = k + 1 := ⟨n - 1, by omega⟩
  unfold pf_ar
  exact (if_pos h).trans (pf_b_n q)
theorem pf_ar_b {X : List Int64 → sp_S → Int} {most n : Nat} {m : Tm} (eb : b = a + 1) (q : E L (b, K) = none) (hx : X L (b, K) = (P b).toInt) : pf_ar T P E X most L n m (a, K) = (P b).toInt := by
  by_cases h : tm_ln m < most
  · cases n with
    | zero => subst eb; rfl
    | succ n => rw [pf_ar_x (by omega) h eb q, hx]
  · exact pf_ar_t h eb
theorem pf_ar_s {X : List Int64 → sp_S → Int} {most n : Nat} {m : Tm} (h : tm_ln m < most) (eb : b = a + 1) (q : E L (b, K) = some s1) : pf_ar T P E X most L (n + 1) m (a, K) = if (T s1.2.1).toInt = 44 then pf_ar T P E X most L n (tm_sn m s1.1) s1.2 else (P s1.2.1).toInt := by
  subst eb
  conv => lhs; unfold pf_ar
  exact (if_pos h).trans (pf_b_s q)
theorem sp_la_s {F0 : Option (Tm × sp_S)} {F1 : Int} {X : List Int64 → sp_S → Int} {m t1 : Tm} {Z : Tm → Prop} {most n : Nat} {op al bl pl : Nat → Int32} {zz cz cnt cnt2 pa2 kz2 : Int32} {kw2 : Nat → Int64} {kf2 : Nat → Int32} {C2 : List (Int64 × Int × Int)} {mr2 : Int} (hn : (n : Int) = 2001 - cnt.toInt) (h0 : 0 ≤ cnt.toInt) (hl : (tm_ln m : Int) = cnt.toInt) (hm : cnt.toInt < most) (hm2 : most ≤ 2000) (hr : F0 = sp_ar T E most L n m (a, K)) (hg : F1 = pf_ar T P E X most L n m (a, K)) (eb : b = a + 1) (q : E L (b, K) = some (t1, (Int32.toNatClampNeg pa2, Int32.toNatClampNeg kz2, kw2, kf2, C2))) (hcl : sp_cl op al bl pl V zz cz C2) (hZ : Z (tm_sn m t1)) (ec : cnt2.toInt = cnt.toInt + 1) (hmr : mr2 ≠ 0 ∧ (T (Int32.toNatClampNeg pa2)).toInt = 44 ∨ mr2 = 0 ∧ (T (Int32.toNatClampNeg pa2)).toInt ≠ 44) : sp_la T P op al bl pl V zz cz pa2 kz2 kw2 kf2 Z F0 (sp_ar T E most L) F1 (pf_ar T P E X most L) cnt2 mr2 := by
  have n1 := zn_nat h0
  obtain ⟨k, rfl⟩ : ∃ k, n = k + 1 := ⟨n - 1, by omega⟩
  rw [sp_ar_s (by omega) eb q] at hr
  rw [pf_ar_s (by omega) eb q] at hg
  exact ⟨C2, k, tm_sn m t1, hcl, by omega, by rw [tm_ln_sn]; omega, hZ, fun g => hr.trans (if_pos (by rcases hmr with u | u; exact u.2; exact absurd u.1 g)), fun g => hr.trans (if_neg (by rcases hmr with u | u; exact absurd g u.1; exact u.2)), fun g => hg.trans (if_pos (by rcases hmr with u | u; exact u.2; exact absurd u.1 g)), fun g => hg.trans (if_neg (by rcases hmr with u | u; exact absurd g u.1; exact u.2))⟩
theorem sp_prL_n {n : Nat} (hn : 1 ≤ n) (h : (T a).toInt ≠ 42) : sp_prL T P V E L n (t, (a, K)) = some (t, (a, K)) := by
  obtain ⟨k, rfl⟩ : ∃ k, n = k + 1 := ⟨n - 1, by omega⟩
  unfold sp_prL; exact if_neg h
theorem sp_prL_s {n k : Nat} (hn : n = k + 1) (h : (T a).toInt = 42) (eb : b = a + 1) (q : sp_at T P V E L (b, K) = o) : sp_prL T P V E L n (t, (a, K)) = o.bind fun q => sp_prL T P V E L k (.bin (P a).toInt 42 t q.1, q.2) := by
  subst hn; subst eb; subst q
  conv => lhs; unfold sp_prL
  exact if_pos h
theorem sp_smL_n {n : Nat} (hn : 1 ≤ n) (h : (T a).toInt ≠ 43) (h2 : (T a).toInt ≠ 45) : sp_smL T P V E L n (t, (a, K)) = some (t, (a, K)) := by
  obtain ⟨k, rfl⟩ : ∃ k, n = k + 1 := ⟨n - 1, by omega⟩
  unfold sp_smL; exact if_neg (fun g => g.elim h h2)
theorem sp_smL_s {n k : Nat} (hn : n = k + 1) (h : (T a).toInt = 43 ∨ (T a).toInt = 45) (eb : b = a + 1) (q : sp_pt T P V E L (b, K) = o) : sp_smL T P V E L n (t, (a, K)) = o.bind fun q => sp_smL T P V E L k (.bin (P a).toInt (T a).toInt t q.1, q.2) := by
  subst hn; subst eb; subst q
  conv => lhs; unfold sp_smL
  exact if_pos h
theorem sp_cm_y (q : sp_sm T P V E L (a, K) = some s1) (h : (T s1.2.1).toInt = 60) (eb : b = s1.2.1 + 1) (q2 : sp_sm T P V E L (b, s1.2.2) = o) : sp_cm T P V E L (a, K) = o.bind fun q => some (.bin (P s1.2.1).toInt 60 s1.1 q.1, q.2) := by
  unfold sp_cm; rw [sp_b1 q, if_pos h, show sp_to s1.2 (s1.2.1 + 1) = (b, s1.2.2) by rw [eb]; rfl, ← q2]
theorem sp_cm_n (q : sp_sm T P V E L (a, K) = some s1) (h : (T s1.2.1).toInt ≠ 60) : sp_cm T P V E L (a, K) = some s1 := by
  unfold sp_cm; rw [sp_b1 q, if_neg h]
theorem sp_cm_x (q : sp_sm T P V E L (a, K) = none) : sp_cm T P V E L (a, K) = none := sp_bx q
theorem sp_at_num (h : (T a).toInt = 260) (eb : b = a + 1) : sp_at T P V E L (a, K) = some (.num (P a).toInt (Int64.toInt32 (V a)).toInt, (b, K)) := by
  subst eb; unfold sp_at; exact if_pos h
theorem sp_at_nm (h : (T a).toInt = 258) : sp_at T P V E L (a, K) = if (T (a + 1)).toInt = 40 then (sp_ar T E 2000 L 2001 .nil (a + 1, K)).bind fun q => some (.call (P a).toInt (V a) q.1, sp_ca q.2 (V a) (tm_ln q.1 : Int) (P a).toInt) else if V a ∈ L then some (.use (P a).toInt (sp_ix L (V a)), (a + 1, K)) else some (.call (P a).toInt (V a) .nil, sp_ca (a + 1, K) (V a) 0 (P a).toInt) := by
  unfold sp_at
  rw [if_neg (by show ¬ (T a).toInt = 260; omega)]
  exact if_pos h
theorem sp_at_nmc {r : Tm} {s : sp_S} {n : Int} (h : (T a).toInt = 258) (eb : b = a + 1) (h2 : (T b).toInt = 40) (q : sp_ar T E 2000 L 2001 .nil (b, K) = some (r, s)) (hn : (tm_ln r : Int) = n) : sp_at T P V E L (a, K) = some (.call (P a).toInt (V a) r, sp_ca s (V a) n (P a).toInt) := by
  subst hn; subst eb; rw [sp_at_nm h, if_pos h2, q]; rfl
theorem sp_at_nmx (h : (T a).toInt = 258) (eb : b = a + 1) (h2 : (T b).toInt = 40) (q : sp_ar T E 2000 L 2001 .nil (b, K) = none) : sp_at T P V E L (a, K) = none := by
  subst eb; rw [sp_at_nm h, if_pos h2, q]; rfl
theorem sp_at_nmu (h : (T a).toInt = 258) (eb : b = a + 1) (h2 : (T b).toInt ≠ 40) (hm : V a ∈ L) : sp_at T P V E L (a, K) = some (.use (P a).toInt (sp_ix L (V a)), (b, K)) := by
  subst eb; rw [sp_at_nm h, if_neg h2, if_pos hm]
theorem sp_at_nma (h : (T a).toInt = 258) (eb : b = a + 1) (h2 : (T b).toInt ≠ 40) (hm : V a ∉ L) : sp_at T P V E L (a, K) = some (.call (P a).toInt (V a) .nil, sp_ca (b, K) (V a) 0 (P a).toInt) := by
  subst eb; rw [sp_at_nm h, if_neg h2, if_neg hm]
theorem sp_at_kd (h : (T a).toInt = 259) : sp_at T P V E L (a, K) = (sp_ki V (a, K)).bind fun q => if (T (a + 1)).toInt = 40 then (sp_ar T E 3 L 2001 .nil (sp_to q.2 (a + 1))).bind fun q2 => (sp_te q.1 (tm_ln q2.1 : Int) q2.2).bind fun s3 => some (.made (P a).toInt q.1 q2.1, s3) else (sp_te q.1 0 (sp_to q.2 (a + 1))).bind fun s3 => some (.made (P a).toInt q.1 .nil, s3) := by
  unfold sp_at
  rw [if_neg (by show ¬ (T a).toInt = 260; omega), if_neg (by show ¬ (T a).toInt = 258; omega)]
  exact if_pos h
theorem sp_at_kdx {wd : Int64} {kz : Int32} {kw : Nat → Int64} {kf : Nat → Int32} {C : List (Int64 × Int × Int)} (h : (T a).toInt = 259) (ew : V a = wd) (hk : sp_kh wd kz kw kf none) : sp_at T P V E L (a, Int32.toNatClampNeg kz, kw, kf, C) = none := by
  rw [sp_at_kd h, hk V a C ew]; rfl
theorem sp_at_kda {wd : Int64} {kz r kz2 fi : Int32} {kw kw2 : Nat → Int64} {kf kf2 : Nat → Int32} {o3 : Option (Nat → Int32)} {C : List (Int64 × Int × Int)} (h : (T a).toInt = 259) (ew : V a = wd) (hk : sp_kh wd kz kw kf (some (r, kz2, kw2, kf2))) (eb : b = a + 1) (h2 : (T b).toInt ≠ 40) (hf : fi.toInt = 0) (ht : sp_td r fi kf2 o3) : sp_at T P V E L (a, Int32.toNatClampNeg kz, kw, kf, C) = o3.map (fun q => (.made (P a).toInt (Int32.toNatClampNeg r) .nil, (b, Int32.toNatClampNeg kz2, kw2, q, C))) := by
  subst eb
  have := ht (a + 1) (Int32.toNatClampNeg kz2) kw2 C
  rw [hf] at this
  rw [sp_at_kd h, hk V a C ew]
  show (if (T (a + 1)).toInt = 40 then _ else (sp_te (Int32.toNatClampNeg r) 0 (a + 1, Int32.toNatClampNeg kz2, kw2, kf2, C)).bind _) = _
  rw [if_neg h2, this]
  cases o3 <;> rfl
theorem sp_at_kdf {wd : Int64} {kz r kz2 : Int32} {kw kw2 : Nat → Int64} {kf kf2 : Nat → Int32} {C : List (Int64 × Int × Int)} (h : (T a).toInt = 259) (ew : V a = wd) (hk : sp_kh wd kz kw kf (some (r, kz2, kw2, kf2))) (eb : b = a + 1) (h2 : (T b).toInt = 40) (q : sp_ar T E 3 L 2001 .nil (b, Int32.toNatClampNeg kz2, kw2, kf2, C) = none) : sp_at T P V E L (a, Int32.toNatClampNeg kz, kw, kf, C) = none := by
  subst eb
  rw [sp_at_kd h, hk V a C ew]
  show (if (T (a + 1)).toInt = 40 then (sp_ar T E 3 L 2001 .nil (a + 1, Int32.toNatClampNeg kz2, kw2, kf2, C)).bind _ else _) = _
  rw [if_pos h2, q]; rfl
theorem sp_at_kdt {wd : Int64} {kz r kz2 fi kz3 : Int32} {kw kw2 kw3 : Nat → Int64} {kf kf2 kf3 : Nat → Int32} {o3 : Option (Nat → Int32)} {C C3 : List (Int64 × Int × Int)} {ta : Tm} (h : (T a).toInt = 259) (ew : V a = wd) (hk : sp_kh wd kz kw kf (some (r, kz2, kw2, kf2))) (eb : b = a + 1) (h2 : (T b).toInt = 40) (q : sp_ar T E 3 L 2001 .nil (b, Int32.toNatClampNeg kz2, kw2, kf2, C) = some (ta, (c, Int32.toNatClampNeg kz3, kw3, kf3, C3))) (hf : (tm_ln ta : Int) = fi.toInt) (ht : sp_td r fi kf3 o3) : sp_at T P V E L (a, Int32.toNatClampNeg kz, kw, kf, C) = o3.map (fun q => (.made (P a).toInt (Int32.toNatClampNeg r) ta, (c, Int32.toNatClampNeg kz3, kw3, q, C3))) := by
  subst eb
  have := ht c (Int32.toNatClampNeg kz3) kw3 C3
  rw [sp_at_kd h, hk V a C ew]
  show (if (T (a + 1)).toInt = 40 then (sp_ar T E 3 L 2001 .nil (a + 1, Int32.toNatClampNeg kz2, kw2, kf2, C)).bind _ else _) = _
  rw [if_pos h2, q]
  show (sp_te (Int32.toNatClampNeg r) (tm_ln ta : Int) (c, Int32.toNatClampNeg kz3, kw3, kf3, C3)).bind _ = _
  rw [hf, this]
  cases o3 <;> rfl
theorem sp_at_br (h : (T a).toInt = 40) : sp_at T P V E L (a, K) = (E L (a + 1, K)).bind fun q => if (T q.2.1).toInt = 41 then some (q.1, sp_to q.2 (q.2.1 + 1)) else none := by
  unfold sp_at
  rw [if_neg (by show ¬ (T a).toInt = 260; omega), if_neg (by show ¬ (T a).toInt = 258; omega), if_neg (by show ¬ (T a).toInt = 259; omega)]
  exact if_pos h
theorem sp_at_brx (h : (T a).toInt = 40) (eb : b = a + 1) (q : E L (b, K) = none) : sp_at T P V E L (a, K) = none := by subst eb; rw [sp_at_br h, q]; rfl
theorem sp_at_br1 (h : (T a).toInt = 40) (eb : b = a + 1) (q : E L (b, K) = some s1) (h2 : (T s1.2.1).toInt ≠ 41) : sp_at T P V E L (a, K) = none := by subst eb; rw [sp_at_br h, q]; exact if_neg h2
theorem sp_at_bry (h : (T a).toInt = 40) (eb : b = a + 1) (q : E L (b, K) = some s1) (h2 : (T s1.2.1).toInt = 41) (ec : c = s1.2.1 + 1) : sp_at T P V E L (a, K) = some (s1.1, (c, s1.2.2)) := by subst eb; rw [sp_at_br h, q]; refine (if_pos h2).trans ?_; rw [ec]; rfl
theorem sp_at_no (h1 : (T a).toInt ≠ 260) (h2 : (T a).toInt ≠ 258) (h3 : (T a).toInt ≠ 259) (h4 : (T a).toInt ≠ 40) : sp_at T P V E L (a, K) = none := by
  unfold sp_at
  rw [if_neg h1, if_neg h2, if_neg h3, if_neg h4]
end
section
variable {T P : Nat → Int32} {V : Nat → Int64} {E : List Int64 → sp_S → Option (Tm × sp_S)} {X : List Int64 → sp_S → Int} {L : List Int64} {K : Nat × (Nat → Int64) × (Nat → Int32) × List (Int64 × Int × Int)} {gn : Nat → Int64} {so ar : Int32} {w : Int64} {a b c d e : Nat} {s1 s2 : Tm × sp_S} {t : Tm}
theorem pf_le_x1 (hl : sp_nl gn ar L) (eb : b = a + 1) (ht : (T b).toInt = so.toInt) (ew : w = V b) (h : ¬ sp_nn so w ar L) : pf_le T P V E X L (a, K) = (P b).toInt := by
  have := hl.1
  unfold pf_le
  rw [if_neg (fun g => h ⟨by rw [← ht, eb]; exact g.1, by rw [ew, eb]; exact g.2.1, by have := g.2.2; omega⟩), eb]
theorem pf_le_eq (hl : sp_nl gn ar L) (eb : b = a + 1) (ht : (T b).toInt = so.toInt) (ew : w = V b) (h : sp_nn so w ar L) (ec : c = b + 1) : pf_le T P V E X L (a, K) = if (T c).toInt = 61 then pf_b (E L (c + 1, K)) (X L (c + 1, K)) fun s1 => if (T s1.2.1).toInt = 263 then X (L ++ [w]) (sp_to s1.2 (s1.2.1 + 1)) else (P s1.2.1).toInt else (P c).toInt := by
  have := hl.1
  have e2 : c = a + 2 := by omega
  unfold pf_le
  rw [if_pos ⟨by show (T (a + 1)).toInt = 258; rw [← eb, ht]; exact h.1, by show V (a + 1) ∉ L; rw [← eb, ← ew]; exact h.2.1, by have := h.2.2; omega⟩]
  subst e2; subst eb; rw [ew]; rfl
theorem pf_le_x2 (hl : sp_nl gn ar L) (eb : b = a + 1) (ht : (T b).toInt = so.toInt) (ew : w = V b) (h : sp_nn so w ar L) (ec : c = b + 1) (h2 : (T c).toInt ≠ 61) : pf_le T P V E X L (a, K) = (P c).toInt := by rw [pf_le_eq hl eb ht ew h ec, if_neg h2]
theorem pf_le_x3 (hl : sp_nl gn ar L) (eb : b = a + 1) (ht : (T b).toInt = so.toInt) (ew : w = V b) (h : sp_nn so w ar L) (ec : c = b + 1) (h2 : (T c).toInt = 61) (ed : d = c + 1) (q : E L (d, K) = none) : pf_le T P V E X L (a, K) = X L (d, K) := by rw [pf_le_eq hl eb ht ew h ec, if_pos h2, ← ed, pf_b_n q]
theorem pf_le_x4 (hl : sp_nl gn ar L) (eb : b = a + 1) (ht : (T b).toInt = so.toInt) (ew : w = V b) (h : sp_nn so w ar L) (ec : c = b + 1) (h2 : (T c).toInt = 61) (ed : d = c + 1) (q : E L (d, K) = some s1) (h3 : (T s1.2.1).toInt ≠ 263) : pf_le T P V E X L (a, K) = (P s1.2.1).toInt := by rw [pf_le_eq hl eb ht ew h ec, if_pos h2, ← ed, pf_b_s q]; exact if_neg h3
theorem pf_le_x5 (hl : sp_nl gn ar L) (eb : b = a + 1) (ht : (T b).toInt = so.toInt) (ew : w = V b) (h : sp_nn so w ar L) (ec : c = b + 1) (h2 : (T c).toInt = 61) (ed : d = c + 1) (q : E L (d, K) = some s1) (h3 : (T s1.2.1).toInt = 263) (ee : e = s1.2.1 + 1) : pf_le T P V E X L (a, K) = X (L ++ [w]) (e, s1.2.2) := by rw [pf_le_eq hl eb ht ew h ec, if_pos h2, ← ed, pf_b_s q]; subst ee; exact if_pos h3
theorem pf_if_x0 (eb : b = a + 1) (q : E L (b, K) = none) : pf_if T P E X L (a, K) = X L (b, K) := by subst eb; unfold pf_if; exact pf_b_n q
theorem pf_if_1 (eb : b = a + 1) (q : E L (b, K) = some s1) : pf_if T P E X L (a, K) = if (T s1.2.1).toInt = 265 then pf_b (E L (sp_to s1.2 (s1.2.1 + 1))) (X L (sp_to s1.2 (s1.2.1 + 1))) fun s2 => if (T s2.2.1).toInt = 266 then X L (sp_to s2.2 (s2.2.1 + 1)) else (P s2.2.1).toInt else (P s1.2.1).toInt := by subst eb; unfold pf_if; exact pf_b_s q
theorem pf_if_x1 (eb : b = a + 1) (q : E L (b, K) = some s1) (h : (T s1.2.1).toInt ≠ 265) : pf_if T P E X L (a, K) = (P s1.2.1).toInt := by rw [pf_if_1 eb q, if_neg h]
theorem pf_if_x2 (eb : b = a + 1) (q : E L (b, K) = some s1) (h : (T s1.2.1).toInt = 265) (ec : c = s1.2.1 + 1) (q2 : E L (c, s1.2.2) = none) : pf_if T P E X L (a, K) = X L (c, s1.2.2) := by subst ec; rw [pf_if_1 eb q, if_pos h]; exact pf_b_n q2
theorem pf_if_x3 (eb : b = a + 1) (q : E L (b, K) = some s1) (h : (T s1.2.1).toInt = 265) (ec : c = s1.2.1 + 1) (q2 : E L (c, s1.2.2) = some s2) (h2 : (T s2.2.1).toInt ≠ 266) : pf_if T P E X L (a, K) = (P s2.2.1).toInt := by subst ec; rw [pf_if_1 eb q, if_pos h]; exact (pf_b_s q2).trans (if_neg h2)
theorem pf_if_x4 (eb : b = a + 1) (q : E L (b, K) = some s1) (h : (T s1.2.1).toInt = 265) (ec : c = s1.2.1 + 1) (q2 : E L (c, s1.2.2) = some s2) (h2 : (T s2.2.1).toInt = 266) (ed : d = s2.2.1 + 1) : pf_if T P E X L (a, K) = X L (d, s2.2.2) := by subst ec; subst ed; rw [pf_if_1 eb q, if_pos h]; exact (pf_b_s q2).trans (if_pos h2)
theorem pf_prL_s {n k : Nat} (hn : n = k + 1) (eb : b = a + 1) (q : sp_at T P V E L (b, K) = some s1) : pf_prL T P V E X L n (t, (a, K)) = pf_prL T P V E X L k (.bin (P a).toInt 42 t s1.1, s1.2) := by
  subst hn; subst eb
  conv => lhs; unfold pf_prL
  exact pf_b_s q
theorem pf_prL_x {n k : Nat} (hn : n = k + 1) (eb : b = a + 1) (q : sp_at T P V E L (b, K) = none) : pf_prL T P V E X L n (t, (a, K)) = pf_at T P V E X L (b, K) := by
  subst hn; subst eb
  conv => lhs; unfold pf_prL
  exact pf_b_n q
theorem pf_smL_s {n k : Nat} (hn : n = k + 1) (eb : b = a + 1) (q : sp_pt T P V E L (b, K) = some s1) : pf_smL T P V E X L n (t, (a, K)) = pf_smL T P V E X L k (.bin (P a).toInt (T a).toInt t s1.1, s1.2) := by
  subst hn; subst eb
  conv => lhs; unfold pf_smL
  exact pf_b_s q
theorem pf_smL_x {n k : Nat} (hn : n = k + 1) (eb : b = a + 1) (q : sp_pt T P V E L (b, K) = none) : pf_smL T P V E X L n (t, (a, K)) = pf_pt T P V E X L (b, K) := by
  subst hn; subst eb
  conv => lhs; unfold pf_smL
  exact pf_b_n q
theorem pf_cm_x (q : sp_sm T P V E L (a, K) = none) : pf_cm T P V E X L (a, K) = pf_sm T P V E X L (a, K) := pf_b_n q
theorem pf_cm_y (q : sp_sm T P V E L (a, K) = some s1) (eb : b = s1.2.1 + 1) : pf_cm T P V E X L (a, K) = pf_sm T P V E X L (b, s1.2.2) := by subst eb; exact pf_b_s q
theorem pf_at_nmx (h : (T a).toInt = 258) (eb : b = a + 1) : pf_at T P V E X L (a, K) = pf_ar T P E X 2000 L 2001 .nil (b, K) := by
  subst eb; unfold pf_at; exact if_pos h
theorem pf_at_kd (h : (T a).toInt = 259) : pf_at T P V E X L (a, K) = pf_b (sp_ki V (a, K)) (P a).toInt fun q => if (T (a + 1)).toInt = 40 then pf_b (sp_ar T E 3 L 2001 .nil (sp_to q.2 (a + 1))) (pf_ar T P E X 3 L 2001 .nil (sp_to q.2 (a + 1))) (fun _ => (P a).toInt) else (P a).toInt := by
  unfold pf_at
  exact (if_neg (by show ¬ (T a).toInt = 258; omega)).trans (if_pos h)
theorem pf_at_kdx {wd : Int64} {kz : Int32} {kw : Nat → Int64} {kf : Nat → Int32} {C : List (Int64 × Int × Int)} (h : (T a).toInt = 259) (ew : V a = wd) (hk : sp_kh wd kz kw kf none) : pf_at T P V E X L (a, Int32.toNatClampNeg kz, kw, kf, C) = (P a).toInt := by
  rw [pf_at_kd h]; exact pf_b_n (hk V a C ew)
theorem pf_at_kd1 {wd : Int64} {kz r kz2 : Int32} {kw kw2 : Nat → Int64} {kf kf2 : Nat → Int32} {C : List (Int64 × Int × Int)} (h : (T a).toInt = 259) (ew : V a = wd) (hk : sp_kh wd kz kw kf (some (r, kz2, kw2, kf2))) (eb : b = a + 1) : pf_at T P V E X L (a, Int32.toNatClampNeg kz, kw, kf, C) = if (T b).toInt = 40 then pf_b (sp_ar T E 3 L 2001 .nil (b, Int32.toNatClampNeg kz2, kw2, kf2, C)) (pf_ar T P E X 3 L 2001 .nil (b, Int32.toNatClampNeg kz2, kw2, kf2, C)) (fun _ => (P a).toInt) else (P a).toInt := by
  subst eb
  rw [pf_at_kd h]; exact pf_b_s (hk V a C ew)
theorem pf_at_kdf {wd : Int64} {kz r kz2 : Int32} {kw kw2 : Nat → Int64} {kf kf2 : Nat → Int32} {C : List (Int64 × Int × Int)} (h : (T a).toInt = 259) (ew : V a = wd) (hk : sp_kh wd kz kw kf (some (r, kz2, kw2, kf2))) (eb : b = a + 1) (h2 : (T b).toInt = 40) (q : sp_ar T E 3 L 2001 .nil (b, Int32.toNatClampNeg kz2, kw2, kf2, C) = none) : pf_at T P V E X L (a, Int32.toNatClampNeg kz, kw, kf, C) = pf_ar T P E X 3 L 2001 .nil (b, Int32.toNatClampNeg kz2, kw2, kf2, C) := by rw [pf_at_kd1 h ew hk eb, if_pos h2, pf_b_n q]
theorem pf_at_kdt {wd : Int64} {kz r kz2 : Int32} {kw kw2 : Nat → Int64} {kf kf2 : Nat → Int32} {C : List (Int64 × Int × Int)} (h : (T a).toInt = 259) (ew : V a = wd) (hk : sp_kh wd kz kw kf (some (r, kz2, kw2, kf2))) (eb : b = a + 1) (h2 : (T b).toInt = 40) (q : sp_ar T E 3 L 2001 .nil (b, Int32.toNatClampNeg kz2, kw2, kf2, C) = some s1) : pf_at T P V E X L (a, Int32.toNatClampNeg kz, kw, kf, C) = (P a).toInt := by rw [pf_at_kd1 h ew hk eb, if_pos h2, pf_b_s q]
theorem pf_at_kda {wd : Int64} {kz r kz2 : Int32} {kw kw2 : Nat → Int64} {kf kf2 : Nat → Int32} {C : List (Int64 × Int × Int)} (h : (T a).toInt = 259) (ew : V a = wd) (hk : sp_kh wd kz kw kf (some (r, kz2, kw2, kf2))) (eb : b = a + 1) (h2 : (T b).toInt ≠ 40) : pf_at T P V E X L (a, Int32.toNatClampNeg kz, kw, kf, C) = (P a).toInt := by rw [pf_at_kd1 h ew hk eb, if_neg h2]
theorem pf_at_br (h : (T a).toInt = 40) (eb : b = a + 1) : pf_at T P V E X L (a, K) = pf_b (E L (b, K)) (X L (b, K)) (fun q => (P q.2.1).toInt) := by
  subst eb
  unfold pf_at
  exact (if_neg (by show ¬ (T a).toInt = 258; omega)).trans ((if_neg (by show ¬ (T a).toInt = 259; omega)).trans (if_pos h))
theorem pf_at_brx (h : (T a).toInt = 40) (eb : b = a + 1) (q : E L (b, K) = none) : pf_at T P V E X L (a, K) = X L (b, K) := by rw [pf_at_br h eb, pf_b_n q]
theorem pf_at_br1 (h : (T a).toInt = 40) (eb : b = a + 1) (q : E L (b, K) = some s1) : pf_at T P V E X L (a, K) = (P s1.2.1).toInt := by rw [pf_at_br h eb, pf_b_s q]
theorem pf_at_no (h2 : (T a).toInt ≠ 258) (h3 : (T a).toInt ≠ 259) (h4 : (T a).toInt ≠ 40) : pf_at T P V E X L (a, K) = (P a).toInt := by
  unfold pf_at
  exact (if_neg h2).trans ((if_neg h3).trans (if_neg h4))
theorem pf_E_nb {f : Nat} (h : ¬ ((T a).toInt = 262 ∨ (T a).toInt = 264 ∨ (T a).toInt = 267 ∨ (T a).toInt = 260 ∨ (T a).toInt = 258 ∨ (T a).toInt = 259 ∨ (T a).toInt = 40)) : pf_E T P V f L (a, K) = (P a).toInt := by
  cases f with
  | zero => rfl
  | succ f =>
    have h1 : (T a).toInt ≠ 262 := fun g => h (by omega)
    have h2 : (T a).toInt ≠ 264 := fun g => h (by omega)
    have h3 : (T a).toInt ≠ 267 := fun g => h (by omega)
    have h4 : (T a).toInt ≠ 260 := fun g => h (by omega)
    have h5 : (T a).toInt ≠ 258 := fun g => h (by omega)
    have h6 : (T a).toInt ≠ 259 := fun g => h (by omega)
    have h7 : (T a).toInt ≠ 40 := fun g => h (by omega)
    have q : sp_at T P V (sp_E T P V f) L (a, K) = none := sp_at_no h4 h5 h6 h7
    have q2 : sp_pt T P V (sp_E T P V f) L (a, K) = none := sp_bx q
    have q3 : sp_sm T P V (sp_E T P V f) L (a, K) = none := sp_bx q2
    show pf_e T P V (sp_E T P V f) (pf_E T P V f) L (a, K) = _
    unfold pf_e
    refine (if_neg h1).trans ((if_neg h2).trans ((if_neg h3).trans ?_))
    exact (pf_cm_x q3).trans ((pf_b_n q2).trans ((pf_b_n q).trans (pf_at_no h5 h6 h7)))
end

end
section
/-! the code of a tree -/
/-- is a kind with n fields made in it? -/
def tm_mk : Tm → Nat → Bool
  | .branch 0 (.leaf (some (0, _, _, _, _, _))) a, n => tm_mk a n
  | .branch 0 (.leaf (some (1, _, _, _, _, _))) a, n => (decide (0 < tm_ln a) && decide (tm_ln a = n)) || tm_mk a n
  | .branch 1 (.leaf (some (0, _, _, _, _, _))) (.branch _ a b), n => tm_mk a n || tm_mk b n
  | .branch 1 (.leaf (some (_ + 1, _, _, _, _, _))) (.branch _ a b), n => tm_mk a n || tm_mk b n
  | .branch 2 (.leaf (some (_, _, _, _, _, _))) (.branch _ a (.branch _ b c)), n => tm_mk a n || tm_mk b n || tm_mk c n
  | .branch 0 (.leaf (some (2, _, _, _, _, _))) a, n => tm_mk a n
  | .branch 0 (.leaf (some (_ + 3, _, _, _, _, _))) a, n => tm_mk a n
  | .branch (_ + 3) a b, n => tm_mk a n || tm_mk b n
  | _, _ => false
/-- the rows of the code and of the arms -/
def zcs (op a b pl ak an ab al af bu : Nat → Int32) : Nat → Nat → Int32
  | 0 => op | 1 => a | 2 => b | 3 => pl | 4 => ak | 5 => an | 6 => ab | 7 => al | 8 => af | _ => bu
/-- a sign's operation -/
def cI_op (o : Int) : Int := if o = 43 then 8 else if o = 45 then 9 else if o = 42 then 10 else 11
/-- the rows X, in the order of work, are the code of the tree; H says what a call's row has for its word; arms are alo .. ahi; of a row of arms: it stands behind row pv, its first arm is ar, all its arms go on behind row en -/
def cI (S : Nat → Nat → Int32) (H : Int32 → Int64 → Prop) (alo ahi : Int) : Tm → Bool → Nat → Int32 → Nat → List Nat → Prop
  | .leaf (some (0, p, v, _, _, _)), _, _, _, _, X => ∃ (r : Nat), X = [r] ∧ (S 0 r).toInt = 2 ∧ (S 1 r).toInt = v ∧ (S 3 r).toInt = p
  | .leaf (some (_ + 1, p, _, s, _, _)), _, _, _, _, X => ∃ (r : Nat), X = [r] ∧ (S 0 r).toInt = 3 ∧ (S 1 r).toInt = (s : Int) ∧ (S 3 r).toInt = p
  | .branch 0 (.leaf (some (0, p, _, _, _, w))) a, _, _, _, _, X => (tm_ln a = 0 ∧ a = Tm.nil ∧ ∃ (r : Nat), X = [r] ∧ (S 0 r).toInt = 6 ∧ H (S 1 r) w ∧ (S 2 r).toInt = 0 ∧ (S 3 r).toInt = p) ∨
      (0 < tm_ln a ∧ ∃ (s : Nat) (Y : List Nat) (r : Nat), X = s :: (Y ++ [r]) ∧ (S 0 s).toInt = 1 ∧ (S 3 s).toInt = p ∧ cI S H alo ahi a false 0 0 0 Y ∧ (S 0 r).toInt = 7 ∧ H (S 1 r) w ∧ (S 2 r).toInt = (tm_ln a : Int) ∧ (S 3 r).toInt = p)
  | .branch 0 (.leaf (some (1, p, _, k, _, _))) a, _, _, _, _, X => (tm_ln a = 0 ∧ a = Tm.nil ∧ ∃ (r : Nat), X = [r] ∧ (S 0 r).toInt = 4 ∧ (S 1 r).toInt = (k : Int) ∧ (S 3 r).toInt = p) ∨
      (0 < tm_ln a ∧ ∃ (s : Nat) (Y : List Nat) (r : Nat), X = s :: (Y ++ [r]) ∧ (S 0 s).toInt = 1 ∧ (S 3 s).toInt = p ∧ cI S H alo ahi a false 0 0 0 Y ∧ (S 0 r).toInt = 5 ∧ (S 1 r).toInt = (k : Int) ∧ (S 3 r).toInt = p)
  | .branch 1 (.leaf (some (0, p, o, _, _, _))) (.branch _ a b), _, _, _, _, X => ∃ (s : Nat) (Y : List Nat) (Z : List Nat) (r : Nat), X = s :: (Y ++ Z ++ [r]) ∧ (S 0 s).toInt = 1 ∧ (S 3 s).toInt = p ∧ cI S H alo ahi a false 0 0 0 Y ∧ cI S H alo ahi b false 0 0 0 Z ∧ (S 0 r).toInt = cI_op o ∧ (S 3 r).toInt = p
  | .branch 1 (.leaf (some (_ + 1, p, _, k, _, _))) (.branch _ a b), _, _, _, _, X => ∃ (s : Nat) (Y : List Nat) (r : Nat) (Z : List Nat), X = s :: (Y ++ [r] ++ Z) ∧ (S 0 s).toInt = 1 ∧ (S 3 s).toInt = p ∧ cI S H alo ahi a false 0 0 0 Y ∧ (S 0 r).toInt = 12 ∧ (S 1 r).toInt = (k : Int) ∧ cI S H alo ahi b false 0 0 0 Z
  | .branch 2 (.leaf (some (_, p, _, _, _, _))) (.branch _ a (.branch _ b c)), _, _, _, _, X => ∃ (s : Nat) (Y : List Nat) (i : Nat) (Z : List Nat) (j : Nat) (U : List Nat), X = s :: (Y ++ [i] ++ Z ++ [j] ++ U) ∧ (S 0 s).toInt = 1 ∧ (S 3 s).toInt = p ∧ cI S H alo ahi a false 0 0 0 Y ∧ (S 0 i).toInt = 13 ∧ (S 1 i).toInt = (j : Int) ∧ (S 3 i).toInt = p ∧ cI S H alo ahi b false 0 0 0 Z ∧ (S 0 j).toInt = 14 ∧ (S 1 j).toInt = (zla j U : Int) ∧ cI S H alo ahi c false 0 0 0 U
  | .branch 0 (.leaf (some (2, p, _, k, _, _))) a, _, _, _, _, X => ∃ (s : Nat) (m : Nat) (Y : List Nat), X = s :: m :: Y ∧ (S 0 s).toInt = 1 ∧ (S 3 s).toInt = p ∧ (S 0 m).toInt = 15 ∧ (S 1 m).toInt = (k : Int) ∧ (S 3 m).toInt = p ∧ cI S H alo ahi a true m (S 2 m) (zla m Y) Y
  | .branch 0 (.leaf (some (_ + 3, _, k, h, _, _))) a, _, pv, ar, en, X => ∃ (Y : List Nat) (v : Nat), X = Y ++ [v] ∧ (alo ≤ ar.toInt ∧ ar.toInt < ahi ∧ 0 ≤ ar.toInt) ∧ (S 4 (Int32.toNatClampNeg ar)).toInt = (if k = -1 then -2 else k) ∧ (S 6 (Int32.toNatClampNeg ar)).toInt = (pv : Int) ∧ (S 7 (Int32.toNatClampNeg ar)).toInt = (v : Int) ∧ (S 8 (Int32.toNatClampNeg ar)).toInt = (h : Int) ∧ (∀ n, 1 ≤ n → n ≤ 3 → (S 9 (Int32.toNatClampNeg ar)).toBitVec.getLsbD n = tm_mk a n) ∧ (S 0 v).toInt = 16 ∧ (S 1 v).toInt = (en : Int) ∧ cI S H alo ahi a false 0 0 0 Y
  | .leaf none, mo, _, ar, _, X => X = [] ∧ (mo = true → ar.toInt = -1)
  | .branch (_ + 3) a b, mo, pv, ar, en, X => ∃ (Y : List Nat) (Z : List Nat), X = Y ++ Z ∧ cI S H alo ahi a mo pv ar en Y ∧ cI S H alo ahi b mo (cond mo (zla pv Y) 0) (cond mo (S 5 (Int32.toNatClampNeg ar)) 0) en Z ∧ (mo = true → alo ≤ ar.toInt ∧ ar.toInt < ahi ∧ 0 ≤ ar.toInt)
  | _, _, _, _, _, _ => False
/-- what stays, stays the code of the tree -/
theorem cI_st {S S2 : Nat → Nat → Int32} {H : Int32 → Int64 → Prop} {alo ahi alo2 ahi2 : Int} (ha : ∀ j : Nat, alo ≤ (j : Int) → (j : Int) < ahi → S2 4 j = S 4 j ∧ S2 5 j = S 5 j ∧ S2 6 j = S 6 j ∧ S2 7 j = S 7 j ∧ S2 8 j = S 8 j ∧ S2 9 j = S 9 j) (h1 : alo2 ≤ alo) (h2 : ahi ≤ ahi2) : ∀ (t : Tm) {mo : Bool} {pv : Nat} {ar : Int32} {en : Nat} {X : List Nat}, (∀ r ∈ X, S2 0 r = S 0 r ∧ S2 1 r = S 1 r ∧ S2 2 r = S 2 r ∧ S2 3 r = S 3 r) → cI S H alo ahi t mo pv ar en X → cI S2 H alo2 ahi2 t mo pv ar en X
  | .leaf (some (0, p, v, _, _, _)), mo, pv, ar, en, X, hr, h => by
    obtain ⟨r, rfl, a, b, c⟩ := h
    obtain ⟨e0, e1, e2, e3⟩ := hr r (by simp)
    exact ⟨r, rfl, by rw [e0]; exact a, by rw [e1]; exact b, by rw [e3]; exact c⟩
  | .leaf (some (_ + 1, p, _, s, _, _)), mo, pv, ar, en, X, hr, h => by
    obtain ⟨r, rfl, a, b, c⟩ := h
    obtain ⟨e0, e1, e2, e3⟩ := hr r (by simp)
    exact ⟨r, rfl, by rw [e0]; exact a, by rw [e1]; exact b, by rw [e3]; exact c⟩
  | .branch 0 (.leaf (some (0, p, _, _, _, w))) t, mo, pv, ar, en, X, hr, h => by
    rcases h with ⟨q1, q2, r, rfl, a, b, c, d⟩ | ⟨q1, s, Y, r, rfl, a, b, c, d, e, f, g⟩
    · obtain ⟨e0, e1, e2, e3⟩ := hr r (by simp)
      exact Or.inl ⟨q1, q2, r, rfl, by rw [e0]; exact a, by rw [e1]; exact b, by rw [e2]; exact c, by rw [e3]; exact d⟩
    · obtain ⟨e0, e1, e2, e3⟩ := hr s (by simp)
      obtain ⟨f0, f1, f2, f3⟩ := hr r (by simp)
      exact Or.inr ⟨q1, s, Y, r, rfl, by rw [e0]; exact a, by rw [e3]; exact b, cI_st ha h1 h2 t (fun x hx => hr x (by simp [hx])) c, by rw [f0]; exact d, by rw [f1]; exact e, by rw [f2]; exact f, by rw [f3]; exact g⟩
  | .branch 0 (.leaf (some (1, p, _, k, _, _))) t, mo, pv, ar, en, X, hr, h => by
    rcases h with ⟨q1, q2, r, rfl, a, b, c⟩ | ⟨q1, s, Y, r, rfl, a, b, c, d, e, f⟩
    · obtain ⟨e0, e1, e2, e3⟩ := hr r (by simp)
      exact Or.inl ⟨q1, q2, r, rfl, by rw [e0]; exact a, by rw [e1]; exact b, by rw [e3]; exact c⟩
    · obtain ⟨e0, e1, e2, e3⟩ := hr s (by simp)
      obtain ⟨f0, f1, f2, f3⟩ := hr r (by simp)
      exact Or.inr ⟨q1, s, Y, r, rfl, by rw [e0]; exact a, by rw [e3]; exact b, cI_st ha h1 h2 t (fun x hx => hr x (by simp [hx])) c, by rw [f0]; exact d, by rw [f1]; exact e, by rw [f3]; exact f⟩
  | .branch 1 (.leaf (some (0, p, o, _, _, _))) (.branch _ t u), mo, pv, ar, en, X, hr, h => by
    obtain ⟨s, Y, Z, r, rfl, a, b, c, d, e, f⟩ := h
    obtain ⟨e0, e1, e2, e3⟩ := hr s (by simp)
    obtain ⟨f0, f1, f2, f3⟩ := hr r (by simp)
    exact ⟨s, Y, Z, r, rfl, by rw [e0]; exact a, by rw [e3]; exact b, cI_st ha h1 h2 t (fun x hx => hr x (by simp [hx])) c, cI_st ha h1 h2 u (fun x hx => hr x (by simp [hx])) d, by rw [f0]; exact e, by rw [f3]; exact f⟩
  | .branch 1 (.leaf (some (_ + 1, p, _, k, _, _))) (.branch _ t u), mo, pv, ar, en, X, hr, h => by
    obtain ⟨s, Y, r, Z, rfl, a, b, c, d, e, f⟩ := h
    obtain ⟨e0, e1, e2, e3⟩ := hr s (by simp)
    obtain ⟨f0, f1, f2, f3⟩ := hr r (by simp)
    exact ⟨s, Y, r, Z, rfl, by rw [e0]; exact a, by rw [e3]; exact b, cI_st ha h1 h2 t (fun x hx => hr x (by simp [hx])) c, by rw [f0]; exact d, by rw [f1]; exact e, cI_st ha h1 h2 u (fun x hx => hr x (by simp [hx])) f⟩
  | .branch 2 (.leaf (some (_, p, _, _, _, _))) (.branch _ t (.branch _ u w)), mo, pv, ar, en, X, hr, h => by
    obtain ⟨s, Y, i, Z, j, U, rfl, a, b, c, d, e, f, g, k, l, m⟩ := h
    obtain ⟨e0, e1, e2, e3⟩ := hr s (by simp)
    obtain ⟨f0, f1, f2, f3⟩ := hr i (by simp)
    obtain ⟨g0, g1, g2, g3⟩ := hr j (by simp)
    exact ⟨s, Y, i, Z, j, U, rfl, by rw [e0]; exact a, by rw [e3]; exact b, cI_st ha h1 h2 t (fun x hx => hr x (by simp [hx])) c, by rw [f0]; exact d, by rw [f1]; exact e, by rw [f3]; exact f, cI_st ha h1 h2 u (fun x hx => hr x (by simp [hx])) g, by rw [g0]; exact k, by rw [g1]; exact l, cI_st ha h1 h2 w (fun x hx => hr x (by simp [hx])) m⟩
  | .branch 0 (.leaf (some (2, p, _, k, _, _))) t, mo, pv, ar, en, X, hr, h => by
    obtain ⟨s, m, Y, rfl, a, b, c, d, e, f⟩ := h
    obtain ⟨e0, e1, e2, e3⟩ := hr s (by simp)
    obtain ⟨f0, f1, f2, f3⟩ := hr m (by simp)
    exact ⟨s, m, Y, rfl, by rw [e0]; exact a, by rw [e3]; exact b, by rw [f0]; exact c, by rw [f1]; exact d, by rw [f3]; exact e, by rw [f2]; exact cI_st ha h1 h2 t (fun x hx => hr x (by simp [hx])) f⟩
  | .branch 0 (.leaf (some (_ + 3, p, k, hh, m, _))) t, mo, pv, ar, en, X, hr, h => by
    obtain ⟨Y, v, rfl, ⟨b1, b2, b3⟩, a, b, c, d, e, f, g, i⟩ := h
    have hn := zn_nat b3
    obtain ⟨e4, e5, e6, e7, e8, e9⟩ := ha (Int32.toNatClampNeg ar) (by omega) (by omega)
    obtain ⟨f0, f1, f2, f3⟩ := hr v (by simp)
    exact ⟨Y, v, rfl, ⟨by omega, by omega, b3⟩, by rw [e4]; exact a, by rw [e6]; exact b, by rw [e7]; exact c, by rw [e8]; exact d, by rw [e9]; exact e, by rw [f0]; exact f, by rw [f1]; exact g, cI_st ha h1 h2 t (fun x hx => hr x (by simp [hx])) i⟩
  | .branch 0 (.leaf none) _, _, _, _, _, _, _, h9 => h9.elim
  | .branch 0 (.branch _ _ _) _, _, _, _, _, _, _, h9 => h9.elim
  | .branch 1 (.leaf none) _, _, _, _, _, _, _, h9 => h9.elim
  | .branch 1 (.branch _ _ _) _, _, _, _, _, _, _, h9 => h9.elim
  | .branch 1 (.leaf (some (0, _, _, _, _, _))) (.leaf _), _, _, _, _, _, _, h9 => h9.elim
  | .branch 1 (.leaf (some (_ + 1, _, _, _, _, _))) (.leaf _), _, _, _, _, _, _, h9 => h9.elim
  | .branch 2 (.leaf none) _, _, _, _, _, _, _, h9 => h9.elim
  | .branch 2 (.branch _ _ _) _, _, _, _, _, _, _, h9 => h9.elim
  | .branch 2 (.leaf (some (_, _, _, _, _, _))) (.leaf _), _, _, _, _, _, _, h9 => h9.elim
  | .branch 2 (.leaf (some (_, _, _, _, _, _))) (.branch _ _ (.leaf _)), _, _, _, _, _, _, h9 => h9.elim
  | .leaf none, mo, pv, ar, en, X, hr, h => show X = [] ∧ (mo = true → ar.toInt = -1) from h
  | .branch (_ + 3) t u, mo, pv, ar, en, X, hr, h => by
    obtain ⟨Y, Z, rfl, a, b, c⟩ := h
    refine ⟨Y, Z, rfl, cI_st ha h1 h2 t (fun x hx => hr x (by simp [hx])) a, ?_, fun g => ⟨by have := (c g).1; omega, by have := (c g).2.1; omega, (c g).2.2⟩⟩
    have hb := cI_st ha h1 h2 u (fun x hx => hr x (by simp [hx])) b
    cases mo with
    | false => exact hb
    | true =>
      have b3 := c rfl
      have hn := zn_nat b3.2.2
      show cI S2 H alo2 ahi2 u true (zla pv Y) (S2 5 (Int32.toNatClampNeg ar)) en Z
      rw [(ha (Int32.toNatClampNeg ar) (by omega) (by omega)).2.1]; exact hb

end
section
/-! the chain alone -/
theorem zli_uq2 {nx : Nat → Int32} : ∀ {A B : List Nat} {x : Int32}, zli nx x A → zli nx x B → A = B
  | [], [], _, _, _ => rfl
  | [], y :: l, x, a, b => by have a : x.toInt = -1 := a; have b := b.1; omega
  | y :: l, [], x, a, b => by have b : x.toInt = -1 := b; have a := a.1; omega
  | y :: l, z :: k, x, a, b => by
    have e : y = z := by have a := a.1; have b := b.1; omega
    subst e
    rw [zli_uq2 a.2 b.2]
/-- the stretch X came behind the tail -/
def zCh (nx : Nat → Int32) (cz ct : Int32) (nx2 : Nat → Int32) (cz2 ct2 : Int32) (X : List Nat) : Prop := 0 ≤ ct.toInt ∧ ct.toInt < cz.toInt ∧ cz.toInt ≤ cz2.toInt ∧ (∀ r : Nat, (r : Int) < cz.toInt → (r : Int) ≠ ct.toInt → nx2 r = nx r) ∧ zli nx2 (nx2 (Int32.toNatClampNeg ct)) X ∧ zla (Int32.toNatClampNeg ct) X = Int32.toNatClampNeg ct2 ∧ 0 ≤ ct2.toInt ∧ (∀ r ∈ X, cz.toInt ≤ (r : Int) ∧ (r : Int) < cz2.toInt) ∧ X.Nodup
theorem zCh_0 {nx : Nat → Int32} {cz ct : Int32} (h0 : 0 ≤ ct.toInt) (h1 : ct.toInt < cz.toInt) (h2 : (nx (Int32.toNatClampNeg ct)).toInt = -1) : zCh nx cz ct nx cz ct [] := ⟨h0, h1, Int.le_refl _, fun _ _ _ => rfl, h2, rfl, h0, fun r hr => (nomatch hr), List.nodup_nil⟩
theorem zCh_of {S S2 : Nat → Nat → Int32} {G G2 : Nat → Nat → Int} {f : Nat} {h c h2 c2 : Int} {X : List Nat} (h0 : zS0 S) (k : zE S S2 G G2 f h c X [] h2 c2) : zCh (S 3) (S 11 0) (S 12 0) (S2 3) (S2 11 0) (S2 12 0) X := by
  obtain ⟨a1, a2, a3, a4, a5, a6, a7, a8, -⟩ := k
  rw [List.append_nil] at a3 a5 a6 a8
  exact ⟨h0.1, h0.2.1, a1.1, a2, a3, a5, a4, a6, a8⟩
theorem zCh_end {nx nx2 : Nat → Int32} {cz ct cz2 ct2 : Int32} {X : List Nat} (h : zCh nx cz ct nx2 cz2 ct2 X) : ct2.toInt < cz2.toInt ∧ (X = [] ∧ ct2 = ct ∨ X ≠ [] ∧ Int32.toNatClampNeg ct2 ∈ X ∧ cz.toInt ≤ ct2.toInt) := by
  obtain ⟨a1, a2, a3, a4, a5, a6, a7, a8, a9⟩ := h
  have n1 := zn_nat a1
  have n2 := zn_nat a7
  by_cases u : X = []
  · subst u
    have e : Int32.toNatClampNeg ct = Int32.toNatClampNeg ct2 := a6
    exact ⟨by omega, Or.inl ⟨rfl, Int32.toInt_inj.mp (by omega)⟩⟩
  · have hm := zla_mem u (Int32.toNatClampNeg ct)
    rw [a6] at hm
    have := a8 _ hm
    exact ⟨by omega, Or.inr ⟨u, hm, by omega⟩⟩
theorem zCh_tr {nA nB nC : Nat → Int32} {zA tA zB tB zC tC : Int32} {X Y : List Nat} (a : zCh nA zA tA nB zB tB X) (b : zCh nB zB tB nC zC tC Y) : zCh nA zA tA nC zC tC (X ++ Y) := by
  have he := zCh_end a
  obtain ⟨a1, a2, a3, a4, a5, a6, a7, a8, a9⟩ := a
  obtain ⟨b1, b2, b3, b4, b5, b6, b7, b8, b9⟩ := b
  have n1 := zn_nat a1
  have n2 := zn_nat b1
  rcases he.2 with ⟨rfl, e⟩ | ⟨hX, hm, hg⟩
  · subst e
    exact ⟨a1, a2, by omega, fun r h1 h2 => by rw [b4 r (by omega) h2, a4 r h1 h2], b5, b6, b7, fun r hr => ⟨by have := (b8 r hr).1; omega, (b8 r hr).2⟩, b9⟩
  · have hc : nC (Int32.toNatClampNeg tA) = nB (Int32.toNatClampNeg tA) := b4 _ (by omega) (by omega)
    refine ⟨a1, a2, by omega, fun r h1 h2 => by rw [b4 r (by omega) (by omega), a4 r h1 h2], ?_, ?_, b7, fun r hr => ?_, ?_⟩
    · rw [hc]
      refine zli_app (d := Int32.toNatClampNeg tA) hX a9 a5 (fun r hr hn => b4 r (a8 r hr).2 (fun g => hn ?_)) ?_
      · rw [a6]; omega
      · rw [a6]; exact b5
    · rw [zla_app, a6]; exact b6
    · rcases List.mem_append.mp hr with g | g
      · exact ⟨(a8 r g).1, by have := (a8 r g).2; omega⟩
      · exact ⟨by have := (b8 r g).1; omega, (b8 r g).2⟩
    · exact List.nodup_append.mpr ⟨a9, b9, fun x hx y hy e => by have h1 := (a8 x hx).2; have h2 := (b8 y hy).1; omega⟩
theorem zCh_ap {nx nx2 : Nat → Int32} {z t z2 t2 : Int32} (h0 : 0 ≤ t.toInt) (h1 : t.toInt < z.toInt) (h2 : (nx (Int32.toNatClampNeg t)).toInt = -1) (ez : z2.toInt = z.toInt + 1) (et : t2 = z) (en : nx2 = upd (upd nx (Int32.toNatClampNeg z) (nx (Int32.toNatClampNeg t))) (Int32.toNatClampNeg t) z) : zCh nx z t nx2 z2 t2 [Int32.toNatClampNeg z] := by
  have n1 := zn_nat h0
  have n2 := zn_nat (x := z) (by omega)
  subst et
  refine ⟨h0, h1, by omega, fun r hr hn => by rw [en, zu_n (by omega), zu_n (by omega)], ?_, rfl, by omega, fun r hr => ?_, by simp⟩
  · rw [en, zu_s]
    refine ⟨n2.symm, ?_⟩
    rw [zu_n (by omega), zu_s]; exact h2
  · rw [List.mem_singleton.mp hr]; omega
theorem zCh_ins {nA nB nC : Nat → Int32} {zA tA zB tB zC tC : Int32} {X : List Nat} (a : zCh nA zA tA nB zB tB X) (hX : X ≠ []) (ez : zC.toInt = zB.toInt + 1) (et : tC = tB) (en : nC = upd (upd nB (Int32.toNatClampNeg zB) (nB (Int32.toNatClampNeg tA))) (Int32.toNatClampNeg tA) zB) : zCh nA zA tA nC zC tC (Int32.toNatClampNeg zB :: X) := by
  obtain ⟨a1, a2, a3, a4, a5, a6, a7, a8, a9⟩ := a
  have n1 := zn_nat a1
  have n2 := zn_nat (x := zB) (by omega)
  subst et
  refine ⟨a1, a2, by omega, fun r hr hn => by rw [en, zu_n (by omega), zu_n (by omega)]; exact a4 r hr hn, ?_, ?_, a7, fun r hr => ?_, ?_⟩
  · rw [en, zu_s]
    refine ⟨n2.symm, ?_⟩
    rw [zu_n (by omega), zu_s]
    exact zli_ext a5 (fun r hr => by have := a8 r hr; rw [zu_n (by omega), zu_n (by omega)])
  · cases X with
    | nil => exact (hX rfl).elim
    | cons y l => exact a6
  · rcases List.mem_cons.mp hr with g | g
    · rw [g]; omega
    · have := a8 r g; omega
  · exact List.nodup_cons.mpr ⟨fun g => by have := a8 _ g; omega, a9⟩
theorem zCh_uq {nA nC : Nat → Int32} {zA tA zC tC : Int32} {X Y : List Nat} (a : zCh nA zA tA nC zC tC X) (b : zCh nA zA tA nC zC tC Y) : X = Y := zli_uq2 a.2.2.2.2.1 b.2.2.2.2.1
/-- rows below z stay -/
def zfp (f g : Nat → Int32) (z : Int32) : Prop := ∀ r : Nat, (r : Int) < z.toInt → g r = f r
theorem zfp_rf {f : Nat → Int32} {z : Int32} : zfp f f z := fun _ _ => rfl
theorem zfp_tr {f g h : Nat → Int32} {z z2 : Int32} (a : zfp f g z) (b : zfp g h z2) (hz : z.toInt ≤ z2.toInt) : zfp f h z := fun r hr => (b r (by omega)).trans (a r hr)
theorem zfp_up {f g h : Nat → Int32} {z k x : Int32} (a : zfp f g z) (e : h = upd g (Int32.toNatClampNeg k) x) (hk : z.toInt ≤ k.toInt) (h0 : 0 ≤ k.toInt) : zfp f h z := fun r hr => by
  have := zn_nat h0
  rw [e, zu_n (by omega)]; exact a r hr
/-- a tree whose code lies in rows X; nothing below moved -/
theorem cI_mv {op a b pl ak an ab al af bu op2 a2 b2 pl2 ak2 an2 ab2 al2 af2 bu2 : Nat → Int32} {H : Int32 → Int64 → Prop} {alo ahi alo2 ahi2 : Int} {t : Tm} {X : List Nat} {cz az : Int32} (h : cI (zcs op a b pl ak an ab al af bu) H alo ahi t false 0 0 0 X) (hX : ∀ r ∈ X, (r : Int) < cz.toInt) (hA : ahi ≤ az.toInt) (f0 : zfp op op2 cz) (f1 : zfp a a2 cz) (f2 : zfp b b2 cz) (f3 : zfp pl pl2 cz) (f4 : zfp ak ak2 az) (f5 : zfp an an2 az) (f6 : zfp ab ab2 az) (f7 : zfp al al2 az) (f8 : zfp af af2 az) (f9 : zfp bu bu2 az) (h1 : alo2 ≤ alo) (h2 : ahi ≤ ahi2) : cI (zcs op2 a2 b2 pl2 ak2 an2 ab2 al2 af2 bu2) H alo2 ahi2 t false 0 0 0 X :=
  cI_st (S := zcs op a b pl ak an ab al af bu) (S2 := zcs op2 a2 b2 pl2 ak2 an2 ab2 al2 af2 bu2) (alo := alo) (ahi := ahi) (fun j _ hj => ⟨f4 j (by omega), f5 j (by omega), f6 j (by omega), f7 j (by omega), f8 j (by omega), f9 j (by omega)⟩) h1 h2 t (fun r hr => ⟨f0 r (hX r hr), f1 r (hX r hr), f2 r (hX r hr), f3 r (hX r hr)⟩) h
/-- behind an expression -/
theorem cI_mz {op a b pl ak an ab al af bu nx kf ff op2 a2 b2 pl2 ak2 an2 ab2 al2 af2 bu2 nx2 kf2 ff2 : Nat → Int32} {G G2 : Nat → Nat → Int} {ct kz cz2 ct2 az2 kz2 : Int32} {H : Int32 → Int64 → Prop} {alo ahi alo2 ahi2 : Int} {t : Tm} {X : List Nat} {cz az : Int32} (h : cI (zcs op a b pl ak an ab al af bu) H alo ahi t false 0 0 0 X) (hX : ∀ r ∈ X, (r : Int) < cz.toInt) (hA : ahi ≤ az.toInt) (F : zfr (zst op a b nx ak an ab al af kf ff cz ct az kz) (zst op2 a2 b2 nx2 ak2 an2 ab2 al2 af2 kf2 ff2 cz2 ct2 az2 kz2) G G2) (f3 : zfp pl pl2 cz) (f9 : zfp bu bu2 az) (h1 : alo2 ≤ alo) (h2 : ahi ≤ ahi2) : cI (zcs op2 a2 b2 pl2 ak2 an2 ab2 al2 af2 bu2) H alo2 ahi2 t false 0 0 0 X := by
  obtain ⟨-, -, -, r, m, -⟩ := F
  exact cI_mv h hX hA (fun q hq => (r q hq).1) (fun q hq => (r q hq).2.1) (fun q hq => (r q hq).2.2.1) f3 (fun q hq => (m q hq).1) (fun q hq => (m q hq).2.1) (fun q hq => (m q hq).2.2.1) (fun q hq => (m q hq).2.2.2.1) (fun q hq => (m q hq).2.2.2.2.1) f9 h1 h2
/-- behind a row that was written -/
theorem cI_ma {op a b pl ak an ab al af bu op2 a2 b2 pl2 : Nat → Int32} {H : Int32 → Int64 → Prop} {alo ahi : Int} {t : Tm} {X : List Nat} {cz o x y w : Int32} (h : cI (zcs op a b pl ak an ab al af bu) H alo ahi t false 0 0 0 X) (hX : ∀ r ∈ X, (r : Int) < cz.toInt) (h0 : 0 ≤ cz.toInt) (e0 : op2 = upd op (Int32.toNatClampNeg cz) o) (e1 : a2 = upd a (Int32.toNatClampNeg cz) x) (e2 : b2 = upd b (Int32.toNatClampNeg cz) y) (e3 : pl2 = upd pl (Int32.toNatClampNeg cz) w) : cI (zcs op2 a2 b2 pl2 ak an ab al af bu) H alo ahi t false 0 0 0 X :=
  cI_st (S := zcs op a b pl ak an ab al af bu) (S2 := zcs op2 a2 b2 pl2 ak an ab al af bu) (alo := alo) (ahi := ahi) (fun j _ hj => ⟨rfl, rfl, rfl, rfl, rfl, rfl⟩) (Int.le_refl _) (Int.le_refl _) t (fun r hr => ⟨zfp_up (z := cz) (f := op) zfp_rf e0 (Int.le_refl _) h0 r (hX r hr), zfp_up (z := cz) (f := a) zfp_rf e1 (Int.le_refl _) h0 r (hX r hr), zfp_up (z := cz) (f := b) zfp_rf e2 (Int.le_refl _) h0 r (hX r hr), zfp_up (z := cz) (f := pl) zfp_rf e3 (Int.le_refl _) h0 r (hX r hr)⟩) h
/-- behind a patch elsewhere -/
theorem cI_pa {op a b pl ak an ab al af bu a2 : Nat → Int32} {H : Int32 → Int64 → Prop} {alo ahi : Int} {t : Tm} {X : List Nat} {k : Nat} {x : Int32} (h : cI (zcs op a b pl ak an ab al af bu) H alo ahi t false 0 0 0 X) (hX : k ∉ X) (e : a2 = upd a k x) : cI (zcs op a2 b pl ak an ab al af bu) H alo ahi t false 0 0 0 X :=
  cI_st (S := zcs op a b pl ak an ab al af bu) (S2 := zcs op a2 b pl ak an ab al af bu) (alo := alo) (ahi := ahi) (fun j _ hj => ⟨rfl, rfl, rfl, rfl, rfl, rfl⟩) (Int.le_refl _) (Int.le_refl _) t (fun r hr => ⟨rfl, by show a2 r = a r; rw [e, zu_n (fun g => hX (by rw [← g]; exact hr))], rfl, rfl⟩) h
theorem cI_wd {S : Nat → Nat → Int32} {H : Int32 → Int64 → Prop} {alo ahi alo2 ahi2 : Int} {t : Tm} {X : List Nat} (h : cI S H alo ahi t false 0 0 0 X) (h1 : alo2 ≤ alo) (h2 : ahi ≤ ahi2) : cI S H alo2 ahi2 t false 0 0 0 X := cI_st (fun _ _ _ => ⟨rfl, rfl, rfl, rfl, rfl, rfl⟩) h1 h2 t (fun _ _ => ⟨rfl, rfl, rfl, rfl⟩) h
/-- what a call's row has ahead of the last look -/
def cH (V : Nat → Int64) (zz : Int32) (x : Int32) (w : Int64) : Prop := (0 ≤ x.toInt ∧ x.toInt ≤ zz.toInt) ∧ V (Int32.toNatClampNeg x) = w
/-- how many kinds with n fields are made in it -/
def tm_bn : Tm → Nat → Int
  | .branch 0 (.leaf (some (0, _, _, _, _, _))) a, n => tm_bn a n
  | .branch 0 (.leaf (some (1, _, _, _, _, _))) a, n => (if 0 < tm_ln a ∧ tm_ln a = n then 1 else 0) + tm_bn a n
  | .branch 1 (.leaf (some (0, _, _, _, _, _))) (.branch _ a b), n => tm_bn a n + tm_bn b n
  | .branch 1 (.leaf (some (_ + 1, _, _, _, _, _))) (.branch _ a b), n => tm_bn a n + tm_bn b n
  | .branch 2 (.leaf (some (_, _, _, _, _, _))) (.branch _ a (.branch _ b c)), n => tm_bn a n + tm_bn b n + tm_bn c n
  | .branch 0 (.leaf (some (2, _, _, _, _, _))) a, n => tm_bn a n
  | .branch 0 (.leaf (some (_ + 3, _, _, _, _, _))) a, n => tm_bn a n
  | .branch (_ + 3) a b, n => tm_bn a n + tm_bn b n
  | _, _ => 0
theorem tm_bn_0 (n : Nat) : ∀ t : Tm, 0 ≤ tm_bn t n
  | .branch 0 (.leaf (some (0, _, _, _, _, _))) a => tm_bn_0 n a
  | .branch 0 (.leaf (some (1, _, _, _, _, _))) a => by have := tm_bn_0 n a; show 0 ≤ (if 0 < tm_ln a ∧ tm_ln a = n then 1 else 0) + tm_bn a n; split <;> omega
  | .branch 1 (.leaf (some (0, _, _, _, _, _))) (.branch _ a b) => by have := tm_bn_0 n a; have := tm_bn_0 n b; show 0 ≤ tm_bn a n + tm_bn b n; omega
  | .branch 1 (.leaf (some (_ + 1, _, _, _, _, _))) (.branch _ a b) => by have := tm_bn_0 n a; have := tm_bn_0 n b; show 0 ≤ tm_bn a n + tm_bn b n; omega
  | .branch 2 (.leaf (some (_, _, _, _, _, _))) (.branch _ a (.branch _ b c)) => by have := tm_bn_0 n a; have := tm_bn_0 n b; have := tm_bn_0 n c; show 0 ≤ tm_bn a n + tm_bn b n + tm_bn c n; omega
  | .branch 0 (.leaf (some (2, _, _, _, _, _))) a => tm_bn_0 n a
  | .branch 0 (.leaf (some (_ + 3, _, _, _, _, _))) a => tm_bn_0 n a
  | .branch (_ + 3) a b => by have := tm_bn_0 n a; have := tm_bn_0 n b; show 0 ≤ tm_bn a n + tm_bn b n; omega
  | .leaf (some (0, _, _, _, _, _)) => Int.le_refl _
  | .leaf (some (_ + 1, _, _, _, _, _)) => Int.le_refl _
  | .branch 0 (.leaf none) _ => Int.le_refl _
  | .branch 0 (.branch _ _ _) _ => Int.le_refl _
  | .branch 1 (.leaf none) _ => Int.le_refl _
  | .branch 1 (.branch _ _ _) _ => Int.le_refl _
  | .branch 1 (.leaf (some (0, _, _, _, _, _))) (.leaf _) => Int.le_refl _
  | .branch 1 (.leaf (some (_ + 1, _, _, _, _, _))) (.leaf _) => Int.le_refl _
  | .branch 2 (.leaf none) _ => Int.le_refl _
  | .branch 2 (.branch _ _ _) _ => Int.le_refl _
  | .branch 2 (.leaf (some (_, _, _, _, _, _))) (.leaf _) => Int.le_refl _
  | .branch 2 (.leaf (some (_, _, _, _, _, _))) (.branch _ _ (.leaf _)) => Int.le_refl _
  | .leaf none => Int.le_refl _
theorem tm_bn_mk (n : Nat) : ∀ t : Tm, (0 < tm_bn t n ↔ tm_mk t n = true)
  | .branch 0 (.leaf (some (0, _, _, _, _, _))) a => tm_bn_mk n a
  | .branch 0 (.leaf (some (1, _, _, _, _, _))) a => by
    have := tm_bn_mk n a
    have h0 := tm_bn_0 n a
    show 0 < (if 0 < tm_ln a ∧ tm_ln a = n then 1 else 0) + tm_bn a n ↔ ((decide (0 < tm_ln a) && decide (tm_ln a = n)) || tm_mk a n) = true
    rw [Bool.or_eq_true, Bool.and_eq_true, decide_eq_true_iff, decide_eq_true_iff, ← this]
    split
    · rename_i g; exact ⟨fun _ => Or.inl g, fun _ => by omega⟩
    · rename_i g; exact ⟨fun h => Or.inr (by omega), fun h => h.elim (fun u => absurd u g) (fun u => by omega)⟩
  | .branch 1 (.leaf (some (0, _, _, _, _, _))) (.branch _ a b) => by
    have h1 := tm_bn_mk n a; have h2 := tm_bn_mk n b; have := tm_bn_0 n a; have := tm_bn_0 n b
    show 0 < tm_bn a n + tm_bn b n ↔ (tm_mk a n || tm_mk b n) = true
    rw [Bool.or_eq_true, ← h1, ← h2]; omega
  | .branch 1 (.leaf (some (_ + 1, _, _, _, _, _))) (.branch _ a b) => by
    have h1 := tm_bn_mk n a; have h2 := tm_bn_mk n b; have := tm_bn_0 n a; have := tm_bn_0 n b
    show 0 < tm_bn a n + tm_bn b n ↔ (tm_mk a n || tm_mk b n) = true
    rw [Bool.or_eq_true, ← h1, ← h2]; omega
  | .branch 2 (.leaf (some (_, _, _, _, _, _))) (.branch _ a (.branch _ b c)) => by
    have h1 := tm_bn_mk n a; have h2 := tm_bn_mk n b; have h3 := tm_bn_mk n c; have := tm_bn_0 n a; have := tm_bn_0 n b; have := tm_bn_0 n c
    show 0 < tm_bn a n + tm_bn b n + tm_bn c n ↔ (tm_mk a n || tm_mk b n || tm_mk c n) = true
    rw [Bool.or_eq_true, Bool.or_eq_true, ← h1, ← h2, ← h3]; omega
  | .branch 0 (.leaf (some (2, _, _, _, _, _))) a => tm_bn_mk n a
  | .branch 0 (.leaf (some (_ + 3, _, _, _, _, _))) a => tm_bn_mk n a
  | .branch (_ + 3) a b => by
    have h1 := tm_bn_mk n a; have h2 := tm_bn_mk n b; have := tm_bn_0 n a; have := tm_bn_0 n b
    show 0 < tm_bn a n + tm_bn b n ↔ (tm_mk a n || tm_mk b n) = true
    rw [Bool.or_eq_true, ← h1, ← h2]; omega
  | .leaf (some (0, _, _, _, _, _)) => by show (0 : Int) < 0 ↔ false = true; simp
  | .leaf (some (_ + 1, _, _, _, _, _)) => by show (0 : Int) < 0 ↔ false = true; simp
  | .branch 0 (.leaf none) _ => by show (0 : Int) < 0 ↔ false = true; simp
  | .branch 0 (.branch _ _ _) _ => by show (0 : Int) < 0 ↔ false = true; simp
  | .branch 1 (.leaf none) _ => by show (0 : Int) < 0 ↔ false = true; simp
  | .branch 1 (.branch _ _ _) _ => by show (0 : Int) < 0 ↔ false = true; simp
  | .branch 1 (.leaf (some (0, _, _, _, _, _))) (.leaf _) => by show (0 : Int) < 0 ↔ false = true; simp
  | .branch 1 (.leaf (some (_ + 1, _, _, _, _, _))) (.leaf _) => by show (0 : Int) < 0 ↔ false = true; simp
  | .branch 2 (.leaf none) _ => by show (0 : Int) < 0 ↔ false = true; simp
  | .branch 2 (.branch _ _ _) _ => by show (0 : Int) < 0 ↔ false = true; simp
  | .branch 2 (.leaf (some (_, _, _, _, _, _))) (.leaf _) => by show (0 : Int) < 0 ↔ false = true; simp
  | .branch 2 (.leaf (some (_, _, _, _, _, _))) (.branch _ _ (.leaf _)) => by show (0 : Int) < 0 ↔ false = true; simp
  | .leaf none => by show (0 : Int) < 0 ↔ false = true; simp
/-- what was built -/
def cB (g g2 : Nat → Int32) (t : Tm) : Prop := ∀ n : Nat, 1 ≤ n → n ≤ 3 → (g2 n).toInt = (g n).toInt + tm_bn t n
/-- a row as it was written -/
def cR (S : Nat → Nat → Int32) (r : Nat) (o x y p : Int32) : Prop := S 0 r = o ∧ S 1 r = x ∧ S 2 r = y ∧ S 3 r = p
theorem cR_ap {op a b pl ak an ab al af bu op2 a2 b2 pl2 : Nat → Int32} {k : Nat} {o x y w : Int32} (e0 : op2 = upd op k o) (e1 : a2 = upd a k x) (e2 : b2 = upd b k y) (e3 : pl2 = upd pl k w) : cR (zcs op2 a2 b2 pl2 ak an ab al af bu) k o x y w := ⟨by show op2 k = o; rw [e0, zu_s], by show a2 k = x; rw [e1, zu_s], by show b2 k = y; rw [e2, zu_s], by show pl2 k = w; rw [e3, zu_s]⟩
theorem cR_ma {op a b pl ak an ab al af bu op2 a2 b2 pl2 : Nat → Int32} {r : Nat} {o x y w o' x' y' w' : Int32} {cz : Int32} (h : cR (zcs op a b pl ak an ab al af bu) r o x y w) (hr : (r : Int) < cz.toInt) (e0 : op2 = upd op (Int32.toNatClampNeg cz) o') (e1 : a2 = upd a (Int32.toNatClampNeg cz) x') (e2 : b2 = upd b (Int32.toNatClampNeg cz) y') (e3 : pl2 = upd pl (Int32.toNatClampNeg cz) w') : cR (zcs op2 a2 b2 pl2 ak an ab al af bu) r o x y w := by
  have hn := zn_nat (x := cz) (by omega)
  have u : r ≠ Int32.toNatClampNeg cz := by omega
  obtain ⟨h0, h1, h2, h3⟩ := h
  exact ⟨by show op2 r = o; rw [e0, zu_n u]; exact h0, by show a2 r = x; rw [e1, zu_n u]; exact h1, by show b2 r = y; rw [e2, zu_n u]; exact h2, by show pl2 r = w; rw [e3, zu_n u]; exact h3⟩
theorem cR_mz {op a b pl ak an ab al af bu nx kf ff op2 a2 b2 pl2 ak2 an2 ab2 al2 af2 bu2 nx2 kf2 ff2 : Nat → Int32} {G G2 : Nat → Nat → Int} {ct kz cz2 ct2 az2 kz2 : Int32} {r : Nat} {o x y w : Int32} {cz az : Int32} (h : cR (zcs op a b pl ak an ab al af bu) r o x y w) (hr : (r : Int) < cz.toInt) (F : zfr (zst op a b nx ak an ab al af kf ff cz ct az kz) (zst op2 a2 b2 nx2 ak2 an2 ab2 al2 af2 kf2 ff2 cz2 ct2 az2 kz2) G G2) (f3 : zfp pl pl2 cz) : cR (zcs op2 a2 b2 pl2 ak2 an2 ab2 al2 af2 bu2) r o x y w := by
  obtain ⟨-, -, -, q, -⟩ := F
  obtain ⟨q0, q1, q2, -⟩ := q r hr
  obtain ⟨h0, h1, h2, h3⟩ := h
  exact ⟨Eq.trans q0 h0, Eq.trans q1 h1, Eq.trans q2 h2, Eq.trans (f3 r hr) h3⟩
theorem cR_pa {op a b pl ak an ab al af bu a2 : Nat → Int32} {r k : Nat} {o x y w v : Int32} (h : cR (zcs op a b pl ak an ab al af bu) r o x y w) (hk : r ≠ k) (e : a2 = upd a k v) : cR (zcs op a2 b pl ak an ab al af bu) r o x y w := ⟨h.1, by show a2 r = x; rw [e, zu_n hk]; exact h.2.1, h.2.2.1, h.2.2.2⟩
theorem cR_ps {op a b pl ak an ab al af bu a2 : Nat → Int32} {r : Nat} {o x y w v : Int32} (h : cR (zcs op a b pl ak an ab al af bu) r o x y w) (e : a2 = upd a r v) : cR (zcs op a2 b pl ak an ab al af bu) r o v y w := ⟨h.1, by show a2 r = v; rw [e, zu_s], h.2.2.1, h.2.2.2⟩
theorem cR_i {S : Nat → Nat → Int32} {r : Nat} {o x y w : Int32} {i : Int} (h : cR S r o x y w) (e : o.toInt = i) : (S 0 r).toInt = i := by rw [h.1]; exact e
theorem cR_x {S : Nat → Nat → Int32} {r : Nat} {o x y w : Int32} {i : Int} (h : cR S r o x y w) (e : x.toInt = i) : (S 1 r).toInt = i := by rw [h.2.1]; exact e
theorem cR_y {S : Nat → Nat → Int32} {r : Nat} {o x y w : Int32} {i : Int} (h : cR S r o x y w) (e : y.toInt = i) : (S 2 r).toInt = i := by rw [h.2.2.1]; exact e
theorem cR_p {S : Nat → Nat → Int32} {r : Nat} {o x y w : Int32} {P : Nat → Int32} {a : Nat} (h : cR S r o x y w) (e : w = P a) : (S 3 r).toInt = (P a).toInt := by rw [h.2.2.2, e]
/-- is it a row of trees? -/
def tm_li : Tm → Prop
  | .leaf none => True
  | .branch (_ + 3) _ b => tm_li b
  | _ => False
theorem tm_li_sn (t : Tm) : ∀ {c : Tm}, tm_li c → tm_li (tm_sn c t)
  | .leaf none, _ => trivial
  | .branch (_ + 3) a b, h => tm_li_sn t (c := b) h
theorem tm_li_0 : ∀ {c : Tm}, tm_li c → tm_ln c = 0 → c = Tm.nil
  | .leaf none, _, _ => rfl
  | .branch (_ + 3) a b, _, h => absurd h (Nat.succ_ne_zero _)
theorem tm_bn_sn {n : Nat} {t : Tm} : ∀ {c : Tm}, tm_li c → tm_bn (tm_sn c t) n = tm_bn c n + tm_bn t n
  | .leaf none, _ => by show tm_bn t n + 0 = 0 + tm_bn t n; omega
  | .branch (_ + 3) a b, h => by
    show tm_bn a n + tm_bn (tm_sn b t) n = tm_bn a n + tm_bn b n + tm_bn t n
    rw [tm_bn_sn (c := b) h]; omega
theorem cI_sn {S : Nat → Nat → Int32} {H : Int32 → Int64 → Prop} {alo ahi : Int} {t : Tm} {Y : List Nat} (ht : cI S H alo ahi t false 0 0 0 Y) : ∀ {c : Tm} {X : List Nat}, tm_li c → cI S H alo ahi c false 0 0 0 X → cI S H alo ahi (tm_sn c t) false 0 0 0 (X ++ Y)
  | .leaf none, X, _, h => by
    obtain ⟨rfl, -⟩ := h
    exact ⟨Y, [], by simp, ht, ⟨rfl, fun g => by cases g⟩, fun g => by cases g⟩
  | .branch (_ + 3) a b, X, hl, h => by
    obtain ⟨U, W, rfl, h1, h2, -⟩ := h
    exact ⟨U, W ++ Y, by simp, h1, cI_sn ht (c := b) hl h2, fun g => by cases g⟩
theorem cB_0 {g : Nat → Int32} {t : Tm} (h : ∀ n, tm_bn t n = 0) : cB g g t := fun n _ _ => by rw [h n]; omega
theorem cB_1 {g g2 : Nat → Int32} {t t2 : Tm} (h : cB g g2 t) (e : ∀ n, tm_bn t2 n = tm_bn t n) : cB g g2 t2 := fun n h1 h2 => by rw [e n]; exact h n h1 h2
theorem cB_2 {g g2 g3 : Nat → Int32} {t t2 u : Tm} (h : cB g g2 t) (h2 : cB g2 g3 t2) (e : ∀ n, tm_bn u n = tm_bn t n + tm_bn t2 n) : cB g g3 u := fun n h1 h3 => by
  have a := h n h1 h3
  have b := h2 n h1 h3
  rw [e n]; omega
theorem cB_3 {g g2 g3 g4 : Nat → Int32} {t t2 t3 u : Tm} (h : cB g g2 t) (h2 : cB g2 g3 t2) (h4 : cB g3 g4 t3) (e : ∀ n, tm_bn u n = tm_bn t n + tm_bn t2 n + tm_bn t3 n) : cB g g4 u := fun n h1 h3 => by
  have a := h n h1 h3
  have b := h2 n h1 h3
  have c := h4 n h1 h3
  rw [e n]; omega
theorem cR_h {S : Nat → Nat → Int32} {H : Int32 → Int64 → Prop} {r : Nat} {o x y w : Int32} {v : Int64} (h : cR S r o x y w) (hH : H x v) : H (S 1 r) v := by rw [h.2.1]; exact hH
/-- what was built is not too much -/
def zbd (g : Nat → Int32) (b : Int) : Prop := ∀ n : Nat, 1 ≤ n → n ≤ 3 → 0 ≤ (g n).toInt ∧ (g n).toInt ≤ b
theorem zbd_le {g : Nat → Int32} {b b2 : Int} (h : zbd g b) (hb : b ≤ b2) : zbd g b2 := fun n h1 h2 => ⟨(h n h1 h2).1, by have := (h n h1 h2).2; omega⟩
theorem cB_m {g g2 g3 : Nat → Int32} {t : Tm} {p : Int} {k : Nat} {r x : Int32} (h : cB g g2 t) (hl : (tm_ln t : Int) = r.toInt) (h1 : 1 ≤ r.toInt) (h3 : r.toInt ≤ 3) (e : g3 = upd g2 (Int32.toNatClampNeg r) x) (ex : x.toInt = (g2 (Int32.toNatClampNeg r)).toInt + 1) : cB g g3 (Tm.made p k t) := fun n a b => by
  have hn := zn_nat (x := r) (by omega)
  have := h n a b
  show (g3 n).toInt = (g n).toInt + ((if 0 < tm_ln t ∧ tm_ln t = n then 1 else 0) + tm_bn t n)
  by_cases u : n = Int32.toNatClampNeg r
  · rw [if_pos ⟨by omega, by omega⟩, e, u, zu_s, ex, ← u]; omega
  · rw [if_neg (fun g => u (by omega)), e, zu_n u]; omega
theorem zbd_u {g2 g3 : Nat → Int32} {b b2 : Int} {r x : Int32} (h : zbd g2 b) (h1 : 1 ≤ r.toInt) (h3 : r.toInt ≤ 3) (e : g3 = upd g2 (Int32.toNatClampNeg r) x) (ex : x.toInt = (g2 (Int32.toNatClampNeg r)).toInt + 1) (hb : b + 1 ≤ b2) : zbd g3 b2 := fun n a c => by
  have hn := zn_nat (x := r) (by omega)
  have hh := h n a c
  by_cases u : n = Int32.toNatClampNeg r
  · rw [e, u, zu_s, ex, ← u]; omega
  · rw [e, zu_n u]; omega
theorem zbd_x {g2 : Nat → Int32} {b : Int} {r v x y : Int32} (h : zbd g2 b) (h1 : 1 ≤ r.toInt) (h3 : r.toInt ≤ 3) (hb : b ≤ 2147000000) (ev : v = g2 (Int32.toNatClampNeg r)) (ex : x = v + y) (hy : y.toInt = 1) : x.toInt = (g2 (Int32.toNatClampNeg r)).toInt + 1 := by
  have hn := zn_nat (x := r) (by omega)
  have hh := h (Int32.toNatClampNeg r) (by omega) (by omega)
  rw [ex, ev]; exact zi_addc hy (by omega) (by omega)
theorem cI_ar {op a b pl ak an ab al af bu ak2 an2 ab2 al2 af2 bu2 : Nat → Int32} {H : Int32 → Int64 → Prop} {alo ahi : Int} {t : Tm} {X : List Nat} (h : cI (zcs op a b pl ak an ab al af bu) H alo ahi t false 0 0 0 X) (e : ∀ j : Nat, alo ≤ (j : Int) → (j : Int) < ahi → ak2 j = ak j ∧ an2 j = an j ∧ ab2 j = ab j ∧ al2 j = al j ∧ af2 j = af j ∧ bu2 j = bu j) : cI (zcs op a b pl ak2 an2 ab2 al2 af2 bu2) H alo ahi t false 0 0 0 X :=
  cI_st (S := zcs op a b pl ak an ab al af bu) (S2 := zcs op a b pl ak2 an2 ab2 al2 af2 bu2) (alo := alo) (ahi := ahi) e (Int.le_refl _) (Int.le_refl _) t (fun r hr => ⟨rfl, rfl, rfl, rfl⟩) h
theorem cR_ar {op a b pl ak an ab al af bu ak2 an2 ab2 al2 af2 bu2 : Nat → Int32} {r : Nat} {o x y w : Int32} (h : cR (zcs op a b pl ak an ab al af bu) r o x y w) : cR (zcs op a b pl ak2 an2 ab2 al2 af2 bu2) r o x y w := h
theorem zCh_oft {S S2 : Nat → Nat → Int32} {G G2 : Nat → Nat → Int} {f : Nat} {h c h2 c2 : Int} {X T : List Nat} (h0 : zS0 S) (k : zE S S2 G G2 f h c X T h2 c2) : zCh (S 3) (S 11 0) (S 12 0) (S2 3) (S2 11 0) (S2 12 0) (X ++ T) := by
  obtain ⟨a1, a2, a3, a4, a5, a6, a7, a8, -⟩ := k
  exact ⟨h0.1, h0.2.1, a1.1, a2, a3, a5, a4, a6, a8⟩
theorem zcs_1 {op a b pl ak an ab al af bu a2 : Nat → Int32} : ∀ k, k ≠ 1 → zcs op a2 b pl ak an ab al af bu k = zcs op a b pl ak an ab al af bu k
  | 0, _ => rfl
  | 1, h => absurd rfl h
  | 2, _ => rfl
  | 3, _ => rfl
  | 4, _ => rfl
  | 5, _ => rfl
  | 6, _ => rfl
  | 7, _ => rfl
  | 8, _ => rfl
  | _ + 9, _ => rfl
/-- of a row: what it does, its number, its place -/
def cQ (S : Nat → Nat → Int32) (r : Nat) (o x p : Int32) : Prop := S 0 r = o ∧ S 1 r = x ∧ S 3 r = p
theorem cQ_mv {op a b pl ak an ab al af bu op2 a2 b2 pl2 ak2 an2 ab2 al2 af2 bu2 : Nat → Int32} {r : Nat} {o x p : Int32} {cz : Int32} (h : cQ (zcs op a b pl ak an ab al af bu) r o x p) (hr : (r : Int) < cz.toInt) (f0 : zfp op op2 cz) (f1 : zfp a a2 cz) (f3 : zfp pl pl2 cz) : cQ (zcs op2 a2 b2 pl2 ak2 an2 ab2 al2 af2 bu2) r o x p := ⟨(f0 r hr).trans h.1, (f1 r hr).trans h.2.1, (f3 r hr).trans h.2.2⟩
theorem cb_y {x : Int32} {n : Nat} {t : Tm} {g g2 : Nat → Int32} (hB : cB g g2 t) (h1 : 1 ≤ n) (h3 : n ≤ 3) (hx : x.toBitVec.getLsbD n = true) (h : (g n).toInt < (g2 n).toInt) : x.toBitVec.getLsbD n = tm_mk t n := by
  have := hB n h1 h3
  rw [hx, (tm_bn_mk n t).mp (by omega)]
theorem cb_n {x : Int32} {n : Nat} {t : Tm} {g g2 : Nat → Int32} (hB : cB g g2 t) (h1 : 1 ≤ n) (h3 : n ≤ 3) (hx : x.toBitVec.getLsbD n = false) (h : (g2 n).toInt ≤ (g n).toInt) : x.toBitVec.getLsbD n = tm_mk t n := by
  have := hB n h1 h3
  have h0 : ¬ tm_mk t n = true := fun q => by have := (tm_bn_mk n t).mpr q; omega
  rw [hx]; exact ((Bool.not_eq_true _).mp h0).symm
theorem cb_3 {x : Int32} {t : Tm} (h1 : x.toBitVec.getLsbD 1 = tm_mk t 1) (h2 : x.toBitVec.getLsbD 2 = tm_mk t 2) (h3 : x.toBitVec.getLsbD 3 = tm_mk t 3) : ∀ n, 1 ≤ n → n ≤ 3 → x.toBitVec.getLsbD n = tm_mk t n := fun n a b => by
  rcases (show n = 1 ∨ n = 2 ∨ n = 3 by omega) with rfl | rfl | rfl
  · exact h1
  · exact h2
  · exact h3

end
section
/-! what about() tells, of a tree -/
/-- how many builds with fields -/
def tm_bu : Tm → Int
  | .branch 0 (.leaf (some (1, _, _, _, _, _))) x => tm_bu x + if 0 < tm_ln x then 1 else 0
  | .branch 0 (.leaf (some (0, _, _, _, _, _))) x => tm_bu x
  | .branch 1 (.leaf (some (0, _, _, _, _, _))) (.branch _ x y) => tm_bu x + tm_bu y
  | .branch 1 (.leaf (some (_ + 1, _, _, _, _, _))) (.branch _ x y) => tm_bu x + tm_bu y
  | .branch 2 (.leaf (some (_, _, _, _, _, _))) (.branch _ x (.branch _ y z)) => tm_bu x + tm_bu y + tm_bu z
  | .branch 0 (.leaf (some (2, _, _, _, _, _))) x => tm_bu x
  | .branch 0 (.leaf (some (_ + 3, _, _, _, _, _))) x => tm_bu x
  | .branch (_ + 3) x y => tm_bu x + tm_bu y
  | _ => 0
/-- how many matches -/
def tm_ma : Tm → Int
  | .branch 0 (.leaf (some (1, _, _, _, _, _))) x => tm_ma x
  | .branch 0 (.leaf (some (0, _, _, _, _, _))) x => tm_ma x
  | .branch 1 (.leaf (some (0, _, _, _, _, _))) (.branch _ x y) => tm_ma x + tm_ma y
  | .branch 1 (.leaf (some (_ + 1, _, _, _, _, _))) (.branch _ x y) => tm_ma x + tm_ma y
  | .branch 2 (.leaf (some (_, _, _, _, _, _))) (.branch _ x (.branch _ y z)) => tm_ma x + tm_ma y + tm_ma z
  | .branch 0 (.leaf (some (2, _, _, _, _, _))) x => tm_ma x + 1
  | .branch 0 (.leaf (some (_ + 3, _, _, _, _, _))) x => tm_ma x
  | .branch (_ + 3) x y => tm_ma x + tm_ma y
  | _ => 0
/-- how many names at most, of those that stand in it -/
def tm_wi : Tm → Nat
  | .branch 0 (.leaf (some (1, _, _, _, _, _))) x => tm_wi x
  | .branch 0 (.leaf (some (0, _, _, _, _, _))) x => tm_wi x
  | .branch 1 (.leaf (some (0, _, _, _, _, _))) (.branch _ x y) => max (tm_wi x) (tm_wi y)
  | .branch 1 (.leaf (some (_ + 1, _, _, s, _, _))) (.branch _ x y) => max (tm_wi x) (max (s + 1) (tm_wi y))
  | .branch 2 (.leaf (some (_, _, _, _, _, _))) (.branch _ x (.branch _ y z)) => max (tm_wi x) (max (tm_wi y) (tm_wi z))
  | .branch 0 (.leaf (some (2, _, _, _, _, _))) x => tm_wi x
  | .branch 0 (.leaf (some (_ + 3, _, _, h, m, _))) x => max (h + m) (tm_wi x)
  | .branch (_ + 3) x y => max (tm_wi x) (tm_wi y)
  | _ => 0
/-- which slots a tree uses -/
def tm_ub : Tm → Nat → Bool
  | .leaf (some (_ + 1, _, _, s, _, _)), j => j == s
  | .branch 0 (.leaf (some (0, _, _, _, _, _))) x, j => tm_ub x j
  | .branch 0 (.leaf (some (1, _, _, _, _, _))) x, j => tm_ub x j
  | .branch 1 (.leaf (some (0, _, _, _, _, _))) (.branch _ x y), j => tm_ub x j || tm_ub y j
  | .branch 1 (.leaf (some (_ + 1, _, _, s, _, _))) (.branch _ x y), j => tm_ub x j || (tm_ub y j && !(j == s))
  | .branch 2 (.leaf (some (_, _, _, _, _, _))) (.branch _ x (.branch _ y z)), j => tm_ub x j || tm_ub y j || tm_ub z j
  | .branch 0 (.leaf (some (2, _, _, s, _, _))) x, j => (j == s) || tm_ub x j
  | .branch 0 (.leaf (some (_ + 3, _, _, h, m, _))) x, j => tm_ub x j && !(decide ((h : Int) ≤ (j : Int)) && decide ((j : Int) < (h : Int) + (m : Int)))
  | .branch (_ + 3) x y, j => tm_ub x j || tm_ub y j
  | _, _ => false
/-- b: what is needed behind it; s: the slot of the match whose arms these are -/
def tm_sh : Tm → (Nat → Bool) → Nat → Int
  | .branch 0 (.leaf (some (0, _, _, _, _, _))) x, b, s => tm_sh x b 32
  | .branch 0 (.leaf (some (1, _, _, _, _, _))) x, b, s => tm_sh x b 32
  | .branch 1 (.leaf (some (0, _, _, _, _, _))) (.branch _ x y), b, s => tm_sh x (fun j => b j || tm_ub y j) 32 + tm_sh y b 32
  | .branch 1 (.leaf (some (_ + 1, _, _, v, _, _))) (.branch _ x y), b, s => tm_sh x (fun j => b j || (tm_ub y j && !(j == v))) 32 + tm_sh y b 32
  | .branch 2 (.leaf (some (_, _, _, _, _, _))) (.branch _ x (.branch _ y z)), b, s => tm_sh x (fun j => b j || tm_ub y j || tm_ub z j) 32 + tm_sh y b 32 + tm_sh z b 32
  | .branch 0 (.leaf (some (2, _, _, v, _, _))) x, b, s => tm_sh x b v
  | .branch 0 (.leaf (some (_ + 3, _, _, _, m, _))) x, b, s => (if 0 < m ∧ (tm_ub x s || b s) = false ∧ tm_mk x m = true then 1 else 0) + tm_sh x b 32
  | .branch (_ + 3) x y, b, s => tm_sh x (if s < 32 then b else fun j => b j || tm_ub y j) s + tm_sh y b s
  | _, _, _ => 0
theorem tm_bu_sn {t : Tm} : ∀ {c : Tm}, tm_li c → tm_bu (tm_sn c t) = tm_bu c + tm_bu t
  | .leaf none, _ => by show tm_bu t + 0 = 0 + tm_bu t; omega
  | .branch (_ + 3) a b, h => by
    show tm_bu a + tm_bu (tm_sn b t) = tm_bu a + tm_bu b + tm_bu t
    rw [tm_bu_sn (c := b) h]; omega
theorem tm_ma_sn {t : Tm} : ∀ {c : Tm}, tm_li c → tm_ma (tm_sn c t) = tm_ma c + tm_ma t
  | .leaf none, _ => by show tm_ma t + 0 = 0 + tm_ma t; omega
  | .branch (_ + 3) a b, h => by
    show tm_ma a + tm_ma (tm_sn b t) = tm_ma a + tm_ma b + tm_ma t
    rw [tm_ma_sn (c := b) h]; omega
theorem tm_wi_sn {t : Tm} : ∀ {c : Tm}, tm_li c → tm_wi (tm_sn c t) = max (tm_wi c) (tm_wi t)
  | .leaf none, _ => by show max (tm_wi t) 0 = max 0 (tm_wi t); omega
  | .branch (_ + 3) a b, h => by
    show max (tm_wi a) (tm_wi (tm_sn b t)) = max (max (tm_wi a) (tm_wi b)) (tm_wi t)
    rw [tm_wi_sn (c := b) h]; omega
/-- of a tree -/
def cG (g g2 : Nat → Int32) (f : Nat) (t : Tm) : Prop := cF g g2 f (tm_bu t) (tm_ma t) (tm_wi t : Int)
/-- the facts of all functions, ahead of the shells -/
def cFa (ff : Nat → Int32) (fz : Int32) (tr : Nat → Tm) : Prop := ∀ g : Nat, (g : Int) < fz.toInt → (ff (5 * g + 1)).toInt = max (ff (5 * g)).toInt (tm_wi (tr g) : Int) ∧ ff (5 * g + 2) = Int32.ofInt (tm_bu (tr g)) ∧ ff (5 * g + 3) = Int32.ofInt (tm_ma (tr g)) ∧ ff (5 * g + 4) = 0
theorem cFa_0 {ff : Nat → Int32} {fz : Int32} {tr : Nat → Tm} (h : fz.toInt = 0) : cFa ff fz tr := fun g hg => by omega

end
