/-! what about answers, of the program that is taken -/
def abV : Option (sp_S × sp_F) → Int → Int → Int32
  | none, _, _ => -1
  | some q, f, wt => if 0 ≤ f ∧ f < (q.2.1 : Int) ∧ 0 ≤ wt ∧ wt ≤ 4 then
      (if wt = 0 then Int32.ofInt (q.2.2.2.1 f.toNat) else if wt = 1 then Int32.ofInt (max (q.2.2.2.1 f.toNat) (tm_wi (q.2.2.2.2 f.toNat) : Int)) else if wt = 2 then Int32.ofInt (tm_bu (q.2.2.2.2 f.toNat)) else if wt = 3 then Int32.ofInt (tm_ma (q.2.2.2.2 f.toNat)) else Int32.ofInt (tm_sh (q.2.2.2.2 f.toNat) (fun _ => false) 32))
    else -1
theorem i32_m1 {r : Int32} (h : r.toInt = -1) : r = -1 := Int32.toInt_inj.mp (h.trans (by decide))
theorem i32_of {r : Int32} {x : Int} (h : r.toInt = x) : r = Int32.ofInt x := by rw [← h]; exact (Int32.ofInt_toInt r).symm
theorem pg_an_y {g : Nat → Int32} {nn fed r : Int32} {Z : sp_S → sp_F → Prop} (h : pg_an g nn fed r Z) (hr : 0 ≤ r.toInt) : ∃ s F, (Z s F ∧ wfF s F ∧ syF F) ∧ pg_an g nn fed r (fun s2 F2 => some (s, F) = some (s2, F2)) := by
  rcases h with ⟨u1, u2⟩ | ⟨u1, T, P, V, z, kw, kf, fw, G, u3, u4⟩
  · omega
  · rcases u4 with ⟨v1, s, F, v2, v3, v4⟩ | ⟨v1, v2⟩
    · exact ⟨s, F, ⟨v4, wf_pg rfl v2, sy_pg rfl v2⟩, Or.inr ⟨u1, T, P, V, z, kw, kf, fw, G, u3, Or.inl ⟨v1, s, F, v2, v3, rfl⟩⟩⟩
    · omega
theorem pg_an_n {g : Nat → Int32} {nn fed r : Int32} {Z Z2 : sp_S → sp_F → Prop} (h : pg_an g nn fed r Z) (hr : r.toInt = -1) : pg_an g nn fed r Z2 := by
  rcases h with ⟨u1, u2⟩ | ⟨u1, T, P, V, z, kw, kf, fw, G, u3, u4⟩
  · exact Or.inl ⟨u1, u2⟩
  · rcases u4 with ⟨v1, -⟩ | ⟨v1, v2⟩
    · omega
    · exact Or.inr ⟨u1, T, P, V, z, kw, kf, fw, G, u3, Or.inr ⟨v1, v2⟩⟩
/-- the class -/
theorem ab_C {S : Nat → Nat → Int32} {nx : Nat → Int32} {cz az kz fz fu wh r : Int32} {kw : Nat → Int64} {kf en ff : Nat → Int32} {fw : Nat → Int64} {o : Option (sp_S × sp_F)} (h : (fu.toInt < 0 ∨ fz.toInt ≤ fu.toInt ∨ wh.toInt < 0 ∨ 5 ≤ wh.toInt) ∧ r.toInt = -1 ∨ (0 ≤ fu.toInt ∧ fu.toInt < fz.toInt ∧ 0 ≤ wh.toInt ∧ wh.toInt < 5) ∧ r = ff (5 * Int32.toNatClampNeg fu + Int32.toNatClampNeg wh)) (hz : (o = none → fz.toInt = 0) ∧ ∀ s F, o = some (s, F) → cZZ S nx cz az kz fz kw kf en ff fw s F ∧ wfF s F ∧ syF F) (h0 : 0 ≤ fz.toInt) : r = abV o fu.toInt wh.toInt := by
  have nf := zn_nat h0
  cases o with
  | none =>
    have := hz.1 rfl
    rcases h with ⟨-, h⟩ | ⟨h, -⟩
    · exact i32_m1 h
    · omega
  | some q =>
    obtain ⟨s, F⟩ := q
    obtain ⟨⟨-, -, -, c4, -, -, -, c8⟩, -, -⟩ := hz.2 s F rfl
    show r = if 0 ≤ fu.toInt ∧ fu.toInt < (F.1 : Int) ∧ 0 ≤ wh.toInt ∧ wh.toInt ≤ 4 then _ else -1
    rcases h with ⟨h, h1⟩ | ⟨⟨a1, a2, a3, a4⟩, h1⟩
    · rw [if_neg (by omega)]; exact i32_m1 h1
    · rw [if_pos ⟨a1, by omega, a3, by omega⟩]
      have n1 := zn_nat a1
      obtain ⟨f0, f1, f2, f3, f4⟩ := c8 (Int32.toNatClampNeg fu) (by omega)
      have en : fu.toInt.toNat = Int32.toNatClampNeg fu := rfl
      rw [en]
      have hw : wh.toInt = 0 ∨ wh.toInt = 1 ∨ wh.toInt = 2 ∨ wh.toInt = 3 ∨ wh.toInt = 4 := by omega
      rcases hw with w | w | w | w | w
      · rw [if_pos w, h1, show Int32.toNatClampNeg wh = 0 from zn_lit w]; exact i32_of f0
      · rw [if_neg (by omega), if_pos w, h1, show Int32.toNatClampNeg wh = 1 from zn_lit w]; exact i32_of f1
      · rw [if_neg (by omega), if_neg (by omega), if_pos w, h1, show Int32.toNatClampNeg wh = 2 from zn_lit w]; exact f2
      · rw [if_neg (by omega), if_neg (by omega), if_neg (by omega), if_pos w, h1, show Int32.toNatClampNeg wh = 3 from zn_lit w]; exact f3
      · rw [if_neg (by omega), if_neg (by omega), if_neg (by omega), if_neg (by omega), h1, show Int32.toNatClampNeg wh = 4 from zn_lit w]; exact f4
/-- the reference -/
theorem ab_R {wh pl ow on tw th be ma fd us bh mk fs bo td wd : Nat → Int32} {nm kn fn : Nat → Int64} {kz nf pz tk f wt r : Int32} {o : Option (sp_S × sp_F)} (h : (tk.toInt = 0 ∨ f.toInt < 0 ∨ nf.toInt ≤ f.toInt ∨ wt.toInt < 0 ∨ 4 < wt.toInt) ∧ r.toInt = -1 ∨ (tk.toInt ≠ 0 ∧ 0 ≤ f.toInt ∧ f.toInt < nf.toInt ∧ 0 ≤ wt.toInt ∧ wt.toInt ≤ 4) ∧ ∃ ga ge : Nat, (fs (Int32.toNatClampNeg f)).toInt = (ga : Int) ∧ (bo (Int32.toNatClampNeg f)).toInt = (ge : Int) - 1 ∧ ab_v (Int32.toInt wt) td wd (rcs wh pl ow on tw th be ma) (rf_sh wh ow on be ma us bh mk) (Int32.toNatClampNeg f) ga ge r) (hp : (tk.toInt = 0 ∧ o = none) ∨ (tk.toInt ≠ 0 ∧ rx_pp o kn fd kz fn td nf (rcs wh pl ow on tw th be ma) nm fs bo pz wd mk ∧ ∀ q, o = some q → wfF q.1 q.2 ∧ syF q.2)) (hr : tk.toInt = 0 ∨ zRd wh ow on tw th be ma fd kz us bh fs bo td nf pz) : r = abV o f.toInt wt.toInt := by
  rcases hp with ⟨p1, p2⟩ | ⟨p1, ⟨s, kw, kf, fw, ft, G, e, -, -, -, -, hfr, hpg, hwa, hma, -⟩, p3⟩
  · subst p2
    rcases h with ⟨-, h⟩ | ⟨h, -⟩
    · exact i32_m1 h
    · exact absurd p1 h.1
  · obtain ⟨⟨L, C, hJ, hK⟩, -, n0, n1, z0, z1, -, -⟩ := hr.resolve_left p1
    have nn := zn_nat n0
    have nz := zn_nat z0
    subst e
    obtain ⟨hwf, hsy⟩ := p3 _ rfl
    show r = if 0 ≤ f.toInt ∧ f.toInt < ((Int32.toNatClampNeg nf : Nat) : Int) ∧ 0 ≤ wt.toInt ∧ wt.toInt ≤ 4 then _ else -1
    rcases h with ⟨h, h1⟩ | ⟨⟨-, a1, a2, a3, a4⟩, ga, ge, h1, h2, v0, v1, v2⟩
    · rw [if_neg (fun g => by
        have g1 := g.1
        have g2 := g.2.1
        have g3 := g.2.2.1
        have g4 := g.2.2.2
        omega)]; exact i32_m1 h1
    · rw [if_pos ⟨a1, by omega, a3, a4⟩]
      have nf1 := zn_nat a1
      have en : f.toInt.toNat = Int32.toNatClampNeg f := rfl
      rw [en]
      obtain ⟨a, b, q1, q2, q3, q4, q5⟩ := hpg (Int32.toNatClampNeg f) (by omega)
      obtain rfl : a = ga := by omega
      obtain rfl : b = ge := by omega
      have ht := (hfr (Int32.toNatClampNeg f) (by omega)).2
      obtain ⟨c, ⟨c1, c2⟩, c3⟩ := hwf (Int32.toNatClampNeg f) (by show Int32.toNatClampNeg f < Int32.toNatClampNeg nf; omega)
      obtain ⟨y1, y2⟩ := hsy (Int32.toNatClampNeg f) (by show Int32.toNatClampNeg f < Int32.toNatClampNeg nf; omega)
      have c1 : ft (Int32.toNatClampNeg f) = (c : Int) := c1
      have hw : wt.toInt = 0 ∨ wt.toInt = 1 ∨ wt.toInt = 2 ∨ wt.toInt = 3 ∨ wt.toInt = 4 := by omega
      rcases hw with w | w | w | w | w
      · rw [if_pos w, v0 w]; exact i32_of ht.symm
      · rw [if_neg (by omega), if_pos w, v1 w]
        have e1 := hwa (Int32.toNatClampNeg f) (by omega)
        have e2 := wj_wi (G (Int32.toNatClampNeg f)) c3
        exact i32_of (by show (wd _).toInt = max (ft _) ((tm_wi (G (Int32.toNatClampNeg f)) : Nat) : Int); rw [e1]; omega)
      · rw [if_neg (by omega), if_neg (by omega), if_pos w, v2 (by omega), ← rI_bu _ q4, show ab_f wt.toInt (rcs wh pl ow on tw th be ma) (rf_sh wh ow on be ma us bh mk) = rf_bu (rcs wh pl ow on tw th be ma) from funext fun k => if_pos w]
      · rw [if_neg (by omega), if_neg (by omega), if_neg (by omega), if_pos w, v2 (by omega), ← rI_ma _ q4, show ab_f wt.toInt (rcs wh pl ow on tw th be ma) (rf_sh wh ow on be ma us bh mk) = rf_ma (rcs wh pl ow on tw th be ma) from funext fun k => (if_neg (by omega)).trans (if_pos w)]
      · rw [if_neg (by omega), if_neg (by omega), if_neg (by omega), if_neg (by omega), v2 (by omega), show ab_f wt.toInt (rcs wh pl ow on tw th be ma) (rf_sh wh ow on be ma us bh mk) = rf_sh wh ow on be ma us bh mk from funext fun k => (if_neg (by omega)).trans (if_neg (by omega))]
        have hm : zMA (zJS wh ow on tw th be ma fd kz) mk (Int32.toNatClampNeg pz) := fun k hk => zMq_cg (S := zJS wh ow on tw th be ma ma 0) rfl rfl rfl rfl rfl (hma k hk)
        have e1 := (rSh (z := Int32.toNatClampNeg pz) hK.1 hm (G (Int32.toNatClampNeg f)) y2 c3 c2 q4 q3).1 y1
        obtain ⟨b1, b2⟩ := hK.2 (Int32.toNatClampNeg f) (by omega)
        have p2 := rI_1 q5 q4
        have eb : Int32.toNatClampNeg (bo (Int32.toNatClampNeg f)) = b - 1 := rN_i q2 (by omega)
        rw [eb] at b2
        rw [e1, b2, show (fun j => zbit 0 j) = (fun _ => false) from funext fun j => by
          by_cases g : j < 32
          · exact zbit_z g
          · exact zbit_ge (by omega)]
