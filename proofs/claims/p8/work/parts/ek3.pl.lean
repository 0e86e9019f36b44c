/-! plain's answer, on both sides -/
def plR (o : Option (sp_S × sp_F)) (f al a b c d r : Int32) : Prop := ((∀ s F, o = some (s, F) → f.toInt < 0 ∨ (F.1 : Int) ≤ f.toInt ∨ al.toInt < 0 ∨ 20000 < al.toInt) ∧ r.toInt = -1) ∨ ∃ (s : sp_S) (F : sp_F), o = some (s, F) ∧ (0 ≤ f.toInt ∧ f.toInt < (F.1 : Int) ∧ 0 ≤ al.toInt ∧ al.toInt ≤ 20000) ∧ cEn F (Int32.toNatClampNeg al) (pm_s0 F (Int32.toNatClampNeg f) a b c d) r
theorem plR_1 {o : Option (sp_S × sp_F)} {f al a b c d r r2 : Int32} (h : plR o f al a b c d r) (h2 : plR o f al a b c d r2) : r = r2 := by
  rcases h with ⟨h, e⟩ | ⟨s, F, e, g, k, p, k1, k2⟩
  · rcases h2 with ⟨-, e2⟩ | ⟨s2, F2, e2, g2, -⟩
    · exact Int32.toInt_inj.mp (e.trans e2.symm)
    · have := h s2 F2 e2; exfalso; omega
  · rcases h2 with ⟨h2, -⟩ | ⟨s2, F2, e2, g2, j, p2, j1, j2⟩
    · have := h2 s F e; exfalso; omega
    · rw [e] at e2
      cases e2
      have := pm_ou_1 k2 j2
      cases this
      exact Int32.toInt_inj.mp (k1.trans j1.symm)
theorem plR_C {S : Nat → Nat → Int32} {nx : Nat → Int32} {cz az kz fz f al a b c d r : Int32} {kw : Nat → Int64} {kf en ff : Nat → Int32} {fw : Nat → Int64} {o : Option (sp_S × sp_F)} (h : (f.toInt < 0 ∨ fz.toInt ≤ f.toInt ∨ al.toInt < 0 ∨ 20000 < al.toInt) ∧ r.toInt = -1 ∨ (0 ≤ f.toInt ∧ f.toInt < fz.toInt ∧ 0 ≤ al.toInt ∧ al.toInt ≤ 20000) ∧ ∃ (s : sp_S) (F : sp_F), o = some (s, F) ∧ cEn F (Int32.toNatClampNeg al) (pm_s0 F (Int32.toNatClampNeg f) a b c d) r) (hz : (o = none → fz.toInt = 0) ∧ ∀ s F, o = some (s, F) → cZZ S nx cz az kz fz kw kf en ff fw s F ∧ wfF s F ∧ syF F) (h0 : 0 ≤ fz.toInt) : plR o f al a b c d r := by
  have nf := zn_nat h0
  rcases h with ⟨h, e⟩ | ⟨h, s, F, e, k⟩
  · refine Or.inl ⟨fun s F g => ?_, e⟩
    have := (hz.2 s F g).1.2.2.2.1
    omega
  · have := (hz.2 s F e).1.2.2.2.1
    exact Or.inr ⟨s, F, e, by omega, k⟩
theorem plR_R {B : Nat → Nat → Int32} {wh ow on tw th be ma fd us bh mk fs bo td wd : Nat → Int32} {nm kn fn : Nat → Int64} {kz nf pz tk f al a b c d r wr : Int32} {o : Option (sp_S × sp_F)} (h : (tk.toInt = 0 ∨ f.toInt < 0 ∨ nf.toInt ≤ f.toInt ∨ al.toInt < 0 ∨ 20000 < al.toInt) ∧ r.toInt = -1 ∨ (tk.toInt ≠ 0 ∧ 0 ≤ f.toInt ∧ f.toInt < nf.toInt ∧ 0 ≤ al.toInt ∧ al.toInt ≤ 20000) ∧ ∃ (s : sp_S) (F : sp_F), o = some (s, F) ∧ rXo F (Int32.toNatClampNeg al) (pm_s0 F (Int32.toNatClampNeg f) a b c d) r wr) (hp : (tk.toInt = 0 ∧ o = none) ∨ (tk.toInt ≠ 0 ∧ rx_pp o kn fd kz fn td nf B nm fs bo pz wd mk ∧ ∀ q, o = some q → wfF q.1 q.2 ∧ syF q.2)) (hr : tk.toInt = 0 ∨ zRd wh ow on tw th be ma fd kz us bh fs bo td nf pz) : plR o f al a b c d r := by
  rcases hp with ⟨p1, p2⟩ | ⟨p1, ⟨s, kw, kf, fw, ft, G, e, -⟩, -⟩
  · subst p2
    rcases h with ⟨-, e⟩ | ⟨h, -⟩
    · exact Or.inl ⟨fun s F g => (by cases g), e⟩
    · exact absurd p1 h.1
  · obtain ⟨-, -, n0, -⟩ := hr.resolve_left p1
    have nn := zn_nat n0
    subst e
    rcases h with ⟨h, e⟩ | ⟨h, s2, F2, e, n, p, k1, -, k2⟩
    · refine Or.inl ⟨fun s2 F2 g => ?_, e⟩
      cases g
      show f.toInt < 0 ∨ ((Int32.toNatClampNeg nf : Nat) : Int) ≤ f.toInt ∨ _
      omega
    · cases e
      exact Or.inr ⟨_, _, rfl, ⟨h.2.1, by show f.toInt < ((Int32.toNatClampNeg nf : Nat) : Int); omega, h.2.2.2.1, h.2.2.2.2⟩, n, p, k1, k2⟩
