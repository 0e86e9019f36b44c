/-! what a read program tells the run -/
theorem rFf {fn : Nat → Int64} {td : Nat → Int32} {fz r : Int32} {fw : Nat → Int64} {ft : Nat → Int} {w v : Int64} (h : sp_fr fn td fz fw ft) (hc : sp_cv w v) (h0 : 0 ≤ fz.toInt) (hf : rx_ff fn v fz r) (hr : 0 ≤ r.toInt) : r.toInt = (sp_fi fw w (Int32.toNatClampNeg fz) : Int) ∧ sp_fi fw w (Int32.toNatClampNeg fz) < Int32.toNatClampNeg fz := by
  obtain ⟨-, h1, h2, h3⟩ := hf.resolve_left (fun g => by omega)
  have n0 := zn_nat h0
  have nr := zn_nat hr
  have e : sp_fi fw w (Int32.toNatClampNeg fz) = Int32.toNatClampNeg r := sp_fi_eq (by omega) (fun j hj q => h3 j (by omega) ((sp_cv_inj (h j (by omega)).1 hc).mp q)) (Or.inr ((sp_cv_inj (h _ (by omega)).1 hc).mpr h2))
  rw [e]
  exact ⟨by omega, by omega⟩
theorem rQ_of {wh pl ow on tw th be ma fd us bh mk fs bo td wd : Nat → Int32} {nm kn fn : Nat → Int64} {kz nf pz : Int32} {o : Option (sp_S × sp_F)} (hp : rx_pp o kn fd kz fn td nf (rcs wh pl ow on tw th be ma) nm fs bo pz wd mk) (hw : ∀ q, o = some q → wfF q.1 q.2 ∧ syF q.2) (hr : zRd wh ow on tw th be ma fd kz us bh fs bo td nf pz) : ∃ (s : sp_S) (F : sp_F), o = some (s, F) ∧ rQ (rcs wh pl ow on tw th be ma) (rJ nm) (Int32.toNatClampNeg pz) (Int32.toNatClampNeg kz) fd us bo td F ∧ F.1 = Int32.toNatClampNeg nf := by
  obtain ⟨s, kw, kf, fw, ft, G, e, s1, s2, s3, hkr, hfr, hpg, hwa, hma, hca⟩ := hp
  obtain ⟨hwf, hsy⟩ := hw _ e
  obtain ⟨L, C, hPG, -, n0, n1, k0, k1, z0⟩ := zRd_PG hr
  have nn := zn_nat n0
  have nk := zn_nat k0
  have hU : zKU (zJS wh ow on tw th be ma fd kz) us us 0 (Int32.toNatClampNeg pz) := ⟨fun q _ h => (hPG.2.2.1 q h).1, fun _ _ => rfl⟩
  refine ⟨s, _, e, ⟨fun t k hs ⟨a, b, g1, g2, g3, g4, g5⟩ j hj => ?_, fun f hf => ?_, fun k w hk h3 hj => ?_⟩, rfl⟩
  · have := (rI_ub hU t (sy_ok hs.2) g4 (Nat.zero_le _) g3).1 g5 j hj
    rw [show Int32.toNatClampNeg k = b - 1 from zn_lit (by omega)]; exact this
  · obtain ⟨a, b, g1, g2, g3, g4, g5⟩ := hpg f hf
    have l := rI_1 g5 g4
    obtain ⟨c, ⟨c1, c2⟩, c3⟩ := hwf f hf
    have hft : ft f = (td f).toInt := (hfr f (by have : f < Int32.toNatClampNeg nf := hf; omega)).2
    refine ⟨⟨a, b, g2, by omega, g3, g4, g5⟩, hsy f hf, c, c1, c2, ?_, ?_⟩
    · rw [← hft]; exact c1
    · rw [s1, s3] at c3
      exact wf_mo (Nat.le_refl _) (fun k hk _ => ((hkr k (by omega)).2).symm) _ c3
  · obtain ⟨h1, h2⟩ := hca k hk h3
    exact rFf hfr hj n0 h1 h2
