theorem zbyt9 : ∀ j : Fin 10, (vp_nar .byte ((Int32.toInt8 (Int32.ofInt (j.val : Int))).toInt32)) = Int32.ofInt (j.val : Int) := by decide
theorem zbyt {x : Int32} (h0 : 1 ≤ x.toInt) (h1 : x.toInt ≤ 9) : (vp_nar .byte ((Int32.toInt8 x).toInt32)).toInt = x.toInt := by
  have h := zbyt9 ⟨x.toInt.toNat, by omega⟩
  have e : ((x.toInt.toNat : Nat) : Int) = x.toInt := by omega
  have e2 : (Int32.ofInt ((x.toInt.toNat : Nat) : Int)) = x := by rw [e]; exact Int32.ofInt_toInt x
  have h : vp_nar .byte ((Int32.toInt8 (Int32.ofInt ((x.toInt.toNat : Nat) : Int))).toInt32) = Int32.ofInt ((x.toInt.toNat : Nat) : Int) := h
  rw [e2] at h
  rw [h]
theorem zJp_1 {S : Nat → Nat → Int32} {wh ow on tw th be ma fi ow2 : Nat → Int32} {kz : Int32} {z : Nat} {w o a b t m o2 : Int32} (h : zJp S (zJS wh ow on tw th be ma fi kz) z w o a b t m) (e : ow2 = upd ow z o2) : zJp S (zJS wh ow2 on tw th be ma fi kz) z w o2 a b t m := by
  obtain ⟨h0, h1, h2⟩ := h
  refine ⟨h0, ?_, h2⟩
  show ow2 = _
  rw [e, show ow = _ from h1, zu_uu]
theorem zJp_2 {S : Nat → Nat → Int32} {wh ow on tw th be ma fi on2 : Nat → Int32} {kz : Int32} {z : Nat} {w o a b t m o2 : Int32} (h : zJp S (zJS wh ow on tw th be ma fi kz) z w o a b t m) (e : on2 = upd on z o2) : zJp S (zJS wh ow on2 tw th be ma fi kz) z w o o2 b t m := by
  obtain ⟨h0, h1, h2, h3⟩ := h
  refine ⟨h0, h1, ?_, h3⟩
  show on2 = _
  rw [e, show on = _ from h2, zu_uu]
theorem zJp_3 {S : Nat → Nat → Int32} {wh ow on tw th be ma fi tw2 : Nat → Int32} {kz : Int32} {z : Nat} {w o a b t m o2 : Int32} (h : zJp S (zJS wh ow on tw th be ma fi kz) z w o a b t m) (e : tw2 = upd tw z o2) : zJp S (zJS wh ow on tw2 th be ma fi kz) z w o a o2 t m := by
  obtain ⟨h0, h1, h2, h3, h4⟩ := h
  refine ⟨h0, h1, h2, ?_, h4⟩
  show tw2 = _
  rw [e, show tw = _ from h3, zu_uu]
theorem zJp_4 {S : Nat → Nat → Int32} {wh ow on tw th be ma fi th2 : Nat → Int32} {kz : Int32} {z : Nat} {w o a b t m o2 : Int32} (h : zJp S (zJS wh ow on tw th be ma fi kz) z w o a b t m) (e : th2 = upd th z o2) : zJp S (zJS wh ow on tw th2 be ma fi kz) z w o a b o2 m := by
  obtain ⟨h0, h1, h2, h3, h4, h5⟩ := h
  refine ⟨h0, h1, h2, h3, ?_, h5⟩
  show th2 = _
  rw [e, show th = _ from h4, zu_uu]
theorem zJp_6 {S : Nat → Nat → Int32} {wh ow on tw th be ma fi ma2 : Nat → Int32} {kz : Int32} {z : Nat} {w o a b t m o2 : Int32} (h : zJp S (zJS wh ow on tw th be ma fi kz) z w o a b t m) (e : ma2 = upd ma z o2) : zJp S (zJS wh ow on tw th be ma2 fi kz) z w o a b t o2 := by
  obtain ⟨h0, h1, h2, h3, h4, h5, h6, h7⟩ := h
  refine ⟨h0, h1, h2, h3, h4, h5, ?_, h7⟩
  show ma2 = _
  rw [e, show ma = _ from h6, zu_uu]
/-- the kinds' names are good -/
def zkn (kz : Int32) (kn : Nat → Int64) : Prop := ∀ j : Nat, (j : Int) < kz.toInt → 1 ≤ (kn j).toInt ∧ (kn j).toInt < 281474976710656
theorem zkn_add {kz kz2 so k : Int32} {kn kn2 : Nat → Int64} {le : Int64} (h : zkn kz kn) (hl : zkl so le) (hs : so.toInt = 3) (e : kn2 = vp_updL kn (Int32.toNatClampNeg k) le) (hk : k.toInt = kz.toInt) (h0 : 0 ≤ kz.toInt) (e2 : kz2.toInt = kz.toInt + 1) : zkn kz2 kn2 := fun j hj => by
  have hn := zn_nat (x := k) (by omega)
  rw [e]
  unfold vp_updL
  by_cases g : j = Int32.toNatClampNeg k
  · rw [if_pos g]; exact hl hs
  · rw [if_neg g]; exact h j (by omega)
/-- only kinds have come -/
theorem zJk_S {wh ow on tw th be ma fi fi2 : Nat → Int32} {kz kz2 : Int32} (h : kz.toInt ≤ kz2.toInt) (g : ∀ q : Nat, (q : Int) < kz.toInt → (fi q).toInt ≠ -1 → fi2 q = fi q) : zJk (zJS wh ow on tw th be ma fi kz) (zJS wh ow on tw th be ma fi2 kz2) := ⟨h, g⟩
theorem zJs_S {wh ow on tw th be ma fi fi2 : Nat → Int32} {kz kz2 : Int32} : ∀ i, i ≤ 6 → (zJS wh ow on tw th be ma fi2 kz2) i = (zJS wh ow on tw th be ma fi kz) i
  | 0, _ => rfl
  | 1, _ => rfl
  | 2, _ => rfl
  | 3, _ => rfl
  | 4, _ => rfl
  | 5, _ => rfl
  | 6, _ => rfl
  | _ + 7, h => absurd h (by omega)
theorem zJb_S {wh ow on tw th be ma fi be2 : Nat → Int32} {kz : Int32} : ∀ i, i ≤ 8 → i ≠ 5 → (zJS wh ow on tw th be2 ma fi kz) i = (zJS wh ow on tw th be ma fi kz) i
  | 0, _, _ => rfl
  | 1, _, _ => rfl
  | 2, _, _ => rfl
  | 3, _, _ => rfl
  | 4, _, _ => rfl
  | 5, _, h => absurd rfl h
  | 6, _, _ => rfl
  | 7, _, _ => rfl
  | 8, _, _ => rfl
  | _ + 9, h, _ => absurd h (by omega)
theorem zJX {S0 S : Nat → Nat → Int32} {L0 C0 : Nat → Nat} {a a2 z c z2 c2 : Nat} {t : Bool} (h : ∃ L2 C2, zJE S0 S L0 L2 C0 C2 a z c t) (ea : a = a2) (ez : z = z2) (ec : c = c2) : ∃ L2 C2, zJE S0 S L0 L2 C0 C2 a2 z2 c2 t := ea ▸ ez ▸ ec ▸ h
theorem zJG_pre {S0 S1 S : Nat → Nat → Int32} {L0 L C0 C : Nat → Nat} {a z c : Nat} {t : Bool} {fi la : Int32} {n : Int} (hk : zJk S0 S1) (hs : ∀ i, i ≤ 6 → S1 i = S0 i) (h : zJG S1 S L0 L C0 C a z c t fi la n) : zJG S0 S L0 L C0 C a z c t fi la n := by
  obtain ⟨R, h1, h2⟩ := h
  exact ⟨R, zJl_pre hk hs h1, h2⟩
theorem zJG_idk {S0 S S2 : Nat → Nat → Int32} {L0 L C0 C : Nat → Nat} {a z c : Nat} {t : Bool} {fi la : Int32} {n : Int} (hk : zJk S S2) (hs : ∀ i, i ≤ 6 → S2 i = S i) (h : zJG S0 S L0 L C0 C a z c t fi la n) : zJG S0 S2 L0 L C0 C a z c t fi la n := by
  obtain ⟨R, h1, h2, h3, h4, h5⟩ := h
  exact ⟨R, zJl_idk h1 hk hs, h2, by rw [hs 5 (by decide)]; exact h3, h4, fun g => by rw [hs 5 (by decide)]; exact h5 g⟩
theorem zJ_callG {S0 S S2 : Nat → Nat → Int32} {L0 L C0 C : Nat → Nat} {a z c : Nat} {fi la : Int32} {n : Int} {w o y u m : Int32} (h : zJG S0 S L0 L C0 C a z c false fi la n) (hp : zJp S S2 z w o fi y u m) (hw : w.toInt = 3) (hm : n = m.toInt) (hc24 : c ≤ 24) : ∃ L2 C2, zJE S0 S2 L0 L2 C0 C2 a (z + 1) c false := by
  obtain ⟨R, h1, h2, h3, h4, -⟩ := h
  exact zJ_call h1 hp hw h2 h3 (h4.trans hm) hc24
theorem zJ_madeG {S0 S S2 : Nat → Nat → Int32} {L0 L C0 C : Nat → Nat} {a z c : Nat} {fi la : Int32} {n : Int} {w o y u m : Int32} (h : zJG S0 S L0 L C0 C a z c false fi la n) (hp : zJp S S2 z w o fi y u m) (hw : w.toInt = 4) (hm : n = m.toInt) (hm3 : m.toInt ≤ 3) (ho : 0 ≤ o.toInt) (ho2 : o.toInt < (S 8 0).toInt) (hf : S 7 (Int32.toNatClampNeg o) = m) (hc24 : c ≤ 24) : ∃ L2 C2, zJE S0 S2 L0 L2 C0 C2 a (z + 1) c false := by
  obtain ⟨R, h1, h2, h3, h4, -⟩ := h
  exact zJ_made h1 hp hw h2 h3 (h4.trans hm) hm3 ho ho2 hf hc24
theorem zJ_matchG {S0 S S2 : Nat → Nat → Int32} {L0 L C0 C : Nat → Nat} {a z c : Nat} {fi la : Int32} {n : Int} {w o y u m : Int32} (h : zJG S0 S L0 L C0 C a z c true fi la n) (hp : zJp S S2 z w o fi y u m) (hw : w.toInt = 8) (ho : 0 ≤ o.toInt) (ho2 : o.toInt < (c : Int)) (hc24 : c ≤ 24) : ∃ L2 C2, zJE S0 S2 L0 L2 C0 C2 a (z + 1) c false := by
  obtain ⟨R, h1, h2, h3, h4, -⟩ := h
  exact zJ_match h1 hp hw h2 h3 ho ho2 hc24
theorem zJG_z {S0 S : Nat → Nat → Int32} {L0 L C0 C : Nat → Nat} {a z c z2 : Nat} {t : Bool} {fi la : Int32} {n n2 : Int} (h : zJG S0 S L0 L C0 C a z c t fi la n) (ez : z = z2) (en : n = n2) : zJG S0 S L0 L C0 C a z2 c t fi la n2 := ez ▸ en ▸ h
theorem zJG_c {S0 S : Nat → Nat → Int32} {L0 L C0 C : Nat → Nat} {a z c c2 : Nat} {t : Bool} {fi la : Int32} {n : Int} (h : zJG S0 S L0 L C0 C a z c t fi la n) (ec : c = c2) : zJG S0 S L0 L C0 C a z c2 t fi la n := ec ▸ h
theorem zJE_c {S0 S : Nat → Nat → Int32} {L0 L C0 C : Nat → Nat} {a z c c2 : Nat} {t : Bool} (h : zJE S0 S L0 L C0 C a z c t) (ec : c = c2) : zJE S0 S L0 L C0 C a z c2 t := ec ▸ h
/-! the reference at a token -/
theorem lx_tk_uq {g : Nat → Int32} {n : Int} {f p e p2 e2 : Nat} {t t2 : Int32} {v v2 : Int64} (h : lx_tk g n f p e t v) (h2 : lx_tk g n f p2 e2 t2 v2) : p = p2 ∧ e = e2 ∧ t.toInt = t2.toInt ∧ (t.toInt = 258 ∨ t.toInt = 259 → v = v2) ∧ (t.toInt = 260 → Int64.toInt32 v = Int64.toInt32 v2) := by
  obtain ⟨a1, a2, a3, a4, a5, a6⟩ := h
  obtain ⟨b1, b2, b3, b4, b5, b6⟩ := h2
  have ep : p = p2 := by
    rcases Nat.lt_trichotomy p p2 with u | u | u
    · have := b3 p a1 u; omega
    · exact u
    · have := a3 p2 b1 u; omega
  subst ep
  refine ⟨rfl, ?_⟩
  rcases a6 with q | q
  · rcases b6 with r | r
    · obtain ⟨q1, q2, q3, q4, q5, q6, q7⟩ := q
      obtain ⟨r1, r2, r3, r4, r5, r6, r7⟩ := r
      have ee : e = e2 := by
        rcases Nat.lt_trichotomy e e2 with u | u | u
        · rcases q4 with w | w
          · omega
          · exact absurd (r3 e (by omega) u) w
        · exact u
        · rcases r4 with w | w
          · omega
          · exact absurd (q3 e2 (by omega) u) w
      subst ee
      have et : t.toInt = t2.toInt := by rw [q5, r5]
      exact ⟨rfl, et, fun g => (q6 g).trans (r6 (by rw [← et]; exact g)).symm, fun g => Int32.toInt_inj.mp ((q7 g).trans (r7 (by rw [← et]; exact g)).symm)⟩
    · exact absurd (q.2.2.1 p (Nat.le_refl _) q.1) r.1
  · rcases b6 with r | r
    · exact absurd (r.2.2.1 p (Nat.le_refl _) r.1) q.1
    · rcases q.2 with ⟨x1, x2, x3⟩ | ⟨x1, x2, x3⟩
      · rcases r.2 with ⟨y1, y2, y3⟩ | ⟨y1, y2, y3⟩
        · exact ⟨by omega, by omega, fun g => by omega, fun g => by omega⟩
        · exact absurd x1 y1
      · rcases r.2 with ⟨y1, y2, y3⟩ | ⟨y1, y2, y3⟩
        · exact absurd y1 x1
        · refine ⟨by omega, ?_, fun g => ?_, fun g => ?_⟩
          · rcases x3 with ⟨z1, z2⟩ | ⟨z1, z2⟩
            · rcases y3 with ⟨w1, w2⟩ | ⟨w1, w2⟩
              · omega
              · exact absurd z1 w1
            · rcases y3 with ⟨w1, w2⟩ | ⟨w1, w2⟩
              · exact absurd w1 z1
              · omega
          · rcases x3 with ⟨z1, z2⟩ | ⟨z1, z2⟩
            · unfold lx_sg at z1; omega
            · omega
          · rcases x3 with ⟨z1, z2⟩ | ⟨z1, z2⟩
            · unfold lx_sg at z1; omega
            · omega
/-- the reference stands at token i of all tokens -/
def rx_st (g : Nat → Int32) (n : Int32) (T P : Nat → Int32) (V : Nat → Int64) (z : Int32) (e : Nat → Nat) (i : Nat) (at_ so sg : Int32) (le : Int64) (pl : Int32) : Prop := (0 ≤ n.toInt ∧ 0 ≤ z.toInt ∧ z.toInt ≤ 2000 ∧ (T (Int32.toNatClampNeg z)).toInt = 256 ∧ (P (Int32.toNatClampNeg z)).toInt = n.toInt ∧ lx_to g n.toInt T P V (Int32.toNatClampNeg z) n.toInt.toNat e) ∧ ((i = Int32.toNatClampNeg z ∧ so.toInt = 1) ∨ (i < Int32.toNatClampNeg z ∧ rx_rel (T i) (V i) so sg le ∧ (so.toInt = 0 ∨ at_.toInt = (e i : Int)))) ∧ pl.toInt = (P i).toInt
theorem rx_rel_v {t t2 : Int32} {v v2 : Int64} {so sg : Int32} {le : Int64} (h : rx_rel t v so sg le) (et : t.toInt = t2.toInt) (ev : t.toInt = 258 ∨ t.toInt = 259 → v = v2) (ew : t.toInt = 260 → Int64.toInt32 v = Int64.toInt32 v2) : rx_rel t2 v2 so sg le := by
  rcases h with q | q | q | q | q | q | q
  · exact Or.inl (by omega)
  · exact Or.inr (Or.inl ⟨by omega, q.2.1, by rw [← ev (by omega)]; exact q.2.2⟩)
  · exact Or.inr (Or.inr (Or.inl ⟨by omega, q.2.1, by rw [← ev (by omega)]; exact q.2.2⟩))
  · exact Or.inr (Or.inr (Or.inr (Or.inl ⟨by omega, q.2.1, by rw [← ew q.1]; exact q.2.2⟩)))
  · exact Or.inr (Or.inr (Or.inr (Or.inr (Or.inl (by omega)))))
  · obtain ⟨c, c1, c2, c3, c4⟩ := q
    exact Or.inr (Or.inr (Or.inr (Or.inr (Or.inr (Or.inl ⟨c, c1, c2, by omega, c4⟩)))))
  · exact Or.inr (Or.inr (Or.inr (Or.inr (Or.inr (Or.inr (by omega))))))
/-- from the end of token i - 1 on -/
theorem rx_st_nx {g : Nat → Int32} {n : Int32} {T P : Nat → Int32} {V : Nat → Int64} {z : Int32} {e : Nat → Nat} {i : Nat} {f pl at2 so sg : Int32} {le : Int64} (h : 0 ≤ n.toInt ∧ 0 ≤ z.toInt ∧ z.toInt ≤ 2000 ∧ (T (Int32.toNatClampNeg z)).toInt = 256 ∧ (P (Int32.toNatClampNeg z)).toInt = n.toInt ∧ lx_to g n.toInt T P V (Int32.toNatClampNeg z) n.toInt.toNat e) (hi : i ≤ Int32.toNatClampNeg z) (hf0 : 0 ≤ f.toInt) (hf : Int32.toNatClampNeg f = lx_b e i) (hx : rx_nx g n f pl at2 so sg le) (hp0 : 0 ≤ pl.toInt) : rx_st g n T P V z e i at2 so sg le pl := by
  have hn := zn_nat hf0
  refine ⟨h, ?_⟩
  obtain ⟨h0, h1, h2, h3, h4, k1, k2, k3⟩ := h
  rcases hx with ⟨u1, u2, u3⟩ | ⟨t, v, e', u1, u2, u3⟩
  · have ei : i = Int32.toNatClampNeg z := by
      by_cases w : i = Int32.toNatClampNeg z
      · exact w
      · obtain ⟨⟨a1, a2, a3, a4, a5, a6⟩, a7⟩ := k1 i (by omega)
        have := u3 (Int32.toNatClampNeg (P i)) (by omega) a2
        omega
    exact ⟨Or.inl ⟨ei, u1⟩, by rw [ei, h4]; exact u2⟩
  · by_cases w : i = Int32.toNatClampNeg z
    · obtain ⟨a1, a2, a3, a4, a5, a6⟩ := u1
      rw [w] at hf
      have := k3 (Int32.toNatClampNeg pl) (by omega) (by omega)
      omega
    · obtain ⟨hk, hk0⟩ := k1 i (by omega)
      rw [← hf] at hk
      obtain ⟨ep, ee, et, ev, ew⟩ := lx_tk_uq u1 hk
      exact ⟨Or.inr ⟨by omega, rx_rel_v u2 et ev ew, by rw [← ee]; exact u3⟩, by have := zn_nat hp0; have := zn_nat hk0; omega⟩
theorem rx_st_ad {g : Nat → Int32} {n : Int32} {T P : Nat → Int32} {V : Nat → Int64} {z : Int32} {e : Nat → Nat} {i : Nat} {at_ so sg pl pl2 at2 so2 sg2 : Int32} {le le2 : Int64} (h : rx_st g n T P V z e i at_ so sg le pl) (h0 : 0 ≤ at_.toInt) (hs0 : so.toInt ≠ 0) (hs1 : so.toInt ≠ 1) (hp0 : 0 ≤ pl2.toInt) (hx : rx_nx g n at_ pl2 at2 so2 sg2 le2) : rx_st g n T P V z e (i + 1) at2 so2 sg2 le2 pl2 := by
  have hn := zn_nat h0
  rcases h.2.1 with ⟨u1, u2⟩ | ⟨u1, u2, u3⟩
  · exact absurd u2 hs1
  · refine rx_st_nx h.1 (by omega) h0 ?_ hx hp0
    unfold lx_b
    rw [if_neg (by omega), Nat.add_sub_cancel]
    have := u3.resolve_left hs0
    omega
section
variable {g : Nat → Int32} {n : Int32} {T P : Nat → Int32} {V : Nat → Int64} {z : Int32} {e : Nat → Nat} {i : Nat} {at_ so sg pl : Int32} {le : Int64}
theorem rx_ile (h : rx_st g n T P V z e i at_ so sg le pl) : i ≤ Int32.toNatClampNeg z := by
  rcases h.2.1 with u | u
  · omega
  · omega
theorem rx_T {k : Int} (h : rx_st g n T P V z e i at_ so sg le pl) : ((T i).toInt = 256 ↔ so.toInt = 1) ∧ ((T i).toInt = 258 ↔ so.toInt = 2) ∧ ((T i).toInt = 259 ↔ so.toInt = 3) ∧ ((T i).toInt = 260 ↔ so.toInt = 4) ∧ ((T i).toInt = 261 ↔ so.toInt = 7) ∧ (0 ≤ k → k < 256 → ((T i).toInt = k ↔ so.toInt = 6 ∧ sg.toInt = k)) := by
  rcases h.2.1 with ⟨u1, u2⟩ | ⟨u1, u2, u3⟩
  · have := h.1.2.2.2.1
    rw [← u1] at this
    exact ⟨by omega, by omega, by omega, by omega, by omega, fun _ _ => by omega⟩
  · rcases u2 with q | q | q | q | q | ⟨c, c1, c2, c3, c4, c5⟩ | q
    all_goals exact ⟨by omega, by omega, by omega, by omega, by omega, fun _ _ => by omega⟩
theorem rx_kd : ∀ c, c < 8 → ∀ d, d < 8 → 1 ≤ c → 1 ≤ d → rx_k c = rx_k d → c = d := by decide +kernel
theorem rx_Tw {c : Nat} (h : rx_st g n T P V z e i at_ so sg le pl) (h1 : 1 ≤ c) (h7 : c ≤ 7) : (T i).toInt = 261 + (c : Int) ↔ so.toInt = 5 ∧ le = rx_k c := by
  rcases h.2.1 with ⟨u1, u2⟩ | ⟨u1, u2, u3⟩
  · have := h.1.2.2.2.1
    rw [← u1] at this
    exact ⟨fun g => by omega, fun g => by omega⟩
  · rcases u2 with q | q | q | q | q | ⟨d, d1, d2, d3, d4, d5⟩ | q
    · exact ⟨fun g => by omega, fun g => by omega⟩
    · exact ⟨fun g => by omega, fun g => by omega⟩
    · exact ⟨fun g => by omega, fun g => by omega⟩
    · exact ⟨fun g => by omega, fun g => by omega⟩
    · exact ⟨fun g => by omega, fun g => by omega⟩
    · constructor
      · intro g
        have : c = d := by omega
        subst this
        exact ⟨d4, d5⟩
      · intro g
        have : c = d := rx_kd c (by omega) d (by omega) h1 d1 (by rw [← g.2, d5])
        omega
    · exact ⟨fun g => by omega, fun g => by omega⟩
theorem rx_cv (h : rx_st g n T P V z e i at_ so sg le pl) (hs : so.toInt = 2 ∨ so.toInt = 3) : sp_cv (V i) le := by
  rcases h.2.1 with ⟨u1, u2⟩ | ⟨u1, u2, u3⟩
  · omega
  · rcases u2 with q | q | q | q | q | ⟨d, d1, d2, d3, d4, d5⟩ | q
    · omega
    · exact q.2.2
    · exact q.2.2
    · omega
    · omega
    · omega
    · omega
theorem rx_nu (h : rx_st g n T P V z e i at_ so sg le pl) (hs : so.toInt = 4) : Int64.toInt32 (V i) = Int64.toInt32 le := by
  rcases h.2.1 with ⟨u1, u2⟩ | ⟨u1, u2, u3⟩
  · omega
  · rcases u2 with q | q | q | q | q | ⟨d, d1, d2, d3, d4, d5⟩ | q
    · omega
    · omega
    · omega
    · exact q.2.2
    · omega
    · omega
    · omega
theorem rx_pl (h : rx_st g n T P V z e i at_ so sg le pl) : pl.toInt = (P i).toInt := h.2.2
end
/-- the names around, as the reference keeps them -/
def sp_nr (sc : Nat → Int64) (k : Int32) (L : List Int64) : Prop := (L.length : Int) = k.toInt ∧ (∀ j : Nat, j < L.length → ∃ w, L[j]? = some w ∧ sp_cv w (sc j)) ∧ L.Nodup
theorem sp_nr_mem {sc : Nat → Int64} {k : Int32} {L : List Int64} (h : sp_nr sc k L) {w v : Int64} (hc : sp_cv w v) : w ∈ L ↔ ∃ j : Nat, (j : Int) < k.toInt ∧ sc j = v := by
  constructor
  · intro g
    obtain ⟨j, hj, e⟩ := List.mem_iff_getElem.mp g
    obtain ⟨w2, e2, c2⟩ := h.2.1 j hj
    rw [List.getElem?_eq_getElem hj, e] at e2
    cases Option.some.inj e2
    exact ⟨j, by have := h.1; omega, (sp_cv_inj c2 hc).mp rfl⟩
  · rintro ⟨j, hj, e⟩
    obtain ⟨w2, e2, c2⟩ := h.2.1 j (by have := h.1; omega)
    have := (sp_cv_inj c2 hc).mpr e
    rw [this] at e2
    exact List.mem_of_getElem? e2
theorem sp_nr_ap {sc sc2 : Nat → Int64} {k k2 : Int32} {L : List Int64} {w v : Int64} (h : sp_nr sc k L) (hnw : w ∉ L) (hc : sp_cv w v) (e : sc2 = vp_updL sc (Int32.toNatClampNeg k) v) (hk : k2.toInt = k.toInt + 1) : sp_nr sc2 k2 (L ++ [w]) := by
  have h0 := h.1
  have hn := zn_nat (x := k) (by omega)
  refine ⟨by rw [List.length_append]; show ((L.length + 1 : Nat) : Int) = _; omega, fun j hj => ?_, List.nodup_append.mpr ⟨h.2.2, by simp, fun a ha b hb e => by rw [List.mem_singleton] at hb; subst hb; subst e; exact hnw ha⟩⟩
  rw [List.length_append] at hj
  have hj : j < L.length + 1 := hj
  by_cases u : j = L.length
  · have e2 : Int32.toNatClampNeg k = L.length := by omega
    refine ⟨w, by rw [u]; simp, ?_⟩
    rw [e, e2, u]; simp [vp_updL]; exact hc
  · obtain ⟨w2, e2, c2⟩ := h.2.1 j (by omega)
    refine ⟨w2, by rw [List.getElem?_append_left (by omega)]; exact e2, ?_⟩
    have e3 : j ≠ Int32.toNatClampNeg k := by omega
    rw [e]; simp [vp_updL, e3]; exact c2
theorem sp_nr_dn {sc : Nat → Int64} {k k2 : Int32} {L M : List Int64} (h : sp_nr sc k (L ++ M)) (ha : (L.length : Int) = k2.toInt) : sp_nr sc k2 L := ⟨ha, fun j hj => by
  obtain ⟨w, e, c⟩ := h.2.1 j (by rw [List.length_append]; omega)
  rw [List.getElem?_append_left hj] at e
  exact ⟨w, e, c⟩, (List.nodup_append.mp h.2.2).1⟩
/-- the kinds, as the reference keeps them -/
def sp_kr (kn : Nat → Int64) (fi : Nat → Int32) (kz : Int32) (kw : Nat → Int64) (kf : Nat → Int32) : Prop := ∀ j : Nat, (j : Int) < kz.toInt → sp_cv (kw j) (kn j) ∧ kf j = fi j
/-- the calls, as the reference keeps them -/
def sp_cr (wh ma : Nat → Int32) (nm : Nat → Int64) (pz : Int32) (C : List (Int64 × Int)) : Prop := (∀ k : Nat, (k : Int) < pz.toInt → (wh k).toInt = 3 → ∃ q ∈ C, sp_cv q.1 (nm k) ∧ (ma k).toInt = q.2) ∧ ∀ q ∈ C, ∃ k : Nat, (k : Int) < pz.toInt ∧ (wh k).toInt = 3 ∧ sp_cv q.1 (nm k) ∧ (ma k).toInt = q.2
theorem sp_sr_s {sc : Nat → Int64} {w : Int64} {k k2 m : Int32} (h : ∀ j : Nat, k.toInt < (j : Int) → (j : Int) < m.toInt → sc j ≠ w) (h0 : 0 ≤ k.toInt) (e : k2.toInt = k.toInt - 1) (hn : sc (Int32.toNatClampNeg k) ≠ w) : ∀ j : Nat, k2.toInt < (j : Int) → (j : Int) < m.toInt → sc j ≠ w := fun j h1 h2 => by
  have := zn_nat h0
  by_cases u : j = Int32.toNatClampNeg k
  · rw [u]; exact hn
  · exact h j (by omega) h2
theorem sp_sr_n {sc : Nat → Int64} {m r : Int32} {L : List Int64} {w v : Int64} (h : sp_nr sc m L) (hc : sp_cv w v) (hr : r.toInt = -1) (hno : ∀ j : Nat, (j : Int) < m.toInt → sc j ≠ v) : sp_in r w L := ⟨fun _ g => by
  obtain ⟨j, hj, e⟩ := (sp_nr_mem h hc).mp g
  exact hno j hj e, fun g => absurd hr g⟩
theorem sp_sr_y {sc : Nat → Int64} {m r : Int32} {L : List Int64} {w v : Int64} (h : sp_nr sc m L) (hc : sp_cv w v) (h0 : 0 ≤ r.toInt) (h1 : r.toInt < m.toInt) (e : sc (Int32.toNatClampNeg r) = v) : sp_in r w L := by
  have hn := zn_nat h0
  obtain ⟨hl, hw, hnd⟩ := h
  have hr : Int32.toNatClampNeg r < L.length := by omega
  obtain ⟨w2, e2, c2⟩ := hw _ hr
  have ew : w2 = w := (sp_cv_inj c2 hc).mpr e
  rw [ew] at e2
  refine ⟨fun g => by omega, fun _ => ⟨List.mem_of_getElem? e2, ?_⟩⟩
  rw [sp_ix_eq e2 (fun i hi q => ?_)]
  · exact hn.symm
  · have hi2 : i < L.length := by omega
    have := (List.getElem?_inj hi2 hnd).mp (q.trans e2.symm)
    omega
theorem sp_kk_y {kn kw : Nat → Int64} {fi kf : Nat → Int32} {kz k : Int32} {wd le : Int64} (h : sp_kr kn fi kz kw kf) (hc : sp_cv wd le) (h0 : 0 ≤ k.toInt) (h1 : k.toInt < kz.toInt) (hno : ∀ j : Nat, (j : Int) < k.toInt → kn j ≠ le) (e : kn (Int32.toNatClampNeg k) = le) : sp_kh wd kz kw kf (some (k, kz, kw, kf)) := by
  have n1 := zn_nat h0
  exact sp_kh_y (sp_fd_y h0 h1 ((sp_cv_inj (h _ (by omega)).1 hc).mpr e) (fun j hj q => hno j hj ((sp_cv_inj (h j (by omega)).1 hc).mp q))) h0 h1
theorem sp_kk_n {kn kw : Nat → Int64} {fi kf : Nat → Int32} {kz q : Int32} {wd le : Int64} (h : sp_kr kn fi kz kw kf) (hc : sp_cv wd le) (h0 : 0 ≤ kz.toInt) (hq : q.toInt = -1) (hno : ∀ j : Nat, (j : Int) < kz.toInt → kn j ≠ le) : sp_fd kw wd kz q := sp_fd_n h0 hq (fun j hj u => hno j hj ((sp_cv_inj (h j hj).1 hc).mp u))
theorem sp_kk_a {kn kw kn2 : Nat → Int64} {fi kf fi2 : Nat → Int32} {kz kz2 k : Int32} {wd le : Int64} (h : sp_kr kn fi kz kw kf) (hc : sp_cv wd le) (h0 : 0 ≤ kz.toInt) (h20 : kz.toInt < 20) (ek : k.toInt = kz.toInt) (hno : ∀ j : Nat, (j : Int) < kz.toInt → kn j ≠ le) (en : kn2 = vp_updL kn (Int32.toNatClampNeg k) le) (ef : fi2 = upd fi (Int32.toNatClampNeg k) (-1)) (ez : kz2.toInt = kz.toInt + 1) : ∃ kw2 kf2, sp_kr kn2 fi2 kz2 kw2 kf2 ∧ sp_kh wd kz kw kf (some (k, kz2, kw2, kf2)) := by
  have e2 : k = kz := Int32.toInt_inj.mp ek
  have hn := zn_nat h0
  refine ⟨vp_updL kw (Int32.toNatClampNeg kz) wd, upd kf (Int32.toNatClampNeg kz) (-1), fun j hj => ?_, sp_kh_a (q := -1) (sp_kk_n h hc h0 (by decide) hno) (by decide) h0 h20 ek ez rfl rfl⟩
  rw [en, ef, e2]
  by_cases u : j = Int32.toNatClampNeg kz
  · rw [u, zu_s, zu_s]
    exact ⟨by simp [vp_updL]; exact hc, rfl⟩
  · rw [zu_n u, zu_n u]
    have := h j (by omega)
    exact ⟨by simp [vp_updL, u]; exact this.1, this.2⟩
theorem sp_kk_x {kn kw : Nat → Int64} {fi kf : Nat → Int32} {kz : Int32} {wd le : Int64} (h : sp_kr kn fi kz kw kf) (hc : sp_cv wd le) (h20 : 20 ≤ kz.toInt) (hno : ∀ j : Nat, (j : Int) < kz.toInt → kn j ≠ le) : sp_kh wd kz kw kf none := sp_kh_x (q := -1) (sp_kk_n h hc (by omega) (by decide) hno) (by decide) h20
theorem sp_hh_1 {kn kw : Nat → Int64} {fi kf fi2 : Nat → Int32} {kz kd mn : Int32} (h : sp_kr kn fi kz kw kf) (h0 : 0 ≤ kd.toInt) (h1 : kd.toInt < kz.toInt) (e : (fi (Int32.toNatClampNeg kd)).toInt = -1) (ef : fi2 = upd fi (Int32.toNatClampNeg kd) mn) : ∃ kf2, sp_kr kn fi2 kz kw kf2 ∧ sp_td kd mn kf (some kf2) := by
  have hn := zn_nat h0
  refine ⟨upd kf (Int32.toNatClampNeg kd) mn, fun j hj => ?_, sp_td_1 (by rw [(h _ (by omega)).2]; exact e) rfl⟩
  rw [ef]
  by_cases u : j = Int32.toNatClampNeg kd
  · rw [u, zu_s, zu_s]; exact ⟨(h _ (by omega)).1, rfl⟩
  · rw [zu_n u, zu_n u]; exact h j hj
theorem sp_hh_2 {kn kw : Nat → Int64} {fi kf : Nat → Int32} {kz kd mn : Int32} (h : sp_kr kn fi kz kw kf) (h0 : 0 ≤ kd.toInt) (h1 : kd.toInt < kz.toInt) (e : (fi (Int32.toNatClampNeg kd)).toInt ≠ -1) (e2 : (fi (Int32.toNatClampNeg kd)).toInt = mn.toInt) : ∃ kf2, sp_kr kn fi kz kw kf2 ∧ sp_td kd mn kf (some kf2) := by
  have hn := zn_nat h0
  have hk := (h _ (show ((Int32.toNatClampNeg kd : Nat) : Int) < kz.toInt by omega)).2
  exact ⟨kf, h, sp_td_2 (by rw [hk]; exact e) (by rw [hk]; exact e2)⟩
theorem sp_hh_x {kn kw : Nat → Int64} {fi kf : Nat → Int32} {kz kd mn : Int32} (h : sp_kr kn fi kz kw kf) (h0 : 0 ≤ kd.toInt) (h1 : kd.toInt < kz.toInt) (e : (fi (Int32.toNatClampNeg kd)).toInt ≠ -1) (e2 : (fi (Int32.toNatClampNeg kd)).toInt ≠ mn.toInt) : sp_td kd mn kf none := by
  have hn := zn_nat h0
  have hk := (h _ (show ((Int32.toNatClampNeg kd : Nat) : Int) < kz.toInt by omega)).2
  exact sp_td_x (by rw [hk]; exact e) (by rw [hk]; exact e2)
/-- may an expression begin here? -/
def rx_bg (t : Int) (r : Int32) : Prop := (r.toInt = 1 ∧ (t = 262 ∨ t = 264 ∨ t = 267 ∨ t = 260 ∨ t = 258 ∨ t = 259 ∨ t = 40)) ∨ (r.toInt = 0 ∧ ¬ (t = 262 ∨ t = 264 ∨ t = 267 ∨ t = 260 ∨ t = 258 ∨ t = 259 ∨ t = 40))
/-- a name may be told here -/
def rx_tl (t : Int) (w : Int64) (L : List Int64) : Prop := t = 258 ∧ w ∉ L ∧ L.length < 24
/-- the fields of a pattern, as the reference goes through them -/
def rx_fs (T : Nat → Int32) (V : Nat → Int64) (L : List Int64) (i : Nat) : Option (List Int64 × Nat) := if (T i).toInt = 40 then sp_pn T V 3 L i else some (L, i)
def rx_fl (T : Nat → Int32) (V : Nat → Int64) (L : List Int64) (o : Option (List Int64 × Nat)) (sc : Nat → Int64) (sd : Int32) (nq mo : Int) (st : Nat → Prop) : Prop := ∃ (M : List Int64) (n a i : Nat), sp_nr sc sd (L ++ M) ∧ (M.length : Int) = nq ∧ (n : Int) = 3 - nq ∧ st i ∧ (mo ≠ 0 → i = a + 1 ∧ o = sp_pn T V n (L ++ M) a) ∧ (mo = 0 → o = if (T i).toInt = 41 then some (L ++ M, i + 1) else none)
theorem rx_pn_x {T : Nat → Int32} {V : Nat → Int64} {L : List Int64} {a i : Nat} (ei : i = a + 1) (h : ¬ rx_tl (T i).toInt (V i) L) : ∀ n, sp_pn T V n L a = none
  | 0 => rfl
  | n + 1 => by
    unfold sp_pn
    rw [← ei]; exact if_neg (fun g => h g)
theorem rx_fl_s {T : Nat → Int32} {V : Nat → Int64} {L M : List Int64} {o : Option (List Int64 × Nat)} {sc2 : Nat → Int64} {sd2 : Int32} {nq nq2 mo2 : Int} {st : Nat → Prop} {n a i i2 : Nat} (hM : (M.length : Int) = nq) (hn : (n : Int) = 3 - nq) (h3 : nq < 3) (hi : i = a + 1) (hq : o = sp_pn T V n (L ++ M) a) (ht : rx_tl (T i).toInt (V i) (L ++ M)) (h2 : sp_nr sc2 sd2 (L ++ M ++ [V i])) (e2 : nq2 = nq + 1) (hs : st i2) (hmo : (mo2 ≠ 0 ∧ (T (i + 1)).toInt = 44 ∧ i2 = i + 2) ∨ (mo2 = 0 ∧ (T (i + 1)).toInt ≠ 44 ∧ i2 = i + 1)) : rx_fl T V L o sc2 sd2 nq2 mo2 st := by
  obtain ⟨k, rfl⟩ : ∃ k, n = k + 1 := ⟨n - 1, by omega⟩
  have hst : sp_pn T V (k + 1) (L ++ M) a = if (T (i + 1)).toInt = 44 then sp_pn T V k (L ++ (M ++ [V i])) (i + 1) else if (T (i + 1)).toInt = 41 then some (L ++ (M ++ [V i]), i + 2) else none := by
    rw [← List.append_assoc]
    conv => lhs; unfold sp_pn
    rw [← hi, show a + 2 = i + 1 by omega, if_pos (show (T i).toInt = 258 ∧ V i ∉ L ++ M ∧ (L ++ M).length < 24 from ht), show a + 3 = i + 2 by omega]
  rw [hst] at hq
  refine ⟨M ++ [V i], k, i + 1, i2, by rw [← List.append_assoc]; exact h2, by rw [List.length_append]; show ((M.length + 1 : Nat) : Int) = _; omega, by omega, hs, fun g => ?_, fun g => ?_⟩
  · rcases hmo with ⟨u1, u2, u3⟩ | ⟨u1, u2, u3⟩
    · exact ⟨by omega, by rw [hq, if_pos u2]⟩
    · exact absurd u1 g
  · rcases hmo with ⟨u1, u2, u3⟩ | ⟨u1, u2, u3⟩
    · exact absurd g u1
    · rw [hq, if_neg u2, u3]

