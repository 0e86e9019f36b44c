theorem zbyt9 : ∀ j : Fin 10, (vp_nar .byte ((Int32.toInt8 (Int32.ofInt (j.val : Int))).toInt32)) = Int32.ofInt (j.val : Int) := by decide
theorem zbyt {x : Int32} (h0 : 1 ≤ x.toInt) (h1 : x.toInt ≤ 9) : (vp_nar .byte ((Int32.toInt8 x).toInt32)).toInt = x.toInt := by
  have h := zbyt9 ⟨x.toInt.toNat, by omega⟩
  have e : ((x.toInt.toNat : Nat) : Int) = x.toInt := by omega
  have e2 : (Int32.ofInt ((x.toInt.toNat : Nat) : Int)) = x := by rw [e]; exact Int32.ofInt_toInt x
  have h : vp_nar .byte ((Int32.toInt8 (Int32.ofInt ((x.toInt.toNat : Nat) : Int))).toInt32) = Int32.ofInt ((x.toInt.toNat : Nat) : Int) := h
  rw [e2] at h
  rw [h]
theorem zJp_1 {S : Nat → Nat → Int32} {wh ow on tw th be ma fi ow2 : Nat → Int32} {kz : Int32} {z : Nat} {w o a b t m o2 : Int32} (h : zJp S (zJS wh ow on tw th be ma fi kz) z w o a b t m) (e : ow2 = upd ow z o2) : zJp S (zJS wh ow2 on tw th be ma fi kz) z w o2 a b t m := by
  obtain ⟨h0, h1, h2⟩ := h
  refine ⟨h0, ?_, h2⟩
  show ow2 = _
  rw [e, show ow = _ from h1, zu_uu]
theorem zJp_2 {S : Nat → Nat → Int32} {wh ow on tw th be ma fi on2 : Nat → Int32} {kz : Int32} {z : Nat} {w o a b t m o2 : Int32} (h : zJp S (zJS wh ow on tw th be ma fi kz) z w o a b t m) (e : on2 = upd on z o2) : zJp S (zJS wh ow on2 tw th be ma fi kz) z w o o2 b t m := by
  obtain ⟨h0, h1, h2, h3⟩ := h
  refine ⟨h0, h1, ?_, h3⟩
  show on2 = _
  rw [e, show on = _ from h2, zu_uu]
theorem zJp_3 {S : Nat → Nat → Int32} {wh ow on tw th be ma fi tw2 : Nat → Int32} {kz : Int32} {z : Nat} {w o a b t m o2 : Int32} (h : zJp S (zJS wh ow on tw th be ma fi kz) z w o a b t m) (e : tw2 = upd tw z o2) : zJp S (zJS wh ow on tw2 th be ma fi kz) z w o a o2 t m := by
  obtain ⟨h0, h1, h2, h3, h4⟩ := h
  refine ⟨h0, h1, h2, ?_, h4⟩
  show tw2 = _
  rw [e, show tw = _ from h3, zu_uu]
theorem zJp_4 {S : Nat → Nat → Int32} {wh ow on tw th be ma fi th2 : Nat → Int32} {kz : Int32} {z : Nat} {w o a b t m o2 : Int32} (h : zJp S (zJS wh ow on tw th be ma fi kz) z w o a b t m) (e : th2 = upd th z o2) : zJp S (zJS wh ow on tw th2 be ma fi kz) z w o a b o2 m := by
  obtain ⟨h0, h1, h2, h3, h4, h5⟩ := h
  refine ⟨h0, h1, h2, h3, ?_, h5⟩
  show th2 = _
  rw [e, show th = _ from h4, zu_uu]
theorem zJp_6 {S : Nat → Nat → Int32} {wh ow on tw th be ma fi ma2 : Nat → Int32} {kz : Int32} {z : Nat} {w o a b t m o2 : Int32} (h : zJp S (zJS wh ow on tw th be ma fi kz) z w o a b t m) (e : ma2 = upd ma z o2) : zJp S (zJS wh ow on tw th be ma2 fi kz) z w o a b t o2 := by
  obtain ⟨h0, h1, h2, h3, h4, h5, h6, h7⟩ := h
  refine ⟨h0, h1, h2, h3, h4, h5, ?_, h7⟩
  show ma2 = _
  rw [e, show ma = _ from h6, zu_uu]
/-- the kinds' names are good -/
def zkn (kz : Int32) (kn : Nat → Int64) : Prop := ∀ j : Nat, (j : Int) < kz.toInt → 1 ≤ (kn j).toInt ∧ (kn j).toInt < 281474976710656
theorem zkn_add {kz kz2 so k : Int32} {kn kn2 : Nat → Int64} {le : Int64} (h : zkn kz kn) (hl : zkl so le) (hs : so.toInt = 3) (e : kn2 = vp_updL kn (Int32.toNatClampNeg k) le) (hk : k.toInt = kz.toInt) (h0 : 0 ≤ kz.toInt) (e2 : kz2.toInt = kz.toInt + 1) : zkn kz2 kn2 := fun j hj => by
  have hn := zn_nat (x := k) (by omega)
  rw [e]
  unfold vp_updL
  by_cases g : j = Int32.toNatClampNeg k
  · rw [if_pos g]; exact hl hs
  · rw [if_neg g]; exact h j (by omega)
/-- only kinds have come -/
theorem zJk_S {wh ow on tw th be ma fi fi2 : Nat → Int32} {kz kz2 : Int32} (h : kz.toInt ≤ kz2.toInt) (g : ∀ q : Nat, (q : Int) < kz.toInt → (fi q).toInt ≠ -1 → fi2 q = fi q) : zJk (zJS wh ow on tw th be ma fi kz) (zJS wh ow on tw th be ma fi2 kz2) := ⟨h, g⟩
theorem zJs_S {wh ow on tw th be ma fi fi2 : Nat → Int32} {kz kz2 : Int32} : ∀ i, i ≤ 6 → (zJS wh ow on tw th be ma fi2 kz2) i = (zJS wh ow on tw th be ma fi kz) i
  | 0, _ => rfl
  | 1, _ => rfl
  | 2, _ => rfl
  | 3, _ => rfl
  | 4, _ => rfl
  | 5, _ => rfl
  | 6, _ => rfl
  | _ + 7, h => absurd h (by omega)
theorem zJb_S {wh ow on tw th be ma fi be2 : Nat → Int32} {kz : Int32} : ∀ i, i ≤ 8 → i ≠ 5 → (zJS wh ow on tw th be2 ma fi kz) i = (zJS wh ow on tw th be ma fi kz) i
  | 0, _, _ => rfl
  | 1, _, _ => rfl
  | 2, _, _ => rfl
  | 3, _, _ => rfl
  | 4, _, _ => rfl
  | 5, _, h => absurd rfl h
  | 6, _, _ => rfl
  | 7, _, _ => rfl
  | 8, _, _ => rfl
  | _ + 9, h, _ => absurd h (by omega)
theorem zJX {S0 S : Nat → Nat → Int32} {L0 C0 : Nat → Nat} {a a2 z c z2 c2 : Nat} {t : Bool} (h : ∃ L2 C2, zJE S0 S L0 L2 C0 C2 a z c t) (ea : a = a2) (ez : z = z2) (ec : c = c2) : ∃ L2 C2, zJE S0 S L0 L2 C0 C2 a2 z2 c2 t := ea ▸ ez ▸ ec ▸ h
theorem zJG_pre {S0 S1 S : Nat → Nat → Int32} {L0 L C0 C : Nat → Nat} {a z c : Nat} {t : Bool} {fi la : Int32} {n : Int} (hk : zJk S0 S1) (hs : ∀ i, i ≤ 6 → S1 i = S0 i) (h : zJG S1 S L0 L C0 C a z c t fi la n) : zJG S0 S L0 L C0 C a z c t fi la n := by
  obtain ⟨R, h1, h2⟩ := h
  exact ⟨R, zJl_pre hk hs h1, h2⟩
theorem zJG_idk {S0 S S2 : Nat → Nat → Int32} {L0 L C0 C : Nat → Nat} {a z c : Nat} {t : Bool} {fi la : Int32} {n : Int} (hk : zJk S S2) (hs : ∀ i, i ≤ 6 → S2 i = S i) (h : zJG S0 S L0 L C0 C a z c t fi la n) : zJG S0 S2 L0 L C0 C a z c t fi la n := by
  obtain ⟨R, h1, h2, h3, h4, h5⟩ := h
  exact ⟨R, zJl_idk h1 hk hs, h2, by rw [hs 5 (by decide)]; exact h3, h4, fun g => by rw [hs 5 (by decide)]; exact h5 g⟩
theorem zJ_callG {S0 S S2 : Nat → Nat → Int32} {L0 L C0 C : Nat → Nat} {a z c : Nat} {fi la : Int32} {n : Int} {w o y u m : Int32} (h : zJG S0 S L0 L C0 C a z c false fi la n) (hp : zJp S S2 z w o fi y u m) (hw : w.toInt = 3) (hm : n = m.toInt) (hc24 : c ≤ 24) : ∃ L2 C2, zJE S0 S2 L0 L2 C0 C2 a (z + 1) c false := by
  obtain ⟨R, h1, h2, h3, h4, -⟩ := h
  exact zJ_call h1 hp hw h2 h3 (h4.trans hm) hc24
theorem zJ_madeG {S0 S S2 : Nat → Nat → Int32} {L0 L C0 C : Nat → Nat} {a z c : Nat} {fi la : Int32} {n : Int} {w o y u m : Int32} (h : zJG S0 S L0 L C0 C a z c false fi la n) (hp : zJp S S2 z w o fi y u m) (hw : w.toInt = 4) (hm : n = m.toInt) (hm3 : m.toInt ≤ 3) (ho : 0 ≤ o.toInt) (ho2 : o.toInt < (S 8 0).toInt) (hf : S 7 (Int32.toNatClampNeg o) = m) (hc24 : c ≤ 24) : ∃ L2 C2, zJE S0 S2 L0 L2 C0 C2 a (z + 1) c false := by
  obtain ⟨R, h1, h2, h3, h4, -⟩ := h
  exact zJ_made h1 hp hw h2 h3 (h4.trans hm) hm3 ho ho2 hf hc24
theorem zJ_matchG {S0 S S2 : Nat → Nat → Int32} {L0 L C0 C : Nat → Nat} {a z c : Nat} {fi la : Int32} {n : Int} {w o y u m : Int32} (h : zJG S0 S L0 L C0 C a z c true fi la n) (hp : zJp S S2 z w o fi y u m) (hw : w.toInt = 8) (ho : 0 ≤ o.toInt) (ho2 : o.toInt < (c : Int)) (hc24 : c ≤ 24) : ∃ L2 C2, zJE S0 S2 L0 L2 C0 C2 a (z + 1) c false := by
  obtain ⟨R, h1, h2, h3, h4, -⟩ := h
  exact zJ_match h1 hp hw h2 h3 ho ho2 hc24
theorem zJG_z {S0 S : Nat → Nat → Int32} {L0 L C0 C : Nat → Nat} {a z c z2 : Nat} {t : Bool} {fi la : Int32} {n n2 : Int} (h : zJG S0 S L0 L C0 C a z c t fi la n) (ez : z = z2) (en : n = n2) : zJG S0 S L0 L C0 C a z2 c t fi la n2 := ez ▸ en ▸ h
theorem zJG_c {S0 S : Nat → Nat → Int32} {L0 L C0 C : Nat → Nat} {a z c c2 : Nat} {t : Bool} {fi la : Int32} {n : Int} (h : zJG S0 S L0 L C0 C a z c t fi la n) (ec : c = c2) : zJG S0 S L0 L C0 C a z c2 t fi la n := ec ▸ h
theorem zJE_c {S0 S : Nat → Nat → Int32} {L0 L C0 C : Nat → Nat} {a z c c2 : Nat} {t : Bool} (h : zJE S0 S L0 L C0 C a z c t) (ec : c = c2) : zJE S0 S L0 L C0 C a z c2 t := ec ▸ h

