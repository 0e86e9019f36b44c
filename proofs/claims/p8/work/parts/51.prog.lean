/-! the whole program's code: rows of all functions -/
/-- what stays of rows, arms and kinds -/
def zfq (S S2 : Nat → Nat → Int32) (G G2 : Nat → Nat → Int) : Prop :=
  (S 11 0).toInt ≤ (S2 11 0).toInt ∧ (S 13 0).toInt ≤ (S2 13 0).toInt ∧ (S 14 0).toInt ≤ (S2 14 0).toInt ∧
  (∀ r : Nat, (r : Int) < (S 11 0).toInt → S2 0 r = S 0 r ∧ S2 1 r = S 1 r ∧ S2 2 r = S 2 r ∧ ∀ k, k < 5 → G2 r k = G r k) ∧
  (∀ m : Nat, (m : Int) < (S 13 0).toInt → S2 4 m = S 4 m ∧ S2 5 m = S 5 m ∧ S2 6 m = S 6 m ∧ S2 7 m = S 7 m ∧ S2 8 m = S 8 m ∧ G2 m 5 = G m 5) ∧
  (∀ k : Nat, (k : Int) < (S 14 0).toInt → (S 9 k).toInt ≠ -1 → S2 9 k = S 9 k)
/-- names told of function f -/
def zfn (S S2 : Nat → Nat → Int32) (f : Nat) : Prop := (S 10 (5 * f + 1)).toInt ≤ (S2 10 (5 * f + 1)).toInt ∧ S2 10 (5 * f) = S 10 (5 * f) ∧ (S2 10 (5 * f + 1) = S 10 (5 * f + 1) ∨ (S2 10 (5 * f + 1)).toInt ≤ 24)
theorem zfr_q {S S2 : Nat → Nat → Int32} {G G2 : Nat → Nat → Int} (h : zfr S S2 G G2) : zfq S S2 G G2 := ⟨h.1, h.2.1, h.2.2.1, h.2.2.2.1, h.2.2.2.2.1, h.2.2.2.2.2.1⟩
theorem zfq_tr {S S1 S2 : Nat → Nat → Int32} {G G1 G2 : Nat → Nat → Int} (a : zfq S S1 G G1) (b : zfq S1 S2 G1 G2) : zfq S S2 G G2 := by
  obtain ⟨a1, a2, a3, a4, a5, a6⟩ := a
  obtain ⟨b1, b2, b3, b4, b5, b6⟩ := b
  refine ⟨by omega, by omega, by omega, fun r hr => ?_, fun m hm => ?_, fun k hk hn => ?_⟩
  · obtain ⟨p0, p1, p2, p3⟩ := a4 r hr
    obtain ⟨q0, q1, q2, q3⟩ := b4 r (by omega)
    exact ⟨q0.trans p0, q1.trans p1, q2.trans p2, fun k hk => (q3 k hk).trans (p3 k hk)⟩
  · obtain ⟨p0, p1, p2, p3, p4, p5⟩ := a5 m hm
    obtain ⟨q0, q1, q2, q3, q4, q5⟩ := b5 m (by omega)
    exact ⟨q0.trans p0, q1.trans p1, q2.trans p2, q3.trans p3, q4.trans p4, q5.trans p5⟩
  · have e := a6 k hk hn
    exact (b6 k (by omega) (by rw [e]; exact hn)).trans e
/-- S, but with function f's names told as S2 has them -/
theorem zrow_frq {S S2 : Nat → Nat → Int32} {G G2 : Nat → Nat → Int} {f r : Nat} {po po2 : List Nat} (hQ : zfq S S2 G G2) (hn9 : zfn S S2 f) (hr : ∀ q ∈ r :: po, (q : Int) < (S 11 0).toInt) (hs : ∀ q ∈ po, q ∈ po2) (hn : r ∉ po2) (h : zrow S G f r po) : zrow S2 G2 f r po2 := by
  -- a table between: S2 with S's other names told
  have hF : zfr S (fun k => if k = 10 then (fun j => if j = 5 * f + 1 then S2 10 j else S 10 j) else S2 k) G G2 := by
    obtain ⟨a1, a2, a3, a4, a5, a6⟩ := hQ
    refine ⟨a1, a2, a3, a4, a5, a6, fun g => ?_⟩
    show (S 10 (5 * g + 1)).toInt ≤ (if 5 * g + 1 = 5 * f + 1 then S2 10 (5 * g + 1) else S 10 (5 * g + 1)).toInt ∧ (if 5 * g = 5 * f + 1 then S2 10 (5 * g) else S 10 (5 * g)) = S 10 (5 * g) ∧ ((if 5 * g + 1 = 5 * f + 1 then S2 10 (5 * g + 1) else S 10 (5 * g + 1)) = S 10 (5 * g + 1) ∨ (if 5 * g + 1 = 5 * f + 1 then S2 10 (5 * g + 1) else S 10 (5 * g + 1)).toInt ≤ 24)
    rw [if_neg (show ¬ 5 * g = 5 * f + 1 by omega)]
    by_cases e : 5 * g + 1 = 5 * f + 1
    · rw [if_pos e]
      have : g = f := by omega
      rw [this]; exact ⟨hn9.1, rfl, hn9.2.2⟩
    · rw [if_neg e]; exact ⟨Int.le_refl _, rfl, Or.inl rfl⟩
  have z := zrow_fr hF hr hs hn h
  have e0 : ∀ j, j = 5 * f ∨ j = 5 * f + 1 → (fun k => if k = 10 then (fun j => if j = 5 * f + 1 then S2 10 j else S 10 j) else S2 k : Nat → Nat → Int32) 10 j = S2 10 j := fun j hj => by
    show (if j = 5 * f + 1 then S2 10 j else S 10 j) = S2 10 j
    rcases hj with e | e
    · rw [if_neg (by omega), e]; exact hn9.2.1.symm
    · rw [if_pos e]
  have ek : ∀ k, k ≠ 10 → (fun k => if k = 10 then (fun j => if j = 5 * f + 1 then S2 10 j else S 10 j) else S2 k : Nat → Nat → Int32) k = S2 k := fun k hk => if_neg hk
  generalize (fun k => if k = 10 then (fun j => if j = 5 * f + 1 then S2 10 j else S 10 j) else S2 k : Nat → Nat → Int32) = S3 at z e0 ek
  obtain ⟨h1, h2, h3, h4, h5, h6, h7, h8⟩ := z
  have t0 := e0 (5 * f) (Or.inl rfl)
  have t1 := e0 (5 * f + 1) (Or.inr rfl)
  have k0 := ek 0 (by decide)
  have k1 := ek 1 (by decide)
  have k2 := ek 2 (by decide)
  have k4 := ek 4 (by decide)
  have k5 := ek 5 (by decide)
  have k6 := ek 6 (by decide)
  have k8 := ek 8 (by decide)
  have k9 := ek 9 (by decide)
  have k13 := ek 13 (by decide)
  have k14 := ek 14 (by decide)
  refine ⟨h1, h2, h3, h4, h5, by rw [← t1]; exact h6, h7, ?_⟩
  rw [k0] at h8
  generalize Int32.toNatClampNeg (S2 0 r) = n at h8 ⊢
  have tg : ∀ h, ztg S3 G2 r po2 h → ztg S2 G2 r po2 h := fun h t => by unfold ztg at t ⊢; rw [k1] at t; exact t
  match n, h8 with
  | 0, h => simp only [zop] at h ⊢; rw [k0, k1, t0] at h; exact h
  | 1, h => simp only [zop] at h ⊢; exact h
  | 2, h => simp only [zop] at h ⊢; exact h
  | 3, h => simp only [zop] at h ⊢; rw [k1] at h; exact h
  | 4, h => simp only [zop] at h ⊢; rw [k1, k9, k14] at h; exact h
  | 5, h => simp only [zop] at h ⊢; rw [k1, k9, k14] at h; exact h
  | 6, h => simp only [zop] at h ⊢; rw [k2] at h; exact h
  | 7, h => simp only [zop] at h ⊢; rw [k2] at h; exact h
  | 8, h => simp only [zop] at h ⊢; exact h
  | 9, h => simp only [zop] at h ⊢; exact h
  | 10, h => simp only [zop] at h ⊢; exact h
  | 11, h => simp only [zop] at h ⊢; exact h
  | 12, h => simp only [zop] at h ⊢; rw [k1, t1] at h; exact h
  | 13, h => simp only [zop] at h ⊢; exact ⟨h.1, h.2.1, h.2.2.1, tg _ h.2.2.2⟩
  | 14, h => simp only [zop] at h ⊢; exact tg _ h
  | 15, h =>
    simp only [zop] at h ⊢
    rw [k1, k2, k5] at h
    obtain ⟨u1, u2, AL, u3, u4, u5⟩ := h
    refine ⟨u1, u2, AL, u3, u4, fun m hm => ?_⟩
    have u := u5 m hm
    unfold zarm zkd zfl at u ⊢
    rw [k13, k4, k14, k9, k8, t1, k6] at u
    exact u
  | 16, h => simp only [zop] at h ⊢; exact tg _ h
  | 17, h => simp only [zop] at h ⊢; exact h
  | n + 18, h => exact h.elim
/-- rows of any functions -/
def zall (S : Nat → Nat → Int32) (G : Nat → Nat → Int) : List Nat → Prop
  | [] => True
  | r :: po => (∃ f : Nat, zrow S G f r po) ∧ zall S G po
theorem zall_seg {S : Nat → Nat → Int32} {G : Nat → Nat → Int} {f : Nat} : ∀ {X : List Nat}, zseg S G f X → zall S G X
  | [], _ => trivial
  | _ :: _, h => ⟨⟨f, h.1⟩, zall_seg h.2⟩
theorem zall_fr {S S2 : Nat → Nat → Int32} {G G2 : Nat → Nat → Int} {Y : List Nat} (hQ : zfq S S2 G G2) : ∀ {X : List Nat}, (∀ q ∈ X, (q : Int) < (S 11 0).toInt) → (∀ q ∈ X, ∀ f : Nat, G q 4 = (f : Int) → zfn S S2 f) → (∀ q ∈ X, q ∉ Y) → zall S G X → zall S2 G2 Y → zall S2 G2 (X ++ Y)
  | [], _, _, _, _, h => h
  | r :: po, hr, hf, hd, ⟨⟨f, hz⟩, h⟩, hy => ⟨⟨f, zrow_frq hQ (hf r List.mem_cons_self f hz.2.2.2.2.2.2.1) hr (fun q hq => List.mem_append.mpr (Or.inl hq)) (fun g => (List.mem_append.mp g).elim hz.1 (hd r List.mem_cons_self)) hz⟩, zall_fr hQ (fun q hq => hr q (List.mem_cons_of_mem _ hq)) (fun q hq => hf q (List.mem_cons_of_mem _ hq)) (fun q hq => hd q (List.mem_cons_of_mem _ hq)) h hy⟩
/-- heights and scopes go on from row to row, but behind a RETURN -/
def zcc (S : Nat → Nat → Int32) (G : Nat → Nat → Int) : List Nat → Prop
  | r :: s :: l => (Int32.toNatClampNeg (S 0 r) = 17 ∧ 1000 ≤ G r 3 ∨ G s 0 = G r 1 ∧ G s 2 ≤ G r 3 ∧ G s 4 = G r 4) ∧ zcc S G (s :: l)
  | _ => True
theorem zcc_seg {S : Nat → Nat → Int32} {G : Nat → Nat → Int} {f : Nat} : ∀ {X : List Nat} {h c h2 c2 : Int}, zseg S G f X → zco G h c X h2 c2 → zcc S G X
  | [], _, _, _, _, _, _ => trivial
  | [_], _, _, _, _, _, _ => trivial
  | r :: s :: l, _, _, _, _, z, k => ⟨Or.inr ⟨k.2.2.1, k.2.2.2.1, by rw [z.2.1.2.2.2.2.2.2.1, z.1.2.2.2.2.2.2.1]⟩, zcc_seg z.2 k.2.2⟩
theorem zcc_ext {S S2 : Nat → Nat → Int32} {G G2 : Nat → Nat → Int} : ∀ {X : List Nat}, (∀ q ∈ X, S2 0 q = S 0 q ∧ ∀ k, k < 5 → G2 q k = G q k) → zcc S G X → zcc S2 G2 X
  | [], _, _ => trivial
  | [_], _, _ => trivial
  | r :: s :: l, he, z => by
    have hr := he r List.mem_cons_self
    have hs := he s (List.mem_cons_of_mem _ List.mem_cons_self)
    refine ⟨?_, zcc_ext (fun q hq => he q (List.mem_cons_of_mem _ hq)) z.2⟩
    rw [hr.1, hr.2 1 (by decide), hr.2 3 (by decide), hr.2 4 (by decide), hs.2 0 (by decide), hs.2 2 (by decide), hs.2 4 (by decide)]
    exact z.1
theorem zcc_app {S : Nat → Nat → Int32} {G : Nat → Nat → Int} {s : Nat} {l : List Nat} (hy : zcc S G (s :: l)) : ∀ {X : List Nat} (d : Nat), zcc S G X → (X = [] ∨ Int32.toNatClampNeg (S 0 (zla d X)) = 17 ∧ 1000 ≤ G (zla d X) 3 ∨ G s 0 = G (zla d X) 1 ∧ G s 2 ≤ G (zla d X) 3 ∧ G s 4 = G (zla d X) 4) → zcc S G (X ++ s :: l)
  | [], _, _, _ => hy
  | [r], d, _, h => ⟨h.resolve_left (List.cons_ne_nil _ _), hy⟩
  | r :: t :: k, d, z, h => ⟨z.1, zcc_app hy r z.2 (Or.inr (h.resolve_left (List.cons_ne_nil _ _)))⟩
/-- the program between two definitions: fz functions so far, en their entries -/
def zPr (S : Nat → Nat → Int32) (G : Nat → Nat → Int) (en : Nat → Int32) (fz : Nat) (L : List Nat) : Prop :=
  ((L = [] ∧ (S 11 0).toInt = 0 ∧ (S 12 0).toInt = -1) ∨ (L ≠ [] ∧ zS0 S ∧ zli (S 3) 0 L ∧ zla 0 L = Int32.toNatClampNeg (S 12 0) ∧ Int32.toNatClampNeg (S 0 (zla 0 L)) = 17 ∧ 1000 ≤ G (zla 0 L) 3)) ∧
  ((L.length : Nat) : Int) = (S 11 0).toInt ∧ L.Nodup ∧ (∀ r ∈ L, (r : Int) < (S 11 0).toInt ∧ ∃ f : Nat, f < fz ∧ G r 4 = (f : Int)) ∧ zall S G L ∧ zcc S G L ∧
  (∀ f : Nat, f < fz → 0 ≤ (en f).toInt ∧ Int32.toNatClampNeg (en f) ∈ L ∧ Int32.toNatClampNeg (S 0 (Int32.toNatClampNeg (en f))) = 0 ∧ G (Int32.toNatClampNeg (en f)) 4 = (f : Int)) ∧
  (∀ f : Nat, f < fz → 0 ≤ (S 10 (5 * f)).toInt ∧ (S 10 (5 * f)).toInt ≤ 6 ∧ (S 10 (5 * f)).toInt ≤ (S 10 (5 * f + 1)).toInt ∧ (S 10 (5 * f + 1)).toInt ≤ 24)
