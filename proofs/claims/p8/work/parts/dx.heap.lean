/-! the reference's cells: counted ones, or plain ones -/
def zHw (fd gk : Nat → Int32) : Nat → Nat := fun d => (fd (Int32.toNatClampNeg (gk d))).toInt.toNat
/-- a value that may be had -/
def zHv (kz : Int32) (fd : Nat → Int32) (v : Int64) : Prop := zhs v = 0 ∨ (zhs v = 1 ∧ 0 ≤ v.toInt32.toInt ∧ v.toInt32.toInt < kz.toInt ∧ (fd (Int32.toNatClampNeg v.toInt32)).toInt = 0) ∨ (zhs v = 2 ∧ 0 ≤ v.toInt32.toInt)
def zHk (kz : Int32) (fd gk : Nat → Int32) (gv : Nat → Int64) (lv : Nat → Bool) : Prop := ∀ d, lv d = true → 0 ≤ (gk d).toInt ∧ (gk d).toInt < kz.toInt ∧ 1 ≤ (fd (Int32.toNatClampNeg (gk d))).toInt ∧ (fd (Int32.toNatClampNeg (gk d))).toInt ≤ 3 ∧ ∀ k, k < zHw fd gk d → zHv kz fd (gv (3 * d + k))
/-- the free cells and the shells: none lives, no two alike -/
def zHD (lv : Nat → Bool) (fr sh : Nat → Int32) (fc sc : Int) : Prop :=
  (∀ i : Nat, (i : Int) < fc → 0 ≤ (fr i).toInt ∧ (fr i).toInt < 400 ∧ lv (Int32.toNatClampNeg (fr i)) = false) ∧ (∀ i j : Nat, i < j → (j : Int) < fc → (fr i).toInt ≠ (fr j).toInt) ∧
  (∀ i : Nat, (i : Int) < sc → 0 ≤ (sh i).toInt ∧ (sh i).toInt < 400 ∧ lv (Int32.toNatClampNeg (sh i)) = false) ∧ (∀ i j : Nat, i < j → (j : Int) < sc → (sh i).toInt ≠ (sh j).toInt) ∧ (∀ i j : Nat, (i : Int) < fc → (j : Int) < sc → (fr i).toInt ≠ (sh j).toInt)
/-- cell x is none of them -/
def zHn (fr sh : Nat → Int32) (fc sc : Int) (x : Nat) : Prop := (∀ i : Nat, (i : Int) < fc → (fr i).toInt ≠ (x : Int)) ∧ ∀ i : Nat, (i : Int) < sc → (sh i).toInt ≠ (x : Int)
def zH (pl kz : Int32) (fd gk gc : Nat → Int32) (gv : Nat → Int64) (lv : Nat → Bool) (R : Nat → Int) (db : Int) (fr sh : Nat → Int32) (fc sc np : Int) : Prop :=
  zHk kz fd gk gv lv ∧ (∀ c, 0 ≤ R c) ∧ (∀ c, lv c = false → R c = 0) ∧ 0 ≤ fc ∧ 0 ≤ sc ∧ 0 ≤ db ∧
  ((pl.toInt = 0 ∧ zI zr 400 lv (zHw fd gk) gv (fun c => (gc c).toInt) R db ∧ zHD lv fr sh fc sc) ∨
   (pl.toInt ≠ 0 ∧ 0 ≤ np ∧ np ≤ 4000 ∧ (∀ c : Nat, lv c = true ↔ (c : Int) < np) ∧ ∀ d, lv d = true → ∀ k, k < zHw fd gk d → zhs (gv (3 * d + k)) = 2 → lv (Int32.toNatClampNeg (gv (3 * d + k)).toInt32) = true))
theorem zcf_w {wd wd2 : Nat → Nat} {gv : Nat → Int64} {d c : Nat} (h : wd d = wd2 d) : zcf zr wd gv d c = zcf zr wd2 gv d c := by unfold zcf; rw [h]
theorem zinj {m n : Nat} {f : Nat → Nat} (h1 : ∀ i, i < n → f i < m) (h2 : ∀ i j, i < j → j < n → f i ≠ f j) : n ≤ m := by
  have := zlen m (L := (List.range n).map f) (by
    show List.Pairwise _ _
    rw [List.pairwise_map]
    exact List.Pairwise.imp_of_mem (fun {a b} ha hb hlt => h2 a b hlt (List.mem_range.mp hb)) List.pairwise_lt_range) (fun x hx => by
    obtain ⟨i, hi, rfl⟩ := List.mem_map.mp hx
    exact h1 i (List.mem_range.mp hi))
  rw [List.length_map, List.length_range] at this
  exact this
theorem zHD_room {lv : Nat → Bool} {fr sh : Nat → Int32} {fc sc : Int} (h : zHD lv fr sh fc sc) (h0 : 0 ≤ fc) (h1 : 0 ≤ sc) : fc + sc ≤ 400 := by
  have := zinj (m := 400) (n := (fc + sc).toNat) (f := fun i => if (i : Int) < fc then (fr i).toInt.toNat else (sh (i - fc.toNat)).toInt.toNat) (fun i hi => by
    show (if (i : Int) < fc then _ else _) < 400
    split
    · have := h.1 i (by omega); omega
    · have := h.2.2.1 (i - fc.toNat) (by omega); omega) (fun i j hij hj => by
    show (if (i : Int) < fc then (fr i).toInt.toNat else (sh (i - fc.toNat)).toInt.toNat) ≠ (if (j : Int) < fc then (fr j).toInt.toNat else (sh (j - fc.toNat)).toInt.toNat)
    by_cases a : (j : Int) < fc
    · have a' : (i : Int) < fc := by omega
      rw [if_pos a, if_pos a']
      have := h.2.1 i j hij a; have := h.1 i a'; have := h.1 j a; omega
    · rw [if_neg a]
      have b := h.2.2.1 (j - fc.toNat) (by omega)
      by_cases a' : (i : Int) < fc
      · rw [if_pos a']
        have := h.2.2.2.2 i (j - fc.toNat) a' (by omega); have := h.1 i a'; omega
      · rw [if_neg a']
        have := h.2.2.2.1 (i - fc.toNat) (j - fc.toNat) (by omega) (by omega); have := h.2.2.1 (i - fc.toNat) (by omega); omega)
  omega
theorem zHD_free {lv : Nat → Bool} {fr sh fr2 : Nat → Int32} {fc sc : Int} {x : Nat} {y : Int32} (h : zHD lv fr sh fc sc) (h0 : 0 ≤ fc) (hx : lv x = false) (hx4 : x < 400) (hn : zHn fr sh fc sc x) (ey : y.toInt = (x : Int)) (e : fr2 = upd fr fc.toNat y) : zHD lv fr2 sh (fc + 1) sc := by
  have es : fr2 fc.toNat = y := by rw [e, zu_s]
  have en : ∀ i, i ≠ fc.toNat → fr2 i = fr i := fun i hi => by rw [e, zu_n hi]
  refine ⟨fun i hi => ?_, fun i j hij hj => ?_, h.2.2.1, h.2.2.2.1, fun i j hi hj => ?_⟩
  · by_cases g : i = fc.toNat
    · rw [g, es]
      have := zn_nat (x := y) (by omega)
      refine ⟨by omega, by omega, ?_⟩
      rw [show Int32.toNatClampNeg y = x by omega]; exact hx
    · rw [en i g]; exact h.1 i (by omega)
  · have g1 : i ≠ fc.toNat := by omega
    rw [en i g1]
    by_cases g : j = fc.toNat
    · rw [g, es, ey]; exact hn.1 i (by omega)
    · rw [en j g]; exact h.2.1 i j hij (by omega)
  · by_cases g : i = fc.toNat
    · rw [g, es, ey]; exact fun u => hn.2 j hj u.symm
    · rw [en i g]; exact h.2.2.2.2 i j (by omega) hj
theorem zHD_shell {lv : Nat → Bool} {fr sh sh2 : Nat → Int32} {fc sc : Int} {x : Nat} {y : Int32} (h : zHD lv fr sh fc sc) (h0 : 0 ≤ sc) (hx : lv x = false) (hx4 : x < 400) (hn : zHn fr sh fc sc x) (ey : y.toInt = (x : Int)) (e : sh2 = upd sh sc.toNat y) : zHD lv fr sh2 fc (sc + 1) := by
  have es : sh2 sc.toNat = y := by rw [e, zu_s]
  have en : ∀ i, i ≠ sc.toNat → sh2 i = sh i := fun i hi => by rw [e, zu_n hi]
  refine ⟨h.1, h.2.1, fun i hi => ?_, fun i j hij hj => ?_, fun i j hi hj => ?_⟩
  · by_cases g : i = sc.toNat
    · rw [g, es]
      have := zn_nat (x := y) (by omega)
      refine ⟨by omega, by omega, ?_⟩
      rw [show Int32.toNatClampNeg y = x by omega]; exact hx
    · rw [en i g]; exact h.2.2.1 i (by omega)
  · have g1 : i ≠ sc.toNat := by omega
    rw [en i g1]
    by_cases g : j = sc.toNat
    · rw [g, es, ey]; exact hn.2 i (by omega)
    · rw [en j g]; exact h.2.2.2.1 i j hij (by omega)
  · by_cases g : j = sc.toNat
    · rw [g, es, ey]; exact hn.1 i hi
    · rw [en j g]; exact h.2.2.2.2 i j hi (by omega)
/-- one shell is taken out, those behind it move up -/
theorem zHD_out {lv : Nat → Bool} {fr sh sh2 : Nat → Int32} {fc sc : Int} {k : Nat} (h : zHD lv fr sh fc sc) (hk : (k : Int) < sc) (e1 : ∀ i, i < k → sh2 i = sh i) (e2 : ∀ i : Nat, k ≤ i → (i : Int) < sc - 1 → sh2 i = sh (i + 1)) : zHD lv fr sh2 fc (sc - 1) ∧ zHn fr sh2 fc (sc - 1) (Int32.toNatClampNeg (sh k)) ∧ 0 ≤ (sh k).toInt ∧ (sh k).toInt < 400 ∧ lv (Int32.toNatClampNeg (sh k)) = false := by
  have hs := h.2.2.1 k hk
  have hn := zn_nat hs.1
  have eq : ∀ i : Nat, (i : Int) < sc - 1 → ∃ i2 : Nat, (i2 : Int) < sc ∧ sh2 i = sh i2 ∧ i2 ≠ k ∧ (i < k → i2 = i) ∧ (k ≤ i → i2 = i + 1) := fun i hi => by
    rcases Nat.lt_or_ge i k with g | g
    · exact ⟨i, by omega, e1 i g, by omega, fun _ => rfl, fun u => absurd u (by omega)⟩
    · exact ⟨i + 1, by omega, e2 i g hi, by omega, fun u => absurd u (by omega), fun _ => rfl⟩
  refine ⟨⟨h.1, h.2.1, fun i hi => ?_, fun i j hij hj => ?_, fun i j hi hj => ?_⟩, ⟨fun i hi => ?_, fun i hi => ?_⟩, hs.1, hs.2.1, hs.2.2⟩
  · obtain ⟨i2, a, b, -⟩ := eq i hi
    rw [b]; exact h.2.2.1 i2 a
  · obtain ⟨i2, a, b, -, a1, a2⟩ := eq i (by omega)
    obtain ⟨j2, c, d, -, c1, c2⟩ := eq j hj
    rw [b, d]
    refine h.2.2.2.1 i2 j2 ?_ c
    rcases Nat.lt_or_ge i k with g | g
    · rw [a1 g]
      rcases Nat.lt_or_ge j k with g2 | g2
      · rw [c1 g2]; exact hij
      · rw [c2 g2]; omega
    · rw [a2 g, c2 (by omega)]; omega
  · obtain ⟨j2, c, d, -⟩ := eq j hj
    rw [d]; exact h.2.2.2.2 i j2 hi c
  · have := h.2.2.2.2 i k hi hk; omega
  · obtain ⟨i2, a, b, c, -⟩ := eq i hi
    rw [b]
    rcases Nat.lt_or_ge i2 k with g | g
    · have := h.2.2.2.1 i2 k g hk; omega
    · have := h.2.2.2.1 k i2 (by omega) a; omega
/-- the last free cell is taken -/
theorem zHD_take {lv : Nat → Bool} {fr sh : Nat → Int32} {fc sc : Int} {k : Nat} (h : zHD lv fr sh fc sc) (hk : (k : Int) = fc - 1) : zHD lv fr sh (fc - 1) sc ∧ zHn fr sh (fc - 1) sc (Int32.toNatClampNeg (fr k)) ∧ 0 ≤ (fr k).toInt ∧ (fr k).toInt < 400 ∧ lv (Int32.toNatClampNeg (fr k)) = false := by
  have hs := h.1 k (by omega)
  have hn := zn_nat hs.1
  refine ⟨⟨fun i hi => h.1 i (by omega), fun i j hij hj => h.2.1 i j hij (by omega), h.2.2.1, h.2.2.2.1, fun i j hi hj => h.2.2.2.2 i j (by omega) hj⟩, ⟨fun i hi => ?_, fun i hi => ?_⟩, hs.1, hs.2.1, hs.2.2⟩
  · have := h.2.1 i k (by omega) (by omega); omega
  · have := h.2.2.2.2 k i (by omega) hi; omega
theorem zHD_lv {lv lv2 : Nat → Bool} {fr sh : Nat → Int32} {fc sc : Int} (h : zHD lv fr sh fc sc) (h1 : ∀ x, lv x = false → zHn fr sh fc sc x ∨ lv2 x = false) : zHD lv2 fr sh fc sc := by
  refine ⟨fun i hi => ?_, h.2.1, fun i hi => ?_, h.2.2.2.1, h.2.2.2.2⟩
  · have g := h.1 i hi
    have hn := zn_nat g.1
    refine ⟨g.1, g.2.1, ?_⟩
    rcases h1 _ g.2.2 with u | u
    · exact (u.1 i hi (by omega)).elim
    · exact u
  · have g := h.2.2.1 i hi
    have hn := zn_nat g.1
    refine ⟨g.1, g.2.1, ?_⟩
    rcases h1 _ g.2.2 with u | u
    · exact (u.2 i hi (by omega)).elim
    · exact u
theorem zHD_n {lv : Nat → Bool} {fr sh : Nat → Int32} {fc sc : Int} {x : Nat} (h : zHD lv fr sh fc sc) (hx : lv x = true) : zHn fr sh fc sc x := by
  refine ⟨fun i hi u => ?_, fun i hi u => ?_⟩
  · have g := h.1 i hi
    have hn := zn_nat g.1
    rw [show Int32.toNatClampNeg (fr i) = x by omega, hx] at g; exact Bool.noConfusion g.2.2
  · have g := h.2.2.1 i hi
    have hn := zn_nat g.1
    rw [show Int32.toNatClampNeg (sh i) = x by omega, hx] at g; exact Bool.noConfusion g.2.2
theorem zHD_full {lv : Nat → Bool} {fr sh : Nat → Int32} {fc sc : Int} {x : Nat} (h : zHD lv fr sh fc sc) (h0 : 0 ≤ fc) (h1 : 0 ≤ sc) (hn : zHn fr sh fc sc x) (hx4 : x < 400) (hx : lv x = false) : fc + sc < 400 := by
  have hv : (Int32.ofNat x).toInt = (x : Int) := by
    rw [show Int32.ofNat x = Int32.ofInt (x : Int) from rfl, Int32.toInt_ofInt_of_le (by omega) (by omega)]
  have := zHD_room (zHD_free h h0 hx hx4 hn hv rfl) (by omega) h1
  omega
/-- a field of a cell that lives leads to one that lives -/
theorem zH_fl {pl kz : Int32} {fd gk gc : Nat → Int32} {gv : Nat → Int64} {lv : Nat → Bool} {R : Nat → Int} {db : Int} {fr sh : Nat → Int32} {fc sc np : Int} (h : zH pl kz fd gk gc gv lv R db fr sh fc sc np) {x k : Nat} (hx : lv x = true) (hk : k < zHw fd gk x) (h2 : zhs (gv (3 * x + k)) = 2) : lv (Int32.toNatClampNeg (gv (3 * x + k)).toInt32) = true := by
  obtain ⟨hK, -, -, -, -, -, g⟩ := h
  rcases g with ⟨-, hI, -⟩ | ⟨-, -, -, -, g⟩
  · have hge : 0 ≤ (gv (3 * x + k)).toInt32.toInt := by
      rcases (hK x hx).2.2.2.2 k hk with u | u | u
      · rw [h2] at u; exact absurd u (by decide)
      · rw [h2] at u; exact absurd u.1 (by decide)
      · exact u.2
    cases e : lv (Int32.toNatClampNeg (gv (3 * x + k)).toInt32) with
    | true => rfl
    | false =>
      exfalso
      have t := (hI.2.1 _ e).2
      have u := zct_ge zr_0 (wd := zHw fd gk) (gv := gv) (c := Int32.toNatClampNeg (gv (3 * x + k)).toInt32) (hI.1 x hx).1 hx
      have v := zs_ge (f := fun k' => zr (gv (3 * x + k')) (Int32.toNatClampNeg (gv (3 * x + k)).toInt32)) (n := zHw fd gk x) (x := k) (fun _ _ => zr_0 _ _) hk
      have v : zr (gv (3 * x + k)) (Int32.toNatClampNeg (gv (3 * x + k)).toInt32) ≤ zcf zr (zHw fd gk) gv x (Int32.toNatClampNeg (gv (3 * x + k)).toInt32) := v
      rw [zr_c h2 hge, if_pos rfl] at v
      omega
  · exact g x hx k hk h2
/-- a value that is held: its cell lives -/
theorem zH_lv {pl kz : Int32} {fd gk gc : Nat → Int32} {gv : Nat → Int64} {lv : Nat → Bool} {R : Nat → Int} {db : Int} {fr sh : Nat → Int32} {fc sc np : Int} (h : zH pl kz fd gk gc gv lv R db fr sh fc sc np) {x : Nat} (hx : 1 ≤ R x) : lv x = true := by
  cases e : lv x with
  | true => rfl
  | false => have := h.2.2.1 x e; omega
/-- where a cell that lives lies, and what stands there -/
theorem zH_at {pl kz : Int32} {fd gk gc : Nat → Int32} {gv : Nat → Int64} {lv : Nat → Bool} {R : Nat → Int} {db : Int} {fr sh : Nat → Int32} {fc sc np : Int} (h : zH pl kz fd gk gc gv lv R db fr sh fc sc np) {x : Nat} (hx : lv x = true) : (x < 4000 ∧ 0 ≤ (gk x).toInt ∧ (gk x).toInt < kz.toInt ∧ 1 ≤ (fd (Int32.toNatClampNeg (gk x))).toInt ∧ (fd (Int32.toNatClampNeg (gk x))).toInt ≤ 3) ∧ (pl.toInt = 0 → x < 400 ∧ 1 ≤ (gc x).toInt ∧ (gc x).toInt ≤ db + 1) := by
  obtain ⟨hK, -, -, -, -, -, g⟩ := h
  have k := hK x hx
  rcases g with ⟨-, hI, -⟩ | ⟨g0, g1, g2, g3, -⟩
  · have := hI.1 x hx
    exact ⟨⟨by omega, k.1, k.2.1, k.2.2.1, k.2.2.2.1⟩, fun _ => ⟨this.1, this.2.1, this.2.2.1⟩⟩
  · have := (g3 x).mp hx
    exact ⟨⟨by omega, k.1, k.2.1, k.2.2.1, k.2.2.2.1⟩, fun u => absurd u g0⟩
theorem zH_leak {pl kz : Int32} {fd gk gc : Nat → Int32} {gv : Nat → Int64} {lv : Nat → Bool} {R R2 : Nat → Int} {db : Int} {fr sh : Nat → Int32} {fc sc np : Int} (h : zH pl kz fd gk gc gv lv R db fr sh fc sc np) (h1 : ∀ c, R2 c ≤ R c) (h2 : ∀ c, 0 ≤ R2 c) : zH pl kz fd gk gc gv lv R2 db fr sh fc sc np := by
  obtain ⟨hK, hR, hl, a, b, d, g⟩ := h
  refine ⟨hK, h2, fun c hc => ?_, a, b, d, ?_⟩
  · have := hl c hc; have := h1 c; have := h2 c; omega
  · rcases g with ⟨p, hI, q⟩ | g
    · exact Or.inl ⟨p, zI_leak hI h1 h2, q⟩
    · exact Or.inr g
theorem zH_db {pl kz : Int32} {fd gk gc : Nat → Int32} {gv : Nat → Int64} {lv : Nat → Bool} {R : Nat → Int} {db db2 : Int} {fr sh : Nat → Int32} {fc sc np : Int} (h : zH pl kz fd gk gc gv lv R db fr sh fc sc np) (hd : db ≤ db2) : zH pl kz fd gk gc gv lv R db2 fr sh fc sc np := by
  obtain ⟨hK, hR, hl, a, b, d, g⟩ := h
  refine ⟨hK, hR, hl, a, b, by omega, ?_⟩
  rcases g with ⟨p, hI, q⟩ | g
  · exact Or.inl ⟨p, ⟨fun c hc => by have := hI.1 c hc; exact ⟨this.1, this.2.1, by omega, this.2.2.2⟩, hI.2⟩, q⟩
  · exact Or.inr g
/-- a value is doubled: it is no cell, or the cells are plain -/
theorem zH_cp0 {pl kz : Int32} {fd gk gc : Nat → Int32} {gv : Nat → Int64} {lv : Nat → Bool} {R : Nat → Int} {db : Int} {fr sh : Nat → Int32} {fc sc np : Int} {v : Int64} (h : zH pl kz fd gk gc gv lv R db fr sh fc sc np) (hv : zhs v ≠ 2 ∨ pl.toInt ≠ 0) (hl : zhs v = 2 → 0 ≤ v.toInt32.toInt ∧ lv (Int32.toNatClampNeg v.toInt32) = true) : zH pl kz fd gk gc gv lv (fun c => R c + zr v c) db fr sh fc sc np := by
  obtain ⟨hK, hR, hF, a, b, d, g⟩ := h
  refine ⟨hK, fun c => ?_, fun c hc => ?_, a, b, d, ?_⟩
  · have := hR c; have := zr_0 v c; show 0 ≤ R c + zr v c; omega
  · have u := hF c hc
    show R c + zr v c = 0
    by_cases e : zhs v = 2
    · rw [zr_c e (hl e).1]
      have : c ≠ Int32.toNatClampNeg v.toInt32 := fun w => by rw [w, (hl e).2] at hc; exact Bool.noConfusion hc
      rw [if_neg this]; omega
    · rw [zr_n e]; omega
  · rcases g with ⟨p, hI, q⟩ | g
    · have e : zhs v ≠ 2 := hv.resolve_right (fun u => u p)
      have e2 : (fun c => R c + zr v c : Nat → Int) = R := by funext c; rw [zr_n e]; omega
      rw [e2]; exact Or.inl ⟨p, hI, q⟩
    · exact Or.inr g
/-- a counted cell's value is doubled -/
theorem zH_cp1 {pl kz : Int32} {fd gk gc gc2 : Nat → Int32} {gv : Nat → Int64} {lv : Nat → Bool} {R : Nat → Int} {db : Int} {fr sh : Nat → Int32} {fc sc np : Int} {v : Int64} {w : Int32} (h : zH pl kz fd gk gc gv lv R db fr sh fc sc np) (hp : pl.toInt = 0) (hv : zhs v = 2) (h0 : 0 ≤ v.toInt32.toInt) (hl : lv (Int32.toNatClampNeg v.toInt32) = true) (e : gc2 = upd gc (Int32.toNatClampNeg v.toInt32) w) (ew : w.toInt = (gc (Int32.toNatClampNeg v.toInt32)).toInt + 1) : zH pl kz fd gk gc2 gv lv (fun c => R c + zr v c) (db + 1) fr sh fc sc np := by
  obtain ⟨hK, hR, hF, a, b, d, g⟩ := h
  have e2 : (fun c => R c + zr v c : Nat → Int) = fun c => R c + if c = Int32.toNatClampNeg v.toInt32 then 1 else 0 := by funext c; rw [zr_c hv h0]
  rw [e2]
  rcases g with ⟨p, hI, q⟩ | g
  · have hc := zI_copy (gc2 := fun c => (gc2 c).toInt) (x := Int32.toNatClampNeg v.toInt32) hI hl (by show (gc2 _).toInt = (gc _).toInt + 1; rw [e, zu_s]; exact ew) (fun c hc => by show (gc2 c).toInt = (gc c).toInt; rw [e, zu_n hc]) hR
    exact ⟨hK, hc.2.2, fun c u => (hc.2.1 c u).1, a, b, by omega, Or.inl ⟨p, hc, q⟩⟩
  · exact absurd hp g.1
/-- a reference is let go, and others stay -/
theorem zH_dec {pl kz : Int32} {fd gk gc gc2 : Nat → Int32} {gv : Nat → Int64} {lv : Nat → Bool} {R R2 : Nat → Int} {db : Int} {fr sh : Nat → Int32} {fc sc np : Int} {x : Nat} {w : Int32} (h : zH pl kz fd gk gc gv lv R db fr sh fc sc np) (hp : pl.toInt = 0) (hR : ∀ c, R c = R2 c + if c = x then 1 else 0) (h2 : ∀ c, 0 ≤ R2 c) (e : gc2 = upd gc x w) (ew : w.toInt = (gc x).toInt - 1) (h1 : 1 ≤ w.toInt) : zH pl kz fd gk gc2 gv lv R2 db fr sh fc sc np := by
  obtain ⟨hK, -, hF, a, b, d, g⟩ := h
  rcases g with ⟨p, hI, q⟩ | g
  · have hc := zI_dec (gc2 := fun c => (gc2 c).toInt) (x := x) hI hR h2 (by show (gc2 _).toInt = (gc _).toInt - 1; rw [e, zu_s]; exact ew) (fun c hc => by show (gc2 c).toInt = (gc c).toInt; rw [e, zu_n hc]) (by show 1 ≤ (gc2 x).toInt; rw [e, zu_s]; exact h1)
    exact ⟨hK, h2, fun c u => (hc.2.1 c u).1, a, b, d, Or.inl ⟨p, hc, q⟩⟩
  · exact absurd hp g.1
/-- the last reference is let go: the cell dies, its own references are held -/
theorem zH_die {pl kz : Int32} {fd gk gc gc2 : Nat → Int32} {gv : Nat → Int64} {lv : Nat → Bool} {R R2 : Nat → Int} {db : Int} {fr sh : Nat → Int32} {fc sc np : Int} {x : Nat} (h : zH pl kz fd gk gc gv lv R db fr sh fc sc np) (hp : pl.toInt = 0) (hR : ∀ c, R c = R2 c + if c = x then 1 else 0) (h2 : ∀ c, 0 ≤ R2 c) (h1 : (gc x).toInt ≤ 1) (e : ∀ c, c ≠ x → gc2 c = gc c) : zH pl kz fd gk gc2 gv (fun c => if c = x then false else lv c) (fun c => R2 c + zcf zr (zHw fd gk) gv x c) db fr sh fc sc np ∧ zHn fr sh fc sc x ∧ x < 400 ∧ lv x = true := by
  have hx : lv x = true := zH_lv h (x := x) (by have := hR x; rw [if_pos rfl] at this; have := h2 x; omega)
  have hat := zH_at h hx
  obtain ⟨hK, -, hF, a, b, d, g⟩ := h
  rcases g with ⟨p, hI, q⟩ | g
  · have hc := zI_die zr_0 (lv2 := fun c => if c = x then false else lv c) (gc2 := fun c => (gc2 c).toInt) (x := x) hI hR h2 hx h1 (if_pos rfl) (fun c hc => ⟨if_neg hc, by show (gc2 c).toInt = (gc c).toInt; rw [e c hc]⟩)
    refine ⟨⟨fun c u => hK c ?_, hc.2.2, fun c u => (hc.2.1 c u).1, a, b, d, Or.inl ⟨p, hc, zHD_lv q (fun c u => Or.inr ?_)⟩⟩, zHD_n q hx, (hat.2 hp).1, hx⟩
    · have u : (if c = x then false else lv c) = true := u
      by_cases v : c = x
      · rw [if_pos v] at u; exact Bool.noConfusion u
      · rw [if_neg v] at u; exact u
    · show (if c = x then false else lv c) = false
      split
      · rfl
      · exact u
  · exact absurd hp g.1
theorem zH_gc {pl kz : Int32} {fd gk gc gc2 : Nat → Int32} {gv : Nat → Int64} {lv : Nat → Bool} {R : Nat → Int} {db : Int} {fr sh : Nat → Int32} {fc sc np : Int} (h : zH pl kz fd gk gc gv lv R db fr sh fc sc np) (e : ∀ c, lv c = true → gc2 c = gc c) : zH pl kz fd gk gc2 gv lv R db fr sh fc sc np := by
  obtain ⟨hK, hR, hF, a, b, d, g⟩ := h
  refine ⟨hK, hR, hF, a, b, d, ?_⟩
  rcases g with ⟨p, hI, q⟩ | g
  · exact Or.inl ⟨p, ⟨fun c hc => by show _ ∧ 1 ≤ (gc2 c).toInt ∧ (gc2 c).toInt ≤ _ ∧ _ ≤ (gc2 c).toInt; rw [e c hc]; exact hI.1 c hc, hI.2⟩, q⟩
  · exact Or.inr g
theorem zH_D {pl kz : Int32} {fd gk gc : Nat → Int32} {gv : Nat → Int64} {lv : Nat → Bool} {R : Nat → Int} {db : Int} {fr sh : Nat → Int32} {fc sc np : Int} (h : zH pl kz fd gk gc gv lv R db fr sh fc sc np) (hp : pl.toInt = 0) : zHD lv fr sh fc sc := by
  rcases h.2.2.2.2.2.2 with ⟨_, _, q⟩ | g
  · exact q
  · exact absurd hp g.1
theorem zH_Ds {pl kz : Int32} {fd gk gc : Nat → Int32} {gv : Nat → Int64} {lv : Nat → Bool} {R : Nat → Int} {db : Int} {fr sh fr2 sh2 : Nat → Int32} {fc sc fc2 sc2 np : Int} (h : zH pl kz fd gk gc gv lv R db fr sh fc sc np) (hD : pl.toInt = 0 → zHD lv fr2 sh2 fc2 sc2) (h0 : 0 ≤ fc2) (h1 : 0 ≤ sc2) : zH pl kz fd gk gc gv lv R db fr2 sh2 fc2 sc2 np := by
  obtain ⟨hK, hR, hF, a, b, d, g⟩ := h
  refine ⟨hK, hR, hF, h0, h1, d, ?_⟩
  rcases g with ⟨p, hI, q⟩ | g
  · exact Or.inl ⟨p, hI, hD p⟩
  · exact Or.inr g
/-- a counted cell that is none of them is filled -/
theorem zH_fill {pl kz : Int32} {fd gk gk2 gc gc2 : Nat → Int32} {gv gv2 : Nat → Int64} {lv : Nat → Bool} {R R2 : Nat → Int} {db : Int} {fr sh : Nat → Int32} {fc sc np : Int} {x : Nat} (h : zH pl kz fd gk gc gv lv R db fr sh fc sc np) (hp : pl.toInt = 0) (hx : lv x = false) (hx4 : x < 400) (hn : zHn fr sh fc sc x)
    (ek : ∀ c, c ≠ x → gk2 c = gk c) (ec : ∀ c, c ≠ x → gc2 c = gc c) (e1 : (gc2 x).toInt = 1) (ev : ∀ c, c ≠ x → ∀ k, k < 3 → gv2 (3 * c + k) = gv (3 * c + k)) (k0 : 0 ≤ (gk2 x).toInt) (k1 : (gk2 x).toInt < kz.toInt) (f0 : 1 ≤ (fd (Int32.toNatClampNeg (gk2 x))).toInt) (f1 : (fd (Int32.toNatClampNeg (gk2 x))).toInt ≤ 3)
    (hv : ∀ k, k < zHw fd gk2 x → zHv kz fd (gv2 (3 * x + k))) (hR : ∀ c, R c = R2 c + zcf zr (zHw fd gk2) gv2 x c) (h2 : ∀ c, 0 ≤ R2 c) : zH pl kz fd gk2 gc2 gv2 (fun c => if c = x then true else lv c) (fun c => R2 c + if c = x then 1 else 0) db fr sh fc sc np := by
  obtain ⟨hK, hR0, hF, a, b, d, g⟩ := h
  rcases g with ⟨p, hI, q⟩ | g
  · have ew : ∀ c, c ≠ x → zHw fd gk2 c = zHw fd gk c := fun c hc => by unfold zHw; rw [ek c hc]
    have hlt : ∀ c, c ≠ x → (if c = x then true else lv c) = lv c := fun c hc => if_neg hc
    have w3 : ∀ c, lv c = true → zHw fd gk c ≤ 3 := fun c hc => by
      have := (hK c hc).2.2.2.1
      unfold zHw; omega
    -- cells that don't live: their fields don't matter
    have hI2 : zI zr 400 lv (fun c => if lv c = true then zHw fd gk c else 0) gv (fun c => (gc c).toInt) R db := by
      have e : ∀ c, zct zr 400 lv (fun c => if lv c = true then zHw fd gk c else 0) gv c = zct zr 400 lv (zHw fd gk) gv c := fun c => zs_ext (fun d _ => by
        by_cases u : lv d = true
        · rw [if_pos u, if_pos u]; exact zcf_w (if_pos u)
        · rw [if_neg u, if_neg u])
      exact ⟨fun c hc => by rw [e c]; exact hI.1 c hc, fun c hc => by rw [e c]; exact hI.2.1 c hc, hI.2.2⟩
    have hc := zI_fill zr_0 (lv2 := fun c => if c = x then true else lv c) (wd2 := fun c => if c = x then zHw fd gk2 x else if lv c = true then zHw fd gk c else 0) (gv2 := gv2) (gc2 := fun c => (gc2 c).toInt) (x := x) (R2 := R2) hI2 d hx hx4 (if_pos rfl) e1 (fun c hc => ⟨if_neg hc, by show (gc2 c).toInt = (gc c).toInt; rw [ec c hc], if_neg hc, fun k hk => by
        by_cases u : lv c = true
        · have hk : k < (if lv c = true then zHw fd gk c else 0) := hk
          rw [if_pos u] at hk
          exact ev c hc k (by have := w3 c u; omega)
        · have hk : k < (if lv c = true then zHw fd gk c else 0) := hk
          rw [if_neg u] at hk; omega⟩) (fun c => by
        rw [hR c]; exact congrArg (R2 c + ·) (zcf_w (if_pos rfl).symm)) h2
    have e3 : ∀ c, zct zr 400 (fun c => if c = x then true else lv c) (fun c => if c = x then zHw fd gk2 x else if lv c = true then zHw fd gk c else 0) gv2 c = zct zr 400 (fun c => if c = x then true else lv c) (zHw fd gk2) gv2 c := fun c => zs_ext (fun d _ => by
      by_cases u : d = x
      · show (if (if d = x then true else lv d) = true then _ else _) = (if (if d = x then true else lv d) = true then _ else _)
        rw [if_pos u, if_pos rfl, if_pos rfl]; exact zcf_w ((if_pos u).trans (by rw [u]))
      · show (if (if d = x then true else lv d) = true then _ else _) = (if (if d = x then true else lv d) = true then _ else _)
        rw [if_neg u]
        by_cases w : lv d = true
        · rw [if_pos w, if_pos w]; exact zcf_w (((if_neg u).trans (if_pos w)).trans (ew d u).symm)
        · rw [if_neg w, if_neg w])
    refine ⟨fun c u => ?_, hc.2.2, fun c u => (hc.2.1 c u).1, a, b, d, Or.inl ⟨p, ⟨fun c u => by rw [← e3 c]; exact hc.1 c u, fun c u => by rw [← e3 c]; exact hc.2.1 c u, hc.2.2⟩, zHD_lv q (fun c u => ?_)⟩⟩
    · by_cases v : c = x
      · rw [v]; exact ⟨k0, k1, f0, f1, hv⟩
      · have u : (if c = x then true else lv c) = true := u
        rw [if_neg v] at u
        have t := hK c u
        rw [ek c v, ew c v]
        exact ⟨t.1, t.2.1, t.2.2.1, t.2.2.2.1, fun k hk => by rw [ev c v k (by have := w3 c u; omega)]; exact t.2.2.2.2 k hk⟩
    · by_cases v : c = x
      · rw [v]; exact Or.inl hn
      · refine Or.inr ?_
        show (if c = x then true else lv c) = false
        rw [if_neg v]; exact u
  · exact absurd hp g.1
/-- the next plain cell is filled -/
theorem zH_fillp {pl kz : Int32} {fd gk gk2 gc gc2 : Nat → Int32} {gv gv2 : Nat → Int64} {lv : Nat → Bool} {R R2 : Nat → Int} {db : Int} {fr sh : Nat → Int32} {fc sc np np2 : Int} {x : Nat} (h : zH pl kz fd gk gc gv lv R db fr sh fc sc np) (hp : pl.toInt ≠ 0) (hx : (x : Int) = np) (hx4 : x < 4000) (en : np2 = np + 1)
    (ek : ∀ c, c ≠ x → gk2 c = gk c) (ev : ∀ c, c ≠ x → ∀ k, k < 3 → gv2 (3 * c + k) = gv (3 * c + k)) (k0 : 0 ≤ (gk2 x).toInt) (k1 : (gk2 x).toInt < kz.toInt) (f0 : 1 ≤ (fd (Int32.toNatClampNeg (gk2 x))).toInt) (f1 : (fd (Int32.toNatClampNeg (gk2 x))).toInt ≤ 3)
    (hv : ∀ k, k < zHw fd gk2 x → zHv kz fd (gv2 (3 * x + k))) (hR : ∀ c, R c = R2 c + zcf zr (zHw fd gk2) gv2 x c) (h2 : ∀ c, 0 ≤ R2 c) : zH pl kz fd gk2 gc2 gv2 (fun c => if c = x then true else lv c) (fun c => R2 c + if c = x then 1 else 0) db fr sh fc sc np2 := by
  obtain ⟨hK, hR0, hF, a, b, d, g⟩ := h
  rcases g with ⟨p, hI, q⟩ | ⟨-, g1, g2, g3, g4⟩
  · exact absurd p hp
  · have ew : ∀ c, c ≠ x → zHw fd gk2 c = zHw fd gk c := fun c hc => by unfold zHw; rw [ek c hc]
    have w3 : ∀ c, lv c = true → zHw fd gk c ≤ 3 := fun c hc => by
      have := (hK c hc).2.2.2.1
      unfold zHw; omega
    have hmono : ∀ c, lv c = true → (if c = x then true else lv c) = true := fun c u => by split <;> first | rfl | exact u
    have hRl : ∀ c, 1 ≤ R c → lv c = true := fun c u => by
      cases e : lv c with
      | true => rfl
      | false => have := hF c e; omega
    refine ⟨fun c u => ?_, fun c => ?_, fun c u => ?_, a, b, d, Or.inr ⟨hp, by omega, by omega, fun c => ?_, fun c u k hk h2' => ?_⟩⟩
    · by_cases v : c = x
      · rw [v]; exact ⟨k0, k1, f0, f1, hv⟩
      · have u : (if c = x then true else lv c) = true := u
        rw [if_neg v] at u
        have t := hK c u
        rw [ek c v, ew c v]
        exact ⟨t.1, t.2.1, t.2.2.1, t.2.2.2.1, fun k hk => by rw [ev c v k (by have := w3 c u; omega)]; exact t.2.2.2.2 k hk⟩
    · have := h2 c
      show 0 ≤ R2 c + (if c = x then 1 else 0)
      split <;> omega
    · have u : (if c = x then true else lv c) = false := u
      by_cases v : c = x
      · rw [if_pos v] at u; exact Bool.noConfusion u
      · rw [if_neg v] at u
        show R2 c + (if c = x then 1 else 0) = 0
        rw [if_neg v]
        have := hF c u; have := hR c; have := h2 c; have := zcf_0 zr_0 (wd := zHw fd gk2) (gv := gv2) (d := x) (c := c)
        omega
    · show (if c = x then true else lv c) = true ↔ _
      by_cases v : c = x
      · rw [if_pos v]; exact ⟨fun _ => by omega, fun _ => rfl⟩
      · rw [if_neg v, g3 c]; exact ⟨fun _ => by omega, fun _ => by omega⟩
    · by_cases v : c = x
      · rw [v] at hk h2' ⊢
        refine hmono _ (hRl _ ?_)
        have hge : 0 ≤ (gv2 (3 * x + k)).toInt32.toInt := by
          rcases hv k hk with u | u | u
          · rw [h2'] at u; exact absurd u (by decide)
          · rw [h2'] at u; exact absurd u.1 (by decide)
          · exact u.2
        have w := zs_ge (f := fun k' => zr (gv2 (3 * x + k')) (Int32.toNatClampNeg (gv2 (3 * x + k)).toInt32)) (n := zHw fd gk2 x) (x := k) (fun _ _ => zr_0 _ _) hk
        have w : zr (gv2 (3 * x + k)) (Int32.toNatClampNeg (gv2 (3 * x + k)).toInt32) ≤ zcf zr (zHw fd gk2) gv2 x (Int32.toNatClampNeg (gv2 (3 * x + k)).toInt32) := w
        rw [zr_c h2' hge, if_pos rfl] at w
        have := hR (Int32.toNatClampNeg (gv2 (3 * x + k)).toInt32); have := h2 (Int32.toNatClampNeg (gv2 (3 * x + k)).toInt32)
        omega
      · have u : (if c = x then true else lv c) = true := u
        rw [if_neg v] at u
        rw [ew c v] at hk
        have e := ev c v k (by have := w3 c u; omega)
        rw [e] at h2' ⊢
        exact hmono _ (g4 c u k hk h2')
/-- the pile: how often cell c lies on it -/
def zPi (pi : Nat → Int32) (n : Nat) (c : Nat) : Int := zs n (fun i => if (pi i).toInt = (c : Int) then 1 else 0)
theorem zPi_i {pi : Nat → Int32} {i c : Nat} : 0 ≤ (if (pi i).toInt = (c : Int) then 1 else 0 : Int) := by split <;> omega
theorem zPi_p {pi : Nat → Int32} {n c : Nat} : 0 ≤ zPi pi n c := zs_0 (fun _ _ => zPi_i)
theorem zPi_s {pi : Nat → Int32} {n : Nat} {c : Nat} : zPi pi (n + 1) c = zPi pi n c + (if (pi n).toInt = (c : Int) then 1 else 0) := rfl
theorem zPi_e {pi pi2 : Nat → Int32} {n c : Nat} (h : ∀ i, i < n → pi2 i = pi i) : zPi pi2 n c = zPi pi n c := zs_ext (fun i hi => by rw [h i hi])
theorem zPi_add {pi pi2 : Nat → Int32} {n c : Nat} {x : Int32} (e : pi2 = upd pi n x) : zPi pi2 (n + 1) c = zPi pi n c + (if x.toInt = (c : Int) then 1 else 0) := by
  rw [zPi_s, zPi_e (pi := pi) (fun i hi => by rw [e, zu_n (by omega)]), e, zu_s]
theorem zr_i {v : Int64} (h : zhs v = 2) (c : Nat) : (if v.toInt32.toInt = (c : Int) then 1 else 0 : Int) = zr v c := by
  unfold zr
  by_cases g : v.toInt32.toInt = (c : Int)
  · rw [if_pos g, if_pos ⟨h, g⟩]
  · rw [if_neg g, if_neg (fun u => g u.2)]
theorem zif_c {x : Int32} (h : 0 ≤ x.toInt) (c : Nat) : (if x.toInt = (c : Int) then 1 else 0 : Int) = if c = Int32.toNatClampNeg x then 1 else 0 := by
  have := zn_nat h
  by_cases g : x.toInt = (c : Int)
  · rw [if_pos g, if_pos (by omega)]
  · rw [if_neg g, if_neg (by omega)]
theorem zHn_free {fr fr2 sh : Nat → Int32} {fc sc : Int} {x : Nat} {y : Int32} (h : zHn fr sh fc sc x) (hy : y.toInt ≠ (x : Int)) (h0 : 0 ≤ fc) (e : fr2 = upd fr fc.toNat y) : zHn fr2 sh (fc + 1) sc x := ⟨fun i hi => by
  by_cases g : i = fc.toNat
  · rw [e, g, zu_s]; exact hy
  · rw [e, zu_n g]; exact h.1 i (by omega), h.2⟩
/-- plain cells: the free ones stay -/
def zFx (pl : Int32) (fr fr2 : Nat → Int32) (fc fc2 : Int) : Prop := pl.toInt = 0 ∨ fr2 = fr ∧ fc2 = fc
theorem zFx_tr {pl : Int32} {fr fr1 fr2 : Nat → Int32} {fc fc1 fc2 : Int} (a : zFx pl fr fr1 fc fc1) (b : zFx pl fr1 fr2 fc1 fc2) : zFx pl fr fr2 fc fc2 := a.elim Or.inl (fun a => b.imp id (fun b => ⟨b.1.trans a.1, b.2.trans a.2⟩))
/-- what drops leaves: lv2 of lv, and what was none of the free ones is none of them now -/
def zHm (pl : Int32) (lv lv2 : Nat → Bool) (fr fr2 sh : Nat → Int32) (fc fc2 sc : Int) : Prop := (∀ x, lv2 x = true → lv x = true) ∧ (∀ x, lv x = false → zHn fr sh fc sc x → zHn fr2 sh fc2 sc x) ∧ zFx pl fr fr2 fc fc2
theorem zHm_rf {pl : Int32} {lv : Nat → Bool} {fr sh : Nat → Int32} {fc sc : Int} : zHm pl lv lv fr fr sh fc fc sc := ⟨fun _ h => h, fun _ _ h => h, Or.inr ⟨rfl, rfl⟩⟩
theorem zHm_tr {pl : Int32} {lv lv1 lv2 : Nat → Bool} {fr fr1 fr2 sh : Nat → Int32} {fc fc1 fc2 sc : Int} (a : zHm pl lv lv1 fr fr1 sh fc fc1 sc) (b : zHm pl lv1 lv2 fr1 fr2 sh fc1 fc2 sc) : zHm pl lv lv2 fr fr2 sh fc fc2 sc := ⟨fun x h => a.1 x (b.1 x h), fun x h g => b.2.1 x (by
  cases e : lv1 x with
  | false => rfl
  | true => rw [a.1 x e] at h; exact Bool.noConfusion h) (a.2.1 x h g), zFx_tr a.2.2 b.2.2⟩
theorem zHm_d {pl : Int32} {lv lv2 : Nat → Bool} {fr fr2 sh : Nat → Int32} {fc fc2 sc : Int} (a : zHm pl lv lv2 fr fr2 sh fc fc2 sc) {x : Nat} (h : lv x = false) : lv2 x = false := by
  cases e : lv2 x with
  | false => rfl
  | true => rw [a.1 x e] at h; exact Bool.noConfusion h
theorem zH_R {pl kz : Int32} {fd gk gc : Nat → Int32} {gv : Nat → Int64} {lv : Nat → Bool} {R R2 : Nat → Int} {db : Int} {fr sh : Nat → Int32} {fc sc np : Int} (e : ∀ c, R2 c = R c) (h : zH pl kz fd gk gc gv lv R db fr sh fc sc np) : zH pl kz fd gk gc gv lv R2 db fr sh fc sc np := by
  rw [show R2 = R from funext e]; exact h
theorem zHv_c {kz : Int32} {fd : Nat → Int32} {v : Int64} (h : zHv kz fd v) (g : zhs v = 2) : 0 ≤ v.toInt32.toInt := by
  rcases h with u | u | u
  · rw [g] at u; exact absurd u (by decide)
  · rw [g] at u; exact absurd u.1 (by decide)
  · exact u.2
/-- one turn of drops: what lies on top of the pile -/
theorem zH_top {pl kz : Int32} {fd gk gc pi : Nat → Int32} {gv : Nat → Int64} {lv : Nat → Bool} {R2 : Nat → Int} {db : Int} {fr sh : Nat → Int32} {fc sc np : Int} {n : Nat} (h : zH pl kz fd gk gc gv lv (fun c => R2 c + zPi pi (n + 1) c) db fr sh fc sc np) (h2 : ∀ c, 0 ≤ R2 c) (hn : 0 ≤ (pi n).toInt) : lv (Int32.toNatClampNeg (pi n)) = true ∧ ∀ c, R2 c + zPi pi (n + 1) c = R2 c + zPi pi n c + if c = Int32.toNatClampNeg (pi n) then 1 else 0 := by
  have e : ∀ c, R2 c + zPi pi (n + 1) c = R2 c + zPi pi n c + if c = Int32.toNatClampNeg (pi n) then 1 else 0 := fun c => by
    rw [zPi_s, zif_c hn]; omega
  refine ⟨zH_lv h ?_, e⟩
  show 1 ≤ R2 _ + zPi pi (n + 1) _
  rw [e, if_pos rfl]
  have := h2 (Int32.toNatClampNeg (pi n)); have := zPi_p (pi := pi) (n := n) (c := Int32.toNatClampNeg (pi n))
  omega
