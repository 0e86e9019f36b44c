/-! the machine's values: which rows of its stack are held, and what they refer to -/
theorem zul_s {f : Nat → Int64} {t : Nat} {v : Int64} : vp_updL f t v t = v := by unfold vp_updL; rw [if_pos rfl]
theorem zul_n {f : Nat → Int64} {t j : Nat} {v : Int64} (h : j ≠ t) : vp_updL f t v j = f j := by unfold vp_updL; rw [if_neg h]
theorem zs_le {f g : Nat → Int} : ∀ {n : Nat}, (∀ d, d < n → f d ≤ g d) → zs n f ≤ zs n g
  | 0, _ => Int.le_refl _
  | n + 1, h => by
    have := zs_le (n := n) (fun d hd => h d (by omega))
    have := h n (by omega)
    show zs n f + f n ≤ zs n g + g n
    omega
theorem zCS_mono {wd : Nat → Nat} {gc : Nat → Int32} {gv : Nat → Int64} {fresh ff held dbl dm : Int32} {lv : Nat → Bool} {R R2 : Nat → Int} {FL DL : List Nat} (h : zCS wd gc gv fresh ff held dbl lv R FL DL dm) (h0 : ∀ c, 0 ≤ R2 c) (h1 : ∀ c, R2 c ≤ R c) : zCS wd gc gv fresh ff held dbl lv R2 FL DL dm := by
  obtain ⟨hI, a, b, d, hR, r⟩ := h
  refine ⟨zI_leak hI (fun c => ?_) (fun c => ?_), a, b, d, h0, r⟩
  · have := h1 c
    show R2 c + zdl wd gv DL c ≤ R c + zdl wd gv DL c
    omega
  · have := h0 c
    have := zdl_0 (wd := wd) (gv := gv) (l := DL) (c := c)
    show 0 ≤ R2 c + zdl wd gv DL c
    omega
/-- what a live cell's field refers to lives -/
theorem zCS_fl {wd : Nat → Nat} {gc : Nat → Int32} {gv : Nat → Int64} {fresh ff held dbl dm : Int32} {lv : Nat → Bool} {R : Nat → Int} {FL DL : List Nat} (h : zCS wd gc gv fresh ff held dbl lv R FL DL dm) {x k : Nat} (hx : lv x = true) (hk : k < wd x) (h2 : zhs (gv (3 * x + k)) = 2) : lv (Int32.toNatClampNeg (gv (3 * x + k)).toInt32) = true := by
  obtain ⟨hI, h0, h4, hd, hR, -, -, -, -, -, hg⟩ := h
  have hge := hg x (Or.inl hx) k hk h2
  cases e : lv (Int32.toNatClampNeg (gv (3 * x + k)).toInt32) with
  | true => rfl
  | false =>
    exfalso
    have t := (hI.2.1 _ e).2
    have u := zct_ge zr_0 (wd := wd) (gv := gv) (c := Int32.toNatClampNeg (gv (3 * x + k)).toInt32) (hI.1 x hx).1 hx
    have v := zs_ge (f := fun k' => zr (gv (3 * x + k')) (Int32.toNatClampNeg (gv (3 * x + k)).toInt32)) (n := wd x) (x := k) (fun _ _ => zr_0 _ _) hk
    have v : zr (gv (3 * x + k)) (Int32.toNatClampNeg (gv (3 * x + k)).toInt32) ≤ zcf zr wd gv x (Int32.toNatClampNeg (gv (3 * x + k)).toInt32) := v
    rw [zr_c h2 hge, if_pos rfl] at v
    omega
/-- a cell that nothing but one hand holds: its own references come into the hand -/
theorem zCS_kill {wd : Nat → Nat} {gc : Nat → Int32} {gv : Nat → Int64} {fresh ff held dbl dm : Int32} {lv : Nat → Bool} {R R2 : Nat → Int} {FL : List Nat} (h : zCS wd gc gv fresh ff held dbl lv R FL [] dm) {x : Nat} (hR : ∀ c, R c = R2 c + if c = x then 1 else 0) (h2 : ∀ c, 0 ≤ R2 c) (h1 : (gc x).toInt ≤ 1) : zCS wd gc gv fresh ff held dbl (fun c => if c = x then false else lv c) (fun c => R2 c + zcf zr wd gv x c) FL [] dm ∧ x ∉ FL ∧ (x : Int) < fresh.toInt ∧ lv x = true := by
  have hx := zCS_lv h (x := x) (by have := hR x; rw [if_pos rfl] at this; have := h2 x; omega)
  obtain ⟨hI, h0, h4, hd, hR0, hf, hdm, hnd, hfl, hh, hg⟩ := h
  have hxn : x ∉ FL := fun g => by have := (hfl x (List.mem_append.mpr (Or.inl g))).2; rw [hx.1] at this; exact Bool.noConfusion this
  have hdie := zI_die zr_0 (lv2 := fun c => if c = x then false else lv c) (gc2 := fun c => (gc c).toInt) (x := x) (R2 := R2) hI (fun c => by
      show R c + 0 = R2 c + if c = x then 1 else 0
      rw [hR c]; omega) h2 hx.1 h1 (if_pos rfl) (fun c hc => ⟨if_neg hc, rfl⟩)
  refine ⟨⟨?_, h0, h4, hd, fun c => ?_, hf, hdm, hnd, fun c hc => ?_, hh, fun d hd => ?_⟩, hxn, hx.2.1, hx.1⟩
  · have e2 : (fun c => R2 c + zcf zr wd gv x c + zdl wd gv [] c : Nat → Int) = (fun c => R2 c + zcf zr wd gv x c) := by
      funext c
      show R2 c + zcf zr wd gv x c + 0 = _
      omega
    show zI zr _ _ wd gv _ (fun c => R2 c + zcf zr wd gv x c + zdl wd gv [] c) _
    rw [e2]; exact hdie
  · have := h2 c
    have := zcf_0 zr_0 (wd := wd) (gv := gv) (d := x) (c := c)
    show 0 ≤ R2 c + zcf zr wd gv x c
    omega
  · show c < _ ∧ (if c = x then false else lv c) = false
    by_cases g : c = x
    · rw [if_pos g, g]; exact ⟨by have := zn_nat h0; omega, rfl⟩
    · rw [if_neg g]; exact hfl c hc
  · refine hg d (hd.elim (fun u => Or.inl ?_) (fun u => nomatch u))
    have u : (if d = x then false else lv d) = true := u
    by_cases g : d = x
    · rw [if_pos g] at u; exact Bool.noConfusion u
    · rw [if_neg g] at u; exact u
def zpA (p : Nat → Bool) (t : Nat) : Nat → Bool := fun j => if j = t then true else p j
def zpR (p : Nat → Bool) (t : Nat) : Nat → Bool := fun j => if j = t then false else p j
theorem zpA_s {p : Nat → Bool} {t : Nat} : zpA p t t = true := if_pos rfl
theorem zpA_n {p : Nat → Bool} {t j : Nat} (h : j ≠ t) : zpA p t j = p j := if_neg h
theorem zpA_i {p : Nat → Bool} {t j : Nat} (h : p j = true) : zpA p t j = true := by
  by_cases g : j = t
  · rw [g]; exact zpA_s
  · rw [zpA_n g]; exact h
theorem zpR_s {p : Nat → Bool} {t : Nat} : zpR p t t = false := if_pos rfl
theorem zpR_n {p : Nat → Bool} {t j : Nat} (h : j ≠ t) : zpR p t j = p j := if_neg h
theorem zpR_i {p : Nat → Bool} {t j : Nat} (h : zpR p t j = true) : p j = true ∧ j ≠ t := by
  by_cases g : j = t
  · rw [g, zpR_s] at h; exact Bool.noConfusion h
  · rw [zpR_n g] at h; exact ⟨h, g⟩
def zRS (n : Nat) (st : Nat → Int64) (p : Nat → Bool) (c : Nat) : Int := zs n (fun j => if p j = true then zr (st j) c else 0)
theorem zRS_i {st : Nat → Int64} {p : Nat → Bool} {c j : Nat} : 0 ≤ (if p j = true then zr (st j) c else 0 : Int) := by
  split
  · exact zr_0 _ _
  · exact Int.le_refl _
theorem zRS_0 {n : Nat} {st : Nat → Int64} {p : Nat → Bool} {c : Nat} : 0 ≤ zRS n st p c := zs_0 (fun _ _ => zRS_i)
theorem zRS_rm {n : Nat} {st : Nat → Int64} {p : Nat → Bool} {j : Nat} (hj : j < n) (hp : p j = true) (c : Nat) : zRS n st p c = zRS n st (zpR p j) c + zr (st j) c := by
  have := zs_up (f := fun d => if zpR p j d = true then zr (st d) c else 0) (g := fun d => if p d = true then zr (st d) c else 0) (n := n) (x := j) (fun d _ hd => by
    show (if p d = true then zr (st d) c else 0) = (if zpR p j d = true then zr (st d) c else 0)
    rw [zpR_n hd]) hj
  unfold zRS
  rw [this]
  have a : (if zpR p j j = true then zr (st j) c else 0 : Int) = 0 := if_neg (by rw [zpR_s]; exact Bool.noConfusion)
  have b : (if p j = true then zr (st j) c else 0 : Int) = zr (st j) c := if_pos hp
  rw [a, b]; omega
theorem zRS_ad {n : Nat} {st : Nat → Int64} {p : Nat → Bool} {t : Nat} {v : Int64} (c : Nat) : zRS n (vp_updL st t v) (zpA p t) c ≤ zRS n st p c + zr v c := by
  by_cases ht : t < n
  · have := zs_up (f := fun d => if p d = true then zr (st d) c else 0) (g := fun d => if zpA p t d = true then zr (vp_updL st t v d) c else 0) (n := n) (x := t) (fun d _ hd => by
      show (if zpA p t d = true then zr (vp_updL st t v d) c else 0) = (if p d = true then zr (st d) c else 0)
      rw [zpA_n hd, zul_n hd]) ht
    unfold zRS
    rw [this]
    have a : (if zpA p t t = true then zr (vp_updL st t v t) c else 0 : Int) = zr v c := by rw [if_pos zpA_s, zul_s]
    have b := zRS_i (st := st) (p := p) (c := c) (j := t)
    rw [a]; omega
  · have e : zRS n (vp_updL st t v) (zpA p t) c = zRS n st p c := zs_ext (fun d hd => by
      have hne : d ≠ t := by omega
      show (if zpA p t d = true then zr (vp_updL st t v d) c else 0) = (if p d = true then zr (st d) c else 0)
      rw [zpA_n hne, zul_n hne])
    have := zr_0 v c
    omega
theorem zRS_le {n : Nat} {st : Nat → Int64} {p p2 : Nat → Bool} (h : ∀ j, p2 j = true → p j = true) (c : Nat) : zRS n st p2 c ≤ zRS n st p c := zs_le (fun d _ => by
  show (if p2 d = true then zr (st d) c else 0) ≤ (if p d = true then zr (st d) c else 0)
  by_cases g : p2 d = true
  · rw [if_pos g, if_pos (h d g)]; exact Int.le_refl _
  · rw [if_neg g]; exact zRS_i)
/-- a value that the program may have: a kind that stands alone has no fields -/
def zvk (kz : Int32) (kf : Nat → Int32) (v : Int64) : Prop := zgd v ∧ (zhs v ≠ 0 → zhs v ≠ 2 → zfk kz kf v.toInt32 = 0)
/-- the shells that are kept: cells that neither live nor are free, no two alike -/
def zSh (lv : Nat → Bool) (FL : List Nat) (fresh : Int32) (sh : Nat → Int32) (n : Int32) : Prop :=
  (∀ i : Nat, (i : Int) < n.toInt → (sh i).toInt = -1 ∨ 0 ≤ (sh i).toInt ∧ (sh i).toInt < fresh.toInt ∧ lv (Int32.toNatClampNeg (sh i)) = false ∧ Int32.toNatClampNeg (sh i) ∉ FL) ∧ ∀ i j : Nat, i < j → (j : Int) < n.toInt → (sh i).toInt ≠ -1 → (sh i).toInt ≠ (sh j).toInt
/-- cell x is none of the shells -/
def zSn (sh : Nat → Int32) (n : Int32) (x : Nat) : Prop := ∀ i : Nat, (i : Int) < n.toInt → (sh i).toInt ≠ (x : Int)
theorem zSh_mono {lv lv2 : Nat → Bool} {FL FL2 : List Nat} {fresh fresh2 : Int32} {sh : Nat → Int32} {n : Int32} (h : zSh lv FL fresh sh n) (hf : fresh.toInt ≤ fresh2.toInt) (h1 : ∀ i : Nat, (i : Int) < n.toInt → 0 ≤ (sh i).toInt → lv (Int32.toNatClampNeg (sh i)) = false → Int32.toNatClampNeg (sh i) ∉ FL → lv2 (Int32.toNatClampNeg (sh i)) = false ∧ Int32.toNatClampNeg (sh i) ∉ FL2) : zSh lv2 FL2 fresh2 sh n :=
  ⟨fun i hi => by
    rcases h.1 i hi with u | ⟨u1, u2, u3, u4⟩
    · exact Or.inl u
    · have := h1 i hi u1 u3 u4
      exact Or.inr ⟨u1, by omega, this.1, this.2⟩, h.2⟩
/-- the shell at i is taken -/
theorem zSh_tk {lv : Nat → Bool} {FL : List Nat} {fresh : Int32} {sh sh2 : Nat → Int32} {n : Int32} {i : Nat} (h : zSh lv FL fresh sh n) (hi : (i : Int) < n.toInt) (hx : (sh i).toInt ≠ -1) (e : sh2 = upd sh i (-1)) : zSh lv FL fresh sh2 n ∧ (0 ≤ (sh i).toInt ∧ (sh i).toInt < fresh.toInt ∧ lv (Int32.toNatClampNeg (sh i)) = false ∧ Int32.toNatClampNeg (sh i) ∉ FL) ∧ zSn sh2 n (Int32.toNatClampNeg (sh i)) := by
  have m1 : (-1 : Int32).toInt = -1 := by decide
  have hd := (h.1 i hi).resolve_left hx
  have hn := zn_nat hd.1
  refine ⟨⟨fun j hj => ?_, fun j k hjk hk hne => ?_⟩, hd, fun j hj => ?_⟩
  · rw [e]
    by_cases g : j = i
    · rw [g, zu_s]; exact Or.inl m1
    · rw [zu_n g]; exact h.1 j hj
  · rw [e] at hne ⊢
    by_cases g : j = i
    · rw [g, zu_s] at hne; exact (hne m1).elim
    · rw [zu_n g] at hne ⊢
      by_cases g2 : k = i
      · rw [g2, zu_s, m1]; exact hne
      · rw [zu_n g2]; exact h.2 j k hjk hk hne
  · rw [e]
    by_cases g : j = i
    · rw [g, zu_s, m1]; omega
    · rw [zu_n g]
      intro u
      rcases Nat.lt_or_ge j i with v | v
      · exact h.2 j i v hi (by omega) (by omega)
      · exact h.2 i j (by omega) hj hx (by omega)
/-- one shell more, or none -/
theorem zSh_ad {lv : Nat → Bool} {FL : List Nat} {fresh x : Int32} {sh sh2 : Nat → Int32} {n n2 : Int32} (h : zSh lv FL fresh sh n) (h0 : 0 ≤ n.toInt) (hx : x.toInt = -1 ∨ (0 ≤ x.toInt ∧ x.toInt < fresh.toInt ∧ lv (Int32.toNatClampNeg x) = false ∧ Int32.toNatClampNeg x ∉ FL) ∧ zSn sh n (Int32.toNatClampNeg x)) (e : sh2 = upd sh (Int32.toNatClampNeg n) x) (en : n2.toInt = n.toInt + 1) : zSh lv FL fresh sh2 n2 := by
  have hn := zn_nat h0
  refine ⟨fun j hj => ?_, fun j k hjk hk hne => ?_⟩
  · rw [e]
    by_cases g : j = Int32.toNatClampNeg n
    · rw [g, zu_s]
      exact hx.elim Or.inl (fun u => Or.inr u.1)
    · rw [zu_n g]; exact h.1 j (by omega)
  · rw [e] at hne ⊢
    have gj : j ≠ Int32.toNatClampNeg n := by omega
    rw [zu_n gj] at hne ⊢
    by_cases g : k = Int32.toNatClampNeg n
    · rw [g, zu_s]
      rcases hx with u | ⟨u1, u2⟩
      · rw [u]; exact hne
      · have := u2 j (by omega)
        have := zn_nat u1.1
        omega
    · rw [zu_n g]; exact h.2 j k hjk (by omega) hne
theorem zSh_lo {lv : Nat → Bool} {FL : List Nat} {fresh : Int32} {sh : Nat → Int32} {n n2 : Int32} (h : zSh lv FL fresh sh n) (e : n2.toInt ≤ n.toInt) : zSh lv FL fresh sh n2 := ⟨fun i hi => h.1 i (by omega), fun i j hij hj => h.2 i j hij (by omega)⟩
/-- the machine's values with cells that are counted: p the stack's rows that are held, E what is in hand -/
def zMx (n : Nat) (kz : Int32) (kf gk gc : Nat → Int32) (gv : Nat → Int64) (fresh ff held dbl : Int32) (st : Nat → Int64) (p : Nat → Bool) (sh : Nat → Int32) (sn : Int32) (E : Nat → Int) (lv : Nat → Bool) (FL : List Nat) : Prop :=
  zCS (zwd kz kf gk) gc gv fresh ff held dbl lv (fun c => zRS n st p c + E c) FL [] (-1) ∧ (∀ c, lv c = true → ∀ k, k < zwd kz kf gk c → zvk kz kf (gv (3 * c + k))) ∧ (∀ j, p j = true → j < n ∧ zvk kz kf (st j)) ∧ zSh lv FL fresh sh sn ∧ ∀ c, 0 ≤ E c
/-- a value out of the hand is laid into row t -/
theorem zMx_st {n : Nat} {kz : Int32} {kf gk gc : Nat → Int32} {gv : Nat → Int64} {fresh ff held dbl : Int32} {st : Nat → Int64} {p : Nat → Bool} {sh : Nat → Int32} {sn : Int32} {E E2 : Nat → Int} {lv : Nat → Bool} {FL : List Nat} {st2 : Nat → Int64} {t : Nat} {v : Int64} (h : zMx n kz kf gk gc gv fresh ff held dbl st p sh sn E lv FL) (ht : t < n) (hv : zvk kz kf v) (hE : ∀ c, E c = E2 c + zr v c) (h0 : ∀ c, 0 ≤ E2 c) (e : st2 = vp_updL st t v) : zMx n kz kf gk gc gv fresh ff held dbl st2 (zpA p t) sh sn E2 lv FL := by
  obtain ⟨a, b, c, d, -⟩ := h
  subst e
  refine ⟨zCS_mono a (fun c => ?_) (fun c => ?_), b, fun j hj => ?_, d, h0⟩
  · have := zRS_0 (n := n) (st := vp_updL st t v) (p := zpA p t) (c := c)
    have := h0 c
    show 0 ≤ zRS n (vp_updL st t v) (zpA p t) c + E2 c
    omega
  · have := zRS_ad (n := n) (st := st) (p := p) (t := t) (v := v) c
    have := hE c
    show zRS n (vp_updL st t v) (zpA p t) c + E2 c ≤ zRS n st p c + E c
    omega
  · by_cases g : j = t
    · rw [g, zul_s]; exact ⟨ht, hv⟩
    · rw [zpA_n g] at hj
      rw [zul_n g]; exact c j hj
/-- row j's value is taken into the hand -/
theorem zMx_rm {n : Nat} {kz : Int32} {kf gk gc : Nat → Int32} {gv : Nat → Int64} {fresh ff held dbl : Int32} {st : Nat → Int64} {p : Nat → Bool} {sh : Nat → Int32} {sn : Int32} {E : Nat → Int} {lv : Nat → Bool} {FL : List Nat} {j : Nat} (h : zMx n kz kf gk gc gv fresh ff held dbl st p sh sn E lv FL) (hj : p j = true) : zMx n kz kf gk gc gv fresh ff held dbl st (zpR p j) sh sn (fun c => E c + zr (st j) c) lv FL := by
  obtain ⟨a, b, c, d, e⟩ := h
  refine ⟨zCS_R (fun x => ?_) a, b, fun i hi => c i (zpR_i hi).1, d, fun x => ?_⟩
  · have := zRS_rm (n := n) (st := st) (c j hj).1 hj x
    show zRS n st (zpR p j) x + (E x + zr (st j) x) = zRS n st p x + E x
    omega
  · have := e x
    have := zr_0 (st j) x
    show 0 ≤ E x + zr (st j) x
    omega
/-- the cells have changed, the values in hand too -/
theorem zMx_cs {n : Nat} {kz : Int32} {kf gk gc gc2 : Nat → Int32} {gv : Nat → Int64} {fresh ff held dbl ff2 held2 dbl2 : Int32} {st : Nat → Int64} {p : Nat → Bool} {sh : Nat → Int32} {sn : Int32} {E E2 : Nat → Int} {lv lv2 : Nat → Bool} {FL FL2 : List Nat} {R : Nat → Int} (h : zMx n kz kf gk gc gv fresh ff held dbl st p sh sn E lv FL) (hz : zCS (zwd kz kf gk) gc2 gv fresh ff2 held2 dbl2 lv2 R FL2 [] (-1)) (hR : ∀ c, R c = zRS n st p c + E2 c) (h0 : ∀ c, 0 ≤ E2 c) (hl : ∀ c, lv2 c = true → lv c = true) (hf : ∀ c, c ∈ FL2 → c ∈ FL ∨ lv c = true) : zMx n kz kf gk gc2 gv fresh ff2 held2 dbl2 st p sh sn E2 lv2 FL2 := by
  obtain ⟨a, b, c, d, -⟩ := h
  refine ⟨zCS_R (fun x => (hR x).symm) hz, fun x hx => b x (hl x hx), c, zSh_mono d (Int.le_refl _) (fun i _ _ u1 u2 => ⟨?_, fun g => ?_⟩), h0⟩
  · cases g : lv2 (Int32.toNatClampNeg (sh i)) with
    | false => rfl
    | true => rw [hl _ g] at u1; exact Bool.noConfusion u1
  · rcases hf _ g with w | w
    · exact u2 w
    · rw [u1] at w; exact Bool.noConfusion w
/-- what is held may be forgotten -/
theorem zMx_le {n : Nat} {kz : Int32} {kf gk gc : Nat → Int32} {gv : Nat → Int64} {fresh ff held dbl : Int32} {st : Nat → Int64} {p p2 : Nat → Bool} {sh : Nat → Int32} {sn : Int32} {E E2 : Nat → Int} {lv : Nat → Bool} {FL : List Nat} (h : zMx n kz kf gk gc gv fresh ff held dbl st p sh sn E lv FL) (hp : ∀ j, p2 j = true → p j = true) (h0 : ∀ c, 0 ≤ E2 c) (hE : ∀ c, E2 c ≤ E c) : zMx n kz kf gk gc gv fresh ff held dbl st p2 sh sn E2 lv FL := by
  obtain ⟨a, b, c, d, -⟩ := h
  refine ⟨zCS_mono a (fun x => ?_) (fun x => ?_), b, fun j hj => c j (hp j hj), d, h0⟩
  · have := zRS_0 (n := n) (st := st) (p := p2) (c := x)
    have := h0 x
    show 0 ≤ zRS n st p2 x + E2 x
    omega
  · have := zRS_le (n := n) (st := st) hp x
    have := hE x
    show zRS n st p2 x + E2 x ≤ zRS n st p x + E x
    omega
theorem zMx_sh {n : Nat} {kz : Int32} {kf gk gc : Nat → Int32} {gv : Nat → Int64} {fresh ff held dbl : Int32} {st : Nat → Int64} {p : Nat → Bool} {sh sh2 : Nat → Int32} {sn sn2 : Int32} {E : Nat → Int} {lv : Nat → Bool} {FL : List Nat} (h : zMx n kz kf gk gc gv fresh ff held dbl st p sh sn E lv FL) (hs : zSh lv FL fresh sh2 sn2) : zMx n kz kf gk gc gv fresh ff held dbl st p sh2 sn2 E lv FL := ⟨h.1, h.2.1, h.2.2.1, hs, h.2.2.2.2⟩
/-- a value that row j holds: its cell lives -/
theorem zMx_lv {n : Nat} {kz : Int32} {kf gk gc : Nat → Int32} {gv : Nat → Int64} {fresh ff held dbl : Int32} {st : Nat → Int64} {p : Nat → Bool} {sh : Nat → Int32} {sn : Int32} {E : Nat → Int} {lv : Nat → Bool} {FL : List Nat} {j : Nat} (h : zMx n kz kf gk gc gv fresh ff held dbl st p sh sn E lv FL) (hj : p j = true) (h2 : zhs (st j) = 2) : lv (Int32.toNatClampNeg (st j).toInt32) = true ∧ 0 ≤ (st j).toInt32.toInt ∧ (st j).toInt32.toInt < fresh.toInt := by
  obtain ⟨a, -, c, -, e⟩ := h
  have hg := (c j hj).2.1 h2
  have hn := zn_nat hg
  have r := zRS_rm (n := n) (st := st) (c j hj).1 hj (Int32.toNatClampNeg (st j).toInt32)
  rw [zr_c h2 hg, if_pos rfl] at r
  have r0 := zRS_0 (n := n) (st := st) (p := zpR p j) (c := Int32.toNatClampNeg (st j).toInt32)
  have e0 := e (Int32.toNatClampNeg (st j).toInt32)
  have u := zCS_lv a (x := Int32.toNatClampNeg (st j).toInt32) (by show 1 ≤ zRS n st p _ + E _; omega)
  exact ⟨u.1, hg, by omega⟩
def zMD (n : Nat) (kz : Int32) (kf gk gc : Nat → Int32) (gv : Nat → Int64) (fresh ff held dbl : Int32) (st : Nat → Int64) (p : Nat → Bool) (sh : Nat → Int32) (sn : Int32) : Prop := ∃ lv FL, zMx n kz kf gk gc gv fresh ff held dbl st p sh sn (fun _ => 0) lv FL
theorem zMD_push {n : Nat} {kz : Int32} {kf gk gc : Nat → Int32} {gv : Nat → Int64} {fresh ff held dbl : Int32} {st st2 : Nat → Int64} {p : Nat → Bool} {sh : Nat → Int32} {sn : Int32} {t : Nat} {v : Int64} (h : zMD n kz kf gk gc gv fresh ff held dbl st p sh sn) (ht : t < n) (hv : zvk kz kf v) (h2 : zhs v ≠ 2) (e : st2 = vp_updL st t v) : zMD n kz kf gk gc gv fresh ff held dbl st2 (zpA p t) sh sn := by
  obtain ⟨lv, FL, h⟩ := h
  exact ⟨lv, FL, zMx_st h ht hv (fun c => by rw [zr_n h2]; rfl) (fun _ => Int.le_refl _) e⟩
theorem zMD_move {n : Nat} {kz : Int32} {kf gk gc : Nat → Int32} {gv : Nat → Int64} {fresh ff held dbl : Int32} {st st2 : Nat → Int64} {p : Nat → Bool} {sh : Nat → Int32} {sn : Int32} {t j : Nat} (h : zMD n kz kf gk gc gv fresh ff held dbl st p sh sn) (ht : t < n) (hj : p j = true) (e : st2 = vp_updL st t (st j)) : zMD n kz kf gk gc gv fresh ff held dbl st2 (zpA (zpR p j) t) sh sn := by
  obtain ⟨lv, FL, h⟩ := h
  have hv := (h.2.2.1 j hj).2
  exact ⟨lv, FL, zMx_st (zMx_rm h hj) ht hv (fun _ => rfl) (fun _ => Int.le_refl _) e⟩
/-- the machine's values with cells that aren't counted -/
def zgq (fresh kz : Int32) (kf : Nat → Int32) (v : Int64) : Prop := zvk kz kf v ∧ (zhs v = 2 → v.toInt32.toInt < fresh.toInt)
def zMP (n : Nat) (kz : Int32) (kf gk : Nat → Int32) (gv : Nat → Int64) (fresh : Int32) (st : Nat → Int64) (p : Nat → Bool) (sh : Nat → Int32) (sn : Int32) : Prop :=
  (∀ j, p j = true → j < n ∧ zgq fresh kz kf (st j)) ∧ (∀ c : Nat, (c : Int) < fresh.toInt → ∀ k, k < zwd kz kf gk c → zgq fresh kz kf (gv (3 * c + k))) ∧ ∀ i : Nat, (i : Int) < sn.toInt → (sh i).toInt = -1
theorem zMP_st {n : Nat} {kz : Int32} {kf gk : Nat → Int32} {gv : Nat → Int64} {fresh : Int32} {st st2 : Nat → Int64} {p : Nat → Bool} {sh : Nat → Int32} {sn : Int32} {t : Nat} {v : Int64} (h : zMP n kz kf gk gv fresh st p sh sn) (ht : t < n) (hv : zgq fresh kz kf v) (e : st2 = vp_updL st t v) : zMP n kz kf gk gv fresh st2 (zpA p t) sh sn := by
  obtain ⟨a, b, c⟩ := h
  subst e
  refine ⟨fun j hj => ?_, b, c⟩
  by_cases g : j = t
  · rw [g, zul_s]; exact ⟨ht, hv⟩
  · rw [zpA_n g] at hj
    rw [zul_n g]; exact a j hj
theorem zMP_push {n : Nat} {kz : Int32} {kf gk : Nat → Int32} {gv : Nat → Int64} {fresh : Int32} {st st2 : Nat → Int64} {p : Nat → Bool} {sh : Nat → Int32} {sn : Int32} {t : Nat} {v : Int64} (h : zMP n kz kf gk gv fresh st p sh sn) (ht : t < n) (hv : zvk kz kf v) (h2 : zhs v ≠ 2) (e : st2 = vp_updL st t v) : zMP n kz kf gk gv fresh st2 (zpA p t) sh sn := zMP_st h ht ⟨hv, fun g => (h2 g).elim⟩ e
theorem zMP_le {n : Nat} {kz : Int32} {kf gk : Nat → Int32} {gv : Nat → Int64} {fresh : Int32} {st : Nat → Int64} {p p2 : Nat → Bool} {sh : Nat → Int32} {sn : Int32} (h : zMP n kz kf gk gv fresh st p sh sn) (hp : ∀ j, p2 j = true → p j = true) : zMP n kz kf gk gv fresh st p2 sh sn := ⟨fun j hj => h.1 j (hp j hj), h.2⟩
theorem zMP_move {n : Nat} {kz : Int32} {kf gk : Nat → Int32} {gv : Nat → Int64} {fresh : Int32} {st st2 : Nat → Int64} {p : Nat → Bool} {sh : Nat → Int32} {sn : Int32} {t j : Nat} (h : zMP n kz kf gk gv fresh st p sh sn) (ht : t < n) (hj : p j = true) (e : st2 = vp_updL st t (st j)) : zMP n kz kf gk gv fresh st2 (zpA (zpR p j) t) sh sn := zMP_st (zMP_le h (fun i hi => (zpR_i hi).1)) ht (h.1 j hj).2 e
/-- row j's value is to be let go -/
theorem zMx_tk {n : Nat} {kz : Int32} {kf gk gc : Nat → Int32} {gv : Nat → Int64} {fresh ff held dbl : Int32} {st : Nat → Int64} {p : Nat → Bool} {sh : Nat → Int32} {sn : Int32} {lv : Nat → Bool} {FL : List Nat} {j : Nat} {v : Int64} (h : zMx n kz kf gk gc gv fresh ff held dbl st p sh sn (fun _ => 0) lv FL) (hj : p j = true) (hv : v = st j) : zCS (zwd kz kf gk) gc gv fresh ff held dbl lv (fun c => zRS n st (zpR p j) c + zr v c) FL [] (-1) ∧ zgd v := by
  refine ⟨zCS_R (fun c => ?_) h.1, by rw [hv]; exact (h.2.2.1 j hj).2.1⟩
  have := zRS_rm (n := n) (st := st) (h.2.2.1 j hj).1 hj c
  show zRS n st (zpR p j) c + zr v c = zRS n st p c + 0
  rw [hv]; omega
theorem zMx_dn {n : Nat} {kz : Int32} {kf gk gc gc2 : Nat → Int32} {gv : Nat → Int64} {fresh ff held dbl ff2 held2 : Int32} {st : Nat → Int64} {p : Nat → Bool} {sh : Nat → Int32} {sn : Int32} {lv lv2 : Nat → Bool} {FL FL2 : List Nat} {j : Nat} (h : zMx n kz kf gk gc gv fresh ff held dbl st p sh sn (fun _ => 0) lv FL) (hz : zCS (zwd kz kf gk) gc2 gv fresh ff2 held2 dbl lv2 (fun c => zRS n st (zpR p j) c) FL2 [] (-1)) (hl : ∀ c, lv2 c = true → lv c = true) (hf : ∀ c, c ∈ FL2 → c ∈ FL ∨ lv c = true) : zMD n kz kf gk gc2 gv fresh ff2 held2 dbl st (zpR p j) sh sn :=
  ⟨lv2, FL2, zMx_cs (zMx_le h (fun i hi => (zpR_i hi).1) (fun _ => Int.le_refl _) (fun _ => Int.le_refl _)) hz (fun c => by show zRS n st (zpR p j) c = zRS n st (zpR p j) c + 0; omega) (fun _ => Int.le_refl _) hl hf⟩
/-- row j's value was doubled, and laid into row t -/
theorem zMx_cp {n : Nat} {kz : Int32} {kf gk gc gc2 : Nat → Int32} {gv : Nat → Int64} {fresh ff held dbl dbl2 : Int32} {st st2 : Nat → Int64} {p : Nat → Bool} {sh : Nat → Int32} {sn : Int32} {lv : Nat → Bool} {FL : List Nat} {t : Nat} {v : Int64} {R : Nat → Int} (h : zMx n kz kf gk gc gv fresh ff held dbl st p sh sn (fun _ => 0) lv FL) (hz : zCS (zwd kz kf gk) gc2 gv fresh ff held dbl2 lv R FL [] (-1)) (hR : ∀ c, R c = zRS n st p c + 0 + zr v c) (ht : t < n) (hv : zvk kz kf v) (e : st2 = vp_updL st t v) : zMD n kz kf gk gc2 gv fresh ff held dbl2 st2 (zpA p t) sh sn :=
  ⟨lv, FL, zMx_st (E := fun c => 0 + zr v c) (zMx_cs h hz (fun c => by rw [hR c]; show _ = zRS n st p c + (0 + zr v c); omega) (fun c => by have := zr_0 v c; show 0 ≤ 0 + zr v c; omega) (fun _ h => h) (fun _ h => Or.inl h)) ht hv (fun _ => rfl) (fun _ => Int.le_refl _) e⟩
theorem zli_c {nx : Nat → Int32} : ∀ {L : List Nat} {x : Int32}, zli nx x L → x.toInt ≠ -1 → ∃ (y : Nat) (t : List Nat), L = y :: t ∧ x.toInt = (y : Int) ∧ zli nx (nx y) t
  | [], _, h, hn => (hn h).elim
  | y :: t, _, h, _ => ⟨y, t, rfl, h.1, h.2⟩
