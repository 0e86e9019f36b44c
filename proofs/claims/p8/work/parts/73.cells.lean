/-! the cells as a whole: those that live, the free ones' chain FL, the doomed ones' chain DL -/
def zgd (v : Int64) : Prop := zhs v = 2 → 0 ≤ v.toInt32.toInt
def zwd (kz : Int32) (kf gk : Nat → Int32) : Nat → Nat := fun d => (zfk kz kf (gk d)).toNat
def zdl (wd : Nat → Nat) (gv : Nat → Int64) : List Nat → Nat → Int
  | [], _ => 0
  | d :: l, c => zcf zr wd gv d c + zdl wd gv l c
theorem zdl_0 {wd : Nat → Nat} {gv : Nat → Int64} : ∀ {l : List Nat} {c : Nat}, 0 ≤ zdl wd gv l c
  | [], _ => Int.le_refl _
  | d :: l, c => by
    have a := zcf_0 zr_0 (wd := wd) (gv := gv) (d := d) (c := c)
    have b := zdl_0 (wd := wd) (gv := gv) (l := l) (c := c)
    show 0 ≤ zcf zr wd gv d c + zdl wd gv l c
    omega
def zCS (wd : Nat → Nat) (gc : Nat → Int32) (gv : Nat → Int64) (fresh ff held dbl : Int32) (lv : Nat → Bool) (R : Nat → Int) (FL DL : List Nat) (dm : Int32) : Prop :=
  zI zr (Int32.toNatClampNeg fresh) lv wd gv (fun c => (gc c).toInt) (fun c => R c + zdl wd gv DL c) dbl.toInt ∧ 0 ≤ fresh.toInt ∧ fresh.toInt ≤ 400 ∧ 0 ≤ dbl.toInt ∧ (∀ c, 0 ≤ R c) ∧
  zli gc ff FL ∧ zli gc dm DL ∧ (FL ++ DL).Nodup ∧ (∀ c ∈ FL ++ DL, c < Int32.toNatClampNeg fresh ∧ lv c = false) ∧ held.toInt + (FL.length : Int) = fresh.toInt ∧ (∀ d, lv d = true ∨ d ∈ DL → ∀ k, k < wd d → zgd (gv (3 * d + k)))
/-- a reference that is held leads to a cell that lives -/
theorem zCS_lv {wd : Nat → Nat} {gc : Nat → Int32} {gv : Nat → Int64} {fresh ff held dbl dm : Int32} {lv : Nat → Bool} {R : Nat → Int} {FL DL : List Nat} (h : zCS wd gc gv fresh ff held dbl lv R FL DL dm) {x : Nat} (hx : 1 ≤ R x) : lv x = true ∧ (x : Int) < fresh.toInt ∧ 1 ≤ (gc x).toInt ∧ (gc x).toInt ≤ dbl.toInt + 1 := by
  obtain ⟨hI, h0, h4, hd, hR, -⟩ := h
  have hn := zn_nat h0
  have hl : lv x = true := by
    by_cases g : lv x = true
    · exact g
    · have := (hI.2.1 x (by cases e : lv x with
        | false => rfl
        | true => exact absurd e g)).1
      have u := zdl_0 (wd := wd) (gv := gv) (l := DL) (c := x)
      have this : R x + zdl wd gv DL x = 0 := this
      omega
  obtain ⟨a, b, d, -⟩ := hI.1 x hl
  exact ⟨hl, by omega, b, d⟩
theorem zCS_li {wd : Nat → Nat} {gc : Nat → Int32} {gv : Nat → Int64} {fresh ff held dbl dm : Int32} {lv : Nat → Bool} {R : Nat → Int} {FL DL : List Nat} (h : zCS wd gc gv fresh ff held dbl lv R FL DL dm) {x : Nat} (hl : lv x = true) : lv x = true ∧ (x : Int) < fresh.toInt ∧ 1 ≤ (gc x).toInt ∧ (gc x).toInt ≤ dbl.toInt + 1 := by
  obtain ⟨hI, h0, h4, hd, hR, -⟩ := h
  have hn := zn_nat h0
  obtain ⟨a, b, d, -⟩ := hI.1 x hl
  exact ⟨hl, by omega, b, d⟩
theorem zli_off {nx nx2 : Nat → Int32} {L : List Nat} {x : Int32} {y : Nat} {v : Int32} (h : zli nx x L) (hy : y ∉ L) (e : nx2 = upd nx y v) : zli nx2 x L := zli_ext h (fun r hr => by rw [e, zu_n (show r ≠ y from fun g => hy (g ▸ hr))])
/-- a value is doubled -/
theorem zCS_copy {wd : Nat → Nat} {gc gc2 : Nat → Int32} {gv : Nat → Int64} {fresh ff held dbl dbl2 dm v : Int32} {lv : Nat → Bool} {R : Nat → Int} {FL DL : List Nat} (h : zCS wd gc gv fresh ff held dbl lv R FL DL dm) {x : Nat} (hx : lv x = true) (e : gc2 = upd gc x v) (ev : v.toInt = (gc x).toInt + 1) (ed : dbl2.toInt = dbl.toInt + 1) : zCS wd gc2 gv fresh ff held dbl2 lv (fun c => R c + if c = x then 1 else 0) FL DL dm := by
  obtain ⟨hI, h0, h4, hd, hR, hf, hdm, hnd, hfl, hh, hg⟩ := h
  have hxn : x ∉ FL ++ DL := fun g => by have := (hfl x g).2; rw [hx] at this; exact Bool.noConfusion this
  have hc := zI_copy (gc2 := fun c => (gc2 c).toInt) (x := x) hI hx (by show (gc2 x).toInt = (gc x).toInt + 1; rw [e, zu_s]; exact ev) (fun c hc => by show (gc2 c).toInt = (gc c).toInt; rw [e, zu_n hc]) hI.2.2
  refine ⟨?_, h0, h4, by omega, fun c => ?_, zli_off hf (fun g => hxn (List.mem_append.mpr (Or.inl g))) e, zli_off hdm (fun g => hxn (List.mem_append.mpr (Or.inr g))) e, hnd, hfl, hh, hg⟩
  · rw [ed]
    have e2 : (fun c => R c + (if c = x then 1 else 0) + zdl wd gv DL c : Nat → Int) = (fun c => R c + zdl wd gv DL c + if c = x then 1 else 0) := by
      funext c; omega
    show zI zr _ lv wd gv _ (fun c => R c + (if c = x then 1 else 0) + zdl wd gv DL c) _
    rw [e2]; exact hc
  · have := hR c
    show 0 ≤ R c + (if c = x then 1 else 0)
    split <;> omega
/-- a reference is let go, and others stay -/
theorem zCS_dec {wd : Nat → Nat} {gc gc2 : Nat → Int32} {gv : Nat → Int64} {fresh ff held dbl dm v : Int32} {lv : Nat → Bool} {R R2 : Nat → Int} {FL DL : List Nat} (h : zCS wd gc gv fresh ff held dbl lv R FL DL dm) {x : Nat} (hR : ∀ c, R c = R2 c + if c = x then 1 else 0) (h2 : ∀ c, 0 ≤ R2 c) (e : gc2 = upd gc x v) (ev : v.toInt = (gc x).toInt - 1) (h1 : 1 ≤ v.toInt) : zCS wd gc2 gv fresh ff held dbl lv R2 FL DL dm := by
  have hx := (zCS_lv h (x := x) (by have := hR x; rw [if_pos rfl] at this; have := h2 x; omega)).1
  obtain ⟨hI, h0, h4, hd, hR0, hf, hdm, hnd, hfl, hh, hg⟩ := h
  have hxn : x ∉ FL ++ DL := fun g => by have := (hfl x g).2; rw [hx] at this; exact Bool.noConfusion this
  refine ⟨zI_dec (x := x) (R2 := fun c => R2 c + zdl wd gv DL c) hI (fun c => ?_) (fun c => ?_) ?_ (fun c hc => ?_) ?_, h0, h4, hd, h2, zli_off hf (fun g => hxn (List.mem_append.mpr (Or.inl g))) e, zli_off hdm (fun g => hxn (List.mem_append.mpr (Or.inr g))) e, hnd, hfl, hh, hg⟩
  · show R c + zdl wd gv DL c = R2 c + zdl wd gv DL c + if c = x then 1 else 0
    rw [hR c]; omega
  · have := h2 c
    have := zdl_0 (wd := wd) (gv := gv) (l := DL) (c := c)
    show 0 ≤ R2 c + zdl wd gv DL c
    omega
  · show (gc2 x).toInt = (gc x).toInt - 1; rw [e, zu_s]; exact ev
  · show (gc2 c).toInt = (gc c).toInt; rw [e, zu_n hc]
  · show 1 ≤ (gc2 x).toInt; rw [e, zu_s]; exact h1
/-- the last reference is let go: the cell goes ahead of the doomed -/
theorem zCS_die {wd : Nat → Nat} {gc gc2 : Nat → Int32} {gv : Nat → Int64} {fresh ff held dbl dm dm2 : Int32} {lv : Nat → Bool} {R R2 : Nat → Int} {FL DL : List Nat} (h : zCS wd gc gv fresh ff held dbl lv R FL DL dm) {x : Nat} (hR : ∀ c, R c = R2 c + if c = x then 1 else 0) (h2 : ∀ c, 0 ≤ R2 c) (h1 : (gc x).toInt ≤ 1) (e : gc2 = upd gc x dm) (em : dm2.toInt = (x : Int)) : zCS wd gc2 gv fresh ff held dbl (fun c => if c = x then false else lv c) R2 FL (x :: DL) dm2 := by
  have hx := zCS_lv h (x := x) (by have := hR x; rw [if_pos rfl] at this; have := h2 x; omega)
  obtain ⟨hI, h0, h4, hd, hR0, hf, hdm, hnd, hfl, hh, hg⟩ := h
  have hn := zn_nat h0
  have hxn : x ∉ FL ++ DL := fun g => by have := (hfl x g).2; rw [hx.1] at this; exact Bool.noConfusion this
  have hxF : x ∉ FL := fun g => hxn (List.mem_append.mpr (Or.inl g))
  have hxD : x ∉ DL := fun g => hxn (List.mem_append.mpr (Or.inr g))
  have hdie := zI_die zr_0 (lv2 := fun c => if c = x then false else lv c) (gc2 := fun c => (gc2 c).toInt) (x := x) (R2 := fun c => R2 c + zdl wd gv DL c) hI (fun c => by
      show R c + zdl wd gv DL c = R2 c + zdl wd gv DL c + if c = x then 1 else 0
      rw [hR c]; omega) (fun c => by
      have := h2 c
      have := zdl_0 (wd := wd) (gv := gv) (l := DL) (c := c)
      show 0 ≤ R2 c + zdl wd gv DL c
      omega) hx.1 h1 (if_pos rfl) (fun c hc => ⟨if_neg hc, by show (gc2 c).toInt = (gc c).toInt; rw [e, zu_n hc]⟩)
  refine ⟨?_, h0, h4, hd, h2, zli_off hf hxF e, ⟨em, ?_⟩, ?_, fun c hc => ?_, hh, fun d hd => ?_⟩
  · have e2 : (fun c => R2 c + zdl wd gv (x :: DL) c : Nat → Int) = (fun c => R2 c + zdl wd gv DL c + zcf zr wd gv x c) := by
      funext c
      show R2 c + (zcf zr wd gv x c + zdl wd gv DL c) = _
      omega
    rw [e2]; exact hdie
  · rw [show gc2 x = dm by rw [e, zu_s]]
    exact zli_off hdm hxD e
  · obtain ⟨n1, n2, n3⟩ := List.nodup_append.mp hnd
    refine List.nodup_append.mpr ⟨n1, List.nodup_cons.mpr ⟨hxD, n2⟩, fun a ha b hb => ?_⟩
    rcases List.mem_cons.mp hb with g | g
    · rw [g]; exact fun u => hxF (u ▸ ha)
    · exact n3 a ha b g
  · show c < _ ∧ (if c = x then false else lv c) = false
    by_cases g : c = x
    · rw [if_pos g, g]; exact ⟨by omega, rfl⟩
    · rw [if_neg g]
      refine hfl c (List.mem_append.mpr ?_)
      rcases List.mem_append.mp hc with u | u
      · exact Or.inl u
      · exact Or.inr ((List.mem_cons.mp u).resolve_left g)
  · refine hg d ?_
    by_cases g : d = x
    · rw [g]; exact Or.inl hx.1
    · rcases hd with u | u
      · have u : (if d = x then false else lv d) = true := u
        rw [if_neg g] at u; exact Or.inl u
      · exact Or.inr ((List.mem_cons.mp u).resolve_left g)
/-- a cell that nothing holds goes to the free ones -/
theorem zCS_free {wd : Nat → Nat} {gc gc2 : Nat → Int32} {gv : Nat → Int64} {fresh ff ff2 held held2 dbl dm : Int32} {lv : Nat → Bool} {R : Nat → Int} {FL DL : List Nat} (h : zCS wd gc gv fresh ff held dbl lv R FL DL dm) {x : Nat} (hx : lv x = false) (hxn : x ∉ FL ++ DL) (hxf : (x : Int) < fresh.toInt) (e : gc2 = upd gc x ff) (ef : ff2.toInt = (x : Int)) (eh : held2.toInt = held.toInt - 1) : zCS wd gc2 gv fresh ff2 held2 dbl lv R (x :: FL) DL dm := by
  obtain ⟨hI, h0, h4, hd, hR0, hf, hdm, hnd, hfl, hh, hg⟩ := h
  have hn := zn_nat h0
  have hxF : x ∉ FL := fun g => hxn (List.mem_append.mpr (Or.inl g))
  have hxD : x ∉ DL := fun g => hxn (List.mem_append.mpr (Or.inr g))
  have hlx : ∀ c, lv c = true → c ≠ x := fun c hc g => by rw [g, hx] at hc; exact Bool.noConfusion hc
  refine ⟨⟨fun c hc => ?_, hI.2.1, hI.2.2⟩, h0, h4, hd, hR0, ⟨ef, ?_⟩, zli_off hdm hxD e, ?_, fun c hc => ?_, ?_, hg⟩
  · have := hI.1 c hc
    have e1 : (gc2 c).toInt = (gc c).toInt := by rw [e, zu_n (hlx c hc)]
    show c < _ ∧ 1 ≤ (gc2 c).toInt ∧ (gc2 c).toInt ≤ _ ∧ _ ≤ (gc2 c).toInt
    rw [e1]; exact this
  · rw [show gc2 x = ff by rw [e, zu_s]]
    exact zli_off hf hxF e
  · exact List.nodup_cons.mpr ⟨hxn, hnd⟩
  · rcases List.mem_cons.mp hc with g | g
    · rw [g]; exact ⟨by omega, hx⟩
    · exact hfl c g
  · rw [List.length_cons]; omega
