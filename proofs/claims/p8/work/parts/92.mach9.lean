/-! building, taking apart, freeing -/
def zpM (p : Nat → Bool) (t w : Nat) : Nat → Bool := fun j => if t ≤ j ∧ j < t + w then false else p j
theorem zpM_i {p : Nat → Bool} {t w j : Nat} (h : zpM p t w j = true) : p j = true := by
  unfold zpM at h
  by_cases g : t ≤ j ∧ j < t + w
  · rw [if_pos g] at h; exact Bool.noConfusion h
  · rw [if_neg g] at h; exact h
theorem zpM_n {p : Nat → Bool} {t w j : Nat} (h : ¬ (t ≤ j ∧ j < t + w)) : zpM p t w j = p j := if_neg h
theorem zRS_px {n : Nat} {st : Nat → Int64} {p q : Nat → Bool} (h : ∀ j, p j = q j) (c : Nat) : zRS n st p c = zRS n st q c := by
  have : p = q := funext h
  rw [this]
theorem zRS_rmM {n : Nat} {st : Nat → Int64} {p : Nat → Bool} {t : Nat} (c : Nat) : ∀ (w : Nat), (∀ k, k < w → p (t + k) = true ∧ t + k < n) → zRS n st p c = zRS n st (zpM p t w) c + zs w (fun k => zr (st (t + k)) c)
  | 0, _ => by
    rw [zRS_px (q := p) (fun j => zpM_n (by omega)) c]
    show _ = _ + 0
    omega
  | w + 1, h => by
    rw [zRS_rmM c w (fun k hk => h k (by omega))]
    have h1 := h w (by omega)
    have := zRS_rm (n := n) (st := st) (p := zpM p t w) h1.2 (by rw [zpM_n (by omega)]; exact h1.1) c
    rw [this, zRS_px (p := zpR (zpM p t w) (t + w)) (q := zpM p t (w + 1)) (fun j => by
      by_cases g : j = t + w
      · rw [g, zpR_s]; unfold zpM; rw [if_pos (by omega)]
      · rw [zpR_n g]
        unfold zpM
        by_cases u : t ≤ j ∧ j < t + w
        · rw [if_pos u, if_pos (by omega)]
        · rw [if_neg u, if_neg (by omega)]) c]
    show _ + zr (st (t + w)) c + zs w _ = _ + (zs w _ + zr (st (t + w)) c)
    omega
theorem zMx_build {n : Nat} {kz : Int32} {kf gk gk2 gc gc2 : Nat → Int32} {gv gv2 : Nat → Int64} {fresh ff held dbl : Int32} {st st2 : Nat → Int64} {p : Nat → Bool} {sh : Nat → Int32} {sn : Int32} {lv : Nat → Bool} {FL : List Nat} {x t : Nat} {kd : Int32} {v : Int64} (h : zMx n kz kf gk gc gv fresh ff held dbl st p sh sn (fun _ => 0) lv FL) (hx : lv x = false) (hxF : x ∉ FL) (hxf : (x : Int) < fresh.toInt) (hxs : zSn sh sn x) (ek : gk2 = upd gk x kd) (ec : gc2 = upd gc x 1) (hfw : zfw gv gv2 x st t (zfk kz kf kd).toNat) (h3 : ∀ k, zfk kz kf k ≤ 3) (hop : ∀ k, k < (zfk kz kf kd).toNat → p (t + k) = true) (h2 : zhs v = 2) (hv : v.toInt32.toInt = (x : Int)) (ht : t < n) (e : st2 = vp_updL st t v) : zMD n kz kf gk2 gc2 gv2 fresh ff held dbl st2 (zpA (zpM p t (zfk kz kf kd).toNat) t) sh sn := by
  obtain ⟨a, b, c, d, e0⟩ := h
  have wx : zwd kz kf gk2 x = (zfk kz kf kd).toNat := by show (zfk kz kf (gk2 x)).toNat = _; rw [ek, zu_s]
  have wc : ∀ c, c ≠ x → zwd kz kf gk2 c = zwd kz kf gk c := fun c hc => by show (zfk kz kf (gk2 c)).toNat = (zfk kz kf (gk c)).toNat; rw [ek, zu_n hc]
  have w3 : ∀ c, zwd kz kf gk c ≤ 3 := fun c => by show (zfk kz kf (gk c)).toNat ≤ 3; have := h3 (gk c); omega
  have gvo : ∀ c, c ≠ x → ∀ k, k < zwd kz kf gk c → gv2 (3 * c + k) = gv (3 * c + k) := fun c hc k hk => hfw.2 _ (by have := w3 c; omega)
  have hcf : ∀ c, zcf zr (zwd kz kf gk2) gv2 x c = zs (zfk kz kf kd).toNat (fun k => zr (st (t + k)) c) := fun c => by
    unfold zcf
    rw [wx]
    exact zs_ext (fun k hk => by rw [hfw.1 k hk])
  have hfill := zCS_fill (R2 := fun c => zRS n st (zpM p t (zfk kz kf kd).toNat) c) a hx hxF hxf ec wc gvo (fun y => by
    show zRS n st p y + 0 = zRS n st (zpM p t (zfk kz kf kd).toNat) y + _
    rw [hcf y, zRS_rmM (t := t) y (zfk kz kf kd).toNat (fun k hk => ⟨hop k hk, (c _ (hop k hk)).1⟩)]; omega) (fun _ => zRS_0) (fun k hk => by
    rw [wx] at hk
    rw [hfw.1 k hk]; exact (c _ (hop k hk)).2.1)
  have hM : zMx n kz kf gk2 gc2 gv2 fresh ff held dbl st (zpM p t (zfk kz kf kd).toNat) sh sn (fun c => if c = x then 1 else 0) (fun c => if c = x then true else lv c) FL := by
    refine ⟨hfill, fun y hy k hk => ?_, fun j hj => c j (zpM_i hj), zSh_mono d (Int.le_refl _) (fun i hi u0 u1 u2 => ⟨?_, u2⟩), fun y => ?_⟩
    · by_cases g : y = x
      · rw [g] at hk ⊢
        rw [wx] at hk
        rw [hfw.1 k hk]; exact (c _ (hop k hk)).2
      · have hy : (if y = x then true else lv y) = true := hy
        rw [if_neg g] at hy
        rw [wc y g] at hk
        rw [gvo y g k hk]; exact b y hy k hk
    · have hne : Int32.toNatClampNeg (sh i) ≠ x := fun g => by
        have := hxs i hi
        have := zn_nat u0
        omega
      show (if Int32.toNatClampNeg (sh i) = x then true else lv (Int32.toNatClampNeg (sh i))) = false
      rw [if_neg hne]; exact u1
    · show (0 : Int) ≤ if y = x then 1 else 0
      split <;> omega
  have hn := zn_nat (x := v.toInt32) (by omega)
  exact ⟨_, FL, zMx_st hM ht ⟨fun _ => by omega, fun _ g => (g h2).elim⟩ (fun y => by
    show (if y = x then 1 else 0 : Int) = 0 + zr v y
    rw [zr_c h2 (by omega), show Int32.toNatClampNeg v.toInt32 = x by omega]; omega) (fun _ => Int.le_refl _) e⟩
theorem zMP_build {n : Nat} {kz : Int32} {kf gk gk2 : Nat → Int32} {gv gv2 : Nat → Int64} {fresh fresh2 : Int32} {st st2 : Nat → Int64} {p : Nat → Bool} {sh : Nat → Int32} {sn : Int32} {x t : Nat} {kd : Int32} {v : Int64} (h : zMP n kz kf gk gv fresh st p sh sn) (hx : (x : Int) = fresh.toInt) (ef : fresh2.toInt = fresh.toInt + 1) (ek : gk2 = upd gk x kd) (hfw : zfw gv gv2 x st t (zfk kz kf kd).toNat) (h3 : ∀ k, zfk kz kf k ≤ 3) (hop : ∀ k, k < (zfk kz kf kd).toNat → p (t + k) = true) (h2 : zhs v = 2) (hv : v.toInt32.toInt = (x : Int)) (ht : t < n) (e : st2 = vp_updL st t v) : zMP n kz kf gk2 gv2 fresh2 st2 (zpA p t) sh sn := by
  obtain ⟨a, b, c⟩ := h
  have up : ∀ w, zgq fresh kz kf w → zgq fresh2 kz kf w := fun w hw => ⟨hw.1, fun g => by have := hw.2 g; omega⟩
  have wx : zwd kz kf gk2 x = (zfk kz kf kd).toNat := by show (zfk kz kf (gk2 x)).toNat = _; rw [ek, zu_s]
  have h1 : zMP n kz kf gk2 gv2 fresh2 st p sh sn := by
    refine ⟨fun j hj => ⟨(a j hj).1, up _ (a j hj).2⟩, fun y hy k hk => ?_, c⟩
    by_cases g : y = x
    · rw [g, wx] at hk
      rw [g, hfw.1 k hk]; exact up _ (a _ (hop k hk)).2
    · have wc : zwd kz kf gk2 y = zwd kz kf gk y := by show (zfk kz kf (gk2 y)).toNat = (zfk kz kf (gk y)).toNat; rw [ek, zu_n g]
      rw [wc] at hk
      have w3 : zwd kz kf gk y ≤ 3 := by show (zfk kz kf (gk y)).toNat ≤ 3; have := h3 (gk y); omega
      rw [hfw.2 _ (by omega)]; exact up _ (b y (by omega) k hk)
  exact zMP_st h1 ht ⟨⟨fun _ => by omega, fun _ g => (g h2).elim⟩, fun _ => by omega⟩ e
/-- a cell in hand is freed -/
theorem zMx_fr {n : Nat} {kz : Int32} {kf gk gc gc2 : Nat → Int32} {gv : Nat → Int64} {fresh ff held dbl ff2 held2 : Int32} {st : Nat → Int64} {p : Nat → Bool} {sh : Nat → Int32} {sn : Int32} {lv : Nat → Bool} {FL : List Nat} {R : Nat → Int} {x : Nat} (h : zMx n kz kf gk gc gv fresh ff held dbl st p sh sn (fun _ => 0) lv FL) (hz : zCS (zwd kz kf gk) gc2 gv fresh ff2 held2 dbl lv R (x :: FL) [] (-1)) (hR : ∀ c, R c = zRS n st p c + 0) (hs : zSn sh sn x) : zMx n kz kf gk gc2 gv fresh ff2 held2 dbl st p sh sn (fun _ => 0) lv (x :: FL) := by
  obtain ⟨a, b, c, d, e⟩ := h
  refine ⟨zCS_R (fun y => (hR y).symm) hz, b, c, zSh_mono d (Int.le_refl _) (fun i hi u0 u1 u2 => ⟨u1, fun g => ?_⟩), e⟩
  rcases List.mem_cons.mp g with w | w
  · have := hs i hi
    have := zn_nat u0
    omega
  · exact u2 w
theorem zSn_lv {lv : Nat → Bool} {FL : List Nat} {fresh : Int32} {sh : Nat → Int32} {n : Int32} {x : Nat} (h : zSh lv FL fresh sh n) (hx : lv x = true) : zSn sh n x := fun i hi g => by
  rcases h.1 i hi with u | ⟨u1, u2, u3, u4⟩
  · omega
  · have := zn_nat u1
    rw [show Int32.toNatClampNeg (sh i) = x by omega, hx] at u3
    exact Bool.noConfusion u3
/-- the last shell is to be freed -/
theorem zSh_ls {lv : Nat → Bool} {FL : List Nat} {fresh : Int32} {sh : Nat → Int32} {n n2 : Int32} (h : zSh lv FL fresh sh n) (e : n2.toInt = n.toInt - 1) (h0 : 0 ≤ n2.toInt) (hne : (sh (Int32.toNatClampNeg n2)).toInt ≠ -1) : (0 ≤ (sh (Int32.toNatClampNeg n2)).toInt ∧ (sh (Int32.toNatClampNeg n2)).toInt < fresh.toInt ∧ lv (Int32.toNatClampNeg (sh (Int32.toNatClampNeg n2))) = false ∧ Int32.toNatClampNeg (sh (Int32.toNatClampNeg n2)) ∉ FL) ∧ zSn sh n2 (Int32.toNatClampNeg (sh (Int32.toNatClampNeg n2))) := by
  have hn := zn_nat h0
  have u := (h.1 (Int32.toNatClampNeg n2) (by omega)).resolve_left hne
  refine ⟨u, fun i hi g => ?_⟩
  have hx := zn_nat u.1
  exact h.2 i (Int32.toNatClampNeg n2) (by omega) (by omega) (by omega) (by omega)
/-- the cell that row j alone holds is taken apart -/
theorem zMx_kill {n : Nat} {kz : Int32} {kf gk gc : Nat → Int32} {gv : Nat → Int64} {fresh ff held dbl : Int32} {st : Nat → Int64} {p : Nat → Bool} {sh : Nat → Int32} {sn : Int32} {lv : Nat → Bool} {FL : List Nat} {j : Nat} {ce : Int32} (h : zMx n kz kf gk gc gv fresh ff held dbl st p sh sn (fun _ => 0) lv FL) (hj : p j = true) (h2 : zhs (st j) = 2) (hc : (st j).toInt32 = ce) (h1 : (gc (Int32.toNatClampNeg ce)).toInt ≤ 1) : (∃ lv2, zMx n kz kf gk gc gv fresh ff held dbl st (zpR p j) sh sn (fun c => zrm (zwd kz kf gk (Int32.toNatClampNeg ce)) 0 (fun k => zr (gv (3 * Int32.toNatClampNeg ce + k)) c)) lv2 FL ∧ lv2 (Int32.toNatClampNeg ce) = false) ∧ Int32.toNatClampNeg ce ∉ FL ∧ zSn sh sn (Int32.toNatClampNeg ce) ∧ ∀ k, k < zwd kz kf gk (Int32.toNatClampNeg ce) → zvk kz kf (gv (3 * Int32.toNatClampNeg ce + k)) := by
  obtain ⟨a, b, c, d, e⟩ := h
  have hg : 0 ≤ ce.toInt := by rw [← hc]; exact (c j hj).2.1 h2
  have hk := zCS_kill (R2 := fun y => zRS n st (zpR p j) y) (x := Int32.toNatClampNeg ce) a (fun y => by
    have := zRS_rm (n := n) (st := st) (c j hj).1 hj y
    rw [zr_c h2 (by rw [hc]; exact hg), hc] at this
    show zRS n st p y + 0 = zRS n st (zpR p j) y + _
    omega) (fun _ => zRS_0) h1
  obtain ⟨k1, k2, k3, k4⟩ := hk
  refine ⟨⟨_, ⟨zCS_R (fun y => ?_) k1, fun y hy => b y ?_, fun i hi => c i (zpR_i hi).1, zSh_mono d (Int.le_refl _) (fun i _ _ u1 u2 => ⟨?_, u2⟩), fun y => zrm_p (fun _ => zr_0 _ _)⟩, if_pos rfl⟩, k2, zSn_lv d k4, fun k hk => b _ k4 k hk⟩
  · show zRS n st (zpR p j) y + zrm _ 0 _ = zRS n st (zpR p j) y + zcf zr _ gv _ y
    rw [zrm_0]; rfl
  · have hy : (if y = Int32.toNatClampNeg ce then false else lv y) = true := hy
    by_cases g : y = Int32.toNatClampNeg ce
    · rw [if_pos g] at hy; exact Bool.noConfusion hy
    · rw [if_neg g] at hy; exact hy
  · show (if Int32.toNatClampNeg (sh i) = Int32.toNatClampNeg ce then false else lv (Int32.toNatClampNeg (sh i))) = false
    by_cases g : Int32.toNatClampNeg (sh i) = Int32.toNatClampNeg ce
    · rw [if_pos g]
    · rw [if_neg g]; exact u1
theorem zMx_cq {n : Nat} {kz : Int32} {kf gk gc gc2 : Nat → Int32} {gv : Nat → Int64} {fresh ff held dbl dbl2 : Int32} {st st2 : Nat → Int64} {p : Nat → Bool} {sh : Nat → Int32} {sn : Int32} {lv : Nat → Bool} {FL : List Nat} {t : Nat} {v : Int64} {R : Nat → Int} (h : zMx n kz kf gk gc gv fresh ff held dbl st p sh sn (fun _ => 0) lv FL) (hz : zCS (zwd kz kf gk) gc2 gv fresh ff held dbl2 lv R FL [] (-1)) (hR : ∀ c, R c = zRS n st p c + 0 + zr v c) (ht : t < n) (hv : zvk kz kf v) (e : st2 = vp_updL st t v) : zMx n kz kf gk gc2 gv fresh ff held dbl2 st2 (zpA p t) sh sn (fun _ => 0) lv FL :=
  zMx_st (E := fun c => 0 + zr v c) (zMx_cs h hz (fun c => by rw [hR c]; show _ = zRS n st p c + (0 + zr v c); omega) (fun c => by have := zr_0 v c; show 0 ≤ 0 + zr v c; omega) (fun _ h => h) (fun _ h => Or.inl h)) ht hv (fun _ => rfl) (fun _ => Int.le_refl _) e
/-- a field out of the hand, laid into row t -/
theorem zMx_sf {n : Nat} {kz : Int32} {kf gk gc : Nat → Int32} {gv : Nat → Int64} {fresh ff held dbl : Int32} {st st2 : Nat → Int64} {p : Nat → Bool} {sh : Nat → Int32} {sn : Int32} {lv : Nat → Bool} {FL : List Nat} {x w i i2 t : Nat} {v : Int64} (h : zMx n kz kf gk gc gv fresh ff held dbl st p sh sn (fun c => zrm w i (fun k => zr (gv (3 * x + k)) c)) lv FL) (hi : i < w) (ei : i2 = i + 1) (ht : t < n) (hv : zvk kz kf v) (ev : v = gv (3 * x + i)) (e : st2 = vp_updL st t v) : zMx n kz kf gk gc gv fresh ff held dbl st2 (zpA p t) sh sn (fun c => zrm w i2 (fun k => zr (gv (3 * x + k)) c)) lv FL :=
  zMx_st h ht hv (fun c => by show zrm w i _ = zrm w i2 _ + zr v c; rw [ei, zrm_s hi, ev]) (fun c => zrm_p (fun _ => zr_0 _ _)) e
/-- a field out of the hand was let go -/
theorem zMx_df {n : Nat} {kz : Int32} {kf gk gc gc2 : Nat → Int32} {gv : Nat → Int64} {fresh ff held dbl ff2 held2 : Int32} {st : Nat → Int64} {p : Nat → Bool} {sh : Nat → Int32} {sn : Int32} {lv lv2 : Nat → Bool} {FL FL2 : List Nat} {x w i2 : Nat} {E R : Nat → Int} (h : zMx n kz kf gk gc gv fresh ff held dbl st p sh sn E lv FL) (hz : zCS (zwd kz kf gk) gc2 gv fresh ff2 held2 dbl lv2 R FL2 [] (-1)) (hR : ∀ c, R c = zRS n st p c + zrm w i2 (fun k => zr (gv (3 * x + k)) c)) (hl : ∀ c, lv2 c = true → lv c = true) (hf : ∀ c, c ∈ FL2 → c ∈ FL ∨ lv c = true) (hx : lv x = false) (hxF : x ∉ FL) : zMx n kz kf gk gc2 gv fresh ff2 held2 dbl st p sh sn (fun c => zrm w i2 (fun k => zr (gv (3 * x + k)) c)) lv2 FL2 ∧ lv2 x = false ∧ x ∉ FL2 := by
  refine ⟨zMx_cs h hz hR (fun c => zrm_p (fun _ => zr_0 _ _)) hl hf, ?_, fun g => ?_⟩
  · cases g : lv2 x with
    | false => rfl
    | true => rw [hl x g] at hx; exact Bool.noConfusion hx
  · rcases hf x g with u | u
    · exact hxF u
    · rw [hx] at u; exact Bool.noConfusion u
/-- row j's cell is counted one less, others hold it too -/
theorem zMx_de {n : Nat} {kz : Int32} {kf gk gc gc2 : Nat → Int32} {gv : Nat → Int64} {fresh ff held dbl : Int32} {st : Nat → Int64} {p : Nat → Bool} {sh : Nat → Int32} {sn : Int32} {lv : Nat → Bool} {FL : List Nat} {j : Nat} {ce v : Int32} (h : zMx n kz kf gk gc gv fresh ff held dbl st p sh sn (fun _ => 0) lv FL) (hj : p j = true) (h2 : zhs (st j) = 2) (hc : (st j).toInt32 = ce) (e : gc2 = upd gc (Int32.toNatClampNeg ce) v) (ev : v.toInt = (gc (Int32.toNatClampNeg ce)).toInt - 1) (h1 : 1 ≤ v.toInt) : zMx n kz kf gk gc2 gv fresh ff held dbl st (zpR p j) sh sn (fun _ => 0) lv FL := by
  have hg : 0 ≤ ce.toInt := by rw [← hc]; exact (h.2.2.1 j hj).2.1 h2
  have hd := zCS_dec (x := Int32.toNatClampNeg ce) (R2 := fun y => zRS n st (zpR p j) y + 0) h.1 (fun y => by
    have := zRS_rm (n := n) (st := st) (h.2.2.1 j hj).1 hj y
    rw [zr_c h2 (by rw [hc]; exact hg), hc] at this
    show zRS n st p y + 0 = zRS n st (zpR p j) y + 0 + _
    omega) (fun y => by have := zRS_0 (n := n) (st := st) (p := zpR p j) (c := y); show 0 ≤ zRS n st (zpR p j) y + 0; omega) e ev h1
  exact zMx_cs (zMx_le h (fun i hi => (zpR_i hi).1) (fun _ => Int.le_refl _) (fun _ => Int.le_refl _)) hd (fun _ => rfl) (fun _ => Int.le_refl _) (fun _ h => h) (fun _ h => Or.inl h)
