section
set_option maxHeartbeats 4000000 in
set_option maxRecDepth 100000 in
theorem c_X1_copy_z (l : Launch) (dC : Nat → ClassId) (dI : Nat → Nat → Nat) (aK aV : Nat → Nat) (h0 : Nat) (ek : Nat) (ec : Nat) (ef : Nat) (cki : Nat) (e1 : ClassId) (e2 : ClassId) (e3 : ClassId) (e_limit : Int32) (e_fresh : Int32) (e_firstFree : Int32) (e_held : Int32) (e_mostHeld : Int32) (e_made : Int32) (e_reused : Int32) (e_freed : Int32) (e_doubled : Int32) (gk : Nat → Int32) (gc : Nat → Int32) (gv : Nat → Int64) (va : Int64) (wd : Nat → Nat) (lv : Nat → Bool) (R : Nat → Int) (FL : List Nat) (DL : List Nat) (dm : Int32) (ph : Nat → Nat) (lA : Nat → Bool) (gA : Nat → Int) (nc : Nat) (wA : Nat → Nat) (kA : Nat → Int32) (cA : Nat → Int64) (SI : List Nat) (RA : Nat → Int) (av : Int64) (sz : Nat) (hcs : zCS wd gc gv e_fresh e_firstFree e_held e_doubled lv R FL DL dm) (hgd : zhs va = 2 → 0 ≤ (va.toInt32).toInt) (hrv : zhs va = 2 → lv (Int32.toNatClampNeg va.toInt32) = true) (hdb : e_doubled.toInt < 1000000) (hZA : hZ ph lA gA nc wA kA cA RA SI gk gc gv) (hvr : vr ph av va) (hlA : zhs va = 2 → lA (Int32.toNatClampNeg av.toInt32) = true) : Met l yX1_copy (Cond.code yX1_copy cX1_copy 3 none :: zw) ({ frames := 10, cells := 0, slots := 0, locals := 300 }) (va_Pc [.ref h0, .long va] (zP dC dI aK aV sz [(e1, .int), (e2, .int), (e3, .long)] [(h0, .inr (1, [.ref ek, .ref ec, .ref ef, .ref cki, .int e_limit, .int e_fresh, .int e_firstFree, .int e_held, .int e_mostHeld, .int e_made, .int e_reused, .int e_freed, .int e_doubled])), (ek, .inl (e1, 400, .inl gk)), (ec, .inl (e2, 400, .inl gc)), (ef, .inl (e3, 1200, .inr (.inl gv)))])) (va_Qv (fun u : (Nat → Int32) × Int32 => match u with | (gc2, dbl2) => (zCS wd gc2 gv e_fresh e_firstFree e_held dbl2 lv (fun c => R c + zr va c) FL DL dm) ∧ (e_doubled.toInt ≤ dbl2.toInt) ∧ (dbl2.toInt ≤ e_doubled.toInt + 1) ∧ (∀ c, (gc c).toInt ≤ (gc2 c).toInt) ∧ (∃ gA2, hZ ph lA gA2 nc wA kA cA (fun x => RA x + zr av x) SI gk gc2 gv) ∧ (zhs va ≠ 2 ∧ dbl2.toInt = e_doubled.toInt ∨ zhs va = 2 ∧ dbl2.toInt = e_doubled.toInt + 1)) (fun u => match u with | (gc2, dbl2) => zQ dC dI (va_A [(h0, .inr (1, [.ref ek, .ref ec, .ref ef, .ref cki, .int e_limit, .int e_fresh, .int e_firstFree, .int e_held, .int e_mostHeld, .int e_made, .int e_reused, .int e_freed, .int e_doubled])), (ek, .inl (e1, 400, .inl gk)), (ec, .inl (e2, 400, .inl gc)), (ef, .inl (e3, 1200, .inr (.inl gv)))] sz) [(e1, .int), (e2, .int), (e3, .long)] [(h0, .inr (1, [.ref ek, .ref ec, .ref ef, .ref cki, .int e_limit, .int e_fresh, .int e_firstFree, .int e_held, .int e_mostHeld, .int e_made, .int e_reused, .int e_freed, .int dbl2])), (ek, .inl (e1, 400, .inl gk)), (ec, .inl (e2, 400, .inl gc2)), (ef, .inl (e3, 1200, .inr (.inl gv)))]) (va_A [(h0, .inr (1, [.ref ek, .ref ec, .ref ef, .ref cki, .int e_limit, .int e_fresh, .int e_firstFree, .int e_held, .int e_mostHeld, .int e_made, .int e_reused, .int e_freed, .int e_doubled])), (ek, .inl (e1, 400, .inl gk)), (ec, .inl (e2, 400, .inl gc)), (ef, .inl (e3, 1200, .inr (.inl gv)))] sz)) 0 0 (va_A [(h0, .inr (1, [.ref ek, .ref ec, .ref ef, .ref cki, .int e_limit, .int e_fresh, .int e_firstFree, .int e_held, .int e_mostHeld, .int e_made, .int e_reused, .int e_freed, .int e_doubled])), (ek, .inl (e1, 400, .inl gk)), (ec, .inl (e2, 400, .inl gc)), (ef, .inl (e3, 1200, .inr (.inl gv)))] sz) := by
  refine Met.ofW (cc := cX1_copy) (maxL := 3) (ret := none) (by decide) rfl ?_
  intro p e s m args below meth c s₁ B hml hv
  obtain ⟨rfl, hsz, hP, hK, hD0, hN, hT⟩ := hv
  have hx := B.exec
  have hb := B.bytes
  have hr := B.returns
  have hts := atoms_spec (ws := Cond.code yX1_copy cX1_copy 3 none :: zw) B.pre
  have hA : ∀ w ∈ zw, w.before _ s = true := fun w h => hts w (List.mem_cons_of_mem _ h)
  have hown : s.vm.findClass RX1 = some m.cls := findClass_of_methodNamed B.named
  have hlocks := B.notSynchronized
  subst hsz
  have hD := hD0.self (sz := s.heap.size)
  generalize hAe : va_A [(h0, .inr (1, [.ref ek, .ref ec, .ref ef, .ref cki, .int e_limit, .int e_fresh, .int e_firstFree, .int e_held, .int e_mostHeld, .int e_made, .int e_reused, .int e_freed, .int e_doubled])), (ek, .inl (e1, 400, .inl gk)), (ec, .inl (e2, 400, .inl gc)), (ef, .inl (e3, 1200, .inr (.inl gv)))] s.heap.size = A at hD hT ⊢
  have hAA : ∀ q : Nat, s.heap.size ≤ q → A q := fun q h => by rw [← hAe]; exact Or.inr h
  have hS : va_S A s.heap s.heap [] := va_S.rf
  have hl := lv_entry ([.ref h0, .long va]) (n := 3) (Nat.le_of_ble_eq_true rfl)
  rw [lg_entry_eq]
  generalize (lg_sl ([.ref h0, .long va]) ++ List.replicate (3 - (lg_sl ([.ref h0, .long va])).length) Slot.unset).toArray = ls at hl ⊢
  have hl : lv_has ls 3 [(0, .ref h0), (1, .long va)] := hl
  refine lv_lload_n hx hb dX1_copy_0 rfl (lv_at hl 1 rfl) ?_
  have hPc := hP.sub (ws' := []) [] rfl
  have hDc := hD.sub (ws' := []) [] (by decide) rfl
  have hKc := hK.sub (tys' := []) [] rfl
  have hFc := va_free (wc := []) hD hS hAA [] rfl
  refine va_calli (va_runS (As := [.long va]) (rest := []) ⟨hx, hb, hml, hown, hA⟩ (c_X1_isCell_x l dC dI aK aV va s.heap.size) (va_cwS 1 hA (zw_S wi_1146 wi_1147 wi_140 (zw_good wi_1148)) rfl rfl rfl (by decide +kernel) ⟨(Nat.le_of_ble_eq_true rfl), (Nat.le_of_ble_eq_true rfl)⟩) ⟨zP_blind, zz_pre hKc hPc hDc hN hT hS hFc⟩ rfl rfl hl.1 rfl (lv_room (Nat.le_of_ble_eq_true rfl)) dX1_copy_1 ⟨(Nat.le_of_ble_eq_true rfl), (Nat.le_of_ble_eq_true rfl)⟩) hS (fun q _ h => hFc q h) hFc (fun r_1 u t H1 locs ht hvm hw hB hz1 hk1 hS => ?_)
  obtain ⟨hP1, hK1, hD1⟩ := hB
  rw [ht] at hP1
  have hK1 := va_K.moved hvm.symm hK1
  obtain ⟨hP, hD⟩ := va_join (wr := [(h0, .inr (1, [.ref ek, .ref ec, .ref ef, .ref cki, .int e_limit, .int e_fresh, .int e_firstFree, .int e_held, .int e_mostHeld, .int e_made, .int e_reused, .int e_freed, .int e_doubled])), (ek, .inl (e1, 400, .inl gk)), (ec, .inl (e2, 400, .inl gc)), (ef, .inl (e3, 1200, .inr (.inl gv)))]) (w1 := []) hP hD [] [0, 1, 2, 3] rfl rfl (by decide) (by decide) hk1 hFc hP1 hD1
  have hK := (hK.sub (tys' := [(e1, .int), (e2, .int), (e3, .long)]) [0, 1, 2] rfl).app hK1
  generalize H1 = H at hP hS ⊢
  have hP : va_P (dC, dI) vwCl [(h0, .inr (1, [.ref ek, .ref ec, .ref ef, .ref cki, .int e_limit, .int e_fresh, .int e_firstFree, .int e_held, .int e_mostHeld, .int e_made, .int e_reused, .int e_freed, .int e_doubled])), (ek, .inl (e1, 400, .inl gk)), (ec, .inl (e2, 400, .inl gc)), (ef, .inl (e3, 1200, .inr (.inl gv)))] H := hP
  have hD : va_D A [(h0, .inr (1, [.ref ek, .ref ec, .ref ef, .ref cki, .int e_limit, .int e_fresh, .int e_firstFree, .int e_held, .int e_mostHeld, .int e_made, .int e_reused, .int e_freed, .int e_doubled])), (ek, .inl (e1, 400, .inl gk)), (ec, .inl (e2, 400, .inl gc)), (ef, .inl (e3, 1200, .inr (.inl gv)))] := hD
  have hK : va_K (dC, dI) vwCl [(e1, .int), (e2, .int), (e3, .long)] s := hK
  have hw_r_1 := hw
  try dsimp only at hw_r_1
  have hq_2 := hw
  refine lv_if_eq (tgt := 28) hx hb dX1_copy_4 (by decide) (fun c_3 => ?_) (fun c_3 => ?_)
  · have ic_3 : r_1.toInt = 0 := zi_eq c_3
    have hno9 : zhs va ≠ 2 := hq_2.elim (fun g => absurd g.1 (by omega)) (fun g => g.2)
    have hP9 := hP.sub (ws' := [(h0, .inr (1, [.ref ek, .ref ec, .ref ef, .ref cki, .int e_limit, .int e_fresh, .int e_firstFree, .int e_held, .int e_mostHeld, .int e_made, .int e_reused, .int e_freed, .int e_doubled])), (ek, .inl (e1, 400, .inl gk)), (ec, .inl (e2, 400, .inl gc)), (ef, .inl (e3, 1200, .inr (.inl gv)))]) [0, 1, 2, 3] rfl
    have hD9 := hD.sub (ws' := [(h0, .inr (1, [.ref ek, .ref ec, .ref ef, .ref cki, .int e_limit, .int e_fresh, .int e_firstFree, .int e_held, .int e_mostHeld, .int e_made, .int e_reused, .int e_freed, .int e_doubled])), (ek, .inl (e1, 400, .inl gk)), (ec, .inl (e2, 400, .inl gc)), (ef, .inl (e3, 1200, .inr (.inl gv)))]) [0, 1, 2, 3] (by decide) rfl
    have hK9 := hK.sub (tys' := [(e1, .int), (e2, .int), (e3, .long)]) [0, 1, 2] rfl
    exact W.vret hx hb hr (fun t ht hW => ⟨⟨(gc, e_doubled), rfl, ⟨(zCS_R (fun c => by show R c + zr va c = R c; rw [zr_n hno9]; omega) hcs), by omega, by omega, (fun c => Int.le_refl _), ⟨gA, hZ_R hZA (fun x => by have h9 := zr_v2 hvr hno9 x; omega)⟩, (Or.inl ⟨hno9, by omega⟩)⟩, by rw [ht]; exact hP9, va_K.moved hW.alike hK9, hD9⟩, hS.F ht⟩) hS.2.2 dX1_copy_28
  · have ic_3 : r_1.toInt ≠ 0 := zi_ne c_3
    have hyes9 : zhs va = 2 := hq_2.elim (fun g => g.2) (fun g => absurd g.1 (by omega))
    have hge9 := hgd hyes9
    have hlv9 := zCS_li hcs (hrv hyes9)
    have hn9 := zn_nat hge9
    have hf4 := hcs.2.2.1
    have hlvA := hlA hyes9
    have hphA : ph (Int32.toNatClampNeg av.toInt32) = (Int32.toNatClampNeg va.toInt32) := (vr_c hvr hyes9).2.2.symm
    refine lv_aload_n hx hb dX1_copy_7 rfl (lv_at hl 0 rfl) ?_
    refine va_get (D := (dC, dI)) (ci := 1) (v := .ref ec) (C := RX1) (T := TX1) (N := 13) hx hb hA zin_X1 hown hK hP 0 rfl rfl 1 (by decide) (hA _ wi_436) (fun _ h9 => h9) rfl dX1_copy_8 ?_
    refine lv_lload_n hx hb dX1_copy_11 rfl (lv_at hl 1 rfl) ?_
    refine lv_l2i hx hb dX1_copy_12 rfl ?_
    refine lv_topi (fun x_4 ex_4 => ?_)
    have iv9 : x_4.toInt = (va.toInt32).toInt := by rw [ex_4]
    refine lv_dup2_11 hx hb dX1_copy_13 rfl rfl ?_
    refine va_iald hx hb hK hP 2 1 rfl rfl (vp_in_iff.mpr ⟨by omega, by omega⟩) dX1_copy_14 ?_
    refine lv_topi (fun x_5 ex_5 => ?_)
    have ix_5 : x_5.toInt = (gc (Int32.toNatClampNeg va.toInt32)).toInt := by rw [ex_5, ex_4]
    refine lv_iconst (v := 1) hx hb dX1_copy_15 (by decide) ?_
    refine lv_iadd hx hb dX1_copy_16 ?_
    refine lv_topi (fun x_6 ex_6 => ?_)
    have ix_6 : x_6.toInt = x_5.toInt + 1 := by rw [ex_6]; exact zi_addc (by decide) (by omega) (by omega)
    have icp9 : x_6.toInt = (gc (Int32.toNatClampNeg va.toInt32)).toInt + 1 := by omega
    refine va_iast hx hb hK hP hD hS 2 1 rfl rfl (vp_in_iff.mpr ⟨by omega, by omega⟩) dX1_copy_17 (fun H locs hP hD hS => ?_)
    obtain ⟨f_7, ef_7⟩ : ∃ gz9 : Nat → Int32, gz9 = upd gc (Int32.toNatClampNeg x_4) x_6 := ⟨_, rfl⟩
    rw [← ef_7] at hP hD
    have hP : va_P (dC, dI) vwCl [(h0, .inr (1, [.ref ek, .ref ec, .ref ef, .ref cki, .int e_limit, .int e_fresh, .int e_firstFree, .int e_held, .int e_mostHeld, .int e_made, .int e_reused, .int e_freed, .int e_doubled])), (ek, .inl (e1, 400, .inl gk)), (ec, .inl (e2, 400, .inl f_7)), (ef, .inl (e3, 1200, .inr (.inl gv)))] H := hP
    have hD : va_D A [(h0, .inr (1, [.ref ek, .ref ec, .ref ef, .ref cki, .int e_limit, .int e_fresh, .int e_firstFree, .int e_held, .int e_mostHeld, .int e_made, .int e_reused, .int e_freed, .int e_doubled])), (ek, .inl (e1, 400, .inl gk)), (ec, .inl (e2, 400, .inl f_7)), (ef, .inl (e3, 1200, .inr (.inl gv)))] := hD
    refine lv_aload_n hx hb dX1_copy_18 rfl (lv_at hl 0 rfl) ?_
    refine lv_dup hx hb dX1_copy_19 rfl ?_
    refine va_get (D := (dC, dI)) (ci := 1) (v := .int e_doubled) (C := RX1) (T := TX1) (N := 13) hx hb hA zin_X1 hown hK hP 0 rfl rfl 12 (by decide) (hA _ wi_455) (fun _ h9 => h9) rfl dX1_copy_20 ?_
    refine lv_iconst (v := 1) hx hb dX1_copy_23 (by decide) ?_
    refine lv_iadd hx hb dX1_copy_24 ?_
    refine lv_topi (fun x_8 ex_8 => ?_)
    have ix_8 : x_8.toInt = e_doubled.toInt + 1 := by rw [ex_8]; exact zi_addc (by decide) (by omega) (by omega)
    refine va_put (D := (dC, dI)) (ci := 1) (v := .int x_8) (ty := .int) (C := RX1) (T := TX1) (N := 13) hx hb hA zin_X1 tyX1 tyX1_ok nmX1 hown hK hP hD hS 0 rfl rfl 12 (by decide) (hA _ wi_455) (fun _ h9 => h9) rfl (by decide +kernel) rfl rfl (Nat.le_of_ble_eq_true rfl) dX1_copy_25 (fun H locs hP hD hS => ?_)
    have hP : va_P (dC, dI) vwCl [(h0, .inr (1, [.ref ek, .ref ec, .ref ef, .ref cki, .int e_limit, .int e_fresh, .int e_firstFree, .int e_held, .int e_mostHeld, .int e_made, .int e_reused, .int e_freed, .int x_8])), (ek, .inl (e1, 400, .inl gk)), (ec, .inl (e2, 400, .inl f_7)), (ef, .inl (e3, 1200, .inr (.inl gv)))] H := hP
    have hD : va_D A [(h0, .inr (1, [.ref ek, .ref ec, .ref ef, .ref cki, .int e_limit, .int e_fresh, .int e_firstFree, .int e_held, .int e_mostHeld, .int e_made, .int e_reused, .int e_freed, .int x_8])), (ek, .inl (e1, 400, .inl gk)), (ec, .inl (e2, 400, .inl f_7)), (ef, .inl (e3, 1200, .inr (.inl gv)))] := hD
    have hP9 := hP.sub (ws' := [(h0, .inr (1, [.ref ek, .ref ec, .ref ef, .ref cki, .int e_limit, .int e_fresh, .int e_firstFree, .int e_held, .int e_mostHeld, .int e_made, .int e_reused, .int e_freed, .int x_8])), (ek, .inl (e1, 400, .inl gk)), (ec, .inl (e2, 400, .inl f_7)), (ef, .inl (e3, 1200, .inr (.inl gv)))]) [0, 1, 2, 3] rfl
    have hD9 := hD.sub (ws' := [(h0, .inr (1, [.ref ek, .ref ec, .ref ef, .ref cki, .int e_limit, .int e_fresh, .int e_firstFree, .int e_held, .int e_mostHeld, .int e_made, .int e_reused, .int e_freed, .int x_8])), (ek, .inl (e1, 400, .inl gk)), (ec, .inl (e2, 400, .inl f_7)), (ef, .inl (e3, 1200, .inr (.inl gv)))]) [0, 1, 2, 3] (by decide) rfl
    have hK9 := hK.sub (tys' := [(e1, .int), (e2, .int), (e3, .long)]) [0, 1, 2] rfl
    exact W.vret hx hb hr (fun t ht hW => ⟨⟨(f_7, x_8), rfl, ⟨(zCS_R (fun c => by show R c + zr va c = _; rw [zr_c hyes9 hge9]) (zCS_copy hcs hlv9.1 (by rw [ef_7, ex_4]) icp9 (by omega))), by omega, by omega, (zup_le ef_7 (by rw [ex_4]; omega)), ⟨_, hZ_R (hZ_copy (x := (Int32.toNatClampNeg av.toInt32)) hZA hlvA (by rw [hphA, ef_7, ex_4, zu_s]; exact icp9) (fun y hy => by rw [ef_7, ex_4, zu_n (by rw [← hphA]; exact hy)])) (fun x => by rw [zr_w2 hvr hyes9])⟩, (Or.inr ⟨hyes9, by omega⟩)⟩, by rw [ht]; exact hP9, va_K.moved hW.alike hK9, hD9⟩, hS.F ht⟩) hS.2.2 dX1_copy_28
set_option maxHeartbeats 4000000 in
set_option maxRecDepth 100000 in
theorem c_X1_lower_z (l : Launch) (dC : Nat → ClassId) (dI : Nat → Nat → Nat) (aK aV : Nat → Nat) (h0 : Nat) (ek : Nat) (ec : Nat) (ef : Nat) (cki : Nat) (e1 : ClassId) (e2 : ClassId) (e3 : ClassId) (e_limit : Int32) (e_fresh : Int32) (e_firstFree : Int32) (e_held : Int32) (e_mostHeld : Int32) (e_made : Int32) (e_reused : Int32) (e_freed : Int32) (e_doubled : Int32) (gk : Nat → Int32) (gc : Nat → Int32) (gv : Nat → Int64) (va : Int64) (dm : Int32) (wd : Nat → Nat) (lv : Nat → Bool) (R : Nat → Int) (FL : List Nat) (DL : List Nat) (R2 : Nat → Int) (ph : Nat → Nat) (lA : Nat → Bool) (gA : Nat → Int) (nc : Nat) (wA : Nat → Nat) (kA : Nat → Int32) (cA : Nat → Int64) (SI : List Nat) (R2A : Nat → Int) (av : Int64) (DA : List Nat) (sz : Nat) (hcs : zCS wd gc gv e_fresh e_firstFree e_held e_doubled lv R FL DL dm) (hgd : zhs va = 2 → 0 ≤ (va.toInt32).toInt) (hR : ∀ c, R c = R2 c + zr va c) (h2 : ∀ c, 0 ≤ R2 c) (hdb : e_doubled.toInt < 1000000) (hZA : hZ ph lA gA nc wA kA cA (fun x => R2A x + zdl wA cA DA x + zr av x) (DA ++ SI) gk gc gv) (hKA : hKf ph lA nc (DA ++ SI) FL (Int32.toInt e_fresh) (Int32.toInt e_held)) (h2A : ∀ x, 0 ≤ R2A x) (hvr : vr ph av va) (hDL : DL = DA.map ph) : Met l yX1_lower (Cond.code yX1_lower cX1_lower 5 (some .int) :: zw) ({ frames := 10, cells := 0, slots := 0, locals := 300 }) (va_Pc [.ref h0, .long va, .int dm] (zP dC dI aK aV sz [(e1, .int), (e2, .int), (e3, .long)] [(h0, .inr (1, [.ref ek, .ref ec, .ref ef, .ref cki, .int e_limit, .int e_fresh, .int e_firstFree, .int e_held, .int e_mostHeld, .int e_made, .int e_reused, .int e_freed, .int e_doubled])), (ek, .inl (e1, 400, .inl gk)), (ec, .inl (e2, 400, .inl gc)), (ef, .inl (e3, 1200, .inr (.inl gv)))])) (va_Qi (fun (r : Int32) (u : (Nat → Int32)) => match u with | gc2 => (∃ (lv2 : Nat → Bool) (DL2 : List Nat) (lA2 : Nat → Bool) (gA2 : Nat → Int) (DA2 : List Nat), (zCS wd gc2 gv e_fresh e_firstFree e_held e_doubled lv2 R2 FL DL2 r ∧ (∀ c, lv2 c = true → lv c = true) ∧ ∀ c, c ∈ DL2 → c ∈ DL ∨ lv c = true) ∧ DL2 = DA2.map ph ∧ hZ ph lA2 gA2 nc wA kA cA (fun x => R2A x + zdl wA cA DA2 x) (DA2 ++ SI) gk gc2 gv ∧ hKf ph lA2 nc (DA2 ++ SI) FL (Int32.toInt e_fresh) (Int32.toInt e_held) ∧ (∀ x, lA2 x = true ∨ x ∈ DA2 → lA x = true ∨ x ∈ DA))) (fun u => match u with | gc2 => zQ dC dI (va_A [(h0, .inr (1, [.ref ek, .ref ec, .ref ef, .ref cki, .int e_limit, .int e_fresh, .int e_firstFree, .int e_held, .int e_mostHeld, .int e_made, .int e_reused, .int e_freed, .int e_doubled])), (ek, .inl (e1, 400, .inl gk)), (ec, .inl (e2, 400, .inl gc)), (ef, .inl (e3, 1200, .inr (.inl gv)))] sz) [(e1, .int), (e2, .int), (e3, .long)] [(h0, .inr (1, [.ref ek, .ref ec, .ref ef, .ref cki, .int e_limit, .int e_fresh, .int e_firstFree, .int e_held, .int e_mostHeld, .int e_made, .int e_reused, .int e_freed, .int e_doubled])), (ek, .inl (e1, 400, .inl gk)), (ec, .inl (e2, 400, .inl gc2)), (ef, .inl (e3, 1200, .inr (.inl gv)))]) (va_A [(h0, .inr (1, [.ref ek, .ref ec, .ref ef, .ref cki, .int e_limit, .int e_fresh, .int e_firstFree, .int e_held, .int e_mostHeld, .int e_made, .int e_reused, .int e_freed, .int e_doubled])), (ek, .inl (e1, 400, .inl gk)), (ec, .inl (e2, 400, .inl gc)), (ef, .inl (e3, 1200, .inr (.inl gv)))] sz)) 0 0 (va_A [(h0, .inr (1, [.ref ek, .ref ec, .ref ef, .ref cki, .int e_limit, .int e_fresh, .int e_firstFree, .int e_held, .int e_mostHeld, .int e_made, .int e_reused, .int e_freed, .int e_doubled])), (ek, .inl (e1, 400, .inl gk)), (ec, .inl (e2, 400, .inl gc)), (ef, .inl (e3, 1200, .inr (.inl gv)))] sz) := by
  refine Met.ofW (cc := cX1_lower) (maxL := 5) (ret := (some .int)) (by decide) rfl ?_
  intro p e s m args below meth c s₁ B hml hv
  obtain ⟨rfl, hsz, hP, hK, hD0, hN, hT⟩ := hv
  have hx := B.exec
  have hb := B.bytes
  have hr := B.returns
  have hts := atoms_spec (ws := Cond.code yX1_lower cX1_lower 5 (some .int) :: zw) B.pre
  have hA : ∀ w ∈ zw, w.before _ s = true := fun w h => hts w (List.mem_cons_of_mem _ h)
  have hown : s.vm.findClass RX1 = some m.cls := findClass_of_methodNamed B.named
  have hlocks := B.notSynchronized
  subst hsz
  have hD := hD0.self (sz := s.heap.size)
  generalize hAe : va_A [(h0, .inr (1, [.ref ek, .ref ec, .ref ef, .ref cki, .int e_limit, .int e_fresh, .int e_firstFree, .int e_held, .int e_mostHeld, .int e_made, .int e_reused, .int e_freed, .int e_doubled])), (ek, .inl (e1, 400, .inl gk)), (ec, .inl (e2, 400, .inl gc)), (ef, .inl (e3, 1200, .inr (.inl gv)))] s.heap.size = A at hD hT ⊢
  have hAA : ∀ q : Nat, s.heap.size ≤ q → A q := fun q h => by rw [← hAe]; exact Or.inr h
  have hS : va_S A s.heap s.heap [] := va_S.rf
  have hl := lv_entry ([.ref h0, .long va, .int dm]) (n := 5) (Nat.le_of_ble_eq_true rfl)
  rw [lg_entry_eq]
  generalize (lg_sl ([.ref h0, .long va, .int dm]) ++ List.replicate (5 - (lg_sl ([.ref h0, .long va, .int dm])).length) Slot.unset).toArray = ls at hl ⊢
  have hl : lv_has ls 5 [(0, .ref h0), (1, .long va), (3, .int dm)] := hl
  refine lv_lload_n hx hb dX1_lower_0 rfl (lv_at hl 1 rfl) ?_
  have hPc := hP.sub (ws' := []) [] rfl
  have hDc := hD.sub (ws' := []) [] (by decide) rfl
  have hKc := hK.sub (tys' := []) [] rfl
  have hFc := va_free (wc := []) hD hS hAA [] rfl
  refine va_calli (va_runS (As := [.long va]) (rest := []) ⟨hx, hb, hml, hown, hA⟩ (c_X1_isCell_x l dC dI aK aV va s.heap.size) (va_cwS 1 hA (zw_S wi_1146 wi_1147 wi_140 (zw_good wi_1148)) rfl rfl rfl (by decide +kernel) ⟨(Nat.le_of_ble_eq_true rfl), (Nat.le_of_ble_eq_true rfl)⟩) ⟨zP_blind, zz_pre hKc hPc hDc hN hT hS hFc⟩ rfl rfl hl.1 rfl (lv_room (Nat.le_of_ble_eq_true rfl)) dX1_lower_1 ⟨(Nat.le_of_ble_eq_true rfl), (Nat.le_of_ble_eq_true rfl)⟩) hS (fun q _ h => hFc q h) hFc (fun r_1 u t H1 locs ht hvm hw hB hz1 hk1 hS => ?_)
  obtain ⟨hP1, hK1, hD1⟩ := hB
  rw [ht] at hP1
  have hK1 := va_K.moved hvm.symm hK1
  obtain ⟨hP, hD⟩ := va_join (wr := [(h0, .inr (1, [.ref ek, .ref ec, .ref ef, .ref cki, .int e_limit, .int e_fresh, .int e_firstFree, .int e_held, .int e_mostHeld, .int e_made, .int e_reused, .int e_freed, .int e_doubled])), (ek, .inl (e1, 400, .inl gk)), (ec, .inl (e2, 400, .inl gc)), (ef, .inl (e3, 1200, .inr (.inl gv)))]) (w1 := []) hP hD [] [0, 1, 2, 3] rfl rfl (by decide) (by decide) hk1 hFc hP1 hD1
  have hK := (hK.sub (tys' := [(e1, .int), (e2, .int), (e3, .long)]) [0, 1, 2] rfl).app hK1
  generalize H1 = H at hP hS ⊢
  have hP : va_P (dC, dI) vwCl [(h0, .inr (1, [.ref ek, .ref ec, .ref ef, .ref cki, .int e_limit, .int e_fresh, .int e_firstFree, .int e_held, .int e_mostHeld, .int e_made, .int e_reused, .int e_freed, .int e_doubled])), (ek, .inl (e1, 400, .inl gk)), (ec, .inl (e2, 400, .inl gc)), (ef, .inl (e3, 1200, .inr (.inl gv)))] H := hP
  have hD : va_D A [(h0, .inr (1, [.ref ek, .ref ec, .ref ef, .ref cki, .int e_limit, .int e_fresh, .int e_firstFree, .int e_held, .int e_mostHeld, .int e_made, .int e_reused, .int e_freed, .int e_doubled])), (ek, .inl (e1, 400, .inl gk)), (ec, .inl (e2, 400, .inl gc)), (ef, .inl (e3, 1200, .inr (.inl gv)))] := hD
  have hK : va_K (dC, dI) vwCl [(e1, .int), (e2, .int), (e3, .long)] s := hK
  have hw_r_1 := hw
  try dsimp only at hw_r_1
  have hq_2 := hw
  refine lv_if_ne (tgt := 9) hx hb dX1_lower_4 (by decide) (fun c_3 => ?_) (fun c_3 => ?_)
  · have ic_3 : r_1.toInt ≠ 0 := zi_ne c_3
    have hyes9 : zhs va = 2 := hq_2.elim (fun g => g.2) (fun g => absurd g.1 (by omega))
    have hge9 := hgd hyes9
    have hn9 := zn_nat hge9
    have hlv9 := zCS_lv (x := (Int32.toNatClampNeg va.toInt32)) hcs (by rw [hR (Int32.toNatClampNeg va.toInt32), zr_c hyes9 hge9, if_pos rfl]; have := h2 (Int32.toNatClampNeg va.toInt32); omega)
    have hf4 := hcs.2.2.1
    have hphA : ph (Int32.toNatClampNeg av.toInt32) = (Int32.toNatClampNeg va.toInt32) := (vr_c hvr hyes9).2.2.symm
    have hlvA : lA (Int32.toNatClampNeg av.toInt32) = true := hZ_lv hZA (by have h7 := zr_w2 hvr hyes9 (Int32.toNatClampNeg av.toInt32); rw [if_pos rfl] at h7; have h8 := h2A (Int32.toNatClampNeg av.toInt32); have h9 := zdl_0 (wd := wA) (gv := cA) (l := DA) (c := (Int32.toNatClampNeg av.toInt32)); show 1 ≤ R2A _ + zdl wA cA DA _ + zr av _; omega)
    refine lv_lload_n hx hb dX1_lower_9 rfl (lv_at hl 1 rfl) ?_
    refine lv_l2i hx hb dX1_lower_10 rfl ?_
    refine lv_topi (fun x_4 ex_4 => ?_)
    have iv9 : x_4.toInt = (va.toInt32).toInt := by rw [ex_4]
    refine lv_istore (lv' := [(4, .int x_4), (0, .ref h0), (1, .long va), (3, .int dm)]) hx hb dX1_lower_11 hl (by decide) rfl (fun ls hl => ?_)
    refine lv_aload_n hx hb dX1_lower_13 rfl (lv_at hl 1 rfl) ?_
    refine va_get (D := (dC, dI)) (ci := 1) (v := .ref ec) (C := RX1) (T := TX1) (N := 13) hx hb hA zin_X1 hown hK hP 0 rfl rfl 1 (by decide) (hA _ wi_436) (fun _ h9 => h9) rfl dX1_lower_14 ?_
    refine lv_iload hx hb dX1_lower_17 (lv_at hl 0 rfl) ?_
    refine lv_dup2_11 hx hb dX1_lower_19 rfl rfl ?_
    refine va_iald hx hb hK hP 2 1 rfl rfl (vp_in_iff.mpr ⟨by omega, by omega⟩) dX1_lower_20 ?_
    refine lv_topi (fun x_5 ex_5 => ?_)
    have ix_5 : x_5.toInt = (gc (Int32.toNatClampNeg va.toInt32)).toInt := by rw [ex_5, ex_4]
    refine lv_iconst (v := 1) hx hb dX1_lower_21 (by decide) ?_
    refine lv_isub hx hb dX1_lower_22 ?_
    refine lv_topi (fun x_6 ex_6 => ?_)
    have ix_6 : x_6.toInt = x_5.toInt - 1 := by rw [ex_6]; exact zi_subc (by decide) (by omega) (by omega)
    refine va_iast hx hb hK hP hD hS 2 1 rfl rfl (vp_in_iff.mpr ⟨by omega, by omega⟩) dX1_lower_23 (fun H locs hP hD hS => ?_)
    obtain ⟨f_7, ef_7⟩ : ∃ gz9 : Nat → Int32, gz9 = upd gc (Int32.toNatClampNeg x_4) x_6 := ⟨_, rfl⟩
    rw [← ef_7] at hP hD
    have hP : va_P (dC, dI) vwCl [(h0, .inr (1, [.ref ek, .ref ec, .ref ef, .ref cki, .int e_limit, .int e_fresh, .int e_firstFree, .int e_held, .int e_mostHeld, .int e_made, .int e_reused, .int e_freed, .int e_doubled])), (ek, .inl (e1, 400, .inl gk)), (ec, .inl (e2, 400, .inl f_7)), (ef, .inl (e3, 1200, .inr (.inl gv)))] H := hP
    have hD : va_D A [(h0, .inr (1, [.ref ek, .ref ec, .ref ef, .ref cki, .int e_limit, .int e_fresh, .int e_firstFree, .int e_held, .int e_mostHeld, .int e_made, .int e_reused, .int e_freed, .int e_doubled])), (ek, .inl (e1, 400, .inl gk)), (ec, .inl (e2, 400, .inl f_7)), (ef, .inl (e3, 1200, .inr (.inl gv)))] := hD
    refine lv_aload_n hx hb dX1_lower_24 rfl (lv_at hl 1 rfl) ?_
    refine va_get (D := (dC, dI)) (ci := 1) (v := .ref ec) (C := RX1) (T := TX1) (N := 13) hx hb hA zin_X1 hown hK hP 0 rfl rfl 1 (by decide) (hA _ wi_436) (fun _ h9 => h9) rfl dX1_lower_25 ?_
    refine lv_iload hx hb dX1_lower_28 (lv_at hl 0 rfl) ?_
    refine va_iald hx hb hK hP 2 1 rfl rfl (vp_in_iff.mpr ⟨by omega, by omega⟩) dX1_lower_30 ?_
    refine lv_topi (fun x_8 ex_8 => ?_)
    have ix_8 : x_8.toInt = x_6.toInt := by rw [ex_8, ef_7]; exact congrArg Int32.toInt pk_us
    refine lv_if_le (tgt := 36) hx hb dX1_lower_31 (by decide) (fun c_9 => ?_) (fun c_9 => ?_)
    · have ic_9 : x_8.toInt ≤ 0 := zi_le c_9
      refine lv_aload_n hx hb dX1_lower_36 rfl (lv_at hl 1 rfl) ?_
      refine va_get (D := (dC, dI)) (ci := 1) (v := .ref ec) (C := RX1) (T := TX1) (N := 13) hx hb hA zin_X1 hown hK hP 0 rfl rfl 1 (by decide) (hA _ wi_436) (fun _ h9 => h9) rfl dX1_lower_37 ?_
      refine lv_iload hx hb dX1_lower_40 (lv_at hl 0 rfl) ?_
      refine lv_iload_n hx hb dX1_lower_42 rfl (lv_at hl 3 rfl) ?_
      refine va_iast hx hb hK hP hD hS 2 1 rfl rfl (vp_in_iff.mpr ⟨by omega, by omega⟩) dX1_lower_43 (fun H locs hP hD hS => ?_)
      obtain ⟨f_10, ef_10⟩ : ∃ gz9 : Nat → Int32, gz9 = upd f_7 (Int32.toNatClampNeg x_4) dm := ⟨_, rfl⟩
      rw [← ef_10] at hP hD
      have hP : va_P (dC, dI) vwCl [(h0, .inr (1, [.ref ek, .ref ec, .ref ef, .ref cki, .int e_limit, .int e_fresh, .int e_firstFree, .int e_held, .int e_mostHeld, .int e_made, .int e_reused, .int e_freed, .int e_doubled])), (ek, .inl (e1, 400, .inl gk)), (ec, .inl (e2, 400, .inl f_10)), (ef, .inl (e3, 1200, .inr (.inl gv)))] H := hP
      have hD : va_D A [(h0, .inr (1, [.ref ek, .ref ec, .ref ef, .ref cki, .int e_limit, .int e_fresh, .int e_firstFree, .int e_held, .int e_mostHeld, .int e_made, .int e_reused, .int e_freed, .int e_doubled])), (ek, .inl (e1, 400, .inl gk)), (ec, .inl (e2, 400, .inl f_10)), (ef, .inl (e3, 1200, .inr (.inl gv)))] := hD
      refine lv_iload hx hb dX1_lower_44 (lv_at hl 0 rfl) ?_
      have hP9 := hP.sub (ws' := [(h0, .inr (1, [.ref ek, .ref ec, .ref ef, .ref cki, .int e_limit, .int e_fresh, .int e_firstFree, .int e_held, .int e_mostHeld, .int e_made, .int e_reused, .int e_freed, .int e_doubled])), (ek, .inl (e1, 400, .inl gk)), (ec, .inl (e2, 400, .inl f_10)), (ef, .inl (e3, 1200, .inr (.inl gv)))]) [0, 1, 2, 3] rfl
      have hD9 := hD.sub (ws' := [(h0, .inr (1, [.ref ek, .ref ec, .ref ef, .ref cki, .int e_limit, .int e_fresh, .int e_firstFree, .int e_held, .int e_mostHeld, .int e_made, .int e_reused, .int e_freed, .int e_doubled])), (ek, .inl (e1, 400, .inl gk)), (ec, .inl (e2, 400, .inl f_10)), (ef, .inl (e3, 1200, .inr (.inl gv)))]) [0, 1, 2, 3] (by decide) rfl
      have hK9 := hK.sub (tys' := [(e1, .int), (e2, .int), (e3, .long)]) [0, 1, 2] rfl
      exact W.iret (v := x_4) hx hb hr (fun t ht hW => ⟨⟨x_4, (f_10), rfl, (by have hdz := hZ_dsh2 (gc2 := f_10) (R2 := fun x => R2A x + zdl wA cA DA x) (x := (Int32.toNatClampNeg av.toInt32)) hZA (fun y => by rw [zr_w2 hvr hyes9]) (fun y => by have h8 := h2A y; have h9 := zdl_0 (wd := wA) (gv := cA) (l := DA) (c := y); omega) hlvA (by rw [hphA]; omega) (fun y hy => by rw [ef_10, ef_7, zu_uu, ex_4, zu_n (by rw [← hphA]; exact hy)]); exact ⟨_, _, _, gA, (Int32.toNatClampNeg av.toInt32) :: DA, ⟨zCS_die hcs (fun c => by rw [hR c, zr_c hyes9 hge9]) h2 (by omega) (by rw [ef_10, ef_7, zu_uu, ex_4]) (by omega), fun c h => zlv_if h, fun c h => (List.mem_cons.mp h).elim (fun g => Or.inr (by rw [g]; exact hlv9.1)) Or.inl⟩, by rw [List.map_cons, hphA, hDL], hZ_R hdz.1 (fun x => by show R2A x + (zcf zr wA cA (Int32.toNatClampNeg av.toInt32) x + zdl wA cA DA x) = _; omega), hK_die hZA hKA hlvA, fun x h => h.elim (fun g => Or.inl (by by_cases q : x = (Int32.toNatClampNeg av.toInt32); (rw [q, hU_s] at g; cases g); rw [hU_n q] at g; exact g)) (fun g => (List.mem_cons.mp g).elim (fun q => Or.inl (by rw [q]; exact hlvA)) Or.inr)⟩), by rw [ht]; exact hP9, va_K.moved hW.alike hK9, hD9⟩, hS.F ht⟩) hS.2.2 dX1_lower_46
    · have ic_9 : 0 < x_8.toInt := zi_nle c_9
      refine lv_iload_n hx hb dX1_lower_34 rfl (lv_at hl 3 rfl) ?_
      have hP9 := hP.sub (ws' := [(h0, .inr (1, [.ref ek, .ref ec, .ref ef, .ref cki, .int e_limit, .int e_fresh, .int e_firstFree, .int e_held, .int e_mostHeld, .int e_made, .int e_reused, .int e_freed, .int e_doubled])), (ek, .inl (e1, 400, .inl gk)), (ec, .inl (e2, 400, .inl f_7)), (ef, .inl (e3, 1200, .inr (.inl gv)))]) [0, 1, 2, 3] rfl
      have hD9 := hD.sub (ws' := [(h0, .inr (1, [.ref ek, .ref ec, .ref ef, .ref cki, .int e_limit, .int e_fresh, .int e_firstFree, .int e_held, .int e_mostHeld, .int e_made, .int e_reused, .int e_freed, .int e_doubled])), (ek, .inl (e1, 400, .inl gk)), (ec, .inl (e2, 400, .inl f_7)), (ef, .inl (e3, 1200, .inr (.inl gv)))]) [0, 1, 2, 3] (by decide) rfl
      have hK9 := hK.sub (tys' := [(e1, .int), (e2, .int), (e3, .long)]) [0, 1, 2] rfl
      exact W.iret (v := dm) hx hb hr (fun t ht hW => ⟨⟨dm, (f_7), rfl, ⟨lv, DL, lA, _, DA, ⟨zCS_dec hcs (fun c => by rw [hR c, zr_c hyes9 hge9]) h2 (by rw [ef_7, ex_4]) (by omega) (by omega), fun _ h => h, fun _ h => Or.inl h⟩, hDL, hZ_dec (R2 := fun x => R2A x + zdl wA cA DA x) (x := (Int32.toNatClampNeg av.toInt32)) hZA (fun y => by rw [zr_w2 hvr hyes9]) (fun y => by have h8 := h2A y; have h9 := zdl_0 (wd := wA) (gv := cA) (l := DA) (c := y); omega) hlvA (by rw [hphA, ef_7, ex_4, zu_s]; omega) (by rw [hphA, ef_7, ex_4, zu_s]; omega) (fun y hy => by rw [ef_7, ex_4, zu_n (by rw [← hphA]; exact hy)]), hKA, fun _ h => h⟩, by rw [ht]; exact hP9, va_K.moved hW.alike hK9, hD9⟩, hS.F ht⟩) hS.2.2 dX1_lower_35
  · have ic_3 : r_1.toInt = 0 := zi_eq c_3
    have hno9 : zhs va ≠ 2 := hq_2.elim (fun g => absurd g.1 (by omega)) (fun g => g.2)
    refine lv_iload_n hx hb dX1_lower_7 rfl (lv_at hl 2 rfl) ?_
    have hP9 := hP.sub (ws' := [(h0, .inr (1, [.ref ek, .ref ec, .ref ef, .ref cki, .int e_limit, .int e_fresh, .int e_firstFree, .int e_held, .int e_mostHeld, .int e_made, .int e_reused, .int e_freed, .int e_doubled])), (ek, .inl (e1, 400, .inl gk)), (ec, .inl (e2, 400, .inl gc)), (ef, .inl (e3, 1200, .inr (.inl gv)))]) [0, 1, 2, 3] rfl
    have hD9 := hD.sub (ws' := [(h0, .inr (1, [.ref ek, .ref ec, .ref ef, .ref cki, .int e_limit, .int e_fresh, .int e_firstFree, .int e_held, .int e_mostHeld, .int e_made, .int e_reused, .int e_freed, .int e_doubled])), (ek, .inl (e1, 400, .inl gk)), (ec, .inl (e2, 400, .inl gc)), (ef, .inl (e3, 1200, .inr (.inl gv)))]) [0, 1, 2, 3] (by decide) rfl
    have hK9 := hK.sub (tys' := [(e1, .int), (e2, .int), (e3, .long)]) [0, 1, 2] rfl
    exact W.iret (v := dm) hx hb hr (fun t ht hW => ⟨⟨dm, (gc), rfl, ⟨lv, DL, lA, gA, DA, ⟨zCS_R (fun c => by rw [hR c, zr_n hno9]; omega) hcs, fun _ h => h, fun _ h => Or.inl h⟩, hDL, hZ_R hZA (fun x => by have h9 := zr_v2 hvr hno9 x; omega), hKA, fun _ h => h⟩, by rw [ht]; exact hP9, va_K.moved hW.alike hK9, hD9⟩, hS.F ht⟩) hS.2.2 dX1_lower_8
set_option maxHeartbeats 4000000 in
set_option maxRecDepth 100000 in
theorem c_X1_free_z (l : Launch) (dC : Nat → ClassId) (dI : Nat → Nat → Nat) (aK aV : Nat → Nat) (h0 : Nat) (ek : Nat) (ec : Nat) (ef : Nat) (cki : Nat) (e1 : ClassId) (e2 : ClassId) (e3 : ClassId) (e_limit : Int32) (e_fresh : Int32) (e_firstFree : Int32) (e_held : Int32) (e_mostHeld : Int32) (e_made : Int32) (e_reused : Int32) (e_freed : Int32) (e_doubled : Int32) (gk : Nat → Int32) (gc : Nat → Int32) (gv : Nat → Int64) (ce : Int32) (wd : Nat → Nat) (lv : Nat → Bool) (R : Nat → Int) (FL : List Nat) (DL : List Nat) (dm : Int32) (sz : Nat) (hcs : zCS wd gc gv e_fresh e_firstFree e_held e_doubled lv R FL DL dm) (hlx : lv (Int32.toNatClampNeg ce) = false) (hxn : Int32.toNatClampNeg ce ∉ FL ++ DL) (hc0 : 0 ≤ ce.toInt) (hc1 : ce.toInt < e_fresh.toInt) (hfd0 : 0 ≤ e_freed.toInt) (hfd1 : e_freed.toInt ≤ 1001000) : Met l yX1_free (Cond.code yX1_free cX1_free 2 none :: zw) ({ frames := 8, cells := 0, slots := 0, locals := 200 }) (va_Pc [.ref h0, .int ce] (zP dC dI aK aV sz [(e1, .int), (e2, .int), (e3, .long)] [(h0, .inr (1, [.ref ek, .ref ec, .ref ef, .ref cki, .int e_limit, .int e_fresh, .int e_firstFree, .int e_held, .int e_mostHeld, .int e_made, .int e_reused, .int e_freed, .int e_doubled])), (ek, .inl (e1, 400, .inl gk)), (ec, .inl (e2, 400, .inl gc)), (ef, .inl (e3, 1200, .inr (.inl gv)))])) (va_Qv (fun u : (Nat → Int32) × Int32 × Int32 => match u with | (gc2, he2, fd2) => (zCS wd gc2 gv e_fresh ce he2 e_doubled lv R (Int32.toNatClampNeg ce :: FL) DL dm) ∧ (gc2 = upd gc (Int32.toNatClampNeg ce) e_firstFree) ∧ (he2.toInt = e_held.toInt - 1) ∧ (fd2.toInt = e_freed.toInt + 1)) (fun u => match u with | (gc2, he2, fd2) => zQ dC dI (va_A [(h0, .inr (1, [.ref ek, .ref ec, .ref ef, .ref cki, .int e_limit, .int e_fresh, .int e_firstFree, .int e_held, .int e_mostHeld, .int e_made, .int e_reused, .int e_freed, .int e_doubled])), (ek, .inl (e1, 400, .inl gk)), (ec, .inl (e2, 400, .inl gc)), (ef, .inl (e3, 1200, .inr (.inl gv)))] sz) [(e1, .int), (e2, .int), (e3, .long)] [(h0, .inr (1, [.ref ek, .ref ec, .ref ef, .ref cki, .int e_limit, .int e_fresh, .int ce, .int he2, .int e_mostHeld, .int e_made, .int e_reused, .int fd2, .int e_doubled])), (ek, .inl (e1, 400, .inl gk)), (ec, .inl (e2, 400, .inl gc2)), (ef, .inl (e3, 1200, .inr (.inl gv)))]) (va_A [(h0, .inr (1, [.ref ek, .ref ec, .ref ef, .ref cki, .int e_limit, .int e_fresh, .int e_firstFree, .int e_held, .int e_mostHeld, .int e_made, .int e_reused, .int e_freed, .int e_doubled])), (ek, .inl (e1, 400, .inl gk)), (ec, .inl (e2, 400, .inl gc)), (ef, .inl (e3, 1200, .inr (.inl gv)))] sz)) 0 0 (va_A [(h0, .inr (1, [.ref ek, .ref ec, .ref ef, .ref cki, .int e_limit, .int e_fresh, .int e_firstFree, .int e_held, .int e_mostHeld, .int e_made, .int e_reused, .int e_freed, .int e_doubled])), (ek, .inl (e1, 400, .inl gk)), (ec, .inl (e2, 400, .inl gc)), (ef, .inl (e3, 1200, .inr (.inl gv)))] sz) := by
  refine Met.ofW (cc := cX1_free) (maxL := 2) (ret := none) (by decide) rfl ?_
  intro p e s m args below meth c s₁ B hml hv
  obtain ⟨rfl, hsz, hP, hK, hD0, hN, hT⟩ := hv
  have hx := B.exec
  have hb := B.bytes
  have hr := B.returns
  have hts := atoms_spec (ws := Cond.code yX1_free cX1_free 2 none :: zw) B.pre
  have hA : ∀ w ∈ zw, w.before _ s = true := fun w h => hts w (List.mem_cons_of_mem _ h)
  have hown : s.vm.findClass RX1 = some m.cls := findClass_of_methodNamed B.named
  have hlocks := B.notSynchronized
  subst hsz
  have hD := hD0.self (sz := s.heap.size)
  generalize hAe : va_A [(h0, .inr (1, [.ref ek, .ref ec, .ref ef, .ref cki, .int e_limit, .int e_fresh, .int e_firstFree, .int e_held, .int e_mostHeld, .int e_made, .int e_reused, .int e_freed, .int e_doubled])), (ek, .inl (e1, 400, .inl gk)), (ec, .inl (e2, 400, .inl gc)), (ef, .inl (e3, 1200, .inr (.inl gv)))] s.heap.size = A at hD hT ⊢
  have hAA : ∀ q : Nat, s.heap.size ≤ q → A q := fun q h => by rw [← hAe]; exact Or.inr h
  have hS : va_S A s.heap s.heap [] := va_S.rf
  have hl := lv_entry ([.ref h0, .int ce]) (n := 2) (Nat.le_of_ble_eq_true rfl)
  rw [lg_entry_eq]
  generalize (lg_sl ([.ref h0, .int ce]) ++ List.replicate (2 - (lg_sl ([.ref h0, .int ce])).length) Slot.unset).toArray = ls at hl ⊢
  have hl : lv_has ls 2 [(0, .ref h0), (1, .int ce)] := hl
  refine lv_aload_n hx hb dX1_free_0 rfl (lv_at hl 0 rfl) ?_
  have hhe9 := zCS_held hcs
  refine va_get (D := (dC, dI)) (ci := 1) (v := .ref ec) (C := RX1) (T := TX1) (N := 13) hx hb hA zin_X1 hown hK hP 0 rfl rfl 1 (by decide) (hA _ wi_436) (fun _ h9 => h9) rfl dX1_free_1 ?_
  refine lv_iload_n hx hb dX1_free_4 rfl (lv_at hl 1 rfl) ?_
  refine lv_aload_n hx hb dX1_free_5 rfl (lv_at hl 0 rfl) ?_
  refine va_get (D := (dC, dI)) (ci := 1) (v := .int e_firstFree) (C := RX1) (T := TX1) (N := 13) hx hb hA zin_X1 hown hK hP 0 rfl rfl 6 (by decide) (hA _ wi_443) (fun _ h9 => h9) rfl dX1_free_6 ?_
  refine va_iast hx hb hK hP hD hS 2 1 rfl rfl (vp_in_iff.mpr ⟨by omega, by omega⟩) dX1_free_9 (fun H locs hP hD hS => ?_)
  obtain ⟨f_1, ef_1⟩ : ∃ gz9 : Nat → Int32, gz9 = upd gc (Int32.toNatClampNeg ce) e_firstFree := ⟨_, rfl⟩
  rw [← ef_1] at hP hD
  have hP : va_P (dC, dI) vwCl [(h0, .inr (1, [.ref ek, .ref ec, .ref ef, .ref cki, .int e_limit, .int e_fresh, .int e_firstFree, .int e_held, .int e_mostHeld, .int e_made, .int e_reused, .int e_freed, .int e_doubled])), (ek, .inl (e1, 400, .inl gk)), (ec, .inl (e2, 400, .inl f_1)), (ef, .inl (e3, 1200, .inr (.inl gv)))] H := hP
  have hD : va_D A [(h0, .inr (1, [.ref ek, .ref ec, .ref ef, .ref cki, .int e_limit, .int e_fresh, .int e_firstFree, .int e_held, .int e_mostHeld, .int e_made, .int e_reused, .int e_freed, .int e_doubled])), (ek, .inl (e1, 400, .inl gk)), (ec, .inl (e2, 400, .inl f_1)), (ef, .inl (e3, 1200, .inr (.inl gv)))] := hD
  refine lv_aload_n hx hb dX1_free_10 rfl (lv_at hl 0 rfl) ?_
  refine lv_iload_n hx hb dX1_free_11 rfl (lv_at hl 1 rfl) ?_
  refine va_put (D := (dC, dI)) (ci := 1) (v := .int ce) (ty := .int) (C := RX1) (T := TX1) (N := 13) hx hb hA zin_X1 tyX1 tyX1_ok nmX1 hown hK hP hD hS 0 rfl rfl 6 (by decide) (hA _ wi_443) (fun _ h9 => h9) rfl (by decide +kernel) rfl rfl (Nat.le_of_ble_eq_true rfl) dX1_free_12 (fun H locs hP hD hS => ?_)
  have hP : va_P (dC, dI) vwCl [(h0, .inr (1, [.ref ek, .ref ec, .ref ef, .ref cki, .int e_limit, .int e_fresh, .int ce, .int e_held, .int e_mostHeld, .int e_made, .int e_reused, .int e_freed, .int e_doubled])), (ek, .inl (e1, 400, .inl gk)), (ec, .inl (e2, 400, .inl f_1)), (ef, .inl (e3, 1200, .inr (.inl gv)))] H := hP
  have hD : va_D A [(h0, .inr (1, [.ref ek, .ref ec, .ref ef, .ref cki, .int e_limit, .int e_fresh, .int ce, .int e_held, .int e_mostHeld, .int e_made, .int e_reused, .int e_freed, .int e_doubled])), (ek, .inl (e1, 400, .inl gk)), (ec, .inl (e2, 400, .inl f_1)), (ef, .inl (e3, 1200, .inr (.inl gv)))] := hD
  refine lv_aload_n hx hb dX1_free_15 rfl (lv_at hl 0 rfl) ?_
  refine lv_dup hx hb dX1_free_16 rfl ?_
  refine va_get (D := (dC, dI)) (ci := 1) (v := .int e_held) (C := RX1) (T := TX1) (N := 13) hx hb hA zin_X1 hown hK hP 0 rfl rfl 7 (by decide) (hA _ wi_444) (fun _ h9 => h9) rfl dX1_free_17 ?_
  refine lv_iconst (v := 1) hx hb dX1_free_20 (by decide) ?_
  refine lv_isub hx hb dX1_free_21 ?_
  refine lv_topi (fun x_2 ex_2 => ?_)
  have ix_2 : x_2.toInt = e_held.toInt - 1 := by rw [ex_2]; exact zi_subc (by decide) (by omega) (by omega)
  refine va_put (D := (dC, dI)) (ci := 1) (v := .int x_2) (ty := .int) (C := RX1) (T := TX1) (N := 13) hx hb hA zin_X1 tyX1 tyX1_ok nmX1 hown hK hP hD hS 0 rfl rfl 7 (by decide) (hA _ wi_444) (fun _ h9 => h9) rfl (by decide +kernel) rfl rfl (Nat.le_of_ble_eq_true rfl) dX1_free_22 (fun H locs hP hD hS => ?_)
  have hP : va_P (dC, dI) vwCl [(h0, .inr (1, [.ref ek, .ref ec, .ref ef, .ref cki, .int e_limit, .int e_fresh, .int ce, .int x_2, .int e_mostHeld, .int e_made, .int e_reused, .int e_freed, .int e_doubled])), (ek, .inl (e1, 400, .inl gk)), (ec, .inl (e2, 400, .inl f_1)), (ef, .inl (e3, 1200, .inr (.inl gv)))] H := hP
  have hD : va_D A [(h0, .inr (1, [.ref ek, .ref ec, .ref ef, .ref cki, .int e_limit, .int e_fresh, .int ce, .int x_2, .int e_mostHeld, .int e_made, .int e_reused, .int e_freed, .int e_doubled])), (ek, .inl (e1, 400, .inl gk)), (ec, .inl (e2, 400, .inl f_1)), (ef, .inl (e3, 1200, .inr (.inl gv)))] := hD
  refine lv_aload_n hx hb dX1_free_25 rfl (lv_at hl 0 rfl) ?_
  refine lv_dup hx hb dX1_free_26 rfl ?_
  refine va_get (D := (dC, dI)) (ci := 1) (v := .int e_freed) (C := RX1) (T := TX1) (N := 13) hx hb hA zin_X1 hown hK hP 0 rfl rfl 11 (by decide) (hA _ wi_453) (fun _ h9 => h9) rfl dX1_free_27 ?_
  refine lv_iconst (v := 1) hx hb dX1_free_30 (by decide) ?_
  refine lv_iadd hx hb dX1_free_31 ?_
  refine lv_topi (fun x_3 ex_3 => ?_)
  have ix_3 : x_3.toInt = e_freed.toInt + 1 := by rw [ex_3]; exact zi_addc (by decide) (by omega) (by omega)
  refine va_put (D := (dC, dI)) (ci := 1) (v := .int x_3) (ty := .int) (C := RX1) (T := TX1) (N := 13) hx hb hA zin_X1 tyX1 tyX1_ok nmX1 hown hK hP hD hS 0 rfl rfl 11 (by decide) (hA _ wi_453) (fun _ h9 => h9) rfl (by decide +kernel) rfl rfl (Nat.le_of_ble_eq_true rfl) dX1_free_32 (fun H locs hP hD hS => ?_)
  have hP : va_P (dC, dI) vwCl [(h0, .inr (1, [.ref ek, .ref ec, .ref ef, .ref cki, .int e_limit, .int e_fresh, .int ce, .int x_2, .int e_mostHeld, .int e_made, .int e_reused, .int x_3, .int e_doubled])), (ek, .inl (e1, 400, .inl gk)), (ec, .inl (e2, 400, .inl f_1)), (ef, .inl (e3, 1200, .inr (.inl gv)))] H := hP
  have hD : va_D A [(h0, .inr (1, [.ref ek, .ref ec, .ref ef, .ref cki, .int e_limit, .int e_fresh, .int ce, .int x_2, .int e_mostHeld, .int e_made, .int e_reused, .int x_3, .int e_doubled])), (ek, .inl (e1, 400, .inl gk)), (ec, .inl (e2, 400, .inl f_1)), (ef, .inl (e3, 1200, .inr (.inl gv)))] := hD
  have hP9 := hP.sub (ws' := [(h0, .inr (1, [.ref ek, .ref ec, .ref ef, .ref cki, .int e_limit, .int e_fresh, .int ce, .int x_2, .int e_mostHeld, .int e_made, .int e_reused, .int x_3, .int e_doubled])), (ek, .inl (e1, 400, .inl gk)), (ec, .inl (e2, 400, .inl f_1)), (ef, .inl (e3, 1200, .inr (.inl gv)))]) [0, 1, 2, 3] rfl
  have hD9 := hD.sub (ws' := [(h0, .inr (1, [.ref ek, .ref ec, .ref ef, .ref cki, .int e_limit, .int e_fresh, .int ce, .int x_2, .int e_mostHeld, .int e_made, .int e_reused, .int x_3, .int e_doubled])), (ek, .inl (e1, 400, .inl gk)), (ec, .inl (e2, 400, .inl f_1)), (ef, .inl (e3, 1200, .inr (.inl gv)))]) [0, 1, 2, 3] (by decide) rfl
  have hK9 := hK.sub (tys' := [(e1, .int), (e2, .int), (e3, .long)]) [0, 1, 2] rfl
  exact W.vret hx hb hr (fun t ht hW => ⟨⟨(f_1, x_2, x_3), rfl, ⟨(zCS_free hcs hlx hxn (by have := zn_nat (x := ce) hc0; omega) ef_1 (by have := zn_nat (x := ce) hc0; omega) (by omega)), ef_1, by omega, by omega⟩, by rw [ht]; exact hP9, va_K.moved hW.alike hK9, hD9⟩, hS.F ht⟩) hS.2.2 dX1_free_35
set_option maxHeartbeats 4000000 in
set_option maxRecDepth 100000 in
theorem c_X1_take_z (l : Launch) (dC : Nat → ClassId) (dI : Nat → Nat → Nat) (aK aV : Nat → Nat) (h0 : Nat) (ek : Nat) (ec : Nat) (ef : Nat) (cki : Nat) (e1 : ClassId) (e2 : ClassId) (e3 : ClassId) (e_limit : Int32) (e_fresh : Int32) (e_firstFree : Int32) (e_held : Int32) (e_mostHeld : Int32) (e_made : Int32) (e_reused : Int32) (e_freed : Int32) (e_doubled : Int32) (gk : Nat → Int32) (gc : Nat → Int32) (gv : Nat → Int64) (wd : Nat → Nat) (lv : Nat → Bool) (R : Nat → Int) (FL : List Nat) (DL : List Nat) (dm : Int32) (sz : Nat) (hcs : zCS wd gc gv e_fresh e_firstFree e_held e_doubled lv R FL DL dm) (hli : e_limit.toInt ≤ 400) (hmd0 : 0 ≤ e_made.toInt) (hmd1 : e_made.toInt ≤ 1000000) : Met l yX1_take (Cond.code yX1_take cX1_take 2 (some .int) :: zw) ({ frames := 8, cells := 0, slots := 0, locals := 200 }) (va_Pc [.ref h0] (zP dC dI aK aV sz [(e1, .int), (e2, .int), (e3, .long)] [(h0, .inr (1, [.ref ek, .ref ec, .ref ef, .ref cki, .int e_limit, .int e_fresh, .int e_firstFree, .int e_held, .int e_mostHeld, .int e_made, .int e_reused, .int e_freed, .int e_doubled])), (ek, .inl (e1, 400, .inl gk)), (ec, .inl (e2, 400, .inl gc)), (ef, .inl (e3, 1200, .inr (.inl gv)))])) (va_Qi (fun (r : Int32) (u : Int32 × Int32 × Int32 × Int32 × Int32) => match u with | (fr2, ff2, he2, mh2, md2) => ((r.toInt = -1 ∧ zCS wd gc gv fr2 ff2 he2 e_doubled lv R FL DL dm) ∨ (0 ≤ r.toInt ∧ r.toInt < fr2.toInt ∧ lv (Int32.toNatClampNeg r) = false ∧ ∃ FL2, zCS wd gc gv fr2 ff2 he2 e_doubled lv R FL2 DL dm ∧ Int32.toNatClampNeg r ∉ FL2 ++ DL ∧ (∀ c ∈ FL2, c ∈ FL) ∧ (Int32.toNatClampNeg r ∈ FL ∨ (Int32.toNatClampNeg r : Int) = e_fresh.toInt))) ∧ (e_fresh.toInt ≤ fr2.toInt) ∧ (r.toInt = -1 ∧ e_limit.toInt ≤ e_held.toInt ∧ fr2 = e_fresh ∧ ff2 = e_firstFree ∧ he2 = e_held ∧ mh2 = e_mostHeld ∧ md2 = e_made ∨ 0 ≤ r.toInt ∧ e_held.toInt < e_limit.toInt ∧ he2.toInt = e_held.toInt + 1 ∧ md2.toInt = e_made.toInt + 1 ∧ mh2.toInt = max e_mostHeld.toInt (e_held.toInt + 1))) (fun u => match u with | (fr2, ff2, he2, mh2, md2) => zQ dC dI (va_A [(h0, .inr (1, [.ref ek, .ref ec, .ref ef, .ref cki, .int e_limit, .int e_fresh, .int e_firstFree, .int e_held, .int e_mostHeld, .int e_made, .int e_reused, .int e_freed, .int e_doubled])), (ek, .inl (e1, 400, .inl gk)), (ec, .inl (e2, 400, .inl gc)), (ef, .inl (e3, 1200, .inr (.inl gv)))] sz) [(e1, .int), (e2, .int), (e3, .long)] [(h0, .inr (1, [.ref ek, .ref ec, .ref ef, .ref cki, .int e_limit, .int fr2, .int ff2, .int he2, .int mh2, .int md2, .int e_reused, .int e_freed, .int e_doubled])), (ek, .inl (e1, 400, .inl gk)), (ec, .inl (e2, 400, .inl gc)), (ef, .inl (e3, 1200, .inr (.inl gv)))]) (va_A [(h0, .inr (1, [.ref ek, .ref ec, .ref ef, .ref cki, .int e_limit, .int e_fresh, .int e_firstFree, .int e_held, .int e_mostHeld, .int e_made, .int e_reused, .int e_freed, .int e_doubled])), (ek, .inl (e1, 400, .inl gk)), (ec, .inl (e2, 400, .inl gc)), (ef, .inl (e3, 1200, .inr (.inl gv)))] sz)) 0 0 (va_A [(h0, .inr (1, [.ref ek, .ref ec, .ref ef, .ref cki, .int e_limit, .int e_fresh, .int e_firstFree, .int e_held, .int e_mostHeld, .int e_made, .int e_reused, .int e_freed, .int e_doubled])), (ek, .inl (e1, 400, .inl gk)), (ec, .inl (e2, 400, .inl gc)), (ef, .inl (e3, 1200, .inr (.inl gv)))] sz) := by
  refine Met.ofW (cc := cX1_take) (maxL := 2) (ret := (some .int)) (by decide) rfl ?_
  intro p e s m args below meth c s₁ B hml hv
  obtain ⟨rfl, hsz, hP, hK, hD0, hN, hT⟩ := hv
  have hx := B.exec
  have hb := B.bytes
  have hr := B.returns
  have hts := atoms_spec (ws := Cond.code yX1_take cX1_take 2 (some .int) :: zw) B.pre
  have hA : ∀ w ∈ zw, w.before _ s = true := fun w h => hts w (List.mem_cons_of_mem _ h)
  have hown : s.vm.findClass RX1 = some m.cls := findClass_of_methodNamed B.named
  have hlocks := B.notSynchronized
  subst hsz
  have hD := hD0.self (sz := s.heap.size)
  generalize hAe : va_A [(h0, .inr (1, [.ref ek, .ref ec, .ref ef, .ref cki, .int e_limit, .int e_fresh, .int e_firstFree, .int e_held, .int e_mostHeld, .int e_made, .int e_reused, .int e_freed, .int e_doubled])), (ek, .inl (e1, 400, .inl gk)), (ec, .inl (e2, 400, .inl gc)), (ef, .inl (e3, 1200, .inr (.inl gv)))] s.heap.size = A at hD hT ⊢
  have hAA : ∀ q : Nat, s.heap.size ≤ q → A q := fun q h => by rw [← hAe]; exact Or.inr h
  have hS : va_S A s.heap s.heap [] := va_S.rf
  have hl := lv_entry ([.ref h0]) (n := 2) (Nat.le_of_ble_eq_true rfl)
  rw [lg_entry_eq]
  generalize (lg_sl ([.ref h0]) ++ List.replicate (2 - (lg_sl ([.ref h0])).length) Slot.unset).toArray = ls at hl ⊢
  have hl : lv_has ls 2 [(0, .ref h0)] := hl
  refine lv_aload_n hx hb dX1_take_0 rfl (lv_at hl 0 rfl) ?_
  have hhe9 := zCS_held hcs
  refine va_get (D := (dC, dI)) (ci := 1) (v := .int e_held) (C := RX1) (T := TX1) (N := 13) hx hb hA zin_X1 hown hK hP 0 rfl rfl 7 (by decide) (hA _ wi_444) (fun _ h9 => h9) rfl dX1_take_1 ?_
  refine lv_aload_n hx hb dX1_take_4 rfl (lv_at hl 0 rfl) ?_
  refine va_get (D := (dC, dI)) (ci := 1) (v := .int e_limit) (C := RX1) (T := TX1) (N := 13) hx hb hA zin_X1 hown hK hP 0 rfl rfl 4 (by decide) (hA _ wi_441) (fun _ h9 => h9) rfl dX1_take_5 ?_
  refine lv_icmp_lt (tgt := 13) hx hb dX1_take_8 (by decide) (fun c_1 => ?_) (fun c_1 => ?_)
  · have ic_1 : e_held.toInt < e_limit.toInt := zi_lt c_1
    refine lv_aload_n hx hb dX1_take_13 rfl (lv_at hl 0 rfl) ?_
    refine va_get (D := (dC, dI)) (ci := 1) (v := .int e_firstFree) (C := RX1) (T := TX1) (N := 13) hx hb hA zin_X1 hown hK hP 0 rfl rfl 6 (by decide) (hA _ wi_443) (fun _ h9 => h9) rfl dX1_take_14 ?_
    refine lv_istore_n (lv' := [(1, .int e_firstFree), (0, .ref h0)]) hx hb dX1_take_17 rfl hl (by decide) rfl (fun ls hl => ?_)
    refine lv_iload_n hx hb dX1_take_18 rfl (lv_at hl 0 rfl) ?_
    refine lv_iconst (v := (-1)) hx hb dX1_take_19 (by decide) ?_
    refine lv_icmp_ne (tgt := 41) hx hb dX1_take_20 (by decide) (fun c_2 => ?_) (fun c_2 => ?_)
    · have ic_2 : e_firstFree.toInt ≠ (-1) := zi_ne c_2
      have hff9 := zCS_take1 (ff2 := gc (Int32.toNatClampNeg e_firstFree)) (held2 := e_held + 1) hcs (by omega) rfl (by rw [Int32.toInt_add]; exact zi_bmod (by have : Int32.toInt 1 = 1 := (by decide); omega) (by have : Int32.toInt 1 = 1 := (by decide); omega))
      have hff8 := hff9.1
      refine lv_aload_n hx hb dX1_take_41 rfl (lv_at hl 1 rfl) ?_
      refine lv_aload_n hx hb dX1_take_42 rfl (lv_at hl 1 rfl) ?_
      refine va_get (D := (dC, dI)) (ci := 1) (v := .ref ec) (C := RX1) (T := TX1) (N := 13) hx hb hA zin_X1 hown hK hP 0 rfl rfl 1 (by decide) (hA _ wi_436) (fun _ h9 => h9) rfl dX1_take_43 ?_
      refine lv_iload_n hx hb dX1_take_46 rfl (lv_at hl 0 rfl) ?_
      refine va_iald hx hb hK hP 2 1 rfl rfl (vp_in_iff.mpr ⟨by omega, by omega⟩) dX1_take_47 ?_
      refine lv_topi (fun x_3 ex_3 => ?_)
      refine va_put (D := (dC, dI)) (ci := 1) (v := .int x_3) (ty := .int) (C := RX1) (T := TX1) (N := 13) hx hb hA zin_X1 tyX1 tyX1_ok nmX1 hown hK hP hD hS 0 rfl rfl 6 (by decide) (hA _ wi_443) (fun _ h9 => h9) rfl (by decide +kernel) rfl rfl (Nat.le_of_ble_eq_true rfl) dX1_take_48 (fun H locs hP hD hS => ?_)
      have hP : va_P (dC, dI) vwCl [(h0, .inr (1, [.ref ek, .ref ec, .ref ef, .ref cki, .int e_limit, .int e_fresh, .int x_3, .int e_held, .int e_mostHeld, .int e_made, .int e_reused, .int e_freed, .int e_doubled])), (ek, .inl (e1, 400, .inl gk)), (ec, .inl (e2, 400, .inl gc)), (ef, .inl (e3, 1200, .inr (.inl gv)))] H := hP
      have hD : va_D A [(h0, .inr (1, [.ref ek, .ref ec, .ref ef, .ref cki, .int e_limit, .int e_fresh, .int x_3, .int e_held, .int e_mostHeld, .int e_made, .int e_reused, .int e_freed, .int e_doubled])), (ek, .inl (e1, 400, .inl gk)), (ec, .inl (e2, 400, .inl gc)), (ef, .inl (e3, 1200, .inr (.inl gv)))] := hD
      refine lv_aload_n hx hb dX1_take_51 rfl (lv_at hl 1 rfl) ?_
      refine lv_dup hx hb dX1_take_52 rfl ?_
      refine va_get (D := (dC, dI)) (ci := 1) (v := .int e_made) (C := RX1) (T := TX1) (N := 13) hx hb hA zin_X1 hown hK hP 0 rfl rfl 9 (by decide) (hA _ wi_448) (fun _ h9 => h9) rfl dX1_take_53 ?_
      refine lv_iconst (v := 1) hx hb dX1_take_56 (by decide) ?_
      refine lv_iadd hx hb dX1_take_57 ?_
      refine lv_topi (fun x_4 ex_4 => ?_)
      have ix_4 : x_4.toInt = e_made.toInt + 1 := by rw [ex_4]; exact zi_addc (by decide) (by omega) (by omega)
      refine va_put (D := (dC, dI)) (ci := 1) (v := .int x_4) (ty := .int) (C := RX1) (T := TX1) (N := 13) hx hb hA zin_X1 tyX1 tyX1_ok nmX1 hown hK hP hD hS 0 rfl rfl 9 (by decide) (hA _ wi_448) (fun _ h9 => h9) rfl (by decide +kernel) rfl rfl (Nat.le_of_ble_eq_true rfl) dX1_take_58 (fun H locs hP hD hS => ?_)
      have hP : va_P (dC, dI) vwCl [(h0, .inr (1, [.ref ek, .ref ec, .ref ef, .ref cki, .int e_limit, .int e_fresh, .int x_3, .int e_held, .int e_mostHeld, .int x_4, .int e_reused, .int e_freed, .int e_doubled])), (ek, .inl (e1, 400, .inl gk)), (ec, .inl (e2, 400, .inl gc)), (ef, .inl (e3, 1200, .inr (.inl gv)))] H := hP
      have hD : va_D A [(h0, .inr (1, [.ref ek, .ref ec, .ref ef, .ref cki, .int e_limit, .int e_fresh, .int x_3, .int e_held, .int e_mostHeld, .int x_4, .int e_reused, .int e_freed, .int e_doubled])), (ek, .inl (e1, 400, .inl gk)), (ec, .inl (e2, 400, .inl gc)), (ef, .inl (e3, 1200, .inr (.inl gv)))] := hD
      refine lv_aload_n hx hb dX1_take_61 rfl (lv_at hl 1 rfl) ?_
      refine lv_dup hx hb dX1_take_62 rfl ?_
      refine va_get (D := (dC, dI)) (ci := 1) (v := .int e_held) (C := RX1) (T := TX1) (N := 13) hx hb hA zin_X1 hown hK hP 0 rfl rfl 7 (by decide) (hA _ wi_444) (fun _ h9 => h9) rfl dX1_take_63 ?_
      refine lv_iconst (v := 1) hx hb dX1_take_66 (by decide) ?_
      refine lv_iadd hx hb dX1_take_67 ?_
      refine lv_topi (fun x_5 ex_5 => ?_)
      have ix_5 : x_5.toInt = e_held.toInt + 1 := by rw [ex_5]; exact zi_addc (by decide) (by omega) (by omega)
      refine va_put (D := (dC, dI)) (ci := 1) (v := .int x_5) (ty := .int) (C := RX1) (T := TX1) (N := 13) hx hb hA zin_X1 tyX1 tyX1_ok nmX1 hown hK hP hD hS 0 rfl rfl 7 (by decide) (hA _ wi_444) (fun _ h9 => h9) rfl (by decide +kernel) rfl rfl (Nat.le_of_ble_eq_true rfl) dX1_take_68 (fun H locs hP hD hS => ?_)
      have hP : va_P (dC, dI) vwCl [(h0, .inr (1, [.ref ek, .ref ec, .ref ef, .ref cki, .int e_limit, .int e_fresh, .int x_3, .int x_5, .int e_mostHeld, .int x_4, .int e_reused, .int e_freed, .int e_doubled])), (ek, .inl (e1, 400, .inl gk)), (ec, .inl (e2, 400, .inl gc)), (ef, .inl (e3, 1200, .inr (.inl gv)))] H := hP
      have hD : va_D A [(h0, .inr (1, [.ref ek, .ref ec, .ref ef, .ref cki, .int e_limit, .int e_fresh, .int x_3, .int x_5, .int e_mostHeld, .int x_4, .int e_reused, .int e_freed, .int e_doubled])), (ek, .inl (e1, 400, .inl gk)), (ec, .inl (e2, 400, .inl gc)), (ef, .inl (e3, 1200, .inr (.inl gv)))] := hD
      refine lv_aload_n hx hb dX1_take_71 rfl (lv_at hl 1 rfl) ?_
      refine lv_aload_n hx hb dX1_take_72 rfl (lv_at hl 1 rfl) ?_
      refine va_get (D := (dC, dI)) (ci := 1) (v := .int e_mostHeld) (C := RX1) (T := TX1) (N := 13) hx hb hA zin_X1 hown hK hP 0 rfl rfl 8 (by decide) (hA _ wi_446) (fun _ h9 => h9) rfl dX1_take_73 ?_
      refine lv_aload_n hx hb dX1_take_76 rfl (lv_at hl 1 rfl) ?_
      refine va_get (D := (dC, dI)) (ci := 1) (v := .int x_5) (C := RX1) (T := TX1) (N := 13) hx hb hA zin_X1 hown hK hP 0 rfl rfl 7 (by decide) (hA _ wi_444) (fun _ h9 => h9) rfl dX1_take_77 ?_
      refine va_mmax hx hb (by rw [hml]; exact hl.1.symm) hown (hA _ wi_430) (hA _ wi_431) (hA _ wi_141) (hA _ wi_432) (Nat.le_of_ble_eq_true rfl) (Nat.le_of_ble_eq_true rfl) (Nat.le_of_ble_eq_true rfl) (Nat.le_of_ble_eq_true rfl) dX1_take_80 ?_
      refine lv_topi (fun x_6 ex_6 => ?_)
      have ix_6 : x_6.toInt ≥ e_mostHeld.toInt ∧ x_6.toInt ≥ x_5.toInt ∧ (x_6.toInt = e_mostHeld.toInt ∨ x_6.toInt = x_5.toInt) := zi_max ex_6 rfl rfl
      refine va_put (D := (dC, dI)) (ci := 1) (v := .int x_6) (ty := .int) (C := RX1) (T := TX1) (N := 13) hx hb hA zin_X1 tyX1 tyX1_ok nmX1 hown hK hP hD hS 0 rfl rfl 8 (by decide) (hA _ wi_446) (fun _ h9 => h9) rfl (by decide +kernel) rfl rfl (Nat.le_of_ble_eq_true rfl) dX1_take_83 (fun H locs hP hD hS => ?_)
      have hP : va_P (dC, dI) vwCl [(h0, .inr (1, [.ref ek, .ref ec, .ref ef, .ref cki, .int e_limit, .int e_fresh, .int x_3, .int x_5, .int x_6, .int x_4, .int e_reused, .int e_freed, .int e_doubled])), (ek, .inl (e1, 400, .inl gk)), (ec, .inl (e2, 400, .inl gc)), (ef, .inl (e3, 1200, .inr (.inl gv)))] H := hP
      have hD : va_D A [(h0, .inr (1, [.ref ek, .ref ec, .ref ef, .ref cki, .int e_limit, .int e_fresh, .int x_3, .int x_5, .int x_6, .int x_4, .int e_reused, .int e_freed, .int e_doubled])), (ek, .inl (e1, 400, .inl gk)), (ec, .inl (e2, 400, .inl gc)), (ef, .inl (e3, 1200, .inr (.inl gv)))] := hD
      refine lv_iload_n hx hb dX1_take_86 rfl (lv_at hl 0 rfl) ?_
      have hP9 := hP.sub (ws' := [(h0, .inr (1, [.ref ek, .ref ec, .ref ef, .ref cki, .int e_limit, .int e_fresh, .int x_3, .int x_5, .int x_6, .int x_4, .int e_reused, .int e_freed, .int e_doubled])), (ek, .inl (e1, 400, .inl gk)), (ec, .inl (e2, 400, .inl gc)), (ef, .inl (e3, 1200, .inr (.inl gv)))]) [0, 1, 2, 3] rfl
      have hD9 := hD.sub (ws' := [(h0, .inr (1, [.ref ek, .ref ec, .ref ef, .ref cki, .int e_limit, .int e_fresh, .int x_3, .int x_5, .int x_6, .int x_4, .int e_reused, .int e_freed, .int e_doubled])), (ek, .inl (e1, 400, .inl gk)), (ec, .inl (e2, 400, .inl gc)), (ef, .inl (e3, 1200, .inr (.inl gv)))]) [0, 1, 2, 3] (by decide) rfl
      have hK9 := hK.sub (tys' := [(e1, .int), (e2, .int), (e3, .long)]) [0, 1, 2] rfl
      exact W.iret (v := e_firstFree) hx hb hr (fun t ht hW => ⟨⟨e_firstFree, (e_fresh, x_3, x_5, x_6, x_4), rfl, ⟨(by obtain ⟨t1, t2, t3, FL2, t4, t5, t6⟩ := zCS_take1 (held2 := x_5) hcs (by omega) ex_3 (by omega); exact Or.inr ⟨t1, t2, t3, FL2, t4, t5, t6.1, Or.inl t6.2⟩), by omega, (Or.inr ⟨by omega, by omega, by omega, by omega, by omega⟩)⟩, by rw [ht]; exact hP9, va_K.moved hW.alike hK9, hD9⟩, hS.F ht⟩) hS.2.2 dX1_take_87
    · have ic_2 : e_firstFree.toInt = (-1) := zi_eq c_2
      refine lv_aload_n hx hb dX1_take_23 rfl (lv_at hl 1 rfl) ?_
      refine va_get (D := (dC, dI)) (ci := 1) (v := .int e_fresh) (C := RX1) (T := TX1) (N := 13) hx hb hA zin_X1 hown hK hP 0 rfl rfl 5 (by decide) (hA _ wi_442) (fun _ h9 => h9) rfl dX1_take_24 ?_
      refine lv_istore_n (lv' := [(1, .int e_fresh), (0, .ref h0)]) hx hb dX1_take_27 rfl hl (by decide) rfl (fun ls hl => ?_)
      refine lv_aload_n hx hb dX1_take_28 rfl (lv_at hl 1 rfl) ?_
      refine lv_dup hx hb dX1_take_29 rfl ?_
      refine va_get (D := (dC, dI)) (ci := 1) (v := .int e_fresh) (C := RX1) (T := TX1) (N := 13) hx hb hA zin_X1 hown hK hP 0 rfl rfl 5 (by decide) (hA _ wi_442) (fun _ h9 => h9) rfl dX1_take_30 ?_
      refine lv_iconst (v := 1) hx hb dX1_take_33 (by decide) ?_
      refine lv_iadd hx hb dX1_take_34 ?_
      refine lv_topi (fun x_7 ex_7 => ?_)
      have ix_7 : x_7.toInt = e_fresh.toInt + 1 := by rw [ex_7]; exact zi_addc (by decide) (by omega) (by omega)
      refine va_put (D := (dC, dI)) (ci := 1) (v := .int x_7) (ty := .int) (C := RX1) (T := TX1) (N := 13) hx hb hA zin_X1 tyX1 tyX1_ok nmX1 hown hK hP hD hS 0 rfl rfl 5 (by decide) (hA _ wi_442) (fun _ h9 => h9) rfl (by decide +kernel) rfl rfl (Nat.le_of_ble_eq_true rfl) dX1_take_35 (fun H locs hP hD hS => ?_)
      have hP : va_P (dC, dI) vwCl [(h0, .inr (1, [.ref ek, .ref ec, .ref ef, .ref cki, .int e_limit, .int x_7, .int e_firstFree, .int e_held, .int e_mostHeld, .int e_made, .int e_reused, .int e_freed, .int e_doubled])), (ek, .inl (e1, 400, .inl gk)), (ec, .inl (e2, 400, .inl gc)), (ef, .inl (e3, 1200, .inr (.inl gv)))] H := hP
      have hD : va_D A [(h0, .inr (1, [.ref ek, .ref ec, .ref ef, .ref cki, .int e_limit, .int x_7, .int e_firstFree, .int e_held, .int e_mostHeld, .int e_made, .int e_reused, .int e_freed, .int e_doubled])), (ek, .inl (e1, 400, .inl gk)), (ec, .inl (e2, 400, .inl gc)), (ef, .inl (e3, 1200, .inr (.inl gv)))] := hD
      refine lv_goto (tgt := 51) hx hb dX1_take_38 (by decide) ?_
      refine lv_aload_n hx hb dX1_take_51 rfl (lv_at hl 1 rfl) ?_
      refine lv_dup hx hb dX1_take_52 rfl ?_
      refine va_get (D := (dC, dI)) (ci := 1) (v := .int e_made) (C := RX1) (T := TX1) (N := 13) hx hb hA zin_X1 hown hK hP 0 rfl rfl 9 (by decide) (hA _ wi_448) (fun _ h9 => h9) rfl dX1_take_53 ?_
      refine lv_iconst (v := 1) hx hb dX1_take_56 (by decide) ?_
      refine lv_iadd hx hb dX1_take_57 ?_
      refine lv_topi (fun x_8 ex_8 => ?_)
      have ix_8 : x_8.toInt = e_made.toInt + 1 := by rw [ex_8]; exact zi_addc (by decide) (by omega) (by omega)
      refine va_put (D := (dC, dI)) (ci := 1) (v := .int x_8) (ty := .int) (C := RX1) (T := TX1) (N := 13) hx hb hA zin_X1 tyX1 tyX1_ok nmX1 hown hK hP hD hS 0 rfl rfl 9 (by decide) (hA _ wi_448) (fun _ h9 => h9) rfl (by decide +kernel) rfl rfl (Nat.le_of_ble_eq_true rfl) dX1_take_58 (fun H locs hP hD hS => ?_)
      have hP : va_P (dC, dI) vwCl [(h0, .inr (1, [.ref ek, .ref ec, .ref ef, .ref cki, .int e_limit, .int x_7, .int e_firstFree, .int e_held, .int e_mostHeld, .int x_8, .int e_reused, .int e_freed, .int e_doubled])), (ek, .inl (e1, 400, .inl gk)), (ec, .inl (e2, 400, .inl gc)), (ef, .inl (e3, 1200, .inr (.inl gv)))] H := hP
      have hD : va_D A [(h0, .inr (1, [.ref ek, .ref ec, .ref ef, .ref cki, .int e_limit, .int x_7, .int e_firstFree, .int e_held, .int e_mostHeld, .int x_8, .int e_reused, .int e_freed, .int e_doubled])), (ek, .inl (e1, 400, .inl gk)), (ec, .inl (e2, 400, .inl gc)), (ef, .inl (e3, 1200, .inr (.inl gv)))] := hD
      refine lv_aload_n hx hb dX1_take_61 rfl (lv_at hl 1 rfl) ?_
      refine lv_dup hx hb dX1_take_62 rfl ?_
      refine va_get (D := (dC, dI)) (ci := 1) (v := .int e_held) (C := RX1) (T := TX1) (N := 13) hx hb hA zin_X1 hown hK hP 0 rfl rfl 7 (by decide) (hA _ wi_444) (fun _ h9 => h9) rfl dX1_take_63 ?_
      refine lv_iconst (v := 1) hx hb dX1_take_66 (by decide) ?_
      refine lv_iadd hx hb dX1_take_67 ?_
      refine lv_topi (fun x_9 ex_9 => ?_)
      have ix_9 : x_9.toInt = e_held.toInt + 1 := by rw [ex_9]; exact zi_addc (by decide) (by omega) (by omega)
      refine va_put (D := (dC, dI)) (ci := 1) (v := .int x_9) (ty := .int) (C := RX1) (T := TX1) (N := 13) hx hb hA zin_X1 tyX1 tyX1_ok nmX1 hown hK hP hD hS 0 rfl rfl 7 (by decide) (hA _ wi_444) (fun _ h9 => h9) rfl (by decide +kernel) rfl rfl (Nat.le_of_ble_eq_true rfl) dX1_take_68 (fun H locs hP hD hS => ?_)
      have hP : va_P (dC, dI) vwCl [(h0, .inr (1, [.ref ek, .ref ec, .ref ef, .ref cki, .int e_limit, .int x_7, .int e_firstFree, .int x_9, .int e_mostHeld, .int x_8, .int e_reused, .int e_freed, .int e_doubled])), (ek, .inl (e1, 400, .inl gk)), (ec, .inl (e2, 400, .inl gc)), (ef, .inl (e3, 1200, .inr (.inl gv)))] H := hP
      have hD : va_D A [(h0, .inr (1, [.ref ek, .ref ec, .ref ef, .ref cki, .int e_limit, .int x_7, .int e_firstFree, .int x_9, .int e_mostHeld, .int x_8, .int e_reused, .int e_freed, .int e_doubled])), (ek, .inl (e1, 400, .inl gk)), (ec, .inl (e2, 400, .inl gc)), (ef, .inl (e3, 1200, .inr (.inl gv)))] := hD
      refine lv_aload_n hx hb dX1_take_71 rfl (lv_at hl 1 rfl) ?_
      refine lv_aload_n hx hb dX1_take_72 rfl (lv_at hl 1 rfl) ?_
      refine va_get (D := (dC, dI)) (ci := 1) (v := .int e_mostHeld) (C := RX1) (T := TX1) (N := 13) hx hb hA zin_X1 hown hK hP 0 rfl rfl 8 (by decide) (hA _ wi_446) (fun _ h9 => h9) rfl dX1_take_73 ?_
      refine lv_aload_n hx hb dX1_take_76 rfl (lv_at hl 1 rfl) ?_
      refine va_get (D := (dC, dI)) (ci := 1) (v := .int x_9) (C := RX1) (T := TX1) (N := 13) hx hb hA zin_X1 hown hK hP 0 rfl rfl 7 (by decide) (hA _ wi_444) (fun _ h9 => h9) rfl dX1_take_77 ?_
      refine va_mmax hx hb (by rw [hml]; exact hl.1.symm) hown (hA _ wi_430) (hA _ wi_431) (hA _ wi_141) (hA _ wi_432) (Nat.le_of_ble_eq_true rfl) (Nat.le_of_ble_eq_true rfl) (Nat.le_of_ble_eq_true rfl) (Nat.le_of_ble_eq_true rfl) dX1_take_80 ?_
      refine lv_topi (fun x_10 ex_10 => ?_)
      have ix_10 : x_10.toInt ≥ e_mostHeld.toInt ∧ x_10.toInt ≥ x_9.toInt ∧ (x_10.toInt = e_mostHeld.toInt ∨ x_10.toInt = x_9.toInt) := zi_max ex_10 rfl rfl
      refine va_put (D := (dC, dI)) (ci := 1) (v := .int x_10) (ty := .int) (C := RX1) (T := TX1) (N := 13) hx hb hA zin_X1 tyX1 tyX1_ok nmX1 hown hK hP hD hS 0 rfl rfl 8 (by decide) (hA _ wi_446) (fun _ h9 => h9) rfl (by decide +kernel) rfl rfl (Nat.le_of_ble_eq_true rfl) dX1_take_83 (fun H locs hP hD hS => ?_)
      have hP : va_P (dC, dI) vwCl [(h0, .inr (1, [.ref ek, .ref ec, .ref ef, .ref cki, .int e_limit, .int x_7, .int e_firstFree, .int x_9, .int x_10, .int x_8, .int e_reused, .int e_freed, .int e_doubled])), (ek, .inl (e1, 400, .inl gk)), (ec, .inl (e2, 400, .inl gc)), (ef, .inl (e3, 1200, .inr (.inl gv)))] H := hP
      have hD : va_D A [(h0, .inr (1, [.ref ek, .ref ec, .ref ef, .ref cki, .int e_limit, .int x_7, .int e_firstFree, .int x_9, .int x_10, .int x_8, .int e_reused, .int e_freed, .int e_doubled])), (ek, .inl (e1, 400, .inl gk)), (ec, .inl (e2, 400, .inl gc)), (ef, .inl (e3, 1200, .inr (.inl gv)))] := hD
      refine lv_iload_n hx hb dX1_take_86 rfl (lv_at hl 0 rfl) ?_
      have hP9 := hP.sub (ws' := [(h0, .inr (1, [.ref ek, .ref ec, .ref ef, .ref cki, .int e_limit, .int x_7, .int e_firstFree, .int x_9, .int x_10, .int x_8, .int e_reused, .int e_freed, .int e_doubled])), (ek, .inl (e1, 400, .inl gk)), (ec, .inl (e2, 400, .inl gc)), (ef, .inl (e3, 1200, .inr (.inl gv)))]) [0, 1, 2, 3] rfl
      have hD9 := hD.sub (ws' := [(h0, .inr (1, [.ref ek, .ref ec, .ref ef, .ref cki, .int e_limit, .int x_7, .int e_firstFree, .int x_9, .int x_10, .int x_8, .int e_reused, .int e_freed, .int e_doubled])), (ek, .inl (e1, 400, .inl gk)), (ec, .inl (e2, 400, .inl gc)), (ef, .inl (e3, 1200, .inr (.inl gv)))]) [0, 1, 2, 3] (by decide) rfl
      have hK9 := hK.sub (tys' := [(e1, .int), (e2, .int), (e3, .long)]) [0, 1, 2] rfl
      exact W.iret (v := e_fresh) hx hb hr (fun t ht hW => ⟨⟨e_fresh, (x_7, e_firstFree, x_9, x_10, x_8), rfl, ⟨(by obtain ⟨t1, t2, t3, t4, t5⟩ := zCS_take2 (fresh2 := x_7) (held2 := x_9) hcs (by omega) (by omega) (by omega) (by omega); exact Or.inr ⟨by omega, by omega, t2, [], t4, t5, fun _ h => (nomatch h), Or.inr (zn_nat (by omega))⟩), by omega, (Or.inr ⟨by omega, by omega, by omega, by omega, by omega⟩)⟩, by rw [ht]; exact hP9, va_K.moved hW.alike hK9, hD9⟩, hS.F ht⟩) hS.2.2 dX1_take_87
  · have ic_1 : e_limit.toInt ≤ e_held.toInt := zi_nlt c_1
    refine lv_iconst (v := (-1)) hx hb dX1_take_11 (by decide) ?_
    have hlit : Int32.toInt (-1) = (-1) := by decide
    have hP9 := hP.sub (ws' := [(h0, .inr (1, [.ref ek, .ref ec, .ref ef, .ref cki, .int e_limit, .int e_fresh, .int e_firstFree, .int e_held, .int e_mostHeld, .int e_made, .int e_reused, .int e_freed, .int e_doubled])), (ek, .inl (e1, 400, .inl gk)), (ec, .inl (e2, 400, .inl gc)), (ef, .inl (e3, 1200, .inr (.inl gv)))]) [0, 1, 2, 3] rfl
    have hD9 := hD.sub (ws' := [(h0, .inr (1, [.ref ek, .ref ec, .ref ef, .ref cki, .int e_limit, .int e_fresh, .int e_firstFree, .int e_held, .int e_mostHeld, .int e_made, .int e_reused, .int e_freed, .int e_doubled])), (ek, .inl (e1, 400, .inl gk)), (ec, .inl (e2, 400, .inl gc)), (ef, .inl (e3, 1200, .inr (.inl gv)))]) [0, 1, 2, 3] (by decide) rfl
    have hK9 := hK.sub (tys' := [(e1, .int), (e2, .int), (e3, .long)]) [0, 1, 2] rfl
    exact W.iret (v := (-1)) hx hb hr (fun t ht hW => ⟨⟨(-1), (e_fresh, e_firstFree, e_held, e_mostHeld, e_made), rfl, ⟨(Or.inl ⟨by decide, hcs⟩), by omega, (Or.inl ⟨by decide, by omega, rfl, rfl, rfl, rfl, rfl⟩)⟩, by rw [ht]; exact hP9, va_K.moved hW.alike hK9, hD9⟩, hS.F ht⟩) hS.2.2 dX1_take_12

end
section
set_option maxHeartbeats 4000000 in
set_option maxRecDepth 100000 in
theorem c_X1_drop_z (l : Launch) (dC : Nat → ClassId) (dI : Nat → Nat → Nat) (aK aV : Nat → Nat) (h0 : Nat) (ek : Nat) (ec : Nat) (ef : Nat) (cki : Nat) (e1 : ClassId) (e2 : ClassId) (e3 : ClassId) (e_limit : Int32) (e_fresh : Int32) (e_firstFree : Int32) (e_held : Int32) (e_mostHeld : Int32) (e_made : Int32) (e_reused : Int32) (e_freed : Int32) (e_doubled : Int32) (gk : Nat → Int32) (gc : Nat → Int32) (gv : Nat → Int64) (kw : Nat) (kf : Nat) (k1 : ClassId) (k2 : ClassId) (z : Int32) (gw : Nat → Int64) (gf : Nat → Int32) (va : Int64) (lv : Nat → Bool) (R : Nat → Int) (R2 : Nat → Int) (FL : List Nat) (ph : Nat → Nat) (lA : Nat → Bool) (gA : Nat → Int) (nc : Nat) (wA : Nat → Nat) (kA : Nat → Int32) (cA : Nat → Int64) (SI : List Nat) (R2A : Nat → Int) (av : Int64) (sz : Nat) (hz0 : 0 ≤ z.toInt) (hz1 : z.toInt ≤ 20) (hgf : zx 4 gf) (hcs : zCS (zwd z gf gk) gc gv e_fresh e_firstFree e_held e_doubled lv R FL [] (-1)) (hgd : zhs va = 2 → 0 ≤ (va.toInt32).toInt) (hR : ∀ c, R c = R2 c + zr va c) (h2 : ∀ c, 0 ≤ R2 c) (hdb : e_doubled.toInt < 1000000) (hZA : hZ ph lA gA nc wA kA cA (fun x => R2A x + zr av x) SI gk gc gv) (hKA : hKf ph lA nc SI FL (Int32.toInt e_fresh) (Int32.toInt e_held)) (h2A : ∀ x, 0 ≤ R2A x) (hvr : vr ph av va) (hwA : ∀ x, lA x = true → wA x = (zfk z gf (kA x)).toNat) (hfd0 : 0 ≤ e_freed.toInt) (hfd1 : e_freed.toInt ≤ 1000000) : Met l yX1_drop (Cond.code yX1_drop cX1_drop 7 none :: zw) ({ frames := 14, cells := 0, slots := 0, locals := 500 }) (va_Pc [.ref h0, .long va] (zP dC dI aK aV sz [(e1, .int), (e2, .int), (e3, .long), (k1, .long), (k2, .int)] [(h0, .inr (1, [.ref ek, .ref ec, .ref ef, .ref cki, .int e_limit, .int e_fresh, .int e_firstFree, .int e_held, .int e_mostHeld, .int e_made, .int e_reused, .int e_freed, .int e_doubled])), (ek, .inl (e1, 400, .inl gk)), (ec, .inl (e2, 400, .inl gc)), (ef, .inl (e3, 1200, .inr (.inl gv))), (cki, .inr (4, [.ref kw, .ref kf, .int z])), (kw, .inl (k1, 20, .inr (.inl gw))), (kf, .inl (k2, 20, .inl gf))])) (va_Qv (fun u : (Nat → Int32) × Int32 × Int32 × Int32 => match u with | (gc2, ff2, he2, fd2) => (∃ (lv2 : Nat → Bool) (FL2 : List Nat) (lA2 : Nat → Bool) (gA2 : Nat → Int), (zCS (zwd z gf gk) gc2 gv e_fresh ff2 he2 e_doubled lv2 R2 FL2 [] (-1) ∧ (∀ c, lv2 c = true → lv c = true) ∧ ∀ c, c ∈ FL2 → c ∈ FL ∨ lv c = true) ∧ hZ ph lA2 gA2 nc wA kA cA R2A SI gk gc2 gv ∧ hKf ph lA2 nc SI FL2 (Int32.toInt e_fresh) (Int32.toInt he2)) ∧ (fd2.toInt = e_freed.toInt + (e_held.toInt - he2.toInt)) ∧ (he2.toInt ≤ e_held.toInt)) (fun u => match u with | (gc2, ff2, he2, fd2) => zQ dC dI (va_A [(h0, .inr (1, [.ref ek, .ref ec, .ref ef, .ref cki, .int e_limit, .int e_fresh, .int e_firstFree, .int e_held, .int e_mostHeld, .int e_made, .int e_reused, .int e_freed, .int e_doubled])), (ek, .inl (e1, 400, .inl gk)), (ec, .inl (e2, 400, .inl gc)), (ef, .inl (e3, 1200, .inr (.inl gv))), (cki, .inr (4, [.ref kw, .ref kf, .int z])), (kw, .inl (k1, 20, .inr (.inl gw))), (kf, .inl (k2, 20, .inl gf))] sz) [(e1, .int), (e2, .int), (e3, .long), (k1, .long), (k2, .int)] [(h0, .inr (1, [.ref ek, .ref ec, .ref ef, .ref cki, .int e_limit, .int e_fresh, .int ff2, .int he2, .int e_mostHeld, .int e_made, .int e_reused, .int fd2, .int e_doubled])), (ek, .inl (e1, 400, .inl gk)), (ec, .inl (e2, 400, .inl gc2)), (ef, .inl (e3, 1200, .inr (.inl gv))), (cki, .inr (4, [.ref kw, .ref kf, .int z])), (kw, .inl (k1, 20, .inr (.inl gw))), (kf, .inl (k2, 20, .inl gf))]) (va_A [(h0, .inr (1, [.ref ek, .ref ec, .ref ef, .ref cki, .int e_limit, .int e_fresh, .int e_firstFree, .int e_held, .int e_mostHeld, .int e_made, .int e_reused, .int e_freed, .int e_doubled])), (ek, .inl (e1, 400, .inl gk)), (ec, .inl (e2, 400, .inl gc)), (ef, .inl (e3, 1200, .inr (.inl gv))), (cki, .inr (4, [.ref kw, .ref kf, .int z])), (kw, .inl (k1, 20, .inr (.inl gw))), (kf, .inl (k2, 20, .inl gf))] sz)) 0 0 (va_A [(h0, .inr (1, [.ref ek, .ref ec, .ref ef, .ref cki, .int e_limit, .int e_fresh, .int e_firstFree, .int e_held, .int e_mostHeld, .int e_made, .int e_reused, .int e_freed, .int e_doubled])), (ek, .inl (e1, 400, .inl gk)), (ec, .inl (e2, 400, .inl gc)), (ef, .inl (e3, 1200, .inr (.inl gv))), (cki, .inr (4, [.ref kw, .ref kf, .int z])), (kw, .inl (k1, 20, .inr (.inl gw))), (kf, .inl (k2, 20, .inl gf))] sz) := by
  refine Met.ofW (cc := cX1_drop) (maxL := 7) (ret := none) (by decide) rfl ?_
  intro p e s m args below meth c s₁ B hml hv
  obtain ⟨rfl, hsz, hP, hK, hD0, hN, hT⟩ := hv
  have hx := B.exec
  have hb := B.bytes
  have hr := B.returns
  have hts := atoms_spec (ws := Cond.code yX1_drop cX1_drop 7 none :: zw) B.pre
  have hA : ∀ w ∈ zw, w.before _ s = true := fun w h => hts w (List.mem_cons_of_mem _ h)
  have hown : s.vm.findClass RX1 = some m.cls := findClass_of_methodNamed B.named
  have hlocks := B.notSynchronized
  subst hsz
  have hD := hD0.self (sz := s.heap.size)
  generalize hAe : va_A [(h0, .inr (1, [.ref ek, .ref ec, .ref ef, .ref cki, .int e_limit, .int e_fresh, .int e_firstFree, .int e_held, .int e_mostHeld, .int e_made, .int e_reused, .int e_freed, .int e_doubled])), (ek, .inl (e1, 400, .inl gk)), (ec, .inl (e2, 400, .inl gc)), (ef, .inl (e3, 1200, .inr (.inl gv))), (cki, .inr (4, [.ref kw, .ref kf, .int z])), (kw, .inl (k1, 20, .inr (.inl gw))), (kf, .inl (k2, 20, .inl gf))] s.heap.size = A at hD hT ⊢
  have hAA : ∀ q : Nat, s.heap.size ≤ q → A q := fun q h => by rw [← hAe]; exact Or.inr h
  have hS : va_S A s.heap s.heap [] := va_S.rf
  have hl := lv_entry ([.ref h0, .long va]) (n := 7) (Nat.le_of_ble_eq_true rfl)
  rw [lg_entry_eq]
  generalize (lg_sl ([.ref h0, .long va]) ++ List.replicate (7 - (lg_sl ([.ref h0, .long va])).length) Slot.unset).toArray = ls at hl ⊢
  have hl : lv_has ls 7 [(0, .ref h0), (1, .long va)] := hl
  refine lv_aload_n hx hb dX1_drop_0 rfl (lv_at hl 0 rfl) ?_
  refine lv_lload_n hx hb dX1_drop_1 rfl (lv_at hl 1 rfl) ?_
  refine lv_iconst (v := (-1)) hx hb dX1_drop_2 (by decide) ?_
  have hPc := hP.sub (ws' := [(h0, .inr (1, [.ref ek, .ref ec, .ref ef, .ref cki, .int e_limit, .int e_fresh, .int e_firstFree, .int e_held, .int e_mostHeld, .int e_made, .int e_reused, .int e_freed, .int e_doubled])), (ek, .inl (e1, 400, .inl gk)), (ec, .inl (e2, 400, .inl gc)), (ef, .inl (e3, 1200, .inr (.inl gv)))]) [0, 1, 2, 3] rfl
  have hDc := hD.sub (ws' := [(h0, .inr (1, [.ref ek, .ref ec, .ref ef, .ref cki, .int e_limit, .int e_fresh, .int e_firstFree, .int e_held, .int e_mostHeld, .int e_made, .int e_reused, .int e_freed, .int e_doubled])), (ek, .inl (e1, 400, .inl gk)), (ec, .inl (e2, 400, .inl gc)), (ef, .inl (e3, 1200, .inr (.inl gv)))]) [0, 1, 2, 3] (by decide) rfl
  have hKc := hK.sub (tys' := [(e1, .int), (e2, .int), (e3, .long)]) [0, 1, 2] rfl
  have hFc := va_free (wc := [(h0, .inr (1, [.ref ek, .ref ec, .ref ef, .ref cki, .int e_limit, .int e_fresh, .int e_firstFree, .int e_held, .int e_mostHeld, .int e_made, .int e_reused, .int e_freed, .int e_doubled])), (ek, .inl (e1, 400, .inl gk)), (ec, .inl (e2, 400, .inl gc)), (ef, .inl (e3, 1200, .inr (.inl gv)))]) hD hS hAA [0, 1, 2, 3] rfl
  refine va_calli (va_runV (As := [.long va, .int (-1)]) (rest := []) ⟨hx, hb, hml, hown, hA⟩ (c_X1_lower_z l dC dI aK aV h0 ek ec ef cki e1 e2 e3 e_limit e_fresh e_firstFree e_held e_mostHeld e_made e_reused e_freed e_doubled gk gc gv va (-1) (zwd z gf gk) lv R FL ([]) R2 ph lA gA nc wA kA cA SI R2A av ([]) s.heap.size hcs hgd hR h2 (by omega) (hZ_R hZA (fun x => by show R2A x + 0 + zr av x = _; omega)) hKA h2A hvr rfl) (cwV 2 hA (zw_V wi_1142 wi_1144 wi_45 wi_140 (zw_good wi_1145)) rfl rfl rfl (by decide +kernel) ⟨(Nat.le_of_ble_eq_true rfl), (Nat.le_of_ble_eq_true rfl)⟩) ⟨zP_blind, va_recv hKc hPc (ci := 1) (q0 := 0) rfl rfl, zz_pre hKc hPc hDc hN hT hS hFc⟩ rfl rfl hl.1 rfl (lv_room (Nat.le_of_ble_eq_true rfl)) dX1_drop_3 ⟨(Nat.le_of_ble_eq_true rfl), (Nat.le_of_ble_eq_true rfl)⟩) hS (fun q _ h => hFc q h) hFc (fun r_1 u t H1 locs ht hvm hw hB hz1 hk1 hS => ?_)
  obtain ⟨gc_2, rfl⟩ : ∃ z, z = u := ⟨_, rfl⟩
  obtain ⟨hP1, hK1, hD1⟩ := hB
  rw [ht] at hP1
  have hK1 := va_K.moved hvm.symm hK1
  obtain ⟨hP, hD⟩ := va_join (wr := [(cki, .inr (4, [.ref kw, .ref kf, .int z])), (kw, .inl (k1, 20, .inr (.inl gw))), (kf, .inl (k2, 20, .inl gf))]) (w1 := [(h0, .inr (1, [.ref ek, .ref ec, .ref ef, .ref cki, .int e_limit, .int e_fresh, .int e_firstFree, .int e_held, .int e_mostHeld, .int e_made, .int e_reused, .int e_freed, .int e_doubled])), (ek, .inl (e1, 400, .inl gk)), (ec, .inl (e2, 400, .inl gc_2)), (ef, .inl (e3, 1200, .inr (.inl gv)))]) hP hD [0, 1, 2, 3] [4, 5, 6] rfl rfl (by decide) (by decide) hk1 hFc hP1 hD1
  have hK := (hK.sub (tys' := [(k1, .long), (k2, .int)]) [3, 4] rfl).app hK1
  generalize H1 = H at hP hS ⊢
  have hP : va_P (dC, dI) vwCl [(cki, .inr (4, [.ref kw, .ref kf, .int z])), (kw, .inl (k1, 20, .inr (.inl gw))), (kf, .inl (k2, 20, .inl gf)), (h0, .inr (1, [.ref ek, .ref ec, .ref ef, .ref cki, .int e_limit, .int e_fresh, .int e_firstFree, .int e_held, .int e_mostHeld, .int e_made, .int e_reused, .int e_freed, .int e_doubled])), (ek, .inl (e1, 400, .inl gk)), (ec, .inl (e2, 400, .inl gc_2)), (ef, .inl (e3, 1200, .inr (.inl gv)))] H := hP
  have hD : va_D A [(cki, .inr (4, [.ref kw, .ref kf, .int z])), (kw, .inl (k1, 20, .inr (.inl gw))), (kf, .inl (k2, 20, .inl gf)), (h0, .inr (1, [.ref ek, .ref ec, .ref ef, .ref cki, .int e_limit, .int e_fresh, .int e_firstFree, .int e_held, .int e_mostHeld, .int e_made, .int e_reused, .int e_freed, .int e_doubled])), (ek, .inl (e1, 400, .inl gk)), (ec, .inl (e2, 400, .inl gc_2)), (ef, .inl (e3, 1200, .inr (.inl gv)))] := hD
  have hK : va_K (dC, dI) vwCl [(k1, .long), (k2, .int), (e1, .int), (e2, .int), (e3, .long)] s := hK
  have hw_r_1 := hw
  try dsimp only at hw_r_1
  have hq_3 := hw
  obtain ⟨lv1, DL1, lA1, gA1, DA1, ⟨hz1, hl1, hd1⟩, hDA1, hzA1, hkA1, hlA1⟩ := hq_3
  have hhe0 := zCS_held hcs
  refine lv_istore_n (lv' := [(3, .int r_1), (0, .ref h0), (1, .long va)]) hx hb dX1_drop_6 rfl hl (by decide) rfl (fun ls hl => ?_)
  refine lv_iconst (v := 0) hx hb dX1_drop_7 (by decide) ?_
  refine lv_istore (lv' := [(4, .int 0), (3, .int r_1), (0, .ref h0), (1, .long va)]) hx hb dX1_drop_8 hl (by decide) rfl (fun ls hl => ?_)
  have loop_10 : ∀ (n9 : Nat) (dk : Int32) (i : Int32) (lff : Int32) (lhe : Int32) (lfd : Int32) (lgc : Nat → Int32) (H : Heap) (locs : List Loc) (ls : Array Slot), (400 - i.toInt + 1).toNat ≤ n9 → 0 ≤ i.toInt → i.toInt ≤ 400 → lhe.toInt = e_held.toInt - i.toInt → lfd.toInt = e_freed.toInt + i.toInt → (∃ (lv2 : Nat → Bool) (FL2 DL2 : List Nat) (lB : Nat → Bool) (gB : Nat → Int) (DB : List Nat), (zCS (zwd z gf gk) lgc gv e_fresh lff lhe e_doubled lv2 R2 FL2 DL2 dk ∧ (∀ c, lv2 c = true → lv c = true) ∧ (∀ c, c ∈ FL2 → c ∈ FL ∨ lv c = true) ∧ ∀ c, c ∈ DL2 → lv c = true) ∧ DL2 = DB.map ph ∧ hZ ph lB gB nc wA kA cA (fun x => R2A x + zdl wA cA DB x) (DB ++ SI) gk lgc gv ∧ hKf ph lB nc (DB ++ SI) FL2 (Int32.toInt e_fresh) (Int32.toInt lhe) ∧ (∀ x, lB x = true ∨ x ∈ DB → lA x = true)) → va_P (dC, dI) vwCl [(cki, .inr (4, [.ref kw, .ref kf, .int z])), (kw, .inl (k1, 20, .inr (.inl gw))), (kf, .inl (k2, 20, .inl gf)), (h0, .inr (1, [.ref ek, .ref ec, .ref ef, .ref cki, .int e_limit, .int e_fresh, .int lff, .int lhe, .int e_mostHeld, .int e_made, .int e_reused, .int lfd, .int e_doubled])), (ek, .inl (e1, 400, .inl gk)), (ec, .inl (e2, 400, .inl lgc)), (ef, .inl (e3, 1200, .inr (.inl gv)))] H → va_D A [(cki, .inr (4, [.ref kw, .ref kf, .int z])), (kw, .inl (k1, 20, .inr (.inl gw))), (kf, .inl (k2, 20, .inl gf)), (h0, .inr (1, [.ref ek, .ref ec, .ref ef, .ref cki, .int e_limit, .int e_fresh, .int lff, .int lhe, .int e_mostHeld, .int e_made, .int e_reused, .int lfd, .int e_doubled])), (ek, .inl (e1, 400, .inl gk)), (ec, .inl (e2, 400, .inl lgc)), (ef, .inl (e3, 1200, .inr (.inl gv)))] → va_S A s.heap H locs → lv_has ls 7 [(4, .int i), (3, .int dk), (0, .ref h0), (1, .long va)] → W p l e (headSpec (Cond.code yX1_drop cX1_drop 7 none :: zw) ({ frames := 14, cells := 0, slots := 0, locals := 500 })).room s m #[.ref h0, .long va] below meth c H locs 0 0 (MQ below (va_Qv (fun u : (Nat → Int32) × Int32 × Int32 × Int32 => match u with | (gc2, ff2, he2, fd2) => (∃ (lv2 : Nat → Bool) (FL2 : List Nat) (lA2 : Nat → Bool) (gA2 : Nat → Int), (zCS (zwd z gf gk) gc2 gv e_fresh ff2 he2 e_doubled lv2 R2 FL2 [] (-1) ∧ (∀ c, lv2 c = true → lv c = true) ∧ ∀ c, c ∈ FL2 → c ∈ FL ∨ lv c = true) ∧ hZ ph lA2 gA2 nc wA kA cA R2A SI gk gc2 gv ∧ hKf ph lA2 nc SI FL2 (Int32.toInt e_fresh) (Int32.toInt he2)) ∧ (fd2.toInt = e_freed.toInt + (e_held.toInt - he2.toInt)) ∧ (he2.toInt ≤ e_held.toInt)) (fun u => match u with | (gc2, ff2, he2, fd2) => zQ dC dI A [(e1, .int), (e2, .int), (e3, .long), (k1, .long), (k2, .int)] [(h0, .inr (1, [.ref ek, .ref ec, .ref ef, .ref cki, .int e_limit, .int e_fresh, .int ff2, .int he2, .int e_mostHeld, .int e_made, .int e_reused, .int fd2, .int e_doubled])), (ek, .inl (e1, 400, .inl gk)), (ec, .inl (e2, 400, .inl gc2)), (ef, .inl (e3, 1200, .inr (.inl gv))), (cki, .inr (4, [.ref kw, .ref kf, .int z])), (kw, .inl (k1, 20, .inr (.inl gw))), (kf, .inl (k2, 20, .inl gf))]) A) #[.ref h0, .long va] s 0 0 A) (F0 m 10 ls []) := by
    intro n9
    induction n9 with
    | zero => intro dk i lff lhe lfd lgc H locs ls hm hi0 hi1 hih hif hlc; exfalso; omega
    | succ n9 ih =>
      intro dk i lff lhe lfd lgc H locs ls hm hi0 hi1 hih hif hlc hP hD hS hl
      refine lv_iload hx hb dX1_drop_10 (lv_at hl 0 rfl) ?_
      refine lv_aload_n hx hb dX1_drop_12 rfl (lv_at hl 2 rfl) ?_
      refine va_get (D := (dC, dI)) (ci := 1) (v := .ref ek) (C := RX1) (T := TX1) (N := 13) hx hb hA zin_X1 hown hK hP 3 rfl rfl 0 (by decide) (hA _ wi_435) (fun _ h9 => h9) rfl dX1_drop_13 ?_
      refine va_alen (v := 400) hx hb hK hP 4 2 rfl rfl rfl dX1_drop_16 ?_
      refine lv_icmp_ge (tgt := 82) hx hb dX1_drop_17 (by decide) (fun c_4 => ?_) (fun c_4 => ?_)
      · have ic_4 : 400 ≤ i.toInt := zi_le c_4
        have hP9 := hP.sub (ws' := [(h0, .inr (1, [.ref ek, .ref ec, .ref ef, .ref cki, .int e_limit, .int e_fresh, .int lff, .int lhe, .int e_mostHeld, .int e_made, .int e_reused, .int lfd, .int e_doubled])), (ek, .inl (e1, 400, .inl gk)), (ec, .inl (e2, 400, .inl lgc)), (ef, .inl (e3, 1200, .inr (.inl gv))), (cki, .inr (4, [.ref kw, .ref kf, .int z])), (kw, .inl (k1, 20, .inr (.inl gw))), (kf, .inl (k2, 20, .inl gf))]) [3, 4, 5, 6, 0, 1, 2] rfl
        have hD9 := hD.sub (ws' := [(h0, .inr (1, [.ref ek, .ref ec, .ref ef, .ref cki, .int e_limit, .int e_fresh, .int lff, .int lhe, .int e_mostHeld, .int e_made, .int e_reused, .int lfd, .int e_doubled])), (ek, .inl (e1, 400, .inl gk)), (ec, .inl (e2, 400, .inl lgc)), (ef, .inl (e3, 1200, .inr (.inl gv))), (cki, .inr (4, [.ref kw, .ref kf, .int z])), (kw, .inl (k1, 20, .inr (.inl gw))), (kf, .inl (k2, 20, .inl gf))]) [3, 4, 5, 6, 0, 1, 2] (by decide) rfl
        have hK9 := hK.sub (tys' := [(e1, .int), (e2, .int), (e3, .long), (k1, .long), (k2, .int)]) [2, 3, 4, 0, 1] rfl
        exact W.vret hx hb hr (fun t ht hW => ⟨⟨(lgc, lff, lhe, lfd), rfl, ⟨(by
        obtain ⟨lv2, FL2, DL2, lB, gB, DB, ⟨hz2, hl2, hf2, hd2⟩, hDB, hzB, hkB, hlB⟩ := hlc
        obtain rfl : DB = [] := (by cases DB with
          | nil => rfl
          | cons a l => exfalso; rw [hDB] at hz2; have h7 := hz2.2.2.2.2.2.2.1.1; have h8 := hkB.2; have h9 := hN_0 (c := nc) (lv := lB); rw [List.length_append, List.length_cons] at h8; omega)
        exact ⟨lv2, FL2, lB, gB, ⟨zCS_leak hz2, hl2, hf2⟩, hZ_R hzB (fun x => by show R2A x = R2A x + 0; omega), hkB⟩), by omega, by omega⟩, by rw [ht]; exact hP9, va_K.moved hW.alike hK9, hD9⟩, hS.F ht⟩) hS.2.2 dX1_drop_82
      · have ic_4 : i.toInt < 400 := zi_nle c_4
        refine lv_iload_n hx hb dX1_drop_20 rfl (lv_at hl 1 rfl) ?_
        refine lv_iconst (v := (-1)) hx hb dX1_drop_21 (by decide) ?_
        refine lv_icmp_eq (tgt := 82) hx hb dX1_drop_22 (by decide) (fun c_5 => ?_) (fun c_5 => ?_)
        · have ic_5 : dk.toInt = (-1) := zi_eq c_5
          have hP9 := hP.sub (ws' := [(h0, .inr (1, [.ref ek, .ref ec, .ref ef, .ref cki, .int e_limit, .int e_fresh, .int lff, .int lhe, .int e_mostHeld, .int e_made, .int e_reused, .int lfd, .int e_doubled])), (ek, .inl (e1, 400, .inl gk)), (ec, .inl (e2, 400, .inl lgc)), (ef, .inl (e3, 1200, .inr (.inl gv))), (cki, .inr (4, [.ref kw, .ref kf, .int z])), (kw, .inl (k1, 20, .inr (.inl gw))), (kf, .inl (k2, 20, .inl gf))]) [3, 4, 5, 6, 0, 1, 2] rfl
          have hD9 := hD.sub (ws' := [(h0, .inr (1, [.ref ek, .ref ec, .ref ef, .ref cki, .int e_limit, .int e_fresh, .int lff, .int lhe, .int e_mostHeld, .int e_made, .int e_reused, .int lfd, .int e_doubled])), (ek, .inl (e1, 400, .inl gk)), (ec, .inl (e2, 400, .inl lgc)), (ef, .inl (e3, 1200, .inr (.inl gv))), (cki, .inr (4, [.ref kw, .ref kf, .int z])), (kw, .inl (k1, 20, .inr (.inl gw))), (kf, .inl (k2, 20, .inl gf))]) [3, 4, 5, 6, 0, 1, 2] (by decide) rfl
          have hK9 := hK.sub (tys' := [(e1, .int), (e2, .int), (e3, .long), (k1, .long), (k2, .int)]) [2, 3, 4, 0, 1] rfl
          exact W.vret hx hb hr (fun t ht hW => ⟨⟨(lgc, lff, lhe, lfd), rfl, ⟨(by
        obtain ⟨lv2, FL2, DL2, lB, gB, DB, ⟨hz2, hl2, hf2, hd2⟩, hDB, hzB, hkB, hlB⟩ := hlc
        obtain rfl : DB = [] := (by cases DB with
          | nil => rfl
          | cons a l => exfalso; rw [hDB] at hz2; have h7 := hz2.2.2.2.2.2.2.1.1; have h8 := hkB.2; have h9 := hN_0 (c := nc) (lv := lB); rw [List.length_append, List.length_cons] at h8; omega)
        exact ⟨lv2, FL2, lB, gB, ⟨zCS_leak hz2, hl2, hf2⟩, hZ_R hzB (fun x => by show R2A x = R2A x + 0; omega), hkB⟩), by omega, by omega⟩, by rw [ht]; exact hP9, va_K.moved hW.alike hK9, hD9⟩, hS.F ht⟩) hS.2.2 dX1_drop_82
        · have ic_5 : dk.toInt ≠ (-1) := zi_ne c_5
          obtain ⟨lv2, FL2, DL2, lB, gB, DB, ⟨hz2, hl2, hf2, hd2⟩, hDB, hzB, hkB, hlB⟩ := hlc
          obtain ⟨p1, p2, p3, p4, p5, DL3, hz3, p6, p7⟩ := zCS_pop hz2 (by omega)
          have hf4 := hz2.2.2.1
          have hli2 := hz2.2.2.2.2.2.2.1
          rw [hDB] at hli2
          obtain ⟨a9, DB3, hDB3, hpa, hDL3⟩ := dz_pop hli2 (by omega) hz3.2.2.2.2.2.2.1
          have hla9 : lA a9 = true := hlB a9 (Or.inr (by rw [hDB3]; exact List.mem_cons_self))
          have hat9 := hZA.2.2.1 a9 hla9
          have hwa9 : wA a9 = (zwd z gf gk) (Int32.toNatClampNeg dk) := by rw [hwA a9 hla9, ← hat9.2.1, hpa]; rfl
          have hva9 : ∀ j : Nat, j < wA a9 → vr ph (cA (3 * a9 + j)) (gv (3 * Int32.toNatClampNeg dk + j)) := fun j hj => by have h9 := hat9.2.2.2.2 j hj; rw [hpa] at h9; exact h9
          rw [hDB3] at hzB hkB
          have hnd9 := nd_mid (A := DB3) (B := SI) (a := a9) hzB.2.2.2.2.1
          have hzB3 := hZ_un hzB hnd9.2 hnd9.1
          have hkB3 := hK_s hkB hnd9.2 (by rw [List.length_append, List.length_cons, List.length_append, List.length_cons]; omega)
          have hhe9 := zCS_held hz2
          have hkl9 := hkB.2
          have hkn9 := hN_0 (c := nc) (lv := lB)
          rw [List.length_append, List.length_cons] at hkl9
          refine lv_iload_n hx hb dX1_drop_25 rfl (lv_at hl 1 rfl) ?_
          refine lv_istore (lv' := [(5, .int dk), (4, .int i), (3, .int dk), (0, .ref h0), (1, .long va)]) hx hb dX1_drop_26 hl (by decide) rfl (fun ls hl => ?_)
          refine lv_aload_n hx hb dX1_drop_28 rfl (lv_at hl 3 rfl) ?_
          refine va_get (D := (dC, dI)) (ci := 1) (v := .ref ec) (C := RX1) (T := TX1) (N := 13) hx hb hA zin_X1 hown hK hP 3 rfl rfl 1 (by decide) (hA _ wi_436) (fun _ h9 => h9) rfl dX1_drop_29 ?_
          refine lv_iload hx hb dX1_drop_32 (lv_at hl 0 rfl) ?_
          refine va_iald hx hb hK hP 5 3 rfl rfl (vp_in_iff.mpr ⟨by omega, by omega⟩) dX1_drop_34 ?_
          refine lv_topi (fun x_6 ex_6 => ?_)
          refine lv_istore_n (lv' := [(3, .int x_6), (5, .int dk), (4, .int i), (0, .ref h0), (1, .long va)]) hx hb dX1_drop_35 rfl hl (by decide) rfl (fun ls hl => ?_)
          refine lv_iconst (v := 0) hx hb dX1_drop_36 (by decide) ?_
          refine lv_istore (lv' := [(6, .int 0), (3, .int x_6), (5, .int dk), (4, .int i), (0, .ref h0), (1, .long va)]) hx hb dX1_drop_37 hl (by decide) rfl (fun ls hl => ?_)
          have loop_39 : ∀ (n9 : Nat) (dj : Int32) (k : Int32) (lg2 : Nat → Int32) (H : Heap) (locs : List Loc) (ls : Array Slot), (3 - k.toInt + 1).toNat ≤ n9 → 0 ≤ k.toInt → k.toInt ≤ 3 → (∃ (lv4 : Nat → Bool) (DL4 : List Nat) (lC : Nat → Bool) (gC : Nat → Int) (DC : List Nat), (zCS (zwd z gf gk) lg2 gv e_fresh lff lhe e_doubled lv4 (fun c => R2 c + zrm ((zwd z gf gk) (Int32.toNatClampNeg dk)) (Int32.toNatClampNeg k) (fun j => zr (gv (3 * Int32.toNatClampNeg dk + j)) c)) FL2 DL4 dj ∧ lv4 (Int32.toNatClampNeg dk) = false ∧ Int32.toNatClampNeg dk ∉ FL2 ++ DL4 ∧ (∀ c, lv4 c = true → lv2 c = true) ∧ ∀ c, c ∈ DL4 → c ∈ DL2 ∨ lv2 c = true) ∧ DL4 = DC.map ph ∧ hZ ph lC gC nc wA kA cA (fun x => R2A x + zrm (wA a9) (Int32.toNatClampNeg k) (fun j => zr (cA (3 * a9 + j)) x) + zdl wA cA DC x) (DC ++ a9 :: SI) gk lg2 gv ∧ hKf ph lC nc (DC ++ a9 :: SI) FL2 (Int32.toInt e_fresh) (Int32.toInt lhe) ∧ (∀ x, lC x = true ∨ x ∈ DC → lA x = true)) → va_P (dC, dI) vwCl [(cki, .inr (4, [.ref kw, .ref kf, .int z])), (kw, .inl (k1, 20, .inr (.inl gw))), (kf, .inl (k2, 20, .inl gf)), (h0, .inr (1, [.ref ek, .ref ec, .ref ef, .ref cki, .int e_limit, .int e_fresh, .int lff, .int lhe, .int e_mostHeld, .int e_made, .int e_reused, .int lfd, .int e_doubled])), (ek, .inl (e1, 400, .inl gk)), (ec, .inl (e2, 400, .inl lg2)), (ef, .inl (e3, 1200, .inr (.inl gv)))] H → va_D A [(cki, .inr (4, [.ref kw, .ref kf, .int z])), (kw, .inl (k1, 20, .inr (.inl gw))), (kf, .inl (k2, 20, .inl gf)), (h0, .inr (1, [.ref ek, .ref ec, .ref ef, .ref cki, .int e_limit, .int e_fresh, .int lff, .int lhe, .int e_mostHeld, .int e_made, .int e_reused, .int lfd, .int e_doubled])), (ek, .inl (e1, 400, .inl gk)), (ec, .inl (e2, 400, .inl lg2)), (ef, .inl (e3, 1200, .inr (.inl gv)))] → va_S A s.heap H locs → lv_has ls 7 [(6, .int k), (3, .int dj), (5, .int dk), (4, .int i), (0, .ref h0), (1, .long va)] → W p l e (headSpec (Cond.code yX1_drop cX1_drop 7 none :: zw) ({ frames := 14, cells := 0, slots := 0, locals := 500 })).room s m #[.ref h0, .long va] below meth c H locs 0 0 (MQ below (va_Qv (fun u : (Nat → Int32) × Int32 × Int32 × Int32 => match u with | (gc2, ff2, he2, fd2) => (∃ (lv2 : Nat → Bool) (FL2 : List Nat) (lA2 : Nat → Bool) (gA2 : Nat → Int), (zCS (zwd z gf gk) gc2 gv e_fresh ff2 he2 e_doubled lv2 R2 FL2 [] (-1) ∧ (∀ c, lv2 c = true → lv c = true) ∧ ∀ c, c ∈ FL2 → c ∈ FL ∨ lv c = true) ∧ hZ ph lA2 gA2 nc wA kA cA R2A SI gk gc2 gv ∧ hKf ph lA2 nc SI FL2 (Int32.toInt e_fresh) (Int32.toInt he2)) ∧ (fd2.toInt = e_freed.toInt + (e_held.toInt - he2.toInt)) ∧ (he2.toInt ≤ e_held.toInt)) (fun u => match u with | (gc2, ff2, he2, fd2) => zQ dC dI A [(e1, .int), (e2, .int), (e3, .long), (k1, .long), (k2, .int)] [(h0, .inr (1, [.ref ek, .ref ec, .ref ef, .ref cki, .int e_limit, .int e_fresh, .int ff2, .int he2, .int e_mostHeld, .int e_made, .int e_reused, .int fd2, .int e_doubled])), (ek, .inl (e1, 400, .inl gk)), (ec, .inl (e2, 400, .inl gc2)), (ef, .inl (e3, 1200, .inr (.inl gv))), (cki, .inr (4, [.ref kw, .ref kf, .int z])), (kw, .inl (k1, 20, .inr (.inl gw))), (kf, .inl (k2, 20, .inl gf))]) A) #[.ref h0, .long va] s 0 0 A) (F0 m 39 ls []) := by
            intro n9
            induction n9 with
            | zero => intro dj k lg2 H locs ls hm hk0 hk1 hic; exfalso; omega
            | succ n9 ih_39 =>
              intro dj k lg2 H locs ls hm hk0 hk1 hic hP hD hS hl
              obtain ⟨lv4, DL4, lC, gC, DC, ⟨hz4, q2, q3, q4, q5⟩, hDC, hzC, hkC, hlC⟩ := hic
              refine lv_iload hx hb dX1_drop_39 (lv_at hl 0 rfl) ?_
              refine lv_aload_n hx hb dX1_drop_41 rfl (lv_at hl 4 rfl) ?_
              refine lv_iload hx hb dX1_drop_42 (lv_at hl 2 rfl) ?_
              have hPc := hP.sub (ws' := [(h0, .inr (1, [.ref ek, .ref ec, .ref ef, .ref cki, .int e_limit, .int e_fresh, .int lff, .int lhe, .int e_mostHeld, .int e_made, .int e_reused, .int lfd, .int e_doubled])), (ek, .inl (e1, 400, .inl gk)), (ec, .inl (e2, 400, .inl lg2)), (ef, .inl (e3, 1200, .inr (.inl gv))), (cki, .inr (4, [.ref kw, .ref kf, .int z])), (kw, .inl (k1, 20, .inr (.inl gw))), (kf, .inl (k2, 20, .inl gf))]) [3, 4, 5, 6, 0, 1, 2] rfl
              have hDc := hD.sub (ws' := [(h0, .inr (1, [.ref ek, .ref ec, .ref ef, .ref cki, .int e_limit, .int e_fresh, .int lff, .int lhe, .int e_mostHeld, .int e_made, .int e_reused, .int lfd, .int e_doubled])), (ek, .inl (e1, 400, .inl gk)), (ec, .inl (e2, 400, .inl lg2)), (ef, .inl (e3, 1200, .inr (.inl gv))), (cki, .inr (4, [.ref kw, .ref kf, .int z])), (kw, .inl (k1, 20, .inr (.inl gw))), (kf, .inl (k2, 20, .inl gf))]) [3, 4, 5, 6, 0, 1, 2] (by decide) rfl
              have hKc := hK.sub (tys' := [(e1, .int), (e2, .int), (e3, .long), (k1, .long), (k2, .int)]) [2, 3, 4, 0, 1] rfl
              have hFc := va_free (wc := [(h0, .inr (1, [.ref ek, .ref ec, .ref ef, .ref cki, .int e_limit, .int e_fresh, .int lff, .int lhe, .int e_mostHeld, .int e_made, .int e_reused, .int lfd, .int e_doubled])), (ek, .inl (e1, 400, .inl gk)), (ec, .inl (e2, 400, .inl lg2)), (ef, .inl (e3, 1200, .inr (.inl gv))), (cki, .inr (4, [.ref kw, .ref kf, .int z])), (kw, .inl (k1, 20, .inr (.inl gw))), (kf, .inl (k2, 20, .inl gf))]) hD hS hAA [3, 4, 5, 6, 0, 1, 2] rfl
              refine va_calli (va_runV (As := [.int dk]) (rest := [.int k]) ⟨hx, hb, hml, hown, hA⟩ (c_X1_width_x400 l dC dI aK aV h0 ek ec ef cki e1 e2 e3 e_limit e_fresh lff lhe e_mostHeld e_made e_reused lfd e_doubled gk lg2 gv kw kf k1 k2 z gw gf dk H.size (by omega) (by omega) hgf (by omega) (by omega)) (cwV 1 hA (zw_V wi_1150 wi_1151 wi_1152 wi_140 (zw_good wi_1153)) rfl rfl rfl (by decide +kernel) ⟨(Nat.le_of_ble_eq_true rfl), (Nat.le_of_ble_eq_true rfl)⟩) ⟨zP_blind, va_recv hKc hPc (ci := 1) (q0 := 0) rfl rfl, zz_pre hKc hPc hDc hN hT hS hFc⟩ rfl rfl hl.1 rfl (lv_room (Nat.le_of_ble_eq_true rfl)) dX1_drop_44 ⟨(Nat.le_of_ble_eq_true rfl), (Nat.le_of_ble_eq_true rfl)⟩) hS (fun q _ h => hFc q h) hFc (fun r_7 u t H1 locs ht hvm hw hB hz1 hk1 hS => ?_)
              obtain ⟨hP1, hK1, hD1⟩ := hB
              rw [ht] at hP1
              have hK1 := va_K.moved hvm.symm hK1
              obtain ⟨hP, hD⟩ := va_join (wr := []) (w1 := [(h0, .inr (1, [.ref ek, .ref ec, .ref ef, .ref cki, .int e_limit, .int e_fresh, .int lff, .int lhe, .int e_mostHeld, .int e_made, .int e_reused, .int lfd, .int e_doubled])), (ek, .inl (e1, 400, .inl gk)), (ec, .inl (e2, 400, .inl lg2)), (ef, .inl (e3, 1200, .inr (.inl gv))), (cki, .inr (4, [.ref kw, .ref kf, .int z])), (kw, .inl (k1, 20, .inr (.inl gw))), (kf, .inl (k2, 20, .inl gf))]) hP hD [3, 4, 5, 6, 0, 1, 2] [] rfl rfl (by decide) (by decide) hk1 hFc hP1 hD1
              have hK := (hK.sub (tys' := []) [] rfl).app hK1
              generalize H1 = H at hP hS ⊢
              have hP : va_P (dC, dI) vwCl [(h0, .inr (1, [.ref ek, .ref ec, .ref ef, .ref cki, .int e_limit, .int e_fresh, .int lff, .int lhe, .int e_mostHeld, .int e_made, .int e_reused, .int lfd, .int e_doubled])), (ek, .inl (e1, 400, .inl gk)), (ec, .inl (e2, 400, .inl lg2)), (ef, .inl (e3, 1200, .inr (.inl gv))), (cki, .inr (4, [.ref kw, .ref kf, .int z])), (kw, .inl (k1, 20, .inr (.inl gw))), (kf, .inl (k2, 20, .inl gf))] H := hP
              have hD : va_D A [(h0, .inr (1, [.ref ek, .ref ec, .ref ef, .ref cki, .int e_limit, .int e_fresh, .int lff, .int lhe, .int e_mostHeld, .int e_made, .int e_reused, .int lfd, .int e_doubled])), (ek, .inl (e1, 400, .inl gk)), (ec, .inl (e2, 400, .inl lg2)), (ef, .inl (e3, 1200, .inr (.inl gv))), (cki, .inr (4, [.ref kw, .ref kf, .int z])), (kw, .inl (k1, 20, .inr (.inl gw))), (kf, .inl (k2, 20, .inl gf))] := hD
              have hK : va_K (dC, dI) vwCl [(e1, .int), (e2, .int), (e3, .long), (k1, .long), (k2, .int)] s := hK
              have hw_r_7 := hw
              try dsimp only at hw_r_7
              obtain ⟨hq_8, hq_9, hq_10⟩ := hw
              have hwd9 : (((zwd z gf gk) (Int32.toNatClampNeg dk) : Nat) : Int) = r_7.toInt := by have h9 : ((zfk z gf (gk (Int32.toNatClampNeg dk))).toNat : Int) = r_7.toInt := (by rw [← hq_10]; omega); exact h9
              refine lv_icmp_ge (tgt := 70) hx hb dX1_drop_47 (by decide) (fun c_11 => ?_) (fun c_11 => ?_)
              · have ic_11 : r_7.toInt ≤ k.toInt := zi_le c_11
                have hk9 := zn_nat (x := k) (by omega)
                have hz6 := zCS_R (R2 := R2) (fun c => by show R2 c = R2 c + zrm _ _ _; rw [zrm_e (by omega)]; omega) hz4
                have hkl8 := hkC.2
                have hkn8 := hN_0 (c := nc) (lv := lC)
                have hzC6 := hZ_R (R2 := fun x => R2A x + zdl wA cA DC x) hzC (fun x => by show R2A x + zdl wA cA DC x = R2A x + zrm _ _ _ + zdl wA cA DC x; rw [zrm_e (by rw [hwa9]; omega)]; omega)
                refine lv_aload_n hx hb dX1_drop_70 rfl (lv_at hl 4 rfl) ?_
                refine lv_iload hx hb dX1_drop_71 (lv_at hl 2 rfl) ?_
                have hPc := hP.sub (ws' := [(h0, .inr (1, [.ref ek, .ref ec, .ref ef, .ref cki, .int e_limit, .int e_fresh, .int lff, .int lhe, .int e_mostHeld, .int e_made, .int e_reused, .int lfd, .int e_doubled])), (ek, .inl (e1, 400, .inl gk)), (ec, .inl (e2, 400, .inl lg2)), (ef, .inl (e3, 1200, .inr (.inl gv)))]) [0, 1, 2, 3] rfl
                have hDc := hD.sub (ws' := [(h0, .inr (1, [.ref ek, .ref ec, .ref ef, .ref cki, .int e_limit, .int e_fresh, .int lff, .int lhe, .int e_mostHeld, .int e_made, .int e_reused, .int lfd, .int e_doubled])), (ek, .inl (e1, 400, .inl gk)), (ec, .inl (e2, 400, .inl lg2)), (ef, .inl (e3, 1200, .inr (.inl gv)))]) [0, 1, 2, 3] (by decide) rfl
                have hKc := hK.sub (tys' := [(e1, .int), (e2, .int), (e3, .long)]) [0, 1, 2] rfl
                have hFc := va_free (wc := [(h0, .inr (1, [.ref ek, .ref ec, .ref ef, .ref cki, .int e_limit, .int e_fresh, .int lff, .int lhe, .int e_mostHeld, .int e_made, .int e_reused, .int lfd, .int e_doubled])), (ek, .inl (e1, 400, .inl gk)), (ec, .inl (e2, 400, .inl lg2)), (ef, .inl (e3, 1200, .inr (.inl gv)))]) hD hS hAA [0, 1, 2, 3] rfl
                refine va_callv (va_runV (As := [.int dk]) (rest := []) ⟨hx, hb, hml, hown, hA⟩ (c_X1_free_z l dC dI aK aV h0 ek ec ef cki e1 e2 e3 e_limit e_fresh lff lhe e_mostHeld e_made e_reused lfd e_doubled gk lg2 gv dk (zwd z gf gk) lv4 R2 FL2 DL4 dj H.size hz6 q2 q3 (by omega) (by omega) (by omega) (by omega)) (cwV 1 hA (zw_V wi_1159 wi_1160 wi_1161 wi_140 (zw_good wi_1162)) rfl rfl rfl (by decide +kernel) ⟨(Nat.le_of_ble_eq_true rfl), (Nat.le_of_ble_eq_true rfl)⟩) ⟨zP_blind, va_recv hKc hPc (ci := 1) (q0 := 0) rfl rfl, zz_pre hKc hPc hDc hN hT hS hFc⟩ rfl rfl hl.1 rfl (lv_room (Nat.le_of_ble_eq_true rfl)) dX1_drop_73 ⟨(Nat.le_of_ble_eq_true rfl), (Nat.le_of_ble_eq_true rfl)⟩) hS (fun q _ h => hFc q h) hFc (fun u t H1 locs ht hvm hw hB hz1 hk1 hS => ?_)
                obtain ⟨gc_13, he_14, fd_15⟩ := u
                obtain ⟨hP1, hK1, hD1⟩ := hB
                rw [ht] at hP1
                have hK1 := va_K.moved hvm.symm hK1
                obtain ⟨hP, hD⟩ := va_join (wr := [(cki, .inr (4, [.ref kw, .ref kf, .int z])), (kw, .inl (k1, 20, .inr (.inl gw))), (kf, .inl (k2, 20, .inl gf))]) (w1 := [(h0, .inr (1, [.ref ek, .ref ec, .ref ef, .ref cki, .int e_limit, .int e_fresh, .int dk, .int he_14, .int e_mostHeld, .int e_made, .int e_reused, .int fd_15, .int e_doubled])), (ek, .inl (e1, 400, .inl gk)), (ec, .inl (e2, 400, .inl gc_13)), (ef, .inl (e3, 1200, .inr (.inl gv)))]) hP hD [0, 1, 2, 3] [4, 5, 6] rfl rfl (by decide) (by decide) hk1 hFc hP1 hD1
                have hK := (hK.sub (tys' := [(k1, .long), (k2, .int)]) [3, 4] rfl).app hK1
                generalize H1 = H at hP hS ⊢
                have hP : va_P (dC, dI) vwCl [(cki, .inr (4, [.ref kw, .ref kf, .int z])), (kw, .inl (k1, 20, .inr (.inl gw))), (kf, .inl (k2, 20, .inl gf)), (h0, .inr (1, [.ref ek, .ref ec, .ref ef, .ref cki, .int e_limit, .int e_fresh, .int dk, .int he_14, .int e_mostHeld, .int e_made, .int e_reused, .int fd_15, .int e_doubled])), (ek, .inl (e1, 400, .inl gk)), (ec, .inl (e2, 400, .inl gc_13)), (ef, .inl (e3, 1200, .inr (.inl gv)))] H := hP
                have hD : va_D A [(cki, .inr (4, [.ref kw, .ref kf, .int z])), (kw, .inl (k1, 20, .inr (.inl gw))), (kf, .inl (k2, 20, .inl gf)), (h0, .inr (1, [.ref ek, .ref ec, .ref ef, .ref cki, .int e_limit, .int e_fresh, .int dk, .int he_14, .int e_mostHeld, .int e_made, .int e_reused, .int fd_15, .int e_doubled])), (ek, .inl (e1, 400, .inl gk)), (ec, .inl (e2, 400, .inl gc_13)), (ef, .inl (e3, 1200, .inr (.inl gv)))] := hD
                have hK : va_K (dC, dI) vwCl [(k1, .long), (k2, .int), (e1, .int), (e2, .int), (e3, .long)] s := hK
                obtain ⟨hq_16, hq_17, hq_18, hq_19⟩ := hw
                have hfz9 := hK_free (gc2 := gc_13) (held2 := Int32.toInt he_14) hzC6 hkC (fun y hy => by rw [hq_17, zu_n (by rw [← hpa]; exact hy)]) (by omega)
                obtain ⟨x_20, ex_20⟩ : ∃ y : Int32, y = i + Int32.ofInt 1 := ⟨_, rfl⟩
                refine lv_iinc (v := x_20) (lv' := [(4, .int x_20), (6, .int k), (3, .int dj), (5, .int dk), (0, .ref h0), (1, .long va)]) hx hb dX1_drop_76 hl (k := 3) rfl (by rw [ex_20]) (by decide) rfl (fun ls hl => ?_)
                have ix_20 : x_20.toInt = i.toInt + 1 := by rw [ex_20]; exact zi_addc (by decide) (by omega) (by omega)
                refine lv_goto (tgt := 10) hx hb dX1_drop_79 (by decide) ?_
                have hlc_21 : ∃ (lv2 : Nat → Bool) (FL2 DL2 : List Nat) (lB : Nat → Bool) (gB : Nat → Int) (DB : List Nat), (zCS (zwd z gf gk) gc_13 gv e_fresh dk he_14 e_doubled lv2 R2 FL2 DL2 dj ∧ (∀ c, lv2 c = true → lv c = true) ∧ (∀ c, c ∈ FL2 → c ∈ FL ∨ lv c = true) ∧ ∀ c, c ∈ DL2 → lv c = true) ∧ DL2 = DB.map ph ∧ hZ ph lB gB nc wA kA cA (fun x => R2A x + zdl wA cA DB x) (DB ++ SI) gk gc_13 gv ∧ hKf ph lB nc (DB ++ SI) FL2 (Int32.toInt e_fresh) (Int32.toInt he_14) ∧ (∀ x, lB x = true ∨ x ∈ DB → lA x = true) := ⟨lv4, _, DL4, lC, gC, DC, ⟨hq_16, fun c h => hl2 c (q4 c h), fun c h => (List.mem_cons.mp h).elim (fun g => Or.inr (by rw [g]; exact hd2 _ p5)) (hf2 c), fun c h => (q5 c h).elim (hd2 c) (hl2 c)⟩, hDC, hfz9.1, (by have h9 := hfz9.2; rw [hpa] at h9; exact h9), fun x h => hlC x h⟩
                exact ih dj x_20 dk he_14 fd_15 gc_13 _ _ _ (by omega) (by omega) (by omega) (by omega) (by omega) hlc_21 (hP.sub [0, 1, 2, 3, 4, 5, 6] rfl) (hD.sub [0, 1, 2, 3, 4, 5, 6] (by decide) rfl) hS (lv_sub hl [0, 2, 4, 5] rfl)
              · have ic_11 : k.toInt < r_7.toInt := zi_nle c_11
                refine lv_aload_n hx hb dX1_drop_50 rfl (lv_at hl 4 rfl) ?_
                refine lv_aload_n hx hb dX1_drop_51 rfl (lv_at hl 4 rfl) ?_
                refine lv_iload hx hb dX1_drop_52 (lv_at hl 2 rfl) ?_
                refine lv_iload hx hb dX1_drop_54 (lv_at hl 0 rfl) ?_
                have hPc := hP.sub (ws' := [(h0, .inr (1, [.ref ek, .ref ec, .ref ef, .ref cki, .int e_limit, .int e_fresh, .int lff, .int lhe, .int e_mostHeld, .int e_made, .int e_reused, .int lfd, .int e_doubled])), (ek, .inl (e1, 400, .inl gk)), (ec, .inl (e2, 400, .inl lg2)), (ef, .inl (e3, 1200, .inr (.inl gv)))]) [0, 1, 2, 3] rfl
                have hDc := hD.sub (ws' := [(h0, .inr (1, [.ref ek, .ref ec, .ref ef, .ref cki, .int e_limit, .int e_fresh, .int lff, .int lhe, .int e_mostHeld, .int e_made, .int e_reused, .int lfd, .int e_doubled])), (ek, .inl (e1, 400, .inl gk)), (ec, .inl (e2, 400, .inl lg2)), (ef, .inl (e3, 1200, .inr (.inl gv)))]) [0, 1, 2, 3] (by decide) rfl
                have hKc := hK.sub (tys' := [(e1, .int), (e2, .int), (e3, .long)]) [0, 1, 2] rfl
                have hFc := va_free (wc := [(h0, .inr (1, [.ref ek, .ref ec, .ref ef, .ref cki, .int e_limit, .int e_fresh, .int lff, .int lhe, .int e_mostHeld, .int e_made, .int e_reused, .int lfd, .int e_doubled])), (ek, .inl (e1, 400, .inl gk)), (ec, .inl (e2, 400, .inl lg2)), (ef, .inl (e3, 1200, .inr (.inl gv)))]) hD hS hAA [0, 1, 2, 3] rfl
                refine va_calll (va_runV (As := [.int dk, .int k]) (rest := [.ref h0]) ⟨hx, hb, hml, hown, hA⟩ (c_X1_field_x400 l dC dI aK aV h0 ek ec ef cki e1 e2 e3 e_limit e_fresh lff lhe e_mostHeld e_made e_reused lfd e_doubled gk lg2 gv dk k H.size (by omega) (by omega) (by omega) (by omega)) (cwV 2 hA (zw_V wi_1155 wi_1156 wi_1157 wi_140 (zw_good wi_1158)) rfl rfl rfl (by decide +kernel) ⟨(Nat.le_of_ble_eq_true rfl), (Nat.le_of_ble_eq_true rfl)⟩) ⟨zP_blind, va_recv hKc hPc (ci := 1) (q0 := 0) rfl rfl, zz_pre hKc hPc hDc hN hT hS hFc⟩ rfl rfl hl.1 rfl (lv_room (Nat.le_of_ble_eq_true rfl)) dX1_drop_56 ⟨(Nat.le_of_ble_eq_true rfl), (Nat.le_of_ble_eq_true rfl)⟩) hS (fun q _ h => hFc q h) hFc (fun r_22 u t H1 locs ht hvm hw hB hz1 hk1 hS => ?_)
                obtain ⟨hP1, hK1, hD1⟩ := hB
                rw [ht] at hP1
                have hK1 := va_K.moved hvm.symm hK1
                obtain ⟨hP, hD⟩ := va_join (wr := [(cki, .inr (4, [.ref kw, .ref kf, .int z])), (kw, .inl (k1, 20, .inr (.inl gw))), (kf, .inl (k2, 20, .inl gf))]) (w1 := [(h0, .inr (1, [.ref ek, .ref ec, .ref ef, .ref cki, .int e_limit, .int e_fresh, .int lff, .int lhe, .int e_mostHeld, .int e_made, .int e_reused, .int lfd, .int e_doubled])), (ek, .inl (e1, 400, .inl gk)), (ec, .inl (e2, 400, .inl lg2)), (ef, .inl (e3, 1200, .inr (.inl gv)))]) hP hD [0, 1, 2, 3] [4, 5, 6] rfl rfl (by decide) (by decide) hk1 hFc hP1 hD1
                have hK := (hK.sub (tys' := [(k1, .long), (k2, .int)]) [3, 4] rfl).app hK1
                generalize H1 = H at hP hS ⊢
                have hP : va_P (dC, dI) vwCl [(cki, .inr (4, [.ref kw, .ref kf, .int z])), (kw, .inl (k1, 20, .inr (.inl gw))), (kf, .inl (k2, 20, .inl gf)), (h0, .inr (1, [.ref ek, .ref ec, .ref ef, .ref cki, .int e_limit, .int e_fresh, .int lff, .int lhe, .int e_mostHeld, .int e_made, .int e_reused, .int lfd, .int e_doubled])), (ek, .inl (e1, 400, .inl gk)), (ec, .inl (e2, 400, .inl lg2)), (ef, .inl (e3, 1200, .inr (.inl gv)))] H := hP
                have hD : va_D A [(cki, .inr (4, [.ref kw, .ref kf, .int z])), (kw, .inl (k1, 20, .inr (.inl gw))), (kf, .inl (k2, 20, .inl gf)), (h0, .inr (1, [.ref ek, .ref ec, .ref ef, .ref cki, .int e_limit, .int e_fresh, .int lff, .int lhe, .int e_mostHeld, .int e_made, .int e_reused, .int lfd, .int e_doubled])), (ek, .inl (e1, 400, .inl gk)), (ec, .inl (e2, 400, .inl lg2)), (ef, .inl (e3, 1200, .inr (.inl gv)))] := hD
                have hK : va_K (dC, dI) vwCl [(k1, .long), (k2, .int), (e1, .int), (e2, .int), (e3, .long)] s := hK
                have hq_23 := hw
                refine lv_iload_n hx hb dX1_drop_59 rfl (lv_at hl 1 rfl) ?_
                have hk9 := zn_nat (x := k) (by omega)
                have hkw9 : Int32.toNatClampNeg k < (zwd z gf gk) (Int32.toNatClampNeg dk) := by omega
                have hkA9 : Int32.toNatClampNeg k < wA a9 := by rw [hwa9]; exact hkw9
                have hPc := hP.sub (ws' := [(h0, .inr (1, [.ref ek, .ref ec, .ref ef, .ref cki, .int e_limit, .int e_fresh, .int lff, .int lhe, .int e_mostHeld, .int e_made, .int e_reused, .int lfd, .int e_doubled])), (ek, .inl (e1, 400, .inl gk)), (ec, .inl (e2, 400, .inl lg2)), (ef, .inl (e3, 1200, .inr (.inl gv)))]) [3, 4, 5, 6] rfl
                have hDc := hD.sub (ws' := [(h0, .inr (1, [.ref ek, .ref ec, .ref ef, .ref cki, .int e_limit, .int e_fresh, .int lff, .int lhe, .int e_mostHeld, .int e_made, .int e_reused, .int lfd, .int e_doubled])), (ek, .inl (e1, 400, .inl gk)), (ec, .inl (e2, 400, .inl lg2)), (ef, .inl (e3, 1200, .inr (.inl gv)))]) [3, 4, 5, 6] (by decide) rfl
                have hKc := hK.sub (tys' := [(e1, .int), (e2, .int), (e3, .long)]) [2, 3, 4] rfl
                have hFc := va_free (wc := [(h0, .inr (1, [.ref ek, .ref ec, .ref ef, .ref cki, .int e_limit, .int e_fresh, .int lff, .int lhe, .int e_mostHeld, .int e_made, .int e_reused, .int lfd, .int e_doubled])), (ek, .inl (e1, 400, .inl gk)), (ec, .inl (e2, 400, .inl lg2)), (ef, .inl (e3, 1200, .inr (.inl gv)))]) hD hS hAA [3, 4, 5, 6] rfl
                refine va_calli (va_runV (As := [.long r_22, .int dj]) (rest := []) ⟨hx, hb, hml, hown, hA⟩ (c_X1_lower_z l dC dI aK aV h0 ek ec ef cki e1 e2 e3 e_limit e_fresh lff lhe e_mostHeld e_made e_reused lfd e_doubled gk lg2 gv r_22 dj (zwd z gf gk) lv4 (fun c => R2 c + zrm ((zwd z gf gk) (Int32.toNatClampNeg dk)) (Int32.toNatClampNeg k) (fun j => zr (gv (3 * Int32.toNatClampNeg dk + j)) c)) FL2 DL4 (fun c => R2 c + zrm ((zwd z gf gk) (Int32.toNatClampNeg dk)) (Int32.toNatClampNeg k + 1) (fun j => zr (gv (3 * Int32.toNatClampNeg dk + j)) c)) ph lC gC nc wA kA cA (a9 :: SI) (fun x => R2A x + zrm (wA a9) (Int32.toNatClampNeg k + 1) (fun j => zr (cA (3 * a9 + j)) x)) (cA (3 * a9 + Int32.toNatClampNeg k)) DC H.size hz4 (by rw [hq_23]; exact p4 _ hkw9) (fun c => by show R2 c + zrm _ (Int32.toNatClampNeg k) _ = R2 c + zrm _ (Int32.toNatClampNeg k + 1) _ + zr r_22 c; rw [zrm_s hkw9, hq_23]; omega) (fun c => by have := h2 c; have := zrm_p (n := (zwd z gf gk) (Int32.toNatClampNeg dk)) (k := Int32.toNatClampNeg k + 1) (f := fun j => zr (gv (3 * Int32.toNatClampNeg dk + j)) c) (fun j => zr_0 _ _); show 0 ≤ R2 c + zrm _ _ _; omega) (by omega) (hZ_R hzC (fun x => by show R2A x + zrm _ (Int32.toNatClampNeg k + 1) _ + zdl wA cA DC x + zr _ x = R2A x + zrm _ (Int32.toNatClampNeg k) _ + zdl wA cA DC x; rw [zrm_s hkA9]; omega)) hkC (fun x => by have h8 := h2A x; have h9 := zrm_p (n := wA a9) (k := Int32.toNatClampNeg k + 1) (f := fun j => zr (cA (3 * a9 + j)) x) (fun j => zr_0 _ _); show 0 ≤ R2A x + zrm _ _ _; omega) (by rw [hq_23]; exact hva9 _ hkA9) hDC) (cwV 2 hA (zw_V wi_1142 wi_1144 wi_45 wi_140 (zw_good wi_1145)) rfl rfl rfl (by decide +kernel) ⟨(Nat.le_of_ble_eq_true rfl), (Nat.le_of_ble_eq_true rfl)⟩) ⟨zP_blind, va_recv hKc hPc (ci := 1) (q0 := 0) rfl rfl, zz_pre hKc hPc hDc hN hT hS hFc⟩ rfl rfl hl.1 rfl (lv_room (Nat.le_of_ble_eq_true rfl)) dX1_drop_60 ⟨(Nat.le_of_ble_eq_true rfl), (Nat.le_of_ble_eq_true rfl)⟩) hS (fun q _ h => hFc q h) hFc (fun r_24 u t H1 locs ht hvm hw hB hz1 hk1 hS => ?_)
                obtain ⟨gc_25, rfl⟩ : ∃ z, z = u := ⟨_, rfl⟩
                obtain ⟨hP1, hK1, hD1⟩ := hB
                rw [ht] at hP1
                have hK1 := va_K.moved hvm.symm hK1
                obtain ⟨hP, hD⟩ := va_join (wr := [(cki, .inr (4, [.ref kw, .ref kf, .int z])), (kw, .inl (k1, 20, .inr (.inl gw))), (kf, .inl (k2, 20, .inl gf))]) (w1 := [(h0, .inr (1, [.ref ek, .ref ec, .ref ef, .ref cki, .int e_limit, .int e_fresh, .int lff, .int lhe, .int e_mostHeld, .int e_made, .int e_reused, .int lfd, .int e_doubled])), (ek, .inl (e1, 400, .inl gk)), (ec, .inl (e2, 400, .inl gc_25)), (ef, .inl (e3, 1200, .inr (.inl gv)))]) hP hD [3, 4, 5, 6] [0, 1, 2] rfl rfl (by decide) (by decide) hk1 hFc hP1 hD1
                have hK := (hK.sub (tys' := [(k1, .long), (k2, .int)]) [0, 1] rfl).app hK1
                generalize H1 = H at hP hS ⊢
                have hP : va_P (dC, dI) vwCl [(cki, .inr (4, [.ref kw, .ref kf, .int z])), (kw, .inl (k1, 20, .inr (.inl gw))), (kf, .inl (k2, 20, .inl gf)), (h0, .inr (1, [.ref ek, .ref ec, .ref ef, .ref cki, .int e_limit, .int e_fresh, .int lff, .int lhe, .int e_mostHeld, .int e_made, .int e_reused, .int lfd, .int e_doubled])), (ek, .inl (e1, 400, .inl gk)), (ec, .inl (e2, 400, .inl gc_25)), (ef, .inl (e3, 1200, .inr (.inl gv)))] H := hP
                have hD : va_D A [(cki, .inr (4, [.ref kw, .ref kf, .int z])), (kw, .inl (k1, 20, .inr (.inl gw))), (kf, .inl (k2, 20, .inl gf)), (h0, .inr (1, [.ref ek, .ref ec, .ref ef, .ref cki, .int e_limit, .int e_fresh, .int lff, .int lhe, .int e_mostHeld, .int e_made, .int e_reused, .int lfd, .int e_doubled])), (ek, .inl (e1, 400, .inl gk)), (ec, .inl (e2, 400, .inl gc_25)), (ef, .inl (e3, 1200, .inr (.inl gv)))] := hD
                have hK : va_K (dC, dI) vwCl [(k1, .long), (k2, .int), (e1, .int), (e2, .int), (e3, .long)] s := hK
                have hw_r_24 := hw
                try dsimp only at hw_r_24
                have hq_26 := hw
                obtain ⟨lv5, DL5, lD, gD, DD, ⟨hz5, hl5, hd5⟩, hDD, hzD, hkD, hlD⟩ := hq_26
                have r2_ : lv5 (Int32.toNatClampNeg dk) = false := by cases g : lv5 (Int32.toNatClampNeg dk) with
                  | false => rfl
                  | true => exact absurd (hl5 _ g) (by rw [q2]; exact Bool.noConfusion)
                have r3_ : Int32.toNatClampNeg dk ∉ FL2 ++ DL5 := fun g => (List.mem_append.mp g).elim (fun u => q3 (List.mem_append.mpr (Or.inl u))) (fun u => (hd5 _ u).elim (fun w => q3 (List.mem_append.mpr (Or.inr w))) (fun w => absurd w (by rw [q2]; exact Bool.noConfusion)))
                refine lv_istore_n (lv' := [(3, .int r_24), (6, .int k), (5, .int dk), (4, .int i), (0, .ref h0), (1, .long va)]) hx hb dX1_drop_63 rfl hl (by decide) rfl (fun ls hl => ?_)
                obtain ⟨x_27, ex_27⟩ : ∃ y : Int32, y = k + Int32.ofInt 1 := ⟨_, rfl⟩
                refine lv_iinc (v := x_27) (lv' := [(6, .int x_27), (3, .int r_24), (5, .int dk), (4, .int i), (0, .ref h0), (1, .long va)]) hx hb dX1_drop_64 hl (k := 1) rfl (by rw [ex_27]) (by decide) rfl (fun ls hl => ?_)
                have ix_27 : x_27.toInt = k.toInt + 1 := by rw [ex_27]; exact zi_addc (by decide) (by omega) (by omega)
                refine lv_goto (tgt := 39) hx hb dX1_drop_67 (by decide) ?_
                have kk9 : Int32.toNatClampNeg x_27 = Int32.toNatClampNeg k + 1 := by have := zn_nat (x := x_27) (by omega); have := zn_nat (x := k) (by omega); omega
                have hic_28 : ∃ (lv4 : Nat → Bool) (DL4 : List Nat) (lC : Nat → Bool) (gC : Nat → Int) (DC : List Nat), (zCS (zwd z gf gk) gc_25 gv e_fresh lff lhe e_doubled lv4 (fun c => R2 c + zrm ((zwd z gf gk) (Int32.toNatClampNeg dk)) (Int32.toNatClampNeg x_27) (fun j => zr (gv (3 * Int32.toNatClampNeg dk + j)) c)) FL2 DL4 r_24 ∧ lv4 (Int32.toNatClampNeg dk) = false ∧ Int32.toNatClampNeg dk ∉ FL2 ++ DL4 ∧ (∀ c, lv4 c = true → lv2 c = true) ∧ ∀ c, c ∈ DL4 → c ∈ DL2 ∨ lv2 c = true) ∧ DL4 = DC.map ph ∧ hZ ph lC gC nc wA kA cA (fun x => R2A x + zrm (wA a9) (Int32.toNatClampNeg x_27) (fun j => zr (cA (3 * a9 + j)) x) + zdl wA cA DC x) (DC ++ a9 :: SI) gk gc_25 gv ∧ hKf ph lC nc (DC ++ a9 :: SI) FL2 (Int32.toInt e_fresh) (Int32.toInt lhe) ∧ (∀ x, lC x = true ∨ x ∈ DC → lA x = true) := ⟨lv5, DL5, lD, gD, DD, ⟨zCS_R (fun c => by rw [kk9]) hz5, r2_, r3_, fun c h => q4 c (hl5 c h), fun c h => (hd5 c h).elim (q5 c) (fun w => Or.inr (q4 c w))⟩, hDD, hZ_R hzD (fun x => by rw [kk9]), hkD, fun x h => (hlD x h).elim (fun g => hlC x (Or.inl g)) (fun g => hlC x (Or.inr g))⟩
                exact ih_39 r_24 x_27 gc_25 _ _ _ (by omega) (by omega) (by omega) hic_28 (hP.sub [0, 1, 2, 3, 4, 5, 6] rfl) (hD.sub [0, 1, 2, 3, 4, 5, 6] (by decide) rfl) hS (lv_sub hl [0, 1, 2, 3, 4, 5] rfl)
          have hic_29 : ∃ (lv4 : Nat → Bool) (DL4 : List Nat) (lC : Nat → Bool) (gC : Nat → Int) (DC : List Nat), (zCS (zwd z gf gk) lgc gv e_fresh lff lhe e_doubled lv4 (fun c => R2 c + zrm ((zwd z gf gk) (Int32.toNatClampNeg dk)) (Int32.toNatClampNeg 0) (fun j => zr (gv (3 * Int32.toNatClampNeg dk + j)) c)) FL2 DL4 x_6 ∧ lv4 (Int32.toNatClampNeg dk) = false ∧ Int32.toNatClampNeg dk ∉ FL2 ++ DL4 ∧ (∀ c, lv4 c = true → lv2 c = true) ∧ ∀ c, c ∈ DL4 → c ∈ DL2 ∨ lv2 c = true) ∧ DL4 = DC.map ph ∧ hZ ph lC gC nc wA kA cA (fun x => R2A x + zrm (wA a9) (Int32.toNatClampNeg 0) (fun j => zr (cA (3 * a9 + j)) x) + zdl wA cA DC x) (DC ++ a9 :: SI) gk lgc gv ∧ hKf ph lC nc (DC ++ a9 :: SI) FL2 (Int32.toInt e_fresh) (Int32.toInt lhe) ∧ (∀ x, lC x = true ∨ x ∈ DC → lA x = true) := ⟨lv2, DL3, lB, gB, DB3, ⟨zCS_R (fun c => by show _ = R2 c + zcf zr (zwd z gf gk) gv (Int32.toNatClampNeg dk) c; rw [show Int32.toNatClampNeg 0 = 0 from rfl, zrm_0]; rfl) (by rw [ex_6]; exact hz3), p3, p6, fun _ h => h, fun c h => Or.inl (p7 c h)⟩, hDL3, hZ_R hzB3 (fun x => by rw [show Int32.toNatClampNeg 0 = 0 from rfl, zrm_0]; show R2A x + zs _ _ + _ = R2A x + (zs _ _ + _); omega), hkB3, fun x h => hlB x (h.imp id (fun g => by rw [hDB3]; exact List.mem_cons_of_mem _ g))⟩
          exact loop_39 _ x_6 0 lgc _ _ _ (Nat.le_refl _) (by have h9_0 : Int32.toInt 0 = 0 := (by decide); omega) (by have h9_0 : Int32.toInt 0 = 0 := (by decide); omega) hic_29 (hP.sub [0, 1, 2, 3, 4, 5, 6] rfl) (hD.sub [0, 1, 2, 3, 4, 5, 6] (by decide) rfl) hS (lv_sub hl [0, 1, 2, 3, 4, 5] rfl)
  have hlc_30 : ∃ (lv2 : Nat → Bool) (FL2 DL2 : List Nat) (lB : Nat → Bool) (gB : Nat → Int) (DB : List Nat), (zCS (zwd z gf gk) gc_2 gv e_fresh e_firstFree e_held e_doubled lv2 R2 FL2 DL2 r_1 ∧ (∀ c, lv2 c = true → lv c = true) ∧ (∀ c, c ∈ FL2 → c ∈ FL ∨ lv c = true) ∧ ∀ c, c ∈ DL2 → lv c = true) ∧ DL2 = DB.map ph ∧ hZ ph lB gB nc wA kA cA (fun x => R2A x + zdl wA cA DB x) (DB ++ SI) gk gc_2 gv ∧ hKf ph lB nc (DB ++ SI) FL2 (Int32.toInt e_fresh) (Int32.toInt e_held) ∧ (∀ x, lB x = true ∨ x ∈ DB → lA x = true) := ⟨lv1, FL, DL1, lA1, gA1, DA1, ⟨hz1, hl1, fun c h => Or.inl h, fun c h => (hd1 c h).resolve_left (fun g => (nomatch g))⟩, hDA1, hzA1, hkA1, fun x h => (hlA1 x h).resolve_right (fun g => (nomatch g))⟩
  exact loop_10 _ r_1 0 e_firstFree e_held e_freed gc_2 _ _ _ (Nat.le_refl _) (by have h9_0 : Int32.toInt 0 = 0 := (by decide); omega) (by have h9_0 : Int32.toInt 0 = 0 := (by decide); omega) (by have h9_0 : Int32.toInt 0 = 0 := (by decide); omega) (by have h9_0 : Int32.toInt 0 = 0 := (by decide); omega) hlc_30 (hP.sub [0, 1, 2, 3, 4, 5, 6] rfl) (hD.sub [0, 1, 2, 3, 4, 5, 6] (by decide) rfl) hS (lv_sub hl [0, 1, 2, 3] rfl)

end
section
/-! the class's code, as the counted machine goes through it: 3 and 4 mark an arm's end -/
theorem nF_g0 {K : List (Nat × Tm)} {t : Tm} {i : Nat} : nF ((0, t) :: K) i = (tm_ub t i || nF K i) := rfl
theorem nF_g1 {K : List (Nat × Tm)} {t : Tm} {i : Nat} : nF ((1, t) :: K) i = (tm_dn t i || nF K i) := rfl
theorem nF_asc {K : List (Nat × Tm)} {i : Nat} : ∀ (x : Tm), tm_li x → nF (pm_as x ++ K) i = (tm_ub x i || nF K i)
  | .leaf none, _ => by show nF K i = (false || nF K i); rw [Bool.false_or]
  | .branch (_ + 3) x y, hl => by
    show (tm_ub x i || nF (pm_as y ++ K) i) = ((tm_ub x i || tm_ub y i) || nF K i)
    rw [nF_asc y hl, Bool.or_assoc]
  | .leaf (some (0, _, _, _, _, _)), g => g.elim
  | .leaf (some (_ + 1, _, _, _, _, _)), g => g.elim
  | .branch 0 (.leaf (some (0, _, _, _, _, _))) _, g => g.elim
  | .branch 0 (.leaf (some (1, _, _, _, _, _))) _, g => g.elim
  | .branch 1 (.leaf (some (0, _, _, _, _, _))) (.branch _ _ _), g => g.elim
  | .branch 1 (.leaf (some (_ + 1, _, _, _, _, _))) (.branch _ _ _), g => g.elim
  | .branch 2 (.leaf (some (_, _, _, _, _, _))) (.branch _ _ (.branch _ _ _)), g => g.elim
  | .branch 0 (.leaf (some (2, _, _, _, _, _))) _, g => g.elim
  | .branch 0 (.leaf (some (_ + 3, _, _, _, _, _))) _, g => g.elim
  | .branch 0 (.leaf none) _, g => g.elim
  | .branch 0 (.branch _ _ _) _, g => g.elim
  | .branch 1 (.leaf none) _, g => g.elim
  | .branch 1 (.branch _ _ _) _, g => g.elim
  | .branch 1 (.leaf (some (0, _, _, _, _, _))) (.leaf _), g => g.elim
  | .branch 1 (.leaf (some (_ + 1, _, _, _, _, _))) (.leaf _), g => g.elim
  | .branch 2 (.leaf none) _, g => g.elim
  | .branch 2 (.branch _ _ _) _, g => g.elim
  | .branch 2 (.leaf (some (_, _, _, _, _, _))) (.leaf _), g => g.elim
  | .branch 2 (.leaf (some (_, _, _, _, _, _))) (.branch _ _ (.leaf _)), g => g.elim
theorem aF_asc {K : List (Nat × Tm)} : ∀ (x : Tm), tm_li x → aF (pm_as x ++ K) = aF K
  | .leaf none, _ => rfl
  | .branch (_ + 3) x y, hl => aF_asc y hl
  | .leaf (some (0, _, _, _, _, _)), g => g.elim
  | .leaf (some (_ + 1, _, _, _, _, _)), g => g.elim
  | .branch 0 (.leaf (some (0, _, _, _, _, _))) _, g => g.elim
  | .branch 0 (.leaf (some (1, _, _, _, _, _))) _, g => g.elim
  | .branch 1 (.leaf (some (0, _, _, _, _, _))) (.branch _ _ _), g => g.elim
  | .branch 1 (.leaf (some (_ + 1, _, _, _, _, _))) (.branch _ _ _), g => g.elim
  | .branch 2 (.leaf (some (_, _, _, _, _, _))) (.branch _ _ (.branch _ _ _)), g => g.elim
  | .branch 0 (.leaf (some (2, _, _, _, _, _))) _, g => g.elim
  | .branch 0 (.leaf (some (_ + 3, _, _, _, _, _))) _, g => g.elim
  | .branch 0 (.leaf none) _, g => g.elim
  | .branch 0 (.branch _ _ _) _, g => g.elim
  | .branch 1 (.leaf none) _, g => g.elim
  | .branch 1 (.branch _ _ _) _, g => g.elim
  | .branch 1 (.leaf (some (0, _, _, _, _, _))) (.leaf _), g => g.elim
  | .branch 1 (.leaf (some (_ + 1, _, _, _, _, _))) (.leaf _), g => g.elim
  | .branch 2 (.leaf none) _, g => g.elim
  | .branch 2 (.branch _ _ _) _, g => g.elim
  | .branch 2 (.leaf (some (_, _, _, _, _, _))) (.leaf _), g => g.elim
  | .branch 2 (.leaf (some (_, _, _, _, _, _))) (.branch _ _ (.leaf _)), g => g.elim
theorem pm_as_0 : ∀ (x : Tm) (u : Nat × Tm), u ∈ pm_as x → u.1 = 0
  | .branch (_ + 3) x y, u, hu => by
    rcases List.mem_cons.mp hu with g | g
    · rw [g]
    · exact pm_as_0 y u g
  | .leaf none, _, g => nomatch g
  | .leaf (some (0, _, _, _, _, _)), _, g => nomatch g
  | .leaf (some (_ + 1, _, _, _, _, _)), _, g => nomatch g
  | .branch 0 (.leaf (some (0, _, _, _, _, _))) _, _, g => nomatch g
  | .branch 0 (.leaf (some (1, _, _, _, _, _))) _, _, g => nomatch g
  | .branch 1 (.leaf (some (0, _, _, _, _, _))) (.branch _ _ _), _, g => nomatch g
  | .branch 1 (.leaf (some (_ + 1, _, _, _, _, _))) (.branch _ _ _), _, g => nomatch g
  | .branch 2 (.leaf (some (_, _, _, _, _, _))) (.branch _ _ (.branch _ _ _)), _, g => nomatch g
  | .branch 0 (.leaf (some (2, _, _, _, _, _))) _, _, g => nomatch g
  | .branch 0 (.leaf (some (_ + 3, _, _, _, _, _))) _, _, g => nomatch g
  | .branch 0 (.leaf none) _, _, g => nomatch g
  | .branch 0 (.branch _ _ _) _, _, g => nomatch g
  | .branch 1 (.leaf none) _, _, g => nomatch g
  | .branch 1 (.branch _ _ _) _, _, g => nomatch g
  | .branch 1 (.leaf (some (0, _, _, _, _, _))) (.leaf _), _, g => nomatch g
  | .branch 1 (.leaf (some (_ + 1, _, _, _, _, _))) (.leaf _), _, g => nomatch g
  | .branch 2 (.leaf none) _, _, g => nomatch g
  | .branch 2 (.branch _ _ _) _, _, g => nomatch g
  | .branch 2 (.leaf (some (_, _, _, _, _, _))) (.leaf _), _, g => nomatch g
  | .branch 2 (.leaf (some (_, _, _, _, _, _))) (.branch _ _ (.leaf _)), _, g => nomatch g
/-- rows that only lead on -/
def cSj (S : Nat → Nat → Int32) (nx : Nat → Int32) : Nat → Int32 → Int32 → Prop
  | 0, x, y => x = y
  | n + 1, x, y => ∃ r : Nat, x.toInt = (r : Int) ∧ (S 0 r).toInt = 14 ∧ 0 ≤ (S 1 r).toInt ∧ cSj S nx n (nx (Int32.toNatClampNeg (S 1 r))) y
theorem cSj_tr {S : Nat → Nat → Int32} {nx : Nat → Int32} {k : Nat} {y z : Int32} (h2 : cSj S nx k y z) : ∀ {n : Nat} {x : Int32}, cSj S nx n x y → cSj S nx (n + k) x z
  | 0, x, h => by rw [Nat.zero_add, show x = y from h]; exact h2
  | n + 1, x, ⟨r, a, b⟩ => by
    rw [show n + 1 + k = (n + k) + 1 from by omega]
    exact ⟨r, a, b.1, b.2.1, cSj_tr h2 b.2.2⟩
/-- what is to do within a call, from row x on; m: how many rows of it begin no tree's work -/
def cKg (S : Nat → Nat → Int32) (nx : Nat → Int32) (H : Int32 → Int64 → Prop) (az : Int) : List (Nat × Tm) → Int32 → Nat → Prop
  | [], x, m => ∃ (n : Nat) (y : Int32) (r : Nat), cSj S nx n x y ∧ y.toInt = (r : Int) ∧ (S 0 r).toInt = 17 ∧ m = n + 1
  | (j, t) :: K, x, m => ∃ (n : Nat) (y z : Int32) (w m2 : Nat), cSj S nx n x y ∧ (j = 0 ∧ (∃ X : List Nat, cI S H 0 az t false 0 0 0 X ∧ zpx nx y X z) ∧ w = 0 ∨ j = 1 ∧ cDo S nx H az t y z w ∨ (j = 3 ∨ j = 4) ∧ ∃ r : Nat, y.toInt = (r : Int) ∧ (S 0 r).toInt = 16 ∧ 0 ≤ (S 1 r).toInt ∧ z = nx (Int32.toNatClampNeg (S 1 r)) ∧ w = 1) ∧ cKg S nx H az K z m2 ∧ m = n + w + m2
section
variable {fd : Nat → Int32} {S : Nat → Nat → Int32} {nx : Nat → Int32} {H : Int32 → Int64 → Prop} {az : Int}
theorem cKg_si {n : Nat} {x y : Int32} (h : cSj S nx n x y) : ∀ {K : List (Nat × Tm)} {m : Nat}, cKg S nx H az K y m → cKg S nx H az K x (n + m)
  | [], m, ⟨k, y2, r, a, b, c, d⟩ => ⟨n + k, y2, r, cSj_tr a h, b, c, by omega⟩
  | (j, t) :: K, m, ⟨k, y2, z, w, m2, a, b, c, d⟩ => ⟨n + k, y2, z, w, m2, cSj_tr a h, b, c, by omega⟩
theorem cKg_w {K : List (Nat × Tm)} {t : Tm} {x z : Int32} {m : Nat} {X : List Nat} (h : cI S H 0 az t false 0 0 0 X) (h2 : zpx nx x X z) (h3 : cKg S nx H az K z m) : cKg S nx H az ((0, t) :: K) x m := ⟨0, x, z, 0, m, rfl, Or.inl ⟨rfl, ⟨X, h, h2⟩, rfl⟩, h3, by omega⟩
theorem cKg_d {K : List (Nat × Tm)} {t : Tm} {x z : Int32} {w m : Nat} (h : cDo S nx H az t x z w) (h3 : cKg S nx H az K z m) : cKg S nx H az ((1, t) :: K) x (w + m) := ⟨0, x, z, w, m, rfl, Or.inr (Or.inl ⟨rfl, h⟩), h3, by omega⟩
theorem cKg_as {K : List (Nat × Tm)} {z : Int32} {m : Nat} (h3 : cKg S nx H az K z m) : ∀ (a : Tm) {Y : List Nat} {x : Int32}, tm_li a → cI S H 0 az a false 0 0 0 Y → zpx nx x Y z → cKg S nx H az (pm_as a ++ K) x m
  | .leaf none, Y, x, _, h, h2 => by
    obtain ⟨rfl, -⟩ := h
    rw [show x = z from h2]; exact h3
  | .branch (_ + 3) a b, Y, x, hl, h, h2 => by
    obtain ⟨X, Z, rfl, g1, g2, -⟩ := h
    obtain ⟨y, k1, k2⟩ := zpx_app h2
    exact cKg_w g1 k1 (cKg_as h3 b hl g2 k2)
  | .leaf (some (0, _, _, _, _, _)), _, _, g, _, _ => g.elim
  | .leaf (some (_ + 1, _, _, _, _, _)), _, _, g, _, _ => g.elim
  | .branch 0 (.leaf (some (0, _, _, _, _, _))) _, _, _, g, _, _ => g.elim
  | .branch 0 (.leaf (some (1, _, _, _, _, _))) _, _, _, g, _, _ => g.elim
  | .branch 1 (.leaf (some (0, _, _, _, _, _))) (.branch _ _ _), _, _, g, _, _ => g.elim
  | .branch 1 (.leaf (some (_ + 1, _, _, _, _, _))) (.branch _ _ _), _, _, g, _, _ => g.elim
  | .branch 2 (.leaf (some (_, _, _, _, _, _))) (.branch _ _ (.branch _ _ _)), _, _, g, _, _ => g.elim
  | .branch 0 (.leaf (some (2, _, _, _, _, _))) _, _, _, g, _, _ => g.elim
  | .branch 0 (.leaf (some (_ + 3, _, _, _, _, _))) _, _, _, g, _, _ => g.elim
  | .branch 0 (.leaf none) _, _, _, g, _, _ => g.elim
  | .branch 0 (.branch _ _ _) _, _, _, g, _, _ => g.elim
  | .branch 1 (.leaf none) _, _, _, g, _, _ => g.elim
  | .branch 1 (.branch _ _ _) _, _, _, g, _, _ => g.elim
  | .branch 1 (.leaf (some (0, _, _, _, _, _))) (.leaf _), _, _, g, _, _ => g.elim
  | .branch 1 (.leaf (some (_ + 1, _, _, _, _, _))) (.leaf _), _, _, g, _, _ => g.elim
  | .branch 2 (.leaf none) _, _, _, g, _, _ => g.elim
  | .branch 2 (.branch _ _ _) _, _, _, g, _, _ => g.elim
  | .branch 2 (.leaf (some (_, _, _, _, _, _))) (.leaf _), _, _, g, _, _ => g.elim
  | .branch 2 (.leaf (some (_, _, _, _, _, _))) (.branch _ _ (.leaf _)), _, _, g, _, _ => g.elim
/-- how many matches a tree opens one within another at most; marks of arms to do -/
def gmk : List (Nat × Tm) → Nat
  | [] => 0
  | (j, _) :: K => gmk K + if j = 3 ∨ j = 4 then 1 else 0
def mdj (j : Nat) (t : Tm) : Nat := if j = 0 ∨ j = 1 then tm_md t else 1
theorem mdj_1 {j : Nat} {t : Tm} (h : j = 0 ∨ j = 1) : mdj j t = tm_md t := if_pos h
theorem mdj_3 {j : Nat} {t : Tm} (h : j = 3 ∨ j = 4) : mdj j t = 1 := if_neg (by omega)
theorem gm_1 {j : Nat} {t : Tm} {K : List (Nat × Tm)} (h : j = 0 ∨ j = 1) : gmk ((j, t) :: K) = gmk K := by show gmk K + (if j = 3 ∨ j = 4 then 1 else 0) = _; rw [if_neg (by omega)]; omega
theorem gm_3 {j : Nat} {t : Tm} {K : List (Nat × Tm)} (h : j = 3 ∨ j = 4) : gmk ((j, t) :: K) = gmk K + 1 := by show gmk K + (if j = 3 ∨ j = 4 then 1 else 0) = _; rw [if_pos h]
theorem gm_as {K : List (Nat × Tm)} : ∀ (a : Tm), gmk (pm_as a ++ K) = gmk K
  | .branch (_ + 3) x y => (gm_1 (K := pm_as y ++ K) (Or.inl rfl)).trans (gm_as y)
  | .leaf none => rfl
  | .leaf (some (0, _, _, _, _, _)) => rfl
  | .leaf (some (_ + 1, _, _, _, _, _)) => rfl
  | .branch 0 (.leaf (some (0, _, _, _, _, _))) _ => rfl
  | .branch 0 (.leaf (some (1, _, _, _, _, _))) _ => rfl
  | .branch 1 (.leaf (some (0, _, _, _, _, _))) (.branch _ _ _) => rfl
  | .branch 1 (.leaf (some (_ + 1, _, _, _, _, _))) (.branch _ _ _) => rfl
  | .branch 2 (.leaf (some (_, _, _, _, _, _))) (.branch _ _ (.branch _ _ _)) => rfl
  | .branch 0 (.leaf (some (2, _, _, _, _, _))) _ => rfl
  | .branch 0 (.leaf (some (_ + 3, _, _, _, _, _))) _ => rfl
  | .branch 0 (.leaf none) _ => rfl
  | .branch 0 (.branch _ _ _) _ => rfl
  | .branch 1 (.leaf none) _ => rfl
  | .branch 1 (.branch _ _ _) _ => rfl
  | .branch 1 (.leaf (some (0, _, _, _, _, _))) (.leaf _) => rfl
  | .branch 1 (.leaf (some (_ + 1, _, _, _, _, _))) (.leaf _) => rfl
  | .branch 2 (.leaf none) _ => rfl
  | .branch 2 (.branch _ _ _) _ => rfl
  | .branch 2 (.leaf (some (_, _, _, _, _, _))) (.leaf _) => rfl
  | .branch 2 (.leaf (some (_, _, _, _, _, _))) (.branch _ _ (.leaf _)) => rfl
/-- the scopes of what is to do -/
def gSc (z : Nat) (kf : Nat → Int32) : List (Nat × Tm) → Prop
  | [] => True
  | (j, t) :: K => ((j = 0 ∨ j = 1 ∨ j = 3 ∨ j = 4 ∧ t = Tm.nil) ∧ mdj j t + gmk K ≤ 30) ∧ (j = 0 ∨ j = 1 → sy_x t ∧ ∃ c, tm_wf z kf t c ∧ c ≤ 24 ∧ ∀ k, nF K k = true → k < c) ∧ gSc z kf K
theorem nF_lt {z : Nat} {kf : Nat → Int32} {K : List (Nat × Tm)} {t : Tm} {c j : Nat} (hj : j = 0 ∨ j = 1) (hw : tm_wf z kf t c) (h : ∀ k, nF K k = true → k < c) : ∀ k, nF ((j, t) :: K) k = true → k < c := fun k hk => by
  have hk : (if j = 2 then false else if j = 3 then nF K k else pm_nd j t k || nF K k) = true := hk
  rw [if_neg (by omega), if_neg (by omega)] at hk
  rcases (Bool.or_eq_true _ _).mp hk with g | g
  · exact nd_wf hw g
  · exact h k g
theorem gSc_g {z : Nat} {kf : Nat → Int32} : ∀ {K : List (Nat × Tm)}, gSc z kf K → gmk K ≤ 30
  | [], _ => Nat.zero_le _
  | (j, t) :: K, h => by
    have h2 := h.1.2
    rcases h.1.1 with g | g | g | g
    · rw [gm_1 (Or.inl g)]; omega
    · rw [gm_1 (Or.inr g)]; omega
    · rw [gm_3 (Or.inl g)]; rw [mdj_3 (Or.inl g)] at h2; omega
    · rw [gm_3 (Or.inr g.1)]; rw [mdj_3 (Or.inr g.1)] at h2; omega
theorem gSc_d {z : Nat} {kf : Nat → Int32} {K : List (Nat × Tm)} {t : Tm} {j : Nat} (hj : j = 0 ∨ j = 1) (h : gSc z kf ((j, t) :: K)) : tm_md t + gmk K ≤ 30 := by have h2 := h.1.2; rw [mdj_1 hj] at h2; exact h2
theorem gSc_1 {z : Nat} {kf : Nat → Int32} {K : List (Nat × Tm)} {t : Tm} {c j : Nat} (hj : j = 0 ∨ j = 1) (hs : sy_x t) (hw : tm_wf z kf t c) (hc : c ≤ 24) (h : gSc z kf K ∧ ∀ k, nF K k = true → k < c) (hd : tm_md t + gmk K ≤ 30) : gSc z kf ((j, t) :: K) ∧ ∀ k, nF ((j, t) :: K) k = true → k < c := ⟨⟨⟨hj.elim Or.inl (fun g => Or.inr (Or.inl g)), by rw [mdj_1 hj]; exact hd⟩, fun _ => ⟨hs, c, hw, hc, h.2⟩, h.1⟩, nF_lt hj hw h.2⟩
theorem gSc_as {z : Nat} {kf : Nat → Int32} {K : List (Nat × Tm)} {c : Nat} (hc : c ≤ 24) (h : gSc z kf K ∧ ∀ k, nF K k = true → k < c) : ∀ (a : Tm), tm_li a → tm_sy a false → tm_wf z kf a c → tm_md a + gmk K ≤ 30 → gSc z kf (pm_as a ++ K) ∧ ∀ k, nF (pm_as a ++ K) k = true → k < c
  | .leaf none, _, _, _, _ => h
  | .branch (_ + 3) x y, hl, hs, hw, hd => by
    have hd : max (tm_md x) (tm_md y) + gmk K ≤ 30 := hd
    exact gSc_1 (K := pm_as y ++ K) (Or.inl rfl) hs.1 hw.1 hc (gSc_as hc h y hl hs.2 hw.2 (by omega)) (by rw [gm_as]; omega)
  | .leaf (some (0, _, _, _, _, _)), g, _, _, _ => g.elim
  | .leaf (some (_ + 1, _, _, _, _, _)), g, _, _, _ => g.elim
  | .branch 0 (.leaf (some (0, _, _, _, _, _))) _, g, _, _, _ => g.elim
  | .branch 0 (.leaf (some (1, _, _, _, _, _))) _, g, _, _, _ => g.elim
  | .branch 1 (.leaf (some (0, _, _, _, _, _))) (.branch _ _ _), g, _, _, _ => g.elim
  | .branch 1 (.leaf (some (_ + 1, _, _, _, _, _))) (.branch _ _ _), g, _, _, _ => g.elim
  | .branch 2 (.leaf (some (_, _, _, _, _, _))) (.branch _ _ (.branch _ _ _)), g, _, _, _ => g.elim
  | .branch 0 (.leaf (some (2, _, _, _, _, _))) _, g, _, _, _ => g.elim
  | .branch 0 (.leaf (some (_ + 3, _, _, _, _, _))) _, g, _, _, _ => g.elim
  | .branch 0 (.leaf none) _, g, _, _, _ => g.elim
  | .branch 0 (.branch _ _ _) _, g, _, _, _ => g.elim
  | .branch 1 (.leaf none) _, g, _, _, _ => g.elim
  | .branch 1 (.branch _ _ _) _, g, _, _, _ => g.elim
  | .branch 1 (.leaf (some (0, _, _, _, _, _))) (.leaf _), g, _, _, _ => g.elim
  | .branch 1 (.leaf (some (_ + 1, _, _, _, _, _))) (.leaf _), g, _, _, _ => g.elim
  | .branch 2 (.leaf none) _, g, _, _, _ => g.elim
  | .branch 2 (.branch _ _ _) _, g, _, _, _ => g.elim
  | .branch 2 (.leaf (some (_, _, _, _, _, _))) (.leaf _), g, _, _, _ => g.elim
  | .branch 2 (.leaf (some (_, _, _, _, _, _))) (.branch _ _ (.leaf _)), g, _, _, _ => g.elim
/-- the heights of the values, marks left out -/
def cHg : List (Nat × Tm) → Nat → Prop
  | [], h => h = 1
  | (j, t) :: K, h => if j = 0 then cHg K (h + 1) else if j = 1 then pm_ar t ≤ h ∧ cHg K (h - pm_ar t + 1) else cHg K h
theorem cHg_as {K : List (Nat × Tm)} : ∀ (a : Tm) {h : Nat}, tm_li a → cHg K (h + tm_ln a) → cHg (pm_as a ++ K) h
  | .leaf none, _, _, g => g
  | .branch (_ + 3) a b, h, hl, g => by
    show cHg (pm_as b ++ K) (h + 1)
    exact cHg_as b hl (by rw [show h + 1 + tm_ln b = h + (tm_ln b + 1) from by omega]; exact g)
  | .leaf (some (0, _, _, _, _, _)), _, g, _ => g.elim
  | .leaf (some (_ + 1, _, _, _, _, _)), _, g, _ => g.elim
  | .branch 0 (.leaf (some (0, _, _, _, _, _))) _, _, g, _ => g.elim
  | .branch 0 (.leaf (some (1, _, _, _, _, _))) _, _, g, _ => g.elim
  | .branch 1 (.leaf (some (0, _, _, _, _, _))) (.branch _ _ _), _, g, _ => g.elim
  | .branch 1 (.leaf (some (_ + 1, _, _, _, _, _))) (.branch _ _ _), _, g, _ => g.elim
  | .branch 2 (.leaf (some (_, _, _, _, _, _))) (.branch _ _ (.branch _ _ _)), _, g, _ => g.elim
  | .branch 0 (.leaf (some (2, _, _, _, _, _))) _, _, g, _ => g.elim
  | .branch 0 (.leaf (some (_ + 3, _, _, _, _, _))) _, _, g, _ => g.elim
  | .branch 0 (.leaf none) _, _, g, _ => g.elim
  | .branch 0 (.branch _ _ _) _, _, g, _ => g.elim
  | .branch 1 (.leaf none) _, _, g, _ => g.elim
  | .branch 1 (.branch _ _ _) _, _, g, _ => g.elim
  | .branch 1 (.leaf (some (0, _, _, _, _, _))) (.leaf _), _, g, _ => g.elim
  | .branch 1 (.leaf (some (_ + 1, _, _, _, _, _))) (.leaf _), _, g, _ => g.elim
  | .branch 2 (.leaf none) _, _, g, _ => g.elim
  | .branch 2 (.branch _ _ _) _, _, g, _ => g.elim
  | .branch 2 (.leaf (some (_, _, _, _, _, _))) (.leaf _), _, g, _ => g.elim
  | .branch 2 (.leaf (some (_, _, _, _, _, _))) (.branch _ _ (.leaf _)), _, g, _ => g.elim
theorem cHg_ad {K : List (Nat × Tm)} {t : Tm} {a : Tm} {h : Nat} (hl : tm_li a) (e : pm_ar t = tm_ln a) (g : cHg K (h + 1)) : cHg (pm_as a ++ (1, t) :: K) h := cHg_as a hl (by
  show pm_ar t ≤ h + tm_ln a ∧ cHg K (h + tm_ln a - pm_ar t + 1)
  exact ⟨by omega, by rw [show h + tm_ln a - pm_ar t + 1 = h + 1 from by omega]; exact g⟩)
theorem fi_wa {z : Nat} {kf : Nat → Int32} {c : Nat} : ∀ (y : Tm), tm_k y = 2 → tm_sy y false → tm_wf z kf y c → sy_x (am_x y) ∧ tm_wf z kf (am_x y) (c + am_m y) ∧ c + am_m y ≤ 24 ∧ am_h y = c
  | .branch 0 (.leaf (some (_ + 3, _, _, h, m, _))) x, _, s, ⟨⟨⟨w1, w2, w3⟩, w4⟩, w5⟩ => ⟨s, w5, w2, w1⟩
  | .leaf none, g, _, _ => nomatch (show (0 : Nat) = 2 from g)
  | .branch (_ + 3) _ _, g, _, _ => nomatch (show (0 : Nat) = 2 from g)
  | .leaf (some (0, _, _, _, _, _)), g, _, _ => nomatch (show (1 : Nat) = 2 from g)
  | .leaf (some (_ + 1, _, _, _, _, _)), g, _, _ => nomatch (show (1 : Nat) = 2 from g)
  | .branch 0 (.leaf (some (0, _, _, _, _, _))) _, g, _, _ => nomatch (show (1 : Nat) = 2 from g)
  | .branch 0 (.leaf (some (1, _, _, _, _, _))) _, g, _, _ => nomatch (show (1 : Nat) = 2 from g)
  | .branch 1 (.leaf (some (0, _, _, _, _, _))) (.branch _ _ _), g, _, _ => nomatch (show (1 : Nat) = 2 from g)
  | .branch 1 (.leaf (some (_ + 1, _, _, _, _, _))) (.branch _ _ _), g, _, _ => nomatch (show (1 : Nat) = 2 from g)
  | .branch 2 (.leaf (some (_, _, _, _, _, _))) (.branch _ _ (.branch _ _ _)), g, _, _ => nomatch (show (1 : Nat) = 2 from g)
  | .branch 0 (.leaf (some (2, _, _, _, _, _))) _, g, _, _ => nomatch (show (1 : Nat) = 2 from g)
  | .branch 0 (.leaf none) _, g, _, _ => nomatch (show (0 : Nat) = 2 from g)
  | .branch 0 (.branch _ _ _) _, g, _, _ => nomatch (show (0 : Nat) = 2 from g)
  | .branch 1 (.leaf none) _, g, _, _ => nomatch (show (0 : Nat) = 2 from g)
  | .branch 1 (.branch _ _ _) _, g, _, _ => nomatch (show (0 : Nat) = 2 from g)
  | .branch 1 (.leaf (some (0, _, _, _, _, _))) (.leaf _), g, _, _ => nomatch (show (0 : Nat) = 2 from g)
  | .branch 1 (.leaf (some (_ + 1, _, _, _, _, _))) (.leaf _), g, _, _ => nomatch (show (0 : Nat) = 2 from g)
  | .branch 2 (.leaf none) _, g, _, _ => nomatch (show (0 : Nat) = 2 from g)
  | .branch 2 (.branch _ _ _) _, g, _, _ => nomatch (show (0 : Nat) = 2 from g)
  | .branch 2 (.leaf (some (_, _, _, _, _, _))) (.leaf _), g, _, _ => nomatch (show (0 : Nat) = 2 from g)
  | .branch 2 (.leaf (some (_, _, _, _, _, _))) (.branch _ _ (.leaf _)), g, _, _ => nomatch (show (0 : Nat) = 2 from g)
theorem am_md : ∀ (y : Tm), tm_md (am_x y) ≤ tm_md y
  | .branch 0 (.leaf (some (_ + 3, _, _, _, _, _))) x => Nat.le_refl _
  | .leaf none => Nat.le_refl _
  | .branch (_ + 3) _ _ => Nat.zero_le _
  | .leaf (some (0, _, _, _, _, _)) => Nat.le_refl _
  | .leaf (some (_ + 1, _, _, _, _, _)) => Nat.le_refl _
  | .branch 0 (.leaf (some (0, _, _, _, _, _))) _ => Nat.zero_le _
  | .branch 0 (.leaf (some (1, _, _, _, _, _))) _ => Nat.zero_le _
  | .branch 1 (.leaf (some (0, _, _, _, _, _))) (.branch _ _ _) => Nat.zero_le _
  | .branch 1 (.leaf (some (_ + 1, _, _, _, _, _))) (.branch _ _ _) => Nat.zero_le _
  | .branch 2 (.leaf (some (_, _, _, _, _, _))) (.branch _ _ (.branch _ _ _)) => Nat.zero_le _
  | .branch 0 (.leaf (some (2, _, _, _, _, _))) _ => Nat.zero_le _
  | .branch 0 (.leaf none) _ => Nat.le_refl _
  | .branch 0 (.branch _ _ _) _ => Nat.le_refl _
  | .branch 1 (.leaf none) _ => Nat.le_refl _
  | .branch 1 (.branch _ _ _) _ => Nat.le_refl _
  | .branch 1 (.leaf (some (0, _, _, _, _, _))) (.leaf _) => Nat.le_refl _
  | .branch 1 (.leaf (some (_ + 1, _, _, _, _, _))) (.leaf _) => Nat.le_refl _
  | .branch 2 (.leaf none) _ => Nat.le_refl _
  | .branch 2 (.branch _ _ _) _ => Nat.le_refl _
  | .branch 2 (.leaf (some (_, _, _, _, _, _))) (.leaf _) => Nat.le_refl _
  | .branch 2 (.leaf (some (_, _, _, _, _, _))) (.branch _ _ (.leaf _)) => Nat.le_refl _
theorem fi_md {k : Int} {y : Tm} : ∀ (a : Tm), pm_fi k a = some y → tm_md (am_x y) ≤ tm_md a
  | .branch (_ + 3) x b, h => by
    have h : (if am_k x = -1 ∨ am_k x = k then some x else pm_fi k b) = some y := h
    show tm_md (am_x y) ≤ max (tm_md x) (tm_md b)
    by_cases g : am_k x = -1 ∨ am_k x = k
    · rw [if_pos g] at h
      rw [← Option.some.inj h]
      have := am_md x
      omega
    · rw [if_neg g] at h
      have := fi_md b h
      omega
  | .leaf none, h => by cases h
  | .leaf (some (0, _, _, _, _, _)), h => by cases h
  | .leaf (some (_ + 1, _, _, _, _, _)), h => by cases h
  | .branch 0 (.leaf (some (0, _, _, _, _, _))) _, h => by cases h
  | .branch 0 (.leaf (some (1, _, _, _, _, _))) _, h => by cases h
  | .branch 1 (.leaf (some (0, _, _, _, _, _))) (.branch _ _ _), h => by cases h
  | .branch 1 (.leaf (some (_ + 1, _, _, _, _, _))) (.branch _ _ _), h => by cases h
  | .branch 2 (.leaf (some (_, _, _, _, _, _))) (.branch _ _ (.branch _ _ _)), h => by cases h
  | .branch 0 (.leaf (some (2, _, _, _, _, _))) _, h => by cases h
  | .branch 0 (.leaf (some (_ + 3, _, _, _, _, _))) _, h => by cases h
  | .branch 0 (.leaf none) _, h => by cases h
  | .branch 0 (.branch _ _ _) _, h => by cases h
  | .branch 1 (.leaf none) _, h => by cases h
  | .branch 1 (.branch _ _ _) _, h => by cases h
  | .branch 1 (.leaf (some (0, _, _, _, _, _))) (.leaf _), h => by cases h
  | .branch 1 (.leaf (some (_ + 1, _, _, _, _, _))) (.leaf _), h => by cases h
  | .branch 2 (.leaf none) _, h => by cases h
  | .branch 2 (.branch _ _ _) _, h => by cases h
  | .branch 2 (.leaf (some (_, _, _, _, _, _))) (.leaf _), h => by cases h
  | .branch 2 (.leaf (some (_, _, _, _, _, _))) (.branch _ _ (.leaf _)), h => by cases h
theorem fi_wf {z : Nat} {kf : Nat → Int32} {k : Int} {c : Nat} {y : Tm} : ∀ (a : Tm), tm_li a → tm_sy a true → tm_wf z kf a c → pm_fi k a = some y → sy_x (am_x y) ∧ tm_wf z kf (am_x y) (c + am_m y) ∧ c + am_m y ≤ 24 ∧ am_h y = c
  | .leaf none, _, _, _, h => by cases h
  | .branch (_ + 3) x b, hl, hs, hw, h => by
    obtain ⟨⟨k1, k2⟩, k3⟩ := hs
    have h : (if am_k x = -1 ∨ am_k x = k then some x else pm_fi k b) = some y := h
    by_cases g : am_k x = -1 ∨ am_k x = k
    · rw [if_pos g] at h
      rw [← Option.some.inj h]
      exact fi_wa x k1 k2 hw.1
    · rw [if_neg g] at h
      exact fi_wf b hl k3 hw.2 h
  | .leaf (some (0, _, _, _, _, _)), g, _, _, _ => g.elim
  | .leaf (some (_ + 1, _, _, _, _, _)), g, _, _, _ => g.elim
  | .branch 0 (.leaf (some (0, _, _, _, _, _))) _, g, _, _, _ => g.elim
  | .branch 0 (.leaf (some (1, _, _, _, _, _))) _, g, _, _, _ => g.elim
  | .branch 1 (.leaf (some (0, _, _, _, _, _))) (.branch _ _ _), g, _, _, _ => g.elim
  | .branch 1 (.leaf (some (_ + 1, _, _, _, _, _))) (.branch _ _ _), g, _, _, _ => g.elim
  | .branch 2 (.leaf (some (_, _, _, _, _, _))) (.branch _ _ (.branch _ _ _)), g, _, _, _ => g.elim
  | .branch 0 (.leaf (some (2, _, _, _, _, _))) _, g, _, _, _ => g.elim
  | .branch 0 (.leaf (some (_ + 3, _, _, _, _, _))) _, g, _, _, _ => g.elim
  | .branch 0 (.leaf none) _, g, _, _, _ => g.elim
  | .branch 0 (.branch _ _ _) _, g, _, _, _ => g.elim
  | .branch 1 (.leaf none) _, g, _, _, _ => g.elim
  | .branch 1 (.branch _ _ _) _, g, _, _, _ => g.elim
  | .branch 1 (.leaf (some (0, _, _, _, _, _))) (.leaf _), g, _, _, _ => g.elim
  | .branch 1 (.leaf (some (_ + 1, _, _, _, _, _))) (.leaf _), g, _, _, _ => g.elim
  | .branch 2 (.leaf none) _, g, _, _, _ => g.elim
  | .branch 2 (.branch _ _ _) _, g, _, _, _ => g.elim
  | .branch 2 (.leaf (some (_, _, _, _, _, _))) (.leaf _), g, _, _, _ => g.elim
  | .branch 2 (.leaf (some (_, _, _, _, _, _))) (.branch _ _ (.leaf _)), g, _, _, _ => g.elim
def cm_cl (fd : Nat → Int32) (t : Tm) (wd : Int64) (p : Int) : Prop := ∀ (F : sp_F) (lim : Int) (K0 K : List (Nat × Tm)) (V : List Int64) (E : List (Nat → Int64)) (n c : Nat) (ck : Nat → Int32) (cf : Nat → Int64) (X : cm_X), cm_d F fd lim t K0 K V E n c ck cf X = if 100 ≤ E.length then .error (4, p, ((K0, V, E, n, c, ck, cf), X)) else .ok (((0, F.2.2.2 (sp_fi F.2.1 wd F.1)) :: (2, Tm.nil) :: K, V.drop (F.2.2.1 (sp_fi F.2.1 wd F.1)).toNat, pm_ae V (F.2.2.1 (sp_fi F.2.1 wd F.1)).toNat :: E, n, c, ck, cf), (X.1, X.2.1, X.2.2.1, X.2.2.2.1, X.2.2.2.2.1, max X.2.2.2.2.2 (E.length + 1)))
/-- what the first row of a tree's code is, and what the plain machine does there -/
def cJnv (fd : Nat → Int32) (S : Nat → Nat → Int32) (nx : Nat → Int32) (H : Int32 → Int64 → Prop) (az : Int) (z : Nat) (kf : Nat → Int32) (bd nm : Nat) (t : Tm) (r : Nat) (zz : Int32) : Prop :=
  ((S 0 r).toInt = 1 ∧ ∃ (K1 : List (Nat × Tm)) (w : Nat), w ≤ 3 ∧ (∀ (K : List (Nat × Tm)) (V : List Int64) (E : List (Nat → Int64)) (n c : Nat) (ck : Nat → Int32) (cf : Nat → Int64) (X : cm_X), cm_w t K V E n c ck cf X = .ok ((K1 ++ K, V, E, n, c, ck, cf), X)) ∧ (∀ (K : List (Nat × Tm)) (m : Nat), cKg S nx H az K zz m → cKg S nx H az (K1 ++ K) (nx r) (w + m)) ∧ (∀ (K : List (Nat × Tm)) (h : Nat), cHg K (h + 1) → cHg (K1 ++ K) h) ∧ (∀ u ∈ K1, (u.1 = 0 ∨ u.1 = 1) ∧ cOk z kf bd nm u) ∧ (∀ (G : List (Nat × Tm)) (i : Nat), nF (K1 ++ G) i = (tm_ub t i || nF G i)) ∧ (∀ G : List (Nat × Tm), aF (K1 ++ G) = aF G) ∧ ∀ G : List (Nat × Tm), gSc z kf ((0, t) :: G) → gSc z kf (K1 ++ G)) ∨
  ((S 0 r).toInt = 2 ∧ zz = nx r ∧ (∀ i, tm_ub t i = false) ∧ ∀ (K : List (Nat × Tm)) (V : List Int64) (E : List (Nat → Int64)) (n c : Nat) (ck : Nat → Int32) (cf : Nat → Int64) (X : cm_X), cm_w t K V E n c ck cf X = .ok ((K, pv0 (S 1 r) :: V, E, n, c, ck, cf), X)) ∨
  ((S 0 r).toInt = 3 ∧ zz = nx r ∧ ∃ s : Nat, (S 1 r).toInt = (s : Int) ∧ s < bd ∧ (∀ i, tm_ub t i = (i == s)) ∧ ∀ (K : List (Nat × Tm)) (V : List Int64) (E : List (Nat → Int64)) (n c : Nat) (ck : Nat → Int32) (cf : Nat → Int64) (X : cm_X), cm_w t K V E n c ck cf X = .ok ((K, E.headD (fun _ => 0) s :: V, E, n, c, ck, cf), (X.1, X.2.1, X.2.2.1, X.2.2.2.1, X.2.2.2.2.1 + (if nF K s = true ∧ zhs (E.headD (fun _ => 0) s) = 2 then 1 else 0), X.2.2.2.2.2))) ∨
  ((S 0 r).toInt = 4 ∧ zz = nx r ∧ ∃ t2 : Tm, (∀ i, tm_ub t i = false) ∧ (∀ i, tm_dn t2 i = false) ∧ (∀ (K : List (Nat × Tm)) (V : List Int64) (E : List (Nat → Int64)) (n c : Nat) (ck : Nat → Int32) (cf : Nat → Int64) (X : cm_X), cm_w t K V E n c ck cf X = .ok (((1, t2) :: K, V, E, n, c, ck, cf), X)) ∧ ∀ (F : sp_F) (lim : Int) (K0 K : List (Nat × Tm)) (V : List Int64) (E : List (Nat → Int64)) (n c : Nat) (ck : Nat → Int32) (cf : Nat → Int64) (X : cm_X), cm_d F fd lim t2 K0 K V E n c ck cf X = .ok ((K, pv1 (S 1 r) :: V, E, n, c, ck, cf), X)) ∨
  ((S 0 r).toInt = 6 ∧ zz = nx r ∧ (S 2 r).toInt = 0 ∧ ∃ (t2 : Tm) (wd : Int64), H (S 1 r) wd ∧ (∀ i, tm_ub t i = false) ∧ (∀ i, tm_dn t2 i = false) ∧ (∀ (K : List (Nat × Tm)) (V : List Int64) (E : List (Nat → Int64)) (n c : Nat) (ck : Nat → Int32) (cf : Nat → Int64) (X : cm_X), cm_w t K V E n c ck cf X = .ok (((1, t2) :: K, V, E, n, c, ck, cf), X)) ∧ cm_cl fd t2 wd (pm_pl t))
theorem cJ_inv {z : Nat} {kf : Nat → Int32} {bd nm : Nat} : ∀ (t : Tm) {c : Nat} {X : List Nat} {x zz : Int32}, sy_x t → tm_wf z kf t c → c ≤ bd → tm_wi t ≤ nm → cI S H 0 az t false 0 0 0 X → zpx nx x X zz → ∃ r : Nat, x.toInt = (r : Int) ∧ (S 3 r).toInt = pm_pl t ∧ cJnv fd S nx H az z kf bd nm t r zz
  | .leaf (some (0, p, v, _, _, _)), c, X, x, zz, _, _, _, _, h, hz => by
    obtain ⟨r, rfl, h0, h1, h3⟩ := h
    exact ⟨r, hz.1, h3, Or.inr (Or.inl ⟨h0, hz.2.symm, fun _ => rfl, fun _ _ _ _ _ _ _ _ => by rw [← pi_of h1]; rfl⟩)⟩
  | .leaf (some (_ + 1, p, _, s, _, _)), c, X, x, zz, _, hw, hc, _, h, hz => by
    obtain ⟨r, rfl, h0, h1, h3⟩ := h
    have hw : s < c := hw
    exact ⟨r, hz.1, h3, Or.inr (Or.inr (Or.inl ⟨h0, hz.2.symm, s, h1, by omega, fun _ => rfl, fun _ _ _ _ _ _ _ _ => rfl⟩))⟩
  | .branch 0 (.leaf (some (0, p, _, _, _, w))) a, c, X, x, zz, hs, hw, hc, hi, h, hz => by
    rcases h with ⟨-, e, r, rfl, h0, h1, h2, h3⟩ | ⟨q1, s, Y, r, rfl, g0, g3, q2, h0, h1, h2, h3⟩
    · subst e
      exact ⟨r, hz.1, h3, Or.inr (Or.inr (Or.inr (Or.inr ⟨h0, hz.2.symm, h2, Tm.call p w Tm.nil, w, h1, fun _ => rfl, fun _ => rfl, fun _ _ _ _ _ _ _ _ => rfl, fun _ _ _ _ _ _ _ _ _ _ _ => rfl⟩)))⟩
    · obtain ⟨z2, k1, k2⟩ := zpx_app hz.2
      refine ⟨s, hz.1, g3, Or.inl ⟨g0, pm_as a ++ [(1, Tm.call p w a)], 3, by omega, fun K _ _ _ _ _ _ _ => by rw [List.append_assoc]; rfl, fun K m hK => ?_, fun K h g => by rw [List.append_assoc]; exact cHg_ad hs.2.1 rfl g, ?_, fun G i => by rw [List.append_assoc, nF_asc a hs.2.1]; rfl, fun G => by rw [List.append_assoc, aF_asc a hs.2.1]; rfl, fun G g => by obtain ⟨y, c1, w1, w2, w3⟩ := g.2.1 (Or.inl rfl); rw [List.append_assoc]; have hd8 := gSc_d (Or.inl rfl) g; have hd9 : tm_md a + gmk G ≤ 30 := hd8; exact (gSc_as w2 (gSc_1 (t := Tm.call p w a) (Or.inr rfl) ⟨rfl, y.2⟩ w1 w2 ⟨g.2.2, w3⟩ hd9) a y.2.1 y.2.2 w1 (by rw [gm_1 (Or.inr rfl)]; exact hd9)).1⟩⟩
      · rw [List.append_assoc]
        exact cKg_as (cKg_d (t := Tm.call p w a) ⟨r, k2.1, h0, h1, h2, h3, k2.2.symm, rfl⟩ hK) a hs.2.1 q2 k1
      · intro u hu
        rcases List.mem_append.mp hu with g | g
        · exact ⟨Or.inl (pm_as_0 a u g), pm_as_ok hc a hs.2.1 hs.2.2 hw hi u g⟩
        · rw [List.mem_singleton.mp g]; exact ⟨Or.inr rfl, ⟨rfl, hs.2⟩, ⟨c, hw, hc⟩, hi⟩
  | .branch 0 (.leaf (some (1, p, _, k, _, _))) a, c, X, x, zz, hs, hw, hc, hi, h, hz => by
    rcases h with ⟨-, e, r, rfl, h0, h1, h3⟩ | ⟨q1, s, Y, r, rfl, g0, g3, q2, h0, h1, h3⟩
    · subst e
      exact ⟨r, hz.1, h3, Or.inr (Or.inr (Or.inr (Or.inl ⟨h0, hz.2.symm, Tm.made p k Tm.nil, fun _ => rfl, fun _ => rfl, fun _ _ _ _ _ _ _ _ => rfl, fun _ _ _ _ _ _ _ _ _ _ _ => by rw [← pi_of h1]; rfl⟩)))⟩
    · obtain ⟨z2, k1, k2⟩ := zpx_app hz.2
      refine ⟨s, hz.1, g3, Or.inl ⟨g0, pm_as a ++ [(1, Tm.made p k a)], 1, by omega, fun K _ _ _ _ _ _ _ => by rw [List.append_assoc]; rfl, fun K m hK => ?_, fun K h g => by rw [List.append_assoc]; exact cHg_ad hs.2.1 rfl g, ?_, fun G i => by rw [List.append_assoc, nF_asc a hs.2.1]; rfl, fun G => by rw [List.append_assoc, aF_asc a hs.2.1]; rfl, fun G g => by obtain ⟨y, c1, w1, w2, w3⟩ := g.2.1 (Or.inl rfl); rw [List.append_assoc]; have hd8 := gSc_d (Or.inl rfl) g; have hd9 : tm_md a + gmk G ≤ 30 := hd8; exact (gSc_as w2 (gSc_1 (t := Tm.made p k a) (Or.inr rfl) ⟨rfl, y.2⟩ w1 w2 ⟨g.2.2, w3⟩ hd9) a y.2.1 y.2.2 w1.2 (by rw [gm_1 (Or.inr rfl)]; exact hd9)).1⟩⟩
      · rw [List.append_assoc]
        exact cKg_as (cKg_d (t := Tm.made p k a) ⟨r, k2.1, h0, h1, q1, h3, k2.2.symm, rfl⟩ hK) a hs.2.1 q2 k1
      · intro u hu
        rcases List.mem_append.mp hu with g | g
        · exact ⟨Or.inl (pm_as_0 a u g), pm_as_ok hc a hs.2.1 hs.2.2 hw.2 hi u g⟩
        · rw [List.mem_singleton.mp g]; exact ⟨Or.inr rfl, ⟨rfl, hs.2⟩, ⟨c, hw, hc⟩, hi⟩
  | .branch 1 (.leaf (some (0, p, o, _, _, _))) (.branch _ a b), c, X, x, zz, hs, hw, hc, hi, h, hz => by
    obtain ⟨s, Y, Z, r, rfl, g0, g3, q1, q2, h0, h3⟩ := h
    obtain ⟨z2, k1, k2⟩ := zpx_app hz.2
    obtain ⟨z1, k3, k4⟩ := zpx_app k1
    have hi : max (tm_wi a) (tm_wi b) ≤ nm := hi
    refine ⟨s, hz.1, g3, Or.inl ⟨g0, [(0, a), (0, b), (1, Tm.bin p o a b)], 1, by omega, fun _ _ _ _ _ _ _ _ => rfl, fun K m hK => cKg_w q1 k3 (cKg_w q2 k4 (cKg_d (t := Tm.bin p o a b) ⟨r, k2.1, h0, h3, k2.2.symm, rfl⟩ hK)), fun K h g => ⟨by show 2 ≤ h + 1 + 1; omega, by show cHg K (h + 1 + 1 - 2 + 1); rw [show h + 1 + 1 - 2 + 1 = h + 1 from by omega]; exact g⟩, ?_, fun G i => by show (tm_ub a i || (tm_ub b i || (false || nF G i))) = ((tm_ub a i || tm_ub b i) || nF G i); rw [Bool.false_or, Bool.or_assoc], fun G => rfl, fun G g => by obtain ⟨y, c1, w1, w2, w3⟩ := g.2.1 (Or.inl rfl); have hd8 := gSc_d (Or.inl rfl) g; have hd9 : max (tm_md a) (tm_md b) + gmk G ≤ 30 := hd8; exact (gSc_1 (Or.inl rfl) y.2.1 w1.1 w2 (gSc_1 (Or.inl rfl) y.2.2 w1.2 w2 (gSc_1 (t := Tm.bin p o a b) (Or.inr rfl) ⟨rfl, y.2⟩ w1 w2 ⟨g.2.2, w3⟩ hd9) (by rw [gm_1 (Or.inr rfl)]; omega)) (by rw [gm_1 (Or.inl rfl), gm_1 (Or.inr rfl)]; omega)).1⟩⟩
    intro u hu
    rcases List.mem_cons.mp hu with g | hu
    · rw [g]; exact ⟨Or.inl rfl, hs.2.1, ⟨c, hw.1, hc⟩, by show tm_wi a ≤ nm; omega⟩
    · rcases List.mem_cons.mp hu with g | hu
      · rw [g]; exact ⟨Or.inl rfl, hs.2.2, ⟨c, hw.2, hc⟩, by show tm_wi b ≤ nm; omega⟩
      · rw [List.mem_singleton.mp hu]; exact ⟨Or.inr rfl, ⟨rfl, hs.2⟩, ⟨c, hw, hc⟩, hi⟩
  | .branch 1 (.leaf (some (_ + 1, p, _, k, _, _))) (.branch _ a b), c, X, x, zz, hs, hw, hc, hi, h, hz => by
    obtain ⟨s, Y, r, Z, rfl, g0, g3, q1, h0, h1, q2⟩ := h
    obtain ⟨z2, k1, k2⟩ := zpx_app hz.2
    obtain ⟨z1, k3, k4⟩ := zpx_app k1
    have hi : max (tm_wi a) (max (k + 1) (tm_wi b)) ≤ nm := hi
    have e := k4.2
    refine ⟨s, hz.1, g3, Or.inl ⟨g0, [(0, a), (1, Tm.tlet p k a b)], 1, by omega, fun _ _ _ _ _ _ _ _ => rfl, fun K m hK => cKg_w q1 k3 (cKg_d (t := Tm.tlet p k a b) ⟨r, k4.1, h0, h1, ⟨Z, q2, by rw [show nx r = z2 from e]; exact k2⟩, rfl⟩ hK), fun K h g => ⟨by show 1 ≤ h + 1; omega, g⟩, ?_, fun G i => by show (tm_ub a i || ((tm_ub b i && !(i == k)) || nF G i)) = ((tm_ub a i || (tm_ub b i && !(i == k))) || nF G i); rw [Bool.or_assoc], fun G => rfl, fun G g => by obtain ⟨y, c1, w1, w2, w3⟩ := g.2.1 (Or.inl rfl); have hd8 := gSc_d (Or.inl rfl) g; have hd9 : max (tm_md a) (tm_md b) + gmk G ≤ 30 := hd8; exact (gSc_1 (Or.inl rfl) y.2.1 w1.2.1 w2 (gSc_1 (t := Tm.tlet p k a b) (Or.inr rfl) ⟨rfl, y.2⟩ w1 w2 ⟨g.2.2, w3⟩ hd9) (by rw [gm_1 (Or.inr rfl)]; omega)).1⟩⟩
    intro u hu
    rcases List.mem_cons.mp hu with g | hu
    · rw [g]; exact ⟨Or.inl rfl, hs.2.1, ⟨c, hw.2.1, hc⟩, by show tm_wi a ≤ nm; omega⟩
    · rw [List.mem_singleton.mp hu]; exact ⟨Or.inr rfl, ⟨rfl, hs.2⟩, ⟨c, hw, hc⟩, hi⟩
  | .branch 2 (.leaf (some (_, p, _, _, _, _))) (.branch _ a (.branch _ b d)), c, X, x, zz, hs, hw, hc, hi, h, hz => by
    obtain ⟨s, Y, i, Z, j, U, rfl, g0, g3, q1, h0, h1, h3, q2, j0, j1, q3⟩ := h
    have hz2 : zpx nx (nx s) (Y ++ ([i] ++ (Z ++ [j] ++ U))) zz := by
      have := hz.2
      simpa [List.append_assoc] using this
    obtain ⟨z1, k1, k2⟩ := zpx_app hz2
    obtain ⟨z2, k3, k4⟩ := zpx_app k2
    have e := k3.2
    have hi : max (tm_wi a) (max (tm_wi b) (tm_wi d)) ≤ nm := hi
    refine ⟨s, hz.1, g3, Or.inl ⟨g0, [(0, a), (1, Tm.ite p a b d)], 2, by omega, fun _ _ _ _ _ _ _ _ => rfl, fun K m hK => cKg_w q1 k1 (cKg_d (t := Tm.ite p a b d) ⟨i, k3.1, h0, h3, ⟨Z, j, U, h1, q2, j0, j1, q3, by rw [show nx i = z2 from e]; exact k4⟩, rfl⟩ hK), fun K h g => ⟨by show 1 ≤ h + 1; omega, g⟩, ?_, fun G i => by show (tm_ub a i || ((tm_ub b i || tm_ub d i) || nF G i)) = ((tm_ub a i || tm_ub b i || tm_ub d i) || nF G i); rw [Bool.or_assoc, Bool.or_assoc, Bool.or_assoc], fun G => rfl, fun G g => by obtain ⟨y, c1, w1, w2, w3⟩ := g.2.1 (Or.inl rfl); have hd8 := gSc_d (Or.inl rfl) g; have hd9 : max (tm_md a) (max (tm_md b) (tm_md d)) + gmk G ≤ 30 := hd8; exact (gSc_1 (Or.inl rfl) y.2.1 w1.1 w2 (gSc_1 (t := Tm.ite p a b d) (Or.inr rfl) ⟨rfl, y.2⟩ w1 w2 ⟨g.2.2, w3⟩ hd9) (by rw [gm_1 (Or.inr rfl)]; omega)).1⟩⟩
    intro u hu
    rcases List.mem_cons.mp hu with g | hu
    · rw [g]; exact ⟨Or.inl rfl, hs.2.1, ⟨c, hw.1, hc⟩, by show tm_wi a ≤ nm; omega⟩
    · rw [List.mem_singleton.mp hu]; exact ⟨Or.inr rfl, ⟨rfl, hs.2⟩, ⟨c, hw, hc⟩, hi⟩
  | .branch 0 (.leaf (some (2, p, _, k, _, _))) a, c, X, x, zz, hs, hw, hc, hi, h, hz => by
    obtain ⟨s, m, Y, rfl, g0, g3, h0, h1, h3, q⟩ := h
    refine ⟨s, hz.1, g3, Or.inl ⟨g0, [(1, Tm.mat p k a)], 2, by omega, fun _ _ _ _ _ _ _ _ => rfl, fun K n hK => cKg_d (t := Tm.mat p k a) ⟨m, hz.2.1, h0, h1, h3, ⟨Y, q, hz.2.2⟩, rfl⟩ hK, fun K h g => ⟨Nat.zero_le _, g⟩, ?_, fun G i => rfl, fun G => rfl, fun G g => by obtain ⟨y, c1, w1, w2, w3⟩ := g.2.1 (Or.inl rfl); have hd8 := gSc_d (Or.inl rfl) g; exact (gSc_1 (t := Tm.mat p k a) (Or.inr rfl) ⟨rfl, y.2⟩ w1 w2 ⟨g.2.2, w3⟩ hd8).1⟩⟩
    intro u hu
    rw [List.mem_singleton.mp hu]; exact ⟨Or.inr rfl, ⟨rfl, hs.2⟩, ⟨c, hw, hc⟩, hi⟩
  | .leaf none, _, _, _, _, hs, _, _, _, _, _ => absurd hs.1 (by decide)
  | .branch (_ + 3) _ _, _, _, _, _, hs, _, _, _, _, _ => absurd hs.1 (fun g => nomatch (show (0 : Nat) = 1 from g))
  | .branch 0 (.leaf (some (_ + 3, _, _, _, _, _))) _, _, _, _, _, hs, _, _, _, _, _ => absurd hs.1 (fun g => nomatch (show (2 : Nat) = 1 from g))
  | .branch 0 (.leaf none) _, _, _, _, _, _, _, _, _, h9, _ => h9.elim
  | .branch 0 (.branch _ _ _) _, _, _, _, _, _, _, _, _, h9, _ => h9.elim
  | .branch 1 (.leaf none) _, _, _, _, _, _, _, _, _, h9, _ => h9.elim
  | .branch 1 (.branch _ _ _) _, _, _, _, _, _, _, _, _, h9, _ => h9.elim
  | .branch 1 (.leaf (some (0, _, _, _, _, _))) (.leaf _), _, _, _, _, _, _, _, _, h9, _ => h9.elim
  | .branch 1 (.leaf (some (_ + 1, _, _, _, _, _))) (.leaf _), _, _, _, _, _, _, _, _, h9, _ => h9.elim
  | .branch 2 (.leaf none) _, _, _, _, _, _, _, _, _, h9, _ => h9.elim
  | .branch 2 (.branch _ _ _) _, _, _, _, _, _, _, _, _, h9, _ => h9.elim
  | .branch 2 (.leaf (some (_, _, _, _, _, _))) (.leaf _), _, _, _, _, _, _, _, _, h9, _ => h9.elim
  | .branch 2 (.leaf (some (_, _, _, _, _, _))) (.branch _ _ (.leaf _)), _, _, _, _, _, _, _, _, h9, _ => h9.elim
/-- what the row of what is done behind the operands is, and what the plain machine does there -/
def cEnv (fd : Nat → Int32) (S : Nat → Nat → Int32) (nx : Nat → Int32) (H : Int32 → Int64 → Prop) (az : Int) (z : Nat) (kf : Nat → Int32) (bd nm : Nat) (t : Tm) (r : Nat) (zz : Int32) (w : Nat) : Prop :=
  ((S 0 r).toInt = 7 ∧ zz = nx r ∧ w = 3 ∧ ∃ wd : Int64, H (S 1 r) wd ∧ (S 2 r).toInt = (pm_ar t : Int) ∧ cm_cl fd t wd (S 3 r).toInt ∧ ∀ i, tm_dn t i = false) ∨
  ((S 0 r).toInt = 5 ∧ zz = nx r ∧ w = 1 ∧ ∃ (q k : Nat), 0 < q ∧ pm_ar t = q ∧ (S 1 r).toInt = (k : Int) ∧ k < z ∧ (kf k).toInt = (q : Int) ∧ (∀ i, tm_dn t i = false) ∧ ∀ (F : sp_F) (lim : Int) (K0 K : List (Nat × Tm)) (V : List Int64) (E : List (Nat → Int64)) (n c : Nat) (ck : Nat → Int32) (cf : Nat → Int64) (X : cm_X), cm_d F fd lim t K0 K V E n c ck cf X = match sh_f E.length q X.1 with
      | some i => .ok ((K, pv2 (Int32.ofInt (c : Int)) :: V.drop q, E, n, c + 1, upd ck c (S 1 r), pm_cf cf V c q), (sh_r i X.1, X.2.1, X.2.2.1 + 1, X.2.2.2))
      | none => if lim ≤ cm_hl fd ((K0, V, E, n, c, ck, cf), X) then .error (3, (S 3 r).toInt, ((K0, V, E, n, c, ck, cf), X)) else .ok ((K, pv2 (Int32.ofInt (c : Int)) :: V.drop q, E, n, c + 1, upd ck c (S 1 r), pm_cf cf V c q), (X.1, X.2.1 + 1, X.2.2.1, max X.2.2.2.1 (cm_hl fd ((K0, V, E, n, c, ck, cf), X) + 1), X.2.2.2.2))) ∨
  ((S 0 r).toInt = 15 ∧ w = 2 ∧ pm_ar t = 0 ∧ ∃ (s : Nat) (a : Tm) (Y : List Nat) (c0 : Nat), (S 1 r).toInt = (s : Int) ∧ s < bd ∧ c0 ≤ bd ∧ tm_li a ∧ tm_sy a true ∧ tm_wf z kf a c0 ∧ tm_ln a ≤ 8 ∧ tm_wi a ≤ nm ∧ cI S H 0 az a true r (S 2 r) (zla r Y) Y ∧ zpx nx (nx r) Y zz ∧ (∀ i, tm_dn t i = ((i == s) || tm_ub a i)) ∧ (∀ (G : List (Nat × Tm)) (k : Int) (y : Tm), gSc z kf ((1, t) :: G) → pm_fi k a = some y → gSc z kf ((0, am_x y) :: G) ∧ (∀ k, am_h y ≤ k → nF G k = false) ∧ s < am_h y ∧ am_h y + am_m y ≤ 24 ∧ tm_md (am_x y) + 1 + gmk G ≤ 30) ∧ ∀ (F : sp_F) (lim : Int) (K0 K : List (Nat × Tm)) (V : List Int64) (E : List (Nat → Int64)) (n c : Nat) (ck : Nat → Int32) (cf : Nat → Int64) (X : cm_X), cm_d F fd lim t K0 K V E n c ck cf X = cm_mt fd (S 3 r).toInt s a K0 K V E n c ck cf X) ∨
  (zz = nx r ∧ w = 1 ∧ pm_ar t = 2 ∧ ∃ o : Int, (S 0 r).toInt = cI_op o ∧ (∀ i, tm_dn t i = false) ∧ ∀ (F : sp_F) (lim : Int) (K0 K : List (Nat × Tm)) (V : List Int64) (E : List (Nat → Int64)) (n c : Nat) (ck : Nat → Int32) (cf : Nat → Int64) (X : cm_X), cm_d F fd lim t K0 K V E n c ck cf X = if zhs (V.getD 1 0) = 0 ∧ zhs (V.getD 0 0) = 0 then .ok ((K, pv0 (pm_op o (V.getD 1 0).toInt32 (V.getD 0 0).toInt32) :: V.drop 2, E, n, c, ck, cf), X) else .error (2, (S 3 r).toInt, ((K0, V, E, n, c, ck, cf), X))) ∨
  ((S 0 r).toInt = 12 ∧ w = 1 ∧ pm_ar t = 1 ∧ ∃ (s : Nat) (b : Tm) (Z : List Nat), (S 1 r).toInt = (s : Int) ∧ s ≤ bd ∧ s < nm ∧ cI S H 0 az b false 0 0 0 Z ∧ zpx nx (nx r) Z zz ∧ cOk z kf (max bd (s + 1)) nm (0, b) ∧ (∀ i, tm_dn t i = (tm_ub b i && !(i == s))) ∧ (∀ G : List (Nat × Tm), gSc z kf ((1, t) :: G) → gSc z kf ((0, b) :: G) ∧ nF G s = false ∧ s < 24) ∧ ∀ (F : sp_F) (lim : Int) (K0 K : List (Nat × Tm)) (V : List Int64) (E : List (Nat → Int64)) (n c : Nat) (ck : Nat → Int32) (cf : Nat → Int64) (X : cm_X), cm_d F fd lim t K0 K V E n c ck cf X = .ok (((0, b) :: K, V.drop 1, vp_updL (E.headD (fun _ => 0)) s (V.getD 0 0) :: E.tail, n, c, ck, cf), X)) ∨
  ((S 0 r).toInt = 13 ∧ w = 2 ∧ pm_ar t = 1 ∧ ∃ (b d : Tm) (Z : List Nat) (j : Nat) (U : List Nat), (S 1 r).toInt = (j : Int) ∧ cI S H 0 az b false 0 0 0 Z ∧ (S 0 j).toInt = 14 ∧ (S 1 j).toInt = (zla j U : Int) ∧ cI S H 0 az d false 0 0 0 U ∧ zpx nx (nx r) (Z ++ [j] ++ U) zz ∧ cOk z kf bd nm (0, b) ∧ cOk z kf bd nm (0, d) ∧ (∀ i, tm_dn t i = (tm_ub b i || tm_ub d i)) ∧ (∀ G : List (Nat × Tm), gSc z kf ((1, t) :: G) → gSc z kf ((0, b) :: G) ∧ gSc z kf ((0, d) :: G)) ∧ ∀ (F : sp_F) (lim : Int) (K0 K : List (Nat × Tm)) (V : List Int64) (E : List (Nat → Int64)) (n c : Nat) (ck : Nat → Int32) (cf : Nat → Int64) (X : cm_X), cm_d F fd lim t K0 K V E n c ck cf X = if zhs (V.getD 0 0) = 0 then .ok (((0, if (V.getD 0 0).toInt32 = 0 then d else b) :: K, V.drop 1, E, n, c, ck, cf), X) else .error (2, (S 3 r).toInt, ((K0, V, E, n, c, ck, cf), X)))
theorem cE_inv {z : Nat} {kf : Nat → Int32} {bd nm : Nat} : ∀ (t : Tm) {j c : Nat} {x zz : Int32} {w : Nat}, cOk z kf bd nm (j, t) → cDo S nx H az t x zz w → ∃ r : Nat, x.toInt = (r : Int) ∧ cEnv fd S nx H az z kf bd nm t r zz w
  | .branch 0 (.leaf (some (0, p, _, _, _, wd))) a, _, _, x, zz, w, _, h => by
    obtain ⟨r, h0, h1, h2, h3, h4, h5, h6⟩ := h
    exact ⟨r, h0, Or.inl ⟨h1, h5, h6, wd, h2, h3, fun _ _ _ _ _ _ _ _ _ _ _ => by rw [h4]; rfl, fun _ => rfl⟩⟩
  | .branch 0 (.leaf (some (1, p, _, k, _, _))) a, _, _, x, zz, w, ok, h => by
    obtain ⟨r, h0, h1, h2, h3, h4, h5, h6⟩ := h
    obtain ⟨-, ⟨c0, w1, w2⟩, -⟩ := ok
    refine ⟨r, h0, Or.inr (Or.inl ⟨h1, h5, h6, tm_ln a, k, h3, rfl, h2, w1.1.1, w1.1.2, fun _ => rfl, fun F lim K0 K V E n c ck cf X => ?_⟩)⟩
    have e : ¬ tm_ln a = 0 := by omega
    rw [← pi_of h2, h4]
    exact if_neg e
  | .branch 0 (.leaf (some (2, p, _, s, _, _))) a, _, _, x, zz, w, ok, h => by
    obtain ⟨r, h0, h1, h2, h4, ⟨Y, y1, y2⟩, h6⟩ := h
    obtain ⟨s1, ⟨c0, w1, w2⟩, w3⟩ := ok
    have w4 : s < c0 := w1.1.1
    refine ⟨r, h0, Or.inr (Or.inr (Or.inl ⟨h1, h6, rfl, s, a, Y, c0, h2, by omega, w2, s1.2.1, s1.2.2, w1.2, w1.1.2.2, w3, y1, y2, fun _ => rfl, fun G k y g q => by have hd8 := gSc_d (Or.inr rfl) g; have hd9 : tm_md a + 1 + gmk G ≤ 30 := hd8; have hd7 := fi_md a q; obtain ⟨y, c1, w1, w2, w3⟩ := g.2.1 (Or.inr rfl); obtain ⟨f1, f2, f3, f4⟩ := fi_wf a y.2.1 y.2.2 w1.2 q; exact ⟨(gSc_1 (Or.inl rfl) f1 f2 f3 ⟨g.2.2, fun k hk => by have := w3 k hk; omega⟩ (by omega)).1, fun k hk => zbf7 (fun u => by have := w3 k u; omega), by have := w1.1.1; omega, by omega, by omega⟩, fun F lim K0 K V E n c ck cf X => ?_⟩))⟩
    rw [h4]
    rfl
  | .branch 1 (.leaf (some (0, p, o, _, _, _))) (.branch _ a b), _, _, x, zz, w, _, h => by
    obtain ⟨r, h0, h1, h4, h5, h6⟩ := h
    exact ⟨r, h0, Or.inr (Or.inr (Or.inr (Or.inl ⟨h5, h6, rfl, o, h1, fun _ => rfl, fun F lim K0 K V E n c ck cf X => by
      show (match (if zhs (V.getD 1 0) = 0 ∧ zhs (V.getD 0 0) = 0 then (Except.ok (K, pv0 (pm_op o (V.getD 1 0).toInt32 (V.getD 0 0).toInt32) :: V.drop 2, E, n, c, ck, cf) : Except (Nat × Int) pm_S) else .error (2, p)) with | .ok s => (Except.ok (s, X) : Except (Nat × Int × cm_S) cm_S) | .error e => .error (e.1, e.2, ((K0, V, E, n, c, ck, cf), X))) = _
      rw [h4]
      by_cases g : zhs (V.getD 1 0) = 0 ∧ zhs (V.getD 0 0) = 0
      · rw [if_pos g, if_pos g]
      · rw [if_neg g, if_neg g]⟩)))⟩
  | .branch 1 (.leaf (some (_ + 1, p, _, s, _, _))) (.branch _ a b), _, _, x, zz, w, ok, h => by
    obtain ⟨r, h0, h1, h2, ⟨Z, z1, z2⟩, h6⟩ := h
    obtain ⟨s1, ⟨c0, w1, w2⟩, w3⟩ := ok
    have w3 : max (tm_wi a) (max (s + 1) (tm_wi b)) ≤ nm := w3
    have w4 : s = c0 := w1.1.1
    exact ⟨r, h0, Or.inr (Or.inr (Or.inr (Or.inr (Or.inl ⟨h1, h6, rfl, s, b, Z, h2, by omega, by omega, z1, z2, ⟨s1.2.2, ⟨c0 + 1, w1.2.2, by omega⟩, by show tm_wi b ≤ nm; omega⟩, fun _ => rfl, fun G g => by obtain ⟨y, c1, w1, w2, w3⟩ := g.2.1 (Or.inr rfl); have hd8 := gSc_d (Or.inr rfl) g; have hd9 : max _ (tm_md b) + gmk G ≤ 30 := hd8; exact ⟨(gSc_1 (c := c1 + 1) (Or.inl rfl) y.2.2 w1.2.2 (by have := w1.1.2; omega) ⟨g.2.2, fun k hk => by have := w3 k hk; omega⟩ (by omega)).1, zbf7 (fun u => by have := w3 s u; have := w1.1.1; omega), by have := w1.1.1; have := w1.1.2; omega⟩, fun _ _ _ _ _ _ _ _ _ _ _ => rfl⟩))))⟩
  | .branch 2 (.leaf (some (_, p, _, _, _, _))) (.branch _ a (.branch _ b d)), _, _, x, zz, w, ok, h => by
    obtain ⟨r, h0, h1, h4, ⟨Z, j, U, q1, q2, q3, q4, q5, q6⟩, h6⟩ := h
    obtain ⟨s1, ⟨c0, w1, w2⟩, w3⟩ := ok
    have w3 : max (tm_wi a) (max (tm_wi b) (tm_wi d)) ≤ nm := w3
    exact ⟨r, h0, Or.inr (Or.inr (Or.inr (Or.inr (Or.inr ⟨h1, h6, rfl, b, d, Z, j, U, q1, q2, q3, q4, q5, q6, ⟨s1.2.2.1, ⟨c0, w1.2.1, w2⟩, by show tm_wi b ≤ nm; omega⟩, ⟨s1.2.2.2, ⟨c0, w1.2.2, w2⟩, by show tm_wi d ≤ nm; omega⟩, fun _ => rfl, fun G g => by obtain ⟨y, c1, w1, w2, w3⟩ := g.2.1 (Or.inr rfl); have hd8 := gSc_d (Or.inr rfl) g; have hd9 : max _ (max (tm_md b) (tm_md d)) + gmk G ≤ 30 := hd8; exact ⟨(gSc_1 (Or.inl rfl) y.2.2.1 w1.2.1 w2 ⟨g.2.2, w3⟩ (by omega)).1, (gSc_1 (Or.inl rfl) y.2.2.2 w1.2.2 w2 ⟨g.2.2, w3⟩ (by omega)).1⟩, fun F lim K0 K V E n c ck cf X => by
      show (match (if zhs (V.getD 0 0) = 0 then (Except.ok ((0, if (V.getD 0 0).toInt32 = 0 then d else b) :: K, V.drop 1, E, n, c, ck, cf) : Except (Nat × Int) pm_S) else .error (2, p)) with | .ok s => (Except.ok (s, X) : Except (Nat × Int × cm_S) cm_S) | .error e => .error (e.1, e.2, ((K0, V, E, n, c, ck, cf), X))) = _
      rw [h4]
      by_cases g : zhs (V.getD 0 0) = 0
      · rw [if_pos g, if_pos g]
      · rw [if_neg g, if_neg g]⟩))))⟩
  | .leaf none, _, _, _, _, _, _, h => h.elim
  | .branch (_ + 3) _ _, _, _, _, _, _, _, h => h.elim
  | .leaf (some (0, _, _, _, _, _)), _, _, _, _, _, _, h => h.elim
  | .leaf (some (_ + 1, _, _, _, _, _)), _, _, _, _, _, _, h => h.elim
  | .branch 0 (.leaf (some (_ + 3, _, _, _, _, _))) _, _, _, _, _, _, _, h => h.elim
  | .branch 0 (.leaf none) _, _, _, _, _, _, _, h => h.elim
  | .branch 0 (.branch _ _ _) _, _, _, _, _, _, _, h => h.elim
  | .branch 1 (.leaf none) _, _, _, _, _, _, _, h => h.elim
  | .branch 1 (.branch _ _ _) _, _, _, _, _, _, _, h => h.elim
  | .branch 1 (.leaf (some (0, _, _, _, _, _))) (.leaf _), _, _, _, _, _, _, h => h.elim
  | .branch 1 (.leaf (some (_ + 1, _, _, _, _, _))) (.leaf _), _, _, _, _, _, _, h => h.elim
  | .branch 2 (.leaf none) _, _, _, _, _, _, _, h => h.elim
  | .branch 2 (.branch _ _ _) _, _, _, _, _, _, _, h => h.elim
  | .branch 2 (.leaf (some (_, _, _, _, _, _))) (.leaf _), _, _, _, _, _, _, h => h.elim
  | .branch 2 (.leaf (some (_, _, _, _, _, _))) (.branch _ _ (.leaf _)), _, _, _, _, _, _, h => h.elim
/-- at a row that begins a tree's work -/
theorem cG_w {z : Nat} {kf : Nat → Int32} {bd nm : Nat} {K : List (Nat × Tm)} {x : Int32} {r m : Nat} (hr : x.toInt = (r : Int)) (ho : (S 0 r).toInt = 1 ∨ (S 0 r).toInt = 2 ∨ (S 0 r).toInt = 3 ∨ (S 0 r).toInt = 4 ∨ (S 0 r).toInt = 6) (hk : ∀ u ∈ K, u.1 = 0 ∨ u.1 = 1 → cOk z kf bd nm u) (h : cKg S nx H az K x m) : ∃ (t : Tm) (K2 : List (Nat × Tm)) (zz : Int32), K = (0, t) :: K2 ∧ (S 3 r).toInt = pm_pl t ∧ cJnv fd S nx H az z kf bd nm t r zz ∧ cKg S nx H az K2 zz m := by
  have hs : ∀ {n : Nat} {y : Int32}, cSj S nx n x y → n = 0 ∧ x = y := fun {n y} g => by
    cases n with
    | zero => exact ⟨rfl, g⟩
    | succ n =>
      obtain ⟨r2, a, b⟩ := g
      obtain rfl : r2 = r := by omega
      have b9 := b.1
      omega
  cases K with
  | nil =>
    obtain ⟨n, y, r2, a, b, c, d⟩ := h
    obtain ⟨-, rfl⟩ := hs a
    obtain rfl : r2 = r := by omega
    omega
  | cons u K2 =>
    obtain ⟨j, t⟩ := u
    obtain ⟨n, y, zz, w, m2, a, b, c, d⟩ := h
    obtain ⟨rfl, rfl⟩ := hs a
    have ok := hk (j, t) List.mem_cons_self
    rcases b with ⟨rfl, ⟨X, b1, b2⟩, rfl⟩ | ⟨rfl, b1⟩ | ⟨b0, r2, b1, b2, -⟩
    · obtain ⟨s1, ⟨c0, w1, w2⟩, w3⟩ := ok (Or.inl rfl)
      obtain ⟨r2, e1, e2, e3⟩ := cJ_inv (fd := fd) t s1 w1 w2 w3 b1 b2
      obtain rfl : r2 = r := by omega
      exact ⟨t, K2, zz, rfl, e2, e3, by rw [show m = m2 from by omega]; exact c⟩
    · obtain ⟨r2, e1, e2⟩ := cE_inv (fd := fd) (c := 0) t (ok (Or.inr rfl)) b1
      obtain rfl : r2 = r := by omega
      exfalso
      rcases e2 with e | e | e | e | e | e
      · have := e.1; omega
      · have := e.1; omega
      · have := e.1; omega
      · obtain ⟨-, -, -, o, e, -⟩ := e; have := cI_op_r o; omega
      · have := e.1; omega
      · have := e.1; omega
    · exfalso
      obtain rfl : r2 = r := by omega
      omega
/-- at a row of what is done behind the operands -/
theorem cG_d {z : Nat} {kf : Nat → Int32} {bd nm : Nat} {K : List (Nat × Tm)} {x : Int32} {r m : Nat} (hr : x.toInt = (r : Int)) (ho : (S 0 r).toInt = 5 ∨ 7 ≤ (S 0 r).toInt ∧ (S 0 r).toInt ≤ 13 ∨ (S 0 r).toInt = 15) (hk : ∀ u ∈ K, u.1 = 0 ∨ u.1 = 1 → cOk z kf bd nm u) (h : cKg S nx H az K x m) : ∃ (t : Tm) (K2 : List (Nat × Tm)) (zz : Int32) (w m2 : Nat), K = (1, t) :: K2 ∧ cEnv fd S nx H az z kf bd nm t r zz w ∧ cKg S nx H az K2 zz m2 ∧ m = w + m2 := by
  have hs : ∀ {n : Nat} {y : Int32}, cSj S nx n x y → n = 0 ∧ x = y := fun {n y} g => by
    cases n with
    | zero => exact ⟨rfl, g⟩
    | succ n =>
      obtain ⟨r2, a, b⟩ := g
      obtain rfl : r2 = r := by omega
      have b9 := b.1
      omega
  cases K with
  | nil =>
    obtain ⟨n, y, r2, a, b, c, d⟩ := h
    obtain ⟨-, rfl⟩ := hs a
    obtain rfl : r2 = r := by omega
    omega
  | cons u K2 =>
    obtain ⟨j, t⟩ := u
    obtain ⟨n, y, zz, w, m2, a, b, c, d⟩ := h
    obtain ⟨rfl, rfl⟩ := hs a
    have ok := hk (j, t) List.mem_cons_self
    rcases b with ⟨rfl, ⟨X, b1, b2⟩, rfl⟩ | ⟨rfl, b1⟩ | ⟨b0, r2, b1, b2, -⟩
    · obtain ⟨s1, ⟨c0, w1, w2⟩, w3⟩ := ok (Or.inl rfl)
      obtain ⟨r2, e1, e2, e3⟩ := cJ_inv (fd := fd) t s1 w1 w2 w3 b1 b2
      obtain rfl : r2 = r := by omega
      exfalso
      rcases e3 with e | e | e | e | e <;> (have := e.1; omega)
    · obtain ⟨r2, e1, e2⟩ := cE_inv (fd := fd) (c := 0) t (ok (Or.inr rfl)) b1
      obtain rfl : r2 = r := by omega
      exact ⟨t, K2, zz, w, m2, rfl, e2, c, by omega⟩
    · exfalso
      obtain rfl : r2 = r := by omega
      omega
/-- at a function's last row -/
theorem cG_r {z : Nat} {kf : Nat → Int32} {bd nm : Nat} {K : List (Nat × Tm)} {x : Int32} {r m : Nat} (hr : x.toInt = (r : Int)) (ho : (S 0 r).toInt = 17) (hk : ∀ u ∈ K, u.1 = 0 ∨ u.1 = 1 → cOk z kf bd nm u) (h : cKg S nx H az K x m) : K = [] ∧ m = 1 := by
  have hs : ∀ {n : Nat} {y : Int32}, cSj S nx n x y → n = 0 ∧ x = y := fun {n y} g => by
    cases n with
    | zero => exact ⟨rfl, g⟩
    | succ n =>
      obtain ⟨r2, a, b⟩ := g
      obtain rfl : r2 = r := by omega
      have b9 := b.1
      omega
  cases K with
  | nil =>
    obtain ⟨n, y, r2, a, b, c, d⟩ := h
    obtain ⟨rfl, rfl⟩ := hs a
    exact ⟨rfl, d⟩
  | cons u K2 =>
    obtain ⟨j, t⟩ := u
    obtain ⟨n, y, zz, w, m2, a, b, c, d⟩ := h
    obtain ⟨rfl, rfl⟩ := hs a
    have ok := hk (j, t) List.mem_cons_self
    exfalso
    rcases b with ⟨rfl, ⟨X, b1, b2⟩, rfl⟩ | ⟨rfl, b1⟩ | ⟨b0, r2, b1, b2, -⟩
    · obtain ⟨s1, ⟨c0, w1, w2⟩, w3⟩ := ok (Or.inl rfl)
      obtain ⟨r2, e1, e2, e3⟩ := cJ_inv (fd := fun _ => 0) t s1 w1 w2 w3 b1 b2
      obtain rfl : r2 = r := by omega
      rcases e3 with e | e | e | e | e <;> (have := e.1; omega)
    · obtain ⟨r2, e1, e2⟩ := cE_inv (fd := fun _ => 0) (c := 0) t (ok (Or.inr rfl)) b1
      obtain rfl : r2 = r := by omega
      rcases e2 with e | e | e | e | e | e
      · have := e.1; omega
      · have := e.1; omega
      · have := e.1; omega
      · obtain ⟨-, -, -, o, e, -⟩ := e; have := cI_op_r o; omega
      · have := e.1; omega
      · have := e.1; omega
    · exfalso
      obtain rfl : r2 = r := by omega
      omega
/-- at a row that only leads on -/
theorem cG_s {z : Nat} {kf : Nat → Int32} {bd nm : Nat} {K : List (Nat × Tm)} {x : Int32} {r m : Nat} (hr : x.toInt = (r : Int)) (ho : (S 0 r).toInt = 0 ∨ (S 0 r).toInt = 14) (hk : ∀ u ∈ K, u.1 = 0 ∨ u.1 = 1 → cOk z kf bd nm u) (h : cKg S nx H az K x m) : ∃ m2 : Nat, m = m2 + 1 ∧ (S 0 r).toInt = 14 ∧ 0 ≤ (S 1 r).toInt ∧ cKg S nx H az K (nx (Int32.toNatClampNeg (S 1 r))) m2 := by
  have key : ∀ {n : Nat} {y : Int32}, cSj S nx (n + 1) x y → (S 0 r).toInt = 14 ∧ 0 ≤ (S 1 r).toInt ∧ cSj S nx n (nx (Int32.toNatClampNeg (S 1 r))) y := fun {n y} g => by
    obtain ⟨r2, a, b⟩ := g
    obtain rfl : r2 = r := by omega
    exact b
  cases K with
  | nil =>
    obtain ⟨n, y, r2, a, b, c, d⟩ := h
    cases n with
    | zero =>
      obtain rfl : x = y := a
      obtain rfl : r2 = r := by omega
      omega
    | succ n =>
      obtain ⟨k1, k2, k3⟩ := key a
      exact ⟨n + 1, by omega, k1, k2, n, y, r2, k3, b, c, rfl⟩
  | cons u K2 =>
    obtain ⟨j, t⟩ := u
    obtain ⟨n, y, zz, w, m2, a, b, c, d⟩ := h
    cases n with
    | zero =>
      obtain rfl : x = y := a
      have ok := hk (j, t) List.mem_cons_self
      exfalso
      rcases b with ⟨rfl, ⟨X, b1, b2⟩, rfl⟩ | ⟨rfl, b1⟩ | ⟨b0, r2, b1, b2, -⟩
      · obtain ⟨s1, ⟨c0, w1, w2⟩, w3⟩ := ok (Or.inl rfl)
        obtain ⟨r2, e1, e2, e3⟩ := cJ_inv (fd := fun _ => 0) t s1 w1 w2 w3 b1 b2
        obtain rfl : r2 = r := by omega
        rcases e3 with e | e | e | e | e <;> (have := e.1; omega)
      · obtain ⟨r2, e1, e2⟩ := cE_inv (fd := fun _ => 0) (c := 0) t (ok (Or.inr rfl)) b1
        obtain rfl : r2 = r := by omega
        rcases e2 with e | e | e | e | e | e
        · have := e.1; omega
        · have := e.1; omega
        · have := e.1; omega
        · obtain ⟨-, -, -, o, e, -⟩ := e; have := cI_op_r o; omega
        · have := e.1; omega
        · have := e.1; omega
      · exfalso
        obtain rfl : r2 = r := by omega
        omega
    | succ n =>
      obtain ⟨k1, k2, k3⟩ := key a
      exact ⟨n + w + m2, by omega, k1, k2, n, y, zz, w, m2, k3, b, c, rfl⟩
theorem cG_0 {z : Nat} {kf : Nat → Int32} {bd nm : Nat} {K : List (Nat × Tm)} {x : Int32} {r m : Nat} (hr : x.toInt = (r : Int)) (hk : ∀ u ∈ K, u.1 = 0 ∨ u.1 = 1 → cOk z kf bd nm u) (h : cKg S nx H az K x m) : (S 0 r).toInt ≠ 0 := fun g => by
  obtain ⟨-, -, e, -⟩ := cG_s hr (Or.inl g) hk h
  omega
/-- at an arm's last row -/
theorem cG_l {z : Nat} {kf : Nat → Int32} {bd nm : Nat} {K : List (Nat × Tm)} {x : Int32} {r m : Nat} (hr : x.toInt = (r : Int)) (ho : (S 0 r).toInt = 16) (hk : ∀ u ∈ K, u.1 = 0 ∨ u.1 = 1 → cOk z kf bd nm u) (h : cKg S nx H az K x m) : ∃ (j : Nat) (t : Tm) (K2 : List (Nat × Tm)) (m2 : Nat), K = (j, t) :: K2 ∧ (j = 3 ∨ j = 4) ∧ 0 ≤ (S 1 r).toInt ∧ cKg S nx H az K2 (nx (Int32.toNatClampNeg (S 1 r))) m2 ∧ m = m2 + 1 := by
  have hs : ∀ {n : Nat} {y : Int32}, cSj S nx n x y → n = 0 ∧ x = y := fun {n y} g => by
    cases n with
    | zero => exact ⟨rfl, g⟩
    | succ n =>
      obtain ⟨r2, a, b⟩ := g
      obtain rfl : r2 = r := by omega
      have b9 := b.1
      omega
  cases K with
  | nil =>
    obtain ⟨n, y, r2, a, b, c, d⟩ := h
    obtain ⟨-, rfl⟩ := hs a
    obtain rfl : r2 = r := by omega
    omega
  | cons u K2 =>
    obtain ⟨j, t⟩ := u
    obtain ⟨n, y, zz, w, m2, a, b, c, d⟩ := h
    obtain ⟨rfl, rfl⟩ := hs a
    have ok := hk (j, t) List.mem_cons_self
    rcases b with ⟨rfl, ⟨X, b1, b2⟩, rfl⟩ | ⟨rfl, b1⟩ | ⟨b0, r2, b1, b2, b3, rfl, rfl⟩
    · obtain ⟨s1, ⟨c0, w1, w2⟩, w3⟩ := ok (Or.inl rfl)
      obtain ⟨r2, e1, e2, e3⟩ := cJ_inv (fd := fun _ => 0) t s1 w1 w2 w3 b1 b2
      obtain rfl : r2 = r := by omega
      exfalso
      rcases e3 with e | e | e | e | e <;> (have := e.1; omega)
    · obtain ⟨r2, e1, e2⟩ := cE_inv (fd := fun _ => 0) (c := 0) t (ok (Or.inr rfl)) b1
      obtain rfl : r2 = r := by omega
      exfalso
      rcases e2 with e | e | e | e | e | e
      · have := e.1; omega
      · have := e.1; omega
      · have := e.1; omega
      · obtain ⟨-, -, -, o, e, -⟩ := e; have := cI_op_r o; omega
      · have := e.1; omega
      · have := e.1; omega
    · obtain rfl : r2 = r := by omega
      exact ⟨j, t, K2, m2, rfl, b0, b3, c, by omega⟩
end

end
section
/-! what a row needs is what is needed by what is to do from it on -/
/-- rows of the chain: closed under next and under the jumps -/
def mM (S : Nat → Nat → Int32) (nx : Nat → Int32) (M : Nat → Prop) : Prop := (∀ r, M r → (nx r).toInt = -1 ∨ ∃ q : Nat, (nx r).toInt = (q : Int) ∧ M q) ∧ ∀ r, M r → (S 0 r).toInt = 14 ∨ (S 0 r).toInt = 16 → ∃ d : Nat, (S 1 r).toInt = (d : Int) ∧ M d
/-- a row that comes behind one of them, or a function's first one -/
def mQ (S : Nat → Nat → Int32) (nx : Nat → Int32) (M : Nat → Prop) (x : Int32) : Prop := (∃ d, M d ∧ x = nx d) ∨ ∃ r : Nat, M r ∧ x.toInt = (r : Int) ∧ (S 0 r).toInt = 0
def zNp (nd : Nat → Int32) (x : Int32) (k : Nat) : Bool := zbit (if x.toInt = -1 then 0 else nd (Int32.toNatClampNeg x)) k
theorem zNp_1 {nd : Nat → Int32} {x : Int32} {r k : Nat} (h : x.toInt = (r : Int)) : zNp nd x k = zbit (nd r) k := by
  unfold zNp
  rw [if_neg (by omega), show Int32.toNatClampNeg x = r from zn_li7 h]
theorem mQ_r {S : Nat → Nat → Int32} {nx : Nat → Int32} {M : Nat → Prop} {x : Int32} {r : Nat} (hm : mM S nx M) (h : mQ S nx M x) (hx : x.toInt = (r : Int)) : M r := by
  rcases h with ⟨d, h1, h2⟩ | ⟨q, h1, h2, -⟩
  · rcases hm.1 d h1 with g | ⟨q, g1, g2⟩
    · rw [h2] at hx; omega
    · rw [h2] at hx
      rw [show r = q from by omega]; exact g2
  · rw [show r = q from by omega]; exact h1
theorem mQ_px {S : Nat → Nat → Int32} {nx : Nat → Int32} {M : Nat → Prop} (hm : mM S nx M) : ∀ {X : List Nat} {d : Nat} {z : Int32}, M d → zpx nx (nx d) X z → (∀ r ∈ X, M r) ∧ M (zla d X) ∧ zsg nx d X
  | [], d, z, h, _ => ⟨fun _ g => (nomatch g), h, trivial⟩
  | r :: l, d, z, h, g => by
    have hr : M r := mQ_r hm (Or.inl ⟨d, h, rfl⟩) g.1
    have ih := mQ_px hm (X := l) (d := r) hr g.2
    exact ⟨fun q hq => (List.mem_cons.mp hq).elim (fun e => e ▸ hr) (ih.1 q), ih.2.1, g.1, ih.2.2⟩
theorem nF_m4 {K : List (Nat × Tm)} {i : Nat} : nF ((4, Tm.nil) :: K) i = nF K i := by
  show (tm_dn Tm.nil i || nF K i) = nF K i
  rfl
section
variable {op a b nx ak an ab al af kf ff pl bu : Nat → Int32} {cz ct az kz : Int32} {nd : Nat → Int32} {H : Int32 → Int64 → Prop} {az9 : Int} {M : Nat → Prop}
theorem hz_17 {r : Nat} (h : zhz (zst op a b nx ak an ab al af kf ff cz ct az kz) nd r) (ho : (op r).toInt = 17) (k : Nat) : zbit (nd r) k = false := by
  by_cases hk : k < 32
  · exact hz_n (n := 17) h ho k hk
  · exact zbit_ge (by omega)
theorem mQ_j (hm : mM (zcs op a b pl ak an ab al af bu) nx M) (hh : ∀ r, M r → zhz (zst op a b nx ak an ab al af kf ff cz ct az kz) nd r) : ∀ {n : Nat} {x y : Int32}, cSj (zcs op a b pl ak an ab al af bu) nx n x y → mQ (zcs op a b pl ak an ab al af bu) nx M x → mQ (zcs op a b pl ak an ab al af bu) nx M y ∧ ∀ k, zNp nd x k = zNp nd y k
  | 0, x, y, h, hx => by
    obtain rfl : x = y := h
    exact ⟨hx, fun _ => rfl⟩
  | n + 1, x, y, ⟨r, e, h⟩, hx => by
    have hr := mQ_r hm hx e
    obtain ⟨h1, h2, h3⟩ := h
    obtain ⟨d, g1, g2⟩ := hm.2 r hr (Or.inl h1)
    have ed : Int32.toNatClampNeg ((zcs op a b pl ak an ab al af bu) 1 r) = d := zn_li7 g1
    rw [ed] at h3
    have ih := mQ_j hm hh h3 (Or.inl ⟨d, g2, rfl⟩)
    refine ⟨ih.1, fun k => ?_⟩
    rw [← ih.2 k, zNp_1 e, hz_jmp (n := 14) (hh r hr) h1 (Or.inl rfl) g1]
    rfl
/-- behind a tree's rows -/
theorem mQ_t {z : Nat} (hkz : 0 ≤ kz.toInt) (hz : z = Int32.toNatClampNeg kz) (hm : mM (zcs op a b pl ak an ab al af bu) nx M) (hh : ∀ r, M r → zhz (zst op a b nx ak an ab al af kf ff cz ct az kz) nd r) {t : Tm} {X : List Nat} {d c : Nat} {y : Int32} (hs : sy_x t) (hw : tm_wf z kf t c) (hc : c ≤ 24) (hI : cI (zcs op a b pl ak an ab al af bu) H 0 az9 t false 0 0 0 X) (hd : M d) (hp : zpx nx (nx d) X y) (hB : ∀ k, zNp nd y k = true → k < c) : mQ (zcs op a b pl ak an ab al af bu) nx M y ∧ ∀ k, zBe nx nd d k = (tm_ub t k || zNp nd y k) := by
  obtain ⟨p1, p2, p3⟩ := mQ_px hm hd hp
  have e := zpx_la hp
  refine ⟨Or.inl ⟨_, p2, e⟩, ?_⟩
  have hB2 : ∀ k, zBe nx nd (zla d X) k = true → k < c := fun k hk => hB k (by rw [e]; exact hk)
  intro k
  rw [(cUb hkz hz t hs.2).1 (Or.inl hs.1) rfl hI p3 (fun r hr => hh r (p1 r hr)) hw hc hB2 k, e]
  rfl
theorem mQ_s {z : Nat} {t : Tm} {X : List Nat} {c : Nat} {x y : Int32} (hs : sy_x t) (hw : tm_wf z kf t c) (hI : cI (zcs op a b pl ak an ab al af bu) H 0 az9 t false 0 0 0 X) (hp : zpx nx x X y) (hx : mQ (zcs op a b pl ak an ab al af bu) nx M x) : ∃ d, M d ∧ x = nx d := by
  rcases hx with g | ⟨r, g1, g2, g3⟩
  · exact g
  · obtain ⟨r2, e1, -, e3⟩ := cJ_inv (fd := fun _ => 0) t hs hw (Nat.le_refl _) (Nat.le_refl _) hI hp
    obtain rfl : r2 = r := by omega
    exfalso
    rcases e3 with e | e | e | e | e <;> (have := e.1; omega)
theorem cNd {z : Nat} (hkz : 0 ≤ kz.toInt) (hz : z = Int32.toNatClampNeg kz) (hm : mM (zcs op a b pl ak an ab al af bu) nx M) (hh : ∀ r, M r → zhz (zst op a b nx ak an ab al af kf ff cz ct az kz) nd r) : ∀ (t : Tm) {c w : Nat} {x y : Int32}, sy_x t → tm_wf z kf t c → c ≤ 24 → cDo (zcs op a b pl ak an ab al af bu) nx H az9 t x y w → mQ (zcs op a b pl ak an ab al af bu) nx M x → mQ (zcs op a b pl ak an ab al af bu) nx M y ∧ ((∀ k, zNp nd y k = true → k < c) → ∀ k, zNp nd x k = (tm_dn t k || zNp nd y k))
  | .branch 0 (.leaf (some (0, _, _, _, _, _))) _, c, w, x, y, hs, hw, hc, ⟨r, e, h1, h2, h3, h4, h5, h6⟩, hx => by
    have hr := mQ_r hm hx e
    subst h5
    exact ⟨Or.inl ⟨r, hr, rfl⟩, fun _ k => by rw [zNp_1 e, hz_d (n := 7) (hh r hr) h1 trivial]; rfl⟩
  | .branch 0 (.leaf (some (1, _, _, _, _, _))) _, c, w, x, y, hs, hw, hc, ⟨r, e, h1, h2, h3, h4, h5, h6⟩, hx => by
    have hr := mQ_r hm hx e
    subst h5
    exact ⟨Or.inl ⟨r, hr, rfl⟩, fun _ k => by rw [zNp_1 e, hz_d (n := 5) (hh r hr) h1 trivial]; rfl⟩
  | .branch 1 (.leaf (some (0, _, o, _, _, _))) (.branch _ _ _), c, w, x, y, hs, hw, hc, ⟨r, e, h1, h4, h5, h6⟩, hx => by
    have hr := mQ_r hm hx e
    obtain ⟨n, n1, n2⟩ := op_df o
    subst h5
    exact ⟨Or.inl ⟨r, hr, rfl⟩, fun _ k => by rw [zNp_1 e, hz_d (n := n) (hh r hr) (by rw [← n1]; exact h1) n2]; rfl⟩
  | .branch 1 (.leaf (some (_ + 1, _, _, s, _, _))) (.branch _ _ v), c, w, x, y, hs, hw, hc, ⟨r, e, h1, h2, ⟨Z, z1, z2⟩, h6⟩, hx => by
    have hr := mQ_r hm hx e
    obtain ⟨⟨w1, w2⟩, w3, w4⟩ := hw
    have a0 := mQ_px hm hr z2
    refine ⟨Or.inl ⟨_, a0.2.1, zpx_la z2⟩, fun hB k => ?_⟩
    have a1 := (mQ_t hkz hz hm hh hs.2.2 w4 (by omega) z1 hr z2 (fun k hk => by have := hB k hk; omega)).2 k
    rw [zNp_1 e, hz_let (hh r hr) h1 h2, a1]
    show _ = ((tm_ub v k && !(k == s)) || zNp nd y k)
    exact bo_let (fun g => beq_eq_false_iff_ne.mpr (by have := hB k g; omega))
  | .branch 2 (.leaf (some (_, _, _, _, _, _))) (.branch _ _ (.branch _ v u)), c, w, x, y, hs, hw, hc, ⟨r, e, h1, h4, ⟨Z, j, U, q1, q2, q3, q4, q5, q6⟩, h6⟩, hx => by
    have hr := mQ_r hm hx e
    obtain ⟨w3, w4, w5⟩ := hw
    obtain ⟨y1, k1, k2⟩ := zpx_app q6
    obtain ⟨y2, k3, k4⟩ := zpx_app k1
    have a0 := mQ_px hm hr k3
    have ey := zpx_la k3
    obtain rfl : nx j = y1 := k4.2
    have hj : M j := mQ_r hm (Or.inl ⟨_, a0.2.1, ey⟩) k4.1
    have a2 := mQ_px hm hj k2
    have ez := zpx_la k2
    refine ⟨Or.inl ⟨_, a2.2.1, ez⟩, fun hB k => ?_⟩
    have ej : ∀ k, zNp nd y2 k = zNp nd y k := fun k => by
      rw [zNp_1 k4.1, hz_jmp (n := 14) (hh j hj) q3 (Or.inl rfl) q4, ez]
      rfl
    have a1 := (mQ_t hkz hz hm hh hs.2.2.1 w4 hc q2 hr k3 (fun k hk => hB k (by rw [← ej k]; exact hk))).2 k
    have a3 := (mQ_t hkz hz hm hh hs.2.2.2 w5 hc q5 hj k2 hB).2 k
    rw [zNp_1 e, hz_if (hh r hr) h1 q1, a1, a3, ej k]
    show _ = ((tm_ub v k || tm_ub u k) || zNp nd y k)
    cases tm_ub v k <;> cases tm_ub u k <;> cases zNp nd y k <;> rfl
  | .branch 0 (.leaf (some (2, _, _, s, _, _))) v, c, w, x, y, hs, hw, hc, ⟨r, e, h1, h2, h4, ⟨Y, y1, y2⟩, h6⟩, hx => by
    have hr := mQ_r hm hx e
    obtain ⟨⟨w1, w2, w3⟩, w4⟩ := hw
    obtain ⟨p1, p2, p3⟩ := mQ_px hm hr y2
    have ey := zpx_la y2
    refine ⟨Or.inl ⟨_, p2, ey⟩, fun hB k => ?_⟩
    have a1 := (cUb hkz hz v hs.2.2).2.2 hs.2.1 rfl y1 p3 (fun q hq => hh q (p1 q hq)) w4 (fun k hk => hB k (by rw [ey]; exact hk)) w3 k
    rw [zNp_1 e, hz_mat (hh r hr) h1 h2 (by omega)]
    show ((k == s) || zab (zst op a b nx ak an ab al af kf ff cz ct az kz) nd k 8 ((zcs op a b pl ak an ab al af bu) 2 r)) = (((k == s) || tm_ub v k) || zNp nd y k)
    rw [a1, show decide (0 < tm_ln v) = true from decide_eq_true (Nat.pos_of_ne_zero (fun g => w2 (tm_li_0 hs.2.1 g))), Bool.true_and, ey, Bool.or_assoc]
    rfl
  | .leaf none, _, _, _, _, _, _, _, h, _ => h.elim
  | .branch (_ + 3) _ _, _, _, _, _, _, _, _, h, _ => h.elim
  | .leaf (some (0, _, _, _, _, _)), _, _, _, _, _, _, _, h, _ => h.elim
  | .leaf (some (_ + 1, _, _, _, _, _)), _, _, _, _, _, _, _, h, _ => h.elim
  | .branch 0 (.leaf (some (_ + 3, _, _, _, _, _))) _, _, _, _, _, _, _, _, h, _ => h.elim
  | .branch 0 (.leaf none) _, _, _, _, _, _, _, _, h, _ => h.elim
  | .branch 0 (.branch _ _ _) _, _, _, _, _, _, _, _, h, _ => h.elim
  | .branch 1 (.leaf none) _, _, _, _, _, _, _, _, h, _ => h.elim
  | .branch 1 (.branch _ _ _) _, _, _, _, _, _, _, _, h, _ => h.elim
  | .branch 1 (.leaf (some (0, _, _, _, _, _))) (.leaf _), _, _, _, _, _, _, _, h, _ => h.elim
  | .branch 1 (.leaf (some (_ + 1, _, _, _, _, _))) (.leaf _), _, _, _, _, _, _, _, h, _ => h.elim
  | .branch 2 (.leaf none) _, _, _, _, _, _, _, _, h, _ => h.elim
  | .branch 2 (.branch _ _ _) _, _, _, _, _, _, _, _, h, _ => h.elim
  | .branch 2 (.leaf (some (_, _, _, _, _, _))) (.leaf _), _, _, _, _, _, _, _, h, _ => h.elim
  | .branch 2 (.leaf (some (_, _, _, _, _, _))) (.branch _ _ (.leaf _)), _, _, _, _, _, _, _, h, _ => h.elim
/-- what a row needs -/
theorem cNF {z : Nat} (hkz : 0 ≤ kz.toInt) (hz : z = Int32.toNatClampNeg kz) (hm : mM (zcs op a b pl ak an ab al af bu) nx M) (hh : ∀ r, M r → zhz (zst op a b nx ak an ab al af kf ff cz ct az kz) nd r) : ∀ {G : List (Nat × Tm)} {x : Int32} {m : Nat}, gSc z kf G → cKg (zcs op a b pl ak an ab al af bu) nx H az9 G x m → mQ (zcs op a b pl ak an ab al af bu) nx M x → ∀ k, zNp nd x k = nF G k
  | [], x, m, _, ⟨n, y, r, u1, u2, u3, _⟩, hx, k => by
    obtain ⟨h1, h2⟩ := mQ_j hm hh u1 hx
    rw [h2 k, zNp_1 u2, hz_17 (hh r (mQ_r hm h1 u2)) u3]
    rfl
  | (j, t) :: K, x, m, ⟨g1, g2, g3⟩, ⟨n, y, zz, w, m2, u1, u2, u3, u4⟩, hx, k => by
    obtain ⟨h1, h2⟩ := mQ_j hm hh u1 hx
    rw [h2 k]
    rcases u2 with ⟨rfl, ⟨X, b1, b2⟩, rfl⟩ | ⟨rfl, b1⟩ | ⟨b0, r, b1, b2, b3, b4, -⟩
    · obtain ⟨s1, cc, s2, s3, s4⟩ := g2 (Or.inl rfl)
      obtain ⟨dd, d1, rfl⟩ := mQ_s s1 s2 b1 b2 h1
      have p := mQ_px hm d1 b2
      have hz2 := cNF hkz hz hm hh g3 u3 (Or.inl ⟨_, p.2.1, zpx_la b2⟩)
      have e := (mQ_t hkz hz hm hh s1 s2 s3 b1 d1 b2 (fun k hk => s4 k (by rw [← hz2 k]; exact hk))).2 k
      rw [hz2 k] at e
      exact e
    · obtain ⟨s1, cc, s2, s3, s4⟩ := g2 (Or.inr rfl)
      obtain ⟨q1, q2⟩ := cNd hkz hz hm hh t s1 s2 s3 b1 h1
      have hz2 := cNF hkz hz hm hh g3 u3 q1
      rw [q2 (fun k hk => s4 k (by rw [← hz2 k]; exact hk)) k, hz2 k]
      rfl
    · have hr := mQ_r hm h1 b1
      obtain ⟨dd, d1, d2⟩ := hm.2 r hr (Or.inr b2)
      have ed : Int32.toNatClampNeg ((zcs op a b pl ak an ab al af bu) 1 r) = dd := zn_li7 d1
      rw [ed] at b4
      subst b4
      have hz2 := cNF hkz hz hm hh g3 u3 (Or.inl ⟨dd, d2, rfl⟩)
      rw [zNp_1 b1, hz_jmp (n := 16) (hh r hr) b2 (Or.inr rfl) d1]
      have e1 : nF ((j, t) :: K) k = nF K k := by
        rcases g1.1 with g | g | g | ⟨g, g9⟩
        · omega
        · omega
        · subst g; rfl
        · subst g; subst g9; exact nF_m4
      rw [e1, ← hz2 k]
      rfl
end

end
section
/-! the rows of the chain are closed under next and under the jumps -/
theorem zla_mm : ∀ {X : List Nat} {d : Nat}, zla d X = d ∨ zla d X ∈ X
  | [], _ => Or.inl rfl
  | r :: l, d => by
    rcases zla_mm (X := l) (d := r) with g | g
    · exact Or.inr (by rw [show zla d (r :: l) = zla r l from rfl, g]; exact List.mem_cons_self)
    · exact Or.inr (List.mem_cons_of_mem _ g)
def zTg (S : Nat → Nat → Int32) (X : List Nat) (en r : Nat) : Prop := ∃ d : Nat, (S 1 r).toInt = (d : Int) ∧ (d ∈ X ∨ d = en ∨ d = 0)
theorem zTg_s {S : Nat → Nat → Int32} {X Y : List Nat} {en en2 r : Nat} (h : zTg S X en r) (hs : ∀ d, d ∈ X → d ∈ Y) (he : en = en2 ∨ en = 0 ∨ en ∈ Y) : zTg S Y en2 r := by
  obtain ⟨d, e, g⟩ := h
  rcases g with g | g | g
  · exact ⟨d, e, Or.inl (hs d g)⟩
  · rcases he with q | q | q
    · exact ⟨d, e, Or.inr (Or.inl (g.trans q))⟩
    · exact ⟨d, e, Or.inr (Or.inr (g.trans q))⟩
    · exact ⟨d, e, Or.inl (by rw [g]; exact q)⟩
  · exact ⟨d, e, Or.inr (Or.inr g)⟩
theorem cI_tg {S : Nat → Nat → Int32} {H : Int32 → Int64 → Prop} {alo ahi : Int} : ∀ (t : Tm) {mo : Bool} {pv : Nat} {ar : Int32} {en : Nat} {X : List Nat}, cI S H alo ahi t mo pv ar en X → ∀ r ∈ X, (S 0 r).toInt = 14 ∨ (S 0 r).toInt = 16 → zTg S X en r
  | .leaf (some (0, _, _, _, _, _)), _, _, _, _, X, h, r, hr, ho => by
    obtain ⟨q, rfl, a, -⟩ := h
    rw [List.mem_singleton.mp hr] at ho; omega
  | .leaf (some (_ + 1, _, _, _, _, _)), _, _, _, _, X, h, r, hr, ho => by
    obtain ⟨q, rfl, a, -⟩ := h
    rw [List.mem_singleton.mp hr] at ho; omega
  | .branch 0 (.leaf (some (0, _, _, _, _, _))) t, _, _, _, _, X, h, r, hr, ho => by
    rcases h with ⟨-, -, q, rfl, a, -⟩ | ⟨-, s, Y, q, rfl, a, -, b, d, -⟩
    · rw [List.mem_singleton.mp hr] at ho; omega
    · rcases List.mem_cons.mp hr with g | g
      · rw [g] at ho; omega
      · rcases List.mem_append.mp g with g | g
        · exact zTg_s (cI_tg t b r g ho) (fun d hd => by simp [hd]) (Or.inr (Or.inl rfl))
        · rw [List.mem_singleton.mp g] at ho; omega
  | .branch 0 (.leaf (some (1, _, _, _, _, _))) t, _, _, _, _, X, h, r, hr, ho => by
    rcases h with ⟨-, -, q, rfl, a, -⟩ | ⟨-, s, Y, q, rfl, a, -, b, d, -⟩
    · rw [List.mem_singleton.mp hr] at ho; omega
    · rcases List.mem_cons.mp hr with g | g
      · rw [g] at ho; omega
      · rcases List.mem_append.mp g with g | g
        · exact zTg_s (cI_tg t b r g ho) (fun d hd => by simp [hd]) (Or.inr (Or.inl rfl))
        · rw [List.mem_singleton.mp g] at ho; omega
  | .branch 1 (.leaf (some (0, _, o, _, _, _))) (.branch _ t u), _, _, _, _, X, h, r, hr, ho => by
    obtain ⟨s, Y, Z, q, rfl, a, -, b, d, e, -⟩ := h
    rcases List.mem_cons.mp hr with g | g
    · rw [g] at ho; omega
    · rcases List.mem_append.mp g with g | g
      · rcases List.mem_append.mp g with g | g
        · exact zTg_s (cI_tg t b r g ho) (fun d hd => by simp [hd]) (Or.inr (Or.inl rfl))
        · exact zTg_s (cI_tg u d r g ho) (fun d hd => by simp [hd]) (Or.inr (Or.inl rfl))
      · rw [List.mem_singleton.mp g] at ho
        have := cI_op_r o
        omega
  | .branch 1 (.leaf (some (_ + 1, _, _, _, _, _))) (.branch _ t u), _, _, _, _, X, h, r, hr, ho => by
    obtain ⟨s, Y, q, Z, rfl, a, -, b, d, -, e⟩ := h
    rcases List.mem_cons.mp hr with g | g
    · rw [g] at ho; omega
    · rcases List.mem_append.mp g with g | g
      · rcases List.mem_append.mp g with g | g
        · exact zTg_s (cI_tg t b r g ho) (fun d hd => by simp [hd]) (Or.inr (Or.inl rfl))
        · rw [List.mem_singleton.mp g] at ho; omega
      · exact zTg_s (cI_tg u e r g ho) (fun d hd => by simp [hd]) (Or.inr (Or.inl rfl))
  | .branch 2 (.leaf (some (_, _, _, _, _, _))) (.branch _ t (.branch _ u v)), _, _, _, _, X, h, r, hr, ho => by
    obtain ⟨s, Y, i, Z, j, U, rfl, a, -, b, d, -, -, e, f, f2, k⟩ := h
    rcases List.mem_cons.mp hr with g | g
    · rw [g] at ho; omega
    · rcases List.mem_append.mp g with g | g
      · rcases List.mem_append.mp g with g | g
        · rcases List.mem_append.mp g with g | g
          · rcases List.mem_append.mp g with g | g
            · exact zTg_s (cI_tg t b r g ho) (fun d hd => by simp [hd]) (Or.inr (Or.inl rfl))
            · rw [List.mem_singleton.mp g] at ho; omega
          · exact zTg_s (cI_tg u e r g ho) (fun d hd => by simp [hd]) (Or.inr (Or.inl rfl))
        · rw [List.mem_singleton.mp g]
          refine ⟨_, f2, Or.inl ?_⟩
          rcases zla_mm (X := U) (d := j) with q | q
          · rw [q]; simp
          · simp [q]
      · exact zTg_s (cI_tg v k r g ho) (fun d hd => by simp [hd]) (Or.inr (Or.inl rfl))
  | .branch 0 (.leaf (some (2, _, _, _, _, _))) t, _, _, _, _, X, h, r, hr, ho => by
    obtain ⟨s, m, Y, rfl, a, -, b, -, -, d⟩ := h
    rcases List.mem_cons.mp hr with g | g
    · rw [g] at ho; omega
    · rcases List.mem_cons.mp g with g | g
      · rw [g] at ho; omega
      · refine zTg_s (cI_tg t d r g ho) (fun d hd => by simp [hd]) (Or.inr (Or.inr ?_))
        rcases zla_mm (X := Y) (d := m) with q | q
        · rw [q]; simp
        · simp [q]
  | .branch 0 (.leaf (some (_ + 3, _, _, _, _, _))) t, _, _, _, en, X, h, r, hr, ho => by
    obtain ⟨Y, v, rfl, -, -, -, -, -, -, a, b, d⟩ := h
    rcases List.mem_append.mp hr with g | g
    · exact zTg_s (cI_tg t d r g ho) (fun d hd => by simp [hd]) (Or.inr (Or.inl rfl))
    · rw [List.mem_singleton.mp g]
      exact ⟨_, b, Or.inr (Or.inl rfl)⟩
  | .leaf none, _, _, _, _, X, h, r, hr, _ => by
    obtain ⟨rfl, -⟩ := h
    exact nomatch hr
  | .branch (_ + 3) t u, _, _, _, _, X, h, r, hr, ho => by
    obtain ⟨Y, Z, rfl, a, b, -⟩ := h
    rcases List.mem_append.mp hr with g | g
    · exact zTg_s (cI_tg t a r g ho) (fun d hd => by simp [hd]) (Or.inl rfl)
    · exact zTg_s (cI_tg u b r g ho) (fun d hd => by simp [hd]) (Or.inl rfl)
  | .branch 0 (.leaf none) _, _, _, _, _, _, h, _, _, _ => h.elim
  | .branch 0 (.branch _ _ _) _, _, _, _, _, _, h, _, _, _ => h.elim
  | .branch 1 (.leaf none) _, _, _, _, _, _, h, _, _, _ => h.elim
  | .branch 1 (.branch _ _ _) _, _, _, _, _, _, h, _, _, _ => h.elim
  | .branch 1 (.leaf (some (0, _, _, _, _, _))) (.leaf _), _, _, _, _, _, h, _, _, _ => h.elim
  | .branch 1 (.leaf (some (_ + 1, _, _, _, _, _))) (.leaf _), _, _, _, _, _, h, _, _, _ => h.elim
  | .branch 2 (.leaf none) _, _, _, _, _, _, h, _, _, _ => h.elim
  | .branch 2 (.branch _ _ _) _, _, _, _, _, _, h, _, _, _ => h.elim
  | .branch 2 (.leaf (some (_, _, _, _, _, _))) (.leaf _), _, _, _, _, _, h, _, _, _ => h.elim
  | .branch 2 (.leaf (some (_, _, _, _, _, _))) (.branch _ _ (.leaf _)), _, _, _, _, _, h, _, _, _ => h.elim
theorem cCh_tg {S : Nat → Nat → Int32} {H : Int32 → Int64 → Prop} {az : Int} {en : Nat → Int32} {Tr : Nat → Tm} : ∀ (n : Nat) {L : List Nat}, cCh S H az en Tr n L → (∀ r ∈ L, (S 0 r).toInt = 14 ∨ (S 0 r).toInt = 16 → zTg S L 0 r) ∧ ∀ f, f < n → Int32.toNatClampNeg (en f) ∈ L
  | 0, L, h => by
    have h : L = [] := h
    subst h
    exact ⟨fun _ g => (nomatch g), fun f hf => absurd hf (Nat.not_lt_zero _)⟩
  | n + 1, L, ⟨A, X, q, e, h1, h2, h3, h4, h5⟩ => by
    subst e
    obtain ⟨i1, i2⟩ := cCh_tg n h1
    refine ⟨fun r hr ho => ?_, fun f hf => ?_⟩
    · rcases List.mem_append.mp hr with g | g
      · exact zTg_s (i1 r g ho) (fun d hd => by simp [hd]) (Or.inl rfl)
      · rcases List.mem_cons.mp g with g | g
        · rw [g] at ho; omega
        · rcases List.mem_append.mp g with g | g
          · exact zTg_s (cI_tg (Tr n) h2 r g ho) (fun d hd => by simp [hd]) (Or.inl rfl)
          · rw [List.mem_singleton.mp g] at ho; omega
    · by_cases g : f = n
      · rw [g]; simp
      · exact List.mem_append.mpr (Or.inl (i2 f (by omega)))
theorem zli_cl {nx : Nat → Int32} : ∀ {L : List Nat} {x : Int32}, zli nx x L → ∀ r ∈ L, (nx r).toInt = -1 ∨ ∃ q : Nat, (nx r).toInt = (q : Int) ∧ q ∈ L
  | [], _, _, _, g => nomatch g
  | y :: l, x, h, r, hr => by
    rcases List.mem_cons.mp hr with g | g
    · subst g
      cases l with
      | nil => exact Or.inl h.2
      | cons q l => exact Or.inr ⟨q, h.2.1, by simp⟩
    · rcases zli_cl (L := l) h.2 r g with k | ⟨q, k1, k2⟩
      · exact Or.inl k
      · exact Or.inr ⟨q, k1, List.mem_cons_of_mem _ k2⟩
/-- the chain of a program that was taken -/
theorem mM_of {S : Nat → Nat → Int32} {nx : Nat → Int32} {H : Int32 → Int64 → Prop} {cz az : Int} {ct : Int32} {en : Nat → Int32} {n : Nat} {Tr : Nat → Tm} {L : List Nat} (h : cCl S nx H cz az ct en n Tr) (hl : zli nx 0 L) (hne : L ≠ []) (hn : 0 < n) : mM S nx (fun r => r ∈ L) ∧ ∀ f, f < n → Int32.toNatClampNeg (en f) ∈ L := by
  obtain ⟨L2, c1, c2, c3, c4⟩ := h
  have h0 : (0 : Nat) ∈ L := by
    cases L with
    | nil => exact absurd rfl hne
    | cons y l =>
      have := hl.1
      rw [show (0 : Int32).toInt = 0 from rfl] at this
      rw [show y = 0 from by omega]; exact List.mem_cons_self
  rcases c4 with ⟨c4, c5, d⟩ | ⟨-, -, d, -⟩
  · subst d
    cases n with
    | zero => exact absurd hn (Nat.lt_irrefl 0)
    | succ n =>
      obtain ⟨A, X, q, e, -⟩ := c1
      exact absurd e.symm (by simp)
  · have e := zli_uq2 d hl
    subst e
    obtain ⟨t1, t2⟩ := cCh_tg n c1
    refine ⟨⟨zli_cl hl, fun r hr ho => ?_⟩, t2⟩
    obtain ⟨d, e, g⟩ := t1 r hr ho
    refine ⟨d, e, ?_⟩
    rcases g with g | g | g
    · exact g
    · rw [g]; exact h0
    · rw [g]; exact h0

end
section
/-! the class's stack, calls, shells and cells, as the counted machine has them -/
/-- references that the names of p hold -/
def zNb (p : Nat → Bool) (e : Nat → Int64) (x : Nat) : Int := zs 24 (fun i => if p i = true then zr (e i) x else 0)
theorem zNb_0 {p : Nat → Bool} {e : Nat → Int64} {x : Nat} : 0 ≤ zNb p e x := zs_0 (fun d _ => by show (0 : Int) ≤ if p d = true then zr (e d) x else 0; split; exact zr_0 _ _; exact Int.le_refl _)
theorem zNb_e {p q : Nat → Bool} {e f : Nat → Int64} {x : Nat} (h : ∀ i, i < 24 → p i = q i) (h2 : ∀ i, i < 24 → q i = true → e i = f i) : zNb p e x = zNb q f x := zs_ext (fun d hd => by
  show (if p d = true then zr (e d) x else 0) = (if q d = true then zr (f d) x else 0)
  rw [h d hd]
  by_cases g : q d = true
  · rw [if_pos g, if_pos g, h2 d hd g]
  · rw [if_neg g, if_neg g])
theorem zNb_z {p : Nat → Bool} {e : Nat → Int64} {x : Nat} (h : ∀ i, i < 24 → p i = false) : zNb p e x = 0 := zs_z (fun d hd => if_neg (by rw [h d hd]; decide))
theorem zNb_a {p q r : Nat → Bool} {e : Nat → Int64} {x : Nat} (h : ∀ i, i < 24 → p i = (q i || r i)) (h2 : ∀ i, i < 24 → q i = true → r i = false) : zNb p e x = zNb q e x + zNb r e x := by
  unfold zNb
  rw [← zs_add]
  exact zs_ext (fun d hd => by
    show (if p d = true then zr (e d) x else 0) = (if q d = true then zr (e d) x else 0) + (if r d = true then zr (e d) x else 0)
    rw [h d hd]
    by_cases g : q d = true
    · rw [h2 d hd g, g]; show zr (e d) x = zr (e d) x + 0; omega
    · rw [zbf7 g]; show (if r d = true then zr (e d) x else 0) = 0 + (if r d = true then zr (e d) x else 0); omega)
theorem zNb_1 {s : Nat} {e : Nat → Int64} {x : Nat} (hs : s < 24) : zNb (fun i => i == s) e x = zr (e s) x := by
  have h := zs_up (n := 24) (f := fun _ => (0 : Int)) (g := fun i => if (i == s) = true then zr (e i) x else 0) (x := s) (fun d _ hd => if_neg (by rw [beq_eq_false_iff_ne.mpr hd]; decide)) hs
  show zs 24 (fun i => if (i == s) = true then zr (e i) x else 0) = _
  rw [h, zs_z (fun _ _ => rfl)]
  show 0 - 0 + (if (s == s) = true then zr (e s) x else 0) = _
  rw [beq_self_eq_true, if_pos rfl]; omega
theorem mRn_c {e : Nat → Int64} {E : List (Nat → Int64)} {K : List (Nat × Tm)} {x : Nat} : mRn (e :: E) K x = zNb (nF K) e x + mRn E (aF K) x := rfl
/-- marks of arms that kept none are left out -/
def gst (K : List (Nat × Tm)) : List (Nat × Tm) := K.filter (fun u => decide (u.1 ≠ 4))
theorem gst_a {A B : List (Nat × Tm)} : gst (A ++ B) = gst A ++ gst B := List.filter_append ..
theorem gst_c {j : Nat} {t : Tm} {K : List (Nat × Tm)} (h : j ≠ 4) : gst ((j, t) :: K) = (j, t) :: gst K := List.filter_cons_of_pos (decide_eq_true h)
theorem gst_4 {t : Tm} {K : List (Nat × Tm)} : gst ((4, t) :: K) = gst K := List.filter_cons_of_neg (by simp)
theorem gst_i : ∀ {A : List (Nat × Tm)}, (∀ u ∈ A, u.1 ≠ 4) → gst A = A
  | [], _ => rfl
  | (j, t) :: K, h => by rw [gst_c (h (j, t) List.mem_cons_self), gst_i (fun u hu => h u (List.mem_cons_of_mem _ hu))]
def mk4 (K : List (Nat × Tm)) : Prop := ∀ u ∈ K, u.1 = 4 → u.2 = Tm.nil
theorem nF_st {i : Nat} : ∀ {K : List (Nat × Tm)}, mk4 K → nF (gst K) i = nF K i
  | [], _ => rfl
  | (j, t) :: K, h => by
    have ih := nF_st (i := i) (K := K) (fun u hu => h u (List.mem_cons_of_mem _ hu))
    by_cases g : j = 4
    · subst g
      have e : t = Tm.nil := h (4, t) List.mem_cons_self rfl
      subst e
      rw [gst_4, ih, nF_m4]
    · rw [gst_c g]
      show (if j = 2 then false else if j = 3 then nF (gst K) i else pm_nd j t i || nF (gst K) i) = (if j = 2 then false else if j = 3 then nF K i else pm_nd j t i || nF K i)
      rw [ih]
theorem aF_st : ∀ {K : List (Nat × Tm)}, aF (gst K) = gst (aF K)
  | [] => rfl
  | (j, t) :: K => by
    by_cases g : j = 4
    · subst g
      rw [gst_4, aF_st]
      rfl
    · rw [gst_c g]
      show (if j = 2 then gst K else aF (gst K)) = gst (if j = 2 then K else aF K)
      by_cases q : j = 2
      · rw [if_pos q, if_pos q]
      · rw [if_neg q, if_neg q, aF_st]
theorem aF_mk : ∀ {K : List (Nat × Tm)}, mk4 K → mk4 (aF K)
  | [], h => h
  | (j, t) :: K, h => by
    have h2 : mk4 K := fun u hu => h u (List.mem_cons_of_mem _ hu)
    show mk4 (if j = 2 then K else aF K)
    by_cases q : j = 2
    · rw [if_pos q]; exact h2
    · rw [if_neg q]; exact aF_mk h2
theorem mRn_st {x : Nat} : ∀ {E : List (Nat → Int64)} {K : List (Nat × Tm)}, mk4 K → mRn E (gst K) x = mRn E K x
  | [], _, _ => rfl
  | e :: E, K, h => by
    rw [mRn_c, mRn_c, aF_st, mRn_st (aF_mk h), zNb_e (fun i _ => nF_st h) (fun _ _ _ => rfl)]
theorem nF_a2 {t : Tm} {B : List (Nat × Tm)} {i : Nat} : ∀ {A : List (Nat × Tm)}, (∀ u ∈ A, u.1 ≠ 2) → nF (A ++ (2, t) :: B) i = nF A i
  | [], _ => rfl
  | (j, y) :: K, h => by
    have ih := nF_a2 (t := t) (B := B) (i := i) (A := K) (fun u hu => h u (List.mem_cons_of_mem _ hu))
    show (if j = 2 then false else if j = 3 then nF (K ++ (2, t) :: B) i else pm_nd j y i || nF (K ++ (2, t) :: B) i) = (if j = 2 then false else if j = 3 then nF K i else pm_nd j y i || nF K i)
    rw [ih]
theorem aF_a2 {t : Tm} {B : List (Nat × Tm)} : ∀ {A : List (Nat × Tm)}, (∀ u ∈ A, u.1 ≠ 2) → aF (A ++ (2, t) :: B) = B
  | [], _ => rfl
  | (j, y) :: K, h => by
    show (if j = 2 then K ++ (2, t) :: B else aF (K ++ (2, t) :: B)) = B
    rw [if_neg (h (j, y) List.mem_cons_self), aF_a2 (fun u hu => h u (List.mem_cons_of_mem _ hu))]
theorem gSc_mk {z : Nat} {kf : Nat → Int32} : ∀ {G : List (Nat × Tm)}, gSc z kf G → mk4 G ∧ ∀ u ∈ G, u.1 ≠ 2
  | [], _ => ⟨fun _ g => (nomatch g), fun _ g => (nomatch g)⟩
  | (j, t) :: K, ⟨h1, _, h2⟩ => by
    have ih := gSc_mk h2
    refine ⟨fun u hu => ?_, fun u hu => ?_⟩
    · rcases List.mem_cons.mp hu with g | g
      · rw [g]; intro e
        have e : j = 4 := e
        rcases h1.1 with q | q | q | q
        · omega
        · omega
        · omega
        · exact q.2
      · exact ih.1 u g
    · rcases List.mem_cons.mp hu with g | g
      · rw [g]
        show j ≠ 2
        omega
      · exact ih.2 u g
/-- what is to do in a call -/
def gOk (z : Nat) (kf : Nat → Int32) (bd nm : Nat) (G : List (Nat × Tm)) (h : Nat) : Prop := (∀ u ∈ G, u.1 = 0 ∨ u.1 = 1 → cOk z kf bd nm u) ∧ gSc z kf G ∧ cHg G h ∧ bd ≤ nm
theorem nF_bd {z : Nat} {kf : Nat → Int32} {bd nm k : Nat} : ∀ {G : List (Nat × Tm)}, (∀ u ∈ G, u.1 = 0 ∨ u.1 = 1 → cOk z kf bd nm u) → gSc z kf G → nF G k = true → k < bd ∧ k < 24
  | [], _, _, h => nomatch (show false = true from h)
  | (j, t) :: K, ho, ⟨h1, h2, h3⟩, h => by
    have ih := nF_bd (k := k) (G := K) (fun u hu => ho u (List.mem_cons_of_mem _ hu)) h3
    have h : (if j = 2 then false else if j = 3 then nF K k else pm_nd j t k || nF K k) = true := h
    by_cases q : j = 0 ∨ j = 1
    · rw [if_neg (by omega), if_neg (by omega)] at h
      rcases (Bool.or_eq_true _ _).mp h with g | g
      · obtain ⟨-, ⟨c, c1, c2⟩, -⟩ := ho (j, t) List.mem_cons_self q
        obtain ⟨-, c3, c4, c5, -⟩ := h2 q
        have := nd_wf c1 g
        have := nd_wf c4 g
        omega
      · exact ih g
    · rcases h1.1 with g | g | g | ⟨g, g2⟩
      · omega
      · omega
      · rw [if_neg (by omega), if_pos g] at h; exact ih h
      · rw [if_neg (by omega), if_neg (by omega)] at h
        subst g2
        subst g
        exact ih h
/-- a call's names and values -/
def cTc (ph : Nat → Nat) (gs : Nat → Int64) (b nm : Nat) (G : List (Nat × Tm)) (Vs : List Int64) (e : Nat → Int64) (tp : Nat) : Prop := tp = b + nm + Vs.length ∧ (∀ j, j < Vs.length → vr ph (Vs.getD (Vs.length - 1 - j) 0) (gs (b + nm + j))) ∧ ∀ k, nF G k = true → vr ph (e k) (gs (b + k))
theorem cTc_cg {ph : Nat → Nat} {gs gs2 : Nat → Int64} {b nm tp : Nat} {G : List (Nat × Tm)} {Vs : List Int64} {e : Nat → Int64} (hg : ∀ j, j < tp → gs2 j = gs j) (hn : ∀ k, nF G k = true → k < nm) (h : cTc ph gs b nm G Vs e tp) : cTc ph gs2 b nm G Vs e tp := by
  obtain ⟨h1, h2, h3⟩ := h
  exact ⟨h1, fun j hj => by rw [hg _ (by omega)]; exact h2 j hj, fun k hk => by rw [hg _ (by have := hn k hk; omega)]; exact h3 k hk⟩
theorem cTc_pu {ph : Nat → Nat} {gs gs2 : Nat → Int64} {b nm tp : Nat} {G G2 : List (Nat × Tm)} {Vs : List Int64} {e : Nat → Int64} {v u : Int64} (h : cTc ph gs b nm G Vs e tp) (hv : vr ph v u) (hn : ∀ k, nF G2 k = true → k < nm ∧ nF G k = true) (hg : gs2 = vp_updL gs tp u) : cTc ph gs2 b nm G2 (v :: Vs) e (tp + 1) := by
  obtain ⟨h1, h2, h3⟩ := h
  subst hg
  refine ⟨by rw [List.length_cons]; omega, fun j hj => ?_, fun k hk => by rw [cul_n (by have := (hn k hk).1; omega)]; exact h3 k (hn k hk).2⟩
  rw [List.length_cons] at hj ⊢
  by_cases g : j = Vs.length
  · rw [show b + nm + j = tp from by omega, cul_s, show Vs.length + 1 - 1 - j = 0 from by omega]; exact hv
  · rw [cul_n (by omega), show Vs.length + 1 - 1 - j = (Vs.length - 1 - j) + 1 from by omega]; exact h2 j (by omega)
theorem cTc_dr {ph : Nat → Nat} {gs : Nat → Int64} {b nm tp q : Nat} {G G2 : List (Nat × Tm)} {Vs : List Int64} {e : Nat → Int64} (h : cTc ph gs b nm G Vs e tp) (hq : q ≤ Vs.length) (hn : ∀ k, nF G2 k = true → nF G k = true) : cTc ph gs b nm G2 (Vs.drop q) e (tp - q) ∧ (∀ i, i < q → vr ph (Vs.getD (q - 1 - i) 0) (gs (tp - q + i))) ∧ b + nm ≤ tp - q := by
  obtain ⟨h1, h2, h3⟩ := h
  refine ⟨⟨by rw [List.length_drop]; omega, fun j hj => ?_, fun k hk => h3 k (hn k hk)⟩, fun i hi => ?_, by omega⟩
  · rw [List.length_drop] at hj ⊢
    rw [List.getD_eq_getElem?_getD, List.getElem?_drop, show q + (Vs.length - q - 1 - j) = Vs.length - 1 - j from by omega, ← List.getD_eq_getElem?_getD]
    exact h2 j (by omega)
  · have := h2 (Vs.length - q + i) (by omega)
    rw [show Vs.length - 1 - (Vs.length - q + i) = q - 1 - i from by omega] at this
    rw [show tp - q + i = b + nm + (Vs.length - q + i) from by omega]; exact this
/-- the calls that wait -/
def cFc (S : Nat → Nat → Int32) (nx : Nat → Int32) (H : Int32 → Int64 → Prop) (az : Int) (z : Nat) (kf : Nat → Int32) (M : Nat → Prop) (ph : Nat → Nat) (gs : Nat → Int64) (kb kk : Nat → Int32) : List cFm → Nat → Int32 → Nat → Prop
  | [], _, _, m => m = 0
  | (b, nm, G, Vs, e, bd) :: fs, tp, x, m => cTc ph gs b nm G Vs e tp ∧ (kb fs.length).toInt = (b : Int) ∧ gOk z kf bd nm G (Vs.length + 1) ∧ mQ S nx M x ∧ ∃ m1 m2 : Nat, cKg S nx H az G x m1 ∧ cFc S nx H az z kf M ph gs kb kk fs b (kk fs.length) m2 ∧ m = m1 + m2
theorem cFc_cg {S : Nat → Nat → Int32} {nx : Nat → Int32} {H : Int32 → Int64 → Prop} {az : Int} {z : Nat} {kf : Nat → Int32} {M : Nat → Prop} {ph : Nat → Nat} {gs gs2 : Nat → Int64} {kb kk kb2 kk2 : Nat → Int32} : ∀ {fs : List cFm} {tp : Nat} {x : Int32} {m : Nat}, (∀ j, j < tp → gs2 j = gs j) → (∀ i, i < fs.length → kb2 i = kb i ∧ kk2 i = kk i) → cFc S nx H az z kf M ph gs kb kk fs tp x m → cFc S nx H az z kf M ph gs2 kb2 kk2 fs tp x m
  | [], _, _, _, _, _, h => h
  | (b, nm, G, Vs, e, bd) :: fs, tp, x, m, hg, hk, ⟨h1, h2, h3, h4, m1, m2, h5, h6, h7⟩ => by
    have hl : fs.length < ((b, nm, G, Vs, e, bd) :: fs).length := by rw [List.length_cons]; omega
    have hb : b ≤ tp := by have := h1.1; omega
    exact ⟨cTc_cg hg (fun k hk => by have := (nF_bd h3.1 h3.2.1 hk).1; have := h3.2.2.2; omega) h1, by rw [(hk _ hl).1]; exact h2, h3, h4, m1, m2, h5, by rw [(hk _ hl).2]; exact cFc_cg (fun j hj => hg j (by omega)) (fun i hi => hk i (by omega)) h6, h7⟩
/-- the row of shells: an entry for each arm that is open; S, the latest first, those not taken -/
def cShr (ph : Nat → Nat) (sh ks : Nat → Int32) : List (Nat × Tm) → Nat → List (Nat × Nat × Nat) → Nat → Prop
  | [], o, S, n => o = 0 ∧ S = [] ∧ n = 0
  | (j, t) :: K, o, S, n => (j = 2 ∧ ∃ o', o = o' + 1 ∧ (ks o').toInt = (n : Int) ∧ cShr ph sh ks K o' S n) ∨ (j = 3 ∧ ∃ n', n = n' + 1 ∧ ((∃ (w : Nat) (S' : List (Nat × Nat × Nat)), S = (o, tm_id t, w) :: S' ∧ (sh n').toInt = (ph (tm_id t) : Int) ∧ cShr ph sh ks K o S' n') ∨ ((sh n').toInt = -1 ∧ tm_id t ∉ sIs S ∧ cShr ph sh ks K o S n'))) ∨ (j = 4 ∧ ∃ n', n = n' + 1 ∧ (sh n').toInt = -1 ∧ cShr ph sh ks K o S n') ∨ (j ≠ 2 ∧ j ≠ 3 ∧ j ≠ 4 ∧ cShr ph sh ks K o S n)
theorem cShr_cg {ph ph2 : Nat → Nat} {sh sh2 ks ks2 : Nat → Int32} : ∀ {K : List (Nat × Tm)} {o : Nat} {S : List (Nat × Nat × Nat)} {n : Nat}, (∀ a ∈ S, ph2 a.2.1 = ph a.2.1) → (∀ i, i < n → sh2 i = sh i) → (∀ i, i < o → ks2 i = ks i) → cShr ph sh ks K o S n → cShr ph2 sh2 ks2 K o S n
  | [], _, _, _, _, _, _, h => h
  | (j, t) :: K, o, S, n, h1, h2, h3, h => by
    rcases h with ⟨a, o', e, b, h⟩ | ⟨a, n', e, h⟩ | ⟨a, n', e, b, h⟩ | ⟨a, b, d, h⟩
    · exact Or.inl ⟨a, o', e, by rw [h3 _ (by omega)]; exact b, cShr_cg h1 h2 (fun i hi => h3 i (by omega)) h⟩
    · refine Or.inr (Or.inl ⟨a, n', e, ?_⟩)
      rcases h with ⟨w, S', q, b, h⟩ | ⟨b, d, h⟩
      · subst q
        exact Or.inl ⟨w, S', rfl, by rw [h2 _ (by omega), h1 _ List.mem_cons_self]; exact b, cShr_cg (fun a ha => h1 a (List.mem_cons_of_mem _ ha)) (fun i hi => h2 i (by omega)) h3 h⟩
      · exact Or.inr ⟨by rw [h2 _ (by omega)]; exact b, d, cShr_cg h1 (fun i hi => h2 i (by omega)) h3 h⟩
    · exact Or.inr (Or.inr (Or.inl ⟨a, n', e, by rw [h2 _ (by omega)]; exact b, cShr_cg h1 (fun i hi => h2 i (by omega)) h3 h⟩))
    · exact Or.inr (Or.inr (Or.inr ⟨a, b, d, cShr_cg h1 h2 h3 h⟩))
theorem cShr_p {ph : Nat → Nat} {sh ks : Nat → Int32} {o n : Nat} {S : List (Nat × Nat × Nat)} {K : List (Nat × Tm)} : ∀ {A : List (Nat × Tm)}, (∀ u ∈ A, u.1 = 0 ∨ u.1 = 1) → (cShr ph sh ks (A ++ K) o S n ↔ cShr ph sh ks K o S n)
  | [], _ => Iff.rfl
  | (j, t) :: A, h => by
    have ih := cShr_p (ph := ph) (sh := sh) (ks := ks) (o := o) (n := n) (S := S) (K := K) (A := A) (fun u hu => h u (List.mem_cons_of_mem _ hu))
    have hj : j = 0 ∨ j = 1 := h (j, t) List.mem_cons_self
    refine ⟨fun g => ?_, fun g => Or.inr (Or.inr (Or.inr ⟨by omega, by omega, by omega, ih.mpr g⟩))⟩
    rcases g with g | g | g | g
    · have := g.1; omega
    · have := g.1; omega
    · have := g.1; omega
    · exact ih.mp g.2.2.2
theorem cShr_le {ph : Nat → Nat} {sh ks : Nat → Int32} : ∀ {K : List (Nat × Tm)} {o : Nat} {S : List (Nat × Nat × Nat)} {n : Nat}, cShr ph sh ks K o S n → ∀ a ∈ S, a.1 ≤ o
  | [], o, S, n, h, a, ha => by rw [h.2.1] at ha; cases ha
  | (j, t) :: K, o, S, n, h, a, ha => by
    rcases h with ⟨-, o', e, b, h⟩ | ⟨-, n', e, h⟩ | ⟨-, n', e, b, h⟩ | ⟨-, -, -, h⟩
    · have := cShr_le h a ha; omega
    · rcases h with ⟨w, S', q, b, h⟩ | ⟨b, d, h⟩
      · rw [q] at ha
        rcases List.mem_cons.mp ha with g | g
        · rw [g]; exact Nat.le_refl _
        · exact cShr_le h a g
      · exact cShr_le h a ha
    · exact cShr_le h a ha
    · exact cShr_le h a ha
/-- the heap -/
def cHp (kz : Int32) (kf : Nat → Int32) (z : Nat) (ph : Nat → Nat) (lv : Nat → Bool) (gA : Nat → Int) (c : Nat) (ck : Nat → Int32) (cf : Nat → Int64) (R : Nat → Int) (Sh : List (Nat × Nat × Nat)) (gk gc : Nat → Int32) (gv : Nat → Int64) (FL : List Nat) (fresh held : Int) : Prop := hZ ph lv gA c (cWd kf ck) ck cf R (sIs Sh) gk gc gv ∧ hKf ph lv c (sIs Sh) FL fresh held ∧ (∀ a ∈ Sh, zfk kz kf (gk (ph a.2.1)) = (a.2.2 : Int)) ∧ ∀ x, x < c → ∃ k : Nat, (ck x).toInt = (k : Int) ∧ k < z ∧ 1 ≤ (kf k).toInt
/-- all that the machine holds, pn: names that are still to be dropped -/
def cSO (S : Nat → Nat → Int32) (nx : Nat → Int32) (H : Int32 → Int64 → Prop) (az : Int) (z : Nat) (kz : Int32) (kf : Nat → Int32) (M : Nat → Prop) (F : sp_F) (lim : Int) (al : Nat) (s0 : cm_S) (gs : Nat → Int64) (kb kk sh ks gk gc : Nat → Int32) (gv : Nat → Int64) (fresh held : Int) (x : Int32) (i : Int) (b nm : Nat) (G : List (Nat × Tm)) (Vs : List Int64) (e : Nat → Int64) (bd : Nat) (fs : List cFm) (m1 m2 tn sn hn c : Nat) (ck : Nat → Int32) (cf : Nat → Int64) (Sh : List (Nat × Nat × Nat)) (md ru : Nat) (mo : Int) (db om : Nat) (ph : Nat → Nat) (lv : Nat → Bool) (gA : Nat → Int) (FL : List Nat) (pn : Nat → Bool) : Prop :=
  (cTc ph gs b nm G Vs e tn ∧ (kb fs.length).toInt = (b : Int) ∧ gOk z kf bd nm G Vs.length ∧ mQ S nx M x ∧ cKg S nx H az G x m1 ∧ cFc S nx H az z kf M ph gs kb kk fs b (kk fs.length) m2 ∧ i + m1 + m2 ≤ 4 * (sn : Int) + 2) ∧
  cShr ph sh ks (G ++ (2, Tm.nil) :: cTs fs) (fs.length + 1) Sh hn ∧
  cHp kz kf z ph lv gA c ck cf (fun y => mRt (G ++ (2, Tm.nil) :: cTs fs) (Vs ++ cVs fs) (e :: cEs fs) y + zNb pn e y) Sh gk gc gv FL fresh held ∧
  (∀ k, pn k = true → vr ph (e k) (gs (b + k))) ∧
  cm_re F kf lim al s0 ((gst (G ++ (2, Tm.nil) :: cTs fs), Vs ++ cVs fs, e :: cEs fs, sn, c, ck, cf), (Sh, md, ru, mo, db, om))

end
