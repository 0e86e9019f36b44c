section
theorem dX1_fill_0 : decode cX1_fill 0 = .ok (.aload_n 0, 1) := by decide +kernel
theorem dX1_fill_1 : decode cX1_fill 1 = .ok (.getfield 45, 3) := by decide +kernel
theorem dX1_fill_4 : decode cX1_fill 4 = .ok (.iload_n 1, 1) := by decide +kernel
theorem dX1_fill_5 : decode cX1_fill 5 = .ok (.iload_n 2, 1) := by decide +kernel
theorem dX1_fill_6 : decode cX1_fill 6 = .ok (.iastore, 1) := by decide +kernel
theorem dX1_fill_7 : decode cX1_fill 7 = .ok (.aload_n 0, 1) := by decide +kernel
theorem dX1_fill_8 : decode cX1_fill 8 = .ok (.getfield 49, 3) := by decide +kernel
theorem dX1_fill_11 : decode cX1_fill 11 = .ok (.iload_n 1, 1) := by decide +kernel
theorem dX1_fill_12 : decode cX1_fill 12 = .ok (.iconst 1, 1) := by decide +kernel
theorem dX1_fill_13 : decode cX1_fill 13 = .ok (.iastore, 1) := by decide +kernel
theorem dX1_fill_14 : decode cX1_fill 14 = .ok (.iconst 0, 1) := by decide +kernel
theorem dX1_fill_15 : decode cX1_fill 15 = .ok (.istore 5, 2) := by decide +kernel
theorem dX1_fill_17 : decode cX1_fill 17 = .ok (.iload 5, 2) := by decide +kernel
theorem dX1_fill_19 : decode cX1_fill 19 = .ok (.aload_n 0, 1) := by decide +kernel
theorem dX1_fill_20 : decode cX1_fill 20 = .ok (.iload_n 1, 1) := by decide +kernel
theorem dX1_fill_21 : decode cX1_fill 21 = .ok (.invokevirtual 85, 3) := by decide +kernel
theorem dX1_fill_24 : decode cX1_fill 24 = .ok (.if_icmp .ge 27, 3) := by decide +kernel
theorem dX1_fill_27 : decode cX1_fill 27 = .ok (.aload_n 0, 1) := by decide +kernel
theorem dX1_fill_28 : decode cX1_fill 28 = .ok (.getfield 52, 3) := by decide +kernel
theorem dX1_fill_31 : decode cX1_fill 31 = .ok (.iload_n 1, 1) := by decide +kernel
theorem dX1_fill_32 : decode cX1_fill 32 = .ok (.iconst 3, 1) := by decide +kernel
theorem dX1_fill_33 : decode cX1_fill 33 = .ok (.imul, 1) := by decide +kernel
theorem dX1_fill_34 : decode cX1_fill 34 = .ok (.iload 5, 2) := by decide +kernel
theorem dX1_fill_36 : decode cX1_fill 36 = .ok (.iadd, 1) := by decide +kernel
theorem dX1_fill_37 : decode cX1_fill 37 = .ok (.aload_n 3, 1) := by decide +kernel
theorem dX1_fill_38 : decode cX1_fill 38 = .ok (.iload 4, 2) := by decide +kernel
theorem dX1_fill_40 : decode cX1_fill 40 = .ok (.iload 5, 2) := by decide +kernel
theorem dX1_fill_42 : decode cX1_fill 42 = .ok (.iadd, 1) := by decide +kernel
theorem dX1_fill_43 : decode cX1_fill 43 = .ok (.laload, 1) := by decide +kernel
theorem dX1_fill_44 : decode cX1_fill 44 = .ok (.lastore, 1) := by decide +kernel
theorem dX1_fill_45 : decode cX1_fill 45 = .ok (.iinc 5 1, 3) := by decide +kernel
theorem dX1_fill_48 : decode cX1_fill 48 = .ok (.goto (-31), 3) := by decide +kernel
theorem dX1_fill_51 : decode cX1_fill 51 = .ok (.return_, 1) := by decide +kernel
set_option maxHeartbeats 4000000 in
set_option maxRecDepth 100000 in
theorem c_X1_fill_x400 (l : Launch) (dC : Nat → ClassId) (dI : Nat → Nat → Nat) (aK aV : Nat → Nat) (h0 : Nat) (ek : Nat) (ec : Nat) (ef : Nat) (cki : Nat) (e1 : ClassId) (e2 : ClassId) (e3 : ClassId) (e_limit : Int32) (e_fresh : Int32) (e_firstFree : Int32) (e_held : Int32) (e_mostHeld : Int32) (e_made : Int32) (e_reused : Int32) (e_freed : Int32) (e_doubled : Int32) (gk : Nat → Int32) (gc : Nat → Int32) (gv : Nat → Int64) (kw : Nat) (kf : Nat) (k1 : ClassId) (k2 : ClassId) (z : Int32) (gw : Nat → Int64) (gf : Nat → Int32) (ce : Int32) (ok : Int32) (sk : Nat) (sk1 : ClassId) (gst : Nat → Int64) (fi : Int32) (sz : Nat) (hz0 : 0 ≤ z.toInt) (hz1 : z.toInt ≤ 20) (hgf : zx 4 gf) (hc0 : 0 ≤ ce.toInt) (hc1 : ce.toInt < 400) (hf0 : 0 ≤ fi.toInt) (hf1 : fi.toInt + zfk z gf ok ≤ 22424) : Met l yX1_fill (Cond.code yX1_fill cX1_fill 6 none :: zw) ({ frames := 12, cells := 0, slots := 0, locals := 400 }) (va_Pc [.ref h0, .int ce, .int ok, .ref sk, .int fi] (zP dC dI aK aV sz [(e1, .int), (e2, .int), (e3, .long), (k1, .long), (k2, .int), (sk1, .long)] [(h0, .inr (1, [.ref ek, .ref ec, .ref ef, .ref cki, .int e_limit, .int e_fresh, .int e_firstFree, .int e_held, .int e_mostHeld, .int e_made, .int e_reused, .int e_freed, .int e_doubled])), (ek, .inl (e1, 400, .inl gk)), (ec, .inl (e2, 400, .inl gc)), (ef, .inl (e3, 1200, .inr (.inl gv))), (cki, .inr (4, [.ref kw, .ref kf, .int z])), (kw, .inl (k1, 20, .inr (.inl gw))), (kf, .inl (k2, 20, .inl gf)), (sk, .inl (sk1, 22424, .inr (.inl gst)))])) (va_Qv (fun u : (Nat → Int32) × (Nat → Int32) × (Nat → Int64) => match u with | (gk2, gc2, gv2) => (gk2 = upd gk (Int32.toNatClampNeg ce) ok) ∧ (gc2 = upd gc (Int32.toNatClampNeg ce) 1) ∧ (zfw gv gv2 (Int32.toNatClampNeg ce) gst (Int32.toNatClampNeg fi) (zfk z gf ok).toNat)) (fun u => match u with | (gk2, gc2, gv2) => zQ dC dI (va_A [(h0, .inr (1, [.ref ek, .ref ec, .ref ef, .ref cki, .int e_limit, .int e_fresh, .int e_firstFree, .int e_held, .int e_mostHeld, .int e_made, .int e_reused, .int e_freed, .int e_doubled])), (ek, .inl (e1, 400, .inl gk)), (ec, .inl (e2, 400, .inl gc)), (ef, .inl (e3, 1200, .inr (.inl gv))), (cki, .inr (4, [.ref kw, .ref kf, .int z])), (kw, .inl (k1, 20, .inr (.inl gw))), (kf, .inl (k2, 20, .inl gf)), (sk, .inl (sk1, 22424, .inr (.inl gst)))] sz) [(e1, .int), (e2, .int), (e3, .long), (k1, .long), (k2, .int), (sk1, .long)] [(h0, .inr (1, [.ref ek, .ref ec, .ref ef, .ref cki, .int e_limit, .int e_fresh, .int e_firstFree, .int e_held, .int e_mostHeld, .int e_made, .int e_reused, .int e_freed, .int e_doubled])), (ek, .inl (e1, 400, .inl gk2)), (ec, .inl (e2, 400, .inl gc2)), (ef, .inl (e3, 1200, .inr (.inl gv2))), (cki, .inr (4, [.ref kw, .ref kf, .int z])), (kw, .inl (k1, 20, .inr (.inl gw))), (kf, .inl (k2, 20, .inl gf)), (sk, .inl (sk1, 22424, .inr (.inl gst)))]) (va_A [(h0, .inr (1, [.ref ek, .ref ec, .ref ef, .ref cki, .int e_limit, .int e_fresh, .int e_firstFree, .int e_held, .int e_mostHeld, .int e_made, .int e_reused, .int e_freed, .int e_doubled])), (ek, .inl (e1, 400, .inl gk)), (ec, .inl (e2, 400, .inl gc)), (ef, .inl (e3, 1200, .inr (.inl gv))), (cki, .inr (4, [.ref kw, .ref kf, .int z])), (kw, .inl (k1, 20, .inr (.inl gw))), (kf, .inl (k2, 20, .inl gf)), (sk, .inl (sk1, 22424, .inr (.inl gst)))] sz)) 0 0 (va_A [(h0, .inr (1, [.ref ek, .ref ec, .ref ef, .ref cki, .int e_limit, .int e_fresh, .int e_firstFree, .int e_held, .int e_mostHeld, .int e_made, .int e_reused, .int e_freed, .int e_doubled])), (ek, .inl (e1, 400, .inl gk)), (ec, .inl (e2, 400, .inl gc)), (ef, .inl (e3, 1200, .inr (.inl gv))), (cki, .inr (4, [.ref kw, .ref kf, .int z])), (kw, .inl (k1, 20, .inr (.inl gw))), (kf, .inl (k2, 20, .inl gf)), (sk, .inl (sk1, 22424, .inr (.inl gst)))] sz) := by
  refine Met.ofW (cc := cX1_fill) (maxL := 6) (ret := none) (by decide) rfl ?_
  intro p e s m args below meth c s₁ B hml hv
  obtain ⟨rfl, hsz, hP, hK, hD0, hN, hT⟩ := hv
  have hx := B.exec
  have hb := B.bytes
  have hr := B.returns
  have hts := atoms_spec (ws := Cond.code yX1_fill cX1_fill 6 none :: zw) B.pre
  have hA : ∀ w ∈ zw, w.before _ s = true := fun w h => hts w (List.mem_cons_of_mem _ h)
  have hown : s.vm.findClass RX1 = some m.cls := findClass_of_methodNamed B.named
  have hlocks := B.notSynchronized
  subst hsz
  have hD := hD0.self (sz := s.heap.size)
  generalize hAe : va_A [(h0, .inr (1, [.ref ek, .ref ec, .ref ef, .ref cki, .int e_limit, .int e_fresh, .int e_firstFree, .int e_held, .int e_mostHeld, .int e_made, .int e_reused, .int e_freed, .int e_doubled])), (ek, .inl (e1, 400, .inl gk)), (ec, .inl (e2, 400, .inl gc)), (ef, .inl (e3, 1200, .inr (.inl gv))), (cki, .inr (4, [.ref kw, .ref kf, .int z])), (kw, .inl (k1, 20, .inr (.inl gw))), (kf, .inl (k2, 20, .inl gf)), (sk, .inl (sk1, 22424, .inr (.inl gst)))] s.heap.size = A at hD hT ⊢
  have hAA : ∀ q : Nat, s.heap.size ≤ q → A q := fun q h => by rw [← hAe]; exact Or.inr h
  have hS : va_S A s.heap s.heap [] := va_S.rf
  have hl := lv_entry ([.ref h0, .int ce, .int ok, .ref sk, .int fi]) (n := 6) (Nat.le_of_ble_eq_true rfl)
  rw [lg_entry_eq]
  generalize (lg_sl ([.ref h0, .int ce, .int ok, .ref sk, .int fi]) ++ List.replicate (6 - (lg_sl ([.ref h0, .int ce, .int ok, .ref sk, .int fi])).length) Slot.unset).toArray = ls at hl ⊢
  have hl : lv_has ls 6 [(0, .ref h0), (1, .int ce), (2, .int ok), (3, .ref sk), (4, .int fi)] := hl
  refine lv_aload_n hx hb dX1_fill_0 rfl (lv_at hl 0 rfl) ?_
  refine va_get (D := (dC, dI)) (ci := 1) (v := .ref ek) (C := RX1) (T := TX1) (N := 13) hx hb hA zin_X1 hown hK hP 0 rfl rfl 0 (by decide) (hA _ wi_435) (fun _ h9 => h9) rfl dX1_fill_1 ?_
  refine lv_iload_n hx hb dX1_fill_4 rfl (lv_at hl 1 rfl) ?_
  refine lv_iload_n hx hb dX1_fill_5 rfl (lv_at hl 2 rfl) ?_
  refine va_iast hx hb hK hP hD hS 1 0 rfl rfl (vp_in_iff.mpr ⟨by omega, by omega⟩) dX1_fill_6 (fun H locs hP hD hS => ?_)
  obtain ⟨f_1, ef_1⟩ : ∃ gz9 : Nat → Int32, gz9 = upd gk (Int32.toNatClampNeg ce) ok := ⟨_, rfl⟩
  rw [← ef_1] at hP hD
  have hP : va_P (dC, dI) vwCl [(h0, .inr (1, [.ref ek, .ref ec, .ref ef, .ref cki, .int e_limit, .int e_fresh, .int e_firstFree, .int e_held, .int e_mostHeld, .int e_made, .int e_reused, .int e_freed, .int e_doubled])), (ek, .inl (e1, 400, .inl f_1)), (ec, .inl (e2, 400, .inl gc)), (ef, .inl (e3, 1200, .inr (.inl gv))), (cki, .inr (4, [.ref kw, .ref kf, .int z])), (kw, .inl (k1, 20, .inr (.inl gw))), (kf, .inl (k2, 20, .inl gf)), (sk, .inl (sk1, 22424, .inr (.inl gst)))] H := hP
  have hD : va_D A [(h0, .inr (1, [.ref ek, .ref ec, .ref ef, .ref cki, .int e_limit, .int e_fresh, .int e_firstFree, .int e_held, .int e_mostHeld, .int e_made, .int e_reused, .int e_freed, .int e_doubled])), (ek, .inl (e1, 400, .inl f_1)), (ec, .inl (e2, 400, .inl gc)), (ef, .inl (e3, 1200, .inr (.inl gv))), (cki, .inr (4, [.ref kw, .ref kf, .int z])), (kw, .inl (k1, 20, .inr (.inl gw))), (kf, .inl (k2, 20, .inl gf)), (sk, .inl (sk1, 22424, .inr (.inl gst)))] := hD
  refine lv_aload_n hx hb dX1_fill_7 rfl (lv_at hl 0 rfl) ?_
  refine va_get (D := (dC, dI)) (ci := 1) (v := .ref ec) (C := RX1) (T := TX1) (N := 13) hx hb hA zin_X1 hown hK hP 0 rfl rfl 1 (by decide) (hA _ wi_436) (fun _ h9 => h9) rfl dX1_fill_8 ?_
  refine lv_iload_n hx hb dX1_fill_11 rfl (lv_at hl 1 rfl) ?_
  refine lv_iconst (v := 1) hx hb dX1_fill_12 (by decide) ?_
  refine va_iast hx hb hK hP hD hS 2 1 rfl rfl (vp_in_iff.mpr ⟨by omega, by omega⟩) dX1_fill_13 (fun H locs hP hD hS => ?_)
  obtain ⟨f_2, ef_2⟩ : ∃ gz9 : Nat → Int32, gz9 = upd gc (Int32.toNatClampNeg ce) 1 := ⟨_, rfl⟩
  rw [← ef_2] at hP hD
  have hP : va_P (dC, dI) vwCl [(h0, .inr (1, [.ref ek, .ref ec, .ref ef, .ref cki, .int e_limit, .int e_fresh, .int e_firstFree, .int e_held, .int e_mostHeld, .int e_made, .int e_reused, .int e_freed, .int e_doubled])), (ek, .inl (e1, 400, .inl f_1)), (ec, .inl (e2, 400, .inl f_2)), (ef, .inl (e3, 1200, .inr (.inl gv))), (cki, .inr (4, [.ref kw, .ref kf, .int z])), (kw, .inl (k1, 20, .inr (.inl gw))), (kf, .inl (k2, 20, .inl gf)), (sk, .inl (sk1, 22424, .inr (.inl gst)))] H := hP
  have hD : va_D A [(h0, .inr (1, [.ref ek, .ref ec, .ref ef, .ref cki, .int e_limit, .int e_fresh, .int e_firstFree, .int e_held, .int e_mostHeld, .int e_made, .int e_reused, .int e_freed, .int e_doubled])), (ek, .inl (e1, 400, .inl f_1)), (ec, .inl (e2, 400, .inl f_2)), (ef, .inl (e3, 1200, .inr (.inl gv))), (cki, .inr (4, [.ref kw, .ref kf, .int z])), (kw, .inl (k1, 20, .inr (.inl gw))), (kf, .inl (k2, 20, .inl gf)), (sk, .inl (sk1, 22424, .inr (.inl gst)))] := hD
  have hok9 : f_1 (Int32.toNatClampNeg ce) = ok := by rw [ef_1]; exact pk_us
  refine lv_iconst (v := 0) hx hb dX1_fill_14 (by decide) ?_
  refine lv_istore (lv' := [(5, .int 0), (0, .ref h0), (1, .int ce), (2, .int ok), (3, .ref sk), (4, .int fi)]) hx hb dX1_fill_15 hl (by decide) rfl (fun ls hl => ?_)
  have loop_17 : ∀ (n9 : Nat) (i : Int32) (lv_ : Nat → Int64) (H : Heap) (locs : List Loc) (ls : Array Slot), (3 - i.toInt + 1).toNat ≤ n9 → 0 ≤ i.toInt → i.toInt ≤ 3 → zfw gv lv_ (Int32.toNatClampNeg ce) gst (Int32.toNatClampNeg fi) (Int32.toNatClampNeg i) → va_P (dC, dI) vwCl [(h0, .inr (1, [.ref ek, .ref ec, .ref ef, .ref cki, .int e_limit, .int e_fresh, .int e_firstFree, .int e_held, .int e_mostHeld, .int e_made, .int e_reused, .int e_freed, .int e_doubled])), (ek, .inl (e1, 400, .inl f_1)), (ec, .inl (e2, 400, .inl f_2)), (ef, .inl (e3, 1200, .inr (.inl lv_))), (cki, .inr (4, [.ref kw, .ref kf, .int z])), (kw, .inl (k1, 20, .inr (.inl gw))), (kf, .inl (k2, 20, .inl gf)), (sk, .inl (sk1, 22424, .inr (.inl gst)))] H → va_D A [(h0, .inr (1, [.ref ek, .ref ec, .ref ef, .ref cki, .int e_limit, .int e_fresh, .int e_firstFree, .int e_held, .int e_mostHeld, .int e_made, .int e_reused, .int e_freed, .int e_doubled])), (ek, .inl (e1, 400, .inl f_1)), (ec, .inl (e2, 400, .inl f_2)), (ef, .inl (e3, 1200, .inr (.inl lv_))), (cki, .inr (4, [.ref kw, .ref kf, .int z])), (kw, .inl (k1, 20, .inr (.inl gw))), (kf, .inl (k2, 20, .inl gf)), (sk, .inl (sk1, 22424, .inr (.inl gst)))] → va_S A s.heap H locs → lv_has ls 6 [(5, .int i), (0, .ref h0), (1, .int ce), (2, .int ok), (3, .ref sk), (4, .int fi)] → W p l e (headSpec (Cond.code yX1_fill cX1_fill 6 none :: zw) ({ frames := 12, cells := 0, slots := 0, locals := 400 })).room s m #[.ref h0, .int ce, .int ok, .ref sk, .int fi] below meth c H locs 0 0 (MQ below (va_Qv (fun u : (Nat → Int32) × (Nat → Int32) × (Nat → Int64) => match u with | (gk2, gc2, gv2) => (gk2 = upd gk (Int32.toNatClampNeg ce) ok) ∧ (gc2 = upd gc (Int32.toNatClampNeg ce) 1) ∧ (zfw gv gv2 (Int32.toNatClampNeg ce) gst (Int32.toNatClampNeg fi) (zfk z gf ok).toNat)) (fun u => match u with | (gk2, gc2, gv2) => zQ dC dI A [(e1, .int), (e2, .int), (e3, .long), (k1, .long), (k2, .int), (sk1, .long)] [(h0, .inr (1, [.ref ek, .ref ec, .ref ef, .ref cki, .int e_limit, .int e_fresh, .int e_firstFree, .int e_held, .int e_mostHeld, .int e_made, .int e_reused, .int e_freed, .int e_doubled])), (ek, .inl (e1, 400, .inl gk2)), (ec, .inl (e2, 400, .inl gc2)), (ef, .inl (e3, 1200, .inr (.inl gv2))), (cki, .inr (4, [.ref kw, .ref kf, .int z])), (kw, .inl (k1, 20, .inr (.inl gw))), (kf, .inl (k2, 20, .inl gf)), (sk, .inl (sk1, 22424, .inr (.inl gst)))]) A) #[.ref h0, .int ce, .int ok, .ref sk, .int fi] s 0 0 A) (F0 m 17 ls []) := by
    intro n9
    induction n9 with
    | zero => intro i lv_ H locs ls hm hi0 hi1 hzfw; exfalso; omega
    | succ n9 ih =>
      intro i lv_ H locs ls hm hi0 hi1 hzfw hP hD hS hl
      refine lv_iload hx hb dX1_fill_17 (lv_at hl 0 rfl) ?_
      refine lv_aload_n hx hb dX1_fill_19 rfl (lv_at hl 1 rfl) ?_
      refine lv_iload_n hx hb dX1_fill_20 rfl (lv_at hl 2 rfl) ?_
      have hPc := hP.sub (ws' := [(h0, .inr (1, [.ref ek, .ref ec, .ref ef, .ref cki, .int e_limit, .int e_fresh, .int e_firstFree, .int e_held, .int e_mostHeld, .int e_made, .int e_reused, .int e_freed, .int e_doubled])), (ek, .inl (e1, 400, .inl f_1)), (ec, .inl (e2, 400, .inl f_2)), (ef, .inl (e3, 1200, .inr (.inl lv_))), (cki, .inr (4, [.ref kw, .ref kf, .int z])), (kw, .inl (k1, 20, .inr (.inl gw))), (kf, .inl (k2, 20, .inl gf))]) [0, 1, 2, 3, 4, 5, 6] rfl
      have hDc := hD.sub (ws' := [(h0, .inr (1, [.ref ek, .ref ec, .ref ef, .ref cki, .int e_limit, .int e_fresh, .int e_firstFree, .int e_held, .int e_mostHeld, .int e_made, .int e_reused, .int e_freed, .int e_doubled])), (ek, .inl (e1, 400, .inl f_1)), (ec, .inl (e2, 400, .inl f_2)), (ef, .inl (e3, 1200, .inr (.inl lv_))), (cki, .inr (4, [.ref kw, .ref kf, .int z])), (kw, .inl (k1, 20, .inr (.inl gw))), (kf, .inl (k2, 20, .inl gf))]) [0, 1, 2, 3, 4, 5, 6] (by decide) rfl
      have hKc := hK.sub (tys' := [(e1, .int), (e2, .int), (e3, .long), (k1, .long), (k2, .int)]) [0, 1, 2, 3, 4] rfl
      have hFc := va_free (wc := [(h0, .inr (1, [.ref ek, .ref ec, .ref ef, .ref cki, .int e_limit, .int e_fresh, .int e_firstFree, .int e_held, .int e_mostHeld, .int e_made, .int e_reused, .int e_freed, .int e_doubled])), (ek, .inl (e1, 400, .inl f_1)), (ec, .inl (e2, 400, .inl f_2)), (ef, .inl (e3, 1200, .inr (.inl lv_))), (cki, .inr (4, [.ref kw, .ref kf, .int z])), (kw, .inl (k1, 20, .inr (.inl gw))), (kf, .inl (k2, 20, .inl gf))]) hD hS hAA [0, 1, 2, 3, 4, 5, 6] rfl
      refine va_calli (va_runV (As := [.int ce]) (rest := [.int i]) ⟨hx, hb, hml, hown, hA⟩ (c_X1_width_x400 l dC dI aK aV h0 ek ec ef cki e1 e2 e3 e_limit e_fresh e_firstFree e_held e_mostHeld e_made e_reused e_freed e_doubled f_1 f_2 lv_ kw kf k1 k2 z gw gf ce H.size (by omega) (by omega) hgf (by omega) (by omega)) (cwV 1 hA (zw_V wi_1150 wi_1151 wi_1152 wi_140 (zw_good wi_1153)) rfl rfl rfl (by decide +kernel) ⟨(Nat.le_of_ble_eq_true rfl), (Nat.le_of_ble_eq_true rfl)⟩) ⟨zP_blind, va_recv hKc hPc (ci := 1) (q0 := 0) rfl rfl, zz_pre hKc hPc hDc hN hT hS hFc⟩ rfl rfl hl.1 rfl (lv_room (Nat.le_of_ble_eq_true rfl)) dX1_fill_21 ⟨(Nat.le_of_ble_eq_true rfl), (Nat.le_of_ble_eq_true rfl)⟩) hS (fun q _ h => hFc q h) hFc (fun r_3 u t H1 locs ht hvm hw hB hz1 hk1 hS => ?_)
      obtain ⟨hP1, hK1, hD1⟩ := hB
      rw [ht] at hP1
      have hK1 := va_K.moved hvm.symm hK1
      obtain ⟨hP, hD⟩ := va_join (wr := [(sk, .inl (sk1, 22424, .inr (.inl gst)))]) (w1 := [(h0, .inr (1, [.ref ek, .ref ec, .ref ef, .ref cki, .int e_limit, .int e_fresh, .int e_firstFree, .int e_held, .int e_mostHeld, .int e_made, .int e_reused, .int e_freed, .int e_doubled])), (ek, .inl (e1, 400, .inl f_1)), (ec, .inl (e2, 400, .inl f_2)), (ef, .inl (e3, 1200, .inr (.inl lv_))), (cki, .inr (4, [.ref kw, .ref kf, .int z])), (kw, .inl (k1, 20, .inr (.inl gw))), (kf, .inl (k2, 20, .inl gf))]) hP hD [0, 1, 2, 3, 4, 5, 6] [7] rfl rfl (by decide) (by decide) hk1 hFc hP1 hD1
      have hK := (hK.sub (tys' := [(sk1, .long)]) [5] rfl).app hK1
      generalize H1 = H at hP hS ⊢
      have hP : va_P (dC, dI) vwCl [(sk, .inl (sk1, 22424, .inr (.inl gst))), (h0, .inr (1, [.ref ek, .ref ec, .ref ef, .ref cki, .int e_limit, .int e_fresh, .int e_firstFree, .int e_held, .int e_mostHeld, .int e_made, .int e_reused, .int e_freed, .int e_doubled])), (ek, .inl (e1, 400, .inl f_1)), (ec, .inl (e2, 400, .inl f_2)), (ef, .inl (e3, 1200, .inr (.inl lv_))), (cki, .inr (4, [.ref kw, .ref kf, .int z])), (kw, .inl (k1, 20, .inr (.inl gw))), (kf, .inl (k2, 20, .inl gf))] H := hP
      have hD : va_D A [(sk, .inl (sk1, 22424, .inr (.inl gst))), (h0, .inr (1, [.ref ek, .ref ec, .ref ef, .ref cki, .int e_limit, .int e_fresh, .int e_firstFree, .int e_held, .int e_mostHeld, .int e_made, .int e_reused, .int e_freed, .int e_doubled])), (ek, .inl (e1, 400, .inl f_1)), (ec, .inl (e2, 400, .inl f_2)), (ef, .inl (e3, 1200, .inr (.inl lv_))), (cki, .inr (4, [.ref kw, .ref kf, .int z])), (kw, .inl (k1, 20, .inr (.inl gw))), (kf, .inl (k2, 20, .inl gf))] := hD
      have hK : va_K (dC, dI) vwCl [(sk1, .long), (e1, .int), (e2, .int), (e3, .long), (k1, .long), (k2, .int)] s := hK
      have hw_r_3 := hw
      try dsimp only at hw_r_3
      obtain ⟨hq_4, hq_5, hq_6⟩ := hw
      have hwr9 : r_3.toInt = zfk z gf ok := by rw [hq_6, hok9]
      refine lv_icmp_ge (tgt := 51) hx hb dX1_fill_24 (by decide) (fun c_7 => ?_) (fun c_7 => ?_)
      · have ic_7 : r_3.toInt ≤ i.toInt := zi_le c_7
        have hP9 := hP.sub (ws' := [(h0, .inr (1, [.ref ek, .ref ec, .ref ef, .ref cki, .int e_limit, .int e_fresh, .int e_firstFree, .int e_held, .int e_mostHeld, .int e_made, .int e_reused, .int e_freed, .int e_doubled])), (ek, .inl (e1, 400, .inl f_1)), (ec, .inl (e2, 400, .inl f_2)), (ef, .inl (e3, 1200, .inr (.inl lv_))), (cki, .inr (4, [.ref kw, .ref kf, .int z])), (kw, .inl (k1, 20, .inr (.inl gw))), (kf, .inl (k2, 20, .inl gf)), (sk, .inl (sk1, 22424, .inr (.inl gst)))]) [1, 2, 3, 4, 5, 6, 7, 0] rfl
        have hD9 := hD.sub (ws' := [(h0, .inr (1, [.ref ek, .ref ec, .ref ef, .ref cki, .int e_limit, .int e_fresh, .int e_firstFree, .int e_held, .int e_mostHeld, .int e_made, .int e_reused, .int e_freed, .int e_doubled])), (ek, .inl (e1, 400, .inl f_1)), (ec, .inl (e2, 400, .inl f_2)), (ef, .inl (e3, 1200, .inr (.inl lv_))), (cki, .inr (4, [.ref kw, .ref kf, .int z])), (kw, .inl (k1, 20, .inr (.inl gw))), (kf, .inl (k2, 20, .inl gf)), (sk, .inl (sk1, 22424, .inr (.inl gst)))]) [1, 2, 3, 4, 5, 6, 7, 0] (by decide) rfl
        have hK9 := hK.sub (tys' := [(e1, .int), (e2, .int), (e3, .long), (k1, .long), (k2, .int), (sk1, .long)]) [1, 2, 3, 4, 5, 0] rfl
        exact W.vret hx hb hr (fun t ht hW => ⟨⟨(f_1, f_2, lv_), rfl, ⟨ef_1, ef_2, (by have h8 := hzfw; have h7 := zn_nat (x := i) (by omega); exact ⟨fun k hk => h8.1 k (by omega), h8.2⟩)⟩, by rw [ht]; exact hP9, va_K.moved hW.alike hK9, hD9⟩, hS.F ht⟩) hS.2.2 dX1_fill_51
      · have ic_7 : i.toInt < r_3.toInt := zi_nle c_7
        refine lv_aload_n hx hb dX1_fill_27 rfl (lv_at hl 1 rfl) ?_
        refine va_get (D := (dC, dI)) (ci := 1) (v := .ref ef) (C := RX1) (T := TX1) (N := 13) hx hb hA zin_X1 hown hK hP 1 rfl rfl 2 (by decide) (hA _ wi_438) (fun _ h9 => h9) rfl dX1_fill_28 ?_
        refine lv_iload_n hx hb dX1_fill_31 rfl (lv_at hl 2 rfl) ?_
        refine lv_iconst (v := 3) hx hb dX1_fill_32 (by decide) ?_
        refine lv_imul hx hb dX1_fill_33 ?_
        refine lv_topi (fun x_8 ex_8 => ?_)
        have ix_8 : x_8.toInt = ce.toInt * 3 := by rw [ex_8]; exact zi_mulc (by decide) (by omega) (by omega)
        refine lv_iload hx hb dX1_fill_34 (lv_at hl 0 rfl) ?_
        refine lv_iadd hx hb dX1_fill_36 ?_
        refine lv_topi (fun x_9 ex_9 => ?_)
        have ix_9 : x_9.toInt = x_8.toInt + i.toInt := by rw [ex_9]; exact zi_addc rfl (by omega) (by omega)
        refine lv_aload_n hx hb dX1_fill_37 rfl (lv_at hl 4 rfl) ?_
        refine lv_iload hx hb dX1_fill_38 (lv_at hl 5 rfl) ?_
        refine lv_iload hx hb dX1_fill_40 (lv_at hl 0 rfl) ?_
        refine lv_iadd hx hb dX1_fill_42 ?_
        refine lv_topi (fun x_10 ex_10 => ?_)
        have ix_10 : x_10.toInt = fi.toInt + i.toInt := by rw [ex_10]; exact zi_addc rfl (by omega) (by omega)
        refine va_lald hx hb hK hP 0 0 rfl rfl (vp_in_iff.mpr ⟨by omega, by omega⟩) dX1_fill_43 ?_
        refine lv_topl (fun x_11 ex_11 => ?_)
        refine va_last hx hb hK hP hD hS 4 3 rfl rfl (vp_in_iff.mpr ⟨by omega, by omega⟩) dX1_fill_44 (fun H locs hP hD hS => ?_)
        obtain ⟨f_12, ef_12⟩ : ∃ gz9 : Nat → Int64, gz9 = vp_updL lv_ (Int32.toNatClampNeg x_9) x_11 := ⟨_, rfl⟩
        rw [← ef_12] at hP hD
        have hP : va_P (dC, dI) vwCl [(sk, .inl (sk1, 22424, .inr (.inl gst))), (h0, .inr (1, [.ref ek, .ref ec, .ref ef, .ref cki, .int e_limit, .int e_fresh, .int e_firstFree, .int e_held, .int e_mostHeld, .int e_made, .int e_reused, .int e_freed, .int e_doubled])), (ek, .inl (e1, 400, .inl f_1)), (ec, .inl (e2, 400, .inl f_2)), (ef, .inl (e3, 1200, .inr (.inl f_12))), (cki, .inr (4, [.ref kw, .ref kf, .int z])), (kw, .inl (k1, 20, .inr (.inl gw))), (kf, .inl (k2, 20, .inl gf))] H := hP
        have hD : va_D A [(sk, .inl (sk1, 22424, .inr (.inl gst))), (h0, .inr (1, [.ref ek, .ref ec, .ref ef, .ref cki, .int e_limit, .int e_fresh, .int e_firstFree, .int e_held, .int e_mostHeld, .int e_made, .int e_reused, .int e_freed, .int e_doubled])), (ek, .inl (e1, 400, .inl f_1)), (ec, .inl (e2, 400, .inl f_2)), (ef, .inl (e3, 1200, .inr (.inl f_12))), (cki, .inr (4, [.ref kw, .ref kf, .int z])), (kw, .inl (k1, 20, .inr (.inl gw))), (kf, .inl (k2, 20, .inl gf))] := hD
        obtain ⟨x_13, ex_13⟩ : ∃ y : Int32, y = i + Int32.ofInt 1 := ⟨_, rfl⟩
        refine lv_iinc (v := x_13) (lv' := [(5, .int x_13), (0, .ref h0), (1, .int ce), (2, .int ok), (3, .ref sk), (4, .int fi)]) hx hb dX1_fill_45 hl (k := 0) rfl (by rw [ex_13]) (by decide) rfl (fun ls hl => ?_)
        have ix_13 : x_13.toInt = i.toInt + 1 := by rw [ex_13]; exact zi_addc (by decide) (by omega) (by omega)
        refine lv_goto (tgt := 17) hx hb dX1_fill_48 (by decide) ?_
        have hzf_14 : zfw gv f_12 (Int32.toNatClampNeg ce) gst (Int32.toNatClampNeg fi) (Int32.toNatClampNeg x_13) := zfw_s hzfw ef_12 (zn_3 (i := ce) (w := i) (by omega) (by omega) (by omega)) (by rw [ex_11]; exact congrArg gst (by have := zn_nat (x := x_10) (by omega); have := zn_nat (x := fi) (by omega); have := zn_nat (x := i) (by omega); omega)) (by have := zn_nat (x := i) (by omega); omega) (by have := zn_nat (x := i) (by omega); have := zn_nat (x := x_13) (by omega); omega)
        exact ih x_13 f_12 _ _ _ (by omega) (by omega) (by omega) hzf_14 (hP.sub [1, 2, 3, 4, 5, 6, 7, 0] rfl) (hD.sub [1, 2, 3, 4, 5, 6, 7, 0] (by decide) rfl) hS (lv_sub hl [0, 1, 2, 3, 4, 5] rfl)
  have hzf_15 : zfw gv gv (Int32.toNatClampNeg ce) gst (Int32.toNatClampNeg fi) (Int32.toNatClampNeg 0) := zfw_0 (by decide)
  exact loop_17 _ 0 gv _ _ _ (Nat.le_refl _) (by have h9_0 : Int32.toInt 0 = 0 := (by decide); omega) (by have h9_0 : Int32.toInt 0 = 0 := (by decide); omega) hzf_15 (hP.sub [0, 1, 2, 3, 4, 5, 6, 7] rfl) (hD.sub [0, 1, 2, 3, 4, 5, 6, 7] (by decide) rfl) hS (lv_sub hl [0, 1, 2, 3, 4, 5] rfl)
set_option maxHeartbeats 4000000 in
set_option maxRecDepth 100000 in
theorem c_X1_fill_x4000 (l : Launch) (dC : Nat → ClassId) (dI : Nat → Nat → Nat) (aK aV : Nat → Nat) (h0 : Nat) (ek : Nat) (ec : Nat) (ef : Nat) (cki : Nat) (e1 : ClassId) (e2 : ClassId) (e3 : ClassId) (e_limit : Int32) (e_fresh : Int32) (e_firstFree : Int32) (e_held : Int32) (e_mostHeld : Int32) (e_made : Int32) (e_reused : Int32) (e_freed : Int32) (e_doubled : Int32) (gk : Nat → Int32) (gc : Nat → Int32) (gv : Nat → Int64) (kw : Nat) (kf : Nat) (k1 : ClassId) (k2 : ClassId) (z : Int32) (gw : Nat → Int64) (gf : Nat → Int32) (ce : Int32) (ok : Int32) (sk : Nat) (sk1 : ClassId) (gst : Nat → Int64) (fi : Int32) (sz : Nat) (hz0 : 0 ≤ z.toInt) (hz1 : z.toInt ≤ 20) (hgf : zx 4 gf) (hc0 : 0 ≤ ce.toInt) (hc1 : ce.toInt < 4000) (hf0 : 0 ≤ fi.toInt) (hf1 : fi.toInt + zfk z gf ok ≤ 22424) : Met l yX1_fill (Cond.code yX1_fill cX1_fill 6 none :: zw) ({ frames := 12, cells := 0, slots := 0, locals := 400 }) (va_Pc [.ref h0, .int ce, .int ok, .ref sk, .int fi] (zP dC dI aK aV sz [(e1, .int), (e2, .int), (e3, .long), (k1, .long), (k2, .int), (sk1, .long)] [(h0, .inr (1, [.ref ek, .ref ec, .ref ef, .ref cki, .int e_limit, .int e_fresh, .int e_firstFree, .int e_held, .int e_mostHeld, .int e_made, .int e_reused, .int e_freed, .int e_doubled])), (ek, .inl (e1, 4000, .inl gk)), (ec, .inl (e2, 4000, .inl gc)), (ef, .inl (e3, 12000, .inr (.inl gv))), (cki, .inr (4, [.ref kw, .ref kf, .int z])), (kw, .inl (k1, 20, .inr (.inl gw))), (kf, .inl (k2, 20, .inl gf)), (sk, .inl (sk1, 22424, .inr (.inl gst)))])) (va_Qv (fun u : (Nat → Int32) × (Nat → Int32) × (Nat → Int64) => match u with | (gk2, gc2, gv2) => (gk2 = upd gk (Int32.toNatClampNeg ce) ok) ∧ (gc2 = upd gc (Int32.toNatClampNeg ce) 1) ∧ (zfw gv gv2 (Int32.toNatClampNeg ce) gst (Int32.toNatClampNeg fi) (zfk z gf ok).toNat)) (fun u => match u with | (gk2, gc2, gv2) => zQ dC dI (va_A [(h0, .inr (1, [.ref ek, .ref ec, .ref ef, .ref cki, .int e_limit, .int e_fresh, .int e_firstFree, .int e_held, .int e_mostHeld, .int e_made, .int e_reused, .int e_freed, .int e_doubled])), (ek, .inl (e1, 4000, .inl gk)), (ec, .inl (e2, 4000, .inl gc)), (ef, .inl (e3, 12000, .inr (.inl gv))), (cki, .inr (4, [.ref kw, .ref kf, .int z])), (kw, .inl (k1, 20, .inr (.inl gw))), (kf, .inl (k2, 20, .inl gf)), (sk, .inl (sk1, 22424, .inr (.inl gst)))] sz) [(e1, .int), (e2, .int), (e3, .long), (k1, .long), (k2, .int), (sk1, .long)] [(h0, .inr (1, [.ref ek, .ref ec, .ref ef, .ref cki, .int e_limit, .int e_fresh, .int e_firstFree, .int e_held, .int e_mostHeld, .int e_made, .int e_reused, .int e_freed, .int e_doubled])), (ek, .inl (e1, 4000, .inl gk2)), (ec, .inl (e2, 4000, .inl gc2)), (ef, .inl (e3, 12000, .inr (.inl gv2))), (cki, .inr (4, [.ref kw, .ref kf, .int z])), (kw, .inl (k1, 20, .inr (.inl gw))), (kf, .inl (k2, 20, .inl gf)), (sk, .inl (sk1, 22424, .inr (.inl gst)))]) (va_A [(h0, .inr (1, [.ref ek, .ref ec, .ref ef, .ref cki, .int e_limit, .int e_fresh, .int e_firstFree, .int e_held, .int e_mostHeld, .int e_made, .int e_reused, .int e_freed, .int e_doubled])), (ek, .inl (e1, 4000, .inl gk)), (ec, .inl (e2, 4000, .inl gc)), (ef, .inl (e3, 12000, .inr (.inl gv))), (cki, .inr (4, [.ref kw, .ref kf, .int z])), (kw, .inl (k1, 20, .inr (.inl gw))), (kf, .inl (k2, 20, .inl gf)), (sk, .inl (sk1, 22424, .inr (.inl gst)))] sz)) 0 0 (va_A [(h0, .inr (1, [.ref ek, .ref ec, .ref ef, .ref cki, .int e_limit, .int e_fresh, .int e_firstFree, .int e_held, .int e_mostHeld, .int e_made, .int e_reused, .int e_freed, .int e_doubled])), (ek, .inl (e1, 4000, .inl gk)), (ec, .inl (e2, 4000, .inl gc)), (ef, .inl (e3, 12000, .inr (.inl gv))), (cki, .inr (4, [.ref kw, .ref kf, .int z])), (kw, .inl (k1, 20, .inr (.inl gw))), (kf, .inl (k2, 20, .inl gf)), (sk, .inl (sk1, 22424, .inr (.inl gst)))] sz) := by
  refine Met.ofW (cc := cX1_fill) (maxL := 6) (ret := none) (by decide) rfl ?_
  intro p e s m args below meth c s₁ B hml hv
  obtain ⟨rfl, hsz, hP, hK, hD0, hN, hT⟩ := hv
  have hx := B.exec
  have hb := B.bytes
  have hr := B.returns
  have hts := atoms_spec (ws := Cond.code yX1_fill cX1_fill 6 none :: zw) B.pre
  have hA : ∀ w ∈ zw, w.before _ s = true := fun w h => hts w (List.mem_cons_of_mem _ h)
  have hown : s.vm.findClass RX1 = some m.cls := findClass_of_methodNamed B.named
  have hlocks := B.notSynchronized
  subst hsz
  have hD := hD0.self (sz := s.heap.size)
  generalize hAe : va_A [(h0, .inr (1, [.ref ek, .ref ec, .ref ef, .ref cki, .int e_limit, .int e_fresh, .int e_firstFree, .int e_held, .int e_mostHeld, .int e_made, .int e_reused, .int e_freed, .int e_doubled])), (ek, .inl (e1, 4000, .inl gk)), (ec, .inl (e2, 4000, .inl gc)), (ef, .inl (e3, 12000, .inr (.inl gv))), (cki, .inr (4, [.ref kw, .ref kf, .int z])), (kw, .inl (k1, 20, .inr (.inl gw))), (kf, .inl (k2, 20, .inl gf)), (sk, .inl (sk1, 22424, .inr (.inl gst)))] s.heap.size = A at hD hT ⊢
  have hAA : ∀ q : Nat, s.heap.size ≤ q → A q := fun q h => by rw [← hAe]; exact Or.inr h
  have hS : va_S A s.heap s.heap [] := va_S.rf
  have hl := lv_entry ([.ref h0, .int ce, .int ok, .ref sk, .int fi]) (n := 6) (Nat.le_of_ble_eq_true rfl)
  rw [lg_entry_eq]
  generalize (lg_sl ([.ref h0, .int ce, .int ok, .ref sk, .int fi]) ++ List.replicate (6 - (lg_sl ([.ref h0, .int ce, .int ok, .ref sk, .int fi])).length) Slot.unset).toArray = ls at hl ⊢
  have hl : lv_has ls 6 [(0, .ref h0), (1, .int ce), (2, .int ok), (3, .ref sk), (4, .int fi)] := hl
  refine lv_aload_n hx hb dX1_fill_0 rfl (lv_at hl 0 rfl) ?_
  refine va_get (D := (dC, dI)) (ci := 1) (v := .ref ek) (C := RX1) (T := TX1) (N := 13) hx hb hA zin_X1 hown hK hP 0 rfl rfl 0 (by decide) (hA _ wi_435) (fun _ h9 => h9) rfl dX1_fill_1 ?_
  refine lv_iload_n hx hb dX1_fill_4 rfl (lv_at hl 1 rfl) ?_
  refine lv_iload_n hx hb dX1_fill_5 rfl (lv_at hl 2 rfl) ?_
  refine va_iast hx hb hK hP hD hS 1 0 rfl rfl (vp_in_iff.mpr ⟨by omega, by omega⟩) dX1_fill_6 (fun H locs hP hD hS => ?_)
  obtain ⟨f_1, ef_1⟩ : ∃ gz9 : Nat → Int32, gz9 = upd gk (Int32.toNatClampNeg ce) ok := ⟨_, rfl⟩
  rw [← ef_1] at hP hD
  have hP : va_P (dC, dI) vwCl [(h0, .inr (1, [.ref ek, .ref ec, .ref ef, .ref cki, .int e_limit, .int e_fresh, .int e_firstFree, .int e_held, .int e_mostHeld, .int e_made, .int e_reused, .int e_freed, .int e_doubled])), (ek, .inl (e1, 4000, .inl f_1)), (ec, .inl (e2, 4000, .inl gc)), (ef, .inl (e3, 12000, .inr (.inl gv))), (cki, .inr (4, [.ref kw, .ref kf, .int z])), (kw, .inl (k1, 20, .inr (.inl gw))), (kf, .inl (k2, 20, .inl gf)), (sk, .inl (sk1, 22424, .inr (.inl gst)))] H := hP
  have hD : va_D A [(h0, .inr (1, [.ref ek, .ref ec, .ref ef, .ref cki, .int e_limit, .int e_fresh, .int e_firstFree, .int e_held, .int e_mostHeld, .int e_made, .int e_reused, .int e_freed, .int e_doubled])), (ek, .inl (e1, 4000, .inl f_1)), (ec, .inl (e2, 4000, .inl gc)), (ef, .inl (e3, 12000, .inr (.inl gv))), (cki, .inr (4, [.ref kw, .ref kf, .int z])), (kw, .inl (k1, 20, .inr (.inl gw))), (kf, .inl (k2, 20, .inl gf)), (sk, .inl (sk1, 22424, .inr (.inl gst)))] := hD
  refine lv_aload_n hx hb dX1_fill_7 rfl (lv_at hl 0 rfl) ?_
  refine va_get (D := (dC, dI)) (ci := 1) (v := .ref ec) (C := RX1) (T := TX1) (N := 13) hx hb hA zin_X1 hown hK hP 0 rfl rfl 1 (by decide) (hA _ wi_436) (fun _ h9 => h9) rfl dX1_fill_8 ?_
  refine lv_iload_n hx hb dX1_fill_11 rfl (lv_at hl 1 rfl) ?_
  refine lv_iconst (v := 1) hx hb dX1_fill_12 (by decide) ?_
  refine va_iast hx hb hK hP hD hS 2 1 rfl rfl (vp_in_iff.mpr ⟨by omega, by omega⟩) dX1_fill_13 (fun H locs hP hD hS => ?_)
  obtain ⟨f_2, ef_2⟩ : ∃ gz9 : Nat → Int32, gz9 = upd gc (Int32.toNatClampNeg ce) 1 := ⟨_, rfl⟩
  rw [← ef_2] at hP hD
  have hP : va_P (dC, dI) vwCl [(h0, .inr (1, [.ref ek, .ref ec, .ref ef, .ref cki, .int e_limit, .int e_fresh, .int e_firstFree, .int e_held, .int e_mostHeld, .int e_made, .int e_reused, .int e_freed, .int e_doubled])), (ek, .inl (e1, 4000, .inl f_1)), (ec, .inl (e2, 4000, .inl f_2)), (ef, .inl (e3, 12000, .inr (.inl gv))), (cki, .inr (4, [.ref kw, .ref kf, .int z])), (kw, .inl (k1, 20, .inr (.inl gw))), (kf, .inl (k2, 20, .inl gf)), (sk, .inl (sk1, 22424, .inr (.inl gst)))] H := hP
  have hD : va_D A [(h0, .inr (1, [.ref ek, .ref ec, .ref ef, .ref cki, .int e_limit, .int e_fresh, .int e_firstFree, .int e_held, .int e_mostHeld, .int e_made, .int e_reused, .int e_freed, .int e_doubled])), (ek, .inl (e1, 4000, .inl f_1)), (ec, .inl (e2, 4000, .inl f_2)), (ef, .inl (e3, 12000, .inr (.inl gv))), (cki, .inr (4, [.ref kw, .ref kf, .int z])), (kw, .inl (k1, 20, .inr (.inl gw))), (kf, .inl (k2, 20, .inl gf)), (sk, .inl (sk1, 22424, .inr (.inl gst)))] := hD
  have hok9 : f_1 (Int32.toNatClampNeg ce) = ok := by rw [ef_1]; exact pk_us
  refine lv_iconst (v := 0) hx hb dX1_fill_14 (by decide) ?_
  refine lv_istore (lv' := [(5, .int 0), (0, .ref h0), (1, .int ce), (2, .int ok), (3, .ref sk), (4, .int fi)]) hx hb dX1_fill_15 hl (by decide) rfl (fun ls hl => ?_)
  have loop_17 : ∀ (n9 : Nat) (i : Int32) (lv_ : Nat → Int64) (H : Heap) (locs : List Loc) (ls : Array Slot), (3 - i.toInt + 1).toNat ≤ n9 → 0 ≤ i.toInt → i.toInt ≤ 3 → zfw gv lv_ (Int32.toNatClampNeg ce) gst (Int32.toNatClampNeg fi) (Int32.toNatClampNeg i) → va_P (dC, dI) vwCl [(h0, .inr (1, [.ref ek, .ref ec, .ref ef, .ref cki, .int e_limit, .int e_fresh, .int e_firstFree, .int e_held, .int e_mostHeld, .int e_made, .int e_reused, .int e_freed, .int e_doubled])), (ek, .inl (e1, 4000, .inl f_1)), (ec, .inl (e2, 4000, .inl f_2)), (ef, .inl (e3, 12000, .inr (.inl lv_))), (cki, .inr (4, [.ref kw, .ref kf, .int z])), (kw, .inl (k1, 20, .inr (.inl gw))), (kf, .inl (k2, 20, .inl gf)), (sk, .inl (sk1, 22424, .inr (.inl gst)))] H → va_D A [(h0, .inr (1, [.ref ek, .ref ec, .ref ef, .ref cki, .int e_limit, .int e_fresh, .int e_firstFree, .int e_held, .int e_mostHeld, .int e_made, .int e_reused, .int e_freed, .int e_doubled])), (ek, .inl (e1, 4000, .inl f_1)), (ec, .inl (e2, 4000, .inl f_2)), (ef, .inl (e3, 12000, .inr (.inl lv_))), (cki, .inr (4, [.ref kw, .ref kf, .int z])), (kw, .inl (k1, 20, .inr (.inl gw))), (kf, .inl (k2, 20, .inl gf)), (sk, .inl (sk1, 22424, .inr (.inl gst)))] → va_S A s.heap H locs → lv_has ls 6 [(5, .int i), (0, .ref h0), (1, .int ce), (2, .int ok), (3, .ref sk), (4, .int fi)] → W p l e (headSpec (Cond.code yX1_fill cX1_fill 6 none :: zw) ({ frames := 12, cells := 0, slots := 0, locals := 400 })).room s m #[.ref h0, .int ce, .int ok, .ref sk, .int fi] below meth c H locs 0 0 (MQ below (va_Qv (fun u : (Nat → Int32) × (Nat → Int32) × (Nat → Int64) => match u with | (gk2, gc2, gv2) => (gk2 = upd gk (Int32.toNatClampNeg ce) ok) ∧ (gc2 = upd gc (Int32.toNatClampNeg ce) 1) ∧ (zfw gv gv2 (Int32.toNatClampNeg ce) gst (Int32.toNatClampNeg fi) (zfk z gf ok).toNat)) (fun u => match u with | (gk2, gc2, gv2) => zQ dC dI A [(e1, .int), (e2, .int), (e3, .long), (k1, .long), (k2, .int), (sk1, .long)] [(h0, .inr (1, [.ref ek, .ref ec, .ref ef, .ref cki, .int e_limit, .int e_fresh, .int e_firstFree, .int e_held, .int e_mostHeld, .int e_made, .int e_reused, .int e_freed, .int e_doubled])), (ek, .inl (e1, 4000, .inl gk2)), (ec, .inl (e2, 4000, .inl gc2)), (ef, .inl (e3, 12000, .inr (.inl gv2))), (cki, .inr (4, [.ref kw, .ref kf, .int z])), (kw, .inl (k1, 20, .inr (.inl gw))), (kf, .inl (k2, 20, .inl gf)), (sk, .inl (sk1, 22424, .inr (.inl gst)))]) A) #[.ref h0, .int ce, .int ok, .ref sk, .int fi] s 0 0 A) (F0 m 17 ls []) := by
    intro n9
    induction n9 with
    | zero => intro i lv_ H locs ls hm hi0 hi1 hzfw; exfalso; omega
    | succ n9 ih =>
      intro i lv_ H locs ls hm hi0 hi1 hzfw hP hD hS hl
      refine lv_iload hx hb dX1_fill_17 (lv_at hl 0 rfl) ?_
      refine lv_aload_n hx hb dX1_fill_19 rfl (lv_at hl 1 rfl) ?_
      refine lv_iload_n hx hb dX1_fill_20 rfl (lv_at hl 2 rfl) ?_
      have hPc := hP.sub (ws' := [(h0, .inr (1, [.ref ek, .ref ec, .ref ef, .ref cki, .int e_limit, .int e_fresh, .int e_firstFree, .int e_held, .int e_mostHeld, .int e_made, .int e_reused, .int e_freed, .int e_doubled])), (ek, .inl (e1, 4000, .inl f_1)), (ec, .inl (e2, 4000, .inl f_2)), (ef, .inl (e3, 12000, .inr (.inl lv_))), (cki, .inr (4, [.ref kw, .ref kf, .int z])), (kw, .inl (k1, 20, .inr (.inl gw))), (kf, .inl (k2, 20, .inl gf))]) [0, 1, 2, 3, 4, 5, 6] rfl
      have hDc := hD.sub (ws' := [(h0, .inr (1, [.ref ek, .ref ec, .ref ef, .ref cki, .int e_limit, .int e_fresh, .int e_firstFree, .int e_held, .int e_mostHeld, .int e_made, .int e_reused, .int e_freed, .int e_doubled])), (ek, .inl (e1, 4000, .inl f_1)), (ec, .inl (e2, 4000, .inl f_2)), (ef, .inl (e3, 12000, .inr (.inl lv_))), (cki, .inr (4, [.ref kw, .ref kf, .int z])), (kw, .inl (k1, 20, .inr (.inl gw))), (kf, .inl (k2, 20, .inl gf))]) [0, 1, 2, 3, 4, 5, 6] (by decide) rfl
      have hKc := hK.sub (tys' := [(e1, .int), (e2, .int), (e3, .long), (k1, .long), (k2, .int)]) [0, 1, 2, 3, 4] rfl
      have hFc := va_free (wc := [(h0, .inr (1, [.ref ek, .ref ec, .ref ef, .ref cki, .int e_limit, .int e_fresh, .int e_firstFree, .int e_held, .int e_mostHeld, .int e_made, .int e_reused, .int e_freed, .int e_doubled])), (ek, .inl (e1, 4000, .inl f_1)), (ec, .inl (e2, 4000, .inl f_2)), (ef, .inl (e3, 12000, .inr (.inl lv_))), (cki, .inr (4, [.ref kw, .ref kf, .int z])), (kw, .inl (k1, 20, .inr (.inl gw))), (kf, .inl (k2, 20, .inl gf))]) hD hS hAA [0, 1, 2, 3, 4, 5, 6] rfl
      refine va_calli (va_runV (As := [.int ce]) (rest := [.int i]) ⟨hx, hb, hml, hown, hA⟩ (c_X1_width_x4000 l dC dI aK aV h0 ek ec ef cki e1 e2 e3 e_limit e_fresh e_firstFree e_held e_mostHeld e_made e_reused e_freed e_doubled f_1 f_2 lv_ kw kf k1 k2 z gw gf ce H.size (by omega) (by omega) hgf (by omega) (by omega)) (cwV 1 hA (zw_V wi_1150 wi_1151 wi_1152 wi_140 (zw_good wi_1153)) rfl rfl rfl (by decide +kernel) ⟨(Nat.le_of_ble_eq_true rfl), (Nat.le_of_ble_eq_true rfl)⟩) ⟨zP_blind, va_recv hKc hPc (ci := 1) (q0 := 0) rfl rfl, zz_pre hKc hPc hDc hN hT hS hFc⟩ rfl rfl hl.1 rfl (lv_room (Nat.le_of_ble_eq_true rfl)) dX1_fill_21 ⟨(Nat.le_of_ble_eq_true rfl), (Nat.le_of_ble_eq_true rfl)⟩) hS (fun q _ h => hFc q h) hFc (fun r_3 u t H1 locs ht hvm hw hB hz1 hk1 hS => ?_)
      obtain ⟨hP1, hK1, hD1⟩ := hB
      rw [ht] at hP1
      have hK1 := va_K.moved hvm.symm hK1
      obtain ⟨hP, hD⟩ := va_join (wr := [(sk, .inl (sk1, 22424, .inr (.inl gst)))]) (w1 := [(h0, .inr (1, [.ref ek, .ref ec, .ref ef, .ref cki, .int e_limit, .int e_fresh, .int e_firstFree, .int e_held, .int e_mostHeld, .int e_made, .int e_reused, .int e_freed, .int e_doubled])), (ek, .inl (e1, 4000, .inl f_1)), (ec, .inl (e2, 4000, .inl f_2)), (ef, .inl (e3, 12000, .inr (.inl lv_))), (cki, .inr (4, [.ref kw, .ref kf, .int z])), (kw, .inl (k1, 20, .inr (.inl gw))), (kf, .inl (k2, 20, .inl gf))]) hP hD [0, 1, 2, 3, 4, 5, 6] [7] rfl rfl (by decide) (by decide) hk1 hFc hP1 hD1
      have hK := (hK.sub (tys' := [(sk1, .long)]) [5] rfl).app hK1
      generalize H1 = H at hP hS ⊢
      have hP : va_P (dC, dI) vwCl [(sk, .inl (sk1, 22424, .inr (.inl gst))), (h0, .inr (1, [.ref ek, .ref ec, .ref ef, .ref cki, .int e_limit, .int e_fresh, .int e_firstFree, .int e_held, .int e_mostHeld, .int e_made, .int e_reused, .int e_freed, .int e_doubled])), (ek, .inl (e1, 4000, .inl f_1)), (ec, .inl (e2, 4000, .inl f_2)), (ef, .inl (e3, 12000, .inr (.inl lv_))), (cki, .inr (4, [.ref kw, .ref kf, .int z])), (kw, .inl (k1, 20, .inr (.inl gw))), (kf, .inl (k2, 20, .inl gf))] H := hP
      have hD : va_D A [(sk, .inl (sk1, 22424, .inr (.inl gst))), (h0, .inr (1, [.ref ek, .ref ec, .ref ef, .ref cki, .int e_limit, .int e_fresh, .int e_firstFree, .int e_held, .int e_mostHeld, .int e_made, .int e_reused, .int e_freed, .int e_doubled])), (ek, .inl (e1, 4000, .inl f_1)), (ec, .inl (e2, 4000, .inl f_2)), (ef, .inl (e3, 12000, .inr (.inl lv_))), (cki, .inr (4, [.ref kw, .ref kf, .int z])), (kw, .inl (k1, 20, .inr (.inl gw))), (kf, .inl (k2, 20, .inl gf))] := hD
      have hK : va_K (dC, dI) vwCl [(sk1, .long), (e1, .int), (e2, .int), (e3, .long), (k1, .long), (k2, .int)] s := hK
      have hw_r_3 := hw
      try dsimp only at hw_r_3
      obtain ⟨hq_4, hq_5, hq_6⟩ := hw
      have hwr9 : r_3.toInt = zfk z gf ok := by rw [hq_6, hok9]
      refine lv_icmp_ge (tgt := 51) hx hb dX1_fill_24 (by decide) (fun c_7 => ?_) (fun c_7 => ?_)
      · have ic_7 : r_3.toInt ≤ i.toInt := zi_le c_7
        have hP9 := hP.sub (ws' := [(h0, .inr (1, [.ref ek, .ref ec, .ref ef, .ref cki, .int e_limit, .int e_fresh, .int e_firstFree, .int e_held, .int e_mostHeld, .int e_made, .int e_reused, .int e_freed, .int e_doubled])), (ek, .inl (e1, 4000, .inl f_1)), (ec, .inl (e2, 4000, .inl f_2)), (ef, .inl (e3, 12000, .inr (.inl lv_))), (cki, .inr (4, [.ref kw, .ref kf, .int z])), (kw, .inl (k1, 20, .inr (.inl gw))), (kf, .inl (k2, 20, .inl gf)), (sk, .inl (sk1, 22424, .inr (.inl gst)))]) [1, 2, 3, 4, 5, 6, 7, 0] rfl
        have hD9 := hD.sub (ws' := [(h0, .inr (1, [.ref ek, .ref ec, .ref ef, .ref cki, .int e_limit, .int e_fresh, .int e_firstFree, .int e_held, .int e_mostHeld, .int e_made, .int e_reused, .int e_freed, .int e_doubled])), (ek, .inl (e1, 4000, .inl f_1)), (ec, .inl (e2, 4000, .inl f_2)), (ef, .inl (e3, 12000, .inr (.inl lv_))), (cki, .inr (4, [.ref kw, .ref kf, .int z])), (kw, .inl (k1, 20, .inr (.inl gw))), (kf, .inl (k2, 20, .inl gf)), (sk, .inl (sk1, 22424, .inr (.inl gst)))]) [1, 2, 3, 4, 5, 6, 7, 0] (by decide) rfl
        have hK9 := hK.sub (tys' := [(e1, .int), (e2, .int), (e3, .long), (k1, .long), (k2, .int), (sk1, .long)]) [1, 2, 3, 4, 5, 0] rfl
        exact W.vret hx hb hr (fun t ht hW => ⟨⟨(f_1, f_2, lv_), rfl, ⟨ef_1, ef_2, (by have h8 := hzfw; have h7 := zn_nat (x := i) (by omega); exact ⟨fun k hk => h8.1 k (by omega), h8.2⟩)⟩, by rw [ht]; exact hP9, va_K.moved hW.alike hK9, hD9⟩, hS.F ht⟩) hS.2.2 dX1_fill_51
      · have ic_7 : i.toInt < r_3.toInt := zi_nle c_7
        refine lv_aload_n hx hb dX1_fill_27 rfl (lv_at hl 1 rfl) ?_
        refine va_get (D := (dC, dI)) (ci := 1) (v := .ref ef) (C := RX1) (T := TX1) (N := 13) hx hb hA zin_X1 hown hK hP 1 rfl rfl 2 (by decide) (hA _ wi_438) (fun _ h9 => h9) rfl dX1_fill_28 ?_
        refine lv_iload_n hx hb dX1_fill_31 rfl (lv_at hl 2 rfl) ?_
        refine lv_iconst (v := 3) hx hb dX1_fill_32 (by decide) ?_
        refine lv_imul hx hb dX1_fill_33 ?_
        refine lv_topi (fun x_8 ex_8 => ?_)
        have ix_8 : x_8.toInt = ce.toInt * 3 := by rw [ex_8]; exact zi_mulc (by decide) (by omega) (by omega)
        refine lv_iload hx hb dX1_fill_34 (lv_at hl 0 rfl) ?_
        refine lv_iadd hx hb dX1_fill_36 ?_
        refine lv_topi (fun x_9 ex_9 => ?_)
        have ix_9 : x_9.toInt = x_8.toInt + i.toInt := by rw [ex_9]; exact zi_addc rfl (by omega) (by omega)
        refine lv_aload_n hx hb dX1_fill_37 rfl (lv_at hl 4 rfl) ?_
        refine lv_iload hx hb dX1_fill_38 (lv_at hl 5 rfl) ?_
        refine lv_iload hx hb dX1_fill_40 (lv_at hl 0 rfl) ?_
        refine lv_iadd hx hb dX1_fill_42 ?_
        refine lv_topi (fun x_10 ex_10 => ?_)
        have ix_10 : x_10.toInt = fi.toInt + i.toInt := by rw [ex_10]; exact zi_addc rfl (by omega) (by omega)
        refine va_lald hx hb hK hP 0 0 rfl rfl (vp_in_iff.mpr ⟨by omega, by omega⟩) dX1_fill_43 ?_
        refine lv_topl (fun x_11 ex_11 => ?_)
        refine va_last hx hb hK hP hD hS 4 3 rfl rfl (vp_in_iff.mpr ⟨by omega, by omega⟩) dX1_fill_44 (fun H locs hP hD hS => ?_)
        obtain ⟨f_12, ef_12⟩ : ∃ gz9 : Nat → Int64, gz9 = vp_updL lv_ (Int32.toNatClampNeg x_9) x_11 := ⟨_, rfl⟩
        rw [← ef_12] at hP hD
        have hP : va_P (dC, dI) vwCl [(sk, .inl (sk1, 22424, .inr (.inl gst))), (h0, .inr (1, [.ref ek, .ref ec, .ref ef, .ref cki, .int e_limit, .int e_fresh, .int e_firstFree, .int e_held, .int e_mostHeld, .int e_made, .int e_reused, .int e_freed, .int e_doubled])), (ek, .inl (e1, 4000, .inl f_1)), (ec, .inl (e2, 4000, .inl f_2)), (ef, .inl (e3, 12000, .inr (.inl f_12))), (cki, .inr (4, [.ref kw, .ref kf, .int z])), (kw, .inl (k1, 20, .inr (.inl gw))), (kf, .inl (k2, 20, .inl gf))] H := hP
        have hD : va_D A [(sk, .inl (sk1, 22424, .inr (.inl gst))), (h0, .inr (1, [.ref ek, .ref ec, .ref ef, .ref cki, .int e_limit, .int e_fresh, .int e_firstFree, .int e_held, .int e_mostHeld, .int e_made, .int e_reused, .int e_freed, .int e_doubled])), (ek, .inl (e1, 4000, .inl f_1)), (ec, .inl (e2, 4000, .inl f_2)), (ef, .inl (e3, 12000, .inr (.inl f_12))), (cki, .inr (4, [.ref kw, .ref kf, .int z])), (kw, .inl (k1, 20, .inr (.inl gw))), (kf, .inl (k2, 20, .inl gf))] := hD
        obtain ⟨x_13, ex_13⟩ : ∃ y : Int32, y = i + Int32.ofInt 1 := ⟨_, rfl⟩
        refine lv_iinc (v := x_13) (lv' := [(5, .int x_13), (0, .ref h0), (1, .int ce), (2, .int ok), (3, .ref sk), (4, .int fi)]) hx hb dX1_fill_45 hl (k := 0) rfl (by rw [ex_13]) (by decide) rfl (fun ls hl => ?_)
        have ix_13 : x_13.toInt = i.toInt + 1 := by rw [ex_13]; exact zi_addc (by decide) (by omega) (by omega)
        refine lv_goto (tgt := 17) hx hb dX1_fill_48 (by decide) ?_
        have hzf_14 : zfw gv f_12 (Int32.toNatClampNeg ce) gst (Int32.toNatClampNeg fi) (Int32.toNatClampNeg x_13) := zfw_s hzfw ef_12 (zn_3 (i := ce) (w := i) (by omega) (by omega) (by omega)) (by rw [ex_11]; exact congrArg gst (by have := zn_nat (x := x_10) (by omega); have := zn_nat (x := fi) (by omega); have := zn_nat (x := i) (by omega); omega)) (by have := zn_nat (x := i) (by omega); omega) (by have := zn_nat (x := i) (by omega); have := zn_nat (x := x_13) (by omega); omega)
        exact ih x_13 f_12 _ _ _ (by omega) (by omega) (by omega) hzf_14 (hP.sub [1, 2, 3, 4, 5, 6, 7, 0] rfl) (hD.sub [1, 2, 3, 4, 5, 6, 7, 0] (by decide) rfl) hS (lv_sub hl [0, 1, 2, 3, 4, 5] rfl)
  have hzf_15 : zfw gv gv (Int32.toNatClampNeg ce) gst (Int32.toNatClampNeg fi) (Int32.toNatClampNeg 0) := zfw_0 (by decide)
  exact loop_17 _ 0 gv _ _ _ (Nat.le_refl _) (by have h9_0 : Int32.toInt 0 = 0 := (by decide); omega) (by have h9_0 : Int32.toInt 0 = 0 := (by decide); omega) hzf_15 (hP.sub [0, 1, 2, 3, 4, 5, 6, 7] rfl) (hD.sub [0, 1, 2, 3, 4, 5, 6, 7] (by decide) rfl) hS (lv_sub hl [0, 1, 2, 3, 4, 5] rfl)

end
section
/-! the plain machine: what is to do, the values, the calls' names, steps, cells -/
theorem zv_ext {v w : Int64} (h : zhs v = zhs w) (h2 : v.toInt32 = w.toInt32) : v = w := by
  refine z64_ext (fun i hi => ?_)
  by_cases g : i < 32
  · rw [← zt32_b v g, ← zt32_b w g, h2]
  · have h3 : (zhs v).toBitVec.getLsbD (i - 32) = (zhs w).toBitVec.getLsbD (i - 32) := by rw [h]
    rw [zhs_bit, zhs_bit, show 32 + (i - 32) = i from by omega] at h3
    exact h3
def pv0 (x : Int32) : Int64 := x.toInt64 &&& 4294967295
def pv1 (x : Int32) : Int64 := 4294967296 ||| (x.toInt64 &&& 4294967295)
def pv2 (x : Int32) : Int64 := 8589934592 ||| (x.toInt64 &&& 4294967295)
theorem pv0_eq {v : Int64} {x : Int32} (h : zhs v = 0) (h2 : v.toInt32 = x) : v = pv0 x := zv_ext (h.trans (zof_int x).1.symm) (h2.trans (zof_int x).2.symm)
theorem pv1_eq {v : Int64} {x : Int32} (h : zhs v = 1) (h2 : v.toInt32 = x) : v = pv1 x := zv_ext (h.trans (zof_kind x).1.symm) (h2.trans (zof_kind x).2.symm)
theorem pv2_eq {v : Int64} {x : Int32} (h : zhs v = 2) (h2 : v.toInt32 = x) : v = pv2 x := zv_ext (h.trans (zof_cell x).1.symm) (h2.trans (zof_cell x).2.symm)
/-- a tree's place -/
def pm_pl : Tm → Int
  | .leaf (some (0, p, _, _, _, _)) => p
  | .leaf (some (_ + 1, p, _, _, _, _)) => p
  | .branch 0 (.leaf (some (0, p, _, _, _, _))) _ => p
  | .branch 0 (.leaf (some (1, p, _, _, _, _))) _ => p
  | .branch 0 (.leaf (some (2, p, _, _, _, _))) _ => p
  | .branch 1 (.leaf (some (0, p, _, _, _, _))) (.branch _ _ _) => p
  | .branch 1 (.leaf (some (_ + 1, p, _, _, _, _))) (.branch _ _ _) => p
  | .branch 2 (.leaf (some (_, p, _, _, _, _))) (.branch _ _ (.branch _ _ _)) => p
  | _ => 0
/-- a row of trees: each is to be worked -/
def pm_as : Tm → List (Nat × Tm)
  | .branch (_ + 3) a b => (0, a) :: pm_as b
  | _ => []
def am_k : Tm → Int
  | .branch 0 (.leaf (some (_ + 3, _, k, _, _, _))) _ => k
  | _ => 0
def am_h : Tm → Nat
  | .branch 0 (.leaf (some (_ + 3, _, _, h, _, _))) _ => h
  | _ => 0
def am_m : Tm → Nat
  | .branch 0 (.leaf (some (_ + 3, _, _, _, m, _))) _ => m
  | _ => 0
def am_x : Tm → Tm
  | .branch 0 (.leaf (some (_ + 3, _, _, _, _, _))) x => x
  | _ => Tm.nil
/-- the first arm that fits -/
def pm_fi (kd : Int) : Tm → Option Tm
  | .branch (_ + 3) a b => if am_k a = -1 ∨ am_k a = kd then some a else pm_fi kd b
  | _ => none
/-- a value's kind: -1 of an INT -/
def pm_kd (ck : Nat → Int32) (v : Int64) : Int := if zhs v = 0 then -1 else if zhs v = 2 then (ck (Int32.toNatClampNeg v.toInt32)).toInt else v.toInt32.toInt
def pm_bd (e : Nat → Int64) (cf : Nat → Int64) (c h m : Nat) : Nat → Int64 := fun k => if h ≤ k ∧ k < h + m then cf (3 * c + (k - h)) else e k
def pm_ae (V : List Int64) (n : Nat) : Nat → Int64 := fun k => if k < n then V.getD (n - 1 - k) 0 else 0
def pm_cf (cf : Nat → Int64) (V : List Int64) (c m : Nat) : Nat → Int64 := fun j => if 3 * c ≤ j ∧ j < 3 * c + m then V.getD (m - 1 - (j - 3 * c)) 0 else cf j
def pm_op (o : Int) (x y : Int32) : Int32 := if o = 43 then x + y else if o = 45 then x - y else if o = 42 then x * y else if x.toInt < y.toInt then 1 else 0
abbrev pm_S := List (Nat × Tm) × List Int64 × List (Nat → Int64) × Nat × Nat × (Nat → Int32) × (Nat → Int64)
/-- a tree's work begins -/
def pm_w : Tm → List (Nat × Tm) → List Int64 → List (Nat → Int64) → Nat → Nat → (Nat → Int32) → (Nat → Int64) → Except (Nat × Int) pm_S
  | .leaf (some (0, _, v, _, _, _)), K, V, E, n, c, ck, cf => .ok (K, pv0 (Int32.ofInt v) :: V, E, n, c, ck, cf)
  | .leaf (some (_ + 1, _, _, s, _, _)), K, V, E, n, c, ck, cf => .ok (K, E.headD (fun _ => 0) s :: V, E, n, c, ck, cf)
  | .branch 0 (.leaf (some (0, p, _, _, _, w))) a, K, V, E, n, c, ck, cf => .ok (pm_as a ++ (1, Tm.call p w a) :: K, V, E, n, c, ck, cf)
  | .branch 0 (.leaf (some (1, p, _, k, _, _))) a, K, V, E, n, c, ck, cf => .ok (pm_as a ++ (1, Tm.made p k a) :: K, V, E, n, c, ck, cf)
  | .branch 0 (.leaf (some (2, p, _, s, _, _))) a, K, V, E, n, c, ck, cf => .ok ((1, Tm.mat p s a) :: K, V, E, n, c, ck, cf)
  | .branch 1 (.leaf (some (0, p, o, _, _, _))) (.branch _ a b), K, V, E, n, c, ck, cf => .ok ((0, a) :: (0, b) :: (1, Tm.bin p o a b) :: K, V, E, n, c, ck, cf)
  | .branch 1 (.leaf (some (_ + 1, p, _, s, _, _))) (.branch _ a b), K, V, E, n, c, ck, cf => .ok ((0, a) :: (1, Tm.tlet p s a b) :: K, V, E, n, c, ck, cf)
  | .branch 2 (.leaf (some (_, p, _, _, _, _))) (.branch _ a (.branch _ b d)), K, V, E, n, c, ck, cf => .ok ((0, a) :: (1, Tm.ite p a b d) :: K, V, E, n, c, ck, cf)
  | _, _, _, _, _, _, _, _ => .error (9, 0)
/-- a match: e the call's names -/
def pm_mt (p : Int) (s : Nat) (a : Tm) (K : List (Nat × Tm)) (V : List Int64) (E : List (Nat → Int64)) (n c : Nat) (ck : Nat → Int32) (cf : Nat → Int64) : Except (Nat × Int) pm_S :=
  match pm_fi (pm_kd ck (E.headD (fun _ => 0) s)) a with
  | none => .error (2, p)
  | some x => .ok ((0, am_x x) :: K, V, (if zhs (E.headD (fun _ => 0) s) = 2 then pm_bd (E.headD (fun _ => 0)) cf (Int32.toNatClampNeg (E.headD (fun _ => 0) s).toInt32) (am_h x) (am_m x) else E.headD (fun _ => 0)) :: E.tail, n, c, ck, cf)
/-- what is done behind a tree's operands -/
def pm_d (F : sp_F) : Tm → List (Nat × Tm) → List Int64 → List (Nat → Int64) → Nat → Nat → (Nat → Int32) → (Nat → Int64) → Except (Nat × Int) pm_S
  | .branch 0 (.leaf (some (0, p, _, _, _, w))) _, K, V, E, n, c, ck, cf => if 100 ≤ E.length then .error (4, p) else .ok ((0, F.2.2.2 (sp_fi F.2.1 w F.1)) :: (2, Tm.nil) :: K, V.drop (F.2.2.1 (sp_fi F.2.1 w F.1)).toNat, pm_ae V (F.2.2.1 (sp_fi F.2.1 w F.1)).toNat :: E, n, c, ck, cf)
  | .branch 0 (.leaf (some (1, p, _, k, _, _))) a, K, V, E, n, c, ck, cf => if tm_ln a = 0 then .ok (K, pv1 (Int32.ofInt (k : Int)) :: V, E, n, c, ck, cf) else if 4000 ≤ c then .error (3, p) else .ok (K, pv2 (Int32.ofInt (c : Int)) :: V.drop (tm_ln a), E, n, c + 1, upd ck c (Int32.ofInt (k : Int)), pm_cf cf V c (tm_ln a))
  | .branch 0 (.leaf (some (2, p, _, s, _, _))) a, K, V, E, n, c, ck, cf => pm_mt p s a K V E n c ck cf
  | .branch 1 (.leaf (some (0, p, o, _, _, _))) (.branch _ _ _), K, V, E, n, c, ck, cf => if zhs (V.getD 1 0) = 0 ∧ zhs (V.getD 0 0) = 0 then .ok (K, pv0 (pm_op o (V.getD 1 0).toInt32 (V.getD 0 0).toInt32) :: V.drop 2, E, n, c, ck, cf) else .error (2, p)
  | .branch 1 (.leaf (some (_ + 1, _, _, s, _, _))) (.branch _ _ b), K, V, E, n, c, ck, cf => .ok ((0, b) :: K, V.drop 1, vp_updL (E.headD (fun _ => 0)) s (V.getD 0 0) :: E.tail, n, c, ck, cf)
  | .branch 2 (.leaf (some (_, p, _, _, _, _))) (.branch _ _ (.branch _ b d)), K, V, E, n, c, ck, cf => if zhs (V.getD 0 0) = 0 then .ok ((0, if (V.getD 0 0).toInt32 = 0 then d else b) :: K, V.drop 1, E, n, c, ck, cf) else .error (2, p)
  | _, _, _, _, _, _, _, _ => .error (9, 0)
def pm_st (F : sp_F) (al : Nat) : pm_S → Except (Nat × Int) pm_S
  | ([], _, _, _, _, _, _) => .error (1, -1)
  | ((j, t) :: K, V, E, n, c, ck, cf) => if j = 0 then (if n = al then .error (5, pm_pl t) else pm_w t K V E (n + 1) c ck cf) else if j = 1 then pm_d F t K V E n c ck cf else .ok (K, V, E.tail, n, c, ck, cf)
theorem pm_st_w {F : sp_F} {al n c : Nat} {t : Tm} {K : List (Nat × Tm)} {V : List Int64} {E : List (Nat → Int64)} {ck : Nat → Int32} {cf : Nat → Int64} (h : ¬ n = al) : pm_st F al ((0, t) :: K, V, E, n, c, ck, cf) = pm_w t K V E (n + 1) c ck cf := by
  show (if (0 : Nat) = 0 then (if n = al then Except.error (5, pm_pl t) else pm_w t K V E (n + 1) c ck cf) else if (0 : Nat) = 1 then pm_d F t K V E n c ck cf else Except.ok (K, V, E.tail, n, c, ck, cf)) = _
  rw [if_pos rfl, if_neg h]
theorem pm_st_c {F : sp_F} {n c : Nat} {t : Tm} {K : List (Nat × Tm)} {V : List Int64} {E : List (Nat → Int64)} {ck : Nat → Int32} {cf : Nat → Int64} : pm_st F n ((0, t) :: K, V, E, n, c, ck, cf) = .error (5, pm_pl t) := by
  show (if (0 : Nat) = 0 then (if n = n then Except.error (5, pm_pl t) else pm_w t K V E (n + 1) c ck cf) else if (0 : Nat) = 1 then pm_d F t K V E n c ck cf else Except.ok (K, V, E.tail, n, c, ck, cf)) = _
  rw [if_pos rfl, if_pos rfl]
theorem pm_st_d {F : sp_F} {al n c : Nat} {t : Tm} {K : List (Nat × Tm)} {V : List Int64} {E : List (Nat → Int64)} {ck : Nat → Int32} {cf : Nat → Int64} : pm_st F al ((1, t) :: K, V, E, n, c, ck, cf) = pm_d F t K V E n c ck cf := by
  show (if (1 : Nat) = 0 then (if n = al then Except.error (5, pm_pl t) else pm_w t K V E (n + 1) c ck cf) else if (1 : Nat) = 1 then pm_d F t K V E n c ck cf else Except.ok (K, V, E.tail, n, c, ck, cf)) = _
  rw [if_neg (by decide), if_pos rfl]
theorem pm_st_l {F : sp_F} {al n c : Nat} {t : Tm} {K : List (Nat × Tm)} {V : List Int64} {E : List (Nat → Int64)} {ck : Nat → Int32} {cf : Nat → Int64} : pm_st F al ((2, t) :: K, V, E, n, c, ck, cf) = .ok (K, V, E.tail, n, c, ck, cf) := by
  show (if (2 : Nat) = 0 then (if n = al then Except.error (5, pm_pl t) else pm_w t K V E (n + 1) c ck cf) else if (2 : Nat) = 1 then pm_d F t K V E n c ck cf else Except.ok (K, V, E.tail, n, c, ck, cf)) = _
  rw [if_neg (by decide), if_neg (by decide)]
def pm_it (F : sp_F) (al : Nat) : Nat → pm_S → Except (Nat × Int) pm_S
  | 0, s => .ok s
  | n + 1, s => match pm_st F al s with
    | .ok s2 => pm_it F al n s2
    | .error e => .error e
theorem pm_it_1 {F : sp_F} {al : Nat} : ∀ {n : Nat} {s s2 : pm_S}, pm_it F al n s = .ok s2 → pm_it F al (n + 1) s = pm_st F al s2
  | 0, s, s2, h => by
    cases h
    unfold pm_it
    cases pm_st F al s with
    | ok a => rfl
    | error e => rfl
  | n + 1, s, s2, h => by
    unfold pm_it at h ⊢
    cases g : pm_st F al s with
    | ok a => rw [g] at h; exact pm_it_1 h
    | error e => rw [g] at h; cases h
/-- from one to another -/
def pm_re (F : sp_F) (al : Nat) (s s2 : pm_S) : Prop := ∃ n, pm_it F al n s = .ok s2
def pm_ou (F : sp_F) (al : Nat) (s : pm_S) (e : Nat × Int) : Prop := ∃ n, pm_it F al n s = .error e
theorem pm_re_r {F : sp_F} {al : Nat} {s : pm_S} : pm_re F al s s := ⟨0, rfl⟩
theorem pm_re_s {F : sp_F} {al : Nat} {s s2 s3 : pm_S} (h : pm_re F al s s2) (h2 : pm_st F al s2 = .ok s3) : pm_re F al s s3 := by
  obtain ⟨n, h⟩ := h
  exact ⟨n + 1, (pm_it_1 h).trans h2⟩
theorem pm_ou_s {F : sp_F} {al : Nat} {s s2 : pm_S} {e : Nat × Int} (h : pm_re F al s s2) (h2 : pm_st F al s2 = .error e) : pm_ou F al s e := by
  obtain ⟨n, h⟩ := h
  exact ⟨n + 1, (pm_it_1 h).trans h2⟩
theorem pm_it_m {F : sp_F} {al : Nat} {e : Nat × Int} : ∀ {n k : Nat} {s : pm_S}, pm_it F al n s = .error e → pm_it F al (n + k) s = .error e
  | 0, k, s, h => by cases h
  | n + 1, k, s, h => by
    rw [show n + 1 + k = (n + k) + 1 from by omega]
    unfold pm_it at h ⊢
    cases g : pm_st F al s with
    | ok a => rw [g] at h; exact pm_it_m h
    | error e2 => rw [g] at h; exact h
theorem pm_ou_1 {F : sp_F} {al : Nat} {s : pm_S} {e e2 : Nat × Int} (h : pm_ou F al s e) (h2 : pm_ou F al s e2) : e = e2 := by
  obtain ⟨n, h⟩ := h
  obtain ⟨m, h2⟩ := h2
  have h3 := pm_it_m (k := m) h
  have h4 := pm_it_m (k := n) h2
  rw [Nat.add_comm] at h4
  exact Except.error.inj (h3.symm.trans h4)
/-- FUNCTION f with these INTS -/
def pm_s0 (F : sp_F) (f : Nat) (a b c d : Int32) : pm_S := ([(0, F.2.2.2 f), (2, Tm.nil)], [], [fun k => if (k : Int) < F.2.2.1 f then pv0 (if k = 0 then a else if k = 1 then b else if k = 2 then c else if k = 3 then d else 0) else 0], 0, 0, (fun _ => 0), (fun _ => 0))

end
section
/-! the class's code, as the plain machine goes through it -/
theorem pi_of {r : Int32} {x : Int} (h : r.toInt = x) : Int32.ofInt x = r := by rw [← h]; exact Int32.ofInt_toInt r
def zpx (nx : Nat → Int32) : Int32 → List Nat → Int32 → Prop
  | x, [], y => x = y
  | x, r :: l, y => x.toInt = (r : Int) ∧ zpx nx (nx r) l y
theorem zpx_app {nx : Nat → Int32} {y : Int32} : ∀ {X Y : List Nat} {x : Int32}, zpx nx x (X ++ Y) y → ∃ z, zpx nx x X z ∧ zpx nx z Y y
  | [], _, x, h => ⟨x, rfl, h⟩
  | r :: l, Y, x, h => by
    obtain ⟨z, a, b⟩ := zpx_app (X := l) h.2
    exact ⟨z, ⟨h.1, a⟩, b⟩
theorem zpx_la {nx : Nat → Int32} : ∀ {X : List Nat} {d : Nat} {y : Int32}, zpx nx (nx d) X y → y = nx (zla d X)
  | [], _, _, h => h.symm
  | r :: l, _, _, h => zpx_la (X := l) (d := r) h.2
theorem zpx_pa {nx : Nat → Int32} {q : Nat} : ∀ {X : List Nat} {r : Nat}, zpa nx r X q → ∃ y, zpx nx (nx r) X y ∧ y.toInt = (q : Int)
  | [], r, h => ⟨nx r, rfl, h⟩
  | x :: l, r, h => by
    obtain ⟨y, a, b⟩ := zpx_pa (X := l) (r := x) h.2
    exact ⟨y, ⟨h.1, a⟩, b⟩
/-- rows that only lead on -/
def cSi (S : Nat → Nat → Int32) (nx : Nat → Int32) : Nat → Int32 → Int32 → Prop
  | 0, x, y => x = y
  | n + 1, x, y => ∃ r : Nat, x.toInt = (r : Int) ∧ (((S 0 r).toInt = 14 ∨ (S 0 r).toInt = 16) ∧ 0 ≤ (S 1 r).toInt ∧ cSi S nx n (nx (Int32.toNatClampNeg (S 1 r))) y ∨ (S 0 r).toInt = 0 ∧ cSi S nx n (nx r) y)
theorem cSi_tr {S : Nat → Nat → Int32} {nx : Nat → Int32} {k : Nat} {y z : Int32} (h2 : cSi S nx k y z) : ∀ {n : Nat} {x : Int32}, cSi S nx n x y → cSi S nx (n + k) x z
  | 0, x, h => by rw [Nat.zero_add, show x = y from h]; exact h2
  | n + 1, x, ⟨r, a, b⟩ => by
    rw [show n + 1 + k = (n + k) + 1 from by omega]
    exact ⟨r, a, b.elim (fun g => Or.inl ⟨g.1, g.2.1, cSi_tr h2 g.2.2⟩) (fun g => Or.inr ⟨g.1, cSi_tr h2 g.2⟩)⟩
/-- the row of what is done behind a tree's operands, and where it goes on -/
def cDo (S : Nat → Nat → Int32) (nx : Nat → Int32) (H : Int32 → Int64 → Prop) (az : Int) : Tm → Int32 → Int32 → Nat → Prop
  | .branch 0 (.leaf (some (0, p, _, _, _, w))) a, x, z, n => ∃ r : Nat, x.toInt = (r : Int) ∧ (S 0 r).toInt = 7 ∧ H (S 1 r) w ∧ (S 2 r).toInt = (tm_ln a : Int) ∧ (S 3 r).toInt = p ∧ z = nx r ∧ n = 3
  | .branch 0 (.leaf (some (1, p, _, k, _, _))) a, x, z, n => ∃ r : Nat, x.toInt = (r : Int) ∧ (S 0 r).toInt = 5 ∧ (S 1 r).toInt = (k : Int) ∧ 0 < tm_ln a ∧ (S 3 r).toInt = p ∧ z = nx r ∧ n = 1
  | .branch 0 (.leaf (some (2, p, _, s, _, _))) a, x, z, n => ∃ r : Nat, x.toInt = (r : Int) ∧ (S 0 r).toInt = 15 ∧ (S 1 r).toInt = (s : Int) ∧ (S 3 r).toInt = p ∧ (∃ Y : List Nat, cI S H 0 az a true r (S 2 r) (zla r Y) Y ∧ zpx nx (nx r) Y z) ∧ n = 2
  | .branch 1 (.leaf (some (0, p, o, _, _, _))) (.branch _ _ _), x, z, n => ∃ r : Nat, x.toInt = (r : Int) ∧ (S 0 r).toInt = cI_op o ∧ (S 3 r).toInt = p ∧ z = nx r ∧ n = 1
  | .branch 1 (.leaf (some (_ + 1, _, _, s, _, _))) (.branch _ _ b), x, z, n => ∃ r : Nat, x.toInt = (r : Int) ∧ (S 0 r).toInt = 12 ∧ (S 1 r).toInt = (s : Int) ∧ (∃ Z : List Nat, cI S H 0 az b false 0 0 0 Z ∧ zpx nx (nx r) Z z) ∧ n = 1
  | .branch 2 (.leaf (some (_, p, _, _, _, _))) (.branch _ _ (.branch _ b d)), x, z, n => ∃ r : Nat, x.toInt = (r : Int) ∧ (S 0 r).toInt = 13 ∧ (S 3 r).toInt = p ∧ (∃ (Z : List Nat) (j : Nat) (U : List Nat), (S 1 r).toInt = (j : Int) ∧ cI S H 0 az b false 0 0 0 Z ∧ (S 0 j).toInt = 14 ∧ (S 1 j).toInt = (zla j U : Int) ∧ cI S H 0 az d false 0 0 0 U ∧ zpx nx (nx r) (Z ++ [j] ++ U) z) ∧ n = 2
  | _, _, _, _ => False
/-- what is to do within a call, from row x on; m: how many rows of it begin no tree's work -/
def cKo (S : Nat → Nat → Int32) (nx : Nat → Int32) (H : Int32 → Int64 → Prop) (az : Int) : List (Nat × Tm) → Int32 → Nat → Prop
  | [], x, m => ∃ (n : Nat) (y : Int32) (r : Nat), cSi S nx n x y ∧ y.toInt = (r : Int) ∧ (S 0 r).toInt = 17 ∧ m = n + 1
  | (j, t) :: K, x, m => ∃ (n : Nat) (y z : Int32) (w m2 : Nat), cSi S nx n x y ∧ (j = 0 ∧ (∃ X : List Nat, cI S H 0 az t false 0 0 0 X ∧ zpx nx y X z) ∧ w = 0 ∨ j = 1 ∧ cDo S nx H az t y z w) ∧ cKo S nx H az K z m2 ∧ m = n + w + m2
section
variable {S : Nat → Nat → Int32} {nx : Nat → Int32} {H : Int32 → Int64 → Prop} {az : Int}
theorem cKo_si {n : Nat} {x y : Int32} (h : cSi S nx n x y) : ∀ {K : List (Nat × Tm)} {m : Nat}, cKo S nx H az K y m → cKo S nx H az K x (n + m)
  | [], m, ⟨k, y2, r, a, b, c, d⟩ => ⟨n + k, y2, r, cSi_tr a h, b, c, by omega⟩
  | (j, t) :: K, m, ⟨k, y2, z, w, m2, a, b, c, d⟩ => ⟨n + k, y2, z, w, m2, cSi_tr a h, b, c, by omega⟩
theorem cKo_w {K : List (Nat × Tm)} {t : Tm} {x z : Int32} {m : Nat} {X : List Nat} (h : cI S H 0 az t false 0 0 0 X) (h2 : zpx nx x X z) (h3 : cKo S nx H az K z m) : cKo S nx H az ((0, t) :: K) x m := ⟨0, x, z, 0, m, rfl, Or.inl ⟨rfl, ⟨X, h, h2⟩, rfl⟩, h3, by omega⟩
theorem cKo_d {K : List (Nat × Tm)} {t : Tm} {x z : Int32} {w m : Nat} (h : cDo S nx H az t x z w) (h3 : cKo S nx H az K z m) : cKo S nx H az ((1, t) :: K) x (w + m) := ⟨0, x, z, w, m, rfl, Or.inr ⟨rfl, h⟩, h3, by omega⟩
/-- how many values what is done behind the operands takes -/
def pm_ar : Tm → Nat
  | .branch 0 (.leaf (some (0, _, _, _, _, _))) a => tm_ln a
  | .branch 0 (.leaf (some (1, _, _, _, _, _))) a => tm_ln a
  | .branch 1 (.leaf (some (0, _, _, _, _, _))) (.branch _ _ _) => 2
  | .branch 1 (.leaf (some (_ + 1, _, _, _, _, _))) (.branch _ _ _) => 1
  | .branch 2 (.leaf (some (_, _, _, _, _, _))) (.branch _ _ (.branch _ _ _)) => 1
  | _ => 0
/-- the values suffice: one is left -/
def cHt : List (Nat × Tm) → Nat → Prop
  | [], h => h = 1
  | (j, t) :: K, h => if j = 0 then cHt K (h + 1) else pm_ar t ≤ h ∧ cHt K (h - pm_ar t + 1)
theorem cHt_as {K : List (Nat × Tm)} : ∀ (a : Tm) {h : Nat}, tm_li a → cHt K (h + tm_ln a) → cHt (pm_as a ++ K) h
  | .leaf none, _, _, g => g
  | .branch (_ + 3) a b, h, hl, g => by
    show cHt (pm_as b ++ K) (h + 1)
    exact cHt_as b hl (by rw [show h + 1 + tm_ln b = h + (tm_ln b + 1) from by omega]; exact g)
  | .leaf (some (0, _, _, _, _, _)), _, g, _ => g.elim
  | .leaf (some (_ + 1, _, _, _, _, _)), _, g, _ => g.elim
  | .branch 0 (.leaf (some (0, _, _, _, _, _))) _, _, g, _ => g.elim
  | .branch 0 (.leaf (some (1, _, _, _, _, _))) _, _, g, _ => g.elim
  | .branch 1 (.leaf (some (0, _, _, _, _, _))) (.branch _ _ _), _, g, _ => g.elim
  | .branch 1 (.leaf (some (_ + 1, _, _, _, _, _))) (.branch _ _ _), _, g, _ => g.elim
  | .branch 2 (.leaf (some (_, _, _, _, _, _))) (.branch _ _ (.branch _ _ _)), _, g, _ => g.elim
  | .branch 0 (.leaf (some (2, _, _, _, _, _))) _, _, g, _ => g.elim
  | .branch 0 (.leaf (some (_ + 3, _, _, _, _, _))) _, _, g, _ => g.elim
  | .branch 0 (.leaf none) _, _, g, _ => g.elim
  | .branch 0 (.branch _ _ _) _, _, g, _ => g.elim
  | .branch 1 (.leaf none) _, _, g, _ => g.elim
  | .branch 1 (.branch _ _ _) _, _, g, _ => g.elim
  | .branch 1 (.leaf (some (0, _, _, _, _, _))) (.leaf _), _, g, _ => g.elim
  | .branch 1 (.leaf (some (_ + 1, _, _, _, _, _))) (.leaf _), _, g, _ => g.elim
  | .branch 2 (.leaf none) _, _, g, _ => g.elim
  | .branch 2 (.branch _ _ _) _, _, g, _ => g.elim
  | .branch 2 (.leaf (some (_, _, _, _, _, _))) (.leaf _), _, g, _ => g.elim
  | .branch 2 (.leaf (some (_, _, _, _, _, _))) (.branch _ _ (.leaf _)), _, g, _ => g.elim
theorem cHt_ad {K : List (Nat × Tm)} {t : Tm} {a : Tm} {h : Nat} (hl : tm_li a) (e : pm_ar t = tm_ln a) (g : cHt K (h + 1)) : cHt (pm_as a ++ (1, t) :: K) h := cHt_as a hl (by
  show pm_ar t ≤ h + tm_ln a ∧ cHt K (h + tm_ln a - pm_ar t + 1)
  exact ⟨by omega, by rw [show h + tm_ln a - pm_ar t = h from by omega]; exact g⟩)
/-- a task that may stand there: bd names have their values, nm rows are the call's names' -/
def cOk (z : Nat) (kf : Nat → Int32) (bd nm : Nat) (u : Nat × Tm) : Prop := sy_x u.2 ∧ (∃ c, tm_wf z kf u.2 c ∧ c ≤ bd) ∧ tm_wi u.2 ≤ nm
theorem cKo_as {K : List (Nat × Tm)} {z : Int32} {m : Nat} (h3 : cKo S nx H az K z m) : ∀ (a : Tm) {Y : List Nat} {x : Int32}, tm_li a → cI S H 0 az a false 0 0 0 Y → zpx nx x Y z → cKo S nx H az (pm_as a ++ K) x m
  | .leaf none, Y, x, _, h, h2 => by
    obtain ⟨rfl, -⟩ := h
    rw [show x = z from h2]; exact h3
  | .branch (_ + 3) a b, Y, x, hl, h, h2 => by
    obtain ⟨X, Z, rfl, g1, g2, -⟩ := h
    obtain ⟨y, k1, k2⟩ := zpx_app h2
    exact cKo_w g1 k1 (cKo_as h3 b hl g2 k2)
  | .leaf (some (0, _, _, _, _, _)), _, _, g, _, _ => g.elim
  | .leaf (some (_ + 1, _, _, _, _, _)), _, _, g, _, _ => g.elim
  | .branch 0 (.leaf (some (0, _, _, _, _, _))) _, _, _, g, _, _ => g.elim
  | .branch 0 (.leaf (some (1, _, _, _, _, _))) _, _, _, g, _, _ => g.elim
  | .branch 1 (.leaf (some (0, _, _, _, _, _))) (.branch _ _ _), _, _, g, _, _ => g.elim
  | .branch 1 (.leaf (some (_ + 1, _, _, _, _, _))) (.branch _ _ _), _, _, g, _, _ => g.elim
  | .branch 2 (.leaf (some (_, _, _, _, _, _))) (.branch _ _ (.branch _ _ _)), _, _, g, _, _ => g.elim
  | .branch 0 (.leaf (some (2, _, _, _, _, _))) _, _, _, g, _, _ => g.elim
  | .branch 0 (.leaf (some (_ + 3, _, _, _, _, _))) _, _, _, g, _, _ => g.elim
  | .branch 0 (.leaf none) _, _, _, g, _, _ => g.elim
  | .branch 0 (.branch _ _ _) _, _, _, g, _, _ => g.elim
  | .branch 1 (.leaf none) _, _, _, g, _, _ => g.elim
  | .branch 1 (.branch _ _ _) _, _, _, g, _, _ => g.elim
  | .branch 1 (.leaf (some (0, _, _, _, _, _))) (.leaf _), _, _, g, _, _ => g.elim
  | .branch 1 (.leaf (some (_ + 1, _, _, _, _, _))) (.leaf _), _, _, g, _, _ => g.elim
  | .branch 2 (.leaf none) _, _, _, g, _, _ => g.elim
  | .branch 2 (.branch _ _ _) _, _, _, g, _, _ => g.elim
  | .branch 2 (.leaf (some (_, _, _, _, _, _))) (.leaf _), _, _, g, _, _ => g.elim
  | .branch 2 (.leaf (some (_, _, _, _, _, _))) (.branch _ _ (.leaf _)), _, _, g, _, _ => g.elim
theorem pm_as_ok {z : Nat} {kf : Nat → Int32} {bd nm c : Nat} (hc : c ≤ bd) : ∀ (a : Tm), tm_li a → tm_sy a false → tm_wf z kf a c → tm_wi a ≤ nm → ∀ u ∈ pm_as a, cOk z kf bd nm u
  | .leaf none, _, _, _, _, u, hu => nomatch hu
  | .branch (_ + 3) a b, hl, hs, hw, hi, u, hu => by
    have hi : max (tm_wi a) (tm_wi b) ≤ nm := hi
    rcases List.mem_cons.mp hu with g | g
    · rw [g]; exact ⟨hs.1, ⟨c, hw.1, hc⟩, by show tm_wi a ≤ nm; omega⟩
    · exact pm_as_ok hc b hl hs.2 hw.2 (by omega) u g
  | .leaf (some (0, _, _, _, _, _)), g, _, _, _, _, _ => g.elim
  | .leaf (some (_ + 1, _, _, _, _, _)), g, _, _, _, _, _ => g.elim
  | .branch 0 (.leaf (some (0, _, _, _, _, _))) _, g, _, _, _, _, _ => g.elim
  | .branch 0 (.leaf (some (1, _, _, _, _, _))) _, g, _, _, _, _, _ => g.elim
  | .branch 1 (.leaf (some (0, _, _, _, _, _))) (.branch _ _ _), g, _, _, _, _, _ => g.elim
  | .branch 1 (.leaf (some (_ + 1, _, _, _, _, _))) (.branch _ _ _), g, _, _, _, _, _ => g.elim
  | .branch 2 (.leaf (some (_, _, _, _, _, _))) (.branch _ _ (.branch _ _ _)), g, _, _, _, _, _ => g.elim
  | .branch 0 (.leaf (some (2, _, _, _, _, _))) _, g, _, _, _, _, _ => g.elim
  | .branch 0 (.leaf (some (_ + 3, _, _, _, _, _))) _, g, _, _, _, _, _ => g.elim
  | .branch 0 (.leaf none) _, g, _, _, _, _, _ => g.elim
  | .branch 0 (.branch _ _ _) _, g, _, _, _, _, _ => g.elim
  | .branch 1 (.leaf none) _, g, _, _, _, _, _ => g.elim
  | .branch 1 (.branch _ _ _) _, g, _, _, _, _, _ => g.elim
  | .branch 1 (.leaf (some (0, _, _, _, _, _))) (.leaf _), g, _, _, _, _, _ => g.elim
  | .branch 1 (.leaf (some (_ + 1, _, _, _, _, _))) (.leaf _), g, _, _, _, _, _ => g.elim
  | .branch 2 (.leaf none) _, g, _, _, _, _, _ => g.elim
  | .branch 2 (.branch _ _ _) _, g, _, _, _, _, _ => g.elim
  | .branch 2 (.leaf (some (_, _, _, _, _, _))) (.leaf _), g, _, _, _, _, _ => g.elim
  | .branch 2 (.leaf (some (_, _, _, _, _, _))) (.branch _ _ (.leaf _)), g, _, _, _, _, _ => g.elim
def pm_cl (t : Tm) (wd : Int64) (p : Int) : Prop := ∀ (F : sp_F) (K : List (Nat × Tm)) (V : List Int64) (E : List (Nat → Int64)) (n c : Nat) (ck : Nat → Int32) (cf : Nat → Int64), pm_d F t K V E n c ck cf = if 100 ≤ E.length then .error (4, p) else .ok ((0, F.2.2.2 (sp_fi F.2.1 wd F.1)) :: (2, Tm.nil) :: K, V.drop (F.2.2.1 (sp_fi F.2.1 wd F.1)).toNat, pm_ae V (F.2.2.1 (sp_fi F.2.1 wd F.1)).toNat :: E, n, c, ck, cf)
/-- what the first row of a tree's code is, and what the plain machine does there -/
def cInv (S : Nat → Nat → Int32) (nx : Nat → Int32) (H : Int32 → Int64 → Prop) (az : Int) (z : Nat) (kf : Nat → Int32) (bd nm : Nat) (t : Tm) (r : Nat) (zz : Int32) : Prop :=
  ((S 0 r).toInt = 1 ∧ ∃ (K1 : List (Nat × Tm)) (w : Nat), w ≤ 3 ∧ (∀ (K : List (Nat × Tm)) (V : List Int64) (E : List (Nat → Int64)) (n c : Nat) (ck : Nat → Int32) (cf : Nat → Int64), pm_w t K V E n c ck cf = .ok (K1 ++ K, V, E, n, c, ck, cf)) ∧ (∀ (K : List (Nat × Tm)) (m : Nat), cKo S nx H az K zz m → cKo S nx H az (K1 ++ K) (nx r) (w + m)) ∧ (∀ (K : List (Nat × Tm)) (h : Nat), cHt K (h + 1) → cHt (K1 ++ K) h) ∧ ∀ u ∈ K1, cOk z kf bd nm u) ∨
  ((S 0 r).toInt = 2 ∧ zz = nx r ∧ ∀ (K : List (Nat × Tm)) (V : List Int64) (E : List (Nat → Int64)) (n c : Nat) (ck : Nat → Int32) (cf : Nat → Int64), pm_w t K V E n c ck cf = .ok (K, pv0 (S 1 r) :: V, E, n, c, ck, cf)) ∨
  ((S 0 r).toInt = 3 ∧ zz = nx r ∧ ∃ s : Nat, (S 1 r).toInt = (s : Int) ∧ s < bd ∧ ∀ (K : List (Nat × Tm)) (V : List Int64) (E : List (Nat → Int64)) (n c : Nat) (ck : Nat → Int32) (cf : Nat → Int64), pm_w t K V E n c ck cf = .ok (K, E.headD (fun _ => 0) s :: V, E, n, c, ck, cf)) ∨
  ((S 0 r).toInt = 4 ∧ zz = nx r ∧ ∃ t2 : Tm, (∀ (K : List (Nat × Tm)) (V : List Int64) (E : List (Nat → Int64)) (n c : Nat) (ck : Nat → Int32) (cf : Nat → Int64), pm_w t K V E n c ck cf = .ok ((1, t2) :: K, V, E, n, c, ck, cf)) ∧ ∀ (F : sp_F) (K : List (Nat × Tm)) (V : List Int64) (E : List (Nat → Int64)) (n c : Nat) (ck : Nat → Int32) (cf : Nat → Int64), pm_d F t2 K V E n c ck cf = .ok (K, pv1 (S 1 r) :: V, E, n, c, ck, cf)) ∨
  ((S 0 r).toInt = 6 ∧ zz = nx r ∧ (S 2 r).toInt = 0 ∧ ∃ (t2 : Tm) (wd : Int64), H (S 1 r) wd ∧ (∀ (K : List (Nat × Tm)) (V : List Int64) (E : List (Nat → Int64)) (n c : Nat) (ck : Nat → Int32) (cf : Nat → Int64), pm_w t K V E n c ck cf = .ok ((1, t2) :: K, V, E, n, c, ck, cf)) ∧ pm_cl t2 wd (pm_pl t))
theorem cI_inv {z : Nat} {kf : Nat → Int32} {bd nm : Nat} : ∀ (t : Tm) {c : Nat} {X : List Nat} {x zz : Int32}, sy_x t → tm_wf z kf t c → c ≤ bd → tm_wi t ≤ nm → cI S H 0 az t false 0 0 0 X → zpx nx x X zz → ∃ r : Nat, x.toInt = (r : Int) ∧ (S 3 r).toInt = pm_pl t ∧ cInv S nx H az z kf bd nm t r zz
  | .leaf (some (0, p, v, _, _, _)), c, X, x, zz, _, _, _, _, h, hz => by
    obtain ⟨r, rfl, h0, h1, h3⟩ := h
    exact ⟨r, hz.1, h3, Or.inr (Or.inl ⟨h0, hz.2.symm, fun _ _ _ _ _ _ _ => by rw [← pi_of h1]; rfl⟩)⟩
  | .leaf (some (_ + 1, p, _, s, _, _)), c, X, x, zz, _, hw, hc, _, h, hz => by
    obtain ⟨r, rfl, h0, h1, h3⟩ := h
    have hw : s < c := hw
    exact ⟨r, hz.1, h3, Or.inr (Or.inr (Or.inl ⟨h0, hz.2.symm, s, h1, by omega, fun _ _ _ _ _ _ _ => rfl⟩))⟩
  | .branch 0 (.leaf (some (0, p, _, _, _, w))) a, c, X, x, zz, hs, hw, hc, hi, h, hz => by
    rcases h with ⟨-, e, r, rfl, h0, h1, h2, h3⟩ | ⟨q1, s, Y, r, rfl, g0, g3, q2, h0, h1, h2, h3⟩
    · subst e
      exact ⟨r, hz.1, h3, Or.inr (Or.inr (Or.inr (Or.inr ⟨h0, hz.2.symm, h2, Tm.call p w Tm.nil, w, h1, fun _ _ _ _ _ _ _ => rfl, fun _ _ _ _ _ _ _ _ => rfl⟩)))⟩
    · obtain ⟨z2, k1, k2⟩ := zpx_app hz.2
      refine ⟨s, hz.1, g3, Or.inl ⟨g0, pm_as a ++ [(1, Tm.call p w a)], 3, by omega, fun K _ _ _ _ _ _ => by rw [List.append_assoc]; rfl, fun K m hK => ?_, fun K h g => by rw [List.append_assoc]; exact cHt_ad hs.2.1 rfl g, ?_⟩⟩
      · rw [List.append_assoc]
        exact cKo_as (cKo_d (t := Tm.call p w a) ⟨r, k2.1, h0, h1, h2, h3, k2.2.symm, rfl⟩ hK) a hs.2.1 q2 k1
      · intro u hu
        rcases List.mem_append.mp hu with g | g
        · exact pm_as_ok hc a hs.2.1 hs.2.2 hw hi u g
        · rw [List.mem_singleton.mp g]; exact ⟨⟨rfl, hs.2⟩, ⟨c, hw, hc⟩, hi⟩
  | .branch 0 (.leaf (some (1, p, _, k, _, _))) a, c, X, x, zz, hs, hw, hc, hi, h, hz => by
    rcases h with ⟨-, e, r, rfl, h0, h1, h3⟩ | ⟨q1, s, Y, r, rfl, g0, g3, q2, h0, h1, h3⟩
    · subst e
      exact ⟨r, hz.1, h3, Or.inr (Or.inr (Or.inr (Or.inl ⟨h0, hz.2.symm, Tm.made p k Tm.nil, fun _ _ _ _ _ _ _ => rfl, fun _ _ _ _ _ _ _ _ => by rw [← pi_of h1]; rfl⟩)))⟩
    · obtain ⟨z2, k1, k2⟩ := zpx_app hz.2
      refine ⟨s, hz.1, g3, Or.inl ⟨g0, pm_as a ++ [(1, Tm.made p k a)], 1, by omega, fun K _ _ _ _ _ _ => by rw [List.append_assoc]; rfl, fun K m hK => ?_, fun K h g => by rw [List.append_assoc]; exact cHt_ad hs.2.1 rfl g, ?_⟩⟩
      · rw [List.append_assoc]
        exact cKo_as (cKo_d (t := Tm.made p k a) ⟨r, k2.1, h0, h1, q1, h3, k2.2.symm, rfl⟩ hK) a hs.2.1 q2 k1
      · intro u hu
        rcases List.mem_append.mp hu with g | g
        · exact pm_as_ok hc a hs.2.1 hs.2.2 hw.2 hi u g
        · rw [List.mem_singleton.mp g]; exact ⟨⟨rfl, hs.2⟩, ⟨c, hw, hc⟩, hi⟩
  | .branch 1 (.leaf (some (0, p, o, _, _, _))) (.branch _ a b), c, X, x, zz, hs, hw, hc, hi, h, hz => by
    obtain ⟨s, Y, Z, r, rfl, g0, g3, q1, q2, h0, h3⟩ := h
    obtain ⟨z2, k1, k2⟩ := zpx_app hz.2
    obtain ⟨z1, k3, k4⟩ := zpx_app k1
    have hi : max (tm_wi a) (tm_wi b) ≤ nm := hi
    refine ⟨s, hz.1, g3, Or.inl ⟨g0, [(0, a), (0, b), (1, Tm.bin p o a b)], 1, by omega, fun _ _ _ _ _ _ _ => rfl, fun K m hK => cKo_w q1 k3 (cKo_w q2 k4 (cKo_d (t := Tm.bin p o a b) ⟨r, k2.1, h0, h3, k2.2.symm, rfl⟩ hK)), fun K h g => ⟨by show 2 ≤ h + 1 + 1; omega, by show cHt K (h + 1 + 1 - 2 + 1); rw [show h + 1 + 1 - 2 + 1 = h + 1 from by omega]; exact g⟩, ?_⟩⟩
    intro u hu
    rcases List.mem_cons.mp hu with g | hu
    · rw [g]; exact ⟨hs.2.1, ⟨c, hw.1, hc⟩, by show tm_wi a ≤ nm; omega⟩
    · rcases List.mem_cons.mp hu with g | hu
      · rw [g]; exact ⟨hs.2.2, ⟨c, hw.2, hc⟩, by show tm_wi b ≤ nm; omega⟩
      · rw [List.mem_singleton.mp hu]; exact ⟨⟨rfl, hs.2⟩, ⟨c, hw, hc⟩, hi⟩
  | .branch 1 (.leaf (some (_ + 1, p, _, k, _, _))) (.branch _ a b), c, X, x, zz, hs, hw, hc, hi, h, hz => by
    obtain ⟨s, Y, r, Z, rfl, g0, g3, q1, h0, h1, q2⟩ := h
    obtain ⟨z2, k1, k2⟩ := zpx_app hz.2
    obtain ⟨z1, k3, k4⟩ := zpx_app k1
    have hi : max (tm_wi a) (max (k + 1) (tm_wi b)) ≤ nm := hi
    have e := k4.2
    refine ⟨s, hz.1, g3, Or.inl ⟨g0, [(0, a), (1, Tm.tlet p k a b)], 1, by omega, fun _ _ _ _ _ _ _ => rfl, fun K m hK => cKo_w q1 k3 (cKo_d (t := Tm.tlet p k a b) ⟨r, k4.1, h0, h1, ⟨Z, q2, by rw [show nx r = z2 from e]; exact k2⟩, rfl⟩ hK), fun K h g => ⟨by show 1 ≤ h + 1; omega, g⟩, ?_⟩⟩
    intro u hu
    rcases List.mem_cons.mp hu with g | hu
    · rw [g]; exact ⟨hs.2.1, ⟨c, hw.2.1, hc⟩, by show tm_wi a ≤ nm; omega⟩
    · rw [List.mem_singleton.mp hu]; exact ⟨⟨rfl, hs.2⟩, ⟨c, hw, hc⟩, hi⟩
  | .branch 2 (.leaf (some (_, p, _, _, _, _))) (.branch _ a (.branch _ b d)), c, X, x, zz, hs, hw, hc, hi, h, hz => by
    obtain ⟨s, Y, i, Z, j, U, rfl, g0, g3, q1, h0, h1, h3, q2, j0, j1, q3⟩ := h
    have hz2 : zpx nx (nx s) (Y ++ ([i] ++ (Z ++ [j] ++ U))) zz := by
      have := hz.2
      simpa [List.append_assoc] using this
    obtain ⟨z1, k1, k2⟩ := zpx_app hz2
    obtain ⟨z2, k3, k4⟩ := zpx_app k2
    have e := k3.2
    have hi : max (tm_wi a) (max (tm_wi b) (tm_wi d)) ≤ nm := hi
    refine ⟨s, hz.1, g3, Or.inl ⟨g0, [(0, a), (1, Tm.ite p a b d)], 2, by omega, fun _ _ _ _ _ _ _ => rfl, fun K m hK => cKo_w q1 k1 (cKo_d (t := Tm.ite p a b d) ⟨i, k3.1, h0, h3, ⟨Z, j, U, h1, q2, j0, j1, q3, by rw [show nx i = z2 from e]; exact k4⟩, rfl⟩ hK), fun K h g => ⟨by show 1 ≤ h + 1; omega, g⟩, ?_⟩⟩
    intro u hu
    rcases List.mem_cons.mp hu with g | hu
    · rw [g]; exact ⟨hs.2.1, ⟨c, hw.1, hc⟩, by show tm_wi a ≤ nm; omega⟩
    · rw [List.mem_singleton.mp hu]; exact ⟨⟨rfl, hs.2⟩, ⟨c, hw, hc⟩, hi⟩
  | .branch 0 (.leaf (some (2, p, _, k, _, _))) a, c, X, x, zz, hs, hw, hc, hi, h, hz => by
    obtain ⟨s, m, Y, rfl, g0, g3, h0, h1, h3, q⟩ := h
    refine ⟨s, hz.1, g3, Or.inl ⟨g0, [(1, Tm.mat p k a)], 2, by omega, fun _ _ _ _ _ _ _ => rfl, fun K n hK => cKo_d (t := Tm.mat p k a) ⟨m, hz.2.1, h0, h1, h3, ⟨Y, q, hz.2.2⟩, rfl⟩ hK, fun K h g => ⟨Nat.zero_le _, g⟩, ?_⟩⟩
    intro u hu
    rw [List.mem_singleton.mp hu]; exact ⟨⟨rfl, hs.2⟩, ⟨c, hw, hc⟩, hi⟩
  | .leaf none, _, _, _, _, hs, _, _, _, _, _ => absurd hs.1 (by decide)
  | .branch (_ + 3) _ _, _, _, _, _, hs, _, _, _, _, _ => absurd hs.1 (fun g => nomatch (show (0 : Nat) = 1 from g))
  | .branch 0 (.leaf (some (_ + 3, _, _, _, _, _))) _, _, _, _, _, hs, _, _, _, _, _ => absurd hs.1 (fun g => nomatch (show (2 : Nat) = 1 from g))
  | .branch 0 (.leaf none) _, _, _, _, _, _, _, _, _, h9, _ => h9.elim
  | .branch 0 (.branch _ _ _) _, _, _, _, _, _, _, _, _, h9, _ => h9.elim
  | .branch 1 (.leaf none) _, _, _, _, _, _, _, _, _, h9, _ => h9.elim
  | .branch 1 (.branch _ _ _) _, _, _, _, _, _, _, _, _, h9, _ => h9.elim
  | .branch 1 (.leaf (some (0, _, _, _, _, _))) (.leaf _), _, _, _, _, _, _, _, _, h9, _ => h9.elim
  | .branch 1 (.leaf (some (_ + 1, _, _, _, _, _))) (.leaf _), _, _, _, _, _, _, _, _, h9, _ => h9.elim
  | .branch 2 (.leaf none) _, _, _, _, _, _, _, _, _, h9, _ => h9.elim
  | .branch 2 (.branch _ _ _) _, _, _, _, _, _, _, _, _, h9, _ => h9.elim
  | .branch 2 (.leaf (some (_, _, _, _, _, _))) (.leaf _), _, _, _, _, _, _, _, _, h9, _ => h9.elim
  | .branch 2 (.leaf (some (_, _, _, _, _, _))) (.branch _ _ (.leaf _)), _, _, _, _, _, _, _, _, h9, _ => h9.elim
/-- what the row of what is done behind the operands is, and what the plain machine does there -/
def cDnv (S : Nat → Nat → Int32) (nx : Nat → Int32) (H : Int32 → Int64 → Prop) (az : Int) (z : Nat) (kf : Nat → Int32) (bd nm : Nat) (t : Tm) (r : Nat) (zz : Int32) (w : Nat) : Prop :=
  ((S 0 r).toInt = 7 ∧ zz = nx r ∧ w = 3 ∧ ∃ wd : Int64, H (S 1 r) wd ∧ (S 2 r).toInt = (pm_ar t : Int) ∧ pm_cl t wd (S 3 r).toInt) ∨
  ((S 0 r).toInt = 5 ∧ zz = nx r ∧ w = 1 ∧ ∃ (q k : Nat), 0 < q ∧ pm_ar t = q ∧ (S 1 r).toInt = (k : Int) ∧ k < z ∧ (kf k).toInt = (q : Int) ∧ ∀ (F : sp_F) (K : List (Nat × Tm)) (V : List Int64) (E : List (Nat → Int64)) (n c : Nat) (ck : Nat → Int32) (cf : Nat → Int64), pm_d F t K V E n c ck cf = if 4000 ≤ c then .error (3, (S 3 r).toInt) else .ok (K, pv2 (Int32.ofInt (c : Int)) :: V.drop q, E, n, c + 1, upd ck c (S 1 r), pm_cf cf V c q)) ∨
  ((S 0 r).toInt = 15 ∧ w = 2 ∧ pm_ar t = 0 ∧ ∃ (s : Nat) (a : Tm) (Y : List Nat) (c0 : Nat), (S 1 r).toInt = (s : Int) ∧ s < bd ∧ c0 ≤ bd ∧ tm_li a ∧ tm_sy a true ∧ tm_wf z kf a c0 ∧ tm_ln a ≤ 8 ∧ tm_wi a ≤ nm ∧ cI S H 0 az a true r (S 2 r) (zla r Y) Y ∧ zpx nx (nx r) Y zz ∧ ∀ (F : sp_F) (K : List (Nat × Tm)) (V : List Int64) (E : List (Nat → Int64)) (n c : Nat) (ck : Nat → Int32) (cf : Nat → Int64), pm_d F t K V E n c ck cf = pm_mt (S 3 r).toInt s a K V E n c ck cf) ∨
  (zz = nx r ∧ w = 1 ∧ pm_ar t = 2 ∧ ∃ o : Int, (S 0 r).toInt = cI_op o ∧ ∀ (F : sp_F) (K : List (Nat × Tm)) (V : List Int64) (E : List (Nat → Int64)) (n c : Nat) (ck : Nat → Int32) (cf : Nat → Int64), pm_d F t K V E n c ck cf = if zhs (V.getD 1 0) = 0 ∧ zhs (V.getD 0 0) = 0 then .ok (K, pv0 (pm_op o (V.getD 1 0).toInt32 (V.getD 0 0).toInt32) :: V.drop 2, E, n, c, ck, cf) else .error (2, (S 3 r).toInt)) ∨
  ((S 0 r).toInt = 12 ∧ w = 1 ∧ pm_ar t = 1 ∧ ∃ (s : Nat) (b : Tm) (Z : List Nat), (S 1 r).toInt = (s : Int) ∧ s ≤ bd ∧ s < nm ∧ cI S H 0 az b false 0 0 0 Z ∧ zpx nx (nx r) Z zz ∧ cOk z kf (max bd (s + 1)) nm (0, b) ∧ ∀ (F : sp_F) (K : List (Nat × Tm)) (V : List Int64) (E : List (Nat → Int64)) (n c : Nat) (ck : Nat → Int32) (cf : Nat → Int64), pm_d F t K V E n c ck cf = .ok ((0, b) :: K, V.drop 1, vp_updL (E.headD (fun _ => 0)) s (V.getD 0 0) :: E.tail, n, c, ck, cf)) ∨
  ((S 0 r).toInt = 13 ∧ w = 2 ∧ pm_ar t = 1 ∧ ∃ (b d : Tm) (Z : List Nat) (j : Nat) (U : List Nat), (S 1 r).toInt = (j : Int) ∧ cI S H 0 az b false 0 0 0 Z ∧ (S 0 j).toInt = 14 ∧ (S 1 j).toInt = (zla j U : Int) ∧ cI S H 0 az d false 0 0 0 U ∧ zpx nx (nx r) (Z ++ [j] ++ U) zz ∧ cOk z kf bd nm (0, b) ∧ cOk z kf bd nm (0, d) ∧ ∀ (F : sp_F) (K : List (Nat × Tm)) (V : List Int64) (E : List (Nat → Int64)) (n c : Nat) (ck : Nat → Int32) (cf : Nat → Int64), pm_d F t K V E n c ck cf = if zhs (V.getD 0 0) = 0 then .ok ((0, if (V.getD 0 0).toInt32 = 0 then d else b) :: K, V.drop 1, E, n, c, ck, cf) else .error (2, (S 3 r).toInt))
theorem cD_inv {z : Nat} {kf : Nat → Int32} {bd nm : Nat} : ∀ (t : Tm) {j c : Nat} {x zz : Int32} {w : Nat}, cOk z kf bd nm (j, t) → cDo S nx H az t x zz w → ∃ r : Nat, x.toInt = (r : Int) ∧ cDnv S nx H az z kf bd nm t r zz w
  | .branch 0 (.leaf (some (0, p, _, _, _, wd))) a, _, _, x, zz, w, _, h => by
    obtain ⟨r, h0, h1, h2, h3, h4, h5, h6⟩ := h
    exact ⟨r, h0, Or.inl ⟨h1, h5, h6, wd, h2, h3, fun _ _ _ _ _ _ _ _ => by rw [h4]; rfl⟩⟩
  | .branch 0 (.leaf (some (1, p, _, k, _, _))) a, _, _, x, zz, w, ok, h => by
    obtain ⟨r, h0, h1, h2, h3, h4, h5, h6⟩ := h
    obtain ⟨-, ⟨c0, w1, w2⟩, -⟩ := ok
    refine ⟨r, h0, Or.inr (Or.inl ⟨h1, h5, h6, tm_ln a, k, h3, rfl, h2, w1.1.1, w1.1.2, fun F K V E n c ck cf => ?_⟩)⟩
    have e : ¬ tm_ln a = 0 := by omega
    rw [← pi_of h2, h4]
    exact if_neg e
  | .branch 0 (.leaf (some (2, p, _, s, _, _))) a, _, _, x, zz, w, ok, h => by
    obtain ⟨r, h0, h1, h2, h4, ⟨Y, y1, y2⟩, h6⟩ := h
    obtain ⟨s1, ⟨c0, w1, w2⟩, w3⟩ := ok
    have w4 : s < c0 := w1.1.1
    refine ⟨r, h0, Or.inr (Or.inr (Or.inl ⟨h1, h6, rfl, s, a, Y, c0, h2, by omega, w2, s1.2.1, s1.2.2, w1.2, w1.1.2.2, w3, y1, y2, fun F K V E n c ck cf => ?_⟩))⟩
    rw [h4]
    rfl
  | .branch 1 (.leaf (some (0, p, o, _, _, _))) (.branch _ a b), _, _, x, zz, w, _, h => by
    obtain ⟨r, h0, h1, h4, h5, h6⟩ := h
    exact ⟨r, h0, Or.inr (Or.inr (Or.inr (Or.inl ⟨h5, h6, rfl, o, h1, fun _ _ _ _ _ _ _ _ => by rw [h4]; rfl⟩)))⟩
  | .branch 1 (.leaf (some (_ + 1, p, _, s, _, _))) (.branch _ a b), _, _, x, zz, w, ok, h => by
    obtain ⟨r, h0, h1, h2, ⟨Z, z1, z2⟩, h6⟩ := h
    obtain ⟨s1, ⟨c0, w1, w2⟩, w3⟩ := ok
    have w3 : max (tm_wi a) (max (s + 1) (tm_wi b)) ≤ nm := w3
    have w4 : s = c0 := w1.1.1
    exact ⟨r, h0, Or.inr (Or.inr (Or.inr (Or.inr (Or.inl ⟨h1, h6, rfl, s, b, Z, h2, by omega, by omega, z1, z2, ⟨s1.2.2, ⟨c0 + 1, w1.2.2, by omega⟩, by show tm_wi b ≤ nm; omega⟩, fun _ _ _ _ _ _ _ _ => rfl⟩))))⟩
  | .branch 2 (.leaf (some (_, p, _, _, _, _))) (.branch _ a (.branch _ b d)), _, _, x, zz, w, ok, h => by
    obtain ⟨r, h0, h1, h4, ⟨Z, j, U, q1, q2, q3, q4, q5, q6⟩, h6⟩ := h
    obtain ⟨s1, ⟨c0, w1, w2⟩, w3⟩ := ok
    have w3 : max (tm_wi a) (max (tm_wi b) (tm_wi d)) ≤ nm := w3
    exact ⟨r, h0, Or.inr (Or.inr (Or.inr (Or.inr (Or.inr ⟨h1, h6, rfl, b, d, Z, j, U, q1, q2, q3, q4, q5, q6, ⟨s1.2.2.1, ⟨c0, w1.2.1, w2⟩, by show tm_wi b ≤ nm; omega⟩, ⟨s1.2.2.2, ⟨c0, w1.2.2, w2⟩, by show tm_wi d ≤ nm; omega⟩, fun _ _ _ _ _ _ _ _ => by rw [h4]; rfl⟩))))⟩
  | .leaf none, _, _, _, _, _, _, h => h.elim
  | .branch (_ + 3) _ _, _, _, _, _, _, _, h => h.elim
  | .leaf (some (0, _, _, _, _, _)), _, _, _, _, _, _, h => h.elim
  | .leaf (some (_ + 1, _, _, _, _, _)), _, _, _, _, _, _, h => h.elim
  | .branch 0 (.leaf (some (_ + 3, _, _, _, _, _))) _, _, _, _, _, _, _, h => h.elim
  | .branch 0 (.leaf none) _, _, _, _, _, _, _, h => h.elim
  | .branch 0 (.branch _ _ _) _, _, _, _, _, _, _, h => h.elim
  | .branch 1 (.leaf none) _, _, _, _, _, _, _, h => h.elim
  | .branch 1 (.branch _ _ _) _, _, _, _, _, _, _, h => h.elim
  | .branch 1 (.leaf (some (0, _, _, _, _, _))) (.leaf _), _, _, _, _, _, _, h => h.elim
  | .branch 1 (.leaf (some (_ + 1, _, _, _, _, _))) (.leaf _), _, _, _, _, _, _, h => h.elim
  | .branch 2 (.leaf none) _, _, _, _, _, _, _, h => h.elim
  | .branch 2 (.branch _ _ _) _, _, _, _, _, _, _, h => h.elim
  | .branch 2 (.leaf (some (_, _, _, _, _, _))) (.leaf _), _, _, _, _, _, _, h => h.elim
  | .branch 2 (.leaf (some (_, _, _, _, _, _))) (.branch _ _ (.leaf _)), _, _, _, _, _, _, h => h.elim
theorem cI_op_r (o : Int) : 8 ≤ cI_op o ∧ cI_op o ≤ 11 := by unfold cI_op; split <;> (try split) <;> (try split) <;> omega
/-- at a row that begins a tree's work -/
theorem cK_w {z : Nat} {kf : Nat → Int32} {bd nm : Nat} {K : List (Nat × Tm)} {x : Int32} {r m : Nat} (hr : x.toInt = (r : Int)) (ho : (S 0 r).toInt = 1 ∨ (S 0 r).toInt = 2 ∨ (S 0 r).toInt = 3 ∨ (S 0 r).toInt = 4 ∨ (S 0 r).toInt = 6) (hk : ∀ u ∈ K, cOk z kf bd nm u) (h : cKo S nx H az K x m) : ∃ (t : Tm) (K2 : List (Nat × Tm)) (zz : Int32), K = (0, t) :: K2 ∧ (S 3 r).toInt = pm_pl t ∧ cInv S nx H az z kf bd nm t r zz ∧ cKo S nx H az K2 zz m := by
  have hs : ∀ {n : Nat} {y : Int32}, cSi S nx n x y → n = 0 ∧ x = y := fun {n y} g => by
    cases n with
    | zero => exact ⟨rfl, g⟩
    | succ n =>
      obtain ⟨r2, a, b⟩ := g
      obtain rfl : r2 = r := by omega
      rcases b with ⟨b, -⟩ | ⟨b, -⟩ <;> omega
  cases K with
  | nil =>
    obtain ⟨n, y, r2, a, b, c, d⟩ := h
    obtain ⟨-, rfl⟩ := hs a
    obtain rfl : r2 = r := by omega
    omega
  | cons u K2 =>
    obtain ⟨j, t⟩ := u
    obtain ⟨n, y, zz, w, m2, a, b, c, d⟩ := h
    obtain ⟨rfl, rfl⟩ := hs a
    have ok := hk (j, t) List.mem_cons_self
    rcases b with ⟨rfl, ⟨X, b1, b2⟩, rfl⟩ | ⟨rfl, b1⟩
    · obtain ⟨s1, ⟨c0, w1, w2⟩, w3⟩ := ok
      obtain ⟨r2, e1, e2, e3⟩ := cI_inv t s1 w1 w2 w3 b1 b2
      obtain rfl : r2 = r := by omega
      exact ⟨t, K2, zz, rfl, e2, e3, by rw [show m = m2 from by omega]; exact c⟩
    · obtain ⟨r2, e1, e2⟩ := cD_inv (c := 0) t ok b1
      obtain rfl : r2 = r := by omega
      exfalso
      rcases e2 with e | e | e | e | e | e
      · have := e.1; omega
      · have := e.1; omega
      · have := e.1; omega
      · obtain ⟨-, -, -, o, e, -⟩ := e; have := cI_op_r o; omega
      · have := e.1; omega
      · have := e.1; omega
/-- at a row of what is done behind the operands -/
theorem cK_d {z : Nat} {kf : Nat → Int32} {bd nm : Nat} {K : List (Nat × Tm)} {x : Int32} {r m : Nat} (hr : x.toInt = (r : Int)) (ho : (S 0 r).toInt = 5 ∨ 7 ≤ (S 0 r).toInt ∧ (S 0 r).toInt ≤ 13 ∨ (S 0 r).toInt = 15) (hk : ∀ u ∈ K, cOk z kf bd nm u) (h : cKo S nx H az K x m) : ∃ (t : Tm) (K2 : List (Nat × Tm)) (zz : Int32) (w m2 : Nat), K = (1, t) :: K2 ∧ cDnv S nx H az z kf bd nm t r zz w ∧ cKo S nx H az K2 zz m2 ∧ m = w + m2 := by
  have hs : ∀ {n : Nat} {y : Int32}, cSi S nx n x y → n = 0 ∧ x = y := fun {n y} g => by
    cases n with
    | zero => exact ⟨rfl, g⟩
    | succ n =>
      obtain ⟨r2, a, b⟩ := g
      obtain rfl : r2 = r := by omega
      rcases b with ⟨b, -⟩ | ⟨b, -⟩ <;> omega
  cases K with
  | nil =>
    obtain ⟨n, y, r2, a, b, c, d⟩ := h
    obtain ⟨-, rfl⟩ := hs a
    obtain rfl : r2 = r := by omega
    omega
  | cons u K2 =>
    obtain ⟨j, t⟩ := u
    obtain ⟨n, y, zz, w, m2, a, b, c, d⟩ := h
    obtain ⟨rfl, rfl⟩ := hs a
    have ok := hk (j, t) List.mem_cons_self
    rcases b with ⟨rfl, ⟨X, b1, b2⟩, rfl⟩ | ⟨rfl, b1⟩
    · obtain ⟨s1, ⟨c0, w1, w2⟩, w3⟩ := ok
      obtain ⟨r2, e1, e2, e3⟩ := cI_inv t s1 w1 w2 w3 b1 b2
      obtain rfl : r2 = r := by omega
      exfalso
      rcases e3 with e | e | e | e | e <;> (have := e.1; omega)
    · obtain ⟨r2, e1, e2⟩ := cD_inv (c := 0) t ok b1
      obtain rfl : r2 = r := by omega
      exact ⟨t, K2, zz, w, m2, rfl, e2, c, by omega⟩
/-- at a function's last row -/
theorem cK_r {z : Nat} {kf : Nat → Int32} {bd nm : Nat} {K : List (Nat × Tm)} {x : Int32} {r m : Nat} (hr : x.toInt = (r : Int)) (ho : (S 0 r).toInt = 17) (hk : ∀ u ∈ K, cOk z kf bd nm u) (h : cKo S nx H az K x m) : K = [] ∧ m = 1 := by
  have hs : ∀ {n : Nat} {y : Int32}, cSi S nx n x y → n = 0 ∧ x = y := fun {n y} g => by
    cases n with
    | zero => exact ⟨rfl, g⟩
    | succ n =>
      obtain ⟨r2, a, b⟩ := g
      obtain rfl : r2 = r := by omega
      rcases b with ⟨b, -⟩ | ⟨b, -⟩ <;> omega
  cases K with
  | nil =>
    obtain ⟨n, y, r2, a, b, c, d⟩ := h
    obtain ⟨rfl, rfl⟩ := hs a
    exact ⟨rfl, d⟩
  | cons u K2 =>
    obtain ⟨j, t⟩ := u
    obtain ⟨n, y, zz, w, m2, a, b, c, d⟩ := h
    obtain ⟨rfl, rfl⟩ := hs a
    have ok := hk (j, t) List.mem_cons_self
    exfalso
    rcases b with ⟨rfl, ⟨X, b1, b2⟩, rfl⟩ | ⟨rfl, b1⟩
    · obtain ⟨s1, ⟨c0, w1, w2⟩, w3⟩ := ok
      obtain ⟨r2, e1, e2, e3⟩ := cI_inv t s1 w1 w2 w3 b1 b2
      obtain rfl : r2 = r := by omega
      rcases e3 with e | e | e | e | e <;> (have := e.1; omega)
    · obtain ⟨r2, e1, e2⟩ := cD_inv (c := 0) t ok b1
      obtain rfl : r2 = r := by omega
      rcases e2 with e | e | e | e | e | e
      · have := e.1; omega
      · have := e.1; omega
      · have := e.1; omega
      · obtain ⟨-, -, -, o, e, -⟩ := e; have := cI_op_r o; omega
      · have := e.1; omega
      · have := e.1; omega
/-- at a row that only leads on -/
theorem cK_s {z : Nat} {kf : Nat → Int32} {bd nm : Nat} {K : List (Nat × Tm)} {x : Int32} {r m : Nat} (hr : x.toInt = (r : Int)) (ho : (S 0 r).toInt = 0 ∨ (S 0 r).toInt = 14 ∨ (S 0 r).toInt = 16) (hk : ∀ u ∈ K, cOk z kf bd nm u) (h : cKo S nx H az K x m) : ∃ m2 : Nat, m = m2 + 1 ∧ ((S 0 r).toInt = 0 ∧ cKo S nx H az K (nx r) m2 ∨ (S 0 r).toInt ≠ 0 ∧ 0 ≤ (S 1 r).toInt ∧ cKo S nx H az K (nx (Int32.toNatClampNeg (S 1 r))) m2) := by
  have key : ∀ {n : Nat} {y : Int32}, cSi S nx (n + 1) x y → (S 0 r).toInt = 0 ∧ cSi S nx n (nx r) y ∨ (S 0 r).toInt ≠ 0 ∧ 0 ≤ (S 1 r).toInt ∧ cSi S nx n (nx (Int32.toNatClampNeg (S 1 r))) y := fun {n y} g => by
    obtain ⟨r2, a, b⟩ := g
    obtain rfl : r2 = r := by omega
    rcases b with ⟨b1, b2, b3⟩ | ⟨b1, b2⟩
    · exact Or.inr ⟨by omega, b2, b3⟩
    · exact Or.inl ⟨b1, b2⟩
  cases K with
  | nil =>
    obtain ⟨n, y, r2, a, b, c, d⟩ := h
    cases n with
    | zero =>
      obtain rfl : x = y := a
      obtain rfl : r2 = r := by omega
      omega
    | succ n =>
      refine ⟨n + 1, by omega, (key a).imp (fun g => ⟨g.1, n, y, r2, g.2, b, c, rfl⟩) (fun g => ⟨g.1, g.2.1, n, y, r2, g.2.2, b, c, rfl⟩)⟩
  | cons u K2 =>
    obtain ⟨j, t⟩ := u
    obtain ⟨n, y, zz, w, m2, a, b, c, d⟩ := h
    cases n with
    | zero =>
      obtain rfl : x = y := a
      have ok := hk (j, t) List.mem_cons_self
      exfalso
      rcases b with ⟨rfl, ⟨X, b1, b2⟩, rfl⟩ | ⟨rfl, b1⟩
      · obtain ⟨s1, ⟨c0, w1, w2⟩, w3⟩ := ok
        obtain ⟨r2, e1, e2, e3⟩ := cI_inv t s1 w1 w2 w3 b1 b2
        obtain rfl : r2 = r := by omega
        rcases e3 with e | e | e | e | e <;> (have := e.1; omega)
      · obtain ⟨r2, e1, e2⟩ := cD_inv (c := 0) t ok b1
        obtain rfl : r2 = r := by omega
        rcases e2 with e | e | e | e | e | e
        · have := e.1; omega
        · have := e.1; omega
        · have := e.1; omega
        · obtain ⟨-, -, -, o, e, -⟩ := e; have := cI_op_r o; omega
        · have := e.1; omega
        · have := e.1; omega
    | succ n =>
      refine ⟨n + w + m2, by omega, (key a).imp (fun g => ⟨g.1, n, y, zz, w, m2, g.2, b, c, rfl⟩) (fun g => ⟨g.1, g.2.1, n, y, zz, w, m2, g.2.2, b, c, rfl⟩)⟩
end

end
section
/-! the class's stack, calls and cells, as the plain machine has them -/
def cTop (gs : Nat → Int64) (b nm : Nat) (Vs : List Int64) (e : Nat → Int64) (bd tp : Nat) : Prop := tp = b + nm + Vs.length ∧ (∀ j, j < Vs.length → gs (b + nm + j) = Vs.getD (Vs.length - 1 - j) 0) ∧ (∀ k, k < bd → gs (b + k) = e k) ∧ bd ≤ nm
theorem cTop_cg {gs gs2 : Nat → Int64} {b nm bd tp : Nat} {Vs : List Int64} {e : Nat → Int64} (hg : ∀ j, j < tp → gs2 j = gs j) (h : cTop gs b nm Vs e bd tp) : cTop gs2 b nm Vs e bd tp := by
  obtain ⟨h1, h2, h3, h4⟩ := h
  exact ⟨h1, fun j hj => by rw [hg _ (by omega)]; exact h2 j hj, fun k hk => by rw [hg _ (by omega)]; exact h3 k hk, h4⟩
theorem cul_s {f : Nat → Int64} {t : Nat} {v : Int64} : vp_updL f t v t = v := by unfold vp_updL; rw [if_pos rfl]
theorem cul_n {f : Nat → Int64} {t j : Nat} {v : Int64} (h : j ≠ t) : vp_updL f t v j = f j := by unfold vp_updL; rw [if_neg h]
theorem cTop_pu {gs gs2 : Nat → Int64} {b nm bd tp : Nat} {Vs : List Int64} {e : Nat → Int64} {v : Int64} (h : cTop gs b nm Vs e bd tp) (hg : gs2 = vp_updL gs tp v) : cTop gs2 b nm (v :: Vs) e bd (tp + 1) := by
  obtain ⟨h1, h2, h3, h4⟩ := h
  subst hg
  refine ⟨by rw [List.length_cons]; omega, fun j hj => ?_, fun k hk => by rw [cul_n (by omega)]; exact h3 k hk, h4⟩
  rw [List.length_cons] at hj ⊢
  by_cases g : j = Vs.length
  · rw [show b + nm + j = tp from by omega, cul_s, show Vs.length + 1 - 1 - j = 0 from by omega]; rfl
  · rw [cul_n (by omega), h2 j (by omega), show Vs.length + 1 - 1 - j = (Vs.length - 1 - j) + 1 from by omega]; rfl
theorem cTop_dr {gs : Nat → Int64} {b nm bd tp q : Nat} {Vs : List Int64} {e : Nat → Int64} (h : cTop gs b nm Vs e bd tp) (hq : q ≤ Vs.length) : cTop gs b nm (Vs.drop q) e bd (tp - q) ∧ (∀ i, i < q → gs (tp - q + i) = Vs.getD (q - 1 - i) 0) ∧ b + nm ≤ tp - q := by
  obtain ⟨h1, h2, h3, h4⟩ := h
  refine ⟨⟨by rw [List.length_drop]; omega, fun j hj => ?_, h3, h4⟩, fun i hi => ?_, by omega⟩
  · rw [List.length_drop] at hj ⊢
    rw [h2 j (by omega), List.getD_eq_getElem?_getD, List.getD_eq_getElem?_getD, List.getElem?_drop, show q + (Vs.length - q - 1 - j) = Vs.length - 1 - j from by omega]
  · rw [show tp - q + i = b + nm + (Vs.length - q + i) from by omega, h2 _ (by omega), show Vs.length - 1 - (Vs.length - q + i) = q - 1 - i from by omega]
theorem cTop_se {gs gs2 : Nat → Int64} {b nm bd tp s : Nat} {Vs : List Int64} {e : Nat → Int64} {v : Int64} (h : cTop gs b nm Vs e bd tp) (hs : s ≤ bd) (hn : s < nm) (hg : gs2 = vp_updL gs (b + s) v) : cTop gs2 b nm Vs (vp_updL e s v) (max bd (s + 1)) tp := by
  obtain ⟨h1, h2, h3, h4⟩ := h
  subst hg
  refine ⟨h1, fun j hj => by rw [cul_n (by omega)]; exact h2 j hj, fun k hk => ?_, by omega⟩
  by_cases g : k = s
  · rw [g, cul_s, cul_s]
  · rw [cul_n (by omega), cul_n g]; exact h3 k (by omega)
abbrev cFm := Nat × Nat × List (Nat × Tm) × List Int64 × (Nat → Int64) × Nat
/-- the calls that wait: b, nm their names' rows, K what is to do, Vs their values -/
def cFr (S : Nat → Nat → Int32) (nx : Nat → Int32) (H : Int32 → Int64 → Prop) (az : Int) (z : Nat) (kf : Nat → Int32) (gs : Nat → Int64) (kb kk : Nat → Int32) : List cFm → Nat → Int32 → Nat → Prop
  | [], _, _, m => m = 0
  | (b, nm, K, Vs, e, bd) :: fs, tp, x, m => cTop gs b nm Vs e bd tp ∧ (kb fs.length).toInt = (b : Int) ∧ (∀ u ∈ K, cOk z kf bd nm u) ∧ cHt K (Vs.length + 1) ∧ ∃ m1 m2 : Nat, cKo S nx H az K x m1 ∧ cFr S nx H az z kf gs kb kk fs b (kk fs.length) m2 ∧ m = m1 + m2
theorem cFr_cg {S : Nat → Nat → Int32} {nx : Nat → Int32} {H : Int32 → Int64 → Prop} {az : Int} {z : Nat} {kf : Nat → Int32} {gs gs2 : Nat → Int64} {kb kk kb2 kk2 : Nat → Int32} : ∀ {fs : List cFm} {tp : Nat} {x : Int32} {m : Nat}, (∀ j, j < tp → gs2 j = gs j) → (∀ i, i < fs.length → kb2 i = kb i ∧ kk2 i = kk i) → cFr S nx H az z kf gs kb kk fs tp x m → cFr S nx H az z kf gs2 kb2 kk2 fs tp x m
  | [], _, _, _, _, _, h => h
  | (b, nm, K, Vs, e, bd) :: fs, tp, x, m, hg, hk, ⟨h1, h2, h3, h4, m1, m2, h5, h6, h7⟩ => by
    have hl : fs.length < ((b, nm, K, Vs, e, bd) :: fs).length := by rw [List.length_cons]; omega
    have hb : b ≤ tp := by have := h1.1; omega
    exact ⟨cTop_cg hg h1, by rw [(hk _ hl).1]; exact h2, h3, h4, m1, m2, h5, by rw [(hk _ hl).2]; exact cFr_cg (fun j hj => hg j (by omega)) (fun i hi => hk i (by omega)) h6, h7⟩
def cTs : List cFm → List (Nat × Tm)
  | [] => []
  | f :: fs => f.2.2.1 ++ (2, Tm.nil) :: cTs fs
def cVs : List cFm → List Int64
  | [] => []
  | f :: fs => f.2.2.2.1 ++ cVs fs
def cEs : List cFm → List (Nat → Int64)
  | [] => []
  | f :: fs => f.2.2.2.2.1 :: cEs fs
theorem cEs_ln : ∀ fs : List cFm, (cEs fs).length = fs.length
  | [] => rfl
  | _ :: fs => by show (cEs fs).length + 1 = fs.length + 1; rw [cEs_ln fs]
/-- the cells -/
def cCe (kz : Int32) (kf gk : Nat → Int32) (gv : Nat → Int64) (c : Nat) (ck : Nat → Int32) (cf : Nat → Int64) : Prop := ∀ i, i < c → gk i = ck i ∧ ∀ k : Nat, (k : Int) < zfk kz kf (ck i) → gv (3 * i + k) = cf (3 * i + k)
/-- the class at row x, as the plain machine is -/
def cSm (S : Nat → Nat → Int32) (nx : Nat → Int32) (H : Int32 → Int64 → Prop) (az : Int) (z : Nat) (kz : Int32) (kf : Nat → Int32) (gs : Nat → Int64) (kb kk : Nat → Int32) (gk : Nat → Int32) (gv : Nat → Int64) (on ba tp st fr : Int32) (x : Int32) (i : Int) (s : pm_S) : Prop :=
  ∃ (b nm : Nat) (K : List (Nat × Tm)) (Vs : List Int64) (e : Nat → Int64) (bd : Nat) (fs : List cFm) (m1 m2 tn sn cn : Nat) (ck : Nat → Int32) (cf : Nat → Int64), (tp.toInt = (tn : Int) ∧ st.toInt = (sn : Int) ∧ fr.toInt = (cn : Int) ∧ on.toInt = (fs.length : Int) + 1 ∧ ba.toInt = (b : Int)) ∧ (cTop gs b nm Vs e bd tn ∧ (kb fs.length).toInt = (b : Int) ∧ (∀ u ∈ K, cOk z kf bd nm u) ∧ cHt K Vs.length) ∧ cKo S nx H az K x m1 ∧ cFr S nx H az z kf gs kb kk fs b (kk fs.length) m2 ∧ s = (K ++ (2, Tm.nil) :: cTs fs, Vs ++ cVs fs, e :: cEs fs, sn, cn, ck, cf) ∧ cCe kz kf gk gv cn ck cf ∧ i + m1 + m2 ≤ 4 * (sn : Int) + 2

end
section
/-! one turn of the class, and the plain machine's steps -/
section
variable {S : Nat → Nat → Int32} {nx : Nat → Int32} {H : Int32 → Int64 → Prop} {az : Int} {z : Nat} {kz : Int32} {kf : Nat → Int32} {gs gs2 : Nat → Int64} {kb kk kb2 kk2 gk gk2 : Nat → Int32} {gv gv2 : Nat → Int64} {on ba tp st fr on2 ba2 tp2 st2 fr2 x x2 : Int32} {i : Int} {s : pm_S} {F : sp_F} {al r : Nat}
theorem cs_si (h : cSm S nx H az z kz kf gs kb kk gk gv on ba tp st fr x i s) (hr : x.toInt = (r : Int)) (ho : (S 0 r).toInt = 0 ∨ (S 0 r).toInt = 14 ∨ (S 0 r).toInt = 16) (h0 : (S 0 r).toInt = 0 → x2 = nx r) (h1 : (S 0 r).toInt ≠ 0 → 0 ≤ (S 1 r).toInt → x2 = nx (Int32.toNatClampNeg (S 1 r))) : cSm S nx H az z kz kf gs kb kk gk gv on ba tp st fr x2 (i + 1) s := by
  obtain ⟨b, nm, K, Vs, e, bd, fs, m1, m2, tn, sn, cn, ck, cf, hn, ⟨ht, hb, hk, hh⟩, hK, hF, hs, hc, hm⟩ := h
  obtain ⟨m3, e3, g⟩ := cK_s hr ho hk hK
  refine ⟨b, nm, K, Vs, e, bd, fs, m3, m2, tn, sn, cn, ck, cf, hn, ⟨ht, hb, hk, hh⟩, ?_, hF, hs, hc, by omega⟩
  rcases g with ⟨g1, g2⟩ | ⟨g1, g2, g3⟩
  · rw [h0 g1]; exact g2
  · rw [h1 g1 g2]; exact g3
/-- a STEP more than allowed -/
theorem cs_cut (h : cSm S nx H az z kz kf gs kb kk gk gv on ba tp st fr x i s) (hr : x.toInt = (r : Int)) (ho : (S 0 r).toInt = 1 ∨ (S 0 r).toInt = 2 ∨ (S 0 r).toInt = 3 ∨ (S 0 r).toInt = 4 ∨ (S 0 r).toInt = 6) (ha : st.toInt = (al : Int)) : pm_st F al s = .error (5, (S 3 r).toInt) := by
  obtain ⟨b, nm, K, Vs, e, bd, fs, m1, m2, tn, sn, cn, ck, cf, ⟨n1, n2, n3, n4, n5⟩, ⟨ht, hb, hk, hh⟩, hK, hF, rfl, hc, hm⟩ := h
  obtain ⟨t, K2, zz, rfl, g1, g2, g3⟩ := cK_w hr ho hk hK
  have e1 : sn = al := by omega
  subst e1
  rw [g1]
  exact pm_st_c
theorem cs_1 (h : cSm S nx H az z kz kf gs kb kk gk gv on ba tp st fr x i s) (hr : x.toInt = (r : Int)) (ho : (S 0 r).toInt = 1) (ha : st.toInt < (al : Int)) (e2 : st2.toInt = st.toInt + 1) : ∃ s2, pm_st F al s = .ok s2 ∧ cSm S nx H az z kz kf gs kb kk gk gv on ba tp st2 fr (nx r) (i + 1) s2 := by
  obtain ⟨b, nm, K, Vs, e, bd, fs, m1, m2, tn, sn, cn, ck, cf, ⟨n1, n2, n3, n4, n5⟩, ⟨ht, hb, hk, hh⟩, hK, hF, rfl, hc, hm⟩ := h
  obtain ⟨t, K2, zz, rfl, g1, g2, g3⟩ := cK_w hr (Or.inl ho) hk hK
  obtain ⟨-, K1, w, w3, p1, p2, p3, p4⟩ := g2.resolve_right (fun g => by rcases g with g | g | g | g <;> (have := g.1; omega))
  have e1 : ¬ sn = al := by omega
  refine ⟨(K1 ++ K2 ++ (2, Tm.nil) :: cTs fs, Vs ++ cVs fs, e :: cEs fs, sn + 1, cn, ck, cf), ?_, b, nm, K1 ++ K2, Vs, e, bd, fs, w + m1, m2, tn, sn + 1, cn, ck, cf, ⟨n1, by omega, n3, n4, n5⟩, ⟨ht, hb, fun u hu => ?_, p3 K2 _ hh⟩, p2 K2 m1 g3, hF, rfl, hc, by omega⟩
  · rw [List.append_assoc]
    exact (pm_st_w e1).trans (p1 _ _ _ _ _ _ _)
  · rcases List.mem_append.mp hu with g | g
    · exact p4 u g
    · exact hk u (List.mem_cons_of_mem _ g)
/-- a value more -/
theorem cs_pu {b nm tn sn cn m1 m2 : Nat} {K2 : List (Nat × Tm)} {Vs : List Int64} {e : Nat → Int64} {bd : Nat} {fs : List cFm} {ck : Nat → Int32} {cf : Nat → Int64} {v : Int64} {t : Tm} (hn : tp.toInt = (tn : Int) ∧ st.toInt = (sn : Int) ∧ fr.toInt = (cn : Int) ∧ on.toInt = (fs.length : Int) + 1 ∧ ba.toInt = (b : Int)) (ht : cTop gs b nm Vs e bd tn) (hb : (kb fs.length).toInt = (b : Int)) (hk : ∀ u ∈ (0, t) :: K2, cOk z kf bd nm u) (hh : cHt ((0, t) :: K2) Vs.length) (hK : cKo S nx H az K2 x2 m1) (hF : cFr S nx H az z kf gs kb kk fs b (kk fs.length) m2) (hc : cCe kz kf gk gv cn ck cf) (hm : i + m1 + m2 ≤ 4 * (sn : Int) + 2) (e2 : st2.toInt = st.toInt + 1) (e3 : tp2.toInt = tp.toInt + 1) (e4 : gs2 = vp_updL gs (Int32.toNatClampNeg tp) v) : cSm S nx H az z kz kf gs2 kb kk gk gv on ba tp2 st2 fr x2 (i + 1) (K2 ++ (2, Tm.nil) :: cTs fs, v :: (Vs ++ cVs fs), e :: cEs fs, sn + 1, cn, ck, cf) := by
  obtain ⟨n1, n2, n3, n4, n5⟩ := hn
  have et : Int32.toNatClampNeg tp = tn := by have := zn_nat (x := tp) (by omega); omega
  rw [et] at e4
  have hb2 : b ≤ tn := by have := ht.1; omega
  exact ⟨b, nm, K2, v :: Vs, e, bd, fs, m1, m2, tn + 1, sn + 1, cn, ck, cf, ⟨by omega, by omega, n3, n4, n5⟩, ⟨cTop_pu ht e4, hb, fun u hu => hk u (List.mem_cons_of_mem _ hu), by rw [List.length_cons]; exact hh⟩, hK, cFr_cg (fun j hj => by rw [e4, cul_n (by omega)]) (fun _ _ => ⟨rfl, rfl⟩) hF, rfl, hc, by omega⟩
theorem cs_2 (h : cSm S nx H az z kz kf gs kb kk gk gv on ba tp st fr x i s) (hr : x.toInt = (r : Int)) (ho : (S 0 r).toInt = 2) (ha : st.toInt < (al : Int)) (e2 : st2.toInt = st.toInt + 1) (e3 : tp2.toInt = tp.toInt + 1) (e4 : gs2 = vp_updL gs (Int32.toNatClampNeg tp) (pv0 (S 1 r))) : ∃ s2, pm_st F al s = .ok s2 ∧ cSm S nx H az z kz kf gs2 kb kk gk gv on ba tp2 st2 fr (nx r) (i + 1) s2 := by
  obtain ⟨b, nm, K, Vs, e, bd, fs, m1, m2, tn, sn, cn, ck, cf, hn, ⟨ht, hb, hk, hh⟩, hK, hF, rfl, hc, hm⟩ := h
  obtain ⟨t, K2, zz, rfl, g1, g2, g3⟩ := cK_w hr (Or.inr (Or.inl ho)) hk hK
  obtain ⟨-, q2, p1⟩ : (S 0 r).toInt = 2 ∧ zz = nx r ∧ _ := by
    rcases g2 with g | g | g | g | g
    · have := g.1; omega
    · exact g
    · have := g.1; omega
    · have := g.1; omega
    · have := g.1; omega
  subst q2
  have e1 : ¬ sn = al := by have := hn.2.1; omega
  refine ⟨_, ?_, cs_pu hn ht hb hk hh g3 hF hc hm e2 e3 e4⟩
  exact (pm_st_w e1).trans (p1 _ _ _ _ _ _ _)
theorem cs_3 (h : cSm S nx H az z kz kf gs kb kk gk gv on ba tp st fr x i s) (hr : x.toInt = (r : Int)) (ho : (S 0 r).toInt = 3) (ha : st.toInt < (al : Int)) (e2 : st2.toInt = st.toInt + 1) (e3 : tp2.toInt = tp.toInt + 1) (e4 : gs2 = vp_updL gs (Int32.toNatClampNeg tp) (gs (Int32.toNatClampNeg ba + Int32.toNatClampNeg (S 1 r)))) : ∃ s2, pm_st F al s = .ok s2 ∧ cSm S nx H az z kz kf gs2 kb kk gk gv on ba tp2 st2 fr (nx r) (i + 1) s2 := by
  obtain ⟨b, nm, K, Vs, e, bd, fs, m1, m2, tn, sn, cn, ck, cf, hn, ⟨ht, hb, hk, hh⟩, hK, hF, rfl, hc, hm⟩ := h
  obtain ⟨t, K2, zz, rfl, g1, g2, g3⟩ := cK_w hr (Or.inr (Or.inr (Or.inl ho))) hk hK
  obtain ⟨-, q2, sl, q3, q4, p1⟩ : (S 0 r).toInt = 3 ∧ zz = nx r ∧ _ := by
    rcases g2 with g | g | g | g | g
    · have := g.1; omega
    · have := g.1; omega
    · exact g
    · have := g.1; omega
    · have := g.1; omega
  subst q2
  have e1 : ¬ sn = al := by have := hn.2.1; omega
  have eb : Int32.toNatClampNeg ba = b := by have := hn.2.2.2.2; have := zn_nat (x := ba) (by omega); omega
  have es : Int32.toNatClampNeg (S 1 r) = sl := by have := zn_nat (x := S 1 r) (by omega); omega
  rw [eb, es, ht.2.2.1 sl q4] at e4
  refine ⟨_, ?_, cs_pu hn ht hb hk hh g3 hF hc hm e2 e3 e4⟩
  exact (pm_st_w e1).trans (p1 _ _ _ _ _ _ _)
theorem cs_4 (h : cSm S nx H az z kz kf gs kb kk gk gv on ba tp st fr x i s) (hr : x.toInt = (r : Int)) (ho : (S 0 r).toInt = 4) (ha : st.toInt < (al : Int)) (e2 : st2.toInt = st.toInt + 1) (e3 : tp2.toInt = tp.toInt + 1) (e4 : gs2 = vp_updL gs (Int32.toNatClampNeg tp) (pv1 (S 1 r))) : ∃ s2, pm_re F al s s2 ∧ cSm S nx H az z kz kf gs2 kb kk gk gv on ba tp2 st2 fr (nx r) (i + 1) s2 := by
  obtain ⟨b, nm, K, Vs, e, bd, fs, m1, m2, tn, sn, cn, ck, cf, hn, ⟨ht, hb, hk, hh⟩, hK, hF, rfl, hc, hm⟩ := h
  obtain ⟨t, K2, zz, rfl, g1, g2, g3⟩ := cK_w hr (Or.inr (Or.inr (Or.inr (Or.inl ho)))) hk hK
  obtain ⟨-, q2, t2, p1, p2⟩ : (S 0 r).toInt = 4 ∧ zz = nx r ∧ _ := by
    rcases g2 with g | g | g | g | g
    · have := g.1; omega
    · have := g.1; omega
    · have := g.1; omega
    · exact g
    · have := g.1; omega
  subst q2
  have e1 : ¬ sn = al := by have := hn.2.1; omega
  refine ⟨_, pm_re_s (pm_re_s pm_re_r (s3 := ((1, t2) :: (K2 ++ (2, Tm.nil) :: cTs fs), Vs ++ cVs fs, e :: cEs fs, sn + 1, cn, ck, cf)) ?_) ?_, cs_pu hn ht hb hk hh g3 hF hc hm e2 e3 e4⟩
  · exact (pm_st_w e1).trans (p1 _ _ _ _ _ _ _)
  · exact pm_st_d.trans (p2 _ _ _ _ _ _ _ _)
/-- the program, as both have it -/
def cPx (S : Nat → Nat → Int32) (nx : Nat → Int32) (H : Int32 → Int64 → Prop) (az : Int) (z : Nat) (kf en ff : Nat → Int32) (F : sp_F) : Prop := (∀ x w, H x w → 0 ≤ x.toInt ∧ sp_fi F.2.1 w F.1 = Int32.toNatClampNeg x ∧ Int32.toNatClampNeg x < F.1) ∧ ∀ f, f < F.1 → ∃ (X : List Nat) (q c : Nat), (cI S H 0 az (F.2.2.2 f) false 0 0 0 X ∧ zpa nx (Int32.toNatClampNeg (en f)) X q ∧ 0 ≤ (en f).toInt ∧ (S 0 (Int32.toNatClampNeg (en f))).toInt = 0 ∧ (S 0 q).toInt = 17) ∧ F.2.2.1 f = (c : Int) ∧ (ff (5 * f)).toInt = (c : Int) ∧ sy_x (F.2.2.2 f) ∧ tm_wf z kf (F.2.2.2 f) c ∧ (c : Int) ≤ (ff (5 * f + 1)).toInt ∧ (tm_wi (F.2.2.2 f) : Int) ≤ (ff (5 * f + 1)).toInt
theorem cs_cl {b nm tn sn cn m1 m2 f q : Nat} {K2 : List (Nat × Tm)} {Vs : List Int64} {e : Nat → Int64} {bd : Nat} {fs : List cFm} {ck : Nat → Int32} {cf : Nat → Int64} {en ff : Nat → Int32} (hp : cPx S nx H az z kf en ff F) (hf : f < F.1) (hn : tp.toInt = (tn : Int) ∧ fr.toInt = (cn : Int) ∧ on.toInt = (fs.length : Int) + 1 ∧ ba.toInt = (b : Int)) (ht : cTop gs b nm Vs e bd tn) (hb : (kb fs.length).toInt = (b : Int)) (hk : ∀ u ∈ K2, cOk z kf bd nm u) (hq : q ≤ Vs.length) (hh : cHt K2 (Vs.length - q + 1)) (hK : cKo S nx H az K2 (nx r) m1) (hF : cFr S nx H az z kf gs kb kk fs b (kk fs.length) m2) (hc : cCe kz kf gk gv cn ck cf) (hm : i + 2 + m1 + m2 ≤ 4 * (sn : Int) + 2) (e2 : st2.toInt = (sn : Int)) (e3 : (ff (5 * f)).toInt = (q : Int)) (e4 : on2.toInt = on.toInt + 1) (e5 : ba2.toInt = tp.toInt - (q : Int)) (e6 : tp2.toInt = ba2.toInt + (ff (5 * f + 1)).toInt) (e7 : kb2 = upd kb (Int32.toNatClampNeg on) ba2) (e8 : kk2 = upd kk (Int32.toNatClampNeg on) (nx r)) (e9 : x2 = en f) : F.2.2.1 f = (q : Int) ∧ cSm S nx H az z kz kf gs kb2 kk2 gk gv on2 ba2 tp2 st2 fr x2 i ((0, F.2.2.2 f) :: (2, Tm.nil) :: (K2 ++ (2, Tm.nil) :: cTs fs), (Vs ++ cVs fs).drop q, pm_ae (Vs ++ cVs fs) q :: e :: cEs fs, sn, cn, ck, cf) := by
  obtain ⟨n1, n3, n4, n5⟩ := hn
  obtain ⟨X, y, c, ⟨x1, x3, x4, x5, x6⟩, c1, c2, c3, c4, c5, c6⟩ := hp.2 f hf
  have ec : c = q := by omega
  subst ec
  have eo : Int32.toNatClampNeg on = fs.length + 1 := by have := zn_nat (x := on) (by omega); omega
  rw [eo] at e7 e8
  have hd := cTop_dr ht hq
  obtain ⟨k, k1⟩ : ∃ k : Nat, (ff (5 * f + 1)).toInt = (k : Int) := ⟨(ff (5 * f + 1)).toInt.toNat, by omega⟩
  have hl : c ≤ tn := by have := ht.1; omega
  obtain ⟨y2, y3, y4⟩ := zpx_pa x3
  have hK0 : cKo S nx H az [(0, F.2.2.2 f)] x2 2 := by
    have h1 : cKo S nx H az [(0, F.2.2.2 f)] (nx (Int32.toNatClampNeg (en f))) 1 := cKo_w x1 y3 ⟨0, y2, y, rfl, y4, x6, rfl⟩
    have h2 : cSi S nx 1 x2 (nx (Int32.toNatClampNeg (en f))) := ⟨Int32.toNatClampNeg (en f), by rw [e9]; exact (zn_nat x4).symm, Or.inr ⟨x5, rfl⟩⟩
    exact cKo_si h2 h1
  have hFd : cFr S nx H az z kf gs kb2 kk2 ((b, nm, K2, Vs.drop c, e, bd) :: fs) (tn - c) (kk2 (fs.length + 1)) (m1 + m2) := by
    refine ⟨hd.1, by rw [e7, zu_n (by omega)]; exact hb, hk, by rw [List.length_drop]; exact hh, m1, m2, by rw [e8, zu_s]; exact hK, ?_, rfl⟩
    rw [e8, zu_n (by omega)]
    exact cFr_cg (fun _ _ => rfl) (fun j hj => ⟨by rw [e7, zu_n (by omega)], by rw [zu_n (by omega)]⟩) hF
  refine ⟨c1, tn - c, k, [(0, F.2.2.2 f)], [], pm_ae (Vs ++ cVs fs) c, c, (b, nm, K2, Vs.drop c, e, bd) :: fs, 2, m1 + m2, tn - c + k, sn, cn, ck, cf, ⟨by omega, e2, n3, by rw [List.length_cons]; omega, by omega⟩, ⟨⟨by simp, fun j hj => by simp at hj, fun j hj => ?_, by omega⟩, by rw [List.length_cons, e7, zu_s]; omega, fun u hu => ?_, rfl⟩, hK0, hFd, ?_, hc, by omega⟩
  · rw [hd.2.1 j hj]
    show _ = if j < c then (Vs ++ cVs fs).getD (c - 1 - j) 0 else 0
    rw [if_pos hj, List.getD_eq_getElem?_getD, List.getD_eq_getElem?_getD, List.getElem?_append_left (by omega)]
  · rw [List.mem_singleton.mp hu]
    exact ⟨c3, ⟨c, c4, Nat.le_refl _⟩, by show tm_wi (F.2.2.2 f) ≤ k; omega⟩
  · rw [List.drop_append_of_le_length hq]
    rfl
theorem cs_6 {en ff : Nat → Int32} (hp : cPx S nx H az z kf en ff F) (h : cSm S nx H az z kz kf gs kb kk gk gv on ba tp st fr x i s) (hr : x.toInt = (r : Int)) (ho : (S 0 r).toInt = 6) (ha : st.toInt < (al : Int)) (hq : (S 2 r).toInt = (ff (5 * Int32.toNatClampNeg (S 1 r))).toInt) : (100 ≤ on.toInt → pm_ou F al s (4, (S 3 r).toInt)) ∧ (on.toInt < 100 → st2.toInt = st.toInt + 1 → on2.toInt = on.toInt + 1 → ba2.toInt = tp.toInt - (ff (5 * Int32.toNatClampNeg (S 1 r))).toInt → tp2.toInt = ba2.toInt + (ff (5 * Int32.toNatClampNeg (S 1 r) + 1)).toInt → kb2 = upd kb (Int32.toNatClampNeg on) ba2 → kk2 = upd kk (Int32.toNatClampNeg on) (nx r) → x2 = en (Int32.toNatClampNeg (S 1 r)) → ∃ s2, pm_re F al s s2 ∧ cSm S nx H az z kz kf gs kb2 kk2 gk gv on2 ba2 tp2 st2 fr x2 (i + 1) s2) := by
  obtain ⟨b, nm, K, Vs, e, bd, fs, m1, m2, tn, sn, cn, ck, cf, hn, ⟨ht, hb, hk, hh⟩, hK, hF, rfl, hc, hm⟩ := h
  obtain ⟨t, K2, zz, rfl, g1, g2, g3⟩ := cK_w hr (Or.inr (Or.inr (Or.inr (Or.inr ho)))) hk hK
  obtain ⟨-, q2, q3, t2, wd, p0, p1, p2⟩ : (S 0 r).toInt = 6 ∧ zz = nx r ∧ _ := by
    rcases g2 with g | g | g | g | g
    · have := g.1; omega
    · have := g.1; omega
    · have := g.1; omega
    · have := g.1; omega
    · exact g
  subst q2
  have e1 : ¬ sn = al := by have := hn.2.1; omega
  obtain ⟨f1, f2, f3⟩ := hp.1 _ _ p0
  have s1 : pm_re F al ((0, t) :: K2 ++ (2, Tm.nil) :: cTs fs, Vs ++ cVs fs, e :: cEs fs, sn, cn, ck, cf) ((1, t2) :: (K2 ++ (2, Tm.nil) :: cTs fs), Vs ++ cVs fs, e :: cEs fs, sn + 1, cn, ck, cf) := pm_re_s pm_re_r ((pm_st_w e1).trans (p1 _ _ _ _ _ _ _))
  have hl : (e :: cEs fs).length = fs.length + 1 := by rw [List.length_cons, cEs_ln]
  obtain ⟨n1, n2, n3, n4, n5⟩ := hn
  refine ⟨fun g => (by rw [g1]; exact pm_ou_s s1 (pm_st_d.trans ((p2 _ _ _ _ _ _ _ _).trans (if_pos (by rw [hl]; omega))))), fun g a1 a2 a3 a4 a5 a6 a7 => ?_⟩
  obtain ⟨c1, c2⟩ := cs_cl (q := 0) (i := i + 1) hp f3 ⟨n1, n3, n4, n5⟩ ht hb (fun u hu => hk u (List.mem_cons_of_mem _ hu)) (Nat.zero_le _) hh g3 hF hc (by omega) (show st2.toInt = ((sn + 1 : Nat) : Int) by omega) (by omega) a2 (by omega) a4 a5 a6 a7
  refine ⟨_, pm_re_s s1 (pm_st_d.trans ((p2 _ _ _ _ _ _ _ _).trans (if_neg (by rw [hl]; omega)))), ?_⟩
  rw [f2, c1]
  exact c2
theorem cs_7 {en ff : Nat → Int32} (hp : cPx S nx H az z kf en ff F) (h : cSm S nx H az z kz kf gs kb kk gk gv on ba tp st fr x i s) (hr : x.toInt = (r : Int)) (ho : (S 0 r).toInt = 7) (hq : (S 2 r).toInt = (ff (5 * Int32.toNatClampNeg (S 1 r))).toInt) : (100 ≤ on.toInt → pm_ou F al s (4, (S 3 r).toInt)) ∧ (on.toInt < 100 → on2.toInt = on.toInt + 1 → ba2.toInt = tp.toInt - (ff (5 * Int32.toNatClampNeg (S 1 r))).toInt → tp2.toInt = ba2.toInt + (ff (5 * Int32.toNatClampNeg (S 1 r) + 1)).toInt → kb2 = upd kb (Int32.toNatClampNeg on) ba2 → kk2 = upd kk (Int32.toNatClampNeg on) (nx r) → x2 = en (Int32.toNatClampNeg (S 1 r)) → ∃ s2, pm_re F al s s2 ∧ cSm S nx H az z kz kf gs kb2 kk2 gk gv on2 ba2 tp2 st fr x2 (i + 1) s2) := by
  obtain ⟨b, nm, K, Vs, e, bd, fs, m1, m2, tn, sn, cn, ck, cf, hn, ⟨ht, hb, hk, hh⟩, hK, hF, rfl, hc, hm⟩ := h
  obtain ⟨t, K2, zz, w, m3, rfl, g1, g2, g3⟩ := cK_d hr (Or.inr (Or.inl ⟨by omega, by omega⟩)) hk hK
  obtain ⟨-, q2, q3, wd, p0, q4, p2⟩ : (S 0 r).toInt = 7 ∧ zz = nx r ∧ w = 3 ∧ _ := by
    rcases g1 with g | g | g | g | g | g
    · exact g
    · have := g.1; omega
    · have := g.1; omega
    · obtain ⟨-, -, -, o, g, -⟩ := g; have := cI_op_r o; omega
    · have := g.1; omega
    · have := g.1; omega
  subst q2
  obtain ⟨f1, f2, f3⟩ := hp.1 _ _ p0
  have hl : (e :: cEs fs).length = fs.length + 1 := by rw [List.length_cons, cEs_ln]
  obtain ⟨n1, n2, n3, n4, n5⟩ := hn
  have hh2 : pm_ar t ≤ Vs.length ∧ cHt K2 (Vs.length - pm_ar t + 1) := hh
  refine ⟨fun g => pm_ou_s pm_re_r (pm_st_d.trans ((p2 _ _ _ _ _ _ _ _).trans (if_pos (by rw [hl]; omega)))), fun g a2 a3 a4 a5 a6 a7 => ?_⟩
  obtain ⟨c1, c2⟩ := cs_cl (q := pm_ar t) (i := i + 1) hp f3 ⟨n1, n3, n4, n5⟩ ht hb (fun u hu => hk u (List.mem_cons_of_mem _ hu)) hh2.1 hh2.2 g2 hF hc (by omega) n2 (by omega) a2 (by omega) a4 a5 a6 a7
  refine ⟨_, pm_re_s pm_re_r (pm_st_d.trans ((p2 _ _ _ _ _ _ _ _).trans (if_neg (by rw [hl]; omega)))), ?_⟩
  rw [f2, c1]
  exact c2
theorem gd_app {Vs W : List Int64} {j : Nat} (h : j < Vs.length) : (Vs ++ W).getD j 0 = Vs.getD j 0 := by rw [List.getD_eq_getElem?_getD, List.getD_eq_getElem?_getD, List.getElem?_append_left h]
theorem cOk_mo {bd bd2 nm : Nat} {u : Nat × Tm} (hb : bd ≤ bd2) (h : cOk z kf bd nm u) : cOk z kf bd2 nm u := by
  obtain ⟨h1, ⟨c, h2, h3⟩, h4⟩ := h
  exact ⟨h1, ⟨c, h2, by omega⟩, h4⟩
/-- a cell is built -/
theorem cs_5 {wz : Int} (hz : kz.toInt = (z : Int)) (h3 : ∀ k, zfk kz kf k ≤ 3) (h : cSm S nx H az z kz kf gs kb kk gk gv on ba tp st fr x i s) (hr : x.toInt = (r : Int)) (ho : (S 0 r).toInt = 5) (hw : zfk kz kf (S 1 r) = wz) : (4000 ≤ fr.toInt → pm_ou F al s (3, (S 3 r).toInt)) ∧ (fr.toInt < 4000 → fr2.toInt = fr.toInt + 1 → tp2.toInt = tp.toInt - wz + 1 → gs2 = vp_updL gs (Int32.toNatClampNeg tp - wz.toNat) (pv2 fr) → gk2 = upd gk (Int32.toNatClampNeg fr) (S 1 r) → (∀ k : Nat, (k : Int) < wz → gv2 (3 * Int32.toNatClampNeg fr + k) = gs (Int32.toNatClampNeg tp - wz.toNat + k)) → (∀ j, j < 3 * Int32.toNatClampNeg fr → gv2 j = gv j) → ∃ s2, pm_re F al s s2 ∧ cSm S nx H az z kz kf gs2 kb kk gk2 gv2 on ba tp2 st fr2 (nx r) (i + 1) s2) := by
  obtain ⟨b, nm, K, Vs, e, bd, fs, m1, m2, tn, sn, cn, ck, cf, ⟨n1, n2, n3, n4, n5⟩, ⟨ht, hb, hk, hh⟩, hK, hF, rfl, hc, hm⟩ := h
  obtain ⟨t, K2, zz, w, m3, rfl, g1, g2, g3⟩ := cK_d hr (Or.inl ho) hk hK
  obtain ⟨-, q2, q3, q, k, q4, q5, q6, q7, q8, p2⟩ : (S 0 r).toInt = 5 ∧ zz = nx r ∧ w = 1 ∧ _ := by
    rcases g1 with g | g | g | g | g | g
    · have := g.1; omega
    · exact g
    · have := g.1; omega
    · obtain ⟨-, -, -, o, g, -⟩ := g; have := cI_op_r o; omega
    · have := g.1; omega
    · have := g.1; omega
  subst q2
  have hh2 : pm_ar t ≤ Vs.length ∧ cHt K2 (Vs.length - pm_ar t + 1) := hh
  rw [q5] at hh2
  have ek : Int32.toNatClampNeg (S 1 r) = k := by have := zn_nat (x := S 1 r) (by omega); omega
  have ew : wz = (q : Int) := by
    rw [← hw]
    unfold zfk
    rw [ek, if_pos ⟨by omega, by omega, by omega⟩]
    exact q8
  have et : Int32.toNatClampNeg tp = tn := by have := zn_nat (x := tp) (by omega); omega
  have ef : Int32.toNatClampNeg fr = cn := by have := zn_nat (x := fr) (by omega); omega
  subst ew
  rw [et, ef, show ((q : Int)).toNat = q from rfl]
  have hd := cTop_dr ht hh2.1
  refine ⟨fun g => pm_ou_s pm_re_r (pm_st_d.trans ((p2 _ _ _ _ _ _ _ _).trans (if_pos (by omega)))), fun g a1 a2 a3 a4 a5 a6 => ?_⟩
  refine ⟨_, pm_re_s pm_re_r (pm_st_d.trans ((p2 _ _ _ _ _ _ _ _).trans (if_neg (by omega)))), ?_⟩
  have hq := ht.1
  refine ⟨b, nm, K2, pv2 fr :: Vs.drop q, e, bd, fs, m3, m2, tn - q + 1, sn, cn + 1, upd ck cn (S 1 r), pm_cf cf (Vs ++ cVs fs) cn q, ⟨by omega, n2, by omega, n4, n5⟩, ⟨cTop_pu hd.1 a3, hb, fun u hu => hk u (List.mem_cons_of_mem _ hu), by rw [List.length_cons, List.length_drop]; exact hh2.2⟩, g2, cFr_cg (fun j hj => by rw [a3, cul_n (by omega)]) (fun _ _ => ⟨rfl, rfl⟩) hF, ?_, ?_, by omega⟩
  · rw [List.drop_append_of_le_length hh2.1, pi_of n3]
    rfl
  · intro j hj
    by_cases u : j = cn
    · subst u
      rw [a4, zu_s, zu_s]
      refine ⟨rfl, fun k2 hk2 => ?_⟩
      rw [hw] at hk2
      rw [a5 k2 hk2, hd.2.1 k2 (by omega)]
      show _ = if 3 * j ≤ 3 * j + k2 ∧ 3 * j + k2 < 3 * j + q then (Vs ++ cVs fs).getD (q - 1 - (3 * j + k2 - 3 * j)) 0 else cf (3 * j + k2)
      rw [if_pos ⟨by omega, by omega⟩, show 3 * j + k2 - 3 * j = k2 from by omega, gd_app (by omega)]
    · rw [a4, zu_n u, zu_n u]
      obtain ⟨c1, c2⟩ := hc j (by omega)
      refine ⟨c1, fun k2 hk2 => ?_⟩
      have := h3 (ck j)
      rw [a6 _ (by omega), c2 k2 hk2]
      show _ = if 3 * cn ≤ 3 * j + k2 ∧ 3 * j + k2 < 3 * cn + q then _ else cf (3 * j + k2)
      rw [if_neg (by omega)]
/-- a sign -/
def crk (o : Int) (x y : Int32) : Int32 := if o = 8 then x + y else if o = 9 then x - y else if o = 10 then x * y else if x.toInt < y.toInt then 1 else 0
theorem crk_op (o : Int) (x y : Int32) : crk (cI_op o) x y = pm_op o x y := by
  unfold crk cI_op pm_op
  by_cases h1 : o = 43
  · simp [h1]
  · by_cases h2 : o = 45
    · simp [h2]
    · by_cases h3 : o = 42
      · simp [h3]
      · simp [h1, h2, h3]
theorem cs_8 (h : cSm S nx H az z kz kf gs kb kk gk gv on ba tp st fr x i s) (hr : x.toInt = (r : Int)) (ho : 8 ≤ (S 0 r).toInt ∧ (S 0 r).toInt ≤ 11) : (¬ (zhs (gs (Int32.toNatClampNeg tp - 2)) = 0 ∧ zhs (gs (Int32.toNatClampNeg tp - 1)) = 0) → pm_ou F al s (2, (S 3 r).toInt)) ∧ (zhs (gs (Int32.toNatClampNeg tp - 2)) = 0 ∧ zhs (gs (Int32.toNatClampNeg tp - 1)) = 0 → tp2.toInt = tp.toInt - 1 → gs2 = vp_updL gs (Int32.toNatClampNeg tp - 2) (pv0 (crk (S 0 r).toInt (gs (Int32.toNatClampNeg tp - 2)).toInt32 (gs (Int32.toNatClampNeg tp - 1)).toInt32)) → ∃ s2, pm_re F al s s2 ∧ cSm S nx H az z kz kf gs2 kb kk gk gv on ba tp2 st fr (nx r) (i + 1) s2) := by
  obtain ⟨b, nm, K, Vs, e, bd, fs, m1, m2, tn, sn, cn, ck, cf, ⟨n1, n2, n3, n4, n5⟩, ⟨ht, hb, hk, hh⟩, hK, hF, rfl, hc, hm⟩ := h
  obtain ⟨t, K2, zz, w, m3, rfl, g1, g2, g3⟩ := cK_d hr (Or.inr (Or.inl ⟨by omega, by omega⟩)) hk hK
  obtain ⟨q2, q3, q5, o, q4, p2⟩ : zz = nx r ∧ w = 1 ∧ _ := by
    rcases g1 with g | g | g | g | g | g
    · have := g.1; omega
    · have := g.1; omega
    · have := g.1; omega
    · exact g
    · have := g.1; omega
    · have := g.1; omega
  subst q2
  have hh2 : pm_ar t ≤ Vs.length ∧ cHt K2 (Vs.length - pm_ar t + 1) := hh
  rw [q5] at hh2
  have et : Int32.toNatClampNeg tp = tn := by have := zn_nat (x := tp) (by omega); omega
  have hd := cTop_dr ht hh2.1
  have hq := ht.1
  have v0 : (Vs ++ cVs fs).getD 0 0 = gs (tn - 1) := by
    rw [gd_app (by omega), show tn - 1 = tn - 2 + 1 from by omega, hd.2.1 1 (by omega)]
  have v1 : (Vs ++ cVs fs).getD 1 0 = gs (tn - 2) := by
    rw [gd_app (by omega)]; exact (hd.2.1 0 (by omega)).symm
  rw [et]
  refine ⟨fun g => pm_ou_s pm_re_r (pm_st_d.trans ((p2 _ _ _ _ _ _ _ _).trans (if_neg (by rw [v0, v1]; exact g)))), fun g a2 a3 => ?_⟩
  refine ⟨_, pm_re_s pm_re_r (pm_st_d.trans ((p2 _ _ _ _ _ _ _ _).trans (if_pos (by rw [v0, v1]; exact g)))), ?_⟩
  rw [q4, crk_op] at a3
  rw [v0, v1, List.drop_append_of_le_length hh2.1]
  exact ⟨b, nm, K2, pv0 (pm_op o (gs (tn - 2)).toInt32 (gs (tn - 1)).toInt32) :: Vs.drop 2, e, bd, fs, m3, m2, tn - 2 + 1, sn, cn, ck, cf, ⟨by omega, n2, n3, n4, n5⟩, ⟨cTop_pu hd.1 a3, hb, fun u hu => hk u (List.mem_cons_of_mem _ hu), by rw [List.length_cons, List.length_drop]; exact hh2.2⟩, g2, cFr_cg (fun j hj => by rw [a3, cul_n (by omega)]) (fun _ _ => ⟨rfl, rfl⟩) hF, rfl, hc, by omega⟩
/-- a let's name -/
theorem cs_12 (h : cSm S nx H az z kz kf gs kb kk gk gv on ba tp st fr x i s) (hr : x.toInt = (r : Int)) (ho : (S 0 r).toInt = 12) (e3 : tp2.toInt = tp.toInt - 1) (e4 : gs2 = vp_updL gs (Int32.toNatClampNeg ba + Int32.toNatClampNeg (S 1 r)) (gs (Int32.toNatClampNeg tp - 1))) : ∃ s2, pm_re F al s s2 ∧ cSm S nx H az z kz kf gs2 kb kk gk gv on ba tp2 st fr (nx r) (i + 1) s2 := by
  obtain ⟨b, nm, K, Vs, e, bd, fs, m1, m2, tn, sn, cn, ck, cf, ⟨n1, n2, n3, n4, n5⟩, ⟨ht, hb, hk, hh⟩, hK, hF, rfl, hc, hm⟩ := h
  obtain ⟨t, K2, zz, w, m3, rfl, g1, g2, g3⟩ := cK_d hr (Or.inr (Or.inl ⟨by omega, by omega⟩)) hk hK
  obtain ⟨-, q3, q5, sl, bb, Z, q6, q7, q8, q9, q10, q11, p2⟩ : (S 0 r).toInt = 12 ∧ w = 1 ∧ _ := by
    rcases g1 with g | g | g | g | g | g
    · have := g.1; omega
    · have := g.1; omega
    · have := g.1; omega
    · obtain ⟨-, -, -, o, g, -⟩ := g; have := cI_op_r o; omega
    · exact g
    · have := g.1; omega
  have hh2 : pm_ar t ≤ Vs.length ∧ cHt K2 (Vs.length - pm_ar t + 1) := hh
  rw [q5] at hh2
  have et : Int32.toNatClampNeg tp = tn := by have := zn_nat (x := tp) (by omega); omega
  have eb : Int32.toNatClampNeg ba = b := by have := zn_nat (x := ba) (by omega); omega
  have es : Int32.toNatClampNeg (S 1 r) = sl := by have := zn_nat (x := S 1 r) (by omega); omega
  rw [et, eb, es] at e4
  have hd := cTop_dr ht hh2.1
  have hq := ht.1
  have v0 : (Vs ++ cVs fs).getD 0 0 = gs (tn - 1) := by
    rw [gd_app (by omega)]; exact (hd.2.1 0 (by omega)).symm
  refine ⟨_, pm_re_s pm_re_r (pm_st_d.trans (p2 _ _ _ _ _ _ _ _)), ?_⟩
  rw [v0, List.drop_append_of_le_length hh2.1]
  refine ⟨b, nm, (0, bb) :: K2, Vs.drop 1, vp_updL e sl (gs (tn - 1)), max bd (sl + 1), fs, m3, m2, tn - 1, sn, cn, ck, cf, ⟨by omega, n2, n3, n4, n5⟩, ⟨cTop_se hd.1 q7 q8 e4, hb, fun u hu => ?_, by rw [List.length_drop]; exact hh2.2⟩, cKo_w q9 q10 g2, cFr_cg (fun j hj => by rw [e4, cul_n (by omega)]) (fun _ _ => ⟨rfl, rfl⟩) hF, rfl, hc, by omega⟩
  rcases List.mem_cons.mp hu with g | g
  · rw [g]; exact q11
  · exact cOk_mo (by omega) (hk u (List.mem_cons_of_mem _ g))
/-- an if's way -/
theorem cs_13 (h : cSm S nx H az z kz kf gs kb kk gk gv on ba tp st fr x i s) (hr : x.toInt = (r : Int)) (ho : (S 0 r).toInt = 13) : (¬ zhs (gs (Int32.toNatClampNeg tp - 1)) = 0 → pm_ou F al s (2, (S 3 r).toInt)) ∧ (zhs (gs (Int32.toNatClampNeg tp - 1)) = 0 → tp2.toInt = tp.toInt - 1 → ((gs (Int32.toNatClampNeg tp - 1)).toInt32 ≠ 0 → x2 = nx r) → ((gs (Int32.toNatClampNeg tp - 1)).toInt32 = 0 → 0 ≤ (S 1 r).toInt → x2 = nx (Int32.toNatClampNeg (S 1 r))) → ∃ s2, pm_re F al s s2 ∧ cSm S nx H az z kz kf gs kb kk gk gv on ba tp2 st fr x2 (i + 1) s2) := by
  obtain ⟨b, nm, K, Vs, e, bd, fs, m1, m2, tn, sn, cn, ck, cf, ⟨n1, n2, n3, n4, n5⟩, ⟨ht, hb, hk, hh⟩, hK, hF, rfl, hc, hm⟩ := h
  obtain ⟨t, K2, zz, w, m3, rfl, g1, g2, g3⟩ := cK_d hr (Or.inr (Or.inl ⟨by omega, by omega⟩)) hk hK
  obtain ⟨-, q3, q5, tb, td, Z, j, U, q6, q7, q8, q9, q10, q11, q12, q13, p2⟩ : (S 0 r).toInt = 13 ∧ w = 2 ∧ _ := by
    rcases g1 with g | g | g | g | g | g
    · have := g.1; omega
    · have := g.1; omega
    · have := g.1; omega
    · obtain ⟨-, -, -, o, g, -⟩ := g; have := cI_op_r o; omega
    · have := g.1; omega
    · exact g
  have hh2 : pm_ar t ≤ Vs.length ∧ cHt K2 (Vs.length - pm_ar t + 1) := hh
  rw [q5] at hh2
  have et : Int32.toNatClampNeg tp = tn := by have := zn_nat (x := tp) (by omega); omega
  have ej : Int32.toNatClampNeg (S 1 r) = j := by have := zn_nat (x := S 1 r) (by omega); omega
  rw [et, ej]
  have hd := cTop_dr ht hh2.1
  have hq := ht.1
  have v0 : (Vs ++ cVs fs).getD 0 0 = gs (tn - 1) := by
    rw [gd_app (by omega)]; exact (hd.2.1 0 (by omega)).symm
  obtain ⟨y1, y2, y3⟩ := zpx_app q11
  obtain ⟨y4, y5, y6⟩ := zpx_app y2
  have ez : zz = nx (zla j U) := zpx_la (by rw [show nx j = y1 from y6.2]; exact y3)
  have hK2 : ∃ m4 : Nat, m4 ≤ m3 + 1 ∧ (x2 = nx r → cKo S nx H az ((0, tb) :: K2) x2 m4) := ⟨m3 + 1, Nat.le_refl _, fun g => by
    rw [g]
    refine cKo_w q7 y5 ?_
    have h1 : cSi S nx 1 y4 zz := ⟨j, y6.1, Or.inl ⟨Or.inl q8, by omega, by rw [ez, show Int32.toNatClampNeg (S 1 j) = zla j U from by have := zn_nat (x := S 1 j) (by omega); omega]; rfl⟩⟩
    rw [Nat.add_comm]
    exact cKo_si h1 g2⟩
  have hK3 : x2 = nx j → cKo S nx H az ((0, td) :: K2) x2 m3 := fun g => by
    rw [g, show nx j = y1 from y6.2]
    exact cKo_w q10 y3 g2
  refine ⟨fun g => pm_ou_s pm_re_r (pm_st_d.trans ((p2 _ _ _ _ _ _ _ _).trans (if_neg (by rw [v0]; exact g)))), fun g a2 a3 a4 => ?_⟩
  refine ⟨_, pm_re_s pm_re_r (pm_st_d.trans ((p2 _ _ _ _ _ _ _ _).trans (if_pos (by rw [v0]; exact g)))), ?_⟩
  rw [v0, List.drop_append_of_le_length hh2.1]
  by_cases u : (gs (tn - 1)).toInt32 = 0
  · rw [if_pos u]
    refine ⟨b, nm, (0, td) :: K2, Vs.drop 1, e, bd, fs, m3, m2, tn - 1, sn, cn, ck, cf, ⟨by omega, n2, n3, n4, n5⟩, ⟨hd.1, hb, fun v hv => ?_, by rw [List.length_drop]; exact hh2.2⟩, hK3 (a4 u (by omega)), hF, rfl, hc, by omega⟩
    rcases List.mem_cons.mp hv with g | g
    · rw [g]; exact q13
    · exact hk v (List.mem_cons_of_mem _ g)
  · rw [if_neg u]
    obtain ⟨m4, k1, k2⟩ := hK2
    refine ⟨b, nm, (0, tb) :: K2, Vs.drop 1, e, bd, fs, m4, m2, tn - 1, sn, cn, ck, cf, ⟨by omega, n2, n3, n4, n5⟩, ⟨hd.1, hb, fun v hv => ?_, by rw [List.length_drop]; exact hh2.2⟩, k2 (a3 u), hF, rfl, hc, by omega⟩
    rcases List.mem_cons.mp hv with g | g
    · rw [g]; exact q12
    · exact hk v (List.mem_cons_of_mem _ g)
/-- a call ends -/
theorem cs_17 (h : cSm S nx H az z kz kf gs kb kk gk gv on ba tp st fr x i s) (hr : x.toInt = (r : Int)) (ho : (S 0 r).toInt = 17) : (on.toInt ≤ 1 → pm_ou F al s (1, -1)) ∧ (1 < on.toInt → on2.toInt = on.toInt - 1 → tp2.toInt = ba.toInt + 1 → gs2 = vp_updL gs (Int32.toNatClampNeg ba) (gs (Int32.toNatClampNeg tp - 1)) → x2 = kk (Int32.toNatClampNeg on - 1) → ba2 = kb (Int32.toNatClampNeg on - 2) → ∃ s2, pm_re F al s s2 ∧ cSm S nx H az z kz kf gs2 kb kk gk gv on2 ba2 tp2 st fr x2 (i + 1) s2) := by
  obtain ⟨b, nm, K, Vs, e, bd, fs, m1, m2, tn, sn, cn, ck, cf, ⟨n1, n2, n3, n4, n5⟩, ⟨ht, hb, hk, hh⟩, hK, hF, rfl, hc, hm⟩ := h
  obtain ⟨rfl, e1⟩ := cK_r hr ho hk hK
  have hl : Vs.length = 1 := hh
  obtain ⟨v, rfl⟩ : ∃ v, Vs = [v] := List.length_eq_one_iff.mp hl
  have et : Int32.toNatClampNeg tp = tn := by have := zn_nat (x := tp) (by omega); omega
  have eb : Int32.toNatClampNeg ba = b := by have := zn_nat (x := ba) (by omega); omega
  have eo : Int32.toNatClampNeg on = fs.length + 1 := by have := zn_nat (x := on) (by omega); omega
  have hv : gs (tn - 1) = v := (cTop_dr (q := 1) ht (by rw [hl]; omega)).2.1 0 (by omega)
  rw [et, eb, eo, hv]
  have s1 : pm_re F al (([] : List (Nat × Tm)) ++ (2, Tm.nil) :: cTs fs, [v] ++ cVs fs, e :: cEs fs, sn, cn, ck, cf) (cTs fs, v :: cVs fs, cEs fs, sn, cn, ck, cf) := pm_re_s pm_re_r pm_st_l
  cases fs with
  | nil => exact ⟨fun _ => pm_ou_s s1 rfl, fun g => by simp at n4; omega⟩
  | cons f1 fs =>
    obtain ⟨b1, nm1, K1, Vs1, e1', bd1⟩ := f1
    obtain ⟨h1, h2, h3, h4, m3, m4, h5, h6, h7⟩ := hF
    rw [List.length_cons] at n4 h5 ⊢
    refine ⟨fun g => by omega, fun g a1 a2 a3 a4 a5 => ⟨_, s1, ?_⟩⟩
    rw [show fs.length + 1 + 1 - 1 = fs.length + 1 from rfl] at a4
    rw [show fs.length + 1 + 1 - 2 = fs.length from by omega] at a5
    subst a4
    exact ⟨b1, nm1, K1, v :: Vs1, e1', bd1, fs, m3, m4, b + 1, sn, cn, ck, cf, ⟨by omega, n2, n3, by omega, by rw [a5]; exact h2⟩, ⟨cTop_pu h1 a3, h2, h3, h4⟩, h5, cFr_cg (fun j hj => by rw [a3, cul_n (by have := h1.1; omega)]) (fun _ _ => ⟨rfl, rfl⟩) h6, rfl, hc, by omega⟩
theorem cI_arm {mo : Bool} : ∀ (a : Tm) {pv : Nat} {ar : Int32} {en : Nat} {X : List Nat}, tm_k a = 2 → cI S H 0 az a mo pv ar en X → ∃ (Y : List Nat) (v : Nat), X = Y ++ [v] ∧ 0 ≤ ar.toInt ∧ (S 4 (Int32.toNatClampNeg ar)).toInt = (if am_k a = -1 then -2 else am_k a) ∧ (S 6 (Int32.toNatClampNeg ar)).toInt = (pv : Int) ∧ (S 8 (Int32.toNatClampNeg ar)).toInt = (am_h a : Int) ∧ (S 0 v).toInt = 16 ∧ (S 1 v).toInt = (en : Int) ∧ cI S H 0 az (am_x a) false 0 0 0 Y
  | .branch 0 (.leaf (some (_ + 3, p, k, h, m, _))) x, pv, ar, en, X, _, g => by
    obtain ⟨Y, v, e, ⟨-, -, a0⟩, a1, a2, -, a3, -, a4, a5, a6⟩ := g
    exact ⟨Y, v, e, a0, a1, a2, a3, a4, a5, a6⟩
  | .leaf none, _, _, _, _, g, _ => nomatch (show (0 : Nat) = 2 from g)
  | .branch (_ + 3) _ _, _, _, _, _, g, _ => nomatch (show (0 : Nat) = 2 from g)
  | .leaf (some (0, _, _, _, _, _)), _, _, _, _, g, _ => nomatch (show (1 : Nat) = 2 from g)
  | .leaf (some (_ + 1, _, _, _, _, _)), _, _, _, _, g, _ => nomatch (show (1 : Nat) = 2 from g)
  | .branch 0 (.leaf (some (0, _, _, _, _, _))) _, _, _, _, _, g, _ => nomatch (show (1 : Nat) = 2 from g)
  | .branch 0 (.leaf (some (1, _, _, _, _, _))) _, _, _, _, _, g, _ => nomatch (show (1 : Nat) = 2 from g)
  | .branch 1 (.leaf (some (0, _, _, _, _, _))) (.branch _ _ _), _, _, _, _, g, _ => nomatch (show (1 : Nat) = 2 from g)
  | .branch 1 (.leaf (some (_ + 1, _, _, _, _, _))) (.branch _ _ _), _, _, _, _, g, _ => nomatch (show (1 : Nat) = 2 from g)
  | .branch 2 (.leaf (some (_, _, _, _, _, _))) (.branch _ _ (.branch _ _ _)), _, _, _, _, g, _ => nomatch (show (1 : Nat) = 2 from g)
  | .branch 0 (.leaf (some (2, _, _, _, _, _))) _, _, _, _, _, g, _ => nomatch (show (1 : Nat) = 2 from g)
  | .branch 0 (.leaf none) _, _, _, _, _, g, _ => nomatch (show (0 : Nat) = 2 from g)
  | .branch 0 (.branch _ _ _) _, _, _, _, _, g, _ => nomatch (show (0 : Nat) = 2 from g)
  | .branch 1 (.leaf none) _, _, _, _, _, g, _ => nomatch (show (0 : Nat) = 2 from g)
  | .branch 1 (.branch _ _ _) _, _, _, _, _, g, _ => nomatch (show (0 : Nat) = 2 from g)
  | .branch 1 (.leaf (some (0, _, _, _, _, _))) (.leaf _), _, _, _, _, g, _ => nomatch (show (0 : Nat) = 2 from g)
  | .branch 1 (.leaf (some (_ + 1, _, _, _, _, _))) (.leaf _), _, _, _, _, g, _ => nomatch (show (0 : Nat) = 2 from g)
  | .branch 2 (.leaf none) _, _, _, _, _, g, _ => nomatch (show (0 : Nat) = 2 from g)
  | .branch 2 (.branch _ _ _) _, _, _, _, _, g, _ => nomatch (show (0 : Nat) = 2 from g)
  | .branch 2 (.leaf (some (_, _, _, _, _, _))) (.leaf _), _, _, _, _, g, _ => nomatch (show (0 : Nat) = 2 from g)
  | .branch 2 (.leaf (some (_, _, _, _, _, _))) (.branch _ _ (.leaf _)), _, _, _, _, g, _ => nomatch (show (0 : Nat) = 2 from g)
/-- what an arm is -/
def aOk (z : Nat) (kf : Nat → Int32) (c w : Nat) (a : Tm) : Prop := am_h a = c ∧ am_m a ≤ 3 ∧ (am_k a = -1 ∧ am_m a = 0 ∨ ∃ j : Nat, am_k a = (j : Int) ∧ j < z ∧ (kf j).toInt = (am_m a : Int)) ∧ tm_wf z kf (am_x a) (c + am_m a) ∧ sy_x (am_x a) ∧ am_h a + am_m a ≤ w ∧ tm_wi (am_x a) ≤ w
theorem aOk_of {c w : Nat} : ∀ (a : Tm), tm_k a = 2 → tm_sy a false → tm_wf z kf a c → tm_wi a ≤ w → aOk z kf c w a
  | .branch 0 (.leaf (some (_ + 3, p, k, h, m, _))) x, _, h1, h2, h3 => by
    obtain ⟨⟨⟨w1, w2, w3⟩, w4⟩, w5⟩ := h2
    have h3 : max (h + m) (tm_wi x) ≤ w := h3
    exact ⟨w1, w3, w4, w5, h1, by show h + m ≤ w; omega, by show tm_wi x ≤ w; omega⟩
  | .leaf none, g, _, _, _ => nomatch (show (0 : Nat) = 2 from g)
  | .branch (_ + 3) _ _, g, _, _, _ => nomatch (show (0 : Nat) = 2 from g)
  | .leaf (some (0, _, _, _, _, _)), g, _, _, _ => nomatch (show (1 : Nat) = 2 from g)
  | .leaf (some (_ + 1, _, _, _, _, _)), g, _, _, _ => nomatch (show (1 : Nat) = 2 from g)
  | .branch 0 (.leaf (some (0, _, _, _, _, _))) _, g, _, _, _ => nomatch (show (1 : Nat) = 2 from g)
  | .branch 0 (.leaf (some (1, _, _, _, _, _))) _, g, _, _, _ => nomatch (show (1 : Nat) = 2 from g)
  | .branch 1 (.leaf (some (0, _, _, _, _, _))) (.branch _ _ _), g, _, _, _ => nomatch (show (1 : Nat) = 2 from g)
  | .branch 1 (.leaf (some (_ + 1, _, _, _, _, _))) (.branch _ _ _), g, _, _, _ => nomatch (show (1 : Nat) = 2 from g)
  | .branch 2 (.leaf (some (_, _, _, _, _, _))) (.branch _ _ (.branch _ _ _)), g, _, _, _ => nomatch (show (1 : Nat) = 2 from g)
  | .branch 0 (.leaf (some (2, _, _, _, _, _))) _, g, _, _, _ => nomatch (show (1 : Nat) = 2 from g)
  | .branch 0 (.leaf none) _, g, _, _, _ => nomatch (show (0 : Nat) = 2 from g)
  | .branch 0 (.branch _ _ _) _, g, _, _, _ => nomatch (show (0 : Nat) = 2 from g)
  | .branch 1 (.leaf none) _, g, _, _, _ => nomatch (show (0 : Nat) = 2 from g)
  | .branch 1 (.branch _ _ _) _, g, _, _, _ => nomatch (show (0 : Nat) = 2 from g)
  | .branch 1 (.leaf (some (0, _, _, _, _, _))) (.leaf _), g, _, _, _ => nomatch (show (0 : Nat) = 2 from g)
  | .branch 1 (.leaf (some (_ + 1, _, _, _, _, _))) (.leaf _), g, _, _, _ => nomatch (show (0 : Nat) = 2 from g)
  | .branch 2 (.leaf none) _, g, _, _, _ => nomatch (show (0 : Nat) = 2 from g)
  | .branch 2 (.branch _ _ _) _, g, _, _, _ => nomatch (show (0 : Nat) = 2 from g)
  | .branch 2 (.leaf (some (_, _, _, _, _, _))) (.leaf _), g, _, _, _ => nomatch (show (0 : Nat) = 2 from g)
  | .branch 2 (.leaf (some (_, _, _, _, _, _))) (.branch _ _ (.leaf _)), g, _, _, _ => nomatch (show (0 : Nat) = 2 from g)
/-- the class's search for the arm that fits -/
def cfa (ak an : Nat → Int32) (kd : Int32) : Nat → Int32 → Int32
  | 0, _ => -1
  | n + 1, ar => if ar.toInt = -1 then -1 else if (ak (Int32.toNatClampNeg ar)).toInt = -2 ∨ ak (Int32.toNatClampNeg ar) = kd then ar else cfa ak an kd n (an (Int32.toNatClampNeg ar))
theorem cfa_st {ak an : Nat → Int32} {kd ar : Int32} {n : Nat} (h : ¬ ar.toInt = -1) (h1 : ¬ (ak (Int32.toNatClampNeg ar)).toInt = -2) (h2 : ¬ ak (Int32.toNatClampNeg ar) = kd) : cfa ak an kd (n + 1) ar = cfa ak an kd n (an (Int32.toNatClampNeg ar)) := by rw [cfa, if_neg h, if_neg (fun g => g.elim h1 h2)]
theorem cfa_hit {ak an : Nat → Int32} {kd ar : Int32} {n : Nat} (h : ¬ ar.toInt = -1) (h1 : (ak (Int32.toNatClampNeg ar)).toInt = -2 ∨ ak (Int32.toNatClampNeg ar) = kd) : cfa ak an kd (n + 1) ar = ar := by rw [cfa, if_neg h, if_pos h1]
theorem cfa_no {ak an : Nat → Int32} {kd ar : Int32} : ∀ {n : Nat}, ar.toInt = -1 ∨ n = 0 → cfa ak an kd n ar = -1
  | 0, _ => rfl
  | n + 1, h => by rw [cfa, if_pos (h.resolve_right (by omega))]
theorem cfa_fi {kd : Int32} {c w en : Nat} : ∀ (a : Tm) {n pv : Nat} {ar zz : Int32} {Y : List Nat}, tm_li a → tm_sy a true → tm_wf z kf a c → tm_wi a ≤ w → tm_ln a ≤ n → cI S H 0 az a true pv ar en Y → zpx nx (nx pv) Y zz → (pm_fi kd.toInt a = none ∧ (cfa (S 4) (S 5) kd n ar).toInt = -1) ∨ ∃ (y : Tm) (p2 : Nat) (Yb : List Nat) (v : Nat) (v2 : Int32), pm_fi kd.toInt a = some y ∧ 0 ≤ (cfa (S 4) (S 5) kd n ar).toInt ∧ ((S 4 (Int32.toNatClampNeg (cfa (S 4) (S 5) kd n ar))).toInt = (if am_k y = -1 then -2 else am_k y) ∧ (am_k y = -1 ∨ S 4 (Int32.toNatClampNeg (cfa (S 4) (S 5) kd n ar)) = kd) ∧ (S 6 (Int32.toNatClampNeg (cfa (S 4) (S 5) kd n ar))).toInt = (p2 : Int) ∧ (S 8 (Int32.toNatClampNeg (cfa (S 4) (S 5) kd n ar))).toInt = (am_h y : Int)) ∧ (S 0 v).toInt = 16 ∧ (S 1 v).toInt = (en : Int) ∧ cI S H 0 az (am_x y) false 0 0 0 Yb ∧ zpx nx (nx p2) Yb v2 ∧ v2.toInt = (v : Int) ∧ aOk z kf c w y
  | .leaf none, n, pv, ar, zz, Y, _, _, _, _, _, h, _ => by
    have e := h.2 rfl
    refine Or.inl ⟨rfl, ?_⟩
    cases n with
    | zero => show (-1 : Int32).toInt = -1; decide
    | succ n => rw [cfa, if_pos e]; decide
  | .branch (_ + 3) a b, n, pv, ar, zz, Y, hl, hs, hw, hi, hn, h, hz => by
    have hn : tm_ln b + 1 ≤ n := hn
    have hi : max (tm_wi a) (tm_wi b) ≤ w := hi
    obtain ⟨n, rfl⟩ : ∃ k, n = k + 1 := ⟨n - 1, by omega⟩
    obtain ⟨X, Z, rfl, q1, q2, q3⟩ := h
    obtain ⟨z1, k1, k2⟩ := zpx_app hz
    obtain ⟨Yb, v, rfl, a0, a1, a2, a3, a4, a5, a6⟩ := cI_arm a hs.1.1 q1
    have ok := aOk_of (w := w) a hs.1.1 hs.1.2 hw.1 (by omega)
    have hne : ¬ ar.toInt = -1 := by omega
    have hk : am_k a = -1 ∨ 0 ≤ am_k a := ok.2.2.1.imp (fun g => g.1) (fun ⟨j, e, _⟩ => by omega)
    have e1 : ∀ q, pm_fi kd.toInt (Lean.RArray.branch (q + 3) a b) = if am_k a = -1 ∨ am_k a = kd.toInt then some a else pm_fi kd.toInt b := fun _ => rfl
    have e2 : cfa (S 4) (S 5) kd (n + 1) ar = if (S 4 (Int32.toNatClampNeg ar)).toInt = -2 ∨ S 4 (Int32.toNatClampNeg ar) = kd then ar else cfa (S 4) (S 5) kd n (S 5 (Int32.toNatClampNeg ar)) := by
      rw [cfa, if_neg hne]
    have e3 : (am_k a = -1 ∨ am_k a = kd.toInt) ↔ ((S 4 (Int32.toNatClampNeg ar)).toInt = -2 ∨ S 4 (Int32.toNatClampNeg ar) = kd) := by
      by_cases u : am_k a = -1
      · rw [if_pos u] at a1
        exact ⟨fun _ => Or.inl a1, fun _ => Or.inl u⟩
      · rw [if_neg u] at a1
        exact ⟨fun g => Or.inr (Int32.toInt_inj.mp (by rw [a1]; exact g.resolve_left u)), fun g => Or.inr (g.elim (fun g => by omega) (fun g => by rw [← a1, g]))⟩
    by_cases u : am_k a = -1 ∨ am_k a = kd.toInt
    · rw [e1, e2, if_pos u, if_pos (e3.mp u)]
      obtain ⟨v2, k3, k4⟩ := zpx_app k1
      refine Or.inr ⟨a, pv, Yb, v, v2, rfl, a0, ⟨a1, ?_, a2, a3⟩, a4, a5, a6, k3, k4.1, ok⟩
      by_cases u2 : am_k a = -1
      · exact Or.inl u2
      · rw [if_neg u2] at a1
        exact Or.inr (Int32.toInt_inj.mp (by rw [a1]; exact u.resolve_left u2))
    · rw [e1, e2, if_neg u, if_neg (fun g => u (e3.mpr g))]
      exact cfa_fi b hl hs.2 hw.2 (by omega) (by omega) q2 (by show zpx nx (nx (zla pv (Yb ++ [v]))) Z zz; rw [← zpx_la k1]; exact k2)
  | .leaf (some (0, _, _, _, _, _)), _, _, _, _, _, g, _, _, _, _, _, _ => g.elim
  | .leaf (some (_ + 1, _, _, _, _, _)), _, _, _, _, _, g, _, _, _, _, _, _ => g.elim
  | .branch 0 (.leaf (some (0, _, _, _, _, _))) _, _, _, _, _, _, g, _, _, _, _, _, _ => g.elim
  | .branch 0 (.leaf (some (1, _, _, _, _, _))) _, _, _, _, _, _, g, _, _, _, _, _, _ => g.elim
  | .branch 1 (.leaf (some (0, _, _, _, _, _))) (.branch _ _ _), _, _, _, _, _, g, _, _, _, _, _, _ => g.elim
  | .branch 1 (.leaf (some (_ + 1, _, _, _, _, _))) (.branch _ _ _), _, _, _, _, _, g, _, _, _, _, _, _ => g.elim
  | .branch 2 (.leaf (some (_, _, _, _, _, _))) (.branch _ _ (.branch _ _ _)), _, _, _, _, _, g, _, _, _, _, _, _ => g.elim
  | .branch 0 (.leaf (some (2, _, _, _, _, _))) _, _, _, _, _, _, g, _, _, _, _, _, _ => g.elim
  | .branch 0 (.leaf (some (_ + 3, _, _, _, _, _))) _, _, _, _, _, _, g, _, _, _, _, _, _ => g.elim
  | .branch 0 (.leaf none) _, _, _, _, _, _, g, _, _, _, _, _, _ => g.elim
  | .branch 0 (.branch _ _ _) _, _, _, _, _, _, g, _, _, _, _, _, _ => g.elim
  | .branch 1 (.leaf none) _, _, _, _, _, _, g, _, _, _, _, _, _ => g.elim
  | .branch 1 (.branch _ _ _) _, _, _, _, _, _, g, _, _, _, _, _, _ => g.elim
  | .branch 1 (.leaf (some (0, _, _, _, _, _))) (.leaf _), _, _, _, _, _, g, _, _, _, _, _, _ => g.elim
  | .branch 1 (.leaf (some (_ + 1, _, _, _, _, _))) (.leaf _), _, _, _, _, _, g, _, _, _, _, _, _ => g.elim
  | .branch 2 (.leaf none) _, _, _, _, _, _, g, _, _, _, _, _, _ => g.elim
  | .branch 2 (.branch _ _ _) _, _, _, _, _, _, g, _, _, _, _, _, _ => g.elim
  | .branch 2 (.leaf (some (_, _, _, _, _, _))) (.leaf _), _, _, _, _, _, g, _, _, _, _, _, _ => g.elim
  | .branch 2 (.leaf (some (_, _, _, _, _, _))) (.branch _ _ (.leaf _)), _, _, _, _, _, g, _, _, _, _, _, _ => g.elim
/-- a match's way -/
theorem cs_15 {kd : Int32} {v : Int64} {am : Int32} (hz : kz.toInt = (z : Int)) (h : cSm S nx H az z kz kf gs kb kk gk gv on ba tp st fr x i s) (hr : x.toInt = (r : Int)) (ho : (S 0 r).toInt = 15) (hv : v = gs (Int32.toNatClampNeg ba + Int32.toNatClampNeg (S 1 r))) (hkd : kd.toInt = if zhs v = 0 then -1 else if zhs v = 2 then (gk (Int32.toNatClampNeg v.toInt32)).toInt else v.toInt32.toInt) (hcl : zhs v = 2 → 0 ≤ v.toInt32.toInt ∧ v.toInt32.toInt < fr.toInt) (hvk : zhs v ≠ 0 → zhs v ≠ 2 → zfk kz kf v.toInt32 = 0) (ha : am = cfa (S 4) (S 5) kd 8 (S 2 r)) : (am.toInt = -1 → pm_ou F al s (2, (S 3 r).toInt)) ∧ (am.toInt ≠ -1 → (0 ≤ (S 6 (Int32.toNatClampNeg am)).toInt → x2 = nx (Int32.toNatClampNeg (S 6 (Int32.toNatClampNeg am)))) → (¬ zhs v = 2 → gs2 = gs) → (zhs v = 2 → (∀ k : Nat, (k : Int) < zfk kz kf (S 4 (Int32.toNatClampNeg am)) → gs2 (Int32.toNatClampNeg ba + Int32.toNatClampNeg (S 8 (Int32.toNatClampNeg am)) + k) = gv (3 * Int32.toNatClampNeg v.toInt32 + k)) ∧ ∀ j, (∀ k : Nat, (k : Int) < zfk kz kf (S 4 (Int32.toNatClampNeg am)) → j ≠ Int32.toNatClampNeg ba + Int32.toNatClampNeg (S 8 (Int32.toNatClampNeg am)) + k) → gs2 j = gs j) → ∃ s2, pm_re F al s s2 ∧ cSm S nx H az z kz kf gs2 kb kk gk gv on ba tp st fr x2 (i + 1) s2) := by
  obtain ⟨b, nm, K, Vs, e, bd, fs, m1, m2, tn, sn, cn, ck, cf, ⟨n1, n2, n3, n4, n5⟩, ⟨ht, hb, hk, hh⟩, hK, hF, rfl, hc, hm⟩ := h
  obtain ⟨t, K2, zz, w, m3, rfl, g1, g2, g3⟩ := cK_d hr (Or.inr (Or.inr ho)) hk hK
  obtain ⟨-, q3, q5, sl, ta, Y, c0, q6, q7, q8, q9, q10, q11, q12, q13, q14, q15, p2⟩ : (S 0 r).toInt = 15 ∧ w = 2 ∧ _ := by
    rcases g1 with g | g | g | g | g | g
    · have := g.1; omega
    · have := g.1; omega
    · exact g
    · obtain ⟨-, -, -, o, g, -⟩ := g; have := cI_op_r o; omega
    · have := g.1; omega
    · have := g.1; omega
  have hh2 : pm_ar t ≤ Vs.length ∧ cHt K2 (Vs.length - pm_ar t + 1) := hh
  rw [q5] at hh2
  have eb : Int32.toNatClampNeg ba = b := by have := zn_nat (x := ba) (by omega); omega
  have es : Int32.toNatClampNeg (S 1 r) = sl := by have := zn_nat (x := S 1 r) (by omega); omega
  rw [eb, es, ht.2.2.1 sl q7] at hv
  rw [eb]
  have ekd : pm_kd ck ((e :: cEs fs).headD (fun _ => 0) sl) = kd.toInt := by
    show pm_kd ck (e sl) = _
    rw [← hv, hkd]
    unfold pm_kd
    by_cases u0 : zhs v = 0
    · rw [if_pos u0, if_pos u0]
    · rw [if_neg u0, if_neg u0]
      by_cases u : zhs v = 2
      · obtain ⟨c1, c2⟩ := hcl u
        rw [if_pos u, if_pos u, (hc _ (by have := zn_nat c1; omega)).1]
      · rw [if_neg u, if_neg u]
  have key := cfa_fi (kd := kd) (w := nm) ta (n := 8) q9 q10 q11 q13 q12 q14 q15
  rw [← ha] at key
  rcases key with ⟨k1, k2⟩ | ⟨y, pp, Yb, vr, v2, k1, k2, ⟨k3, k4, k5, k6⟩, k7, k8, k9, k10, k11, ok⟩
  · refine ⟨fun _ => pm_ou_s (e := (2, (S 3 r).toInt)) pm_re_r (pm_st_d.trans ((p2 _ _ _ _ _ _ _ _).trans ?_)), fun g => absurd k2 g⟩
    unfold pm_mt
    rw [ekd, k1]
  · refine ⟨fun g => by omega, fun g a1 a2 a3 => ?_⟩
    have ez : zz = nx (zla r Y) := zpx_la q15
    have epp : Int32.toNatClampNeg (S 6 (Int32.toNatClampNeg am)) = pp := by have := zn_nat (x := S 6 (Int32.toNatClampNeg am)) (by omega); omega
    have efs : Int32.toNatClampNeg (S 8 (Int32.toNatClampNeg am)) = am_h y := by have := zn_nat (x := S 8 (Int32.toNatClampNeg am)) (by omega); omega
    rw [epp] at a1
    rw [efs] at a3
    obtain ⟨o1, o2, o3, o4, o5, o6, o7⟩ := ok
    have hmz : zfk kz kf (S 4 (Int32.toNatClampNeg am)) = (am_m y : Int) := by
      unfold zfk
      rcases o3 with ⟨u1, u2⟩ | ⟨j, u1, u2, u3⟩
      · rw [if_pos u1] at k3
        rw [if_neg (by omega), u2]; rfl
      · rw [if_neg (by omega)] at k3
        have ej : Int32.toNatClampNeg (S 4 (Int32.toNatClampNeg am)) = j := by have := zn_nat (x := S 4 (Int32.toNatClampNeg am)) (by omega); omega
        rw [ej]
        by_cases u : 0 < (kf j).toInt
        · rw [if_pos ⟨by omega, by omega, u⟩]; exact u3
        · rw [if_neg (fun g => u g.2.2)]; omega
    rw [hmz] at a3
    have hm0 : ¬ zhs v = 2 → am_m y = 0 := fun u => by
      rcases o3 with ⟨u1, u2⟩ | ⟨j, u1, u2, u3⟩
      · exact u2
      · have e4 := k4.resolve_left (by omega)
        rw [if_neg (by omega)] at k3
        by_cases u0 : zhs v = 0
        · rw [if_pos u0] at hkd; rw [e4] at k3; omega
        · rw [if_neg u0, if_neg u] at hkd
          have e5 := hvk u0 u
          rw [show v.toInt32 = kd from Int32.toInt_inj.mp hkd.symm, ← e4, hmz] at e5
          omega
    have hcf : zhs v = 2 → ∀ k, k < am_m y → gv (3 * Int32.toNatClampNeg v.toInt32 + k) = cf (3 * Int32.toNatClampNeg v.toInt32 + k) := fun u k hk2 => by
      obtain ⟨c1, c2⟩ := hcl u
      obtain ⟨d1, d2⟩ := hc (Int32.toNatClampNeg v.toInt32) (by have := zn_nat c1; omega)
      refine d2 k ?_
      rcases o3 with ⟨u1, u2⟩ | ⟨j, u1, u2, u3⟩
      · omega
      · have e4 := k4.resolve_left (by omega)
        rw [if_neg (by rw [u]; decide), if_pos u] at hkd
        rw [← d1, show gk (Int32.toNatClampNeg v.toInt32) = kd from Int32.toInt_inj.mp hkd.symm, ← e4, hmz]
        omega
    have hst : pm_st F al ((1, t) :: (K2 ++ (2, Tm.nil) :: cTs fs), Vs ++ cVs fs, e :: cEs fs, sn, cn, ck, cf) = .ok ((0, am_x y) :: (K2 ++ (2, Tm.nil) :: cTs fs), Vs ++ cVs fs, (if zhs v = 2 then pm_bd e cf (Int32.toNatClampNeg v.toInt32) (am_h y) (am_m y) else e) :: cEs fs, sn, cn, ck, cf) := by
      refine pm_st_d.trans ((p2 _ _ _ _ _ _ _ _).trans ?_)
      unfold pm_mt
      rw [ekd, k1, hv]
      rfl
    refine ⟨_, pm_re_s pm_re_r hst, ?_⟩
    have hx2 := a1 (by omega)
    have hK3 : cKo S nx H az ((0, am_x y) :: K2) x2 (1 + m3) := by
      rw [hx2]
      have h1 : cSi S nx 1 v2 zz := ⟨vr, k11, Or.inl ⟨Or.inr k7, by omega, by rw [ez, show Int32.toNatClampNeg (S 1 vr) = zla r Y from by have := zn_nat (x := S 1 vr) (by omega); omega]; rfl⟩⟩
      exact cKo_w k9 k10 (cKo_si h1 g2)
    have hg : ∀ j, (j < b + am_h y ∨ b + am_h y + am_m y ≤ j) → gs2 j = gs j := fun j hj => by
      by_cases u : zhs v = 2
      · exact (a3 u).2 j (fun k hk2 => by omega)
      · rw [a2 u]
    obtain ⟨t1, t2, t3, t4⟩ := ht
    refine ⟨b, nm, (0, am_x y) :: K2, Vs, _, max bd (c0 + am_m y), fs, 1 + m3, m2, tn, sn, cn, ck, cf, ⟨n1, n2, n3, n4, n5⟩, ⟨⟨t1, fun j hj => by rw [hg _ (by omega)]; exact t2 j hj, fun k hk2 => ?_, by omega⟩, hb, fun u hu => ?_, hh2.2⟩, hK3, cFr_cg (fun j hj => hg j (by omega)) (fun _ _ => ⟨rfl, rfl⟩) hF, rfl, hc, by omega⟩
    · by_cases u : zhs v = 2
      · rw [if_pos u]
        show _ = if am_h y ≤ k ∧ k < am_h y + am_m y then cf (3 * Int32.toNatClampNeg v.toInt32 + (k - am_h y)) else e k
        by_cases u2 : am_h y ≤ k ∧ k < am_h y + am_m y
        · rw [if_pos u2, show b + k = b + am_h y + (k - am_h y) from by omega, (a3 u).1 (k - am_h y) (by omega), hcf u _ (by omega)]
        · rw [if_neg u2, hg _ (by omega), t3 k (by omega)]
      · rw [if_neg u, a2 u, t3 k (by have := hm0 u; omega)]
    · rcases List.mem_cons.mp hu with g | g
      · rw [g]; exact ⟨o5, ⟨c0 + am_m y, o4, by omega⟩, o7⟩
      · exact cOk_mo (by omega) (hk u (List.mem_cons_of_mem _ g))
/-- the first call begins -/
theorem cs_0 {en ff : Nat → Int32} {f : Nat} {a1 a2 a3 a4 : Int32} (hp : cPx S nx H az z kf en ff F) (hf : f < F.1) (hg : ∀ k : Nat, (k : Int) < (ff (5 * f)).toInt → gs k = pv0 (if k = 0 then a1 else if k = 1 then a2 else if k = 2 then a3 else if k = 3 then a4 else 0)) (e2 : st.toInt = 0) (e4 : on2.toInt = 1) (e5 : ba2.toInt = 0) (e6 : tp2.toInt = (ff (5 * f + 1)).toInt) (e7 : (kb2 0).toInt = 0) (e8 : fr.toInt = 0) (e9 : x2 = en f) : cSm S nx H az z kz kf gs kb2 kk2 gk gv on2 ba2 tp2 st fr x2 0 (pm_s0 F f a1 a2 a3 a4) := by
  obtain ⟨X, y, c, ⟨x1, x3, x4, x5, x6⟩, c1, c2, c3, c4, c5, c6⟩ := hp.2 f hf
  obtain ⟨k, k1⟩ : ∃ k : Nat, (ff (5 * f + 1)).toInt = (k : Int) := ⟨(ff (5 * f + 1)).toInt.toNat, by omega⟩
  obtain ⟨y2, y3, y4⟩ := zpx_pa x3
  have hK0 : cKo S nx H az [(0, F.2.2.2 f)] x2 2 := by
    have h1 : cKo S nx H az [(0, F.2.2.2 f)] (nx (Int32.toNatClampNeg (en f))) 1 := cKo_w x1 y3 ⟨0, y2, y, rfl, y4, x6, rfl⟩
    have h2 : cSi S nx 1 x2 (nx (Int32.toNatClampNeg (en f))) := ⟨Int32.toNatClampNeg (en f), by rw [e9]; exact (zn_nat x4).symm, Or.inr ⟨x5, rfl⟩⟩
    exact cKo_si h2 h1
  refine ⟨0, k, [(0, F.2.2.2 f)], [], (fun k => if (k : Int) < F.2.2.1 f then pv0 (if k = 0 then a1 else if k = 1 then a2 else if k = 2 then a3 else if k = 3 then a4 else 0) else 0), c, [], 2, 0, k, 0, 0, (fun _ => 0), (fun _ => 0), ⟨by omega, e2, e8, by rw [e4]; rfl, by omega⟩, ⟨⟨by simp, fun j hj => by simp at hj, fun j hj => ?_, by omega⟩, e7, fun u hu => ?_, rfl⟩, hK0, rfl, rfl, fun j hj => absurd hj (Nat.not_lt_zero _), by omega⟩
  · rw [Nat.zero_add, hg j (by omega)]
    have hj2 : (j : Int) < F.2.2.1 f := by rw [c1]; omega
    exact (if_pos hj2).symm
  · rw [List.mem_singleton.mp hu]
    exact ⟨c3, ⟨c, c4, Nat.le_refl _⟩, by show tm_wi (F.2.2.2 f) ≤ k; omega⟩
end
/-! what a plain match writes -/
theorem zfk_nn {kz : Int32} {kf : Nat → Int32} {k : Int32} : 0 ≤ zfk kz kf k := by
  unfold zfk
  split <;> omega
def zBp (gs l : Nat → Int64) (gv : Nat → Int64) (B C n : Nat) : Prop := (∀ k, k < n → l (B + k) = gv (C + k)) ∧ ∀ j, (∀ k, k < n → j ≠ B + k) → l j = gs j
theorem zBp_0 {gs gv : Nat → Int64} {B C : Nat} : zBp gs gs gv B C 0 := ⟨fun k hk => absurd hk (Nat.not_lt_zero _), fun _ _ => rfl⟩
theorem zBp_s {gs l l2 gv : Nat → Int64} {B C n n2 : Nat} {v : Int64} (h : zBp gs l gv B C n) (e : l2 = vp_updL l (B + n) v) (ev : v = gv (C + n)) (en : n2 = n + 1) : zBp gs l2 gv B C n2 := by
  subst e ev en
  refine ⟨fun k hk => ?_, fun j hj => ?_⟩
  · by_cases u : k = n
    · rw [u, cul_s]
    · rw [cul_n (by omega)]; exact h.1 k (by omega)
  · rw [cul_n (hj n (by omega))]; exact h.2 j (fun k hk => hj k (by omega))
/-- a plain match: the arm, its row, its names -/
def cMt (ak an ab af nx : Nat → Int32) (kz : Int32) (kf gk : Nat → Int32) (gv gs gs2 : Nat → Int64) (v : Int64) (ba fr mh mh2 mat2 : Int32) : Prop := ∃ kd am : Int32, (kd.toInt = if zhs v = 0 then -1 else if zhs v = 2 then (gk (Int32.toNatClampNeg v.toInt32)).toInt else v.toInt32.toInt) ∧ am = cfa ak an kd 8 fr ∧ (mh2.toInt = 2 ∧ am.toInt = -1 ∨ mh2.toInt = mh.toInt ∧ am.toInt ≠ -1 ∧ mat2 = nx (Int32.toNatClampNeg (ab (Int32.toNatClampNeg am))) ∧ (¬ zhs v = 2 → gs2 = gs) ∧ (zhs v = 2 → zBp gs gs2 gv (Int32.toNatClampNeg ba + Int32.toNatClampNeg (af (Int32.toNatClampNeg am))) (3 * Int32.toNatClampNeg v.toInt32) (zfk kz kf (ak (Int32.toNatClampNeg am))).toNat))
theorem cMt_kd {gk : Nat → Int32} {v : Int64} {kd : Int32} (h : zhs v = 0 ∧ kd = -1 ∨ zhs v = 2 ∧ kd = gk (Int32.toNatClampNeg v.toInt32) ∨ zhs v ≠ 0 ∧ zhs v ≠ 2 ∧ kd = v.toInt32) : kd.toInt = if zhs v = 0 then -1 else if zhs v = 2 then (gk (Int32.toNatClampNeg v.toInt32)).toInt else v.toInt32.toInt := by
  rcases h with ⟨h1, h2⟩ | ⟨h1, h2⟩ | ⟨h1, h2, h3⟩
  · rw [if_pos h1, h2]; decide
  · rw [if_neg (by rw [h1]; decide), if_pos h1, h2]
  · rw [if_neg h1, if_neg h2, h3]

end
section
/-! the counts, exactly -/
/-- the counts hold: lv the cells that live, R the references that are held, db a bound of all counts -/
def yI (zr : Int64 → Nat → Int) (n : Nat) (lv : Nat → Bool) (wd : Nat → Nat) (gv : Nat → Int64) (gc : Nat → Int) (R : Nat → Int) (db : Int) : Prop :=
  (∀ c, lv c = true → c < n ∧ 1 ≤ gc c ∧ gc c ≤ db + 1 ∧ R c + zct zr n lv wd gv c = gc c) ∧ (∀ c, lv c = false → R c = 0 ∧ zct zr n lv wd gv c = 0) ∧ ∀ c, 0 ≤ R c
/-- a value is doubled -/
theorem yI_copy {zr : Int64 → Nat → Int} {n : Nat} {lv : Nat → Bool} {wd : Nat → Nat} {gv : Nat → Int64} {gc gc2 : Nat → Int} {R : Nat → Int} {db : Int} {x : Nat} (h : yI zr n lv wd gv gc R db) (hx : lv x = true) (e1 : gc2 x = gc x + 1) (e2 : ∀ c, c ≠ x → gc2 c = gc c) (hz : ∀ c, 0 ≤ R c) : yI zr n lv wd gv gc2 (fun c => R c + if c = x then 1 else 0) (db + 1) := by
  refine ⟨fun c hc => ?_, fun c hc => ?_, fun c => ?_⟩
  · obtain ⟨a, b, d, e⟩ := h.1 c hc
    by_cases g : c = x
    · rw [g] at a b d e ⊢
      show x < n ∧ 1 ≤ gc2 x ∧ gc2 x ≤ db + 1 + 1 ∧ R x + (if x = x then 1 else 0) + zct zr n lv wd gv x = gc2 x
      rw [if_pos rfl]; omega
    · show c < n ∧ 1 ≤ gc2 c ∧ gc2 c ≤ db + 1 + 1 ∧ R c + (if c = x then 1 else 0) + zct zr n lv wd gv c = gc2 c
      rw [if_neg g, e2 c g]; omega
  · have g : c ≠ x := fun g => by rw [g, hx] at hc; exact Bool.noConfusion hc
    show R c + (if c = x then 1 else 0) = 0 ∧ _
    rw [if_neg g, Int.add_zero]; exact h.2.1 c hc
  · show 0 ≤ R c + (if c = x then 1 else 0)
    have := hz c
    split <;> omega
/-- a reference is let go, and others stay -/
theorem yI_dec {zr : Int64 → Nat → Int} {n : Nat} {lv : Nat → Bool} {wd : Nat → Nat} {gv : Nat → Int64} {gc gc2 : Nat → Int} {R R2 : Nat → Int} {db : Int} {x : Nat} (h : yI zr n lv wd gv gc R db) (hR : ∀ c, R c = R2 c + if c = x then 1 else 0) (h2 : ∀ c, 0 ≤ R2 c) (e1 : gc2 x = gc x - 1) (e2 : ∀ c, c ≠ x → gc2 c = gc c) (h1 : 1 ≤ gc2 x) : yI zr n lv wd gv gc2 R2 db := by
  refine ⟨fun c hc => ?_, fun c hc => ?_, h2⟩
  · obtain ⟨a, b, d, e⟩ := h.1 c hc
    have r := hR c
    by_cases g : c = x
    · rw [if_pos g] at r; rw [g] at a b d e r ⊢; exact ⟨a, by omega, by omega, by omega⟩
    · rw [if_neg g] at r; rw [e2 c g]; exact ⟨a, by omega, by omega, by omega⟩
  · have r := hR c
    obtain ⟨a, b⟩ := h.2.1 c hc
    have := h2 c
    refine ⟨?_, b⟩
    split at r <;> omega
/-- the last reference is let go: the cell dies, its own references are held -/
theorem yI_die {zr : Int64 → Nat → Int} (h0 : ∀ v c, 0 ≤ zr v c) {n : Nat} {lv lv2 : Nat → Bool} {wd : Nat → Nat} {gv : Nat → Int64} {gc gc2 : Nat → Int} {R R2 : Nat → Int} {db : Int} {x : Nat} (h : yI zr n lv wd gv gc R db) (hR : ∀ c, R c = R2 c + if c = x then 1 else 0) (h2 : ∀ c, 0 ≤ R2 c) (hx : lv x = true) (h1 : gc x ≤ 1) (e1 : lv2 x = false) (e2 : ∀ c, c ≠ x → lv2 c = lv c ∧ gc2 c = gc c) : yI zr n lv2 wd gv gc2 (fun c => R2 c + zcf zr wd gv x c) db := by
  obtain ⟨a, b, d, e⟩ := h.1 x hx
  have rx := hR x
  rw [if_pos rfl] at rx
  have tx := zct_0 h0 (n := n) (lv := lv) (wd := wd) (gv := gv) (c := x)
  have r2x := h2 x
  have fx := zct_ge h0 (zr := zr) (lv := lv) (wd := wd) (gv := gv) (c := x) a hx
  have fx0 := zcf_0 h0 (zr := zr) (wd := wd) (gv := gv) (d := x) (c := x)
  have hd : ∀ c, zct zr n lv2 wd gv c = zct zr n lv wd gv c - zcf zr wd gv x c := fun c => zct_die a hx e1 (fun d hd => (e2 d hd).1)
  refine ⟨fun c hc => ?_, fun c hc => ?_, fun c => ?_⟩
  · have g : c ≠ x := fun g => by rw [g, e1] at hc; exact Bool.noConfusion hc
    rw [(e2 c g).1] at hc
    obtain ⟨p, q, r, s⟩ := h.1 c hc
    have rc := hR c
    rw [if_neg g] at rc
    rw [(e2 c g).2]
    refine ⟨p, q, r, ?_⟩
    show R2 c + zcf zr wd gv x c + zct zr n lv2 wd gv c = gc c
    rw [hd c]; omega
  · show R2 c + zcf zr wd gv x c = 0 ∧ zct zr n lv2 wd gv c = 0
    rw [hd c]
    by_cases g : c = x
    · rw [g]; omega
    · rw [(e2 c g).1] at hc
      obtain ⟨p, q⟩ := h.2.1 c hc
      have rc := hR c
      rw [if_neg g] at rc
      have f0 := zct_ge h0 (zr := zr) (lv := lv) (wd := wd) (gv := gv) (c := c) a hx
      have f1 := zcf_0 h0 (zr := zr) (wd := wd) (gv := gv) (d := x) (c := c)
      omega
  · show 0 ≤ R2 c + zcf zr wd gv x c
    have := zcf_0 h0 (zr := zr) (wd := wd) (gv := gv) (d := x) (c := c)
    have := h2 c
    omega
/-- a cell that doesn't live is filled out of references that are held -/
theorem yI_fill {zr : Int64 → Nat → Int} (h0 : ∀ v c, 0 ≤ zr v c) {n : Nat} {lv lv2 : Nat → Bool} {wd wd2 : Nat → Nat} {gv gv2 : Nat → Int64} {gc gc2 : Nat → Int} {R R2 : Nat → Int} {db : Int} {x : Nat} (h : yI zr n lv wd gv gc R db) (hdb : 0 ≤ db) (hx : lv x = false) (hn : x < n) (e0 : lv2 x = true) (e1 : gc2 x = 1) (e2 : ∀ c, c ≠ x → lv2 c = lv c ∧ gc2 c = gc c) (e3 : ∀ c, c ≠ x → lv c = true → wd2 c = wd c ∧ ∀ k, k < wd c → gv2 (3 * c + k) = gv (3 * c + k)) (hR : ∀ c, R c = R2 c + zcf zr wd2 gv2 x c) (h2 : ∀ c, 0 ≤ R2 c) : yI zr n lv2 wd2 gv2 gc2 (fun c => R2 c + if c = x then 1 else 0) db := by
  have hd : ∀ c, zct zr n lv2 wd2 gv2 c = zct zr n lv wd gv c + zcf zr wd2 gv2 x c := fun c => by
    have := zs_up (f := fun d => if lv d = true then zcf zr wd gv d c else 0) (g := fun d => if lv2 d = true then zcf zr wd2 gv2 d c else 0) (n := n) (x := x) (fun d _ hd => by
      obtain ⟨a, -⟩ := e2 d hd
      show (if lv2 d = true then zcf zr wd2 gv2 d c else 0) = (if lv d = true then zcf zr wd gv d c else 0)
      rw [a]
      by_cases g : lv d = true
      · obtain ⟨b, e⟩ := e3 d hd g
        have : zcf zr wd2 gv2 d c = zcf zr wd gv d c := by
          unfold zcf
          rw [b]
          exact zs_ext (fun k hk => by rw [e k hk])
        rw [this]
      · rw [if_neg g, if_neg g]) hn
    show zs n _ = zs n _ + _
    rw [this]
    have p : (if lv x = true then zcf zr wd gv x c else 0 : Int) = 0 := if_neg (by rw [hx]; exact Bool.noConfusion)
    have q : (if lv2 x = true then zcf zr wd2 gv2 x c else 0 : Int) = zcf zr wd2 gv2 x c := if_pos e0
    rw [p, q]; omega
  have fx0 : ∀ c, 0 ≤ zcf zr wd2 gv2 x c := fun c => zcf_0 h0
  refine ⟨fun c hc => ?_, fun c hc => ?_, fun c => ?_⟩
  · have rc := hR c
    have r2 := h2 c
    have f0 := fx0 c
    by_cases g : c = x
    · obtain ⟨p, q⟩ := h.2.1 x hx
      rw [g] at rc r2 f0 ⊢
      show x < n ∧ 1 ≤ gc2 x ∧ gc2 x ≤ db + 1 ∧ R2 x + (if x = x then 1 else 0) + zct zr n lv2 wd2 gv2 x = gc2 x
      rw [if_pos rfl, hd x]; omega
    · rw [(e2 c g).1] at hc
      obtain ⟨p, q, r, s⟩ := h.1 c hc
      show c < n ∧ 1 ≤ gc2 c ∧ gc2 c ≤ db + 1 ∧ R2 c + (if c = x then 1 else 0) + zct zr n lv2 wd2 gv2 c = gc2 c
      rw [if_neg g, hd c, (e2 c g).2]; omega
  · have g : c ≠ x := fun g => by rw [g, e0] at hc; exact Bool.noConfusion hc
    rw [(e2 c g).1] at hc
    obtain ⟨p, q⟩ := h.2.1 c hc
    have rc := hR c
    have r2 := h2 c
    have f0 := fx0 c
    show R2 c + (if c = x then 1 else 0) = 0 ∧ zct zr n lv2 wd2 gv2 c = 0
    rw [if_neg g, hd c]; omega
  · show 0 ≤ R2 c + (if c = x then 1 else 0)
    have := h2 c
    split <;> omega
/-- one more cell, that doesn't live -/
theorem yI_grow {zr : Int64 → Nat → Int} {n : Nat} {lv : Nat → Bool} {wd : Nat → Nat} {gv : Nat → Int64} {gc : Nat → Int} {R : Nat → Int} {db : Int} (h : yI zr n lv wd gv gc R db) (hn : lv n = false) : yI zr (n + 1) lv wd gv gc R db := by
  have e : ∀ c, zct zr (n + 1) lv wd gv c = zct zr n lv wd gv c := fun c => by
    show zs n _ + (if lv n = true then _ else 0) = zs n _
    rw [if_neg (by rw [hn]; exact Bool.noConfusion), Int.add_zero]
  refine ⟨fun c hc => ?_, fun c hc => ?_, h.2.2⟩
  · obtain ⟨a, b, d, f⟩ := h.1 c hc
    rw [e c]; exact ⟨by omega, b, d, f⟩
  · rw [e c]; exact h.2.1 c hc

end
section
/-- a fact that omega need not look into -/
def zOq (p : Prop) : Prop := p
/-- what is needed of a tree that is to be done -/
def tm_dn : Tm → Nat → Bool
  | .branch 1 (.leaf (some (_ + 1, _, _, s, _, _))) (.branch _ _ y), j => tm_ub y j && !(j == s)
  | .branch 2 (.leaf (some (_, _, _, _, _, _))) (.branch _ _ (.branch _ y w)), j => tm_ub y j || tm_ub w j
  | .branch 0 (.leaf (some (2, p, _, s, _, _))) x, j => tm_ub (Tm.mat p s x) j
  | _, _ => false
theorem dn_ub : ∀ (t : Tm) {j : Nat}, tm_dn t j = true → tm_ub t j = true
  | .branch 1 (.leaf (some (_ + 1, _, _, s, _, _))) (.branch _ x y), j, h => by
    show (tm_ub x j || (tm_ub y j && !(j == s))) = true
    rw [show (tm_ub y j && !(j == s)) = true from h, Bool.or_true]
  | .branch 2 (.leaf (some (_, _, _, _, _, _))) (.branch _ x (.branch _ y w)), j, h => by
    show (tm_ub x j || tm_ub y j || tm_ub w j) = true
    rw [Bool.or_assoc, show (tm_ub y j || tm_ub w j) = true from h, Bool.or_true]
  | .leaf (some (0, _, _, _, _, _)), _, h => nomatch (show false = true from h)
  | .leaf (some (_ + 1, _, _, _, _, _)), _, h => nomatch (show false = true from h)
  | .branch 0 (.leaf (some (0, _, _, _, _, _))) _, _, h => nomatch (show false = true from h)
  | .branch 0 (.leaf (some (1, _, _, _, _, _))) _, _, h => nomatch (show false = true from h)
  | .branch 0 (.leaf (some (2, _, _, _, _, _))) _, _, h => h
  | .branch 1 (.leaf (some (0, _, _, _, _, _))) (.branch _ _ _), _, h => nomatch (show false = true from h)
  | .branch 0 (.leaf (some (_ + 3, _, _, _, _, _))) _, _, h => nomatch (show false = true from h)
  | .leaf none, _, h => nomatch (show false = true from h)
  | .branch (_ + 3) _ _, _, h => nomatch (show false = true from h)
  | .branch 0 (.leaf none) _, _, h => nomatch (show false = true from h)
  | .branch 0 (.branch _ _ _) _, _, h => nomatch (show false = true from h)
  | .branch 1 (.leaf none) _, _, h => nomatch (show false = true from h)
  | .branch 1 (.branch _ _ _) _, _, h => nomatch (show false = true from h)
  | .branch 1 (.leaf (some (0, _, _, _, _, _))) (.leaf _), _, h => nomatch (show false = true from h)
  | .branch 1 (.leaf (some (_ + 1, _, _, _, _, _))) (.leaf _), _, h => nomatch (show false = true from h)
  | .branch 2 (.leaf none) _, _, h => nomatch (show false = true from h)
  | .branch 2 (.branch _ _ _) _, _, h => nomatch (show false = true from h)
  | .branch 2 (.leaf (some (_, _, _, _, _, _))) (.leaf _), _, h => nomatch (show false = true from h)
  | .branch 2 (.leaf (some (_, _, _, _, _, _))) (.branch _ _ (.leaf _)), _, h => nomatch (show false = true from h)
def pm_nd (j : Nat) (t : Tm) (i : Nat) : Bool := if j = 0 then tm_ub t i else tm_dn t i
theorem nd_ub {j i : Nat} {t : Tm} (h : pm_nd j t i = true) : tm_ub t i = true := by
  unfold pm_nd at h
  split at h
  · exact h
  · exact dn_ub t h
theorem nd_wf {zk : Nat} {fd : Nat → Int32} {j i d : Nat} {t : Tm} (w : tm_wf zk fd t d) (h : pm_nd j t i = true) : i < d := wf_ub t w (nd_ub h)
/-- names that the tasks of the call at hand need -/
def nF : List (Nat × Tm) → Nat → Bool
  | [], _ => false
  | (j, t) :: K, i => if j = 2 then false else if j = 3 then nF K i else pm_nd j t i || nF K i
/-- the tasks behind the call at hand -/
def aF : List (Nat × Tm) → List (Nat × Tm)
  | [] => []
  | (j, _) :: K => if j = 2 then K else aF K
/-- references that names hold, that values hold -/
def mRn : List (Nat → Int64) → List (Nat × Tm) → Nat → Int
  | [], _, _ => 0
  | e :: E, K, x => zs 24 (fun i => if nF K i = true then zr (e i) x else 0) + mRn E (aF K) x
def mRv : List Int64 → Nat → Int
  | [], _ => 0
  | v :: V, x => zr v x + mRv V x
def mRt (K : List (Nat × Tm)) (V : List Int64) (E : List (Nat → Int64)) (x : Nat) : Int := mRv V x + mRn E K x
/-- a cell's fields -/
def cWd (fd : Nat → Int32) (ck : Nat → Int32) (d : Nat) : Nat := (fd (Int32.toNatClampNeg (ck d))).toInt.toNat
/-- what is reached from references that are held -/
def lvA (c : Nat) (w : Nat → Nat) (cf : Nat → Int64) (R : Nat → Int) : Nat → Nat → Bool
  | 0, _ => false
  | k + 1, x => decide (1 ≤ R x) || (List.range c).any (fun d => decide (x < d) && (decide (1 ≤ zcf zr w cf d x) && lvA c w cf R k d))
def lvC (c : Nat) (w : Nat → Nat) (cf : Nat → Int64) (R : Nat → Int) (x : Nat) : Bool := decide (x < c) && lvA c w cf R c x
/-- how many are reached -/
def nLv (c : Nat) (w : Nat → Nat) (cf : Nat → Int64) (R : Nat → Int) : Int := zs c (fun x => if lvC c w cf R x = true then 1 else 0)
/-- a cell's count -/
def cCt (c : Nat) (w : Nat → Nat) (cf : Nat → Int64) (R : Nat → Int) (x : Nat) : Int := R x + zct zr c (lvC c w cf R) w cf x
/-- shells (the call, the cell, its fields; the latest first), made, built anew, the most, doubled, the most calls -/
abbrev cm_X := List (Nat × Nat × Nat) × Nat × Nat × Int × Nat × Nat
abbrev cm_S := pm_S × cm_X
def sh_f (o m : Nat) : List (Nat × Nat × Nat) → Option Nat
  | [] => none
  | (q, i, w) :: S => if q = o then (if w = m then some i else sh_f o m S) else none
def sh_r (i : Nat) : List (Nat × Nat × Nat) → List (Nat × Nat × Nat)
  | [] => []
  | (q, j, w) :: S => if j = i then S else (q, j, w) :: sh_r i S
/-- how many are held -/
def cm_hl (fd : Nat → Int32) : cm_S → Int
  | ((K, V, E, _, c, ck, cf), (S, _)) => nLv c (cWd fd ck) cf (mRt K V E) + (S.length : Int)
def tm_id : Tm → Nat
  | .leaf (some (_ + 1, _, _, s, _, _)) => s
  | _ => 0
def cm_us : Tm → List (Nat × Tm) → List (Nat → Int64) → Nat
  | .leaf (some (_ + 1, _, _, s, _, _)), K, E => if nF K s = true ∧ zhs (E.headD (fun _ => 0) s) = 2 then 1 else 0
  | _, _, _ => 0
/-- how many of a cell's fields are cells and needed -/
def cm_fd (cf : Nat → Int64) (K : List (Nat × Tm)) (x h : Nat) : Nat → Nat
  | 0 => 0
  | k + 1 => cm_fd cf K x h k + if nF K (h + k) = true ∧ zhs (cf (3 * x + k)) = 2 then 1 else 0
def cm_w (t : Tm) (K : List (Nat × Tm)) (V : List Int64) (E : List (Nat → Int64)) (n c : Nat) (ck : Nat → Int32) (cf : Nat → Int64) (X : cm_X) : Except (Nat × Int × cm_S) cm_S :=
  match pm_w t K V E n c ck cf with
  | .ok s => .ok (s, (X.1, X.2.1, X.2.2.1, X.2.2.2.1, X.2.2.2.2.1 + cm_us t K E, X.2.2.2.2.2))
  | .error e => .error (e.1, e.2, ((K, V, E, n, c, ck, cf), X))
/-- a match: s the name's slot -/
def cm_mt (fd : Nat → Int32) (p : Int) (s : Nat) (a : Tm) (K0 K : List (Nat × Tm)) (V : List Int64) (E : List (Nat → Int64)) (n c : Nat) (ck : Nat → Int32) (cf : Nat → Int64) (X : cm_X) : Except (Nat × Int × cm_S) cm_S :=
  match pm_fi (pm_kd ck (E.headD (fun _ => 0) s)) a with
  | none => .error (2, p, ((K0, V, E, n, c, ck, cf), X))
  | some y =>
    if zhs (E.headD (fun _ => 0) s) = 2 ∧ am_k y ≠ -1 then
      if nF ((0, am_x y) :: K) s = false ∧ cCt c (cWd fd ck) cf (mRt K0 V E) (Int32.toNatClampNeg (E.headD (fun _ => 0) s).toInt32) = 1 then
        if tm_mk (am_x y) (am_m y) = true then
          .ok (((0, am_x y) :: (3, Tm.use 0 (Int32.toNatClampNeg (E.headD (fun _ => 0) s).toInt32)) :: K, V, pm_bd (E.headD (fun _ => 0)) cf (Int32.toNatClampNeg (E.headD (fun _ => 0) s).toInt32) (am_h y) (am_m y) :: E.tail, n, c, ck, cf), ((E.length, Int32.toNatClampNeg (E.headD (fun _ => 0) s).toInt32, am_m y) :: X.1, X.2))
        else .ok (((0, am_x y) :: K, V, pm_bd (E.headD (fun _ => 0)) cf (Int32.toNatClampNeg (E.headD (fun _ => 0) s).toInt32) (am_h y) (am_m y) :: E.tail, n, c, ck, cf), X)
      else .ok (((0, am_x y) :: K, V, pm_bd (E.headD (fun _ => 0)) cf (Int32.toNatClampNeg (E.headD (fun _ => 0) s).toInt32) (am_h y) (am_m y) :: E.tail, n, c, ck, cf), (X.1, X.2.1, X.2.2.1, X.2.2.2.1, X.2.2.2.2.1 + cm_fd cf ((0, am_x y) :: K) (Int32.toNatClampNeg (E.headD (fun _ => 0) s).toInt32) (am_h y) (am_m y), X.2.2.2.2.2))
    else .ok (((0, am_x y) :: K, V, E, n, c, ck, cf), X)
def cm_d (F : sp_F) (fd : Nat → Int32) (lim : Int) : Tm → List (Nat × Tm) → List (Nat × Tm) → List Int64 → List (Nat → Int64) → Nat → Nat → (Nat → Int32) → (Nat → Int64) → cm_X → Except (Nat × Int × cm_S) cm_S
  | .branch 0 (.leaf (some (0, p, _, _, _, w))) _, K0, K, V, E, n, c, ck, cf, X => if 100 ≤ E.length then .error (4, p, ((K0, V, E, n, c, ck, cf), X)) else .ok (((0, F.2.2.2 (sp_fi F.2.1 w F.1)) :: (2, Tm.nil) :: K, V.drop (F.2.2.1 (sp_fi F.2.1 w F.1)).toNat, pm_ae V (F.2.2.1 (sp_fi F.2.1 w F.1)).toNat :: E, n, c, ck, cf), (X.1, X.2.1, X.2.2.1, X.2.2.2.1, X.2.2.2.2.1, max X.2.2.2.2.2 (E.length + 1)))
  | .branch 0 (.leaf (some (1, p, _, k, _, _))) a, K0, K, V, E, n, c, ck, cf, X =>
    if tm_ln a = 0 then .ok ((K, pv1 (Int32.ofInt (k : Int)) :: V, E, n, c, ck, cf), X)
    else match sh_f E.length (tm_ln a) X.1 with
      | some i => .ok ((K, pv2 (Int32.ofInt (c : Int)) :: V.drop (tm_ln a), E, n, c + 1, upd ck c (Int32.ofInt (k : Int)), pm_cf cf V c (tm_ln a)), (sh_r i X.1, X.2.1, X.2.2.1 + 1, X.2.2.2))
      | none => if lim ≤ cm_hl fd ((K0, V, E, n, c, ck, cf), X) then .error (3, p, ((K0, V, E, n, c, ck, cf), X)) else .ok ((K, pv2 (Int32.ofInt (c : Int)) :: V.drop (tm_ln a), E, n, c + 1, upd ck c (Int32.ofInt (k : Int)), pm_cf cf V c (tm_ln a)), (X.1, X.2.1 + 1, X.2.2.1, max X.2.2.2.1 (cm_hl fd ((K0, V, E, n, c, ck, cf), X) + 1), X.2.2.2.2))
  | .branch 0 (.leaf (some (2, p, _, s, _, _))) a, K0, K, V, E, n, c, ck, cf, X => cm_mt fd p s a K0 K V E n c ck cf X
  | t, K0, K, V, E, n, c, ck, cf, X =>
    match pm_d F t K V E n c ck cf with
    | .ok s => .ok (s, X)
    | .error e => .error (e.1, e.2, ((K0, V, E, n, c, ck, cf), X))
/-- one step of a counted run -/
def cm_st (F : sp_F) (fd : Nat → Int32) (lim : Int) (al : Nat) : cm_S → Except (Nat × Int × cm_S) cm_S
  | (([], V, E, n, c, ck, cf), X) => .error (1, -1, (([], V, E, n, c, ck, cf), X))
  | (((j, t) :: K, V, E, n, c, ck, cf), X) =>
    if j = 0 then (if n = al then .error (5, pm_pl t, (((j, t) :: K, V, E, n, c, ck, cf), X)) else cm_w t K V E (n + 1) c ck cf X)
    else if j = 1 then cm_d F fd lim t ((j, t) :: K) K V E n c ck cf X
    else if j = 3 then .ok ((K, V, E, n, c, ck, cf), (sh_r (tm_id t) X.1, X.2))
    else .ok ((K, V, E.tail, n, c, ck, cf), X)
def cm_it (F : sp_F) (fd : Nat → Int32) (lim : Int) (al : Nat) : Nat → cm_S → Except (Nat × Int × cm_S) cm_S
  | 0, s => .ok s
  | n + 1, s => match cm_st F fd lim al s with
    | .ok s2 => cm_it F fd lim al n s2
    | .error e => .error e
theorem cm_it_1 {F : sp_F} {fd : Nat → Int32} {lim : Int} {al : Nat} : ∀ {n : Nat} {s s2 : cm_S}, cm_it F fd lim al n s = .ok s2 → cm_it F fd lim al (n + 1) s = cm_st F fd lim al s2
  | 0, s, s2, h => by
    cases h
    unfold cm_it
    cases cm_st F fd lim al s with
    | ok a => rfl
    | error e => rfl
  | n + 1, s, s2, h => by
    unfold cm_it at h ⊢
    cases g : cm_st F fd lim al s with
    | ok a => rw [g] at h; exact cm_it_1 h
    | error e => rw [g] at h; cases h
def cm_re (F : sp_F) (fd : Nat → Int32) (lim : Int) (al : Nat) (s s2 : cm_S) : Prop := ∃ n, cm_it F fd lim al n s = .ok s2
def cm_ou (F : sp_F) (fd : Nat → Int32) (lim : Int) (al : Nat) (s : cm_S) (e : Nat × Int × cm_S) : Prop := ∃ n, cm_it F fd lim al n s = .error e
theorem cm_re_r {F : sp_F} {fd : Nat → Int32} {lim : Int} {al : Nat} {s : cm_S} : cm_re F fd lim al s s := ⟨0, rfl⟩
theorem cm_re_s {F : sp_F} {fd : Nat → Int32} {lim : Int} {al : Nat} {s s2 s3 : cm_S} (h : cm_re F fd lim al s s2) (h2 : cm_st F fd lim al s2 = .ok s3) : cm_re F fd lim al s s3 := by
  obtain ⟨n, h⟩ := h
  exact ⟨n + 1, (cm_it_1 h).trans h2⟩
theorem cm_ou_s {F : sp_F} {fd : Nat → Int32} {lim : Int} {al : Nat} {s s2 : cm_S} {e : Nat × Int × cm_S} (h : cm_re F fd lim al s s2) (h2 : cm_st F fd lim al s2 = .error e) : cm_ou F fd lim al s e := by
  obtain ⟨n, h⟩ := h
  exact ⟨n + 1, (cm_it_1 h).trans h2⟩
theorem cm_it_m {F : sp_F} {fd : Nat → Int32} {lim : Int} {al : Nat} {e : Nat × Int × cm_S} : ∀ {n k : Nat} {s : cm_S}, cm_it F fd lim al n s = .error e → cm_it F fd lim al (n + k) s = .error e
  | 0, k, s, h => by cases h
  | n + 1, k, s, h => by
    rw [show n + 1 + k = (n + k) + 1 from by omega]
    unfold cm_it at h ⊢
    cases g : cm_st F fd lim al s with
    | ok a => rw [g] at h; exact cm_it_m h
    | error e2 => rw [g] at h; exact h
theorem cm_ou_1 {F : sp_F} {fd : Nat → Int32} {lim : Int} {al : Nat} {s : cm_S} {e e2 : Nat × Int × cm_S} (h : cm_ou F fd lim al s e) (h2 : cm_ou F fd lim al s e2) : e = e2 := by
  obtain ⟨n, h⟩ := h
  obtain ⟨m, h2⟩ := h2
  have h3 := cm_it_m (k := m) h
  have h4 := cm_it_m (k := n) h2
  rw [Nat.add_comm] at h4
  exact Except.error.inj (h3.symm.trans h4)
/-- FUNCTION f with these INTS, counted -/
def cm_s0 (F : sp_F) (f : Nat) (a b c d : Int32) : cm_S := (pm_s0 F f a b c d, ([], 0, 0, 0, 0, 1))
/-! what lives is what is reached -/
section
variable {c : Nat} {w : Nat → Nat} {cf : Nat → Int64} {R : Nat → Int} {lv : Nat → Bool}
theorem lvA_1 (hf : ∀ x, x < c → (lv x = true ↔ 1 ≤ R x ∨ ∃ d, d < c ∧ lv d = true ∧ 1 ≤ zcf zr w cf d x)) (ha : ∀ d, d < c → lv d = true → ∀ x, 1 ≤ zcf zr w cf d x → x < d) (hr : ∀ d, d < c → lvA c w cf R c d = lvA c w cf R c d) : ∀ (k x : Nat), x < c → c ≤ x + k → (lvA c w cf R k x = true → lv x = true)
  | 0, x, h1, h2, _ => absurd h1 (by omega)
  | k + 1, x, h1, h2, h => by
    have h : (decide (1 ≤ R x) || (List.range c).any (fun d => decide (x < d) && (decide (1 ≤ zcf zr w cf d x) && lvA c w cf R k d))) = true := h
    rw [Bool.or_eq_true, decide_eq_true_eq, List.any_eq_true] at h
    rcases h with h | ⟨d, hd, h⟩
    · exact (hf x h1).mpr (Or.inl h)
    · rw [List.mem_range] at hd
      rw [Bool.and_eq_true, Bool.and_eq_true, decide_eq_true_eq, decide_eq_true_eq] at h
      exact (hf x h1).mpr (Or.inr ⟨d, hd, lvA_1 hf ha hr k d hd (by omega) h.2.2, h.2.1⟩)
theorem lvA_2 (hf : ∀ x, x < c → (lv x = true ↔ 1 ≤ R x ∨ ∃ d, d < c ∧ lv d = true ∧ 1 ≤ zcf zr w cf d x)) (ha : ∀ d, d < c → lv d = true → ∀ x, 1 ≤ zcf zr w cf d x → x < d) : ∀ (k x : Nat), x < c → c ≤ x + k → lv x = true → lvA c w cf R k x = true
  | 0, x, h1, h2, _ => absurd h1 (by omega)
  | k + 1, x, h1, h2, h => by
    show (decide (1 ≤ R x) || (List.range c).any (fun d => decide (x < d) && (decide (1 ≤ zcf zr w cf d x) && lvA c w cf R k d))) = true
    rw [Bool.or_eq_true, decide_eq_true_eq, List.any_eq_true]
    rcases (hf x h1).mp h with h | ⟨d, hd, hl, h⟩
    · exact Or.inl h
    · have := ha d hd hl x h
      refine Or.inr ⟨d, List.mem_range.mpr hd, ?_⟩
      rw [Bool.and_eq_true, Bool.and_eq_true, decide_eq_true_eq, decide_eq_true_eq]
      exact ⟨this, h, lvA_2 hf ha k d hd (by omega) hl⟩
theorem zs_pos {f : Nat → Int} : ∀ {n : Nat}, (∀ d, d < n → 0 ≤ f d) → 1 ≤ zs n f → ∃ d, d < n ∧ 1 ≤ f d
  | 0, _, h => absurd h (by show ¬ (1 : Int) ≤ 0; decide)
  | n + 1, h0, h => by
    have h : 1 ≤ zs n f + f n := h
    by_cases g : 1 ≤ f n
    · exact ⟨n, Nat.lt_succ_self _, g⟩
    · obtain ⟨d, h1, h2⟩ := zs_pos (fun d hd => h0 d (by omega)) (show 1 ≤ zs n f by omega)
      exact ⟨d, by omega, h2⟩
theorem yI_lv {gc : Nat → Int} {db : Int} (h : yI zr c lv w cf gc R db) (ha : ∀ d, d < c → lv d = true → ∀ x, 1 ≤ zcf zr w cf d x → x < d) : lv = lvC c w cf R := by
  have hf : ∀ x, x < c → (lv x = true ↔ 1 ≤ R x ∨ ∃ d, d < c ∧ lv d = true ∧ 1 ≤ zcf zr w cf d x) := fun x _ => by
    constructor
    · intro hl
      obtain ⟨a, b, -, e⟩ := h.1 x hl
      by_cases g : 1 ≤ R x
      · exact Or.inl g
      · obtain ⟨d, d1, d2⟩ := zs_pos (n := c) (f := fun d => if lv d = true then zcf zr w cf d x else 0) (fun d _ => zct_i zr_0) (show 1 ≤ zct zr c lv w cf x by have := h.2.2 x; omega)
        by_cases u : lv d = true
        · rw [if_pos u] at d2; exact Or.inr ⟨d, d1, u, d2⟩
        · rw [if_neg u] at d2; exact absurd d2 (by decide)
    · intro g
      cases u : lv x with
      | true => rfl
      | false =>
        obtain ⟨p, q⟩ := h.2.1 x u
        rcases g with g | ⟨d, d1, d2, d3⟩
        · omega
        · have := zct_ge (zr := zr) zr_0 (lv := lv) (wd := w) (gv := cf) (c := x) d1 d2
          omega
  funext x
  unfold lvC
  by_cases g : x < c
  · rw [decide_eq_true g, Bool.true_and]
    cases u : lvA c w cf R c x with
    | true => exact lvA_1 hf ha (fun _ _ => rfl) c x g (by omega) u
    | false =>
      cases v : lv x with
      | false => rfl
      | true => rw [lvA_2 hf ha c x g (by omega) v] at u; cases u
  · rw [decide_eq_false g, Bool.false_and]
    cases v : lv x with
    | false => rfl
    | true => exact absurd (h.1 x v).1 g
/-- counts are what the machine counts -/
theorem yI_ct {gc : Nat → Int} {db : Int} (h : yI zr c lv w cf gc R db) (ha : ∀ d, d < c → lv d = true → ∀ x, 1 ≤ zcf zr w cf d x → x < d) {x : Nat} (hx : lv x = true) : gc x = cCt c w cf R x := by
  unfold cCt
  rw [← yI_lv h ha]
  exact (h.1 x hx).2.2.2.symm
end

end
section
/-! the machine's cells and those of a program: phi says which is which -/
/-- a value of the machine's, a value of the program's -/
def vr (φ : Nat → Nat) (v u : Int64) : Prop := (zhs v ≠ 2 ∧ u = v) ∨ (zhs v = 2 ∧ zhs u = 2 ∧ 0 ≤ v.toInt32.toInt ∧ u.toInt32.toInt = (φ (Int32.toNatClampNeg v.toInt32) : Int))
def hUpd {α : Type} (f : Nat → α) (x : Nat) (v : α) : Nat → α := fun y => if y = x then v else f y
theorem hU_s {α : Type} {f : Nat → α} {x : Nat} {v : α} : hUpd f x v x = v := if_pos rfl
theorem hU_n {α : Type} {f : Nat → α} {x y : Nat} {v : α} (h : y ≠ x) : hUpd f x v y = f y := if_neg h
/-- how many live -/
def hN (c : Nat) (lv : Nat → Bool) : Int := zs c (fun x => if lv x = true then 1 else 0)
theorem hN_die {c x : Nat} {lv : Nat → Bool} (hx : x < c) (hl : lv x = true) : hN c (hUpd lv x false) = hN c lv - 1 := by
  unfold hN
  rw [zs_up (f := fun y => if lv y = true then 1 else 0) (g := fun y => if hUpd lv x false y = true then 1 else 0) (x := x) (fun d _ hd => by show (if hUpd lv x false d = true then (1 : Int) else 0) = _; rw [hU_n hd]) hx]
  show zs c _ - (if lv x = true then (1 : Int) else 0) + (if hUpd lv x false x = true then (1 : Int) else 0) = _
  rw [hU_s, if_pos hl, if_neg (by decide)]; omega
theorem hN_new {c : Nat} {lv : Nat → Bool} : hN (c + 1) (hUpd lv c true) = hN c lv + 1 := by
  show zs c _ + (if hUpd lv c true c = true then (1 : Int) else 0) = _
  rw [hU_s, if_pos rfl]
  unfold hN
  rw [zs_ext (f := fun y => if hUpd lv c true y = true then (1 : Int) else 0) (g := fun y => if lv y = true then (1 : Int) else 0) (fun d hd => by show (if hUpd lv c true d = true then (1 : Int) else 0) = _; rw [hU_n (by omega)])]
theorem hN_0 {c : Nat} {lv : Nat → Bool} : 0 ≤ hN c lv := zs_0 (fun d _ => by show (0 : Int) ≤ if lv d = true then 1 else 0; split <;> decide)
/-- the heap: lv what lives, gA its counts, R what holds it, SI the shells; gk gc gv the program's rows -/
def hZ (φ : Nat → Nat) (lv : Nat → Bool) (gA : Nat → Int) (c : Nat) (w : Nat → Nat) (kA : Nat → Int32) (cA : Nat → Int64) (R : Nat → Int) (SI : List Nat) (gk gc : Nat → Int32) (gv : Nat → Int64) : Prop :=
  (∃ db, yI zr c lv w cA gA R db ∧ 0 ≤ db) ∧ (∀ d x, lv d = true → 1 ≤ zcf zr w cA d x → x < d) ∧
  (∀ x, lv x = true → φ x < 400 ∧ gk (φ x) = kA x ∧ (gc (φ x)).toInt = gA x ∧ w x ≤ 3 ∧ ∀ k, k < w x → vr φ (cA (3 * x + k)) (gv (3 * φ x + k))) ∧
  (∀ x, x ∈ SI → x < c ∧ lv x = false ∧ φ x < 400) ∧ SI.Nodup ∧
  ∀ x y, (lv x = true ∨ x ∈ SI) → (lv y = true ∨ y ∈ SI) → φ x = φ y → x = y
/-- the reference's free rows -/
def hF (φ : Nat → Nat) (lv : Nat → Bool) (c : Nat) (SI : List Nat) (fr : Nat → Int32) (fc gi : Int) : Prop :=
  (∀ i : Nat, (i : Int) < fc → 0 ≤ (fr i).toInt ∧ (fr i).toInt < 400 ∧ ∀ x, (lv x = true ∨ x ∈ SI) → φ x ≠ Int32.toNatClampNeg (fr i)) ∧ (∀ i j : Nat, i < j → (j : Int) < fc → (fr i).toInt ≠ (fr j).toInt) ∧ fc = gi - (hN c lv + (SI.length : Int)) ∧ 0 ≤ fc
section
variable {φ φ2 : Nat → Nat} {lv : Nat → Bool} {gA : Nat → Int} {c : Nat} {w w2 : Nat → Nat} {kA kA2 : Nat → Int32} {cA cA2 : Nat → Int64} {R R2 : Nat → Int} {SI : List Nat} {gk gk2 gc gc2 : Nat → Int32} {gv gv2 : Nat → Int64} {fr fr2 : Nat → Int32} {fc fc2 gi : Int} {v u : Int64} {x : Nat}
theorem vr_n (h : vr φ v u) (g : zhs u ≠ 2) : u = v ∧ zhs v ≠ 2 := by
  rcases h with ⟨h1, h2⟩ | ⟨-, h, -⟩
  · exact ⟨h2, h1⟩
  · exact absurd h g
theorem vr_c (h : vr φ v u) (g : zhs u = 2) : zhs v = 2 ∧ 0 ≤ v.toInt32.toInt ∧ Int32.toNatClampNeg u.toInt32 = φ (Int32.toNatClampNeg v.toInt32) := by
  rcases h with ⟨h1, h2⟩ | ⟨h1, -, h2, h3⟩
  · rw [h2] at g; exact absurd g h1
  · exact ⟨h1, h2, zn_lit h3⟩
theorem vr_h (h : vr φ v u) : zhs u = zhs v := by
  rcases h with ⟨h1, h2⟩ | ⟨h1, h2, -⟩
  · rw [h2]
  · rw [h1, h2]
theorem vr_x (h : vr φ v u) (e : zhs v = 2 → φ2 (Int32.toNatClampNeg v.toInt32) = φ (Int32.toNatClampNeg v.toInt32)) : vr φ2 v u := by
  rcases h with h | ⟨h1, h2, h3, h4⟩
  · exact Or.inl h
  · exact Or.inr ⟨h1, h2, h3, by rw [e h1]; exact h4⟩
theorem hZ_R (h : hZ φ lv gA c w kA cA R SI gk gc gv) (e : ∀ x, R2 x = R x) : hZ φ lv gA c w kA cA R2 SI gk gc gv := by
  obtain rfl : R2 = R := funext e
  exact h
/-- what is held lives -/
theorem hZ_lv (h : hZ φ lv gA c w kA cA R SI gk gc gv) (hx : 1 ≤ R x) : lv x = true := by
  obtain ⟨⟨db, hI, -⟩, -⟩ := h
  cases g : lv x with
  | true => rfl
  | false => have := (hI.2.1 x g).1; omega
theorem hZ_at (h : hZ φ lv gA c w kA cA R SI gk gc gv) (hx : lv x = true) : x < c ∧ φ x < 400 ∧ gk (φ x) = kA x ∧ (gc (φ x)).toInt = gA x ∧ 1 ≤ gA x := by
  obtain ⟨⟨db, hI, -⟩, -, hL, -⟩ := h
  have a := hI.1 x hx
  have b := hL x hx
  exact ⟨a.1, b.1, b.2.1, b.2.2.1, a.2.1⟩
/-- the machine counts as the program does -/
theorem hZ_ct (h : hZ φ lv gA c w kA cA R SI gk gc gv) (hx : lv x = true) : (gc (φ x)).toInt = cCt c w cA R x ∧ lv = lvC c w cA R := by
  obtain ⟨⟨db, hI, -⟩, ha, hL, -⟩ := h
  exact ⟨by rw [(hL x hx).2.2.1]; exact yI_ct hI (fun d _ hd x hx => ha d x hd hx) hx, yI_lv hI (fun d _ hd x hx => ha d x hd hx)⟩
theorem hZ_nl (h : hZ φ lv gA c w kA cA R SI gk gc gv) : hN c lv = nLv c w cA R := by
  obtain ⟨⟨db, hI, -⟩, ha, -⟩ := h
  unfold nLv hN
  rw [← yI_lv hI (fun d _ hd x hx => ha d x hd hx)]
/-- a value is doubled -/
theorem hZ_copy (h : hZ φ lv gA c w kA cA R SI gk gc gv) (hx : lv x = true) (e1 : (gc2 (φ x)).toInt = (gc (φ x)).toInt + 1) (e2 : ∀ y, y ≠ φ x → gc2 y = gc y) : hZ φ lv (hUpd gA x (gA x + 1)) c w kA cA (fun y => R y + if y = x then 1 else 0) SI gk gc2 gv := by
  obtain ⟨⟨db, hI, hd⟩, ha, hL, hS, hN, hi⟩ := h
  refine ⟨⟨db + 1, yI_copy hI hx hU_s (fun y hy => hU_n hy) hI.2.2, by omega⟩, ha, fun y hy => ?_, hS, hN, hi⟩
  obtain ⟨a, b, d, e, f⟩ := hL y hy
  by_cases g : y = x
  · rw [g] at a b d e f ⊢
    exact ⟨a, b, by rw [e1, hU_s, d], e, f⟩
  · refine ⟨a, b, ?_, e, f⟩
    rw [e2 _ (fun q => g (hi y x (Or.inl hy) (Or.inl hx) q)), hU_n g]; exact d
/-- a reference is let go, and others stay -/
theorem hZ_dec (h : hZ φ lv gA c w kA cA R SI gk gc gv) (hR : ∀ y, R y = R2 y + if y = x then 1 else 0) (h2 : ∀ y, 0 ≤ R2 y) (hx : lv x = true) (e1 : (gc2 (φ x)).toInt = (gc (φ x)).toInt - 1) (h1 : 1 ≤ (gc2 (φ x)).toInt) (e2 : ∀ y, y ≠ φ x → gc2 y = gc y) : hZ φ lv (hUpd gA x (gA x - 1)) c w kA cA R2 SI gk gc2 gv := by
  obtain ⟨⟨db, hI, hd⟩, ha, hL, hS, hN, hi⟩ := h
  have ex := (hL x hx).2.2.1
  refine ⟨⟨db, yI_dec hI hR h2 hU_s (fun y hy => hU_n hy) (by rw [hU_s]; omega), hd⟩, ha, fun y hy => ?_, hS, hN, hi⟩
  obtain ⟨a, b, d, e, f⟩ := hL y hy
  by_cases g : y = x
  · rw [g] at a b d e f ⊢
    exact ⟨a, b, by rw [e1, hU_s, d], e, f⟩
  · refine ⟨a, b, ?_, e, f⟩
    rw [e2 _ (fun q => g (hi y x (Or.inl hy) (Or.inl hx) q)), hU_n g]; exact d
/-- the last reference is let go: it lives no more; what it holds is held -/
theorem hZ_die (h : hZ φ lv gA c w kA cA R SI gk gc gv) (hR : ∀ y, R y = R2 y + if y = x then 1 else 0) (h2 : ∀ y, 0 ≤ R2 y) (hx : lv x = true) (h1 : (gc (φ x)).toInt ≤ 1) (e2 : ∀ y, y ≠ φ x → gc2 y = gc y) : hZ φ (hUpd lv x false) gA c w kA cA (fun y => R2 y + zcf zr w cA x y) SI gk gc2 gv ∧ x ∉ SI := by
  obtain ⟨⟨db, hI, hd⟩, ha, hL, hS, hN, hi⟩ := h
  have ex := (hL x hx).2.2.1
  have nx : x ∉ SI := fun g => by rw [(hS x g).2.1] at hx; cases hx
  have sub : ∀ y, hUpd lv x false y = true → lv y = true ∧ y ≠ x := fun y hy => by
    by_cases g : y = x
    · rw [g, hU_s] at hy; cases hy
    · rw [hU_n g] at hy; exact ⟨hy, g⟩
  refine ⟨⟨⟨db, yI_die zr_0 hI hR h2 hx (by omega) hU_s (fun y hy => ⟨hU_n hy, rfl⟩), hd⟩, fun d z hd => ha d z (sub d hd).1, fun y hy => ?_, fun y hy => ?_, hN, fun y z hy hz => hi y z (hy.imp (fun g => (sub y g).1) id) (hz.imp (fun g => (sub z g).1) id)⟩, nx⟩
  · obtain ⟨hy, g⟩ := sub y hy
    obtain ⟨a, b, d, e, f⟩ := hL y hy
    refine ⟨a, b, ?_, e, f⟩
    rw [e2 _ (fun q => g (hi y x (Or.inl hy) (Or.inl hx) q))]; exact d
  · obtain ⟨a, b, d⟩ := hS y hy
    refine ⟨a, ?_, d⟩
    by_cases g : y = x
    · rw [g, hU_s]
    · rw [hU_n g]; exact b
/-- .. and is kept as a shell -/
theorem hZ_sh (h : hZ φ (hUpd lv x false) gA c w kA cA R SI gk gc gv) (hx : x < c) (h4 : φ x < 400) (nx : x ∉ SI) (hi : ∀ y, (hUpd lv x false y = true ∨ y ∈ SI) → φ y ≠ φ x) : hZ φ (hUpd lv x false) gA c w kA cA R (x :: SI) gk gc gv := by
  obtain ⟨hI, ha, hL, hS, hN, hj⟩ := h
  refine ⟨hI, ha, hL, fun y hy => ?_, List.nodup_cons.mpr ⟨nx, hN⟩, fun y z hy hz e => ?_⟩
  · rcases List.mem_cons.mp hy with g | g
    · rw [g]; exact ⟨hx, hU_s, h4⟩
    · exact hS y g
  · have cs : ∀ {y : Nat}, (hUpd lv x false y = true ∨ y ∈ x :: SI) → y = x ∨ (hUpd lv x false y = true ∨ y ∈ SI) := fun g => by
      rcases g with g | g
      · exact Or.inr (Or.inl g)
      · exact (List.mem_cons.mp g).imp id Or.inr
    rcases cs hy with gy | gy
    · rcases cs hz with gz | gz
      · rw [gy, gz]
      · exact absurd (by rw [← gy]; exact e.symm) (hi z gz)
    · rcases cs hz with gz | gz
      · exact absurd (by rw [← gz]; exact e) (hi y gy)
      · exact hj y z gy gz e
end

end
section
/-! cells that are built; the reference's free rows -/
section
variable {φ φ2 : Nat → Nat} {lv : Nat → Bool} {gA : Nat → Int} {c : Nat} {w w2 : Nat → Nat} {kA kA2 : Nat → Int32} {cA cA2 : Nat → Int64} {R R2 : Nat → Int} {SI SI2 : List Nat} {gk gk2 gc gc2 : Nat → Int32} {gv gv2 : Nat → Int64} {fr fr2 : Nat → Int32} {fc fc2 gi : Int} {v u : Int64} {x y m : Nat} {ki : Int32}
theorem hZ_c (h : hZ φ lv gA c w kA cA R SI gk gc gv) : lv c = false := by
  obtain ⟨⟨db, hI, -⟩, -⟩ := h
  cases g : lv c with
  | false => rfl
  | true => exact absurd (hI.1 c g).1 (Nat.lt_irrefl _)
/-- fewer shells -/
theorem hZ_un (h : hZ φ lv gA c w kA cA R SI gk gc gv) (hs : ∀ y, y ∈ SI2 → y ∈ SI) (hn : SI2.Nodup) : hZ φ lv gA c w kA cA R SI2 gk gc gv := by
  obtain ⟨hI, ha, hL, hS, hN, hj⟩ := h
  exact ⟨hI, ha, hL, fun y hy => hS y (hs y hy), hn, fun y z hy hz => hj y z (hy.imp id (hs y)) (hz.imp id (hs z))⟩
theorem zcf_1 {d k z : Nat} (hk : k < w d) (h2 : zhs (cA (3 * d + k)) = 2) (h0 : 0 ≤ (cA (3 * d + k)).toInt32.toInt) (e : z = Int32.toNatClampNeg (cA (3 * d + k)).toInt32) : 1 ≤ zcf zr w cA d z := by
  have := zs_ge (f := fun j => zr (cA (3 * d + j)) z) (n := w d) (x := k) (fun _ _ => zr_0 _ _) hk
  have e2 : zr (cA (3 * d + k)) z = 1 := by rw [zr_c h2 h0, if_pos e]
  show 1 ≤ zs (w d) _
  have e3 : (fun j => zr (cA (3 * d + j)) z) k = zr (cA (3 * d + k)) z := rfl
  omega
/-- a cell is built -/
theorem hZ_fill (h : hZ φ lv gA c w kA cA R SI gk gc gv) (hy4 : y < 400) (hyn : ∀ x, (lv x = true ∨ x ∈ SI) → φ x ≠ y) (hm3 : m ≤ 3) (ew : w2 c = m) (ew2 : ∀ d, d ≠ c → w2 d = w d) (hcA : ∀ d, d ≠ c → lv d = true → ∀ k, k < w d → cA2 (3 * d + k) = cA (3 * d + k)) (ekA : kA2 = upd kA c ki) (ek : gk2 y = ki) (ek2 : ∀ z, z ≠ y → gk2 z = gk z) (e1 : (gc2 y).toInt = 1) (e2 : ∀ z, z ≠ y → gc2 z = gc z) (hf : ∀ k, k < m → vr φ (cA2 (3 * c + k)) (gv2 (3 * y + k))) (hg : ∀ z, z ≠ y → ∀ k, k < 3 → gv2 (3 * z + k) = gv (3 * z + k)) (hR : ∀ z, R z = R2 z + zcf zr w2 cA2 c z) (h2 : ∀ z, 0 ≤ R2 z) : hZ (hUpd φ c y) (hUpd lv c true) (hUpd gA c 1) (c + 1) w2 kA2 cA2 (fun z => R2 z + if z = c then 1 else 0) SI gk2 gc2 gv2 := by
  have lc := hZ_c h
  have hlv : ∀ z, 1 ≤ R z → lv z = true := fun z hz => hZ_lv h hz
  obtain ⟨⟨db, hI, hd⟩, ha, hL, hS, hN, hj⟩ := h
  have hlt : ∀ z, lv z = true → z < c := fun z hz => (hI.1 z hz).1
  have ecf : ∀ d, d ≠ c → lv d = true → ∀ z, zcf zr w2 cA2 d z = zcf zr w cA d z := fun d hd hl z => by
    unfold zcf
    rw [ew2 d hd]
    exact zs_ext (fun k hk => by rw [hcA d hd hl k hk])
  have hnew : ∀ z, 1 ≤ zcf zr w2 cA2 c z → z < c := fun z hz => hlt z (hlv z (by have := hR z; have := h2 z; omega))
  have sub : ∀ z, hUpd lv c true z = true → z = c ∨ z ≠ c ∧ lv z = true := fun z hz => by
    by_cases g : z = c
    · exact Or.inl g
    · rw [hU_n g] at hz; exact Or.inr ⟨g, hz⟩
  have sc : ∀ z, z ∈ SI → z ≠ c := fun z hz g => by have := (hS z hz).1; omega
  refine ⟨⟨db, yI_fill zr_0 (yI_grow hI lc) hd lc (Nat.lt_succ_self _) hU_s hU_s (fun d hd => ⟨hU_n hd, hU_n hd⟩) (fun d hd hl => ⟨ew2 d hd, hcA d hd hl⟩) hR h2, hd⟩, fun d z hd hz => ?_, fun z hz => ?_, fun z hz => ?_, hN, fun a b ha' hb' e => ?_⟩
  · rcases sub d hd with g | ⟨g, hl⟩
    · rw [g] at hz ⊢; exact hnew z hz
    · rw [ecf d g hl] at hz; exact ha d z hl hz
  · rcases sub z hz with g | ⟨g, hl⟩
    · subst g
      rw [hU_s, hU_s, ew, ekA, zu_s]
      refine ⟨hy4, ek, e1, hm3, fun k hk => vr_x (hf k hk) (fun q => hU_n ?_)⟩
      rcases hf k hk with ⟨q2, -⟩ | ⟨-, -, q3, -⟩
      · exact absurd q q2
      · exact Nat.ne_of_lt (hnew _ (zcf_1 (w := w2) (cA := cA2) (by omega) q q3 rfl))
    · obtain ⟨a, b, d, e, f⟩ := hL z hl
      have ny := hyn z (Or.inl hl)
      rw [hU_n g, hU_n g, ew2 z g, ekA, zu_n g, ek2 _ ny, e2 _ ny]
      refine ⟨a, b, d, e, fun k hk => ?_⟩
      rw [hcA z g hl k hk, hg _ ny k (by omega)]
      refine vr_x (f k hk) (fun q => hU_n ?_)
      rcases f k hk with ⟨q2, -⟩ | ⟨-, -, q3, -⟩
      · exact absurd q q2
      · have := ha z _ hl (zcf_1 (w := w) (cA := cA) hk q q3 rfl)
        have := hlt z hl
        omega
  · obtain ⟨a, b, d⟩ := hS z hz
    rw [hU_n (sc z hz), hU_n (sc z hz)]
    exact ⟨by omega, b, d⟩
  · have cs : ∀ {a : Nat}, (hUpd lv c true a = true ∨ a ∈ SI) → a = c ∨ a ≠ c ∧ (lv a = true ∨ a ∈ SI) := fun {a} g => by
      rcases g with g | g
      · exact (sub a g).imp id (fun q => ⟨q.1, Or.inl q.2⟩)
      · exact Or.inr ⟨sc a g, Or.inr g⟩
    rcases cs ha' with ga | ⟨ga, la⟩
    · rcases cs hb' with gb | ⟨gb, lb⟩
      · rw [ga, gb]
      · rw [ga, hU_s, hU_n gb] at e; exact absurd e.symm (hyn b lb)
    · rcases cs hb' with gb | ⟨gb, lb⟩
      · rw [gb, hU_s, hU_n ga] at e; exact absurd e (hyn a la)
      · rw [hU_n ga, hU_n gb] at e; exact hj a b la lb e
/-- a cell goes to the free rows -/
theorem hF_add {lv2 : Nat → Bool} (h : hF φ lv c SI fr fc gi) (e : fr2 = upd fr fc.toNat ki) (ek : ki.toInt = (φ x : Int)) (h4 : φ x < 400) (ef : fc2 = fc + 1) (hx : lv x = true ∨ x ∈ SI) (hs : ∀ y, (lv2 y = true ∨ y ∈ SI2) → (lv y = true ∨ y ∈ SI) ∧ φ y ≠ φ x) (hn : hN c lv2 + (SI2.length : Int) = hN c lv + (SI.length : Int) - 1) : hF φ lv2 c SI2 fr2 fc2 gi := by
  obtain ⟨a, b, d, f⟩ := h
  have ex : Int32.toNatClampNeg ki = φ x := zn_lit ek
  refine ⟨fun i hi => ?_, fun i j hij hj => ?_, by omega, by omega⟩
  · by_cases g : i = fc.toNat
    · rw [e, g, zu_s, ex]
      exact ⟨by omega, by omega, fun z hz => (hs z hz).2⟩
    · rw [e, zu_n g]
      have q := a i (by omega)
      exact ⟨q.1, q.2.1, fun z hz => q.2.2 z (hs z hz).1⟩
  · rw [e, zu_n (show i ≠ fc.toNat by omega)]
    by_cases g : j = fc.toNat
    · rw [g, zu_s]
      have q := a i (by omega)
      have n1 := zn_nat q.1
      have := q.2.2 x hx
      omega
    · rw [zu_n g]; exact b i j hij (by omega)
/-- .. or stays held -/
theorem hF_sh {lv2 : Nat → Bool} (h : hF φ lv c SI fr fc gi) (hs : ∀ y, (lv2 y = true ∨ y ∈ SI2) → lv y = true ∨ y ∈ SI) (hn : hN c lv2 + (SI2.length : Int) = hN c lv + (SI.length : Int)) : hF φ lv2 c SI2 fr fc gi := by
  obtain ⟨a, b, d, f⟩ := h
  exact ⟨fun i hi => ⟨(a i hi).1, (a i hi).2.1, fun z hz => (a i hi).2.2 z (hs z hz)⟩, b, by omega, f⟩
/-- the last of the free rows is taken -/
theorem hF_take (h : hF φ lv c SI fr fc gi) (ef : fc2 = fc - 1) (h1 : 1 ≤ fc) (ey : y = Int32.toNatClampNeg (fr (fc.toNat - 1))) (hS : ∀ z, z ∈ SI → z < c) (hl : ∀ z, lv z = true → z < c) : y < 400 ∧ (∀ z, (lv z = true ∨ z ∈ SI) → φ z ≠ y) ∧ hF (hUpd φ c y) (hUpd lv c true) (c + 1) SI fr fc2 gi := by
  obtain ⟨a, b, d, f⟩ := h
  have q := a (fc.toNat - 1) (by omega)
  have n1 := zn_nat q.1
  refine ⟨by omega, fun z hz => by rw [ey]; exact q.2.2 z hz, fun i hi => ?_, fun i j hij hj => b i j hij (by omega), by rw [hN_new]; omega, by omega⟩
  have qi := a i (by omega)
  refine ⟨qi.1, qi.2.1, fun z hz => ?_⟩
  by_cases g : z = c
  · rw [g, hU_s, ey]
    have := b i (fc.toNat - 1) (by omega) (by omega)
    have n2 := zn_nat qi.1
    omega
  · rw [hU_n g]
    rw [hU_n g] at hz
    exact qi.2.2 z hz
/-- a shell is taken -/
theorem hF_re (h : hF φ lv c SI fr fc gi) (hx : x ∈ SI) (hS : ∀ z, z ∈ SI → z < c) (hs : ∀ z, z ∈ SI2 → z ∈ SI) (hn : SI2.length + 1 = SI.length) (hl : ∀ z, lv z = true → z < c) : hF (hUpd φ c (φ x)) (hUpd lv c true) (c + 1) SI2 fr fc gi := by
  obtain ⟨a, b, d, f⟩ := h
  refine ⟨fun i hi => ?_, b, by rw [hN_new]; omega, f⟩
  have qi := a i hi
  refine ⟨qi.1, qi.2.1, fun z hz => ?_⟩
  by_cases g : z = c
  · rw [g, hU_s]; exact qi.2.2 x (Or.inr hx)
  · rw [hU_n g]
    rw [hU_n g] at hz
    exact qi.2.2 z (hz.imp id (hs z))
end

end
section
/-! shells, as the reference has them -/
def rSl (ph : Nat → Nat) (ma sh sa sq : Nat → Int32) : List (Nat × Nat × Nat) → Nat → Prop
  | [], n => n = 0
  | (q, i, w) :: S, n => ∃ m, n = m + 1 ∧ rSl ph ma sh sa sq S m ∧ (sh m).toInt = (ph i : Int) ∧ (ma (Int32.toNatClampNeg (sa m))).toInt = (w : Int) ∧ (sq m).toInt = (q : Int) - 1
def sIs (S : List (Nat × Nat × Nat)) : List Nat := S.map (fun a => a.2.1)
section
variable {ph : Nat → Nat} {ma sh sa sq sh2 sa2 sq2 : Nat → Int32} {o m i q w : Nat}
theorem rSl_n : ∀ {S : List (Nat × Nat × Nat)} {n : Nat}, rSl ph ma sh sa sq S n → n = S.length
  | [], _, h => h
  | (q, i, w) :: S, n, ⟨m, h1, h2, _⟩ => by rw [h1, rSl_n h2, List.length_cons]
theorem rSl_x : ∀ {S : List (Nat × Nat × Nat)} {n : Nat}, (∀ j, j < n → sh2 j = sh j ∧ sa2 j = sa j ∧ sq2 j = sq j) → rSl ph ma sh sa sq S n → rSl ph ma sh2 sa2 sq2 S n
  | [], _, _, h => h
  | (q, i, w) :: S, n, hx, ⟨m, h1, h2, h3⟩ => by
    obtain ⟨e1, e2, e3⟩ := hx m (by omega)
    exact ⟨m, h1, rSl_x (fun j hj => hx j (by omega)) h2, by rw [e1, e2, e3]; exact h3⟩
theorem rSl_p {ph2 : Nat → Nat} : ∀ {S : List (Nat × Nat × Nat)} {n : Nat}, (∀ a, a ∈ S → ph2 a.2.1 = ph a.2.1) → rSl ph ma sh sa sq S n → rSl ph2 ma sh sa sq S n
  | [], _, _, h => h
  | (q, i, w) :: S, n, hx, ⟨m, h1, h2, h3⟩ => ⟨m, h1, rSl_p (fun a ha => hx a (List.mem_cons_of_mem _ ha)) h2, by rw [hx _ List.mem_cons_self]; exact h3⟩
theorem rSl_sf : ∀ {A B : List (Nat × Nat × Nat)} {n : Nat}, rSl ph ma sh sa sq (A ++ B) n → rSl ph ma sh sa sq B B.length
  | [], B, n, h => by have h : rSl ph ma sh sa sq B n := h; rw [← rSl_n h]; exact h
  | a :: A, B, n, h => by obtain ⟨m, -, h2, -⟩ := h; exact rSl_sf (A := A) h2
theorem rSl_rm : ∀ {A B : List (Nat × Nat × Nat)} {n n2 k : Nat}, rSl ph ma sh sa sq (A ++ (q, i, w) :: B) n → k = B.length → n = n2 + 1 → (∀ j, j < k → sh2 j = sh j ∧ sa2 j = sa j ∧ sq2 j = sq j) → (∀ j, k ≤ j → j < n2 → sh2 j = sh (j + 1) ∧ sa2 j = sa (j + 1) ∧ sq2 j = sq (j + 1)) → rSl ph ma sh2 sa2 sq2 (A ++ B) n2
  | [], B, n, n2, k, h, hk, hn, h1, h2 => by
    obtain ⟨m, e, h, -⟩ := h
    have := rSl_n h
    obtain rfl : n2 = m := by omega
    exact rSl_x (fun j hj => h1 j (by omega)) h
  | a :: A, B, n, n2, k, h, hk, hn, h1, h2 => by
    obtain ⟨m, e, h, h3⟩ := h
    have h : rSl ph ma sh sa sq (A ++ (q, i, w) :: B) m := h
    have l := rSl_n h
    rw [List.length_append, List.length_cons] at l
    obtain rfl : n2 = m := by omega
    obtain ⟨m2, rfl⟩ : ∃ m2, n2 = m2 + 1 := ⟨n2 - 1, by omega⟩
    obtain ⟨e1, e2, e3⟩ := h2 m2 (by omega) (by omega)
    exact ⟨m2, rfl, rSl_rm h hk rfl h1 (fun j hj hj2 => h2 j hj (by omega)), by rw [e1, e2, e3]; exact h3⟩
theorem sh_r_ap : ∀ {A B : List (Nat × Nat × Nat)}, i ∉ sIs A → sh_r i (A ++ (q, i, w) :: B) = A ++ B
  | [], B, _ => by show (if i = i then B else _) = B; rw [if_pos rfl]
  | (q', j, w') :: A, B, h => by
    have h1 : j ≠ i := fun e => h (by show i ∈ j :: sIs A; rw [e]; exact List.mem_cons_self)
    show (if j = i then _ else (q', j, w') :: sh_r i (A ++ (q, i, w) :: B)) = _
    rw [if_neg h1, sh_r_ap (fun g => h (List.mem_cons_of_mem _ g))]; rfl
theorem sh_r_no : ∀ {A : List (Nat × Nat × Nat)}, i ∉ sIs A → sh_r i A = A
  | [], _ => rfl
  | (q', j, w') :: A, h => by
    have h1 : j ≠ i := fun e => h (by show i ∈ j :: sIs A; rw [e]; exact List.mem_cons_self)
    show (if j = i then _ else (q', j, w') :: sh_r i A) = _
    rw [if_neg h1, sh_r_no (fun g => h (List.mem_cons_of_mem _ g))]
theorem sh_f_ap : ∀ {A B : List (Nat × Nat × Nat)}, (∀ a, a ∈ A → a.1 = o ∧ a.2.2 ≠ m) → sh_f o m (A ++ B) = sh_f o m B
  | [], _, _ => rfl
  | (q', j, w') :: A, B, h => by
    have h1 := h _ List.mem_cons_self
    show (if q' = o then (if w' = m then some j else sh_f o m (A ++ B)) else none) = _
    rw [if_pos h1.1, if_neg h1.2, sh_f_ap (fun a ha => h a (List.mem_cons_of_mem _ ha))]
theorem sIs_ap {A B : List (Nat × Nat × Nat)} : sIs (A ++ B) = sIs A ++ sIs B := List.map_append
/-- the search so far -/
def rFo (ph : Nat → Nat) (S : List (Nat × Nat × Nat)) (o : Nat) (P : Nat × Nat × Nat → Prop) (k : Int) : Prop := ∃ A B : List (Nat × Nat × Nat), S = A ++ B ∧ (B.length : Int) = k + 1 ∧ ∀ a, a ∈ A → a.1 = o ∧ P a
theorem rFo_0 {S : List (Nat × Nat × Nat)} {P : Nat × Nat × Nat → Prop} {k : Int} (h : (S.length : Int) = k + 1) : rFo ph S o P k := ⟨[], S, rfl, h, fun a ha => (by cases ha)⟩
theorem rFo_s {S : List (Nat × Nat × Nat)} {P : Nat × Nat × Nat → Prop} {k k2 : Int} (h : rFo ph S o P k) (hr : rSl ph ma sh sa sq S S.length) (h0 : 0 ≤ k) (e : k2 = k - 1) (hp : ∀ q i w : Nat, (sh k.toNat).toInt = (ph i : Int) → (ma (Int32.toNatClampNeg (sa k.toNat))).toInt = (w : Int) → (sq k.toNat).toInt = (q : Int) - 1 → q = o ∧ P (q, i, w)) : rFo ph S o P k2 := by
  obtain ⟨A, B, rfl, h1, h2⟩ := h
  match B, h1, hr with
  | [], h1, _ => exact absurd h1 (by show ¬ ((0 : Nat) : Int) = k + 1; omega)
  | (q, i, w) :: B, h1, hr =>
    obtain ⟨m, e1, -, e2, e3, e4⟩ := rSl_sf hr
    rw [List.length_cons] at h1 e1
    obtain rfl : m = k.toNat := by omega
    obtain ⟨p1, p2⟩ := hp q i w e2 e3 e4
    refine ⟨A ++ [(q, i, w)], B, by rw [List.append_assoc]; rfl, by omega, fun a ha => ?_⟩
    rcases List.mem_append.mp ha with g | g
    · exact h2 a g
    · rw [List.mem_singleton.mp g]; exact ⟨p1, p2⟩
theorem rFo_at {S : List (Nat × Nat × Nat)} {P : Nat × Nat × Nat → Prop} {k : Int} (h : rFo ph S o P k) (hr : rSl ph ma sh sa sq S S.length) (h0 : 0 ≤ k) : ∃ (A B : List (Nat × Nat × Nat)) (q i w : Nat), S = A ++ (q, i, w) :: B ∧ B.length = k.toNat ∧ (∀ a, a ∈ A → a.1 = o ∧ P a) ∧ (sh k.toNat).toInt = (ph i : Int) ∧ (ma (Int32.toNatClampNeg (sa k.toNat))).toInt = (w : Int) ∧ (sq k.toNat).toInt = (q : Int) - 1 := by
  obtain ⟨A, B, rfl, h1, h2⟩ := h
  match B, h1, hr with
  | [], h1, _ => exact absurd h1 (by show ¬ ((0 : Nat) : Int) = k + 1; omega)
  | (q, i, w) :: B, h1, hr =>
    obtain ⟨m, e1, -, e2, e3, e4⟩ := rSl_sf hr
    rw [List.length_cons] at h1 e1
    obtain rfl : m = k.toNat := by omega
    exact ⟨A, B, q, i, w, rfl, by omega, h2, e2, e3, e4⟩
theorem rFo_e {S : List (Nat × Nat × Nat)} {P : Nat × Nat × Nat → Prop} {k : Int} (h : rFo ph S o P k) (h0 : k < 0) : ∀ a, a ∈ S → a.1 = o ∧ P a := by
  obtain ⟨A, B, rfl, h1, h2⟩ := h
  match B, h1 with
  | [], _ => rw [List.append_nil]; exact h2
  | b :: B, h1 => rw [List.length_cons] at h1; exact absurd h1 (by omega)
end

end
section
/-! the class's cells: which are held, which are free -/
def hKf (φ : Nat → Nat) (lv : Nat → Bool) (c : Nat) (SI FL : List Nat) (fresh held : Int) : Prop := (∀ x, (lv x = true ∨ x ∈ SI) → (φ x : Int) < fresh ∧ φ x ∉ FL) ∧ held = hN c lv + (SI.length : Int)
theorem zr_v2 {φ : Nat → Nat} {v u : Int64} (h : vr φ v u) (g : zhs u ≠ 2) (x : Nat) : zr v x = 0 := zr_n (vr_n h g).2
theorem zr_w2 {φ : Nat → Nat} {v u : Int64} (h : vr φ v u) (g : zhs u = 2) (x : Nat) : zr v x = if x = Int32.toNatClampNeg v.toInt32 then 1 else 0 := zr_c (vr_c h g).1 (vr_c h g).2.1 x
section
variable {φ : Nat → Nat} {lv : Nat → Bool} {gA : Nat → Int} {c : Nat} {w : Nat → Nat} {kA : Nat → Int32} {cA : Nat → Int64} {R R2 : Nat → Int} {SI SI2 FL FL2 : List Nat} {gk gc gc2 : Nat → Int32} {gv : Nat → Int64} {fresh held fresh2 held2 : Int} {x y : Nat}
theorem hZ_dsh2 (h : hZ φ lv gA c w kA cA R SI gk gc gv) (hR : ∀ y, R y = R2 y + if y = x then 1 else 0) (h2 : ∀ y, 0 ≤ R2 y) (hx : lv x = true) (h1 : (gc (φ x)).toInt ≤ 1) (e2 : ∀ y, y ≠ φ x → gc2 y = gc y) : hZ φ (hUpd lv x false) gA c w kA cA (fun y => R2 y + zcf zr w cA x y) (x :: SI) gk gc2 gv ∧ x ∉ SI := by
  obtain ⟨a, b⟩ := hZ_die (gc2 := gc2) h hR h2 hx h1 e2
  have at_ := hZ_at h hx
  refine ⟨hZ_sh a at_.1 at_.2.1 b (fun y hy e => ?_), b⟩
  have hj := h.2.2.2.2.2
  rcases hy with g | g
  · by_cases q : y = x
    · rw [q, hU_s] at g; cases g
    · rw [hU_n q] at g
      exact q (hj y x (Or.inl g) (Or.inl hx) e)
  · have q := hj y x (Or.inr g) (Or.inl hx) e
    exact b (by rw [← q]; exact g)
theorem hK_die (hz : hZ φ lv gA c w kA cA R SI gk gc gv) (h : hKf φ lv c SI FL fresh held) (hx : lv x = true) : hKf φ (hUpd lv x false) c (x :: SI) FL fresh held := by
  refine ⟨fun y hy => h.1 y ?_, by rw [hN_die (hZ_at hz hx).1 hx, List.length_cons]; have := h.2; omega⟩
  rcases hy with g | g
  · by_cases q : y = x
    · rw [q, hU_s] at g; cases g
    · rw [hU_n q] at g; exact Or.inl g
  · rcases List.mem_cons.mp g with q | q
    · rw [q]; exact Or.inl hx
    · exact Or.inr q
/-- one that is only held is freed -/
theorem hK_free {A B : List Nat} (hz : hZ φ lv gA c w kA cA R (A ++ x :: B) gk gc gv) (h : hKf φ lv c (A ++ x :: B) FL fresh held) (e2 : ∀ y, y ≠ φ x → gc2 y = gc y) (e : held2 = held - 1) : hZ φ lv gA c w kA cA R (A ++ B) gk gc2 gv ∧ hKf φ lv c (A ++ B) (φ x :: FL) fresh held2 := by
  obtain ⟨hI, ha, hL, hS, hN, hj⟩ := hz
  have mx : x ∈ A ++ x :: B := List.mem_append.mpr (Or.inr List.mem_cons_self)
  have sub : ∀ y, y ∈ A ++ B → y ∈ A ++ x :: B := fun y hy => (List.mem_append.mp hy).elim (fun g => List.mem_append.mpr (Or.inl g)) (fun g => List.mem_append.mpr (Or.inr (List.mem_cons_of_mem _ g)))
  obtain ⟨n1, n2, n3⟩ := List.nodup_append.mp hN
  have n2' := List.nodup_cons.mp n2
  have nd : (A ++ B).Nodup := List.nodup_append.mpr ⟨n1, n2'.2, fun a ha b hb => n3 a ha b (List.mem_cons_of_mem _ hb)⟩
  have nx : x ∉ A ++ B := fun g => (List.mem_append.mp g).elim (fun g => n3 x g x List.mem_cons_self rfl) n2'.1
  have ne : ∀ y, (lv y = true ∨ y ∈ A ++ B) → φ y ≠ φ x := fun y hy q => by
    have g := hj y x (hy.imp id (sub y)) (Or.inr mx) q
    rcases hy with u | u
    · have := (hS x mx).2.1
      rw [← g, u] at this; cases this
    · exact nx (by rw [← g]; exact u)
  refine ⟨⟨hI, ha, fun y hy => ?_, fun y hy => hS y (sub y hy), nd, fun y z hy hz => hj y z (hy.imp id (sub y)) (hz.imp id (sub z))⟩, fun y hy => ⟨(h.1 y (hy.imp id (sub y))).1, fun g => ?_⟩, ?_⟩
  · obtain ⟨a, b, d, e, f⟩ := hL y hy
    exact ⟨a, b, by rw [e2 _ (ne y (Or.inl hy))]; exact d, e, f⟩
  · rcases List.mem_cons.mp g with g | g
    · exact ne y hy g
    · exact (h.1 y (hy.imp id (sub y))).2 g
  · have := h.2
    rw [List.length_append, List.length_cons] at this
    rw [List.length_append]; omega
/-- a free cell is taken -/
theorem hK_take (h : hKf φ lv c SI FL fresh held) (hf : ∀ z, z ∈ FL2 → z ∈ FL) (hn : y ∉ FL2) (hy : y ∈ FL ∨ (y : Int) = fresh) (h1 : (y : Int) < fresh2) (h2 : fresh ≤ fresh2) (e : held2 = held + 1) (hS : ∀ z, z ∈ SI → z < c) (hl : ∀ z, lv z = true → z < c) : (∀ z, (lv z = true ∨ z ∈ SI) → φ z ≠ y) ∧ hKf (hUpd φ c y) (hUpd lv c true) (c + 1) SI FL2 fresh2 held2 := by
  have ne : ∀ z, (lv z = true ∨ z ∈ SI) → φ z ≠ y := fun z hz g => by
    have u := h.1 z hz
    rcases hy with v | v
    · exact u.2 (by rw [g]; exact v)
    · omega
  refine ⟨ne, fun z hz => ?_, by rw [hN_new]; have := h.2; omega⟩
  by_cases g : z = c
  · rw [g, hU_s]; exact ⟨h1, hn⟩
  · rw [hU_n g]
    rw [hU_n g] at hz
    have u := h.1 z hz
    exact ⟨by omega, fun v => u.2 (hf _ v)⟩
/-- a shell is taken -/
theorem hK_re (h : hKf φ lv c SI FL fresh held) (hx : x ∈ SI) (hs : ∀ z, z ∈ SI2 → z ∈ SI) (hn : SI2.length + 1 = SI.length) (hl : ∀ z, lv z = true → z < c) (hS : ∀ z, z ∈ SI → z < c) : hKf (hUpd φ c (φ x)) (hUpd lv c true) (c + 1) SI2 FL fresh held := by
  refine ⟨fun z hz => ?_, by rw [hN_new]; have := h.2; omega⟩
  by_cases g : z = c
  · rw [g, hU_s]; exact h.1 x (Or.inr hx)
  · rw [hU_n g]
    rw [hU_n g] at hz
    exact h.1 z (hz.imp id (hs z))
theorem hK_s (h : hKf φ lv c SI FL fresh held) (hs : ∀ z, z ∈ SI2 → z ∈ SI) (hn : SI2.length = SI.length) : hKf φ lv c SI2 FL fresh held := ⟨fun z hz => h.1 z (hz.imp id (hs z)), by rw [hn]; exact h.2⟩
end
theorem zli_u {nx : Nat → Int32} : ∀ {A B : List Nat} {x : Int32}, zli nx x A → zli nx x B → A = B
  | [], [], _, _, _ => rfl
  | [], y :: l, x, a, b => by have a : x.toInt = -1 := a; have b := b.1; omega
  | y :: l, [], x, a, b => by have b : x.toInt = -1 := b; have a := a.1; omega
  | y :: l, z :: k, x, a, b => by
    have e : y = z := by have a := a.1; have b := b.1; omega
    subst e
    rw [zli_u a.2 b.2]
/-- the doomed chain's first -/
theorem dz_pop {gc : Nat → Int32} {dm : Int32} {ph : Nat → Nat} {DA DL3 : List Nat} (h : zli gc dm (DA.map ph)) (hne : dm.toInt ≠ -1) (h3 : zli gc (gc (Int32.toNatClampNeg dm)) DL3) : ∃ (a : Nat) (DB : List Nat), DA = a :: DB ∧ ph a = Int32.toNatClampNeg dm ∧ DL3 = DB.map ph := by
  cases DA with
  | nil => exact absurd h hne
  | cons a DB =>
    have h : dm.toInt = (ph a : Int) ∧ zli gc (gc (ph a)) (DB.map ph) := h
    have e : Int32.toNatClampNeg dm = ph a := zn_lit h.1
    rw [e] at h3
    exact ⟨a, DB, rfl, e.symm, zli_u h3 h.2⟩
theorem nd_mid {A B : List Nat} {a : Nat} (h : (a :: (A ++ B)).Nodup) : (A ++ a :: B).Nodup ∧ ∀ y, y ∈ A ++ a :: B → y ∈ a :: (A ++ B) := by
  obtain ⟨h1, h2⟩ := List.nodup_cons.mp h
  obtain ⟨n1, n2, n3⟩ := List.nodup_append.mp h2
  refine ⟨List.nodup_append.mpr ⟨n1, List.nodup_cons.mpr ⟨fun g => h1 (List.mem_append.mpr (Or.inr g)), n2⟩, fun x hx y hy => ?_⟩, fun y hy => ?_⟩
  · rcases List.mem_cons.mp hy with g | g
    · intro e; exact h1 (List.mem_append.mpr (Or.inl (by rw [← g, ← e]; exact hx)))
    · exact n3 x hx y g
  · rcases List.mem_append.mp hy with g | g
    · exact List.mem_cons_of_mem _ (List.mem_append.mpr (Or.inl g))
    · rcases List.mem_cons.mp g with g | g
      · rw [g]; exact List.mem_cons_self
      · exact List.mem_cons_of_mem _ (List.mem_append.mpr (Or.inr g))

end
