theorem dX1_fill_0 : decode cX1_fill 0 = .ok (.aload_n 0, 1) := by decide +kernel
theorem dX1_fill_1 : decode cX1_fill 1 = .ok (.getfield 45, 3) := by decide +kernel
theorem dX1_fill_4 : decode cX1_fill 4 = .ok (.iload_n 1, 1) := by decide +kernel
theorem dX1_fill_5 : decode cX1_fill 5 = .ok (.iload_n 2, 1) := by decide +kernel
theorem dX1_fill_6 : decode cX1_fill 6 = .ok (.iastore, 1) := by decide +kernel
theorem dX1_fill_7 : decode cX1_fill 7 = .ok (.aload_n 0, 1) := by decide +kernel
theorem dX1_fill_8 : decode cX1_fill 8 = .ok (.getfield 49, 3) := by decide +kernel
theorem dX1_fill_11 : decode cX1_fill 11 = .ok (.iload_n 1, 1) := by decide +kernel
theorem dX1_fill_12 : decode cX1_fill 12 = .ok (.iconst 1, 1) := by decide +kernel
theorem dX1_fill_13 : decode cX1_fill 13 = .ok (.iastore, 1) := by decide +kernel
theorem dX1_fill_14 : decode cX1_fill 14 = .ok (.iconst 0, 1) := by decide +kernel
theorem dX1_fill_15 : decode cX1_fill 15 = .ok (.istore 5, 2) := by decide +kernel
theorem dX1_fill_17 : decode cX1_fill 17 = .ok (.iload 5, 2) := by decide +kernel
theorem dX1_fill_19 : decode cX1_fill 19 = .ok (.aload_n 0, 1) := by decide +kernel
theorem dX1_fill_20 : decode cX1_fill 20 = .ok (.iload_n 1, 1) := by decide +kernel
theorem dX1_fill_21 : decode cX1_fill 21 = .ok (.invokevirtual 85, 3) := by decide +kernel
theorem dX1_fill_24 : decode cX1_fill 24 = .ok (.if_icmp .ge 27, 3) := by decide +kernel
theorem dX1_fill_27 : decode cX1_fill 27 = .ok (.aload_n 0, 1) := by decide +kernel
theorem dX1_fill_28 : decode cX1_fill 28 = .ok (.getfield 52, 3) := by decide +kernel
theorem dX1_fill_31 : decode cX1_fill 31 = .ok (.iload_n 1, 1) := by decide +kernel
theorem dX1_fill_32 : decode cX1_fill 32 = .ok (.iconst 3, 1) := by decide +kernel
theorem dX1_fill_33 : decode cX1_fill 33 = .ok (.imul, 1) := by decide +kernel
theorem dX1_fill_34 : decode cX1_fill 34 = .ok (.iload 5, 2) := by decide +kernel
theorem dX1_fill_36 : decode cX1_fill 36 = .ok (.iadd, 1) := by decide +kernel
theorem dX1_fill_37 : decode cX1_fill 37 = .ok (.aload_n 3, 1) := by decide +kernel
theorem dX1_fill_38 : decode cX1_fill 38 = .ok (.iload 4, 2) := by decide +kernel
theorem dX1_fill_40 : decode cX1_fill 40 = .ok (.iload 5, 2) := by decide +kernel
theorem dX1_fill_42 : decode cX1_fill 42 = .ok (.iadd, 1) := by decide +kernel
theorem dX1_fill_43 : decode cX1_fill 43 = .ok (.laload, 1) := by decide +kernel
theorem dX1_fill_44 : decode cX1_fill 44 = .ok (.lastore, 1) := by decide +kernel
theorem dX1_fill_45 : decode cX1_fill 45 = .ok (.iinc 5 1, 3) := by decide +kernel
theorem dX1_fill_48 : decode cX1_fill 48 = .ok (.goto (-31), 3) := by decide +kernel
theorem dX1_fill_51 : decode cX1_fill 51 = .ok (.return_, 1) := by decide +kernel
set_option maxHeartbeats 4000000 in
set_option maxRecDepth 100000 in
theorem c_X1_fill_x400 (l : Launch) (dC : Nat → ClassId) (dI : Nat → Nat → Nat) (aK aV : Nat → Nat) (h0 : Nat) (ek : Nat) (ec : Nat) (ef : Nat) (cki : Nat) (e1 : ClassId) (e2 : ClassId) (e3 : ClassId) (e_limit : Int32) (e_fresh : Int32) (e_firstFree : Int32) (e_held : Int32) (e_mostHeld : Int32) (e_made : Int32) (e_reused : Int32) (e_freed : Int32) (e_doubled : Int32) (gk : Nat → Int32) (gc : Nat → Int32) (gv : Nat → Int64) (kw : Nat) (kf : Nat) (k1 : ClassId) (k2 : ClassId) (z : Int32) (gw : Nat → Int64) (gf : Nat → Int32) (ce : Int32) (ok : Int32) (sk : Nat) (sk1 : ClassId) (gst : Nat → Int64) (fi : Int32) (sz : Nat) (hz0 : 0 ≤ z.toInt) (hz1 : z.toInt ≤ 20) (hgf : zx 4 gf) (hc0 : 0 ≤ ce.toInt) (hc1 : ce.toInt < 400) (hf0 : 0 ≤ fi.toInt) (hf1 : fi.toInt + zfk z gf ok ≤ 22424) : Met l yX1_fill (Cond.code yX1_fill cX1_fill 6 none :: zw) ({ frames := 12, cells := 0, slots := 0, locals := 400 }) (va_Pc [.ref h0, .int ce, .int ok, .ref sk, .int fi] (zP dC dI aK aV sz [(e1, .int), (e2, .int), (e3, .long), (k1, .long), (k2, .int), (sk1, .long)] [(h0, .inr (1, [.ref ek, .ref ec, .ref ef, .ref cki, .int e_limit, .int e_fresh, .int e_firstFree, .int e_held, .int e_mostHeld, .int e_made, .int e_reused, .int e_freed, .int e_doubled])), (ek, .inl (e1, 400, .inl gk)), (ec, .inl (e2, 400, .inl gc)), (ef, .inl (e3, 1200, .inr (.inl gv))), (cki, .inr (4, [.ref kw, .ref kf, .int z])), (kw, .inl (k1, 20, .inr (.inl gw))), (kf, .inl (k2, 20, .inl gf)), (sk, .inl (sk1, 22424, .inr (.inl gst)))])) (va_Qv (fun u : (Nat → Int32) × (Nat → Int32) × (Nat → Int64) => match u with | (gk2, gc2, gv2) => (gk2 = upd gk (Int32.toNatClampNeg ce) ok) ∧ (gc2 = upd gc (Int32.toNatClampNeg ce) 1) ∧ (zfw gv gv2 (Int32.toNatClampNeg ce) gst (Int32.toNatClampNeg fi) (zfk z gf ok).toNat)) (fun u => match u with | (gk2, gc2, gv2) => zQ dC dI (va_A [(h0, .inr (1, [.ref ek, .ref ec, .ref ef, .ref cki, .int e_limit, .int e_fresh, .int e_firstFree, .int e_held, .int e_mostHeld, .int e_made, .int e_reused, .int e_freed, .int e_doubled])), (ek, .inl (e1, 400, .inl gk)), (ec, .inl (e2, 400, .inl gc)), (ef, .inl (e3, 1200, .inr (.inl gv))), (cki, .inr (4, [.ref kw, .ref kf, .int z])), (kw, .inl (k1, 20, .inr (.inl gw))), (kf, .inl (k2, 20, .inl gf)), (sk, .inl (sk1, 22424, .inr (.inl gst)))] sz) [(e1, .int), (e2, .int), (e3, .long), (k1, .long), (k2, .int), (sk1, .long)] [(h0, .inr (1, [.ref ek, .ref ec, .ref ef, .ref cki, .int e_limit, .int e_fresh, .int e_firstFree, .int e_held, .int e_mostHeld, .int e_made, .int e_reused, .int e_freed, .int e_doubled])), (ek, .inl (e1, 400, .inl gk2)), (ec, .inl (e2, 400, .inl gc2)), (ef, .inl (e3, 1200, .inr (.inl gv2))), (cki, .inr (4, [.ref kw, .ref kf, .int z])), (kw, .inl (k1, 20, .inr (.inl gw))), (kf, .inl (k2, 20, .inl gf)), (sk, .inl (sk1, 22424, .inr (.inl gst)))]) (va_A [(h0, .inr (1, [.ref ek, .ref ec, .ref ef, .ref cki, .int e_limit, .int e_fresh, .int e_firstFree, .int e_held, .int e_mostHeld, .int e_made, .int e_reused, .int e_freed, .int e_doubled])), (ek, .inl (e1, 400, .inl gk)), (ec, .inl (e2, 400, .inl gc)), (ef, .inl (e3, 1200, .inr (.inl gv))), (cki, .inr (4, [.ref kw, .ref kf, .int z])), (kw, .inl (k1, 20, .inr (.inl gw))), (kf, .inl (k2, 20, .inl gf)), (sk, .inl (sk1, 22424, .inr (.inl gst)))] sz)) 0 0 (va_A [(h0, .inr (1, [.ref ek, .ref ec, .ref ef, .ref cki, .int e_limit, .int e_fresh, .int e_firstFree, .int e_held, .int e_mostHeld, .int e_made, .int e_reused, .int e_freed, .int e_doubled])), (ek, .inl (e1, 400, .inl gk)), (ec, .inl (e2, 400, .inl gc)), (ef, .inl (e3, 1200, .inr (.inl gv))), (cki, .inr (4, [.ref kw, .ref kf, .int z])), (kw, .inl (k1, 20, .inr (.inl gw))), (kf, .inl (k2, 20, .inl gf)), (sk, .inl (sk1, 22424, .inr (.inl gst)))] sz) := by
  refine Met.ofW (cc := cX1_fill) (maxL := 6) (ret := none) (by decide) rfl ?_
  intro p e s m args below meth c s₁ B hml hv
  obtain ⟨rfl, hsz, hP, hK, hD0, hN, hT⟩ := hv
  have hx := B.exec
  have hb := B.bytes
  have hr := B.returns
  have hts := atoms_spec (ws := Cond.code yX1_fill cX1_fill 6 none :: zw) B.pre
  have hA : ∀ w ∈ zw, w.before _ s = true := fun w h => hts w (List.mem_cons_of_mem _ h)
  have hown : s.vm.findClass RX1 = some m.cls := findClass_of_methodNamed B.named
  have hlocks := B.notSynchronized
  subst hsz
  have hD := hD0.self (sz := s.heap.size)
  generalize hAe : va_A [(h0, .inr (1, [.ref ek, .ref ec, .ref ef, .ref cki, .int e_limit, .int e_fresh, .int e_firstFree, .int e_held, .int e_mostHeld, .int e_made, .int e_reused, .int e_freed, .int e_doubled])), (ek, .inl (e1, 400, .inl gk)), (ec, .inl (e2, 400, .inl gc)), (ef, .inl (e3, 1200, .inr (.inl gv))), (cki, .inr (4, [.ref kw, .ref kf, .int z])), (kw, .inl (k1, 20, .inr (.inl gw))), (kf, .inl (k2, 20, .inl gf)), (sk, .inl (sk1, 22424, .inr (.inl gst)))] s.heap.size = A at hD hT ⊢
  have hAA : ∀ q : Nat, s.heap.size ≤ q → A q := fun q h => by rw [← hAe]; exact Or.inr h
  have hS : va_S A s.heap s.heap [] := va_S.rf
  have hl := lv_entry ([.ref h0, .int ce, .int ok, .ref sk, .int fi]) (n := 6) (Nat.le_of_ble_eq_true rfl)
  rw [lg_entry_eq]
  generalize (lg_sl ([.ref h0, .int ce, .int ok, .ref sk, .int fi]) ++ List.replicate (6 - (lg_sl ([.ref h0, .int ce, .int ok, .ref sk, .int fi])).length) Slot.unset).toArray = ls at hl ⊢
  have hl : lv_has ls 6 [(0, .ref h0), (1, .int ce), (2, .int ok), (3, .ref sk), (4, .int fi)] := hl
  refine lv_aload_n hx hb dX1_fill_0 rfl (lv_at hl 0 rfl) ?_
  refine va_get (D := (dC, dI)) (ci := 1) (v := .ref ek) (C := RX1) (T := TX1) (N := 13) hx hb hA zin_X1 hown hK hP 0 rfl rfl 0 (by decide) (hA _ wi_435) (fun _ h9 => h9) rfl dX1_fill_1 ?_
  refine lv_iload_n hx hb dX1_fill_4 rfl (lv_at hl 1 rfl) ?_
  refine lv_iload_n hx hb dX1_fill_5 rfl (lv_at hl 2 rfl) ?_
  refine va_iast hx hb hK hP hD hS 1 0 rfl rfl (vp_in_iff.mpr ⟨by omega, by omega⟩) dX1_fill_6 (fun H locs hP hD hS => ?_)
  obtain ⟨f_1, ef_1⟩ : ∃ gz9 : Nat → Int32, gz9 = upd gk (Int32.toNatClampNeg ce) ok := ⟨_, rfl⟩
  rw [← ef_1] at hP hD
  have hP : va_P (dC, dI) vwCl [(h0, .inr (1, [.ref ek, .ref ec, .ref ef, .ref cki, .int e_limit, .int e_fresh, .int e_firstFree, .int e_held, .int e_mostHeld, .int e_made, .int e_reused, .int e_freed, .int e_doubled])), (ek, .inl (e1, 400, .inl f_1)), (ec, .inl (e2, 400, .inl gc)), (ef, .inl (e3, 1200, .inr (.inl gv))), (cki, .inr (4, [.ref kw, .ref kf, .int z])), (kw, .inl (k1, 20, .inr (.inl gw))), (kf, .inl (k2, 20, .inl gf)), (sk, .inl (sk1, 22424, .inr (.inl gst)))] H := hP
  have hD : va_D A [(h0, .inr (1, [.ref ek, .ref ec, .ref ef, .ref cki, .int e_limit, .int e_fresh, .int e_firstFree, .int e_held, .int e_mostHeld, .int e_made, .int e_reused, .int e_freed, .int e_doubled])), (ek, .inl (e1, 400, .inl f_1)), (ec, .inl (e2, 400, .inl gc)), (ef, .inl (e3, 1200, .inr (.inl gv))), (cki, .inr (4, [.ref kw, .ref kf, .int z])), (kw, .inl (k1, 20, .inr (.inl gw))), (kf, .inl (k2, 20, .inl gf)), (sk, .inl (sk1, 22424, .inr (.inl gst)))] := hD
  refine lv_aload_n hx hb dX1_fill_7 rfl (lv_at hl 0 rfl) ?_
  refine va_get (D := (dC, dI)) (ci := 1) (v := .ref ec) (C := RX1) (T := TX1) (N := 13) hx hb hA zin_X1 hown hK hP 0 rfl rfl 1 (by decide) (hA _ wi_436) (fun _ h9 => h9) rfl dX1_fill_8 ?_
  refine lv_iload_n hx hb dX1_fill_11 rfl (lv_at hl 1 rfl) ?_
  refine lv_iconst (v := 1) hx hb dX1_fill_12 (by decide) ?_
  refine va_iast hx hb hK hP hD hS 2 1 rfl rfl (vp_in_iff.mpr ⟨by omega, by omega⟩) dX1_fill_13 (fun H locs hP hD hS => ?_)
  obtain ⟨f_2, ef_2⟩ : ∃ gz9 : Nat → Int32, gz9 = upd gc (Int32.toNatClampNeg ce) 1 := ⟨_, rfl⟩
  rw [← ef_2] at hP hD
  have hP : va_P (dC, dI) vwCl [(h0, .inr (1, [.ref ek, .ref ec, .ref ef, .ref cki, .int e_limit, .int e_fresh, .int e_firstFree, .int e_held, .int e_mostHeld, .int e_made, .int e_reused, .int e_freed, .int e_doubled])), (ek, .inl (e1, 400, .inl f_1)), (ec, .inl (e2, 400, .inl f_2)), (ef, .inl (e3, 1200, .inr (.inl gv))), (cki, .inr (4, [.ref kw, .ref kf, .int z])), (kw, .inl (k1, 20, .inr (.inl gw))), (kf, .inl (k2, 20, .inl gf)), (sk, .inl (sk1, 22424, .inr (.inl gst)))] H := hP
  have hD : va_D A [(h0, .inr (1, [.ref ek, .ref ec, .ref ef, .ref cki, .int e_limit, .int e_fresh, .int e_firstFree, .int e_held, .int e_mostHeld, .int e_made, .int e_reused, .int e_freed, .int e_doubled])), (ek, .inl (e1, 400, .inl f_1)), (ec, .inl (e2, 400, .inl f_2)), (ef, .inl (e3, 1200, .inr (.inl gv))), (cki, .inr (4, [.ref kw, .ref kf, .int z])), (kw, .inl (k1, 20, .inr (.inl gw))), (kf, .inl (k2, 20, .inl gf)), (sk, .inl (sk1, 22424, .inr (.inl gst)))] := hD
  have hok9 : f_1 (Int32.toNatClampNeg ce) = ok := by rw [ef_1]; exact pk_us
  refine lv_iconst (v := 0) hx hb dX1_fill_14 (by decide) ?_
  refine lv_istore (lv' := [(5, .int 0), (0, .ref h0), (1, .int ce), (2, .int ok), (3, .ref sk), (4, .int fi)]) hx hb dX1_fill_15 hl (by decide) rfl (fun ls hl => ?_)
  have loop_17 : ∀ (n9 : Nat) (i : Int32) (lv_ : Nat → Int64) (H : Heap) (locs : List Loc) (ls : Array Slot), (3 - i.toInt + 1).toNat ≤ n9 → 0 ≤ i.toInt → i.toInt ≤ 3 → zfw gv lv_ (Int32.toNatClampNeg ce) gst (Int32.toNatClampNeg fi) (Int32.toNatClampNeg i) → va_P (dC, dI) vwCl [(h0, .inr (1, [.ref ek, .ref ec, .ref ef, .ref cki, .int e_limit, .int e_fresh, .int e_firstFree, .int e_held, .int e_mostHeld, .int e_made, .int e_reused, .int e_freed, .int e_doubled])), (ek, .inl (e1, 400, .inl f_1)), (ec, .inl (e2, 400, .inl f_2)), (ef, .inl (e3, 1200, .inr (.inl lv_))), (cki, .inr (4, [.ref kw, .ref kf, .int z])), (kw, .inl (k1, 20, .inr (.inl gw))), (kf, .inl (k2, 20, .inl gf)), (sk, .inl (sk1, 22424, .inr (.inl gst)))] H → va_D A [(h0, .inr (1, [.ref ek, .ref ec, .ref ef, .ref cki, .int e_limit, .int e_fresh, .int e_firstFree, .int e_held, .int e_mostHeld, .int e_made, .int e_reused, .int e_freed, .int e_doubled])), (ek, .inl (e1, 400, .inl f_1)), (ec, .inl (e2, 400, .inl f_2)), (ef, .inl (e3, 1200, .inr (.inl lv_))), (cki, .inr (4, [.ref kw, .ref kf, .int z])), (kw, .inl (k1, 20, .inr (.inl gw))), (kf, .inl (k2, 20, .inl gf)), (sk, .inl (sk1, 22424, .inr (.inl gst)))] → va_S A s.heap H locs → lv_has ls 6 [(5, .int i), (0, .ref h0), (1, .int ce), (2, .int ok), (3, .ref sk), (4, .int fi)] → W p l e (headSpec (Cond.code yX1_fill cX1_fill 6 none :: zw) ({ frames := 12, cells := 0, slots := 0, locals := 400 })).room s m #[.ref h0, .int ce, .int ok, .ref sk, .int fi] below meth c H locs 0 0 (MQ below (va_Qv (fun u : (Nat → Int32) × (Nat → Int32) × (Nat → Int64) => match u with | (gk2, gc2, gv2) => (gk2 = upd gk (Int32.toNatClampNeg ce) ok) ∧ (gc2 = upd gc (Int32.toNatClampNeg ce) 1) ∧ (zfw gv gv2 (Int32.toNatClampNeg ce) gst (Int32.toNatClampNeg fi) (zfk z gf ok).toNat)) (fun u => match u with | (gk2, gc2, gv2) => zQ dC dI A [(e1, .int), (e2, .int), (e3, .long), (k1, .long), (k2, .int), (sk1, .long)] [(h0, .inr (1, [.ref ek, .ref ec, .ref ef, .ref cki, .int e_limit, .int e_fresh, .int e_firstFree, .int e_held, .int e_mostHeld, .int e_made, .int e_reused, .int e_freed, .int e_doubled])), (ek, .inl (e1, 400, .inl gk2)), (ec, .inl (e2, 400, .inl gc2)), (ef, .inl (e3, 1200, .inr (.inl gv2))), (cki, .inr (4, [.ref kw, .ref kf, .int z])), (kw, .inl (k1, 20, .inr (.inl gw))), (kf, .inl (k2, 20, .inl gf)), (sk, .inl (sk1, 22424, .inr (.inl gst)))]) A) #[.ref h0, .int ce, .int ok, .ref sk, .int fi] s 0 0 A) (F0 m 17 ls []) := by
    intro n9
    induction n9 with
    | zero => intro i lv_ H locs ls hm hi0 hi1 hzfw; exfalso; omega
    | succ n9 ih =>
      intro i lv_ H locs ls hm hi0 hi1 hzfw hP hD hS hl
      refine lv_iload hx hb dX1_fill_17 (lv_at hl 0 rfl) ?_
      refine lv_aload_n hx hb dX1_fill_19 rfl (lv_at hl 1 rfl) ?_
      refine lv_iload_n hx hb dX1_fill_20 rfl (lv_at hl 2 rfl) ?_
      have hPc := hP.sub (ws' := [(h0, .inr (1, [.ref ek, .ref ec, .ref ef, .ref cki, .int e_limit, .int e_fresh, .int e_firstFree, .int e_held, .int e_mostHeld, .int e_made, .int e_reused, .int e_freed, .int e_doubled])), (ek, .inl (e1, 400, .inl f_1)), (ec, .inl (e2, 400, .inl f_2)), (ef, .inl (e3, 1200, .inr (.inl lv_))), (cki, .inr (4, [.ref kw, .ref kf, .int z])), (kw, .inl (k1, 20, .inr (.inl gw))), (kf, .inl (k2, 20, .inl gf))]) [0, 1, 2, 3, 4, 5, 6] rfl
      have hDc := hD.sub (ws' := [(h0, .inr (1, [.ref ek, .ref ec, .ref ef, .ref cki, .int e_limit, .int e_fresh, .int e_firstFree, .int e_held, .int e_mostHeld, .int e_made, .int e_reused, .int e_freed, .int e_doubled])), (ek, .inl (e1, 400, .inl f_1)), (ec, .inl (e2, 400, .inl f_2)), (ef, .inl (e3, 1200, .inr (.inl lv_))), (cki, .inr (4, [.ref kw, .ref kf, .int z])), (kw, .inl (k1, 20, .inr (.inl gw))), (kf, .inl (k2, 20, .inl gf))]) [0, 1, 2, 3, 4, 5, 6] (by decide) rfl
      have hKc := hK.sub (tys' := [(e1, .int), (e2, .int), (e3, .long), (k1, .long), (k2, .int)]) [0, 1, 2, 3, 4] rfl
      have hFc := va_free (wc := [(h0, .inr (1, [.ref ek, .ref ec, .ref ef, .ref cki, .int e_limit, .int e_fresh, .int e_firstFree, .int e_held, .int e_mostHeld, .int e_made, .int e_reused, .int e_freed, .int e_doubled])), (ek, .inl (e1, 400, .inl f_1)), (ec, .inl (e2, 400, .inl f_2)), (ef, .inl (e3, 1200, .inr (.inl lv_))), (cki, .inr (4, [.ref kw, .ref kf, .int z])), (kw, .inl (k1, 20, .inr (.inl gw))), (kf, .inl (k2, 20, .inl gf))]) hD hS hAA [0, 1, 2, 3, 4, 5, 6] rfl
      refine va_calli (va_runV (As := [.int ce]) (rest := [.int i]) ⟨hx, hb, hml, hown, hA⟩ (c_X1_width_x400 l dC dI aK aV h0 ek ec ef cki e1 e2 e3 e_limit e_fresh e_firstFree e_held e_mostHeld e_made e_reused e_freed e_doubled f_1 f_2 lv_ kw kf k1 k2 z gw gf ce H.size (by omega) (by omega) hgf (by omega) (by omega)) (cwV 1 hA (zw_V wi_1150 wi_1151 wi_1152 wi_140 (zw_good wi_1153)) rfl rfl rfl (by decide +kernel) ⟨(Nat.le_of_ble_eq_true rfl), (Nat.le_of_ble_eq_true rfl)⟩) ⟨zP_blind, va_recv hKc hPc (ci := 1) (q0 := 0) rfl rfl, zz_pre hKc hPc hDc hN hT hS hFc⟩ rfl rfl hl.1 rfl (lv_room (Nat.le_of_ble_eq_true rfl)) dX1_fill_21 ⟨(Nat.le_of_ble_eq_true rfl), (Nat.le_of_ble_eq_true rfl)⟩) hS (fun q _ h => hFc q h) hFc (fun r_3 u t H1 locs ht hvm hw hB hz1 hk1 hS => ?_)
      obtain ⟨hP1, hK1, hD1⟩ := hB
      rw [ht] at hP1
      have hK1 := va_K.moved hvm.symm hK1
      obtain ⟨hP, hD⟩ := va_join (wr := [(sk, .inl (sk1, 22424, .inr (.inl gst)))]) (w1 := [(h0, .inr (1, [.ref ek, .ref ec, .ref ef, .ref cki, .int e_limit, .int e_fresh, .int e_firstFree, .int e_held, .int e_mostHeld, .int e_made, .int e_reused, .int e_freed, .int e_doubled])), (ek, .inl (e1, 400, .inl f_1)), (ec, .inl (e2, 400, .inl f_2)), (ef, .inl (e3, 1200, .inr (.inl lv_))), (cki, .inr (4, [.ref kw, .ref kf, .int z])), (kw, .inl (k1, 20, .inr (.inl gw))), (kf, .inl (k2, 20, .inl gf))]) hP hD [0, 1, 2, 3, 4, 5, 6] [7] rfl rfl (by decide) (by decide) hk1 hFc hP1 hD1
      have hK := (hK.sub (tys' := [(sk1, .long)]) [5] rfl).app hK1
      generalize H1 = H at hP hS ⊢
      have hP : va_P (dC, dI) vwCl [(sk, .inl (sk1, 22424, .inr (.inl gst))), (h0, .inr (1, [.ref ek, .ref ec, .ref ef, .ref cki, .int e_limit, .int e_fresh, .int e_firstFree, .int e_held, .int e_mostHeld, .int e_made, .int e_reused, .int e_freed, .int e_doubled])), (ek, .inl (e1, 400, .inl f_1)), (ec, .inl (e2, 400, .inl f_2)), (ef, .inl (e3, 1200, .inr (.inl lv_))), (cki, .inr (4, [.ref kw, .ref kf, .int z])), (kw, .inl (k1, 20, .inr (.inl gw))), (kf, .inl (k2, 20, .inl gf))] H := hP
      have hD : va_D A [(sk, .inl (sk1, 22424, .inr (.inl gst))), (h0, .inr (1, [.ref ek, .ref ec, .ref ef, .ref cki, .int e_limit, .int e_fresh, .int e_firstFree, .int e_held, .int e_mostHeld, .int e_made, .int e_reused, .int e_freed, .int e_doubled])), (ek, .inl (e1, 400, .inl f_1)), (ec, .inl (e2, 400, .inl f_2)), (ef, .inl (e3, 1200, .inr (.inl lv_))), (cki, .inr (4, [.ref kw, .ref kf, .int z])), (kw, .inl (k1, 20, .inr (.inl gw))), (kf, .inl (k2, 20, .inl gf))] := hD
      have hK : va_K (dC, dI) vwCl [(sk1, .long), (e1, .int), (e2, .int), (e3, .long), (k1, .long), (k2, .int)] s := hK
      have hw_r_3 := hw
      try dsimp only at hw_r_3
      obtain ⟨hq_4, hq_5, hq_6⟩ := hw
      have hwr9 : r_3.toInt = zfk z gf ok := by rw [hq_6, hok9]
      refine lv_icmp_ge (tgt := 51) hx hb dX1_fill_24 (by decide) (fun c_7 => ?_) (fun c_7 => ?_)
      · have ic_7 : r_3.toInt ≤ i.toInt := zi_le c_7
        have hP9 := hP.sub (ws' := [(h0, .inr (1, [.ref ek, .ref ec, .ref ef, .ref cki, .int e_limit, .int e_fresh, .int e_firstFree, .int e_held, .int e_mostHeld, .int e_made, .int e_reused, .int e_freed, .int e_doubled])), (ek, .inl (e1, 400, .inl f_1)), (ec, .inl (e2, 400, .inl f_2)), (ef, .inl (e3, 1200, .inr (.inl lv_))), (cki, .inr (4, [.ref kw, .ref kf, .int z])), (kw, .inl (k1, 20, .inr (.inl gw))), (kf, .inl (k2, 20, .inl gf)), (sk, .inl (sk1, 22424, .inr (.inl gst)))]) [1, 2, 3, 4, 5, 6, 7, 0] rfl
        have hD9 := hD.sub (ws' := [(h0, .inr (1, [.ref ek, .ref ec, .ref ef, .ref cki, .int e_limit, .int e_fresh, .int e_firstFree, .int e_held, .int e_mostHeld, .int e_made, .int e_reused, .int e_freed, .int e_doubled])), (ek, .inl (e1, 400, .inl f_1)), (ec, .inl (e2, 400, .inl f_2)), (ef, .inl (e3, 1200, .inr (.inl lv_))), (cki, .inr (4, [.ref kw, .ref kf, .int z])), (kw, .inl (k1, 20, .inr (.inl gw))), (kf, .inl (k2, 20, .inl gf)), (sk, .inl (sk1, 22424, .inr (.inl gst)))]) [1, 2, 3, 4, 5, 6, 7, 0] (by decide) rfl
        have hK9 := hK.sub (tys' := [(e1, .int), (e2, .int), (e3, .long), (k1, .long), (k2, .int), (sk1, .long)]) [1, 2, 3, 4, 5, 0] rfl
        exact W.vret hx hb hr (fun t ht hW => ⟨⟨(f_1, f_2, lv_), rfl, ⟨ef_1, ef_2, (by have h8 := hzfw; have h7 := zn_nat (x := i) (by omega); exact ⟨fun k hk => h8.1 k (by omega), h8.2⟩)⟩, by rw [ht]; exact hP9, va_K.moved hW.alike hK9, hD9⟩, hS.F ht⟩) hS.2.2 dX1_fill_51
      · have ic_7 : i.toInt < r_3.toInt := zi_nle c_7
        refine lv_aload_n hx hb dX1_fill_27 rfl (lv_at hl 1 rfl) ?_
        refine va_get (D := (dC, dI)) (ci := 1) (v := .ref ef) (C := RX1) (T := TX1) (N := 13) hx hb hA zin_X1 hown hK hP 1 rfl rfl 2 (by decide) (hA _ wi_438) (fun _ h9 => h9) rfl dX1_fill_28 ?_
        refine lv_iload_n hx hb dX1_fill_31 rfl (lv_at hl 2 rfl) ?_
        refine lv_iconst (v := 3) hx hb dX1_fill_32 (by decide) ?_
        refine lv_imul hx hb dX1_fill_33 ?_
        refine lv_topi (fun x_8 ex_8 => ?_)
        have ix_8 : x_8.toInt = ce.toInt * 3 := by rw [ex_8]; exact zi_mulc (by decide) (by omega) (by omega)
        refine lv_iload hx hb dX1_fill_34 (lv_at hl 0 rfl) ?_
        refine lv_iadd hx hb dX1_fill_36 ?_
        refine lv_topi (fun x_9 ex_9 => ?_)
        have ix_9 : x_9.toInt = x_8.toInt + i.toInt := by rw [ex_9]; exact zi_addc rfl (by omega) (by omega)
        refine lv_aload_n hx hb dX1_fill_37 rfl (lv_at hl 4 rfl) ?_
        refine lv_iload hx hb dX1_fill_38 (lv_at hl 5 rfl) ?_
        refine lv_iload hx hb dX1_fill_40 (lv_at hl 0 rfl) ?_
        refine lv_iadd hx hb dX1_fill_42 ?_
        refine lv_topi (fun x_10 ex_10 => ?_)
        have ix_10 : x_10.toInt = fi.toInt + i.toInt := by rw [ex_10]; exact zi_addc rfl (by omega) (by omega)
        refine va_lald hx hb hK hP 0 0 rfl rfl (vp_in_iff.mpr ⟨by omega, by omega⟩) dX1_fill_43 ?_
        refine lv_topl (fun x_11 ex_11 => ?_)
        refine va_last hx hb hK hP hD hS 4 3 rfl rfl (vp_in_iff.mpr ⟨by omega, by omega⟩) dX1_fill_44 (fun H locs hP hD hS => ?_)
        obtain ⟨f_12, ef_12⟩ : ∃ gz9 : Nat → Int64, gz9 = vp_updL lv_ (Int32.toNatClampNeg x_9) x_11 := ⟨_, rfl⟩
        rw [← ef_12] at hP hD
        have hP : va_P (dC, dI) vwCl [(sk, .inl (sk1, 22424, .inr (.inl gst))), (h0, .inr (1, [.ref ek, .ref ec, .ref ef, .ref cki, .int e_limit, .int e_fresh, .int e_firstFree, .int e_held, .int e_mostHeld, .int e_made, .int e_reused, .int e_freed, .int e_doubled])), (ek, .inl (e1, 400, .inl f_1)), (ec, .inl (e2, 400, .inl f_2)), (ef, .inl (e3, 1200, .inr (.inl f_12))), (cki, .inr (4, [.ref kw, .ref kf, .int z])), (kw, .inl (k1, 20, .inr (.inl gw))), (kf, .inl (k2, 20, .inl gf))] H := hP
        have hD : va_D A [(sk, .inl (sk1, 22424, .inr (.inl gst))), (h0, .inr (1, [.ref ek, .ref ec, .ref ef, .ref cki, .int e_limit, .int e_fresh, .int e_firstFree, .int e_held, .int e_mostHeld, .int e_made, .int e_reused, .int e_freed, .int e_doubled])), (ek, .inl (e1, 400, .inl f_1)), (ec, .inl (e2, 400, .inl f_2)), (ef, .inl (e3, 1200, .inr (.inl f_12))), (cki, .inr (4, [.ref kw, .ref kf, .int z])), (kw, .inl (k1, 20, .inr (.inl gw))), (kf, .inl (k2, 20, .inl gf))] := hD
        obtain ⟨x_13, ex_13⟩ : ∃ y : Int32, y = i + Int32.ofInt 1 := ⟨_, rfl⟩
        refine lv_iinc (v := x_13) (lv' := [(5, .int x_13), (0, .ref h0), (1, .int ce), (2, .int ok), (3, .ref sk), (4, .int fi)]) hx hb dX1_fill_45 hl (k := 0) rfl (by rw [ex_13]) (by decide) rfl (fun ls hl => ?_)
        have ix_13 : x_13.toInt = i.toInt + 1 := by rw [ex_13]; exact zi_addc (by decide) (by omega) (by omega)
        refine lv_goto (tgt := 17) hx hb dX1_fill_48 (by decide) ?_
        have hzf_14 : zfw gv f_12 (Int32.toNatClampNeg ce) gst (Int32.toNatClampNeg fi) (Int32.toNatClampNeg x_13) := zfw_s hzfw ef_12 (zn_3 (i := ce) (w := i) (by omega) (by omega) (by omega)) (by rw [ex_11]; exact congrArg gst (by have := zn_nat (x := x_10) (by omega); have := zn_nat (x := fi) (by omega); have := zn_nat (x := i) (by omega); omega)) (by have := zn_nat (x := i) (by omega); omega) (by have := zn_nat (x := i) (by omega); have := zn_nat (x := x_13) (by omega); omega)
        exact ih x_13 f_12 _ _ _ (by omega) (by omega) (by omega) hzf_14 (hP.sub [1, 2, 3, 4, 5, 6, 7, 0] rfl) (hD.sub [1, 2, 3, 4, 5, 6, 7, 0] (by decide) rfl) hS (lv_sub hl [0, 1, 2, 3, 4, 5] rfl)
  have hzf_15 : zfw gv gv (Int32.toNatClampNeg ce) gst (Int32.toNatClampNeg fi) (Int32.toNatClampNeg 0) := zfw_0 (by decide)
  exact loop_17 _ 0 gv _ _ _ (Nat.le_refl _) (by have h9_0 : Int32.toInt 0 = 0 := (by decide); omega) (by have h9_0 : Int32.toInt 0 = 0 := (by decide); omega) hzf_15 (hP.sub [0, 1, 2, 3, 4, 5, 6, 7] rfl) (hD.sub [0, 1, 2, 3, 4, 5, 6, 7] (by decide) rfl) hS (lv_sub hl [0, 1, 2, 3, 4, 5] rfl)
set_option maxHeartbeats 4000000 in
set_option maxRecDepth 100000 in
theorem c_X1_fill_x4000 (l : Launch) (dC : Nat → ClassId) (dI : Nat → Nat → Nat) (aK aV : Nat → Nat) (h0 : Nat) (ek : Nat) (ec : Nat) (ef : Nat) (cki : Nat) (e1 : ClassId) (e2 : ClassId) (e3 : ClassId) (e_limit : Int32) (e_fresh : Int32) (e_firstFree : Int32) (e_held : Int32) (e_mostHeld : Int32) (e_made : Int32) (e_reused : Int32) (e_freed : Int32) (e_doubled : Int32) (gk : Nat → Int32) (gc : Nat → Int32) (gv : Nat → Int64) (kw : Nat) (kf : Nat) (k1 : ClassId) (k2 : ClassId) (z : Int32) (gw : Nat → Int64) (gf : Nat → Int32) (ce : Int32) (ok : Int32) (sk : Nat) (sk1 : ClassId) (gst : Nat → Int64) (fi : Int32) (sz : Nat) (hz0 : 0 ≤ z.toInt) (hz1 : z.toInt ≤ 20) (hgf : zx 4 gf) (hc0 : 0 ≤ ce.toInt) (hc1 : ce.toInt < 4000) (hf0 : 0 ≤ fi.toInt) (hf1 : fi.toInt + zfk z gf ok ≤ 22424) : Met l yX1_fill (Cond.code yX1_fill cX1_fill 6 none :: zw) ({ frames := 12, cells := 0, slots := 0, locals := 400 }) (va_Pc [.ref h0, .int ce, .int ok, .ref sk, .int fi] (zP dC dI aK aV sz [(e1, .int), (e2, .int), (e3, .long), (k1, .long), (k2, .int), (sk1, .long)] [(h0, .inr (1, [.ref ek, .ref ec, .ref ef, .ref cki, .int e_limit, .int e_fresh, .int e_firstFree, .int e_held, .int e_mostHeld, .int e_made, .int e_reused, .int e_freed, .int e_doubled])), (ek, .inl (e1, 4000, .inl gk)), (ec, .inl (e2, 4000, .inl gc)), (ef, .inl (e3, 12000, .inr (.inl gv))), (cki, .inr (4, [.ref kw, .ref kf, .int z])), (kw, .inl (k1, 20, .inr (.inl gw))), (kf, .inl (k2, 20, .inl gf)), (sk, .inl (sk1, 22424, .inr (.inl gst)))])) (va_Qv (fun u : (Nat → Int32) × (Nat → Int32) × (Nat → Int64) => match u with | (gk2, gc2, gv2) => (gk2 = upd gk (Int32.toNatClampNeg ce) ok) ∧ (gc2 = upd gc (Int32.toNatClampNeg ce) 1) ∧ (zfw gv gv2 (Int32.toNatClampNeg ce) gst (Int32.toNatClampNeg fi) (zfk z gf ok).toNat)) (fun u => match u with | (gk2, gc2, gv2) => zQ dC dI (va_A [(h0, .inr (1, [.ref ek, .ref ec, .ref ef, .ref cki, .int e_limit, .int e_fresh, .int e_firstFree, .int e_held, .int e_mostHeld, .int e_made, .int e_reused, .int e_freed, .int e_doubled])), (ek, .inl (e1, 4000, .inl gk)), (ec, .inl (e2, 4000, .inl gc)), (ef, .inl (e3, 12000, .inr (.inl gv))), (cki, .inr (4, [.ref kw, .ref kf, .int z])), (kw, .inl (k1, 20, .inr (.inl gw))), (kf, .inl (k2, 20, .inl gf)), (sk, .inl (sk1, 22424, .inr (.inl gst)))] sz) [(e1, .int), (e2, .int), (e3, .long), (k1, .long), (k2, .int), (sk1, .long)] [(h0, .inr (1, [.ref ek, .ref ec, .ref ef, .ref cki, .int e_limit, .int e_fresh, .int e_firstFree, .int e_held, .int e_mostHeld, .int e_made, .int e_reused, .int e_freed, .int e_doubled])), (ek, .inl (e1, 4000, .inl gk2)), (ec, .inl (e2, 4000, .inl gc2)), (ef, .inl (e3, 12000, .inr (.inl gv2))), (cki, .inr (4, [.ref kw, .ref kf, .int z])), (kw, .inl (k1, 20, .inr (.inl gw))), (kf, .inl (k2, 20, .inl gf)), (sk, .inl (sk1, 22424, .inr (.inl gst)))]) (va_A [(h0, .inr (1, [.ref ek, .ref ec, .ref ef, .ref cki, .int e_limit, .int e_fresh, .int e_firstFree, .int e_held, .int e_mostHeld, .int e_made, .int e_reused, .int e_freed, .int e_doubled])), (ek, .inl (e1, 4000, .inl gk)), (ec, .inl (e2, 4000, .inl gc)), (ef, .inl (e3, 12000, .inr (.inl gv))), (cki, .inr (4, [.ref kw, .ref kf, .int z])), (kw, .inl (k1, 20, .inr (.inl gw))), (kf, .inl (k2, 20, .inl gf)), (sk, .inl (sk1, 22424, .inr (.inl gst)))] sz)) 0 0 (va_A [(h0, .inr (1, [.ref ek, .ref ec, .ref ef, .ref cki, .int e_limit, .int e_fresh, .int e_firstFree, .int e_held, .int e_mostHeld, .int e_made, .int e_reused, .int e_freed, .int e_doubled])), (ek, .inl (e1, 4000, .inl gk)), (ec, .inl (e2, 4000, .inl gc)), (ef, .inl (e3, 12000, .inr (.inl gv))), (cki, .inr (4, [.ref kw, .ref kf, .int z])), (kw, .inl (k1, 20, .inr (.inl gw))), (kf, .inl (k2, 20, .inl gf)), (sk, .inl (sk1, 22424, .inr (.inl gst)))] sz) := by
  refine Met.ofW (cc := cX1_fill) (maxL := 6) (ret := none) (by decide) rfl ?_
  intro p e s m args below meth c s₁ B hml hv
  obtain ⟨rfl, hsz, hP, hK, hD0, hN, hT⟩ := hv
  have hx := B.exec
  have hb := B.bytes
  have hr := B.returns
  have hts := atoms_spec (ws := Cond.code yX1_fill cX1_fill 6 none :: zw) B.pre
  have hA : ∀ w ∈ zw, w.before _ s = true := fun w h => hts w (List.mem_cons_of_mem _ h)
  have hown : s.vm.findClass RX1 = some m.cls := findClass_of_methodNamed B.named
  have hlocks := B.notSynchronized
  subst hsz
  have hD := hD0.self (sz := s.heap.size)
  generalize hAe : va_A [(h0, .inr (1, [.ref ek, .ref ec, .ref ef, .ref cki, .int e_limit, .int e_fresh, .int e_firstFree, .int e_held, .int e_mostHeld, .int e_made, .int e_reused, .int e_freed, .int e_doubled])), (ek, .inl (e1, 4000, .inl gk)), (ec, .inl (e2, 4000, .inl gc)), (ef, .inl (e3, 12000, .inr (.inl gv))), (cki, .inr (4, [.ref kw, .ref kf, .int z])), (kw, .inl (k1, 20, .inr (.inl gw))), (kf, .inl (k2, 20, .inl gf)), (sk, .inl (sk1, 22424, .inr (.inl gst)))] s.heap.size = A at hD hT ⊢
  have hAA : ∀ q : Nat, s.heap.size ≤ q → A q := fun q h => by rw [← hAe]; exact Or.inr h
  have hS : va_S A s.heap s.heap [] := va_S.rf
  have hl := lv_entry ([.ref h0, .int ce, .int ok, .ref sk, .int fi]) (n := 6) (Nat.le_of_ble_eq_true rfl)
  rw [lg_entry_eq]
  generalize (lg_sl ([.ref h0, .int ce, .int ok, .ref sk, .int fi]) ++ List.replicate (6 - (lg_sl ([.ref h0, .int ce, .int ok, .ref sk, .int fi])).length) Slot.unset).toArray = ls at hl ⊢
  have hl : lv_has ls 6 [(0, .ref h0), (1, .int ce), (2, .int ok), (3, .ref sk), (4, .int fi)] := hl
  refine lv_aload_n hx hb dX1_fill_0 rfl (lv_at hl 0 rfl) ?_
  refine va_get (D := (dC, dI)) (ci := 1) (v := .ref ek) (C := RX1) (T := TX1) (N := 13) hx hb hA zin_X1 hown hK hP 0 rfl rfl 0 (by decide) (hA _ wi_435) (fun _ h9 => h9) rfl dX1_fill_1 ?_
  refine lv_iload_n hx hb dX1_fill_4 rfl (lv_at hl 1 rfl) ?_
  refine lv_iload_n hx hb dX1_fill_5 rfl (lv_at hl 2 rfl) ?_
  refine va_iast hx hb hK hP hD hS 1 0 rfl rfl (vp_in_iff.mpr ⟨by omega, by omega⟩) dX1_fill_6 (fun H locs hP hD hS => ?_)
  obtain ⟨f_1, ef_1⟩ : ∃ gz9 : Nat → Int32, gz9 = upd gk (Int32.toNatClampNeg ce) ok := ⟨_, rfl⟩
  rw [← ef_1] at hP hD
  have hP : va_P (dC, dI) vwCl [(h0, .inr (1, [.ref ek, .ref ec, .ref ef, .ref cki, .int e_limit, .int e_fresh, .int e_firstFree, .int e_held, .int e_mostHeld, .int e_made, .int e_reused, .int e_freed, .int e_doubled])), (ek, .inl (e1, 4000, .inl f_1)), (ec, .inl (e2, 4000, .inl gc)), (ef, .inl (e3, 12000, .inr (.inl gv))), (cki, .inr (4, [.ref kw, .ref kf, .int z])), (kw, .inl (k1, 20, .inr (.inl gw))), (kf, .inl (k2, 20, .inl gf)), (sk, .inl (sk1, 22424, .inr (.inl gst)))] H := hP
  have hD : va_D A [(h0, .inr (1, [.ref ek, .ref ec, .ref ef, .ref cki, .int e_limit, .int e_fresh, .int e_firstFree, .int e_held, .int e_mostHeld, .int e_made, .int e_reused, .int e_freed, .int e_doubled])), (ek, .inl (e1, 4000, .inl f_1)), (ec, .inl (e2, 4000, .inl gc)), (ef, .inl (e3, 12000, .inr (.inl gv))), (cki, .inr (4, [.ref kw, .ref kf, .int z])), (kw, .inl (k1, 20, .inr (.inl gw))), (kf, .inl (k2, 20, .inl gf)), (sk, .inl (sk1, 22424, .inr (.inl gst)))] := hD
  refine lv_aload_n hx hb dX1_fill_7 rfl (lv_at hl 0 rfl) ?_
  refine va_get (D := (dC, dI)) (ci := 1) (v := .ref ec) (C := RX1) (T := TX1) (N := 13) hx hb hA zin_X1 hown hK hP 0 rfl rfl 1 (by decide) (hA _ wi_436) (fun _ h9 => h9) rfl dX1_fill_8 ?_
  refine lv_iload_n hx hb dX1_fill_11 rfl (lv_at hl 1 rfl) ?_
  refine lv_iconst (v := 1) hx hb dX1_fill_12 (by decide) ?_
  refine va_iast hx hb hK hP hD hS 2 1 rfl rfl (vp_in_iff.mpr ⟨by omega, by omega⟩) dX1_fill_13 (fun H locs hP hD hS => ?_)
  obtain ⟨f_2, ef_2⟩ : ∃ gz9 : Nat → Int32, gz9 = upd gc (Int32.toNatClampNeg ce) 1 := ⟨_, rfl⟩
  rw [← ef_2] at hP hD
  have hP : va_P (dC, dI) vwCl [(h0, .inr (1, [.ref ek, .ref ec, .ref ef, .ref cki, .int e_limit, .int e_fresh, .int e_firstFree, .int e_held, .int e_mostHeld, .int e_made, .int e_reused, .int e_freed, .int e_doubled])), (ek, .inl (e1, 4000, .inl f_1)), (ec, .inl (e2, 4000, .inl f_2)), (ef, .inl (e3, 12000, .inr (.inl gv))), (cki, .inr (4, [.ref kw, .ref kf, .int z])), (kw, .inl (k1, 20, .inr (.inl gw))), (kf, .inl (k2, 20, .inl gf)), (sk, .inl (sk1, 22424, .inr (.inl gst)))] H := hP
  have hD : va_D A [(h0, .inr (1, [.ref ek, .ref ec, .ref ef, .ref cki, .int e_limit, .int e_fresh, .int e_firstFree, .int e_held, .int e_mostHeld, .int e_made, .int e_reused, .int e_freed, .int e_doubled])), (ek, .inl (e1, 4000, .inl f_1)), (ec, .inl (e2, 4000, .inl f_2)), (ef, .inl (e3, 12000, .inr (.inl gv))), (cki, .inr (4, [.ref kw, .ref kf, .int z])), (kw, .inl (k1, 20, .inr (.inl gw))), (kf, .inl (k2, 20, .inl gf)), (sk, .inl (sk1, 22424, .inr (.inl gst)))] := hD
  have hok9 : f_1 (Int32.toNatClampNeg ce) = ok := by rw [ef_1]; exact pk_us
  refine lv_iconst (v := 0) hx hb dX1_fill_14 (by decide) ?_
  refine lv_istore (lv' := [(5, .int 0), (0, .ref h0), (1, .int ce), (2, .int ok), (3, .ref sk), (4, .int fi)]) hx hb dX1_fill_15 hl (by decide) rfl (fun ls hl => ?_)
  have loop_17 : ∀ (n9 : Nat) (i : Int32) (lv_ : Nat → Int64) (H : Heap) (locs : List Loc) (ls : Array Slot), (3 - i.toInt + 1).toNat ≤ n9 → 0 ≤ i.toInt → i.toInt ≤ 3 → zfw gv lv_ (Int32.toNatClampNeg ce) gst (Int32.toNatClampNeg fi) (Int32.toNatClampNeg i) → va_P (dC, dI) vwCl [(h0, .inr (1, [.ref ek, .ref ec, .ref ef, .ref cki, .int e_limit, .int e_fresh, .int e_firstFree, .int e_held, .int e_mostHeld, .int e_made, .int e_reused, .int e_freed, .int e_doubled])), (ek, .inl (e1, 4000, .inl f_1)), (ec, .inl (e2, 4000, .inl f_2)), (ef, .inl (e3, 12000, .inr (.inl lv_))), (cki, .inr (4, [.ref kw, .ref kf, .int z])), (kw, .inl (k1, 20, .inr (.inl gw))), (kf, .inl (k2, 20, .inl gf)), (sk, .inl (sk1, 22424, .inr (.inl gst)))] H → va_D A [(h0, .inr (1, [.ref ek, .ref ec, .ref ef, .ref cki, .int e_limit, .int e_fresh, .int e_firstFree, .int e_held, .int e_mostHeld, .int e_made, .int e_reused, .int e_freed, .int e_doubled])), (ek, .inl (e1, 4000, .inl f_1)), (ec, .inl (e2, 4000, .inl f_2)), (ef, .inl (e3, 12000, .inr (.inl lv_))), (cki, .inr (4, [.ref kw, .ref kf, .int z])), (kw, .inl (k1, 20, .inr (.inl gw))), (kf, .inl (k2, 20, .inl gf)), (sk, .inl (sk1, 22424, .inr (.inl gst)))] → va_S A s.heap H locs → lv_has ls 6 [(5, .int i), (0, .ref h0), (1, .int ce), (2, .int ok), (3, .ref sk), (4, .int fi)] → W p l e (headSpec (Cond.code yX1_fill cX1_fill 6 none :: zw) ({ frames := 12, cells := 0, slots := 0, locals := 400 })).room s m #[.ref h0, .int ce, .int ok, .ref sk, .int fi] below meth c H locs 0 0 (MQ below (va_Qv (fun u : (Nat → Int32) × (Nat → Int32) × (Nat → Int64) => match u with | (gk2, gc2, gv2) => (gk2 = upd gk (Int32.toNatClampNeg ce) ok) ∧ (gc2 = upd gc (Int32.toNatClampNeg ce) 1) ∧ (zfw gv gv2 (Int32.toNatClampNeg ce) gst (Int32.toNatClampNeg fi) (zfk z gf ok).toNat)) (fun u => match u with | (gk2, gc2, gv2) => zQ dC dI A [(e1, .int), (e2, .int), (e3, .long), (k1, .long), (k2, .int), (sk1, .long)] [(h0, .inr (1, [.ref ek, .ref ec, .ref ef, .ref cki, .int e_limit, .int e_fresh, .int e_firstFree, .int e_held, .int e_mostHeld, .int e_made, .int e_reused, .int e_freed, .int e_doubled])), (ek, .inl (e1, 4000, .inl gk2)), (ec, .inl (e2, 4000, .inl gc2)), (ef, .inl (e3, 12000, .inr (.inl gv2))), (cki, .inr (4, [.ref kw, .ref kf, .int z])), (kw, .inl (k1, 20, .inr (.inl gw))), (kf, .inl (k2, 20, .inl gf)), (sk, .inl (sk1, 22424, .inr (.inl gst)))]) A) #[.ref h0, .int ce, .int ok, .ref sk, .int fi] s 0 0 A) (F0 m 17 ls []) := by
    intro n9
    induction n9 with
    | zero => intro i lv_ H locs ls hm hi0 hi1 hzfw; exfalso; omega
    | succ n9 ih =>
      intro i lv_ H locs ls hm hi0 hi1 hzfw hP hD hS hl
      refine lv_iload hx hb dX1_fill_17 (lv_at hl 0 rfl) ?_
      refine lv_aload_n hx hb dX1_fill_19 rfl (lv_at hl 1 rfl) ?_
      refine lv_iload_n hx hb dX1_fill_20 rfl (lv_at hl 2 rfl) ?_
      have hPc := hP.sub (ws' := [(h0, .inr (1, [.ref ek, .ref ec, .ref ef, .ref cki, .int e_limit, .int e_fresh, .int e_firstFree, .int e_held, .int e_mostHeld, .int e_made, .int e_reused, .int e_freed, .int e_doubled])), (ek, .inl (e1, 4000, .inl f_1)), (ec, .inl (e2, 4000, .inl f_2)), (ef, .inl (e3, 12000, .inr (.inl lv_))), (cki, .inr (4, [.ref kw, .ref kf, .int z])), (kw, .inl (k1, 20, .inr (.inl gw))), (kf, .inl (k2, 20, .inl gf))]) [0, 1, 2, 3, 4, 5, 6] rfl
      have hDc := hD.sub (ws' := [(h0, .inr (1, [.ref ek, .ref ec, .ref ef, .ref cki, .int e_limit, .int e_fresh, .int e_firstFree, .int e_held, .int e_mostHeld, .int e_made, .int e_reused, .int e_freed, .int e_doubled])), (ek, .inl (e1, 4000, .inl f_1)), (ec, .inl (e2, 4000, .inl f_2)), (ef, .inl (e3, 12000, .inr (.inl lv_))), (cki, .inr (4, [.ref kw, .ref kf, .int z])), (kw, .inl (k1, 20, .inr (.inl gw))), (kf, .inl (k2, 20, .inl gf))]) [0, 1, 2, 3, 4, 5, 6] (by decide) rfl
      have hKc := hK.sub (tys' := [(e1, .int), (e2, .int), (e3, .long), (k1, .long), (k2, .int)]) [0, 1, 2, 3, 4] rfl
      have hFc := va_free (wc := [(h0, .inr (1, [.ref ek, .ref ec, .ref ef, .ref cki, .int e_limit, .int e_fresh, .int e_firstFree, .int e_held, .int e_mostHeld, .int e_made, .int e_reused, .int e_freed, .int e_doubled])), (ek, .inl (e1, 4000, .inl f_1)), (ec, .inl (e2, 4000, .inl f_2)), (ef, .inl (e3, 12000, .inr (.inl lv_))), (cki, .inr (4, [.ref kw, .ref kf, .int z])), (kw, .inl (k1, 20, .inr (.inl gw))), (kf, .inl (k2, 20, .inl gf))]) hD hS hAA [0, 1, 2, 3, 4, 5, 6] rfl
      refine va_calli (va_runV (As := [.int ce]) (rest := [.int i]) ⟨hx, hb, hml, hown, hA⟩ (c_X1_width_x4000 l dC dI aK aV h0 ek ec ef cki e1 e2 e3 e_limit e_fresh e_firstFree e_held e_mostHeld e_made e_reused e_freed e_doubled f_1 f_2 lv_ kw kf k1 k2 z gw gf ce H.size (by omega) (by omega) hgf (by omega) (by omega)) (cwV 1 hA (zw_V wi_1150 wi_1151 wi_1152 wi_140 (zw_good wi_1153)) rfl rfl rfl (by decide +kernel) ⟨(Nat.le_of_ble_eq_true rfl), (Nat.le_of_ble_eq_true rfl)⟩) ⟨zP_blind, va_recv hKc hPc (ci := 1) (q0 := 0) rfl rfl, zz_pre hKc hPc hDc hN hT hS hFc⟩ rfl rfl hl.1 rfl (lv_room (Nat.le_of_ble_eq_true rfl)) dX1_fill_21 ⟨(Nat.le_of_ble_eq_true rfl), (Nat.le_of_ble_eq_true rfl)⟩) hS (fun q _ h => hFc q h) hFc (fun r_3 u t H1 locs ht hvm hw hB hz1 hk1 hS => ?_)
      obtain ⟨hP1, hK1, hD1⟩ := hB
      rw [ht] at hP1
      have hK1 := va_K.moved hvm.symm hK1
      obtain ⟨hP, hD⟩ := va_join (wr := [(sk, .inl (sk1, 22424, .inr (.inl gst)))]) (w1 := [(h0, .inr (1, [.ref ek, .ref ec, .ref ef, .ref cki, .int e_limit, .int e_fresh, .int e_firstFree, .int e_held, .int e_mostHeld, .int e_made, .int e_reused, .int e_freed, .int e_doubled])), (ek, .inl (e1, 4000, .inl f_1)), (ec, .inl (e2, 4000, .inl f_2)), (ef, .inl (e3, 12000, .inr (.inl lv_))), (cki, .inr (4, [.ref kw, .ref kf, .int z])), (kw, .inl (k1, 20, .inr (.inl gw))), (kf, .inl (k2, 20, .inl gf))]) hP hD [0, 1, 2, 3, 4, 5, 6] [7] rfl rfl (by decide) (by decide) hk1 hFc hP1 hD1
      have hK := (hK.sub (tys' := [(sk1, .long)]) [5] rfl).app hK1
      generalize H1 = H at hP hS ⊢
      have hP : va_P (dC, dI) vwCl [(sk, .inl (sk1, 22424, .inr (.inl gst))), (h0, .inr (1, [.ref ek, .ref ec, .ref ef, .ref cki, .int e_limit, .int e_fresh, .int e_firstFree, .int e_held, .int e_mostHeld, .int e_made, .int e_reused, .int e_freed, .int e_doubled])), (ek, .inl (e1, 4000, .inl f_1)), (ec, .inl (e2, 4000, .inl f_2)), (ef, .inl (e3, 12000, .inr (.inl lv_))), (cki, .inr (4, [.ref kw, .ref kf, .int z])), (kw, .inl (k1, 20, .inr (.inl gw))), (kf, .inl (k2, 20, .inl gf))] H := hP
      have hD : va_D A [(sk, .inl (sk1, 22424, .inr (.inl gst))), (h0, .inr (1, [.ref ek, .ref ec, .ref ef, .ref cki, .int e_limit, .int e_fresh, .int e_firstFree, .int e_held, .int e_mostHeld, .int e_made, .int e_reused, .int e_freed, .int e_doubled])), (ek, .inl (e1, 4000, .inl f_1)), (ec, .inl (e2, 4000, .inl f_2)), (ef, .inl (e3, 12000, .inr (.inl lv_))), (cki, .inr (4, [.ref kw, .ref kf, .int z])), (kw, .inl (k1, 20, .inr (.inl gw))), (kf, .inl (k2, 20, .inl gf))] := hD
      have hK : va_K (dC, dI) vwCl [(sk1, .long), (e1, .int), (e2, .int), (e3, .long), (k1, .long), (k2, .int)] s := hK
      have hw_r_3 := hw
      try dsimp only at hw_r_3
      obtain ⟨hq_4, hq_5, hq_6⟩ := hw
      have hwr9 : r_3.toInt = zfk z gf ok := by rw [hq_6, hok9]
      refine lv_icmp_ge (tgt := 51) hx hb dX1_fill_24 (by decide) (fun c_7 => ?_) (fun c_7 => ?_)
      · have ic_7 : r_3.toInt ≤ i.toInt := zi_le c_7
        have hP9 := hP.sub (ws' := [(h0, .inr (1, [.ref ek, .ref ec, .ref ef, .ref cki, .int e_limit, .int e_fresh, .int e_firstFree, .int e_held, .int e_mostHeld, .int e_made, .int e_reused, .int e_freed, .int e_doubled])), (ek, .inl (e1, 4000, .inl f_1)), (ec, .inl (e2, 4000, .inl f_2)), (ef, .inl (e3, 12000, .inr (.inl lv_))), (cki, .inr (4, [.ref kw, .ref kf, .int z])), (kw, .inl (k1, 20, .inr (.inl gw))), (kf, .inl (k2, 20, .inl gf)), (sk, .inl (sk1, 22424, .inr (.inl gst)))]) [1, 2, 3, 4, 5, 6, 7, 0] rfl
        have hD9 := hD.sub (ws' := [(h0, .inr (1, [.ref ek, .ref ec, .ref ef, .ref cki, .int e_limit, .int e_fresh, .int e_firstFree, .int e_held, .int e_mostHeld, .int e_made, .int e_reused, .int e_freed, .int e_doubled])), (ek, .inl (e1, 4000, .inl f_1)), (ec, .inl (e2, 4000, .inl f_2)), (ef, .inl (e3, 12000, .inr (.inl lv_))), (cki, .inr (4, [.ref kw, .ref kf, .int z])), (kw, .inl (k1, 20, .inr (.inl gw))), (kf, .inl (k2, 20, .inl gf)), (sk, .inl (sk1, 22424, .inr (.inl gst)))]) [1, 2, 3, 4, 5, 6, 7, 0] (by decide) rfl
        have hK9 := hK.sub (tys' := [(e1, .int), (e2, .int), (e3, .long), (k1, .long), (k2, .int), (sk1, .long)]) [1, 2, 3, 4, 5, 0] rfl
        exact W.vret hx hb hr (fun t ht hW => ⟨⟨(f_1, f_2, lv_), rfl, ⟨ef_1, ef_2, (by have h8 := hzfw; have h7 := zn_nat (x := i) (by omega); exact ⟨fun k hk => h8.1 k (by omega), h8.2⟩)⟩, by rw [ht]; exact hP9, va_K.moved hW.alike hK9, hD9⟩, hS.F ht⟩) hS.2.2 dX1_fill_51
      · have ic_7 : i.toInt < r_3.toInt := zi_nle c_7
        refine lv_aload_n hx hb dX1_fill_27 rfl (lv_at hl 1 rfl) ?_
        refine va_get (D := (dC, dI)) (ci := 1) (v := .ref ef) (C := RX1) (T := TX1) (N := 13) hx hb hA zin_X1 hown hK hP 1 rfl rfl 2 (by decide) (hA _ wi_438) (fun _ h9 => h9) rfl dX1_fill_28 ?_
        refine lv_iload_n hx hb dX1_fill_31 rfl (lv_at hl 2 rfl) ?_
        refine lv_iconst (v := 3) hx hb dX1_fill_32 (by decide) ?_
        refine lv_imul hx hb dX1_fill_33 ?_
        refine lv_topi (fun x_8 ex_8 => ?_)
        have ix_8 : x_8.toInt = ce.toInt * 3 := by rw [ex_8]; exact zi_mulc (by decide) (by omega) (by omega)
        refine lv_iload hx hb dX1_fill_34 (lv_at hl 0 rfl) ?_
        refine lv_iadd hx hb dX1_fill_36 ?_
        refine lv_topi (fun x_9 ex_9 => ?_)
        have ix_9 : x_9.toInt = x_8.toInt + i.toInt := by rw [ex_9]; exact zi_addc rfl (by omega) (by omega)
        refine lv_aload_n hx hb dX1_fill_37 rfl (lv_at hl 4 rfl) ?_
        refine lv_iload hx hb dX1_fill_38 (lv_at hl 5 rfl) ?_
        refine lv_iload hx hb dX1_fill_40 (lv_at hl 0 rfl) ?_
        refine lv_iadd hx hb dX1_fill_42 ?_
        refine lv_topi (fun x_10 ex_10 => ?_)
        have ix_10 : x_10.toInt = fi.toInt + i.toInt := by rw [ex_10]; exact zi_addc rfl (by omega) (by omega)
        refine va_lald hx hb hK hP 0 0 rfl rfl (vp_in_iff.mpr ⟨by omega, by omega⟩) dX1_fill_43 ?_
        refine lv_topl (fun x_11 ex_11 => ?_)
        refine va_last hx hb hK hP hD hS 4 3 rfl rfl (vp_in_iff.mpr ⟨by omega, by omega⟩) dX1_fill_44 (fun H locs hP hD hS => ?_)
        obtain ⟨f_12, ef_12⟩ : ∃ gz9 : Nat → Int64, gz9 = vp_updL lv_ (Int32.toNatClampNeg x_9) x_11 := ⟨_, rfl⟩
        rw [← ef_12] at hP hD
        have hP : va_P (dC, dI) vwCl [(sk, .inl (sk1, 22424, .inr (.inl gst))), (h0, .inr (1, [.ref ek, .ref ec, .ref ef, .ref cki, .int e_limit, .int e_fresh, .int e_firstFree, .int e_held, .int e_mostHeld, .int e_made, .int e_reused, .int e_freed, .int e_doubled])), (ek, .inl (e1, 4000, .inl f_1)), (ec, .inl (e2, 4000, .inl f_2)), (ef, .inl (e3, 12000, .inr (.inl f_12))), (cki, .inr (4, [.ref kw, .ref kf, .int z])), (kw, .inl (k1, 20, .inr (.inl gw))), (kf, .inl (k2, 20, .inl gf))] H := hP
        have hD : va_D A [(sk, .inl (sk1, 22424, .inr (.inl gst))), (h0, .inr (1, [.ref ek, .ref ec, .ref ef, .ref cki, .int e_limit, .int e_fresh, .int e_firstFree, .int e_held, .int e_mostHeld, .int e_made, .int e_reused, .int e_freed, .int e_doubled])), (ek, .inl (e1, 4000, .inl f_1)), (ec, .inl (e2, 4000, .inl f_2)), (ef, .inl (e3, 12000, .inr (.inl f_12))), (cki, .inr (4, [.ref kw, .ref kf, .int z])), (kw, .inl (k1, 20, .inr (.inl gw))), (kf, .inl (k2, 20, .inl gf))] := hD
        obtain ⟨x_13, ex_13⟩ : ∃ y : Int32, y = i + Int32.ofInt 1 := ⟨_, rfl⟩
        refine lv_iinc (v := x_13) (lv' := [(5, .int x_13), (0, .ref h0), (1, .int ce), (2, .int ok), (3, .ref sk), (4, .int fi)]) hx hb dX1_fill_45 hl (k := 0) rfl (by rw [ex_13]) (by decide) rfl (fun ls hl => ?_)
        have ix_13 : x_13.toInt = i.toInt + 1 := by rw [ex_13]; exact zi_addc (by decide) (by omega) (by omega)
        refine lv_goto (tgt := 17) hx hb dX1_fill_48 (by decide) ?_
        have hzf_14 : zfw gv f_12 (Int32.toNatClampNeg ce) gst (Int32.toNatClampNeg fi) (Int32.toNatClampNeg x_13) := zfw_s hzfw ef_12 (zn_3 (i := ce) (w := i) (by omega) (by omega) (by omega)) (by rw [ex_11]; exact congrArg gst (by have := zn_nat (x := x_10) (by omega); have := zn_nat (x := fi) (by omega); have := zn_nat (x := i) (by omega); omega)) (by have := zn_nat (x := i) (by omega); omega) (by have := zn_nat (x := i) (by omega); have := zn_nat (x := x_13) (by omega); omega)
        exact ih x_13 f_12 _ _ _ (by omega) (by omega) (by omega) hzf_14 (hP.sub [1, 2, 3, 4, 5, 6, 7, 0] rfl) (hD.sub [1, 2, 3, 4, 5, 6, 7, 0] (by decide) rfl) hS (lv_sub hl [0, 1, 2, 3, 4, 5] rfl)
  have hzf_15 : zfw gv gv (Int32.toNatClampNeg ce) gst (Int32.toNatClampNeg fi) (Int32.toNatClampNeg 0) := zfw_0 (by decide)
  exact loop_17 _ 0 gv _ _ _ (Nat.le_refl _) (by have h9_0 : Int32.toInt 0 = 0 := (by decide); omega) (by have h9_0 : Int32.toInt 0 = 0 := (by decide); omega) hzf_15 (hP.sub [0, 1, 2, 3, 4, 5, 6, 7] rfl) (hD.sub [0, 1, 2, 3, 4, 5, 6, 7] (by decide) rfl) hS (lv_sub hl [0, 1, 2, 3, 4, 5] rfl)
