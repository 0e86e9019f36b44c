section
/-! the house: what its calls leave -/
theorem zMD_0 {n : Nat} {kz fr ff he db sn : Int32} {kf gk gc : Nat → Int32} {gv : Nat → Int64} {st : Nat → Int64} {p : Nat → Bool} {sh : Nat → Int32} (h : ∀ j, p j = true → j < n ∧ zhs (st j) = 0) (e1 : fr.toInt = 0) (e2 : ff.toInt = -1) (e3 : he.toInt = 0) (e4 : db.toInt = 0) (e5 : sn.toInt = 0) : zMD n kz kf gk gc gv fr ff he db st p sh sn := by
  have hn := zn_nat (x := fr) (by omega)
  have hR : ∀ c, zRS n st p c = 0 := fun c => zs_z (fun d _ => by
    show (if p d = true then zr (st d) c else 0) = 0
    by_cases g : p d = true
    · rw [if_pos g]; exact zr_n (fun u => absurd ((h d g).2.symm.trans u) (by decide))
    · rw [if_neg g])
  have e0 : Int32.toNatClampNeg fr = 0 := by omega
  refine ⟨fun _ => false, [], ⟨⟨fun c hc => Bool.noConfusion hc, fun c _ => ⟨?_, ?_⟩, fun c => ?_⟩, by omega, by omega, by omega, fun c => ?_, e2, (show (-1 : Int32).toInt = -1 by decide), List.nodup_nil, fun c hc => (nomatch hc), by show he.toInt + ((0 : Nat) : Int) = fr.toInt; omega, fun d hd => hd.elim (fun u => Bool.noConfusion u) (fun u => (nomatch u))⟩, fun c hc => Bool.noConfusion hc, fun j hj => ⟨(h j hj).1, fun g => absurd ((h j hj).2.symm.trans g) (by decide), fun g => absurd (h j hj).2 g⟩, ⟨fun i hi => by omega, fun i j _ hj => by omega⟩, fun _ => Int.le_refl _⟩
  · show zRS n st p c + 0 + 0 = 0
    rw [hR c]; rfl
  · rw [e0]; rfl
  · show 0 ≤ zRS n st p c + 0 + 0
    rw [hR c]; decide
  · show 0 ≤ zRS n st p c + 0
    rw [hR c]; decide
theorem zMP_0 {n : Nat} {kz fr sn : Int32} {kf gk : Nat → Int32} {gv : Nat → Int64} {st : Nat → Int64} {p : Nat → Bool} {sh : Nat → Int32} (h : ∀ j, p j = true → j < n ∧ zhs (st j) = 0) (e1 : fr.toInt = 0) (e5 : sn.toInt = 0) : zMP n kz kf gk gv fr st p sh sn :=
  ⟨fun j hj => ⟨(h j hj).1, ⟨fun g => absurd ((h j hj).2.symm.trans g) (by decide), fun g => absurd (h j hj).2 g⟩, fun g => absurd ((h j hj).2.symm.trans g) (by decide)⟩, fun c hc => by omega, fun i hi => by omega⟩
/-- the names told, as they lie on the stack -/
theorem zti_s {gs gs2 : Nat → Int64} {i i2 t : Nat} {v : Int64} (h : ∀ k, k < i → zhs (gs k) = 0) (e : gs2 = vp_updL gs t v) (et : t = i) (hv : zhs v = 0) (ei : i2 = i + 1) : ∀ k, k < i2 → zhs (gs2 k) = 0 := fun k hk => by
  rw [e]
  by_cases g : k = t
  · rw [g, zul_s]; exact hv
  · rw [zul_n g]; exact h k (by omega)

end
section
theorem wi_309 : Cond.fieldLink RX5 71 "ReuseHouse$Program" "code" "LReuseHouse$Code;" ∈ zw := zw_in (List.mem_of_getElem? (i := 309) (by decide +kernel)) (by decide +kernel)
theorem wi_586 : Cond.fieldLink RX11 20 "ReuseHouse" "taken" "LReuseHouse$Program;" ∈ zw := zw_in (List.mem_of_getElem? (i := 586) (by decide +kernel)) (by decide +kernel)
theorem wi_321 : Cond.fieldLink RX11 102 "ReuseHouse$Program" "functions" "LReuseHouse$Functions;" ∈ zw := zw_in (List.mem_of_getElem? (i := 321) (by decide +kernel)) (by decide +kernel)
theorem wi_1078 : Cond.methodLink RX11 111 yX3_has ∈ zw := zw_in (List.mem_of_getElem? (i := 1078) (by decide +kernel)) (by decide +kernel)
theorem wi_1079 : Cond.methodLink RX11 115 yX3_fact ∈ zw := zw_in (List.mem_of_getElem? (i := 1079) (by decide +kernel)) (by decide +kernel)
theorem wi_588 : Cond.fieldLink RX11 36 "ReuseHouse" "machine" "LReuseHouse$Machine;" ∈ zw := zw_in (List.mem_of_getElem? (i := 588) (by decide +kernel)) (by decide +kernel)
theorem wi_1101 : Cond.methodLink RX11 157 yX1_ofInt ∈ zw := zw_in (List.mem_of_getElem? (i := 1101) (by decide +kernel)) (by decide +kernel)
theorem wi_1105 : Cond.methodLink RX11 161 yX5_push ∈ zw := zw_in (List.mem_of_getElem? (i := 1105) (by decide +kernel)) (by decide +kernel)
theorem dX11_mayWork_0 : decode cX11_mayWork 0 = .ok (.aload_n 0, 1) := by decide +kernel
theorem dX11_mayWork_1 : decode cX11_mayWork 1 = .ok (.getfield 20, 3) := by decide +kernel
theorem dX11_mayWork_4 : decode cX11_mayWork 4 = .ok (.getfield 102, 3) := by decide +kernel
theorem dX11_mayWork_7 : decode cX11_mayWork 7 = .ok (.iload_n 1, 1) := by decide +kernel
theorem dX11_mayWork_8 : decode cX11_mayWork 8 = .ok (.invokevirtual 111, 3) := by decide +kernel
theorem dX11_mayWork_11 : decode cX11_mayWork 11 = .ok (.ifCond .eq 18, 3) := by decide +kernel
theorem dX11_mayWork_14 : decode cX11_mayWork 14 = .ok (.iload_n 2, 1) := by decide +kernel
theorem dX11_mayWork_15 : decode cX11_mayWork 15 = .ok (.ifCond .lt 14, 3) := by decide +kernel
theorem dX11_mayWork_18 : decode cX11_mayWork 18 = .ok (.iload_n 2, 1) := by decide +kernel
theorem dX11_mayWork_19 : decode cX11_mayWork 19 = .ok (.sipush 20000, 3) := by decide +kernel
theorem dX11_mayWork_22 : decode cX11_mayWork 22 = .ok (.if_icmp .gt 7, 3) := by decide +kernel
theorem dX11_mayWork_25 : decode cX11_mayWork 25 = .ok (.iconst 1, 1) := by decide +kernel
theorem dX11_mayWork_26 : decode cX11_mayWork 26 = .ok (.goto 4, 3) := by decide +kernel
theorem dX11_mayWork_29 : decode cX11_mayWork 29 = .ok (.iconst 0, 1) := by decide +kernel
theorem dX11_mayWork_30 : decode cX11_mayWork 30 = .ok (.ireturn, 1) := by decide +kernel
theorem dX11_tellInts_0 : decode cX11_tellInts 0 = .ok (.aload_n 0, 1) := by decide +kernel
theorem dX11_tellInts_1 : decode cX11_tellInts 1 = .ok (.getfield 20, 3) := by decide +kernel
theorem dX11_tellInts_4 : decode cX11_tellInts 4 = .ok (.getfield 102, 3) := by decide +kernel
theorem dX11_tellInts_7 : decode cX11_tellInts 7 = .ok (.iload_n 1, 1) := by decide +kernel
theorem dX11_tellInts_8 : decode cX11_tellInts 8 = .ok (.iconst 0, 1) := by decide +kernel
theorem dX11_tellInts_9 : decode cX11_tellInts 9 = .ok (.invokevirtual 115, 3) := by decide +kernel
theorem dX11_tellInts_12 : decode cX11_tellInts 12 = .ok (.istore 6, 2) := by decide +kernel
theorem dX11_tellInts_14 : decode cX11_tellInts 14 = .ok (.iconst 0, 1) := by decide +kernel
theorem dX11_tellInts_15 : decode cX11_tellInts 15 = .ok (.istore 7, 2) := by decide +kernel
theorem dX11_tellInts_17 : decode cX11_tellInts 17 = .ok (.iload 7, 2) := by decide +kernel
theorem dX11_tellInts_19 : decode cX11_tellInts 19 = .ok (.iload 6, 2) := by decide +kernel
theorem dX11_tellInts_21 : decode cX11_tellInts 21 = .ok (.if_icmp .ge 65, 3) := by decide +kernel
theorem dX11_tellInts_24 : decode cX11_tellInts 24 = .ok (.iload 7, 2) := by decide +kernel
theorem dX11_tellInts_26 : decode cX11_tellInts 26 = .ok (.ifCond .ne 7, 3) := by decide +kernel
theorem dX11_tellInts_29 : decode cX11_tellInts 29 = .ok (.iload_n 2, 1) := by decide +kernel
theorem dX11_tellInts_30 : decode cX11_tellInts 30 = .ok (.goto 36, 3) := by decide +kernel
theorem dX11_tellInts_33 : decode cX11_tellInts 33 = .ok (.iload 7, 2) := by decide +kernel
theorem dX11_tellInts_35 : decode cX11_tellInts 35 = .ok (.iconst 1, 1) := by decide +kernel
theorem dX11_tellInts_36 : decode cX11_tellInts 36 = .ok (.if_icmp .ne 7, 3) := by decide +kernel
theorem dX11_tellInts_39 : decode cX11_tellInts 39 = .ok (.iload_n 3, 1) := by decide +kernel
theorem dX11_tellInts_40 : decode cX11_tellInts 40 = .ok (.goto 26, 3) := by decide +kernel
theorem dX11_tellInts_43 : decode cX11_tellInts 43 = .ok (.iload 7, 2) := by decide +kernel
theorem dX11_tellInts_45 : decode cX11_tellInts 45 = .ok (.iconst 2, 1) := by decide +kernel
theorem dX11_tellInts_46 : decode cX11_tellInts 46 = .ok (.if_icmp .ne 8, 3) := by decide +kernel
theorem dX11_tellInts_49 : decode cX11_tellInts 49 = .ok (.iload 4, 2) := by decide +kernel
theorem dX11_tellInts_51 : decode cX11_tellInts 51 = .ok (.goto 15, 3) := by decide +kernel
theorem dX11_tellInts_54 : decode cX11_tellInts 54 = .ok (.iload 7, 2) := by decide +kernel
theorem dX11_tellInts_56 : decode cX11_tellInts 56 = .ok (.iconst 3, 1) := by decide +kernel
theorem dX11_tellInts_57 : decode cX11_tellInts 57 = .ok (.if_icmp .ne 8, 3) := by decide +kernel
theorem dX11_tellInts_60 : decode cX11_tellInts 60 = .ok (.iload 5, 2) := by decide +kernel
theorem dX11_tellInts_62 : decode cX11_tellInts 62 = .ok (.goto 4, 3) := by decide +kernel
theorem dX11_tellInts_65 : decode cX11_tellInts 65 = .ok (.iconst 0, 1) := by decide +kernel
theorem dX11_tellInts_66 : decode cX11_tellInts 66 = .ok (.istore 8, 2) := by decide +kernel
theorem dX11_tellInts_68 : decode cX11_tellInts 68 = .ok (.aload_n 0, 1) := by decide +kernel
theorem dX11_tellInts_69 : decode cX11_tellInts 69 = .ok (.getfield 36, 3) := by decide +kernel
theorem dX11_tellInts_72 : decode cX11_tellInts 72 = .ok (.iload 8, 2) := by decide +kernel
theorem dX11_tellInts_74 : decode cX11_tellInts 74 = .ok (.invokestatic 157, 3) := by decide +kernel
theorem dX11_tellInts_77 : decode cX11_tellInts 77 = .ok (.invokevirtual 161, 3) := by decide +kernel
theorem dX11_tellInts_80 : decode cX11_tellInts 80 = .ok (.iinc 7 1, 3) := by decide +kernel
theorem dX11_tellInts_83 : decode cX11_tellInts 83 = .ok (.goto (-66), 3) := by decide +kernel
theorem dX11_tellInts_86 : decode cX11_tellInts 86 = .ok (.return_, 1) := by decide +kernel
theorem dX5_begin_0 : decode cX5_begin 0 = .ok (.aload_n 0, 1) := by decide +kernel
theorem dX5_begin_1 : decode cX5_begin 1 = .ok (.aload_n 1, 1) := by decide +kernel
theorem dX5_begin_2 : decode cX5_begin 2 = .ok (.putfield 67, 3) := by decide +kernel
theorem dX5_begin_5 : decode cX5_begin 5 = .ok (.aload_n 0, 1) := by decide +kernel
theorem dX5_begin_6 : decode cX5_begin 6 = .ok (.aload_n 1, 1) := by decide +kernel
theorem dX5_begin_7 : decode cX5_begin 7 = .ok (.getfield 71, 3) := by decide +kernel
theorem dX5_begin_10 : decode cX5_begin 10 = .ok (.putfield 77, 3) := by decide +kernel
theorem dX5_begin_13 : decode cX5_begin 13 = .ok (.aload_n 0, 1) := by decide +kernel
theorem dX5_begin_14 : decode cX5_begin 14 = .ok (.aload_n 2, 1) := by decide +kernel
theorem dX5_begin_15 : decode cX5_begin 15 = .ok (.putfield 83, 3) := by decide +kernel
theorem dX5_begin_18 : decode cX5_begin 18 = .ok (.aload_n 0, 1) := by decide +kernel
theorem dX5_begin_19 : decode cX5_begin 19 = .ok (.iload_n 3, 1) := by decide +kernel
theorem dX5_begin_20 : decode cX5_begin 20 = .ok (.putfield 9, 3) := by decide +kernel
theorem dX5_begin_23 : decode cX5_begin 23 = .ok (.aload_n 0, 1) := by decide +kernel
theorem dX5_begin_24 : decode cX5_begin 24 = .ok (.iload 4, 2) := by decide +kernel
theorem dX5_begin_26 : decode cX5_begin 26 = .ok (.putfield 48, 3) := by decide +kernel
theorem dX5_begin_29 : decode cX5_begin 29 = .ok (.aload_n 0, 1) := by decide +kernel
theorem dX5_begin_30 : decode cX5_begin 30 = .ok (.iconst 0, 1) := by decide +kernel
theorem dX5_begin_31 : decode cX5_begin 31 = .ok (.putfield 19, 3) := by decide +kernel
theorem dX5_begin_34 : decode cX5_begin 34 = .ok (.aload_n 0, 1) := by decide +kernel
theorem dX5_begin_35 : decode cX5_begin 35 = .ok (.iconst 0, 1) := by decide +kernel
theorem dX5_begin_36 : decode cX5_begin 36 = .ok (.putfield 23, 3) := by decide +kernel
theorem dX5_begin_39 : decode cX5_begin 39 = .ok (.aload_n 0, 1) := by decide +kernel
theorem dX5_begin_40 : decode cX5_begin 40 = .ok (.iconst 0, 1) := by decide +kernel
theorem dX5_begin_41 : decode cX5_begin 41 = .ok (.putfield 36, 3) := by decide +kernel
theorem dX5_begin_44 : decode cX5_begin 44 = .ok (.aload_n 0, 1) := by decide +kernel
theorem dX5_begin_45 : decode cX5_begin 45 = .ok (.iconst 0, 1) := by decide +kernel
theorem dX5_begin_46 : decode cX5_begin 46 = .ok (.putfield 42, 3) := by decide +kernel
theorem dX5_begin_49 : decode cX5_begin 49 = .ok (.aload_n 0, 1) := by decide +kernel
theorem dX5_begin_50 : decode cX5_begin 50 = .ok (.iconst 0, 1) := by decide +kernel
theorem dX5_begin_51 : decode cX5_begin 51 = .ok (.putfield 51, 3) := by decide +kernel
theorem dX5_begin_54 : decode cX5_begin 54 = .ok (.aload_n 0, 1) := by decide +kernel
theorem dX5_begin_55 : decode cX5_begin 55 = .ok (.iconst 0, 1) := by decide +kernel
theorem dX5_begin_56 : decode cX5_begin 56 = .ok (.putfield 54, 3) := by decide +kernel
theorem dX5_begin_59 : decode cX5_begin 59 = .ok (.aload_n 0, 1) := by decide +kernel
theorem dX5_begin_60 : decode cX5_begin 60 = .ok (.iconst 0, 1) := by decide +kernel
theorem dX5_begin_61 : decode cX5_begin 61 = .ok (.putfield 57, 3) := by decide +kernel
theorem dX5_begin_64 : decode cX5_begin 64 = .ok (.aload_n 0, 1) := by decide +kernel
theorem dX5_begin_65 : decode cX5_begin 65 = .ok (.iconst (-1), 1) := by decide +kernel
theorem dX5_begin_66 : decode cX5_begin 66 = .ok (.putfield 60, 3) := by decide +kernel
theorem dX5_begin_69 : decode cX5_begin 69 = .ok (.aload_n 0, 1) := by decide +kernel
theorem dX5_begin_70 : decode cX5_begin 70 = .ok (.lconst 0, 1) := by decide +kernel
theorem dX5_begin_71 : decode cX5_begin 71 = .ok (.putfield 63, 3) := by decide +kernel
theorem dX5_begin_74 : decode cX5_begin 74 = .ok (.return_, 1) := by decide +kernel
set_option maxHeartbeats 4000000 in
set_option maxRecDepth 100000 in
theorem c_X5_begin_0 (l : Launch) (dC : Nat → ClassId) (dI : Nat → Nat → Nat) (aK aV : Nat → Nat) (h0 : Nat) (m_p : Nat) (m_c : Nat) (m_e : Nat) (sk : Nat) (kb : Nat) (kk : Nat) (ks : Nat) (sh : Nat) (mcn : Int32) (tp : Int32) (ba : Int32) (on : Int32) (sn : Int32) (mat : Int32) (alw : Int32) (st : Int32) (mo : Int32) (mh : Int32) (sp : Int32) (re : Int64) (po : Nat) (gco : Nat) (gar : Nat) (gki : Nat) (gfu : Nat) (ce : Nat) (ms_ : Int32) (sz : Nat)  : Met l yX5_begin (Cond.code yX5_begin cX5_begin 5 none :: zw) ({ frames := 8, cells := 0, slots := 0, locals := 200 }) (va_Pc [.ref h0, .ref po, .ref ce, .int 0, .int ms_] (zP dC dI aK aV sz [] [(h0, .inr (5, [.ref m_p, .ref m_c, .ref m_e, .int mcn, .ref sk, .int tp, .int ba, .ref kb, .ref kk, .ref ks, .int on, .ref sh, .int sn, .int mat, .int alw, .int st, .int mo, .int mh, .int sp, .long re])), (po, .inr (9, [.ref gco, .ref gar, .ref gki, .ref gfu]))])) (va_Qv (fun u : Unit => True) (fun u => zQ dC dI (va_A [(h0, .inr (5, [.ref m_p, .ref m_c, .ref m_e, .int mcn, .ref sk, .int tp, .int ba, .ref kb, .ref kk, .ref ks, .int on, .ref sh, .int sn, .int mat, .int alw, .int st, .int mo, .int mh, .int sp, .long re])), (po, .inr (9, [.ref gco, .ref gar, .ref gki, .ref gfu]))] sz) [] [(h0, .inr (5, [.ref po, .ref gco, .ref ce, .int 0, .ref sk, .int 0, .int 0, .ref kb, .ref kk, .ref ks, .int 0, .ref sh, .int 0, .int mat, .int ms_, .int 0, .int 0, .int 0, .int (-1), .long 0])), (po, .inr (9, [.ref gco, .ref gar, .ref gki, .ref gfu]))]) (va_A [(h0, .inr (5, [.ref m_p, .ref m_c, .ref m_e, .int mcn, .ref sk, .int tp, .int ba, .ref kb, .ref kk, .ref ks, .int on, .ref sh, .int sn, .int mat, .int alw, .int st, .int mo, .int mh, .int sp, .long re])), (po, .inr (9, [.ref gco, .ref gar, .ref gki, .ref gfu]))] sz)) 0 0 (va_A [(h0, .inr (5, [.ref m_p, .ref m_c, .ref m_e, .int mcn, .ref sk, .int tp, .int ba, .ref kb, .ref kk, .ref ks, .int on, .ref sh, .int sn, .int mat, .int alw, .int st, .int mo, .int mh, .int sp, .long re])), (po, .inr (9, [.ref gco, .ref gar, .ref gki, .ref gfu]))] sz) := by
  refine Met.ofW (cc := cX5_begin) (maxL := 5) (ret := none) (by decide) rfl ?_
  intro p e s m args below meth c s₁ B hml hv
  obtain ⟨rfl, hsz, hP, hK, hD0, hN, hT⟩ := hv
  have hx := B.exec
  have hb := B.bytes
  have hr := B.returns
  have hts := atoms_spec (ws := Cond.code yX5_begin cX5_begin 5 none :: zw) B.pre
  have hA : ∀ w ∈ zw, w.before _ s = true := fun w h => hts w (List.mem_cons_of_mem _ h)
  have hown : s.vm.findClass RX5 = some m.cls := findClass_of_methodNamed B.named
  have hlocks := B.notSynchronized
  subst hsz
  have hD := hD0.self (sz := s.heap.size)
  generalize hAe : va_A [(h0, .inr (5, [.ref m_p, .ref m_c, .ref m_e, .int mcn, .ref sk, .int tp, .int ba, .ref kb, .ref kk, .ref ks, .int on, .ref sh, .int sn, .int mat, .int alw, .int st, .int mo, .int mh, .int sp, .long re])), (po, .inr (9, [.ref gco, .ref gar, .ref gki, .ref gfu]))] s.heap.size = A at hD hT ⊢
  have hAA : ∀ q : Nat, s.heap.size ≤ q → A q := fun q h => by rw [← hAe]; exact Or.inr h
  have hS : va_S A s.heap s.heap [] := va_S.rf
  have hl := lv_entry ([.ref h0, .ref po, .ref ce, .int 0, .int ms_]) (n := 5) (Nat.le_of_ble_eq_true rfl)
  rw [lg_entry_eq]
  generalize (lg_sl ([.ref h0, .ref po, .ref ce, .int 0, .int ms_]) ++ List.replicate (5 - (lg_sl ([.ref h0, .ref po, .ref ce, .int 0, .int ms_])).length) Slot.unset).toArray = ls at hl ⊢
  have hl : lv_has ls 5 [(0, .ref h0), (1, .ref po), (2, .ref ce), (3, .int 0), (4, .int ms_)] := hl
  refine lv_aload_n hx hb dX5_begin_0 rfl (lv_at hl 0 rfl) ?_
  refine lv_aload_n hx hb dX5_begin_1 rfl (lv_at hl 1 rfl) ?_
  refine va_put (D := (dC, dI)) (ci := 5) (v := .ref po) (ty := .object "ReuseHouse$Program") (C := RX5) (T := TX5) (N := 20) hx hb hA zin_X5 tyX5 tyX5_ok nmX5 hown hK hP hD hS 0 rfl rfl 0 (by decide) (hA _ wi_484) (fun _ h9 => h9) rfl (by decide +kernel) rfl rfl (Nat.le_of_ble_eq_true rfl) dX5_begin_2 (fun H locs hP hD hS => ?_)
  have hP : va_P (dC, dI) vwCl [(h0, .inr (5, [.ref po, .ref m_c, .ref m_e, .int mcn, .ref sk, .int tp, .int ba, .ref kb, .ref kk, .ref ks, .int on, .ref sh, .int sn, .int mat, .int alw, .int st, .int mo, .int mh, .int sp, .long re])), (po, .inr (9, [.ref gco, .ref gar, .ref gki, .ref gfu]))] H := hP
  have hD : va_D A [(h0, .inr (5, [.ref po, .ref m_c, .ref m_e, .int mcn, .ref sk, .int tp, .int ba, .ref kb, .ref kk, .ref ks, .int on, .ref sh, .int sn, .int mat, .int alw, .int st, .int mo, .int mh, .int sp, .long re])), (po, .inr (9, [.ref gco, .ref gar, .ref gki, .ref gfu]))] := hD
  refine lv_aload_n hx hb dX5_begin_5 rfl (lv_at hl 0 rfl) ?_
  refine lv_aload_n hx hb dX5_begin_6 rfl (lv_at hl 1 rfl) ?_
  refine va_get (D := (dC, dI)) (ci := 9) (v := .ref gco) (C := RX9) (T := TX9) (N := 4) hx hb hA zin_X9 hown hK hP 1 rfl rfl 0 (by decide) (hA _ wi_309) (fun _ h9 => h9) rfl dX5_begin_7 ?_
  refine va_put (D := (dC, dI)) (ci := 5) (v := .ref gco) (ty := .object "ReuseHouse$Code") (C := RX5) (T := TX5) (N := 20) hx hb hA zin_X5 tyX5 tyX5_ok nmX5 hown hK hP hD hS 0 rfl rfl 1 (by decide) (hA _ wi_485) (fun _ h9 => h9) rfl (by decide +kernel) rfl rfl (Nat.le_of_ble_eq_true rfl) dX5_begin_10 (fun H locs hP hD hS => ?_)
  have hP : va_P (dC, dI) vwCl [(h0, .inr (5, [.ref po, .ref gco, .ref m_e, .int mcn, .ref sk, .int tp, .int ba, .ref kb, .ref kk, .ref ks, .int on, .ref sh, .int sn, .int mat, .int alw, .int st, .int mo, .int mh, .int sp, .long re])), (po, .inr (9, [.ref gco, .ref gar, .ref gki, .ref gfu]))] H := hP
  have hD : va_D A [(h0, .inr (5, [.ref po, .ref gco, .ref m_e, .int mcn, .ref sk, .int tp, .int ba, .ref kb, .ref kk, .ref ks, .int on, .ref sh, .int sn, .int mat, .int alw, .int st, .int mo, .int mh, .int sp, .long re])), (po, .inr (9, [.ref gco, .ref gar, .ref gki, .ref gfu]))] := hD
  refine lv_aload_n hx hb dX5_begin_13 rfl (lv_at hl 0 rfl) ?_
  refine lv_aload_n hx hb dX5_begin_14 rfl (lv_at hl 2 rfl) ?_
  refine va_put (D := (dC, dI)) (ci := 5) (v := .ref ce) (ty := .object "ReuseHouse$Cells") (C := RX5) (T := TX5) (N := 20) hx hb hA zin_X5 tyX5 tyX5_ok nmX5 hown hK hP hD hS 0 rfl rfl 2 (by decide) (hA _ wi_486) (fun _ h9 => h9) rfl (by decide +kernel) rfl rfl (Nat.le_of_ble_eq_true rfl) dX5_begin_15 (fun H locs hP hD hS => ?_)
  have hP : va_P (dC, dI) vwCl [(h0, .inr (5, [.ref po, .ref gco, .ref ce, .int mcn, .ref sk, .int tp, .int ba, .ref kb, .ref kk, .ref ks, .int on, .ref sh, .int sn, .int mat, .int alw, .int st, .int mo, .int mh, .int sp, .long re])), (po, .inr (9, [.ref gco, .ref gar, .ref gki, .ref gfu]))] H := hP
  have hD : va_D A [(h0, .inr (5, [.ref po, .ref gco, .ref ce, .int mcn, .ref sk, .int tp, .int ba, .ref kb, .ref kk, .ref ks, .int on, .ref sh, .int sn, .int mat, .int alw, .int st, .int mo, .int mh, .int sp, .long re])), (po, .inr (9, [.ref gco, .ref gar, .ref gki, .ref gfu]))] := hD
  refine lv_aload_n hx hb dX5_begin_18 rfl (lv_at hl 0 rfl) ?_
  refine lv_iload_n hx hb dX5_begin_19 rfl (lv_at hl 3 rfl) ?_
  refine va_put (D := (dC, dI)) (ci := 5) (v := .int 0) (ty := .boolean) (C := RX5) (T := TX5) (N := 20) hx hb hA zin_X5 tyX5 tyX5_ok nmX5 hown hK hP hD hS 0 rfl rfl 3 (by decide) (hA _ wi_487) (fun _ h9 => h9) rfl (by decide +kernel) rfl rfl (Nat.le_of_ble_eq_true rfl) dX5_begin_20 (fun H locs hP hD hS => ?_)
  have hP : va_P (dC, dI) vwCl [(h0, .inr (5, [.ref po, .ref gco, .ref ce, .int 0, .ref sk, .int tp, .int ba, .ref kb, .ref kk, .ref ks, .int on, .ref sh, .int sn, .int mat, .int alw, .int st, .int mo, .int mh, .int sp, .long re])), (po, .inr (9, [.ref gco, .ref gar, .ref gki, .ref gfu]))] H := hP
  have hD : va_D A [(h0, .inr (5, [.ref po, .ref gco, .ref ce, .int 0, .ref sk, .int tp, .int ba, .ref kb, .ref kk, .ref ks, .int on, .ref sh, .int sn, .int mat, .int alw, .int st, .int mo, .int mh, .int sp, .long re])), (po, .inr (9, [.ref gco, .ref gar, .ref gki, .ref gfu]))] := hD
  refine lv_aload_n hx hb dX5_begin_23 rfl (lv_at hl 0 rfl) ?_
  refine lv_iload hx hb dX5_begin_24 (lv_at hl 4 rfl) ?_
  refine va_put (D := (dC, dI)) (ci := 5) (v := .int ms_) (ty := .int) (C := RX5) (T := TX5) (N := 20) hx hb hA zin_X5 tyX5 tyX5_ok nmX5 hown hK hP hD hS 0 rfl rfl 14 (by decide) (hA _ wi_498) (fun _ h9 => h9) rfl (by decide +kernel) rfl rfl (Nat.le_of_ble_eq_true rfl) dX5_begin_26 (fun H locs hP hD hS => ?_)
  have hP : va_P (dC, dI) vwCl [(h0, .inr (5, [.ref po, .ref gco, .ref ce, .int 0, .ref sk, .int tp, .int ba, .ref kb, .ref kk, .ref ks, .int on, .ref sh, .int sn, .int mat, .int ms_, .int st, .int mo, .int mh, .int sp, .long re])), (po, .inr (9, [.ref gco, .ref gar, .ref gki, .ref gfu]))] H := hP
  have hD : va_D A [(h0, .inr (5, [.ref po, .ref gco, .ref ce, .int 0, .ref sk, .int tp, .int ba, .ref kb, .ref kk, .ref ks, .int on, .ref sh, .int sn, .int mat, .int ms_, .int st, .int mo, .int mh, .int sp, .long re])), (po, .inr (9, [.ref gco, .ref gar, .ref gki, .ref gfu]))] := hD
  refine lv_aload_n hx hb dX5_begin_29 rfl (lv_at hl 0 rfl) ?_
  refine lv_iconst (v := 0) hx hb dX5_begin_30 (by decide) ?_
  refine va_put (D := (dC, dI)) (ci := 5) (v := .int 0) (ty := .int) (C := RX5) (T := TX5) (N := 20) hx hb hA zin_X5 tyX5 tyX5_ok nmX5 hown hK hP hD hS 0 rfl rfl 5 (by decide) (hA _ wi_489) (fun _ h9 => h9) rfl (by decide +kernel) rfl rfl (Nat.le_of_ble_eq_true rfl) dX5_begin_31 (fun H locs hP hD hS => ?_)
  have hP : va_P (dC, dI) vwCl [(h0, .inr (5, [.ref po, .ref gco, .ref ce, .int 0, .ref sk, .int 0, .int ba, .ref kb, .ref kk, .ref ks, .int on, .ref sh, .int sn, .int mat, .int ms_, .int st, .int mo, .int mh, .int sp, .long re])), (po, .inr (9, [.ref gco, .ref gar, .ref gki, .ref gfu]))] H := hP
  have hD : va_D A [(h0, .inr (5, [.ref po, .ref gco, .ref ce, .int 0, .ref sk, .int 0, .int ba, .ref kb, .ref kk, .ref ks, .int on, .ref sh, .int sn, .int mat, .int ms_, .int st, .int mo, .int mh, .int sp, .long re])), (po, .inr (9, [.ref gco, .ref gar, .ref gki, .ref gfu]))] := hD
  refine lv_aload_n hx hb dX5_begin_34 rfl (lv_at hl 0 rfl) ?_
  refine lv_iconst (v := 0) hx hb dX5_begin_35 (by decide) ?_
  refine va_put (D := (dC, dI)) (ci := 5) (v := .int 0) (ty := .int) (C := RX5) (T := TX5) (N := 20) hx hb hA zin_X5 tyX5 tyX5_ok nmX5 hown hK hP hD hS 0 rfl rfl 6 (by decide) (hA _ wi_490) (fun _ h9 => h9) rfl (by decide +kernel) rfl rfl (Nat.le_of_ble_eq_true rfl) dX5_begin_36 (fun H locs hP hD hS => ?_)
  have hP : va_P (dC, dI) vwCl [(h0, .inr (5, [.ref po, .ref gco, .ref ce, .int 0, .ref sk, .int 0, .int 0, .ref kb, .ref kk, .ref ks, .int on, .ref sh, .int sn, .int mat, .int ms_, .int st, .int mo, .int mh, .int sp, .long re])), (po, .inr (9, [.ref gco, .ref gar, .ref gki, .ref gfu]))] H := hP
  have hD : va_D A [(h0, .inr (5, [.ref po, .ref gco, .ref ce, .int 0, .ref sk, .int 0, .int 0, .ref kb, .ref kk, .ref ks, .int on, .ref sh, .int sn, .int mat, .int ms_, .int st, .int mo, .int mh, .int sp, .long re])), (po, .inr (9, [.ref gco, .ref gar, .ref gki, .ref gfu]))] := hD
  refine lv_aload_n hx hb dX5_begin_39 rfl (lv_at hl 0 rfl) ?_
  refine lv_iconst (v := 0) hx hb dX5_begin_40 (by decide) ?_
  refine va_put (D := (dC, dI)) (ci := 5) (v := .int 0) (ty := .int) (C := RX5) (T := TX5) (N := 20) hx hb hA zin_X5 tyX5 tyX5_ok nmX5 hown hK hP hD hS 0 rfl rfl 10 (by decide) (hA _ wi_494) (fun _ h9 => h9) rfl (by decide +kernel) rfl rfl (Nat.le_of_ble_eq_true rfl) dX5_begin_41 (fun H locs hP hD hS => ?_)
  have hP : va_P (dC, dI) vwCl [(h0, .inr (5, [.ref po, .ref gco, .ref ce, .int 0, .ref sk, .int 0, .int 0, .ref kb, .ref kk, .ref ks, .int 0, .ref sh, .int sn, .int mat, .int ms_, .int st, .int mo, .int mh, .int sp, .long re])), (po, .inr (9, [.ref gco, .ref gar, .ref gki, .ref gfu]))] H := hP
  have hD : va_D A [(h0, .inr (5, [.ref po, .ref gco, .ref ce, .int 0, .ref sk, .int 0, .int 0, .ref kb, .ref kk, .ref ks, .int 0, .ref sh, .int sn, .int mat, .int ms_, .int st, .int mo, .int mh, .int sp, .long re])), (po, .inr (9, [.ref gco, .ref gar, .ref gki, .ref gfu]))] := hD
  refine lv_aload_n hx hb dX5_begin_44 rfl (lv_at hl 0 rfl) ?_
  refine lv_iconst (v := 0) hx hb dX5_begin_45 (by decide) ?_
  refine va_put (D := (dC, dI)) (ci := 5) (v := .int 0) (ty := .int) (C := RX5) (T := TX5) (N := 20) hx hb hA zin_X5 tyX5 tyX5_ok nmX5 hown hK hP hD hS 0 rfl rfl 12 (by decide) (hA _ wi_496) (fun _ h9 => h9) rfl (by decide +kernel) rfl rfl (Nat.le_of_ble_eq_true rfl) dX5_begin_46 (fun H locs hP hD hS => ?_)
  have hP : va_P (dC, dI) vwCl [(h0, .inr (5, [.ref po, .ref gco, .ref ce, .int 0, .ref sk, .int 0, .int 0, .ref kb, .ref kk, .ref ks, .int 0, .ref sh, .int 0, .int mat, .int ms_, .int st, .int mo, .int mh, .int sp, .long re])), (po, .inr (9, [.ref gco, .ref gar, .ref gki, .ref gfu]))] H := hP
  have hD : va_D A [(h0, .inr (5, [.ref po, .ref gco, .ref ce, .int 0, .ref sk, .int 0, .int 0, .ref kb, .ref kk, .ref ks, .int 0, .ref sh, .int 0, .int mat, .int ms_, .int st, .int mo, .int mh, .int sp, .long re])), (po, .inr (9, [.ref gco, .ref gar, .ref gki, .ref gfu]))] := hD
  refine lv_aload_n hx hb dX5_begin_49 rfl (lv_at hl 0 rfl) ?_
  refine lv_iconst (v := 0) hx hb dX5_begin_50 (by decide) ?_
  refine va_put (D := (dC, dI)) (ci := 5) (v := .int 0) (ty := .int) (C := RX5) (T := TX5) (N := 20) hx hb hA zin_X5 tyX5 tyX5_ok nmX5 hown hK hP hD hS 0 rfl rfl 15 (by decide) (hA _ wi_499) (fun _ h9 => h9) rfl (by decide +kernel) rfl rfl (Nat.le_of_ble_eq_true rfl) dX5_begin_51 (fun H locs hP hD hS => ?_)
  have hP : va_P (dC, dI) vwCl [(h0, .inr (5, [.ref po, .ref gco, .ref ce, .int 0, .ref sk, .int 0, .int 0, .ref kb, .ref kk, .ref ks, .int 0, .ref sh, .int 0, .int mat, .int ms_, .int 0, .int mo, .int mh, .int sp, .long re])), (po, .inr (9, [.ref gco, .ref gar, .ref gki, .ref gfu]))] H := hP
  have hD : va_D A [(h0, .inr (5, [.ref po, .ref gco, .ref ce, .int 0, .ref sk, .int 0, .int 0, .ref kb, .ref kk, .ref ks, .int 0, .ref sh, .int 0, .int mat, .int ms_, .int 0, .int mo, .int mh, .int sp, .long re])), (po, .inr (9, [.ref gco, .ref gar, .ref gki, .ref gfu]))] := hD
  refine lv_aload_n hx hb dX5_begin_54 rfl (lv_at hl 0 rfl) ?_
  refine lv_iconst (v := 0) hx hb dX5_begin_55 (by decide) ?_
  refine va_put (D := (dC, dI)) (ci := 5) (v := .int 0) (ty := .int) (C := RX5) (T := TX5) (N := 20) hx hb hA zin_X5 tyX5 tyX5_ok nmX5 hown hK hP hD hS 0 rfl rfl 16 (by decide) (hA _ wi_501) (fun _ h9 => h9) rfl (by decide +kernel) rfl rfl (Nat.le_of_ble_eq_true rfl) dX5_begin_56 (fun H locs hP hD hS => ?_)
  have hP : va_P (dC, dI) vwCl [(h0, .inr (5, [.ref po, .ref gco, .ref ce, .int 0, .ref sk, .int 0, .int 0, .ref kb, .ref kk, .ref ks, .int 0, .ref sh, .int 0, .int mat, .int ms_, .int 0, .int 0, .int mh, .int sp, .long re])), (po, .inr (9, [.ref gco, .ref gar, .ref gki, .ref gfu]))] H := hP
  have hD : va_D A [(h0, .inr (5, [.ref po, .ref gco, .ref ce, .int 0, .ref sk, .int 0, .int 0, .ref kb, .ref kk, .ref ks, .int 0, .ref sh, .int 0, .int mat, .int ms_, .int 0, .int 0, .int mh, .int sp, .long re])), (po, .inr (9, [.ref gco, .ref gar, .ref gki, .ref gfu]))] := hD
  refine lv_aload_n hx hb dX5_begin_59 rfl (lv_at hl 0 rfl) ?_
  refine lv_iconst (v := 0) hx hb dX5_begin_60 (by decide) ?_
  refine va_put (D := (dC, dI)) (ci := 5) (v := .int 0) (ty := .int) (C := RX5) (T := TX5) (N := 20) hx hb hA zin_X5 tyX5 tyX5_ok nmX5 hown hK hP hD hS 0 rfl rfl 17 (by decide) (hA _ wi_503) (fun _ h9 => h9) rfl (by decide +kernel) rfl rfl (Nat.le_of_ble_eq_true rfl) dX5_begin_61 (fun H locs hP hD hS => ?_)
  have hP : va_P (dC, dI) vwCl [(h0, .inr (5, [.ref po, .ref gco, .ref ce, .int 0, .ref sk, .int 0, .int 0, .ref kb, .ref kk, .ref ks, .int 0, .ref sh, .int 0, .int mat, .int ms_, .int 0, .int 0, .int 0, .int sp, .long re])), (po, .inr (9, [.ref gco, .ref gar, .ref gki, .ref gfu]))] H := hP
  have hD : va_D A [(h0, .inr (5, [.ref po, .ref gco, .ref ce, .int 0, .ref sk, .int 0, .int 0, .ref kb, .ref kk, .ref ks, .int 0, .ref sh, .int 0, .int mat, .int ms_, .int 0, .int 0, .int 0, .int sp, .long re])), (po, .inr (9, [.ref gco, .ref gar, .ref gki, .ref gfu]))] := hD
  refine lv_aload_n hx hb dX5_begin_64 rfl (lv_at hl 0 rfl) ?_
  refine lv_iconst (v := (-1)) hx hb dX5_begin_65 (by decide) ?_
  refine va_put (D := (dC, dI)) (ci := 5) (v := .int (-1)) (ty := .int) (C := RX5) (T := TX5) (N := 20) hx hb hA zin_X5 tyX5 tyX5_ok nmX5 hown hK hP hD hS 0 rfl rfl 18 (by decide) (hA _ wi_505) (fun _ h9 => h9) rfl (by decide +kernel) rfl rfl (Nat.le_of_ble_eq_true rfl) dX5_begin_66 (fun H locs hP hD hS => ?_)
  have hP : va_P (dC, dI) vwCl [(h0, .inr (5, [.ref po, .ref gco, .ref ce, .int 0, .ref sk, .int 0, .int 0, .ref kb, .ref kk, .ref ks, .int 0, .ref sh, .int 0, .int mat, .int ms_, .int 0, .int 0, .int 0, .int (-1), .long re])), (po, .inr (9, [.ref gco, .ref gar, .ref gki, .ref gfu]))] H := hP
  have hD : va_D A [(h0, .inr (5, [.ref po, .ref gco, .ref ce, .int 0, .ref sk, .int 0, .int 0, .ref kb, .ref kk, .ref ks, .int 0, .ref sh, .int 0, .int mat, .int ms_, .int 0, .int 0, .int 0, .int (-1), .long re])), (po, .inr (9, [.ref gco, .ref gar, .ref gki, .ref gfu]))] := hD
  refine lv_aload_n hx hb dX5_begin_69 rfl (lv_at hl 0 rfl) ?_
  refine lv_lconst (v := 0) hx hb dX5_begin_70 (by decide) ?_
  refine va_put (D := (dC, dI)) (ci := 5) (v := .long 0) (ty := .long) (C := RX5) (T := TX5) (N := 20) hx hb hA zin_X5 tyX5 tyX5_ok nmX5 hown hK hP hD hS 0 rfl rfl 19 (by decide) (hA _ wi_507) (fun _ h9 => h9) rfl (by decide +kernel) rfl rfl (Nat.le_of_ble_eq_true rfl) dX5_begin_71 (fun H locs hP hD hS => ?_)
  have hP : va_P (dC, dI) vwCl [(h0, .inr (5, [.ref po, .ref gco, .ref ce, .int 0, .ref sk, .int 0, .int 0, .ref kb, .ref kk, .ref ks, .int 0, .ref sh, .int 0, .int mat, .int ms_, .int 0, .int 0, .int 0, .int (-1), .long 0])), (po, .inr (9, [.ref gco, .ref gar, .ref gki, .ref gfu]))] H := hP
  have hD : va_D A [(h0, .inr (5, [.ref po, .ref gco, .ref ce, .int 0, .ref sk, .int 0, .int 0, .ref kb, .ref kk, .ref ks, .int 0, .ref sh, .int 0, .int mat, .int ms_, .int 0, .int 0, .int 0, .int (-1), .long 0])), (po, .inr (9, [.ref gco, .ref gar, .ref gki, .ref gfu]))] := hD
  have hP9 := hP.sub (ws' := [(h0, .inr (5, [.ref po, .ref gco, .ref ce, .int 0, .ref sk, .int 0, .int 0, .ref kb, .ref kk, .ref ks, .int 0, .ref sh, .int 0, .int mat, .int ms_, .int 0, .int 0, .int 0, .int (-1), .long 0])), (po, .inr (9, [.ref gco, .ref gar, .ref gki, .ref gfu]))]) [0, 1] rfl
  have hD9 := hD.sub (ws' := [(h0, .inr (5, [.ref po, .ref gco, .ref ce, .int 0, .ref sk, .int 0, .int 0, .ref kb, .ref kk, .ref ks, .int 0, .ref sh, .int 0, .int mat, .int ms_, .int 0, .int 0, .int 0, .int (-1), .long 0])), (po, .inr (9, [.ref gco, .ref gar, .ref gki, .ref gfu]))]) [0, 1] (by decide) rfl
  have hK9 := hK.sub (tys' := []) [] rfl
  exact W.vret hx hb hr (fun t ht hW => ⟨⟨(), rfl, trivial, by rw [ht]; exact hP9, va_K.moved hW.alike hK9, hD9⟩, hS.F ht⟩) hS.2.2 dX5_begin_74
set_option maxHeartbeats 4000000 in
set_option maxRecDepth 100000 in
theorem c_X5_begin_1 (l : Launch) (dC : Nat → ClassId) (dI : Nat → Nat → Nat) (aK aV : Nat → Nat) (h0 : Nat) (m_p : Nat) (m_c : Nat) (m_e : Nat) (sk : Nat) (kb : Nat) (kk : Nat) (ks : Nat) (sh : Nat) (mcn : Int32) (tp : Int32) (ba : Int32) (on : Int32) (sn : Int32) (mat : Int32) (alw : Int32) (st : Int32) (mo : Int32) (mh : Int32) (sp : Int32) (re : Int64) (po : Nat) (gco : Nat) (gar : Nat) (gki : Nat) (gfu : Nat) (ce : Nat) (ms_ : Int32) (sz : Nat)  : Met l yX5_begin (Cond.code yX5_begin cX5_begin 5 none :: zw) ({ frames := 8, cells := 0, slots := 0, locals := 200 }) (va_Pc [.ref h0, .ref po, .ref ce, .int 1, .int ms_] (zP dC dI aK aV sz [] [(h0, .inr (5, [.ref m_p, .ref m_c, .ref m_e, .int mcn, .ref sk, .int tp, .int ba, .ref kb, .ref kk, .ref ks, .int on, .ref sh, .int sn, .int mat, .int alw, .int st, .int mo, .int mh, .int sp, .long re])), (po, .inr (9, [.ref gco, .ref gar, .ref gki, .ref gfu]))])) (va_Qv (fun u : Unit => True) (fun u => zQ dC dI (va_A [(h0, .inr (5, [.ref m_p, .ref m_c, .ref m_e, .int mcn, .ref sk, .int tp, .int ba, .ref kb, .ref kk, .ref ks, .int on, .ref sh, .int sn, .int mat, .int alw, .int st, .int mo, .int mh, .int sp, .long re])), (po, .inr (9, [.ref gco, .ref gar, .ref gki, .ref gfu]))] sz) [] [(h0, .inr (5, [.ref po, .ref gco, .ref ce, .int 1, .ref sk, .int 0, .int 0, .ref kb, .ref kk, .ref ks, .int 0, .ref sh, .int 0, .int mat, .int ms_, .int 0, .int 0, .int 0, .int (-1), .long 0])), (po, .inr (9, [.ref gco, .ref gar, .ref gki, .ref gfu]))]) (va_A [(h0, .inr (5, [.ref m_p, .ref m_c, .ref m_e, .int mcn, .ref sk, .int tp, .int ba, .ref kb, .ref kk, .ref ks, .int on, .ref sh, .int sn, .int mat, .int alw, .int st, .int mo, .int mh, .int sp, .long re])), (po, .inr (9, [.ref gco, .ref gar, .ref gki, .ref gfu]))] sz)) 0 0 (va_A [(h0, .inr (5, [.ref m_p, .ref m_c, .ref m_e, .int mcn, .ref sk, .int tp, .int ba, .ref kb, .ref kk, .ref ks, .int on, .ref sh, .int sn, .int mat, .int alw, .int st, .int mo, .int mh, .int sp, .long re])), (po, .inr (9, [.ref gco, .ref gar, .ref gki, .ref gfu]))] sz) := by
  refine Met.ofW (cc := cX5_begin) (maxL := 5) (ret := none) (by decide) rfl ?_
  intro p e s m args below meth c s₁ B hml hv
  obtain ⟨rfl, hsz, hP, hK, hD0, hN, hT⟩ := hv
  have hx := B.exec
  have hb := B.bytes
  have hr := B.returns
  have hts := atoms_spec (ws := Cond.code yX5_begin cX5_begin 5 none :: zw) B.pre
  have hA : ∀ w ∈ zw, w.before _ s = true := fun w h => hts w (List.mem_cons_of_mem _ h)
  have hown : s.vm.findClass RX5 = some m.cls := findClass_of_methodNamed B.named
  have hlocks := B.notSynchronized
  subst hsz
  have hD := hD0.self (sz := s.heap.size)
  generalize hAe : va_A [(h0, .inr (5, [.ref m_p, .ref m_c, .ref m_e, .int mcn, .ref sk, .int tp, .int ba, .ref kb, .ref kk, .ref ks, .int on, .ref sh, .int sn, .int mat, .int alw, .int st, .int mo, .int mh, .int sp, .long re])), (po, .inr (9, [.ref gco, .ref gar, .ref gki, .ref gfu]))] s.heap.size = A at hD hT ⊢
  have hAA : ∀ q : Nat, s.heap.size ≤ q → A q := fun q h => by rw [← hAe]; exact Or.inr h
  have hS : va_S A s.heap s.heap [] := va_S.rf
  have hl := lv_entry ([.ref h0, .ref po, .ref ce, .int 1, .int ms_]) (n := 5) (Nat.le_of_ble_eq_true rfl)
  rw [lg_entry_eq]
  generalize (lg_sl ([.ref h0, .ref po, .ref ce, .int 1, .int ms_]) ++ List.replicate (5 - (lg_sl ([.ref h0, .ref po, .ref ce, .int 1, .int ms_])).length) Slot.unset).toArray = ls at hl ⊢
  have hl : lv_has ls 5 [(0, .ref h0), (1, .ref po), (2, .ref ce), (3, .int 1), (4, .int ms_)] := hl
  refine lv_aload_n hx hb dX5_begin_0 rfl (lv_at hl 0 rfl) ?_
  refine lv_aload_n hx hb dX5_begin_1 rfl (lv_at hl 1 rfl) ?_
  refine va_put (D := (dC, dI)) (ci := 5) (v := .ref po) (ty := .object "ReuseHouse$Program") (C := RX5) (T := TX5) (N := 20) hx hb hA zin_X5 tyX5 tyX5_ok nmX5 hown hK hP hD hS 0 rfl rfl 0 (by decide) (hA _ wi_484) (fun _ h9 => h9) rfl (by decide +kernel) rfl rfl (Nat.le_of_ble_eq_true rfl) dX5_begin_2 (fun H locs hP hD hS => ?_)
  have hP : va_P (dC, dI) vwCl [(h0, .inr (5, [.ref po, .ref m_c, .ref m_e, .int mcn, .ref sk, .int tp, .int ba, .ref kb, .ref kk, .ref ks, .int on, .ref sh, .int sn, .int mat, .int alw, .int st, .int mo, .int mh, .int sp, .long re])), (po, .inr (9, [.ref gco, .ref gar, .ref gki, .ref gfu]))] H := hP
  have hD : va_D A [(h0, .inr (5, [.ref po, .ref m_c, .ref m_e, .int mcn, .ref sk, .int tp, .int ba, .ref kb, .ref kk, .ref ks, .int on, .ref sh, .int sn, .int mat, .int alw, .int st, .int mo, .int mh, .int sp, .long re])), (po, .inr (9, [.ref gco, .ref gar, .ref gki, .ref gfu]))] := hD
  refine lv_aload_n hx hb dX5_begin_5 rfl (lv_at hl 0 rfl) ?_
  refine lv_aload_n hx hb dX5_begin_6 rfl (lv_at hl 1 rfl) ?_
  refine va_get (D := (dC, dI)) (ci := 9) (v := .ref gco) (C := RX9) (T := TX9) (N := 4) hx hb hA zin_X9 hown hK hP 1 rfl rfl 0 (by decide) (hA _ wi_309) (fun _ h9 => h9) rfl dX5_begin_7 ?_
  refine va_put (D := (dC, dI)) (ci := 5) (v := .ref gco) (ty := .object "ReuseHouse$Code") (C := RX5) (T := TX5) (N := 20) hx hb hA zin_X5 tyX5 tyX5_ok nmX5 hown hK hP hD hS 0 rfl rfl 1 (by decide) (hA _ wi_485) (fun _ h9 => h9) rfl (by decide +kernel) rfl rfl (Nat.le_of_ble_eq_true rfl) dX5_begin_10 (fun H locs hP hD hS => ?_)
  have hP : va_P (dC, dI) vwCl [(h0, .inr (5, [.ref po, .ref gco, .ref m_e, .int mcn, .ref sk, .int tp, .int ba, .ref kb, .ref kk, .ref ks, .int on, .ref sh, .int sn, .int mat, .int alw, .int st, .int mo, .int mh, .int sp, .long re])), (po, .inr (9, [.ref gco, .ref gar, .ref gki, .ref gfu]))] H := hP
  have hD : va_D A [(h0, .inr (5, [.ref po, .ref gco, .ref m_e, .int mcn, .ref sk, .int tp, .int ba, .ref kb, .ref kk, .ref ks, .int on, .ref sh, .int sn, .int mat, .int alw, .int st, .int mo, .int mh, .int sp, .long re])), (po, .inr (9, [.ref gco, .ref gar, .ref gki, .ref gfu]))] := hD
  refine lv_aload_n hx hb dX5_begin_13 rfl (lv_at hl 0 rfl) ?_
  refine lv_aload_n hx hb dX5_begin_14 rfl (lv_at hl 2 rfl) ?_
  refine va_put (D := (dC, dI)) (ci := 5) (v := .ref ce) (ty := .object "ReuseHouse$Cells") (C := RX5) (T := TX5) (N := 20) hx hb hA zin_X5 tyX5 tyX5_ok nmX5 hown hK hP hD hS 0 rfl rfl 2 (by decide) (hA _ wi_486) (fun _ h9 => h9) rfl (by decide +kernel) rfl rfl (Nat.le_of_ble_eq_true rfl) dX5_begin_15 (fun H locs hP hD hS => ?_)
  have hP : va_P (dC, dI) vwCl [(h0, .inr (5, [.ref po, .ref gco, .ref ce, .int mcn, .ref sk, .int tp, .int ba, .ref kb, .ref kk, .ref ks, .int on, .ref sh, .int sn, .int mat, .int alw, .int st, .int mo, .int mh, .int sp, .long re])), (po, .inr (9, [.ref gco, .ref gar, .ref gki, .ref gfu]))] H := hP
  have hD : va_D A [(h0, .inr (5, [.ref po, .ref gco, .ref ce, .int mcn, .ref sk, .int tp, .int ba, .ref kb, .ref kk, .ref ks, .int on, .ref sh, .int sn, .int mat, .int alw, .int st, .int mo, .int mh, .int sp, .long re])), (po, .inr (9, [.ref gco, .ref gar, .ref gki, .ref gfu]))] := hD
  refine lv_aload_n hx hb dX5_begin_18 rfl (lv_at hl 0 rfl) ?_
  refine lv_iload_n hx hb dX5_begin_19 rfl (lv_at hl 3 rfl) ?_
  refine va_put (D := (dC, dI)) (ci := 5) (v := .int 1) (ty := .boolean) (C := RX5) (T := TX5) (N := 20) hx hb hA zin_X5 tyX5 tyX5_ok nmX5 hown hK hP hD hS 0 rfl rfl 3 (by decide) (hA _ wi_487) (fun _ h9 => h9) rfl (by decide +kernel) rfl rfl (Nat.le_of_ble_eq_true rfl) dX5_begin_20 (fun H locs hP hD hS => ?_)
  have hP : va_P (dC, dI) vwCl [(h0, .inr (5, [.ref po, .ref gco, .ref ce, .int 1, .ref sk, .int tp, .int ba, .ref kb, .ref kk, .ref ks, .int on, .ref sh, .int sn, .int mat, .int alw, .int st, .int mo, .int mh, .int sp, .long re])), (po, .inr (9, [.ref gco, .ref gar, .ref gki, .ref gfu]))] H := hP
  have hD : va_D A [(h0, .inr (5, [.ref po, .ref gco, .ref ce, .int 1, .ref sk, .int tp, .int ba, .ref kb, .ref kk, .ref ks, .int on, .ref sh, .int sn, .int mat, .int alw, .int st, .int mo, .int mh, .int sp, .long re])), (po, .inr (9, [.ref gco, .ref gar, .ref gki, .ref gfu]))] := hD
  refine lv_aload_n hx hb dX5_begin_23 rfl (lv_at hl 0 rfl) ?_
  refine lv_iload hx hb dX5_begin_24 (lv_at hl 4 rfl) ?_
  refine va_put (D := (dC, dI)) (ci := 5) (v := .int ms_) (ty := .int) (C := RX5) (T := TX5) (N := 20) hx hb hA zin_X5 tyX5 tyX5_ok nmX5 hown hK hP hD hS 0 rfl rfl 14 (by decide) (hA _ wi_498) (fun _ h9 => h9) rfl (by decide +kernel) rfl rfl (Nat.le_of_ble_eq_true rfl) dX5_begin_26 (fun H locs hP hD hS => ?_)
  have hP : va_P (dC, dI) vwCl [(h0, .inr (5, [.ref po, .ref gco, .ref ce, .int 1, .ref sk, .int tp, .int ba, .ref kb, .ref kk, .ref ks, .int on, .ref sh, .int sn, .int mat, .int ms_, .int st, .int mo, .int mh, .int sp, .long re])), (po, .inr (9, [.ref gco, .ref gar, .ref gki, .ref gfu]))] H := hP
  have hD : va_D A [(h0, .inr (5, [.ref po, .ref gco, .ref ce, .int 1, .ref sk, .int tp, .int ba, .ref kb, .ref kk, .ref ks, .int on, .ref sh, .int sn, .int mat, .int ms_, .int st, .int mo, .int mh, .int sp, .long re])), (po, .inr (9, [.ref gco, .ref gar, .ref gki, .ref gfu]))] := hD
  refine lv_aload_n hx hb dX5_begin_29 rfl (lv_at hl 0 rfl) ?_
  refine lv_iconst (v := 0) hx hb dX5_begin_30 (by decide) ?_
  refine va_put (D := (dC, dI)) (ci := 5) (v := .int 0) (ty := .int) (C := RX5) (T := TX5) (N := 20) hx hb hA zin_X5 tyX5 tyX5_ok nmX5 hown hK hP hD hS 0 rfl rfl 5 (by decide) (hA _ wi_489) (fun _ h9 => h9) rfl (by decide +kernel) rfl rfl (Nat.le_of_ble_eq_true rfl) dX5_begin_31 (fun H locs hP hD hS => ?_)
  have hP : va_P (dC, dI) vwCl [(h0, .inr (5, [.ref po, .ref gco, .ref ce, .int 1, .ref sk, .int 0, .int ba, .ref kb, .ref kk, .ref ks, .int on, .ref sh, .int sn, .int mat, .int ms_, .int st, .int mo, .int mh, .int sp, .long re])), (po, .inr (9, [.ref gco, .ref gar, .ref gki, .ref gfu]))] H := hP
  have hD : va_D A [(h0, .inr (5, [.ref po, .ref gco, .ref ce, .int 1, .ref sk, .int 0, .int ba, .ref kb, .ref kk, .ref ks, .int on, .ref sh, .int sn, .int mat, .int ms_, .int st, .int mo, .int mh, .int sp, .long re])), (po, .inr (9, [.ref gco, .ref gar, .ref gki, .ref gfu]))] := hD
  refine lv_aload_n hx hb dX5_begin_34 rfl (lv_at hl 0 rfl) ?_
  refine lv_iconst (v := 0) hx hb dX5_begin_35 (by decide) ?_
  refine va_put (D := (dC, dI)) (ci := 5) (v := .int 0) (ty := .int) (C := RX5) (T := TX5) (N := 20) hx hb hA zin_X5 tyX5 tyX5_ok nmX5 hown hK hP hD hS 0 rfl rfl 6 (by decide) (hA _ wi_490) (fun _ h9 => h9) rfl (by decide +kernel) rfl rfl (Nat.le_of_ble_eq_true rfl) dX5_begin_36 (fun H locs hP hD hS => ?_)
  have hP : va_P (dC, dI) vwCl [(h0, .inr (5, [.ref po, .ref gco, .ref ce, .int 1, .ref sk, .int 0, .int 0, .ref kb, .ref kk, .ref ks, .int on, .ref sh, .int sn, .int mat, .int ms_, .int st, .int mo, .int mh, .int sp, .long re])), (po, .inr (9, [.ref gco, .ref gar, .ref gki, .ref gfu]))] H := hP
  have hD : va_D A [(h0, .inr (5, [.ref po, .ref gco, .ref ce, .int 1, .ref sk, .int 0, .int 0, .ref kb, .ref kk, .ref ks, .int on, .ref sh, .int sn, .int mat, .int ms_, .int st, .int mo, .int mh, .int sp, .long re])), (po, .inr (9, [.ref gco, .ref gar, .ref gki, .ref gfu]))] := hD
  refine lv_aload_n hx hb dX5_begin_39 rfl (lv_at hl 0 rfl) ?_
  refine lv_iconst (v := 0) hx hb dX5_begin_40 (by decide) ?_
  refine va_put (D := (dC, dI)) (ci := 5) (v := .int 0) (ty := .int) (C := RX5) (T := TX5) (N := 20) hx hb hA zin_X5 tyX5 tyX5_ok nmX5 hown hK hP hD hS 0 rfl rfl 10 (by decide) (hA _ wi_494) (fun _ h9 => h9) rfl (by decide +kernel) rfl rfl (Nat.le_of_ble_eq_true rfl) dX5_begin_41 (fun H locs hP hD hS => ?_)
  have hP : va_P (dC, dI) vwCl [(h0, .inr (5, [.ref po, .ref gco, .ref ce, .int 1, .ref sk, .int 0, .int 0, .ref kb, .ref kk, .ref ks, .int 0, .ref sh, .int sn, .int mat, .int ms_, .int st, .int mo, .int mh, .int sp, .long re])), (po, .inr (9, [.ref gco, .ref gar, .ref gki, .ref gfu]))] H := hP
  have hD : va_D A [(h0, .inr (5, [.ref po, .ref gco, .ref ce, .int 1, .ref sk, .int 0, .int 0, .ref kb, .ref kk, .ref ks, .int 0, .ref sh, .int sn, .int mat, .int ms_, .int st, .int mo, .int mh, .int sp, .long re])), (po, .inr (9, [.ref gco, .ref gar, .ref gki, .ref gfu]))] := hD
  refine lv_aload_n hx hb dX5_begin_44 rfl (lv_at hl 0 rfl) ?_
  refine lv_iconst (v := 0) hx hb dX5_begin_45 (by decide) ?_
  refine va_put (D := (dC, dI)) (ci := 5) (v := .int 0) (ty := .int) (C := RX5) (T := TX5) (N := 20) hx hb hA zin_X5 tyX5 tyX5_ok nmX5 hown hK hP hD hS 0 rfl rfl 12 (by decide) (hA _ wi_496) (fun _ h9 => h9) rfl (by decide +kernel) rfl rfl (Nat.le_of_ble_eq_true rfl) dX5_begin_46 (fun H locs hP hD hS => ?_)
  have hP : va_P (dC, dI) vwCl [(h0, .inr (5, [.ref po, .ref gco, .ref ce, .int 1, .ref sk, .int 0, .int 0, .ref kb, .ref kk, .ref ks, .int 0, .ref sh, .int 0, .int mat, .int ms_, .int st, .int mo, .int mh, .int sp, .long re])), (po, .inr (9, [.ref gco, .ref gar, .ref gki, .ref gfu]))] H := hP
  have hD : va_D A [(h0, .inr (5, [.ref po, .ref gco, .ref ce, .int 1, .ref sk, .int 0, .int 0, .ref kb, .ref kk, .ref ks, .int 0, .ref sh, .int 0, .int mat, .int ms_, .int st, .int mo, .int mh, .int sp, .long re])), (po, .inr (9, [.ref gco, .ref gar, .ref gki, .ref gfu]))] := hD
  refine lv_aload_n hx hb dX5_begin_49 rfl (lv_at hl 0 rfl) ?_
  refine lv_iconst (v := 0) hx hb dX5_begin_50 (by decide) ?_
  refine va_put (D := (dC, dI)) (ci := 5) (v := .int 0) (ty := .int) (C := RX5) (T := TX5) (N := 20) hx hb hA zin_X5 tyX5 tyX5_ok nmX5 hown hK hP hD hS 0 rfl rfl 15 (by decide) (hA _ wi_499) (fun _ h9 => h9) rfl (by decide +kernel) rfl rfl (Nat.le_of_ble_eq_true rfl) dX5_begin_51 (fun H locs hP hD hS => ?_)
  have hP : va_P (dC, dI) vwCl [(h0, .inr (5, [.ref po, .ref gco, .ref ce, .int 1, .ref sk, .int 0, .int 0, .ref kb, .ref kk, .ref ks, .int 0, .ref sh, .int 0, .int mat, .int ms_, .int 0, .int mo, .int mh, .int sp, .long re])), (po, .inr (9, [.ref gco, .ref gar, .ref gki, .ref gfu]))] H := hP
  have hD : va_D A [(h0, .inr (5, [.ref po, .ref gco, .ref ce, .int 1, .ref sk, .int 0, .int 0, .ref kb, .ref kk, .ref ks, .int 0, .ref sh, .int 0, .int mat, .int ms_, .int 0, .int mo, .int mh, .int sp, .long re])), (po, .inr (9, [.ref gco, .ref gar, .ref gki, .ref gfu]))] := hD
  refine lv_aload_n hx hb dX5_begin_54 rfl (lv_at hl 0 rfl) ?_
  refine lv_iconst (v := 0) hx hb dX5_begin_55 (by decide) ?_
  refine va_put (D := (dC, dI)) (ci := 5) (v := .int 0) (ty := .int) (C := RX5) (T := TX5) (N := 20) hx hb hA zin_X5 tyX5 tyX5_ok nmX5 hown hK hP hD hS 0 rfl rfl 16 (by decide) (hA _ wi_501) (fun _ h9 => h9) rfl (by decide +kernel) rfl rfl (Nat.le_of_ble_eq_true rfl) dX5_begin_56 (fun H locs hP hD hS => ?_)
  have hP : va_P (dC, dI) vwCl [(h0, .inr (5, [.ref po, .ref gco, .ref ce, .int 1, .ref sk, .int 0, .int 0, .ref kb, .ref kk, .ref ks, .int 0, .ref sh, .int 0, .int mat, .int ms_, .int 0, .int 0, .int mh, .int sp, .long re])), (po, .inr (9, [.ref gco, .ref gar, .ref gki, .ref gfu]))] H := hP
  have hD : va_D A [(h0, .inr (5, [.ref po, .ref gco, .ref ce, .int 1, .ref sk, .int 0, .int 0, .ref kb, .ref kk, .ref ks, .int 0, .ref sh, .int 0, .int mat, .int ms_, .int 0, .int 0, .int mh, .int sp, .long re])), (po, .inr (9, [.ref gco, .ref gar, .ref gki, .ref gfu]))] := hD
  refine lv_aload_n hx hb dX5_begin_59 rfl (lv_at hl 0 rfl) ?_
  refine lv_iconst (v := 0) hx hb dX5_begin_60 (by decide) ?_
  refine va_put (D := (dC, dI)) (ci := 5) (v := .int 0) (ty := .int) (C := RX5) (T := TX5) (N := 20) hx hb hA zin_X5 tyX5 tyX5_ok nmX5 hown hK hP hD hS 0 rfl rfl 17 (by decide) (hA _ wi_503) (fun _ h9 => h9) rfl (by decide +kernel) rfl rfl (Nat.le_of_ble_eq_true rfl) dX5_begin_61 (fun H locs hP hD hS => ?_)
  have hP : va_P (dC, dI) vwCl [(h0, .inr (5, [.ref po, .ref gco, .ref ce, .int 1, .ref sk, .int 0, .int 0, .ref kb, .ref kk, .ref ks, .int 0, .ref sh, .int 0, .int mat, .int ms_, .int 0, .int 0, .int 0, .int sp, .long re])), (po, .inr (9, [.ref gco, .ref gar, .ref gki, .ref gfu]))] H := hP
  have hD : va_D A [(h0, .inr (5, [.ref po, .ref gco, .ref ce, .int 1, .ref sk, .int 0, .int 0, .ref kb, .ref kk, .ref ks, .int 0, .ref sh, .int 0, .int mat, .int ms_, .int 0, .int 0, .int 0, .int sp, .long re])), (po, .inr (9, [.ref gco, .ref gar, .ref gki, .ref gfu]))] := hD
  refine lv_aload_n hx hb dX5_begin_64 rfl (lv_at hl 0 rfl) ?_
  refine lv_iconst (v := (-1)) hx hb dX5_begin_65 (by decide) ?_
  refine va_put (D := (dC, dI)) (ci := 5) (v := .int (-1)) (ty := .int) (C := RX5) (T := TX5) (N := 20) hx hb hA zin_X5 tyX5 tyX5_ok nmX5 hown hK hP hD hS 0 rfl rfl 18 (by decide) (hA _ wi_505) (fun _ h9 => h9) rfl (by decide +kernel) rfl rfl (Nat.le_of_ble_eq_true rfl) dX5_begin_66 (fun H locs hP hD hS => ?_)
  have hP : va_P (dC, dI) vwCl [(h0, .inr (5, [.ref po, .ref gco, .ref ce, .int 1, .ref sk, .int 0, .int 0, .ref kb, .ref kk, .ref ks, .int 0, .ref sh, .int 0, .int mat, .int ms_, .int 0, .int 0, .int 0, .int (-1), .long re])), (po, .inr (9, [.ref gco, .ref gar, .ref gki, .ref gfu]))] H := hP
  have hD : va_D A [(h0, .inr (5, [.ref po, .ref gco, .ref ce, .int 1, .ref sk, .int 0, .int 0, .ref kb, .ref kk, .ref ks, .int 0, .ref sh, .int 0, .int mat, .int ms_, .int 0, .int 0, .int 0, .int (-1), .long re])), (po, .inr (9, [.ref gco, .ref gar, .ref gki, .ref gfu]))] := hD
  refine lv_aload_n hx hb dX5_begin_69 rfl (lv_at hl 0 rfl) ?_
  refine lv_lconst (v := 0) hx hb dX5_begin_70 (by decide) ?_
  refine va_put (D := (dC, dI)) (ci := 5) (v := .long 0) (ty := .long) (C := RX5) (T := TX5) (N := 20) hx hb hA zin_X5 tyX5 tyX5_ok nmX5 hown hK hP hD hS 0 rfl rfl 19 (by decide) (hA _ wi_507) (fun _ h9 => h9) rfl (by decide +kernel) rfl rfl (Nat.le_of_ble_eq_true rfl) dX5_begin_71 (fun H locs hP hD hS => ?_)
  have hP : va_P (dC, dI) vwCl [(h0, .inr (5, [.ref po, .ref gco, .ref ce, .int 1, .ref sk, .int 0, .int 0, .ref kb, .ref kk, .ref ks, .int 0, .ref sh, .int 0, .int mat, .int ms_, .int 0, .int 0, .int 0, .int (-1), .long 0])), (po, .inr (9, [.ref gco, .ref gar, .ref gki, .ref gfu]))] H := hP
  have hD : va_D A [(h0, .inr (5, [.ref po, .ref gco, .ref ce, .int 1, .ref sk, .int 0, .int 0, .ref kb, .ref kk, .ref ks, .int 0, .ref sh, .int 0, .int mat, .int ms_, .int 0, .int 0, .int 0, .int (-1), .long 0])), (po, .inr (9, [.ref gco, .ref gar, .ref gki, .ref gfu]))] := hD
  have hP9 := hP.sub (ws' := [(h0, .inr (5, [.ref po, .ref gco, .ref ce, .int 1, .ref sk, .int 0, .int 0, .ref kb, .ref kk, .ref ks, .int 0, .ref sh, .int 0, .int mat, .int ms_, .int 0, .int 0, .int 0, .int (-1), .long 0])), (po, .inr (9, [.ref gco, .ref gar, .ref gki, .ref gfu]))]) [0, 1] rfl
  have hD9 := hD.sub (ws' := [(h0, .inr (5, [.ref po, .ref gco, .ref ce, .int 1, .ref sk, .int 0, .int 0, .ref kb, .ref kk, .ref ks, .int 0, .ref sh, .int 0, .int mat, .int ms_, .int 0, .int 0, .int 0, .int (-1), .long 0])), (po, .inr (9, [.ref gco, .ref gar, .ref gki, .ref gfu]))]) [0, 1] (by decide) rfl
  have hK9 := hK.sub (tys' := []) [] rfl
  exact W.vret hx hb hr (fun t ht hW => ⟨⟨(), rfl, trivial, by rw [ht]; exact hP9, va_K.moved hW.alike hK9, hD9⟩, hS.F ht⟩) hS.2.2 dX5_begin_74
set_option maxHeartbeats 4000000 in
set_option maxRecDepth 100000 in
theorem c_X11_mayWork_x (l : Launch) (dC : Nat → ClassId) (dI : Nat → Nat → Nat) (aK aV : Nat → Nat) (h0 : Nat) (h_tape : Nat) (h_fed : Int32) (h_taken : Nat) (h_parser : Nat) (h_machine : Nat) (h_countedCells : Nat) (h_plainCells : Nat) (h_printer : Nat) (h_faultNumber : Int32) (h_stopPlace : Int32) (h_wasRun : Int32) (h_runSteps : Int32) (h_runCalls : Int32) (h_hasValue : Int32) (h_value : Int64) (h_hasOther : Int32) (h_otherValue : Int64) (gco : Nat) (gar : Nat) (gki : Nat) (gfu : Nat) (fw : Nat) (fe : Nat) (ff : Nat) (fz : Int32) (fu : Int32) (sp_ : Int32) (sz : Nat)  : Met l yX11_mayWork (Cond.code yX11_mayWork cX11_mayWork 3 (some .boolean) :: zw) ({ frames := 10, cells := 0, slots := 0, locals := 300 }) (va_Pc [.ref h0, .int fu, .int sp_] (zP dC dI aK aV sz [] [(h0, .inr (11, [.ref h_tape, .int h_fed, .ref h_taken, .ref h_parser, .ref h_machine, .ref h_countedCells, .ref h_plainCells, .ref h_printer, .int h_faultNumber, .int h_stopPlace, .int h_wasRun, .int h_runSteps, .int h_runCalls, .int h_hasValue, .long h_value, .int h_hasOther, .long h_otherValue])), (h_taken, .inr (9, [.ref gco, .ref gar, .ref gki, .ref gfu])), (gfu, .inr (3, [.ref fw, .ref fe, .ref ff, .int fz]))])) (va_Qi (fun (r : Int32) (u : Unit) => (r.toInt = 0 ∧ (fu.toInt < 0 ∨ fz.toInt ≤ fu.toInt ∨ sp_.toInt < 0 ∨ 20000 < sp_.toInt) ∨ r.toInt = 1 ∧ 0 ≤ fu.toInt ∧ fu.toInt < fz.toInt ∧ 0 ≤ sp_.toInt ∧ sp_.toInt ≤ 20000)) (fun u => zQ dC dI (va_A [(h0, .inr (11, [.ref h_tape, .int h_fed, .ref h_taken, .ref h_parser, .ref h_machine, .ref h_countedCells, .ref h_plainCells, .ref h_printer, .int h_faultNumber, .int h_stopPlace, .int h_wasRun, .int h_runSteps, .int h_runCalls, .int h_hasValue, .long h_value, .int h_hasOther, .long h_otherValue])), (h_taken, .inr (9, [.ref gco, .ref gar, .ref gki, .ref gfu])), (gfu, .inr (3, [.ref fw, .ref fe, .ref ff, .int fz]))] sz) [] [(h0, .inr (11, [.ref h_tape, .int h_fed, .ref h_taken, .ref h_parser, .ref h_machine, .ref h_countedCells, .ref h_plainCells, .ref h_printer, .int h_faultNumber, .int h_stopPlace, .int h_wasRun, .int h_runSteps, .int h_runCalls, .int h_hasValue, .long h_value, .int h_hasOther, .long h_otherValue])), (h_taken, .inr (9, [.ref gco, .ref gar, .ref gki, .ref gfu])), (gfu, .inr (3, [.ref fw, .ref fe, .ref ff, .int fz]))]) (va_A [(h0, .inr (11, [.ref h_tape, .int h_fed, .ref h_taken, .ref h_parser, .ref h_machine, .ref h_countedCells, .ref h_plainCells, .ref h_printer, .int h_faultNumber, .int h_stopPlace, .int h_wasRun, .int h_runSteps, .int h_runCalls, .int h_hasValue, .long h_value, .int h_hasOther, .long h_otherValue])), (h_taken, .inr (9, [.ref gco, .ref gar, .ref gki, .ref gfu])), (gfu, .inr (3, [.ref fw, .ref fe, .ref ff, .int fz]))] sz)) 0 0 (va_A [(h0, .inr (11, [.ref h_tape, .int h_fed, .ref h_taken, .ref h_parser, .ref h_machine, .ref h_countedCells, .ref h_plainCells, .ref h_printer, .int h_faultNumber, .int h_stopPlace, .int h_wasRun, .int h_runSteps, .int h_runCalls, .int h_hasValue, .long h_value, .int h_hasOther, .long h_otherValue])), (h_taken, .inr (9, [.ref gco, .ref gar, .ref gki, .ref gfu])), (gfu, .inr (3, [.ref fw, .ref fe, .ref ff, .int fz]))] sz) := by
  refine Met.ofW (cc := cX11_mayWork) (maxL := 3) (ret := (some .boolean)) (by decide) rfl ?_
  intro p e s m args below meth c s₁ B hml hv
  obtain ⟨rfl, hsz, hP, hK, hD0, hN, hT⟩ := hv
  have hx := B.exec
  have hb := B.bytes
  have hr := B.returns
  have hts := atoms_spec (ws := Cond.code yX11_mayWork cX11_mayWork 3 (some .boolean) :: zw) B.pre
  have hA : ∀ w ∈ zw, w.before _ s = true := fun w h => hts w (List.mem_cons_of_mem _ h)
  have hown : s.vm.findClass RX11 = some m.cls := findClass_of_methodNamed B.named
  have hlocks := B.notSynchronized
  subst hsz
  have hD := hD0.self (sz := s.heap.size)
  generalize hAe : va_A [(h0, .inr (11, [.ref h_tape, .int h_fed, .ref h_taken, .ref h_parser, .ref h_machine, .ref h_countedCells, .ref h_plainCells, .ref h_printer, .int h_faultNumber, .int h_stopPlace, .int h_wasRun, .int h_runSteps, .int h_runCalls, .int h_hasValue, .long h_value, .int h_hasOther, .long h_otherValue])), (h_taken, .inr (9, [.ref gco, .ref gar, .ref gki, .ref gfu])), (gfu, .inr (3, [.ref fw, .ref fe, .ref ff, .int fz]))] s.heap.size = A at hD hT ⊢
  have hAA : ∀ q : Nat, s.heap.size ≤ q → A q := fun q h => by rw [← hAe]; exact Or.inr h
  have hS : va_S A s.heap s.heap [] := va_S.rf
  have hl := lv_entry ([.ref h0, .int fu, .int sp_]) (n := 3) (Nat.le_of_ble_eq_true rfl)
  rw [lg_entry_eq]
  generalize (lg_sl ([.ref h0, .int fu, .int sp_]) ++ List.replicate (3 - (lg_sl ([.ref h0, .int fu, .int sp_])).length) Slot.unset).toArray = ls at hl ⊢
  have hl : lv_has ls 3 [(0, .ref h0), (1, .int fu), (2, .int sp_)] := hl
  refine lv_aload_n hx hb dX11_mayWork_0 rfl (lv_at hl 0 rfl) ?_
  refine va_get (D := (dC, dI)) (ci := 11) (v := .ref h_taken) (C := RX11) (T := TX11) (N := 17) hx hb hA zin_X11 hown hK hP 0 rfl rfl 2 (by decide) (hA _ wi_586) (fun _ h9 => h9) rfl dX11_mayWork_1 ?_
  refine va_get (D := (dC, dI)) (ci := 9) (v := .ref gfu) (C := RX9) (T := TX9) (N := 4) hx hb hA zin_X9 hown hK hP 1 rfl rfl 3 (by decide) (hA _ wi_321) (fun _ h9 => h9) rfl dX11_mayWork_4 ?_
  refine lv_iload_n hx hb dX11_mayWork_7 rfl (lv_at hl 1 rfl) ?_
  have hPc := hP.sub (ws' := [(gfu, .inr (3, [.ref fw, .ref fe, .ref ff, .int fz]))]) [2] rfl
  have hDc := hD.sub (ws' := [(gfu, .inr (3, [.ref fw, .ref fe, .ref ff, .int fz]))]) [2] (by decide) rfl
  have hKc := hK.sub (tys' := []) [] rfl
  have hFc := va_free (wc := [(gfu, .inr (3, [.ref fw, .ref fe, .ref ff, .int fz]))]) hD hS hAA [2] rfl
  refine va_calli (va_runV (As := [.int fu]) (rest := []) ⟨hx, hb, hml, hown, hA⟩ (c_X3_has_x l dC dI aK aV gfu fw fe ff fz fu s.heap.size) (cwV 1 hA (zw_V wi_1078 wi_911 wi_912 wi_135 (zw_good wi_913)) rfl rfl rfl (by decide +kernel) ⟨(Nat.le_of_ble_eq_true rfl), (Nat.le_of_ble_eq_true rfl)⟩) ⟨zP_blind, va_recv hKc hPc (ci := 3) (q0 := 0) rfl rfl, zz_pre hKc hPc hDc hN hT hS hFc⟩ rfl rfl hl.1 rfl (lv_room (Nat.le_of_ble_eq_true rfl)) dX11_mayWork_8 ⟨(Nat.le_of_ble_eq_true rfl), (Nat.le_of_ble_eq_true rfl)⟩) hS (fun q _ h => hFc q h) hFc (fun r_1 u t H1 locs ht hvm hw hB hz1 hk1 hS => ?_)
  obtain ⟨hP1, hK1, hD1⟩ := hB
  rw [ht] at hP1
  have hK1 := va_K.moved hvm.symm hK1
  obtain ⟨hP, hD⟩ := va_join (wr := [(h0, .inr (11, [.ref h_tape, .int h_fed, .ref h_taken, .ref h_parser, .ref h_machine, .ref h_countedCells, .ref h_plainCells, .ref h_printer, .int h_faultNumber, .int h_stopPlace, .int h_wasRun, .int h_runSteps, .int h_runCalls, .int h_hasValue, .long h_value, .int h_hasOther, .long h_otherValue])), (h_taken, .inr (9, [.ref gco, .ref gar, .ref gki, .ref gfu]))]) (w1 := [(gfu, .inr (3, [.ref fw, .ref fe, .ref ff, .int fz]))]) hP hD [2] [0, 1] rfl rfl (by decide) (by decide) hk1 hFc hP1 hD1
  have hK := (hK.sub (tys' := []) [] rfl).app hK1
  generalize H1 = H at hP hS ⊢
  have hP : va_P (dC, dI) vwCl [(h0, .inr (11, [.ref h_tape, .int h_fed, .ref h_taken, .ref h_parser, .ref h_machine, .ref h_countedCells, .ref h_plainCells, .ref h_printer, .int h_faultNumber, .int h_stopPlace, .int h_wasRun, .int h_runSteps, .int h_runCalls, .int h_hasValue, .long h_value, .int h_hasOther, .long h_otherValue])), (h_taken, .inr (9, [.ref gco, .ref gar, .ref gki, .ref gfu])), (gfu, .inr (3, [.ref fw, .ref fe, .ref ff, .int fz]))] H := hP
  have hD : va_D A [(h0, .inr (11, [.ref h_tape, .int h_fed, .ref h_taken, .ref h_parser, .ref h_machine, .ref h_countedCells, .ref h_plainCells, .ref h_printer, .int h_faultNumber, .int h_stopPlace, .int h_wasRun, .int h_runSteps, .int h_runCalls, .int h_hasValue, .long h_value, .int h_hasOther, .long h_otherValue])), (h_taken, .inr (9, [.ref gco, .ref gar, .ref gki, .ref gfu])), (gfu, .inr (3, [.ref fw, .ref fe, .ref ff, .int fz]))] := hD
  have hK : va_K (dC, dI) vwCl [] s := hK
  have hw_r_1 := hw
  try dsimp only at hw_r_1
  have hq_2 := hw
  refine lv_if_eq (tgt := 29) hx hb dX11_mayWork_11 (by decide) (fun c_3 => ?_) (fun c_3 => ?_)
  · have ic_3 : r_1.toInt = 0 := zi_eq c_3
    refine lv_iconst (v := 0) hx hb dX11_mayWork_29 (by decide) ?_
    have hlit : Int32.toInt 0 = 0 := by decide
    have hP9 := hP.sub (ws' := [(h0, .inr (11, [.ref h_tape, .int h_fed, .ref h_taken, .ref h_parser, .ref h_machine, .ref h_countedCells, .ref h_plainCells, .ref h_printer, .int h_faultNumber, .int h_stopPlace, .int h_wasRun, .int h_runSteps, .int h_runCalls, .int h_hasValue, .long h_value, .int h_hasOther, .long h_otherValue])), (h_taken, .inr (9, [.ref gco, .ref gar, .ref gki, .ref gfu])), (gfu, .inr (3, [.ref fw, .ref fe, .ref ff, .int fz]))]) [0, 1, 2] rfl
    have hD9 := hD.sub (ws' := [(h0, .inr (11, [.ref h_tape, .int h_fed, .ref h_taken, .ref h_parser, .ref h_machine, .ref h_countedCells, .ref h_plainCells, .ref h_printer, .int h_faultNumber, .int h_stopPlace, .int h_wasRun, .int h_runSteps, .int h_runCalls, .int h_hasValue, .long h_value, .int h_hasOther, .long h_otherValue])), (h_taken, .inr (9, [.ref gco, .ref gar, .ref gki, .ref gfu])), (gfu, .inr (3, [.ref fw, .ref fe, .ref ff, .int fz]))]) [0, 1, 2] (by decide) rfl
    have hK9 := hK.sub (tys' := []) [] rfl
    exact W.zret (v := 0) hx hb hr rfl (fun t ht hW => ⟨⟨0, (), rfl, by omega, by rw [ht]; exact hP9, va_K.moved hW.alike hK9, hD9⟩, hS.F ht⟩) hS.2.2 dX11_mayWork_30
  · have ic_3 : r_1.toInt ≠ 0 := zi_ne c_3
    refine lv_iload_n hx hb dX11_mayWork_14 rfl (lv_at hl 2 rfl) ?_
    refine lv_if_lt (tgt := 29) hx hb dX11_mayWork_15 (by decide) (fun c_4 => ?_) (fun c_4 => ?_)
    · have ic_4 : sp_.toInt < 0 := zi_lt c_4
      refine lv_iconst (v := 0) hx hb dX11_mayWork_29 (by decide) ?_
      have hlit : Int32.toInt 0 = 0 := by decide
      have hP9 := hP.sub (ws' := [(h0, .inr (11, [.ref h_tape, .int h_fed, .ref h_taken, .ref h_parser, .ref h_machine, .ref h_countedCells, .ref h_plainCells, .ref h_printer, .int h_faultNumber, .int h_stopPlace, .int h_wasRun, .int h_runSteps, .int h_runCalls, .int h_hasValue, .long h_value, .int h_hasOther, .long h_otherValue])), (h_taken, .inr (9, [.ref gco, .ref gar, .ref gki, .ref gfu])), (gfu, .inr (3, [.ref fw, .ref fe, .ref ff, .int fz]))]) [0, 1, 2] rfl
      have hD9 := hD.sub (ws' := [(h0, .inr (11, [.ref h_tape, .int h_fed, .ref h_taken, .ref h_parser, .ref h_machine, .ref h_countedCells, .ref h_plainCells, .ref h_printer, .int h_faultNumber, .int h_stopPlace, .int h_wasRun, .int h_runSteps, .int h_runCalls, .int h_hasValue, .long h_value, .int h_hasOther, .long h_otherValue])), (h_taken, .inr (9, [.ref gco, .ref gar, .ref gki, .ref gfu])), (gfu, .inr (3, [.ref fw, .ref fe, .ref ff, .int fz]))]) [0, 1, 2] (by decide) rfl
      have hK9 := hK.sub (tys' := []) [] rfl
      exact W.zret (v := 0) hx hb hr rfl (fun t ht hW => ⟨⟨0, (), rfl, by omega, by rw [ht]; exact hP9, va_K.moved hW.alike hK9, hD9⟩, hS.F ht⟩) hS.2.2 dX11_mayWork_30
    · have ic_4 : 0 ≤ sp_.toInt := zi_nlt c_4
      refine lv_iload_n hx hb dX11_mayWork_18 rfl (lv_at hl 2 rfl) ?_
      refine lv_sipush (v := 20000) hx hb dX11_mayWork_19 (by decide) ?_
      refine lv_icmp_gt (tgt := 29) hx hb dX11_mayWork_22 (by decide) (fun c_5 => ?_) (fun c_5 => ?_)
      · have ic_5 : 20000 < sp_.toInt := zi_lt c_5
        refine lv_iconst (v := 0) hx hb dX11_mayWork_29 (by decide) ?_
        have hlit : Int32.toInt 0 = 0 := by decide
        have hP9 := hP.sub (ws' := [(h0, .inr (11, [.ref h_tape, .int h_fed, .ref h_taken, .ref h_parser, .ref h_machine, .ref h_countedCells, .ref h_plainCells, .ref h_printer, .int h_faultNumber, .int h_stopPlace, .int h_wasRun, .int h_runSteps, .int h_runCalls, .int h_hasValue, .long h_value, .int h_hasOther, .long h_otherValue])), (h_taken, .inr (9, [.ref gco, .ref gar, .ref gki, .ref gfu])), (gfu, .inr (3, [.ref fw, .ref fe, .ref ff, .int fz]))]) [0, 1, 2] rfl
        have hD9 := hD.sub (ws' := [(h0, .inr (11, [.ref h_tape, .int h_fed, .ref h_taken, .ref h_parser, .ref h_machine, .ref h_countedCells, .ref h_plainCells, .ref h_printer, .int h_faultNumber, .int h_stopPlace, .int h_wasRun, .int h_runSteps, .int h_runCalls, .int h_hasValue, .long h_value, .int h_hasOther, .long h_otherValue])), (h_taken, .inr (9, [.ref gco, .ref gar, .ref gki, .ref gfu])), (gfu, .inr (3, [.ref fw, .ref fe, .ref ff, .int fz]))]) [0, 1, 2] (by decide) rfl
        have hK9 := hK.sub (tys' := []) [] rfl
        exact W.zret (v := 0) hx hb hr rfl (fun t ht hW => ⟨⟨0, (), rfl, by omega, by rw [ht]; exact hP9, va_K.moved hW.alike hK9, hD9⟩, hS.F ht⟩) hS.2.2 dX11_mayWork_30
      · have ic_5 : sp_.toInt ≤ 20000 := zi_nlt c_5
        refine lv_iconst (v := 1) hx hb dX11_mayWork_25 (by decide) ?_
        refine lv_goto (tgt := 30) hx hb dX11_mayWork_26 (by decide) ?_
        have hlit : Int32.toInt 1 = 1 := by decide
        have hP9 := hP.sub (ws' := [(h0, .inr (11, [.ref h_tape, .int h_fed, .ref h_taken, .ref h_parser, .ref h_machine, .ref h_countedCells, .ref h_plainCells, .ref h_printer, .int h_faultNumber, .int h_stopPlace, .int h_wasRun, .int h_runSteps, .int h_runCalls, .int h_hasValue, .long h_value, .int h_hasOther, .long h_otherValue])), (h_taken, .inr (9, [.ref gco, .ref gar, .ref gki, .ref gfu])), (gfu, .inr (3, [.ref fw, .ref fe, .ref ff, .int fz]))]) [0, 1, 2] rfl
        have hD9 := hD.sub (ws' := [(h0, .inr (11, [.ref h_tape, .int h_fed, .ref h_taken, .ref h_parser, .ref h_machine, .ref h_countedCells, .ref h_plainCells, .ref h_printer, .int h_faultNumber, .int h_stopPlace, .int h_wasRun, .int h_runSteps, .int h_runCalls, .int h_hasValue, .long h_value, .int h_hasOther, .long h_otherValue])), (h_taken, .inr (9, [.ref gco, .ref gar, .ref gki, .ref gfu])), (gfu, .inr (3, [.ref fw, .ref fe, .ref ff, .int fz]))]) [0, 1, 2] (by decide) rfl
        have hK9 := hK.sub (tys' := []) [] rfl
        exact W.zret (v := 1) hx hb hr rfl (fun t ht hW => ⟨⟨1, (), rfl, by omega, by rw [ht]; exact hP9, va_K.moved hW.alike hK9, hD9⟩, hS.F ht⟩) hS.2.2 dX11_mayWork_30
set_option maxHeartbeats 4000000 in
set_option maxRecDepth 100000 in
theorem c_X11_tellInts_x (l : Launch) (dC : Nat → ClassId) (dI : Nat → Nat → Nat) (aK aV : Nat → Nat) (h0 : Nat) (h_tape : Nat) (h_fed : Int32) (h_taken : Nat) (h_parser : Nat) (h_machine : Nat) (h_countedCells : Nat) (h_plainCells : Nat) (h_printer : Nat) (h_faultNumber : Int32) (h_stopPlace : Int32) (h_wasRun : Int32) (h_runSteps : Int32) (h_runCalls : Int32) (h_hasValue : Int32) (h_value : Int64) (h_hasOther : Int32) (h_otherValue : Int64) (gco : Nat) (gar : Nat) (gki : Nat) (gfu : Nat) (fw : Nat) (fe : Nat) (ff : Nat) (f1 : ClassId) (f2 : ClassId) (f3 : ClassId) (fz : Int32) (fgw : Nat → Int64) (fge : Nat → Int32) (fgf : Nat → Int32) (mp : Nat) (m_c : Nat) (mce : Nat) (sk : Nat) (kb : Nat) (kk : Nat) (ks : Nat) (sh : Nat) (mcn : Int32) (tp : Int32) (ba : Int32) (on : Int32) (sn : Int32) (mat : Int32) (alw : Int32) (st : Int32) (mo : Int32) (mh : Int32) (sp : Int32) (re : Int64) (sk1 : ClassId) (gs : Nat → Int64) (fu : Int32) (ia : Int32) (ib : Int32) (ic : Int32) (id_ : Int32) (sz : Nat) (hf0 : 0 ≤ fz.toInt) (hf1 : fz.toInt ≤ 30) (hu0 : 0 ≤ fu.toInt) (hu1 : fu.toInt < fz.toInt) (htp : tp.toInt = 0) (htd : 0 ≤ (fgf (5 * Int32.toNatClampNeg fu)).toInt ∧ (fgf (5 * Int32.toNatClampNeg fu)).toInt ≤ 6) : Met l yX11_tellInts (Cond.code yX11_tellInts cX11_tellInts 9 none :: zw) ({ frames := 12, cells := 0, slots := 0, locals := 400 }) (va_Pc [.ref h0, .int fu, .int ia, .int ib, .int ic, .int id_] (zP dC dI aK aV sz [(f1, .long), (f2, .int), (f3, .int), (sk1, .long)] [(h0, .inr (11, [.ref h_tape, .int h_fed, .ref h_taken, .ref h_parser, .ref h_machine, .ref h_countedCells, .ref h_plainCells, .ref h_printer, .int h_faultNumber, .int h_stopPlace, .int h_wasRun, .int h_runSteps, .int h_runCalls, .int h_hasValue, .long h_value, .int h_hasOther, .long h_otherValue])), (h_taken, .inr (9, [.ref gco, .ref gar, .ref gki, .ref gfu])), (gfu, .inr (3, [.ref fw, .ref fe, .ref ff, .int fz])), (fw, .inl (f1, 30, .inr (.inl fgw))), (fe, .inl (f2, 30, .inl fge)), (ff, .inl (f3, 150, .inl fgf)), (h_machine, .inr (5, [.ref mp, .ref m_c, .ref mce, .int mcn, .ref sk, .int tp, .int ba, .ref kb, .ref kk, .ref ks, .int on, .ref sh, .int sn, .int mat, .int alw, .int st, .int mo, .int mh, .int sp, .long re])), (sk, .inl (sk1, 22424, .inr (.inl gs)))])) (va_Qv (fun u : Int32 × (Nat → Int64) => match u with | (tp2, gs2) => (tp2.toInt = (fgf (5 * Int32.toNatClampNeg fu)).toInt) ∧ (∀ k, k < Int32.toNatClampNeg tp2 → zhs (gs2 k) = 0) ∧ (∀ k, k < Int32.toNatClampNeg tp2 → gs2 k = pv0 (if k = 0 then ia else if k = 1 then ib else if k = 2 then ic else if k = 3 then id_ else 0))) (fun u => match u with | (tp2, gs2) => zQ dC dI (va_A [(h0, .inr (11, [.ref h_tape, .int h_fed, .ref h_taken, .ref h_parser, .ref h_machine, .ref h_countedCells, .ref h_plainCells, .ref h_printer, .int h_faultNumber, .int h_stopPlace, .int h_wasRun, .int h_runSteps, .int h_runCalls, .int h_hasValue, .long h_value, .int h_hasOther, .long h_otherValue])), (h_taken, .inr (9, [.ref gco, .ref gar, .ref gki, .ref gfu])), (gfu, .inr (3, [.ref fw, .ref fe, .ref ff, .int fz])), (fw, .inl (f1, 30, .inr (.inl fgw))), (fe, .inl (f2, 30, .inl fge)), (ff, .inl (f3, 150, .inl fgf)), (h_machine, .inr (5, [.ref mp, .ref m_c, .ref mce, .int mcn, .ref sk, .int tp, .int ba, .ref kb, .ref kk, .ref ks, .int on, .ref sh, .int sn, .int mat, .int alw, .int st, .int mo, .int mh, .int sp, .long re])), (sk, .inl (sk1, 22424, .inr (.inl gs)))] sz) [(f1, .long), (f2, .int), (f3, .int), (sk1, .long)] [(h0, .inr (11, [.ref h_tape, .int h_fed, .ref h_taken, .ref h_parser, .ref h_machine, .ref h_countedCells, .ref h_plainCells, .ref h_printer, .int h_faultNumber, .int h_stopPlace, .int h_wasRun, .int h_runSteps, .int h_runCalls, .int h_hasValue, .long h_value, .int h_hasOther, .long h_otherValue])), (h_taken, .inr (9, [.ref gco, .ref gar, .ref gki, .ref gfu])), (gfu, .inr (3, [.ref fw, .ref fe, .ref ff, .int fz])), (fw, .inl (f1, 30, .inr (.inl fgw))), (fe, .inl (f2, 30, .inl fge)), (ff, .inl (f3, 150, .inl fgf)), (h_machine, .inr (5, [.ref mp, .ref m_c, .ref mce, .int mcn, .ref sk, .int tp2, .int ba, .ref kb, .ref kk, .ref ks, .int on, .ref sh, .int sn, .int mat, .int alw, .int st, .int mo, .int mh, .int sp, .long re])), (sk, .inl (sk1, 22424, .inr (.inl gs2)))]) (va_A [(h0, .inr (11, [.ref h_tape, .int h_fed, .ref h_taken, .ref h_parser, .ref h_machine, .ref h_countedCells, .ref h_plainCells, .ref h_printer, .int h_faultNumber, .int h_stopPlace, .int h_wasRun, .int h_runSteps, .int h_runCalls, .int h_hasValue, .long h_value, .int h_hasOther, .long h_otherValue])), (h_taken, .inr (9, [.ref gco, .ref gar, .ref gki, .ref gfu])), (gfu, .inr (3, [.ref fw, .ref fe, .ref ff, .int fz])), (fw, .inl (f1, 30, .inr (.inl fgw))), (fe, .inl (f2, 30, .inl fge)), (ff, .inl (f3, 150, .inl fgf)), (h_machine, .inr (5, [.ref mp, .ref m_c, .ref mce, .int mcn, .ref sk, .int tp, .int ba, .ref kb, .ref kk, .ref ks, .int on, .ref sh, .int sn, .int mat, .int alw, .int st, .int mo, .int mh, .int sp, .long re])), (sk, .inl (sk1, 22424, .inr (.inl gs)))] sz)) 0 0 (va_A [(h0, .inr (11, [.ref h_tape, .int h_fed, .ref h_taken, .ref h_parser, .ref h_machine, .ref h_countedCells, .ref h_plainCells, .ref h_printer, .int h_faultNumber, .int h_stopPlace, .int h_wasRun, .int h_runSteps, .int h_runCalls, .int h_hasValue, .long h_value, .int h_hasOther, .long h_otherValue])), (h_taken, .inr (9, [.ref gco, .ref gar, .ref gki, .ref gfu])), (gfu, .inr (3, [.ref fw, .ref fe, .ref ff, .int fz])), (fw, .inl (f1, 30, .inr (.inl fgw))), (fe, .inl (f2, 30, .inl fge)), (ff, .inl (f3, 150, .inl fgf)), (h_machine, .inr (5, [.ref mp, .ref m_c, .ref mce, .int mcn, .ref sk, .int tp, .int ba, .ref kb, .ref kk, .ref ks, .int on, .ref sh, .int sn, .int mat, .int alw, .int st, .int mo, .int mh, .int sp, .long re])), (sk, .inl (sk1, 22424, .inr (.inl gs)))] sz) := by
  refine Met.ofW (cc := cX11_tellInts) (maxL := 9) (ret := none) (by decide) rfl ?_
  intro p e s m args below meth c s₁ B hml hv
  obtain ⟨rfl, hsz, hP, hK, hD0, hN, hT⟩ := hv
  have hx := B.exec
  have hb := B.bytes
  have hr := B.returns
  have hts := atoms_spec (ws := Cond.code yX11_tellInts cX11_tellInts 9 none :: zw) B.pre
  have hA : ∀ w ∈ zw, w.before _ s = true := fun w h => hts w (List.mem_cons_of_mem _ h)
  have hown : s.vm.findClass RX11 = some m.cls := findClass_of_methodNamed B.named
  have hlocks := B.notSynchronized
  subst hsz
  have hD := hD0.self (sz := s.heap.size)
  generalize hAe : va_A [(h0, .inr (11, [.ref h_tape, .int h_fed, .ref h_taken, .ref h_parser, .ref h_machine, .ref h_countedCells, .ref h_plainCells, .ref h_printer, .int h_faultNumber, .int h_stopPlace, .int h_wasRun, .int h_runSteps, .int h_runCalls, .int h_hasValue, .long h_value, .int h_hasOther, .long h_otherValue])), (h_taken, .inr (9, [.ref gco, .ref gar, .ref gki, .ref gfu])), (gfu, .inr (3, [.ref fw, .ref fe, .ref ff, .int fz])), (fw, .inl (f1, 30, .inr (.inl fgw))), (fe, .inl (f2, 30, .inl fge)), (ff, .inl (f3, 150, .inl fgf)), (h_machine, .inr (5, [.ref mp, .ref m_c, .ref mce, .int mcn, .ref sk, .int tp, .int ba, .ref kb, .ref kk, .ref ks, .int on, .ref sh, .int sn, .int mat, .int alw, .int st, .int mo, .int mh, .int sp, .long re])), (sk, .inl (sk1, 22424, .inr (.inl gs)))] s.heap.size = A at hD hT ⊢
  have hAA : ∀ q : Nat, s.heap.size ≤ q → A q := fun q h => by rw [← hAe]; exact Or.inr h
  have hS : va_S A s.heap s.heap [] := va_S.rf
  have hl := lv_entry ([.ref h0, .int fu, .int ia, .int ib, .int ic, .int id_]) (n := 9) (Nat.le_of_ble_eq_true rfl)
  rw [lg_entry_eq]
  generalize (lg_sl ([.ref h0, .int fu, .int ia, .int ib, .int ic, .int id_]) ++ List.replicate (9 - (lg_sl ([.ref h0, .int fu, .int ia, .int ib, .int ic, .int id_])).length) Slot.unset).toArray = ls at hl ⊢
  have hl : lv_has ls 9 [(0, .ref h0), (1, .int fu), (2, .int ia), (3, .int ib), (4, .int ic), (5, .int id_)] := hl
  refine lv_aload_n hx hb dX11_tellInts_0 rfl (lv_at hl 0 rfl) ?_
  refine va_get (D := (dC, dI)) (ci := 11) (v := .ref h_taken) (C := RX11) (T := TX11) (N := 17) hx hb hA zin_X11 hown hK hP 0 rfl rfl 2 (by decide) (hA _ wi_586) (fun _ h9 => h9) rfl dX11_tellInts_1 ?_
  refine va_get (D := (dC, dI)) (ci := 9) (v := .ref gfu) (C := RX9) (T := TX9) (N := 4) hx hb hA zin_X9 hown hK hP 1 rfl rfl 3 (by decide) (hA _ wi_321) (fun _ h9 => h9) rfl dX11_tellInts_4 ?_
  refine lv_iload_n hx hb dX11_tellInts_7 rfl (lv_at hl 1 rfl) ?_
  refine lv_iconst (v := 0) hx hb dX11_tellInts_8 (by decide) ?_
  have hPc := hP.sub (ws' := [(gfu, .inr (3, [.ref fw, .ref fe, .ref ff, .int fz])), (fw, .inl (f1, 30, .inr (.inl fgw))), (fe, .inl (f2, 30, .inl fge)), (ff, .inl (f3, 150, .inl fgf))]) [2, 3, 4, 5] rfl
  have hDc := hD.sub (ws' := [(gfu, .inr (3, [.ref fw, .ref fe, .ref ff, .int fz])), (fw, .inl (f1, 30, .inr (.inl fgw))), (fe, .inl (f2, 30, .inl fge)), (ff, .inl (f3, 150, .inl fgf))]) [2, 3, 4, 5] (by decide) rfl
  have hKc := hK.sub (tys' := [(f1, .long), (f2, .int), (f3, .int)]) [0, 1, 2] rfl
  have hFc := va_free (wc := [(gfu, .inr (3, [.ref fw, .ref fe, .ref ff, .int fz])), (fw, .inl (f1, 30, .inr (.inl fgw))), (fe, .inl (f2, 30, .inl fge)), (ff, .inl (f3, 150, .inl fgf))]) hD hS hAA [2, 3, 4, 5] rfl
  refine va_calli (va_runV (As := [.int fu, .int 0]) (rest := []) ⟨hx, hb, hml, hown, hA⟩ (c_X3_fact_x l dC dI aK aV gfu fw fe ff f1 f2 f3 fz fgw fge fgf fu 0 s.heap.size (by omega) (by omega) (by omega) (by omega) (by have h9_0 : Int32.toInt 0 = 0 := (by decide); omega) (by have h9_0 : Int32.toInt 0 = 0 := (by decide); omega)) (cwV 2 hA (zw_V wi_1079 wi_907 wi_908 wi_135 (zw_good wi_909)) rfl rfl rfl (by decide +kernel) ⟨(Nat.le_of_ble_eq_true rfl), (Nat.le_of_ble_eq_true rfl)⟩) ⟨zP_blind, va_recv hKc hPc (ci := 3) (q0 := 0) rfl rfl, zz_pre hKc hPc hDc hN hT hS hFc⟩ rfl rfl hl.1 rfl (lv_room (Nat.le_of_ble_eq_true rfl)) dX11_tellInts_9 ⟨(Nat.le_of_ble_eq_true rfl), (Nat.le_of_ble_eq_true rfl)⟩) hS (fun q _ h => hFc q h) hFc (fun r_1 u t H1 locs ht hvm hw hB hz1 hk1 hS => ?_)
  obtain ⟨hP1, hK1, hD1⟩ := hB
  rw [ht] at hP1
  have hK1 := va_K.moved hvm.symm hK1
  obtain ⟨hP, hD⟩ := va_join (wr := [(h0, .inr (11, [.ref h_tape, .int h_fed, .ref h_taken, .ref h_parser, .ref h_machine, .ref h_countedCells, .ref h_plainCells, .ref h_printer, .int h_faultNumber, .int h_stopPlace, .int h_wasRun, .int h_runSteps, .int h_runCalls, .int h_hasValue, .long h_value, .int h_hasOther, .long h_otherValue])), (h_taken, .inr (9, [.ref gco, .ref gar, .ref gki, .ref gfu])), (h_machine, .inr (5, [.ref mp, .ref m_c, .ref mce, .int mcn, .ref sk, .int tp, .int ba, .ref kb, .ref kk, .ref ks, .int on, .ref sh, .int sn, .int mat, .int alw, .int st, .int mo, .int mh, .int sp, .long re])), (sk, .inl (sk1, 22424, .inr (.inl gs)))]) (w1 := [(gfu, .inr (3, [.ref fw, .ref fe, .ref ff, .int fz])), (fw, .inl (f1, 30, .inr (.inl fgw))), (fe, .inl (f2, 30, .inl fge)), (ff, .inl (f3, 150, .inl fgf))]) hP hD [2, 3, 4, 5] [0, 1, 6, 7] rfl rfl (by decide) (by decide) hk1 hFc hP1 hD1
  have hK := (hK.sub (tys' := [(sk1, .long)]) [3] rfl).app hK1
  generalize H1 = H at hP hS ⊢
  have hP : va_P (dC, dI) vwCl [(h0, .inr (11, [.ref h_tape, .int h_fed, .ref h_taken, .ref h_parser, .ref h_machine, .ref h_countedCells, .ref h_plainCells, .ref h_printer, .int h_faultNumber, .int h_stopPlace, .int h_wasRun, .int h_runSteps, .int h_runCalls, .int h_hasValue, .long h_value, .int h_hasOther, .long h_otherValue])), (h_taken, .inr (9, [.ref gco, .ref gar, .ref gki, .ref gfu])), (h_machine, .inr (5, [.ref mp, .ref m_c, .ref mce, .int mcn, .ref sk, .int tp, .int ba, .ref kb, .ref kk, .ref ks, .int on, .ref sh, .int sn, .int mat, .int alw, .int st, .int mo, .int mh, .int sp, .long re])), (sk, .inl (sk1, 22424, .inr (.inl gs))), (gfu, .inr (3, [.ref fw, .ref fe, .ref ff, .int fz])), (fw, .inl (f1, 30, .inr (.inl fgw))), (fe, .inl (f2, 30, .inl fge)), (ff, .inl (f3, 150, .inl fgf))] H := hP
  have hD : va_D A [(h0, .inr (11, [.ref h_tape, .int h_fed, .ref h_taken, .ref h_parser, .ref h_machine, .ref h_countedCells, .ref h_plainCells, .ref h_printer, .int h_faultNumber, .int h_stopPlace, .int h_wasRun, .int h_runSteps, .int h_runCalls, .int h_hasValue, .long h_value, .int h_hasOther, .long h_otherValue])), (h_taken, .inr (9, [.ref gco, .ref gar, .ref gki, .ref gfu])), (h_machine, .inr (5, [.ref mp, .ref m_c, .ref mce, .int mcn, .ref sk, .int tp, .int ba, .ref kb, .ref kk, .ref ks, .int on, .ref sh, .int sn, .int mat, .int alw, .int st, .int mo, .int mh, .int sp, .long re])), (sk, .inl (sk1, 22424, .inr (.inl gs))), (gfu, .inr (3, [.ref fw, .ref fe, .ref ff, .int fz])), (fw, .inl (f1, 30, .inr (.inl fgw))), (fe, .inl (f2, 30, .inl fge)), (ff, .inl (f3, 150, .inl fgf))] := hD
  have hK : va_K (dC, dI) vwCl [(sk1, .long), (f1, .long), (f2, .int), (f3, .int)] s := hK
  have hw_r_1 := hw
  try dsimp only at hw_r_1
  have hq_2 := hw
  have htd9 : r_1.toInt = (fgf (5 * Int32.toNatClampNeg fu)).toInt := by rw [hq_2]; exact congrArg (fun x => (fgf x).toInt) (by have h9a : Int32.toNatClampNeg 0 = 0 := (by decide); omega)
  refine lv_istore (lv' := [(6, .int r_1), (0, .ref h0), (1, .int fu), (2, .int ia), (3, .int ib), (4, .int ic), (5, .int id_)]) hx hb dX11_tellInts_12 hl (by decide) rfl (fun ls hl => ?_)
  refine lv_iconst (v := 0) hx hb dX11_tellInts_14 (by decide) ?_
  refine lv_istore (lv' := [(7, .int 0), (6, .int r_1), (0, .ref h0), (1, .int fu), (2, .int ia), (3, .int ib), (4, .int ic), (5, .int id_)]) hx hb dX11_tellInts_15 hl (by decide) rfl (fun ls hl => ?_)
  have loop_17 : ∀ (n9 : Nat) (i : Int32) (ltp : Int32) (lgs : Nat → Int64) (H : Heap) (locs : List Loc) (ls : Array Slot), (6 - i.toInt + 1).toNat ≤ n9 → 0 ≤ i.toInt → i.toInt ≤ (fgf (5 * Int32.toNatClampNeg fu)).toInt → ltp.toInt = i.toInt → (∀ k, k < Int32.toNatClampNeg i → zhs (lgs k) = 0) → (∀ k, k < Int32.toNatClampNeg i → lgs k = pv0 (if k = 0 then ia else if k = 1 then ib else if k = 2 then ic else if k = 3 then id_ else 0)) → va_P (dC, dI) vwCl [(h0, .inr (11, [.ref h_tape, .int h_fed, .ref h_taken, .ref h_parser, .ref h_machine, .ref h_countedCells, .ref h_plainCells, .ref h_printer, .int h_faultNumber, .int h_stopPlace, .int h_wasRun, .int h_runSteps, .int h_runCalls, .int h_hasValue, .long h_value, .int h_hasOther, .long h_otherValue])), (h_taken, .inr (9, [.ref gco, .ref gar, .ref gki, .ref gfu])), (h_machine, .inr (5, [.ref mp, .ref m_c, .ref mce, .int mcn, .ref sk, .int ltp, .int ba, .ref kb, .ref kk, .ref ks, .int on, .ref sh, .int sn, .int mat, .int alw, .int st, .int mo, .int mh, .int sp, .long re])), (sk, .inl (sk1, 22424, .inr (.inl lgs))), (gfu, .inr (3, [.ref fw, .ref fe, .ref ff, .int fz])), (fw, .inl (f1, 30, .inr (.inl fgw))), (fe, .inl (f2, 30, .inl fge)), (ff, .inl (f3, 150, .inl fgf))] H → va_D A [(h0, .inr (11, [.ref h_tape, .int h_fed, .ref h_taken, .ref h_parser, .ref h_machine, .ref h_countedCells, .ref h_plainCells, .ref h_printer, .int h_faultNumber, .int h_stopPlace, .int h_wasRun, .int h_runSteps, .int h_runCalls, .int h_hasValue, .long h_value, .int h_hasOther, .long h_otherValue])), (h_taken, .inr (9, [.ref gco, .ref gar, .ref gki, .ref gfu])), (h_machine, .inr (5, [.ref mp, .ref m_c, .ref mce, .int mcn, .ref sk, .int ltp, .int ba, .ref kb, .ref kk, .ref ks, .int on, .ref sh, .int sn, .int mat, .int alw, .int st, .int mo, .int mh, .int sp, .long re])), (sk, .inl (sk1, 22424, .inr (.inl lgs))), (gfu, .inr (3, [.ref fw, .ref fe, .ref ff, .int fz])), (fw, .inl (f1, 30, .inr (.inl fgw))), (fe, .inl (f2, 30, .inl fge)), (ff, .inl (f3, 150, .inl fgf))] → va_S A s.heap H locs → lv_has ls 9 [(7, .int i), (6, .int r_1), (0, .ref h0), (1, .int fu), (2, .int ia), (3, .int ib), (4, .int ic), (5, .int id_)] → W p l e (headSpec (Cond.code yX11_tellInts cX11_tellInts 9 none :: zw) ({ frames := 12, cells := 0, slots := 0, locals := 400 })).room s m #[.ref h0, .int fu, .int ia, .int ib, .int ic, .int id_] below meth c H locs 0 0 (MQ below (va_Qv (fun u : Int32 × (Nat → Int64) => match u with | (tp2, gs2) => (tp2.toInt = (fgf (5 * Int32.toNatClampNeg fu)).toInt) ∧ (∀ k, k < Int32.toNatClampNeg tp2 → zhs (gs2 k) = 0) ∧ (∀ k, k < Int32.toNatClampNeg tp2 → gs2 k = pv0 (if k = 0 then ia else if k = 1 then ib else if k = 2 then ic else if k = 3 then id_ else 0))) (fun u => match u with | (tp2, gs2) => zQ dC dI A [(f1, .long), (f2, .int), (f3, .int), (sk1, .long)] [(h0, .inr (11, [.ref h_tape, .int h_fed, .ref h_taken, .ref h_parser, .ref h_machine, .ref h_countedCells, .ref h_plainCells, .ref h_printer, .int h_faultNumber, .int h_stopPlace, .int h_wasRun, .int h_runSteps, .int h_runCalls, .int h_hasValue, .long h_value, .int h_hasOther, .long h_otherValue])), (h_taken, .inr (9, [.ref gco, .ref gar, .ref gki, .ref gfu])), (gfu, .inr (3, [.ref fw, .ref fe, .ref ff, .int fz])), (fw, .inl (f1, 30, .inr (.inl fgw))), (fe, .inl (f2, 30, .inl fge)), (ff, .inl (f3, 150, .inl fgf)), (h_machine, .inr (5, [.ref mp, .ref m_c, .ref mce, .int mcn, .ref sk, .int tp2, .int ba, .ref kb, .ref kk, .ref ks, .int on, .ref sh, .int sn, .int mat, .int alw, .int st, .int mo, .int mh, .int sp, .long re])), (sk, .inl (sk1, 22424, .inr (.inl gs2)))]) A) #[.ref h0, .int fu, .int ia, .int ib, .int ic, .int id_] s 0 0 A) (F0 m 17 ls []) := by
    intro n9
    induction n9 with
    | zero => intro i ltp lgs H locs ls hm hi0 hi1 hlt_ hti htq; exfalso; omega
    | succ n9 ih =>
      intro i ltp lgs H locs ls hm hi0 hi1 hlt_ hti htq hP hD hS hl
      refine lv_iload hx hb dX11_tellInts_17 (lv_at hl 0 rfl) ?_
      refine lv_iload hx hb dX11_tellInts_19 (lv_at hl 1 rfl) ?_
      refine lv_icmp_ge (tgt := 86) hx hb dX11_tellInts_21 (by decide) (fun c_3 => ?_) (fun c_3 => ?_)
      · have ic_3 : r_1.toInt ≤ i.toInt := zi_le c_3
        have hP9 := hP.sub (ws' := [(h0, .inr (11, [.ref h_tape, .int h_fed, .ref h_taken, .ref h_parser, .ref h_machine, .ref h_countedCells, .ref h_plainCells, .ref h_printer, .int h_faultNumber, .int h_stopPlace, .int h_wasRun, .int h_runSteps, .int h_runCalls, .int h_hasValue, .long h_value, .int h_hasOther, .long h_otherValue])), (h_taken, .inr (9, [.ref gco, .ref gar, .ref gki, .ref gfu])), (gfu, .inr (3, [.ref fw, .ref fe, .ref ff, .int fz])), (fw, .inl (f1, 30, .inr (.inl fgw))), (fe, .inl (f2, 30, .inl fge)), (ff, .inl (f3, 150, .inl fgf)), (h_machine, .inr (5, [.ref mp, .ref m_c, .ref mce, .int mcn, .ref sk, .int ltp, .int ba, .ref kb, .ref kk, .ref ks, .int on, .ref sh, .int sn, .int mat, .int alw, .int st, .int mo, .int mh, .int sp, .long re])), (sk, .inl (sk1, 22424, .inr (.inl lgs)))]) [0, 1, 4, 5, 6, 7, 2, 3] rfl
        have hD9 := hD.sub (ws' := [(h0, .inr (11, [.ref h_tape, .int h_fed, .ref h_taken, .ref h_parser, .ref h_machine, .ref h_countedCells, .ref h_plainCells, .ref h_printer, .int h_faultNumber, .int h_stopPlace, .int h_wasRun, .int h_runSteps, .int h_runCalls, .int h_hasValue, .long h_value, .int h_hasOther, .long h_otherValue])), (h_taken, .inr (9, [.ref gco, .ref gar, .ref gki, .ref gfu])), (gfu, .inr (3, [.ref fw, .ref fe, .ref ff, .int fz])), (fw, .inl (f1, 30, .inr (.inl fgw))), (fe, .inl (f2, 30, .inl fge)), (ff, .inl (f3, 150, .inl fgf)), (h_machine, .inr (5, [.ref mp, .ref m_c, .ref mce, .int mcn, .ref sk, .int ltp, .int ba, .ref kb, .ref kk, .ref ks, .int on, .ref sh, .int sn, .int mat, .int alw, .int st, .int mo, .int mh, .int sp, .long re])), (sk, .inl (sk1, 22424, .inr (.inl lgs)))]) [0, 1, 4, 5, 6, 7, 2, 3] (by decide) rfl
        have hK9 := hK.sub (tys' := [(f1, .long), (f2, .int), (f3, .int), (sk1, .long)]) [1, 2, 3, 0] rfl
        exact W.vret hx hb hr (fun t ht hW => ⟨⟨(ltp, lgs), rfl, ⟨by omega, (fun k hk => hti k (by have h9a := zn_nat (x := i) (by omega); have h9b := zn_nat (x := ltp) (by omega); omega)), (fun k hk => htq k (by have h9a := zn_nat (x := i) (by omega); have h9b := zn_nat (x := ltp) (by omega); omega))⟩, by rw [ht]; exact hP9, va_K.moved hW.alike hK9, hD9⟩, hS.F ht⟩) hS.2.2 dX11_tellInts_86
      · have ic_3 : i.toInt < r_1.toInt := zi_nle c_3
        refine lv_iload hx hb dX11_tellInts_24 (lv_at hl 0 rfl) ?_
        refine lv_if_ne (tgt := 33) hx hb dX11_tellInts_26 (by decide) (fun c_4 => ?_) (fun c_4 => ?_)
        · have ic_4 : i.toInt ≠ 0 := zi_ne c_4
          refine lv_iload hx hb dX11_tellInts_33 (lv_at hl 0 rfl) ?_
          refine lv_iconst (v := 1) hx hb dX11_tellInts_35 (by decide) ?_
          refine lv_icmp_ne (tgt := 43) hx hb dX11_tellInts_36 (by decide) (fun c_5 => ?_) (fun c_5 => ?_)
          · have ic_5 : i.toInt ≠ 1 := zi_ne c_5
            refine lv_iload hx hb dX11_tellInts_43 (lv_at hl 0 rfl) ?_
            refine lv_iconst (v := 2) hx hb dX11_tellInts_45 (by decide) ?_
            refine lv_icmp_ne (tgt := 54) hx hb dX11_tellInts_46 (by decide) (fun c_6 => ?_) (fun c_6 => ?_)
            · have ic_6 : i.toInt ≠ 2 := zi_ne c_6
              refine lv_iload hx hb dX11_tellInts_54 (lv_at hl 0 rfl) ?_
              refine lv_iconst (v := 3) hx hb dX11_tellInts_56 (by decide) ?_
              refine lv_icmp_ne (tgt := 65) hx hb dX11_tellInts_57 (by decide) (fun c_7 => ?_) (fun c_7 => ?_)
              · have ic_7 : i.toInt ≠ 3 := zi_ne c_7
                refine lv_iconst (v := 0) hx hb dX11_tellInts_65 (by decide) ?_
                refine lv_istore (lv' := [(8, .int 0), (7, .int i), (6, .int r_1), (0, .ref h0), (1, .int fu), (2, .int ia), (3, .int ib), (4, .int ic), (5, .int id_)]) hx hb dX11_tellInts_66 hl (by decide) rfl (fun ls hl => ?_)
                refine lv_aload_n hx hb dX11_tellInts_68 rfl (lv_at hl 3 rfl) ?_
                refine va_get (D := (dC, dI)) (ci := 11) (v := .ref h_machine) (C := RX11) (T := TX11) (N := 17) hx hb hA zin_X11 hown hK hP 0 rfl rfl 4 (by decide) (hA _ wi_588) (fun _ h9 => h9) rfl dX11_tellInts_69 ?_
                refine lv_iload hx hb dX11_tellInts_72 (lv_at hl 0 rfl) ?_
                have hPc := hP.sub (ws' := []) [] rfl
                have hDc := hD.sub (ws' := []) [] (by decide) rfl
                have hKc := hK.sub (tys' := []) [] rfl
                have hFc := va_free (wc := []) hD hS hAA [] rfl
                refine va_calll (va_runS (As := [.int 0]) (rest := [.ref h_machine]) ⟨hx, hb, hml, hown, hA⟩ (c_X1_ofInt_x l dC dI aK aV 0 H.size) (va_cwS 1 hA (zw_S wi_1101 wi_1102 wi_140 (zw_good wi_1103)) rfl rfl rfl (by decide +kernel) ⟨(Nat.le_of_ble_eq_true rfl), (Nat.le_of_ble_eq_true rfl)⟩) ⟨zP_blind, zz_pre hKc hPc hDc hN hT hS hFc⟩ rfl rfl hl.1 rfl (lv_room (Nat.le_of_ble_eq_true rfl)) dX11_tellInts_74 ⟨(Nat.le_of_ble_eq_true rfl), (Nat.le_of_ble_eq_true rfl)⟩) hS (fun q _ h => hFc q h) hFc (fun r_8 u t H1 locs ht hvm hw hB hz1 hk1 hS => ?_)
                obtain ⟨hP1, hK1, hD1⟩ := hB
                rw [ht] at hP1
                have hK1 := va_K.moved hvm.symm hK1
                obtain ⟨hP, hD⟩ := va_join (wr := [(h0, .inr (11, [.ref h_tape, .int h_fed, .ref h_taken, .ref h_parser, .ref h_machine, .ref h_countedCells, .ref h_plainCells, .ref h_printer, .int h_faultNumber, .int h_stopPlace, .int h_wasRun, .int h_runSteps, .int h_runCalls, .int h_hasValue, .long h_value, .int h_hasOther, .long h_otherValue])), (h_taken, .inr (9, [.ref gco, .ref gar, .ref gki, .ref gfu])), (h_machine, .inr (5, [.ref mp, .ref m_c, .ref mce, .int mcn, .ref sk, .int ltp, .int ba, .ref kb, .ref kk, .ref ks, .int on, .ref sh, .int sn, .int mat, .int alw, .int st, .int mo, .int mh, .int sp, .long re])), (sk, .inl (sk1, 22424, .inr (.inl lgs))), (gfu, .inr (3, [.ref fw, .ref fe, .ref ff, .int fz])), (fw, .inl (f1, 30, .inr (.inl fgw))), (fe, .inl (f2, 30, .inl fge)), (ff, .inl (f3, 150, .inl fgf))]) (w1 := []) hP hD [] [0, 1, 2, 3, 4, 5, 6, 7] rfl rfl (by decide) (by decide) hk1 hFc hP1 hD1
                have hK := (hK.sub (tys' := [(sk1, .long), (f1, .long), (f2, .int), (f3, .int)]) [0, 1, 2, 3] rfl).app hK1
                generalize H1 = H at hP hS ⊢
                have hP : va_P (dC, dI) vwCl [(h0, .inr (11, [.ref h_tape, .int h_fed, .ref h_taken, .ref h_parser, .ref h_machine, .ref h_countedCells, .ref h_plainCells, .ref h_printer, .int h_faultNumber, .int h_stopPlace, .int h_wasRun, .int h_runSteps, .int h_runCalls, .int h_hasValue, .long h_value, .int h_hasOther, .long h_otherValue])), (h_taken, .inr (9, [.ref gco, .ref gar, .ref gki, .ref gfu])), (h_machine, .inr (5, [.ref mp, .ref m_c, .ref mce, .int mcn, .ref sk, .int ltp, .int ba, .ref kb, .ref kk, .ref ks, .int on, .ref sh, .int sn, .int mat, .int alw, .int st, .int mo, .int mh, .int sp, .long re])), (sk, .inl (sk1, 22424, .inr (.inl lgs))), (gfu, .inr (3, [.ref fw, .ref fe, .ref ff, .int fz])), (fw, .inl (f1, 30, .inr (.inl fgw))), (fe, .inl (f2, 30, .inl fge)), (ff, .inl (f3, 150, .inl fgf))] H := hP
                have hD : va_D A [(h0, .inr (11, [.ref h_tape, .int h_fed, .ref h_taken, .ref h_parser, .ref h_machine, .ref h_countedCells, .ref h_plainCells, .ref h_printer, .int h_faultNumber, .int h_stopPlace, .int h_wasRun, .int h_runSteps, .int h_runCalls, .int h_hasValue, .long h_value, .int h_hasOther, .long h_otherValue])), (h_taken, .inr (9, [.ref gco, .ref gar, .ref gki, .ref gfu])), (h_machine, .inr (5, [.ref mp, .ref m_c, .ref mce, .int mcn, .ref sk, .int ltp, .int ba, .ref kb, .ref kk, .ref ks, .int on, .ref sh, .int sn, .int mat, .int alw, .int st, .int mo, .int mh, .int sp, .long re])), (sk, .inl (sk1, 22424, .inr (.inl lgs))), (gfu, .inr (3, [.ref fw, .ref fe, .ref ff, .int fz])), (fw, .inl (f1, 30, .inr (.inl fgw))), (fe, .inl (f2, 30, .inl fge)), (ff, .inl (f3, 150, .inl fgf))] := hD
                have hK : va_K (dC, dI) vwCl [(sk1, .long), (f1, .long), (f2, .int), (f3, .int)] s := hK
                obtain ⟨hq_9, hq_10⟩ := hw
                have hPc := hP.sub (ws' := [(h_machine, .inr (5, [.ref mp, .ref m_c, .ref mce, .int mcn, .ref sk, .int ltp, .int ba, .ref kb, .ref kk, .ref ks, .int on, .ref sh, .int sn, .int mat, .int alw, .int st, .int mo, .int mh, .int sp, .long re])), (sk, .inl (sk1, 22424, .inr (.inl lgs)))]) [2, 3] rfl
                have hDc := hD.sub (ws' := [(h_machine, .inr (5, [.ref mp, .ref m_c, .ref mce, .int mcn, .ref sk, .int ltp, .int ba, .ref kb, .ref kk, .ref ks, .int on, .ref sh, .int sn, .int mat, .int alw, .int st, .int mo, .int mh, .int sp, .long re])), (sk, .inl (sk1, 22424, .inr (.inl lgs)))]) [2, 3] (by decide) rfl
                have hKc := hK.sub (tys' := [(sk1, .long)]) [0] rfl
                have hFc := va_free (wc := [(h_machine, .inr (5, [.ref mp, .ref m_c, .ref mce, .int mcn, .ref sk, .int ltp, .int ba, .ref kb, .ref kk, .ref ks, .int on, .ref sh, .int sn, .int mat, .int alw, .int st, .int mo, .int mh, .int sp, .long re])), (sk, .inl (sk1, 22424, .inr (.inl lgs)))]) hD hS hAA [2, 3] rfl
                refine va_callv (va_runV (As := [.long r_8]) (rest := []) ⟨hx, hb, hml, hown, hA⟩ (c_X5_push l dC dI aK aV h_machine mp m_c mce sk kb kk ks sh mcn ltp ba on sn mat alw st mo mh sp re sk1 lgs r_8 H.size (by omega) (by omega)) (cwV 1 hA (zw_V wi_1105 wi_1106 wi_1107 wi_139 (zw_good wi_1108)) rfl rfl rfl (by decide +kernel) ⟨(Nat.le_of_ble_eq_true rfl), (Nat.le_of_ble_eq_true rfl)⟩) ⟨zP_blind, va_recv hKc hPc (ci := 5) (q0 := 0) rfl rfl, zz_pre hKc hPc hDc hN hT hS hFc⟩ rfl rfl hl.1 rfl (lv_room (Nat.le_of_ble_eq_true rfl)) dX11_tellInts_77 ⟨(Nat.le_of_ble_eq_true rfl), (Nat.le_of_ble_eq_true rfl)⟩) hS (fun q _ h => hFc q h) hFc (fun u t H1 locs ht hvm hw hB hz1 hk1 hS => ?_)
                obtain ⟨tp_12, gs_13⟩ := u
                obtain ⟨hP1, hK1, hD1⟩ := hB
                rw [ht] at hP1
                have hK1 := va_K.moved hvm.symm hK1
                obtain ⟨hP, hD⟩ := va_join (wr := [(h0, .inr (11, [.ref h_tape, .int h_fed, .ref h_taken, .ref h_parser, .ref h_machine, .ref h_countedCells, .ref h_plainCells, .ref h_printer, .int h_faultNumber, .int h_stopPlace, .int h_wasRun, .int h_runSteps, .int h_runCalls, .int h_hasValue, .long h_value, .int h_hasOther, .long h_otherValue])), (h_taken, .inr (9, [.ref gco, .ref gar, .ref gki, .ref gfu])), (gfu, .inr (3, [.ref fw, .ref fe, .ref ff, .int fz])), (fw, .inl (f1, 30, .inr (.inl fgw))), (fe, .inl (f2, 30, .inl fge)), (ff, .inl (f3, 150, .inl fgf))]) (w1 := [(h_machine, .inr (5, [.ref mp, .ref m_c, .ref mce, .int mcn, .ref sk, .int tp_12, .int ba, .ref kb, .ref kk, .ref ks, .int on, .ref sh, .int sn, .int mat, .int alw, .int st, .int mo, .int mh, .int sp, .long re])), (sk, .inl (sk1, 22424, .inr (.inl gs_13)))]) hP hD [2, 3] [0, 1, 4, 5, 6, 7] rfl rfl (by decide) (by decide) hk1 hFc hP1 hD1
                have hK := (hK.sub (tys' := [(f1, .long), (f2, .int), (f3, .int)]) [1, 2, 3] rfl).app hK1
                generalize H1 = H at hP hS ⊢
                have hP : va_P (dC, dI) vwCl [(h0, .inr (11, [.ref h_tape, .int h_fed, .ref h_taken, .ref h_parser, .ref h_machine, .ref h_countedCells, .ref h_plainCells, .ref h_printer, .int h_faultNumber, .int h_stopPlace, .int h_wasRun, .int h_runSteps, .int h_runCalls, .int h_hasValue, .long h_value, .int h_hasOther, .long h_otherValue])), (h_taken, .inr (9, [.ref gco, .ref gar, .ref gki, .ref gfu])), (gfu, .inr (3, [.ref fw, .ref fe, .ref ff, .int fz])), (fw, .inl (f1, 30, .inr (.inl fgw))), (fe, .inl (f2, 30, .inl fge)), (ff, .inl (f3, 150, .inl fgf)), (h_machine, .inr (5, [.ref mp, .ref m_c, .ref mce, .int mcn, .ref sk, .int tp_12, .int ba, .ref kb, .ref kk, .ref ks, .int on, .ref sh, .int sn, .int mat, .int alw, .int st, .int mo, .int mh, .int sp, .long re])), (sk, .inl (sk1, 22424, .inr (.inl gs_13)))] H := hP
                have hD : va_D A [(h0, .inr (11, [.ref h_tape, .int h_fed, .ref h_taken, .ref h_parser, .ref h_machine, .ref h_countedCells, .ref h_plainCells, .ref h_printer, .int h_faultNumber, .int h_stopPlace, .int h_wasRun, .int h_runSteps, .int h_runCalls, .int h_hasValue, .long h_value, .int h_hasOther, .long h_otherValue])), (h_taken, .inr (9, [.ref gco, .ref gar, .ref gki, .ref gfu])), (gfu, .inr (3, [.ref fw, .ref fe, .ref ff, .int fz])), (fw, .inl (f1, 30, .inr (.inl fgw))), (fe, .inl (f2, 30, .inl fge)), (ff, .inl (f3, 150, .inl fgf)), (h_machine, .inr (5, [.ref mp, .ref m_c, .ref mce, .int mcn, .ref sk, .int tp_12, .int ba, .ref kb, .ref kk, .ref ks, .int on, .ref sh, .int sn, .int mat, .int alw, .int st, .int mo, .int mh, .int sp, .long re])), (sk, .inl (sk1, 22424, .inr (.inl gs_13)))] := hD
                have hK : va_K (dC, dI) vwCl [(f1, .long), (f2, .int), (f3, .int), (sk1, .long)] s := hK
                obtain ⟨hq_14, hq_15⟩ := hw
                obtain ⟨x_16, ex_16⟩ : ∃ y : Int32, y = i + Int32.ofInt 1 := ⟨_, rfl⟩
                refine lv_iinc (v := x_16) (lv' := [(7, .int x_16), (8, .int 0), (6, .int r_1), (0, .ref h0), (1, .int fu), (2, .int ia), (3, .int ib), (4, .int ic), (5, .int id_)]) hx hb dX11_tellInts_80 hl (k := 1) rfl (by rw [ex_16]) (by decide) rfl (fun ls hl => ?_)
                have ix_16 : x_16.toInt = i.toInt + 1 := by rw [ex_16]; exact zi_addc (by decide) (by omega) (by omega)
                refine lv_goto (tgt := 17) hx hb dX11_tellInts_83 (by decide) ?_
                have hti_17 : ∀ k, k < Int32.toNatClampNeg x_16 → zhs (gs_13 k) = 0 := zti_s hti hq_15 (by have h9a := zn_nat (x := i) (by omega); have h9b := zn_nat (x := ltp) (by omega); omega) hq_9 (by have h9a := zn_nat (x := i) (by omega); have h9b := zn_nat (x := x_16) (by omega); omega)
                have htq_18 : ∀ k, k < Int32.toNatClampNeg x_16 → gs_13 k = pv0 (if k = 0 then ia else if k = 1 then ib else if k = 2 then ic else if k = 3 then id_ else 0) := zti_q (q := fun k => if k = 0 then ia else if k = 1 then ib else if k = 2 then ic else if k = 3 then id_ else 0) htq hq_15 (by have h9a := zn_nat (x := i) (by omega); have h9b := zn_nat (x := ltp) (by omega); omega) hq_9 (by have h9a := zn_nat (x := i) (by omega); rw [hq_10]; first | exact (if_pos (by omega)).symm | exact ((if_neg (by omega)).trans (if_pos (by omega))).symm | exact ((if_neg (by omega)).trans ((if_neg (by omega)).trans (if_pos (by omega)))).symm | exact ((if_neg (by omega)).trans ((if_neg (by omega)).trans ((if_neg (by omega)).trans (if_pos (by omega))))).symm | exact ((if_neg (by omega)).trans ((if_neg (by omega)).trans ((if_neg (by omega)).trans (if_neg (by omega))))).symm) (by have h9a := zn_nat (x := i) (by omega); have h9b := zn_nat (x := x_16) (by omega); omega)
                exact ih x_16 tp_12 gs_13 _ _ _ (by omega) (by omega) (by omega) (by omega) hti_17 htq_18 (hP.sub [0, 1, 6, 7, 2, 3, 4, 5] rfl) (hD.sub [0, 1, 6, 7, 2, 3, 4, 5] (by decide) rfl) hS (lv_sub hl [0, 2, 3, 4, 5, 6, 7, 8] rfl)
              · have ic_7 : i.toInt = 3 := zi_eq c_7
                refine lv_iload hx hb dX11_tellInts_60 (lv_at hl 7 rfl) ?_
                refine lv_goto (tgt := 66) hx hb dX11_tellInts_62 (by decide) ?_
                refine lv_istore (lv' := [(8, .int id_), (7, .int i), (6, .int r_1), (0, .ref h0), (1, .int fu), (2, .int ia), (3, .int ib), (4, .int ic), (5, .int id_)]) hx hb dX11_tellInts_66 hl (by decide) rfl (fun ls hl => ?_)
                refine lv_aload_n hx hb dX11_tellInts_68 rfl (lv_at hl 3 rfl) ?_
                refine va_get (D := (dC, dI)) (ci := 11) (v := .ref h_machine) (C := RX11) (T := TX11) (N := 17) hx hb hA zin_X11 hown hK hP 0 rfl rfl 4 (by decide) (hA _ wi_588) (fun _ h9 => h9) rfl dX11_tellInts_69 ?_
                refine lv_iload hx hb dX11_tellInts_72 (lv_at hl 0 rfl) ?_
                have hPc := hP.sub (ws' := []) [] rfl
                have hDc := hD.sub (ws' := []) [] (by decide) rfl
                have hKc := hK.sub (tys' := []) [] rfl
                have hFc := va_free (wc := []) hD hS hAA [] rfl
                refine va_calll (va_runS (As := [.int id_]) (rest := [.ref h_machine]) ⟨hx, hb, hml, hown, hA⟩ (c_X1_ofInt_x l dC dI aK aV id_ H.size) (va_cwS 1 hA (zw_S wi_1101 wi_1102 wi_140 (zw_good wi_1103)) rfl rfl rfl (by decide +kernel) ⟨(Nat.le_of_ble_eq_true rfl), (Nat.le_of_ble_eq_true rfl)⟩) ⟨zP_blind, zz_pre hKc hPc hDc hN hT hS hFc⟩ rfl rfl hl.1 rfl (lv_room (Nat.le_of_ble_eq_true rfl)) dX11_tellInts_74 ⟨(Nat.le_of_ble_eq_true rfl), (Nat.le_of_ble_eq_true rfl)⟩) hS (fun q _ h => hFc q h) hFc (fun r_19 u t H1 locs ht hvm hw hB hz1 hk1 hS => ?_)
                obtain ⟨hP1, hK1, hD1⟩ := hB
                rw [ht] at hP1
                have hK1 := va_K.moved hvm.symm hK1
                obtain ⟨hP, hD⟩ := va_join (wr := [(h0, .inr (11, [.ref h_tape, .int h_fed, .ref h_taken, .ref h_parser, .ref h_machine, .ref h_countedCells, .ref h_plainCells, .ref h_printer, .int h_faultNumber, .int h_stopPlace, .int h_wasRun, .int h_runSteps, .int h_runCalls, .int h_hasValue, .long h_value, .int h_hasOther, .long h_otherValue])), (h_taken, .inr (9, [.ref gco, .ref gar, .ref gki, .ref gfu])), (h_machine, .inr (5, [.ref mp, .ref m_c, .ref mce, .int mcn, .ref sk, .int ltp, .int ba, .ref kb, .ref kk, .ref ks, .int on, .ref sh, .int sn, .int mat, .int alw, .int st, .int mo, .int mh, .int sp, .long re])), (sk, .inl (sk1, 22424, .inr (.inl lgs))), (gfu, .inr (3, [.ref fw, .ref fe, .ref ff, .int fz])), (fw, .inl (f1, 30, .inr (.inl fgw))), (fe, .inl (f2, 30, .inl fge)), (ff, .inl (f3, 150, .inl fgf))]) (w1 := []) hP hD [] [0, 1, 2, 3, 4, 5, 6, 7] rfl rfl (by decide) (by decide) hk1 hFc hP1 hD1
                have hK := (hK.sub (tys' := [(sk1, .long), (f1, .long), (f2, .int), (f3, .int)]) [0, 1, 2, 3] rfl).app hK1
                generalize H1 = H at hP hS ⊢
                have hP : va_P (dC, dI) vwCl [(h0, .inr (11, [.ref h_tape, .int h_fed, .ref h_taken, .ref h_parser, .ref h_machine, .ref h_countedCells, .ref h_plainCells, .ref h_printer, .int h_faultNumber, .int h_stopPlace, .int h_wasRun, .int h_runSteps, .int h_runCalls, .int h_hasValue, .long h_value, .int h_hasOther, .long h_otherValue])), (h_taken, .inr (9, [.ref gco, .ref gar, .ref gki, .ref gfu])), (h_machine, .inr (5, [.ref mp, .ref m_c, .ref mce, .int mcn, .ref sk, .int ltp, .int ba, .ref kb, .ref kk, .ref ks, .int on, .ref sh, .int sn, .int mat, .int alw, .int st, .int mo, .int mh, .int sp, .long re])), (sk, .inl (sk1, 22424, .inr (.inl lgs))), (gfu, .inr (3, [.ref fw, .ref fe, .ref ff, .int fz])), (fw, .inl (f1, 30, .inr (.inl fgw))), (fe, .inl (f2, 30, .inl fge)), (ff, .inl (f3, 150, .inl fgf))] H := hP
                have hD : va_D A [(h0, .inr (11, [.ref h_tape, .int h_fed, .ref h_taken, .ref h_parser, .ref h_machine, .ref h_countedCells, .ref h_plainCells, .ref h_printer, .int h_faultNumber, .int h_stopPlace, .int h_wasRun, .int h_runSteps, .int h_runCalls, .int h_hasValue, .long h_value, .int h_hasOther, .long h_otherValue])), (h_taken, .inr (9, [.ref gco, .ref gar, .ref gki, .ref gfu])), (h_machine, .inr (5, [.ref mp, .ref m_c, .ref mce, .int mcn, .ref sk, .int ltp, .int ba, .ref kb, .ref kk, .ref ks, .int on, .ref sh, .int sn, .int mat, .int alw, .int st, .int mo, .int mh, .int sp, .long re])), (sk, .inl (sk1, 22424, .inr (.inl lgs))), (gfu, .inr (3, [.ref fw, .ref fe, .ref ff, .int fz])), (fw, .inl (f1, 30, .inr (.inl fgw))), (fe, .inl (f2, 30, .inl fge)), (ff, .inl (f3, 150, .inl fgf))] := hD
                have hK : va_K (dC, dI) vwCl [(sk1, .long), (f1, .long), (f2, .int), (f3, .int)] s := hK
                obtain ⟨hq_20, hq_21⟩ := hw
                have hPc := hP.sub (ws' := [(h_machine, .inr (5, [.ref mp, .ref m_c, .ref mce, .int mcn, .ref sk, .int ltp, .int ba, .ref kb, .ref kk, .ref ks, .int on, .ref sh, .int sn, .int mat, .int alw, .int st, .int mo, .int mh, .int sp, .long re])), (sk, .inl (sk1, 22424, .inr (.inl lgs)))]) [2, 3] rfl
                have hDc := hD.sub (ws' := [(h_machine, .inr (5, [.ref mp, .ref m_c, .ref mce, .int mcn, .ref sk, .int ltp, .int ba, .ref kb, .ref kk, .ref ks, .int on, .ref sh, .int sn, .int mat, .int alw, .int st, .int mo, .int mh, .int sp, .long re])), (sk, .inl (sk1, 22424, .inr (.inl lgs)))]) [2, 3] (by decide) rfl
                have hKc := hK.sub (tys' := [(sk1, .long)]) [0] rfl
                have hFc := va_free (wc := [(h_machine, .inr (5, [.ref mp, .ref m_c, .ref mce, .int mcn, .ref sk, .int ltp, .int ba, .ref kb, .ref kk, .ref ks, .int on, .ref sh, .int sn, .int mat, .int alw, .int st, .int mo, .int mh, .int sp, .long re])), (sk, .inl (sk1, 22424, .inr (.inl lgs)))]) hD hS hAA [2, 3] rfl
                refine va_callv (va_runV (As := [.long r_19]) (rest := []) ⟨hx, hb, hml, hown, hA⟩ (c_X5_push l dC dI aK aV h_machine mp m_c mce sk kb kk ks sh mcn ltp ba on sn mat alw st mo mh sp re sk1 lgs r_19 H.size (by omega) (by omega)) (cwV 1 hA (zw_V wi_1105 wi_1106 wi_1107 wi_139 (zw_good wi_1108)) rfl rfl rfl (by decide +kernel) ⟨(Nat.le_of_ble_eq_true rfl), (Nat.le_of_ble_eq_true rfl)⟩) ⟨zP_blind, va_recv hKc hPc (ci := 5) (q0 := 0) rfl rfl, zz_pre hKc hPc hDc hN hT hS hFc⟩ rfl rfl hl.1 rfl (lv_room (Nat.le_of_ble_eq_true rfl)) dX11_tellInts_77 ⟨(Nat.le_of_ble_eq_true rfl), (Nat.le_of_ble_eq_true rfl)⟩) hS (fun q _ h => hFc q h) hFc (fun u t H1 locs ht hvm hw hB hz1 hk1 hS => ?_)
                obtain ⟨tp_23, gs_24⟩ := u
                obtain ⟨hP1, hK1, hD1⟩ := hB
                rw [ht] at hP1
                have hK1 := va_K.moved hvm.symm hK1
                obtain ⟨hP, hD⟩ := va_join (wr := [(h0, .inr (11, [.ref h_tape, .int h_fed, .ref h_taken, .ref h_parser, .ref h_machine, .ref h_countedCells, .ref h_plainCells, .ref h_printer, .int h_faultNumber, .int h_stopPlace, .int h_wasRun, .int h_runSteps, .int h_runCalls, .int h_hasValue, .long h_value, .int h_hasOther, .long h_otherValue])), (h_taken, .inr (9, [.ref gco, .ref gar, .ref gki, .ref gfu])), (gfu, .inr (3, [.ref fw, .ref fe, .ref ff, .int fz])), (fw, .inl (f1, 30, .inr (.inl fgw))), (fe, .inl (f2, 30, .inl fge)), (ff, .inl (f3, 150, .inl fgf))]) (w1 := [(h_machine, .inr (5, [.ref mp, .ref m_c, .ref mce, .int mcn, .ref sk, .int tp_23, .int ba, .ref kb, .ref kk, .ref ks, .int on, .ref sh, .int sn, .int mat, .int alw, .int st, .int mo, .int mh, .int sp, .long re])), (sk, .inl (sk1, 22424, .inr (.inl gs_24)))]) hP hD [2, 3] [0, 1, 4, 5, 6, 7] rfl rfl (by decide) (by decide) hk1 hFc hP1 hD1
                have hK := (hK.sub (tys' := [(f1, .long), (f2, .int), (f3, .int)]) [1, 2, 3] rfl).app hK1
                generalize H1 = H at hP hS ⊢
                have hP : va_P (dC, dI) vwCl [(h0, .inr (11, [.ref h_tape, .int h_fed, .ref h_taken, .ref h_parser, .ref h_machine, .ref h_countedCells, .ref h_plainCells, .ref h_printer, .int h_faultNumber, .int h_stopPlace, .int h_wasRun, .int h_runSteps, .int h_runCalls, .int h_hasValue, .long h_value, .int h_hasOther, .long h_otherValue])), (h_taken, .inr (9, [.ref gco, .ref gar, .ref gki, .ref gfu])), (gfu, .inr (3, [.ref fw, .ref fe, .ref ff, .int fz])), (fw, .inl (f1, 30, .inr (.inl fgw))), (fe, .inl (f2, 30, .inl fge)), (ff, .inl (f3, 150, .inl fgf)), (h_machine, .inr (5, [.ref mp, .ref m_c, .ref mce, .int mcn, .ref sk, .int tp_23, .int ba, .ref kb, .ref kk, .ref ks, .int on, .ref sh, .int sn, .int mat, .int alw, .int st, .int mo, .int mh, .int sp, .long re])), (sk, .inl (sk1, 22424, .inr (.inl gs_24)))] H := hP
                have hD : va_D A [(h0, .inr (11, [.ref h_tape, .int h_fed, .ref h_taken, .ref h_parser, .ref h_machine, .ref h_countedCells, .ref h_plainCells, .ref h_printer, .int h_faultNumber, .int h_stopPlace, .int h_wasRun, .int h_runSteps, .int h_runCalls, .int h_hasValue, .long h_value, .int h_hasOther, .long h_otherValue])), (h_taken, .inr (9, [.ref gco, .ref gar, .ref gki, .ref gfu])), (gfu, .inr (3, [.ref fw, .ref fe, .ref ff, .int fz])), (fw, .inl (f1, 30, .inr (.inl fgw))), (fe, .inl (f2, 30, .inl fge)), (ff, .inl (f3, 150, .inl fgf)), (h_machine, .inr (5, [.ref mp, .ref m_c, .ref mce, .int mcn, .ref sk, .int tp_23, .int ba, .ref kb, .ref kk, .ref ks, .int on, .ref sh, .int sn, .int mat, .int alw, .int st, .int mo, .int mh, .int sp, .long re])), (sk, .inl (sk1, 22424, .inr (.inl gs_24)))] := hD
                have hK : va_K (dC, dI) vwCl [(f1, .long), (f2, .int), (f3, .int), (sk1, .long)] s := hK
                obtain ⟨hq_25, hq_26⟩ := hw
                obtain ⟨x_27, ex_27⟩ : ∃ y : Int32, y = i + Int32.ofInt 1 := ⟨_, rfl⟩
                refine lv_iinc (v := x_27) (lv' := [(7, .int x_27), (8, .int id_), (6, .int r_1), (0, .ref h0), (1, .int fu), (2, .int ia), (3, .int ib), (4, .int ic), (5, .int id_)]) hx hb dX11_tellInts_80 hl (k := 1) rfl (by rw [ex_27]) (by decide) rfl (fun ls hl => ?_)
                have ix_27 : x_27.toInt = i.toInt + 1 := by rw [ex_27]; exact zi_addc (by decide) (by omega) (by omega)
                refine lv_goto (tgt := 17) hx hb dX11_tellInts_83 (by decide) ?_
                have hti_28 : ∀ k, k < Int32.toNatClampNeg x_27 → zhs (gs_24 k) = 0 := zti_s hti hq_26 (by have h9a := zn_nat (x := i) (by omega); have h9b := zn_nat (x := ltp) (by omega); omega) hq_20 (by have h9a := zn_nat (x := i) (by omega); have h9b := zn_nat (x := x_27) (by omega); omega)
                have htq_29 : ∀ k, k < Int32.toNatClampNeg x_27 → gs_24 k = pv0 (if k = 0 then ia else if k = 1 then ib else if k = 2 then ic else if k = 3 then id_ else 0) := zti_q (q := fun k => if k = 0 then ia else if k = 1 then ib else if k = 2 then ic else if k = 3 then id_ else 0) htq hq_26 (by have h9a := zn_nat (x := i) (by omega); have h9b := zn_nat (x := ltp) (by omega); omega) hq_20 (by have h9a := zn_nat (x := i) (by omega); rw [hq_21]; first | exact (if_pos (by omega)).symm | exact ((if_neg (by omega)).trans (if_pos (by omega))).symm | exact ((if_neg (by omega)).trans ((if_neg (by omega)).trans (if_pos (by omega)))).symm | exact ((if_neg (by omega)).trans ((if_neg (by omega)).trans ((if_neg (by omega)).trans (if_pos (by omega))))).symm | exact ((if_neg (by omega)).trans ((if_neg (by omega)).trans ((if_neg (by omega)).trans (if_neg (by omega))))).symm) (by have h9a := zn_nat (x := i) (by omega); have h9b := zn_nat (x := x_27) (by omega); omega)
                exact ih x_27 tp_23 gs_24 _ _ _ (by omega) (by omega) (by omega) (by omega) hti_28 htq_29 (hP.sub [0, 1, 6, 7, 2, 3, 4, 5] rfl) (hD.sub [0, 1, 6, 7, 2, 3, 4, 5] (by decide) rfl) hS (lv_sub hl [0, 2, 3, 4, 5, 6, 7, 8] rfl)
            · have ic_6 : i.toInt = 2 := zi_eq c_6
              refine lv_iload hx hb dX11_tellInts_49 (lv_at hl 6 rfl) ?_
              refine lv_goto (tgt := 66) hx hb dX11_tellInts_51 (by decide) ?_
              refine lv_istore (lv' := [(8, .int ic), (7, .int i), (6, .int r_1), (0, .ref h0), (1, .int fu), (2, .int ia), (3, .int ib), (4, .int ic), (5, .int id_)]) hx hb dX11_tellInts_66 hl (by decide) rfl (fun ls hl => ?_)
              refine lv_aload_n hx hb dX11_tellInts_68 rfl (lv_at hl 3 rfl) ?_
              refine va_get (D := (dC, dI)) (ci := 11) (v := .ref h_machine) (C := RX11) (T := TX11) (N := 17) hx hb hA zin_X11 hown hK hP 0 rfl rfl 4 (by decide) (hA _ wi_588) (fun _ h9 => h9) rfl dX11_tellInts_69 ?_
              refine lv_iload hx hb dX11_tellInts_72 (lv_at hl 0 rfl) ?_
              have hPc := hP.sub (ws' := []) [] rfl
              have hDc := hD.sub (ws' := []) [] (by decide) rfl
              have hKc := hK.sub (tys' := []) [] rfl
              have hFc := va_free (wc := []) hD hS hAA [] rfl
              refine va_calll (va_runS (As := [.int ic]) (rest := [.ref h_machine]) ⟨hx, hb, hml, hown, hA⟩ (c_X1_ofInt_x l dC dI aK aV ic H.size) (va_cwS 1 hA (zw_S wi_1101 wi_1102 wi_140 (zw_good wi_1103)) rfl rfl rfl (by decide +kernel) ⟨(Nat.le_of_ble_eq_true rfl), (Nat.le_of_ble_eq_true rfl)⟩) ⟨zP_blind, zz_pre hKc hPc hDc hN hT hS hFc⟩ rfl rfl hl.1 rfl (lv_room (Nat.le_of_ble_eq_true rfl)) dX11_tellInts_74 ⟨(Nat.le_of_ble_eq_true rfl), (Nat.le_of_ble_eq_true rfl)⟩) hS (fun q _ h => hFc q h) hFc (fun r_30 u t H1 locs ht hvm hw hB hz1 hk1 hS => ?_)
              obtain ⟨hP1, hK1, hD1⟩ := hB
              rw [ht] at hP1
              have hK1 := va_K.moved hvm.symm hK1
              obtain ⟨hP, hD⟩ := va_join (wr := [(h0, .inr (11, [.ref h_tape, .int h_fed, .ref h_taken, .ref h_parser, .ref h_machine, .ref h_countedCells, .ref h_plainCells, .ref h_printer, .int h_faultNumber, .int h_stopPlace, .int h_wasRun, .int h_runSteps, .int h_runCalls, .int h_hasValue, .long h_value, .int h_hasOther, .long h_otherValue])), (h_taken, .inr (9, [.ref gco, .ref gar, .ref gki, .ref gfu])), (h_machine, .inr (5, [.ref mp, .ref m_c, .ref mce, .int mcn, .ref sk, .int ltp, .int ba, .ref kb, .ref kk, .ref ks, .int on, .ref sh, .int sn, .int mat, .int alw, .int st, .int mo, .int mh, .int sp, .long re])), (sk, .inl (sk1, 22424, .inr (.inl lgs))), (gfu, .inr (3, [.ref fw, .ref fe, .ref ff, .int fz])), (fw, .inl (f1, 30, .inr (.inl fgw))), (fe, .inl (f2, 30, .inl fge)), (ff, .inl (f3, 150, .inl fgf))]) (w1 := []) hP hD [] [0, 1, 2, 3, 4, 5, 6, 7] rfl rfl (by decide) (by decide) hk1 hFc hP1 hD1
              have hK := (hK.sub (tys' := [(sk1, .long), (f1, .long), (f2, .int), (f3, .int)]) [0, 1, 2, 3] rfl).app hK1
              generalize H1 = H at hP hS ⊢
              have hP : va_P (dC, dI) vwCl [(h0, .inr (11, [.ref h_tape, .int h_fed, .ref h_taken, .ref h_parser, .ref h_machine, .ref h_countedCells, .ref h_plainCells, .ref h_printer, .int h_faultNumber, .int h_stopPlace, .int h_wasRun, .int h_runSteps, .int h_runCalls, .int h_hasValue, .long h_value, .int h_hasOther, .long h_otherValue])), (h_taken, .inr (9, [.ref gco, .ref gar, .ref gki, .ref gfu])), (h_machine, .inr (5, [.ref mp, .ref m_c, .ref mce, .int mcn, .ref sk, .int ltp, .int ba, .ref kb, .ref kk, .ref ks, .int on, .ref sh, .int sn, .int mat, .int alw, .int st, .int mo, .int mh, .int sp, .long re])), (sk, .inl (sk1, 22424, .inr (.inl lgs))), (gfu, .inr (3, [.ref fw, .ref fe, .ref ff, .int fz])), (fw, .inl (f1, 30, .inr (.inl fgw))), (fe, .inl (f2, 30, .inl fge)), (ff, .inl (f3, 150, .inl fgf))] H := hP
              have hD : va_D A [(h0, .inr (11, [.ref h_tape, .int h_fed, .ref h_taken, .ref h_parser, .ref h_machine, .ref h_countedCells, .ref h_plainCells, .ref h_printer, .int h_faultNumber, .int h_stopPlace, .int h_wasRun, .int h_runSteps, .int h_runCalls, .int h_hasValue, .long h_value, .int h_hasOther, .long h_otherValue])), (h_taken, .inr (9, [.ref gco, .ref gar, .ref gki, .ref gfu])), (h_machine, .inr (5, [.ref mp, .ref m_c, .ref mce, .int mcn, .ref sk, .int ltp, .int ba, .ref kb, .ref kk, .ref ks, .int on, .ref sh, .int sn, .int mat, .int alw, .int st, .int mo, .int mh, .int sp, .long re])), (sk, .inl (sk1, 22424, .inr (.inl lgs))), (gfu, .inr (3, [.ref fw, .ref fe, .ref ff, .int fz])), (fw, .inl (f1, 30, .inr (.inl fgw))), (fe, .inl (f2, 30, .inl fge)), (ff, .inl (f3, 150, .inl fgf))] := hD
              have hK : va_K (dC, dI) vwCl [(sk1, .long), (f1, .long), (f2, .int), (f3, .int)] s := hK
              obtain ⟨hq_31, hq_32⟩ := hw
              have hPc := hP.sub (ws' := [(h_machine, .inr (5, [.ref mp, .ref m_c, .ref mce, .int mcn, .ref sk, .int ltp, .int ba, .ref kb, .ref kk, .ref ks, .int on, .ref sh, .int sn, .int mat, .int alw, .int st, .int mo, .int mh, .int sp, .long re])), (sk, .inl (sk1, 22424, .inr (.inl lgs)))]) [2, 3] rfl
              have hDc := hD.sub (ws' := [(h_machine, .inr (5, [.ref mp, .ref m_c, .ref mce, .int mcn, .ref sk, .int ltp, .int ba, .ref kb, .ref kk, .ref ks, .int on, .ref sh, .int sn, .int mat, .int alw, .int st, .int mo, .int mh, .int sp, .long re])), (sk, .inl (sk1, 22424, .inr (.inl lgs)))]) [2, 3] (by decide) rfl
              have hKc := hK.sub (tys' := [(sk1, .long)]) [0] rfl
              have hFc := va_free (wc := [(h_machine, .inr (5, [.ref mp, .ref m_c, .ref mce, .int mcn, .ref sk, .int ltp, .int ba, .ref kb, .ref kk, .ref ks, .int on, .ref sh, .int sn, .int mat, .int alw, .int st, .int mo, .int mh, .int sp, .long re])), (sk, .inl (sk1, 22424, .inr (.inl lgs)))]) hD hS hAA [2, 3] rfl
              refine va_callv (va_runV (As := [.long r_30]) (rest := []) ⟨hx, hb, hml, hown, hA⟩ (c_X5_push l dC dI aK aV h_machine mp m_c mce sk kb kk ks sh mcn ltp ba on sn mat alw st mo mh sp re sk1 lgs r_30 H.size (by omega) (by omega)) (cwV 1 hA (zw_V wi_1105 wi_1106 wi_1107 wi_139 (zw_good wi_1108)) rfl rfl rfl (by decide +kernel) ⟨(Nat.le_of_ble_eq_true rfl), (Nat.le_of_ble_eq_true rfl)⟩) ⟨zP_blind, va_recv hKc hPc (ci := 5) (q0 := 0) rfl rfl, zz_pre hKc hPc hDc hN hT hS hFc⟩ rfl rfl hl.1 rfl (lv_room (Nat.le_of_ble_eq_true rfl)) dX11_tellInts_77 ⟨(Nat.le_of_ble_eq_true rfl), (Nat.le_of_ble_eq_true rfl)⟩) hS (fun q _ h => hFc q h) hFc (fun u t H1 locs ht hvm hw hB hz1 hk1 hS => ?_)
              obtain ⟨tp_34, gs_35⟩ := u
              obtain ⟨hP1, hK1, hD1⟩ := hB
              rw [ht] at hP1
              have hK1 := va_K.moved hvm.symm hK1
              obtain ⟨hP, hD⟩ := va_join (wr := [(h0, .inr (11, [.ref h_tape, .int h_fed, .ref h_taken, .ref h_parser, .ref h_machine, .ref h_countedCells, .ref h_plainCells, .ref h_printer, .int h_faultNumber, .int h_stopPlace, .int h_wasRun, .int h_runSteps, .int h_runCalls, .int h_hasValue, .long h_value, .int h_hasOther, .long h_otherValue])), (h_taken, .inr (9, [.ref gco, .ref gar, .ref gki, .ref gfu])), (gfu, .inr (3, [.ref fw, .ref fe, .ref ff, .int fz])), (fw, .inl (f1, 30, .inr (.inl fgw))), (fe, .inl (f2, 30, .inl fge)), (ff, .inl (f3, 150, .inl fgf))]) (w1 := [(h_machine, .inr (5, [.ref mp, .ref m_c, .ref mce, .int mcn, .ref sk, .int tp_34, .int ba, .ref kb, .ref kk, .ref ks, .int on, .ref sh, .int sn, .int mat, .int alw, .int st, .int mo, .int mh, .int sp, .long re])), (sk, .inl (sk1, 22424, .inr (.inl gs_35)))]) hP hD [2, 3] [0, 1, 4, 5, 6, 7] rfl rfl (by decide) (by decide) hk1 hFc hP1 hD1
              have hK := (hK.sub (tys' := [(f1, .long), (f2, .int), (f3, .int)]) [1, 2, 3] rfl).app hK1
              generalize H1 = H at hP hS ⊢
              have hP : va_P (dC, dI) vwCl [(h0, .inr (11, [.ref h_tape, .int h_fed, .ref h_taken, .ref h_parser, .ref h_machine, .ref h_countedCells, .ref h_plainCells, .ref h_printer, .int h_faultNumber, .int h_stopPlace, .int h_wasRun, .int h_runSteps, .int h_runCalls, .int h_hasValue, .long h_value, .int h_hasOther, .long h_otherValue])), (h_taken, .inr (9, [.ref gco, .ref gar, .ref gki, .ref gfu])), (gfu, .inr (3, [.ref fw, .ref fe, .ref ff, .int fz])), (fw, .inl (f1, 30, .inr (.inl fgw))), (fe, .inl (f2, 30, .inl fge)), (ff, .inl (f3, 150, .inl fgf)), (h_machine, .inr (5, [.ref mp, .ref m_c, .ref mce, .int mcn, .ref sk, .int tp_34, .int ba, .ref kb, .ref kk, .ref ks, .int on, .ref sh, .int sn, .int mat, .int alw, .int st, .int mo, .int mh, .int sp, .long re])), (sk, .inl (sk1, 22424, .inr (.inl gs_35)))] H := hP
              have hD : va_D A [(h0, .inr (11, [.ref h_tape, .int h_fed, .ref h_taken, .ref h_parser, .ref h_machine, .ref h_countedCells, .ref h_plainCells, .ref h_printer, .int h_faultNumber, .int h_stopPlace, .int h_wasRun, .int h_runSteps, .int h_runCalls, .int h_hasValue, .long h_value, .int h_hasOther, .long h_otherValue])), (h_taken, .inr (9, [.ref gco, .ref gar, .ref gki, .ref gfu])), (gfu, .inr (3, [.ref fw, .ref fe, .ref ff, .int fz])), (fw, .inl (f1, 30, .inr (.inl fgw))), (fe, .inl (f2, 30, .inl fge)), (ff, .inl (f3, 150, .inl fgf)), (h_machine, .inr (5, [.ref mp, .ref m_c, .ref mce, .int mcn, .ref sk, .int tp_34, .int ba, .ref kb, .ref kk, .ref ks, .int on, .ref sh, .int sn, .int mat, .int alw, .int st, .int mo, .int mh, .int sp, .long re])), (sk, .inl (sk1, 22424, .inr (.inl gs_35)))] := hD
              have hK : va_K (dC, dI) vwCl [(f1, .long), (f2, .int), (f3, .int), (sk1, .long)] s := hK
              obtain ⟨hq_36, hq_37⟩ := hw
              obtain ⟨x_38, ex_38⟩ : ∃ y : Int32, y = i + Int32.ofInt 1 := ⟨_, rfl⟩
              refine lv_iinc (v := x_38) (lv' := [(7, .int x_38), (8, .int ic), (6, .int r_1), (0, .ref h0), (1, .int fu), (2, .int ia), (3, .int ib), (4, .int ic), (5, .int id_)]) hx hb dX11_tellInts_80 hl (k := 1) rfl (by rw [ex_38]) (by decide) rfl (fun ls hl => ?_)
              have ix_38 : x_38.toInt = i.toInt + 1 := by rw [ex_38]; exact zi_addc (by decide) (by omega) (by omega)
              refine lv_goto (tgt := 17) hx hb dX11_tellInts_83 (by decide) ?_
              have hti_39 : ∀ k, k < Int32.toNatClampNeg x_38 → zhs (gs_35 k) = 0 := zti_s hti hq_37 (by have h9a := zn_nat (x := i) (by omega); have h9b := zn_nat (x := ltp) (by omega); omega) hq_31 (by have h9a := zn_nat (x := i) (by omega); have h9b := zn_nat (x := x_38) (by omega); omega)
              have htq_40 : ∀ k, k < Int32.toNatClampNeg x_38 → gs_35 k = pv0 (if k = 0 then ia else if k = 1 then ib else if k = 2 then ic else if k = 3 then id_ else 0) := zti_q (q := fun k => if k = 0 then ia else if k = 1 then ib else if k = 2 then ic else if k = 3 then id_ else 0) htq hq_37 (by have h9a := zn_nat (x := i) (by omega); have h9b := zn_nat (x := ltp) (by omega); omega) hq_31 (by have h9a := zn_nat (x := i) (by omega); rw [hq_32]; first | exact (if_pos (by omega)).symm | exact ((if_neg (by omega)).trans (if_pos (by omega))).symm | exact ((if_neg (by omega)).trans ((if_neg (by omega)).trans (if_pos (by omega)))).symm | exact ((if_neg (by omega)).trans ((if_neg (by omega)).trans ((if_neg (by omega)).trans (if_pos (by omega))))).symm | exact ((if_neg (by omega)).trans ((if_neg (by omega)).trans ((if_neg (by omega)).trans (if_neg (by omega))))).symm) (by have h9a := zn_nat (x := i) (by omega); have h9b := zn_nat (x := x_38) (by omega); omega)
              exact ih x_38 tp_34 gs_35 _ _ _ (by omega) (by omega) (by omega) (by omega) hti_39 htq_40 (hP.sub [0, 1, 6, 7, 2, 3, 4, 5] rfl) (hD.sub [0, 1, 6, 7, 2, 3, 4, 5] (by decide) rfl) hS (lv_sub hl [0, 2, 3, 4, 5, 6, 7, 8] rfl)
          · have ic_5 : i.toInt = 1 := zi_eq c_5
            refine lv_iload_n hx hb dX11_tellInts_39 rfl (lv_at hl 5 rfl) ?_
            refine lv_goto (tgt := 66) hx hb dX11_tellInts_40 (by decide) ?_
            refine lv_istore (lv' := [(8, .int ib), (7, .int i), (6, .int r_1), (0, .ref h0), (1, .int fu), (2, .int ia), (3, .int ib), (4, .int ic), (5, .int id_)]) hx hb dX11_tellInts_66 hl (by decide) rfl (fun ls hl => ?_)
            refine lv_aload_n hx hb dX11_tellInts_68 rfl (lv_at hl 3 rfl) ?_
            refine va_get (D := (dC, dI)) (ci := 11) (v := .ref h_machine) (C := RX11) (T := TX11) (N := 17) hx hb hA zin_X11 hown hK hP 0 rfl rfl 4 (by decide) (hA _ wi_588) (fun _ h9 => h9) rfl dX11_tellInts_69 ?_
            refine lv_iload hx hb dX11_tellInts_72 (lv_at hl 0 rfl) ?_
            have hPc := hP.sub (ws' := []) [] rfl
            have hDc := hD.sub (ws' := []) [] (by decide) rfl
            have hKc := hK.sub (tys' := []) [] rfl
            have hFc := va_free (wc := []) hD hS hAA [] rfl
            refine va_calll (va_runS (As := [.int ib]) (rest := [.ref h_machine]) ⟨hx, hb, hml, hown, hA⟩ (c_X1_ofInt_x l dC dI aK aV ib H.size) (va_cwS 1 hA (zw_S wi_1101 wi_1102 wi_140 (zw_good wi_1103)) rfl rfl rfl (by decide +kernel) ⟨(Nat.le_of_ble_eq_true rfl), (Nat.le_of_ble_eq_true rfl)⟩) ⟨zP_blind, zz_pre hKc hPc hDc hN hT hS hFc⟩ rfl rfl hl.1 rfl (lv_room (Nat.le_of_ble_eq_true rfl)) dX11_tellInts_74 ⟨(Nat.le_of_ble_eq_true rfl), (Nat.le_of_ble_eq_true rfl)⟩) hS (fun q _ h => hFc q h) hFc (fun r_41 u t H1 locs ht hvm hw hB hz1 hk1 hS => ?_)
            obtain ⟨hP1, hK1, hD1⟩ := hB
            rw [ht] at hP1
            have hK1 := va_K.moved hvm.symm hK1
            obtain ⟨hP, hD⟩ := va_join (wr := [(h0, .inr (11, [.ref h_tape, .int h_fed, .ref h_taken, .ref h_parser, .ref h_machine, .ref h_countedCells, .ref h_plainCells, .ref h_printer, .int h_faultNumber, .int h_stopPlace, .int h_wasRun, .int h_runSteps, .int h_runCalls, .int h_hasValue, .long h_value, .int h_hasOther, .long h_otherValue])), (h_taken, .inr (9, [.ref gco, .ref gar, .ref gki, .ref gfu])), (h_machine, .inr (5, [.ref mp, .ref m_c, .ref mce, .int mcn, .ref sk, .int ltp, .int ba, .ref kb, .ref kk, .ref ks, .int on, .ref sh, .int sn, .int mat, .int alw, .int st, .int mo, .int mh, .int sp, .long re])), (sk, .inl (sk1, 22424, .inr (.inl lgs))), (gfu, .inr (3, [.ref fw, .ref fe, .ref ff, .int fz])), (fw, .inl (f1, 30, .inr (.inl fgw))), (fe, .inl (f2, 30, .inl fge)), (ff, .inl (f3, 150, .inl fgf))]) (w1 := []) hP hD [] [0, 1, 2, 3, 4, 5, 6, 7] rfl rfl (by decide) (by decide) hk1 hFc hP1 hD1
            have hK := (hK.sub (tys' := [(sk1, .long), (f1, .long), (f2, .int), (f3, .int)]) [0, 1, 2, 3] rfl).app hK1
            generalize H1 = H at hP hS ⊢
            have hP : va_P (dC, dI) vwCl [(h0, .inr (11, [.ref h_tape, .int h_fed, .ref h_taken, .ref h_parser, .ref h_machine, .ref h_countedCells, .ref h_plainCells, .ref h_printer, .int h_faultNumber, .int h_stopPlace, .int h_wasRun, .int h_runSteps, .int h_runCalls, .int h_hasValue, .long h_value, .int h_hasOther, .long h_otherValue])), (h_taken, .inr (9, [.ref gco, .ref gar, .ref gki, .ref gfu])), (h_machine, .inr (5, [.ref mp, .ref m_c, .ref mce, .int mcn, .ref sk, .int ltp, .int ba, .ref kb, .ref kk, .ref ks, .int on, .ref sh, .int sn, .int mat, .int alw, .int st, .int mo, .int mh, .int sp, .long re])), (sk, .inl (sk1, 22424, .inr (.inl lgs))), (gfu, .inr (3, [.ref fw, .ref fe, .ref ff, .int fz])), (fw, .inl (f1, 30, .inr (.inl fgw))), (fe, .inl (f2, 30, .inl fge)), (ff, .inl (f3, 150, .inl fgf))] H := hP
            have hD : va_D A [(h0, .inr (11, [.ref h_tape, .int h_fed, .ref h_taken, .ref h_parser, .ref h_machine, .ref h_countedCells, .ref h_plainCells, .ref h_printer, .int h_faultNumber, .int h_stopPlace, .int h_wasRun, .int h_runSteps, .int h_runCalls, .int h_hasValue, .long h_value, .int h_hasOther, .long h_otherValue])), (h_taken, .inr (9, [.ref gco, .ref gar, .ref gki, .ref gfu])), (h_machine, .inr (5, [.ref mp, .ref m_c, .ref mce, .int mcn, .ref sk, .int ltp, .int ba, .ref kb, .ref kk, .ref ks, .int on, .ref sh, .int sn, .int mat, .int alw, .int st, .int mo, .int mh, .int sp, .long re])), (sk, .inl (sk1, 22424, .inr (.inl lgs))), (gfu, .inr (3, [.ref fw, .ref fe, .ref ff, .int fz])), (fw, .inl (f1, 30, .inr (.inl fgw))), (fe, .inl (f2, 30, .inl fge)), (ff, .inl (f3, 150, .inl fgf))] := hD
            have hK : va_K (dC, dI) vwCl [(sk1, .long), (f1, .long), (f2, .int), (f3, .int)] s := hK
            obtain ⟨hq_42, hq_43⟩ := hw
            have hPc := hP.sub (ws' := [(h_machine, .inr (5, [.ref mp, .ref m_c, .ref mce, .int mcn, .ref sk, .int ltp, .int ba, .ref kb, .ref kk, .ref ks, .int on, .ref sh, .int sn, .int mat, .int alw, .int st, .int mo, .int mh, .int sp, .long re])), (sk, .inl (sk1, 22424, .inr (.inl lgs)))]) [2, 3] rfl
            have hDc := hD.sub (ws' := [(h_machine, .inr (5, [.ref mp, .ref m_c, .ref mce, .int mcn, .ref sk, .int ltp, .int ba, .ref kb, .ref kk, .ref ks, .int on, .ref sh, .int sn, .int mat, .int alw, .int st, .int mo, .int mh, .int sp, .long re])), (sk, .inl (sk1, 22424, .inr (.inl lgs)))]) [2, 3] (by decide) rfl
            have hKc := hK.sub (tys' := [(sk1, .long)]) [0] rfl
            have hFc := va_free (wc := [(h_machine, .inr (5, [.ref mp, .ref m_c, .ref mce, .int mcn, .ref sk, .int ltp, .int ba, .ref kb, .ref kk, .ref ks, .int on, .ref sh, .int sn, .int mat, .int alw, .int st, .int mo, .int mh, .int sp, .long re])), (sk, .inl (sk1, 22424, .inr (.inl lgs)))]) hD hS hAA [2, 3] rfl
            refine va_callv (va_runV (As := [.long r_41]) (rest := []) ⟨hx, hb, hml, hown, hA⟩ (c_X5_push l dC dI aK aV h_machine mp m_c mce sk kb kk ks sh mcn ltp ba on sn mat alw st mo mh sp re sk1 lgs r_41 H.size (by omega) (by omega)) (cwV 1 hA (zw_V wi_1105 wi_1106 wi_1107 wi_139 (zw_good wi_1108)) rfl rfl rfl (by decide +kernel) ⟨(Nat.le_of_ble_eq_true rfl), (Nat.le_of_ble_eq_true rfl)⟩) ⟨zP_blind, va_recv hKc hPc (ci := 5) (q0 := 0) rfl rfl, zz_pre hKc hPc hDc hN hT hS hFc⟩ rfl rfl hl.1 rfl (lv_room (Nat.le_of_ble_eq_true rfl)) dX11_tellInts_77 ⟨(Nat.le_of_ble_eq_true rfl), (Nat.le_of_ble_eq_true rfl)⟩) hS (fun q _ h => hFc q h) hFc (fun u t H1 locs ht hvm hw hB hz1 hk1 hS => ?_)
            obtain ⟨tp_45, gs_46⟩ := u
            obtain ⟨hP1, hK1, hD1⟩ := hB
            rw [ht] at hP1
            have hK1 := va_K.moved hvm.symm hK1
            obtain ⟨hP, hD⟩ := va_join (wr := [(h0, .inr (11, [.ref h_tape, .int h_fed, .ref h_taken, .ref h_parser, .ref h_machine, .ref h_countedCells, .ref h_plainCells, .ref h_printer, .int h_faultNumber, .int h_stopPlace, .int h_wasRun, .int h_runSteps, .int h_runCalls, .int h_hasValue, .long h_value, .int h_hasOther, .long h_otherValue])), (h_taken, .inr (9, [.ref gco, .ref gar, .ref gki, .ref gfu])), (gfu, .inr (3, [.ref fw, .ref fe, .ref ff, .int fz])), (fw, .inl (f1, 30, .inr (.inl fgw))), (fe, .inl (f2, 30, .inl fge)), (ff, .inl (f3, 150, .inl fgf))]) (w1 := [(h_machine, .inr (5, [.ref mp, .ref m_c, .ref mce, .int mcn, .ref sk, .int tp_45, .int ba, .ref kb, .ref kk, .ref ks, .int on, .ref sh, .int sn, .int mat, .int alw, .int st, .int mo, .int mh, .int sp, .long re])), (sk, .inl (sk1, 22424, .inr (.inl gs_46)))]) hP hD [2, 3] [0, 1, 4, 5, 6, 7] rfl rfl (by decide) (by decide) hk1 hFc hP1 hD1
            have hK := (hK.sub (tys' := [(f1, .long), (f2, .int), (f3, .int)]) [1, 2, 3] rfl).app hK1
            generalize H1 = H at hP hS ⊢
            have hP : va_P (dC, dI) vwCl [(h0, .inr (11, [.ref h_tape, .int h_fed, .ref h_taken, .ref h_parser, .ref h_machine, .ref h_countedCells, .ref h_plainCells, .ref h_printer, .int h_faultNumber, .int h_stopPlace, .int h_wasRun, .int h_runSteps, .int h_runCalls, .int h_hasValue, .long h_value, .int h_hasOther, .long h_otherValue])), (h_taken, .inr (9, [.ref gco, .ref gar, .ref gki, .ref gfu])), (gfu, .inr (3, [.ref fw, .ref fe, .ref ff, .int fz])), (fw, .inl (f1, 30, .inr (.inl fgw))), (fe, .inl (f2, 30, .inl fge)), (ff, .inl (f3, 150, .inl fgf)), (h_machine, .inr (5, [.ref mp, .ref m_c, .ref mce, .int mcn, .ref sk, .int tp_45, .int ba, .ref kb, .ref kk, .ref ks, .int on, .ref sh, .int sn, .int mat, .int alw, .int st, .int mo, .int mh, .int sp, .long re])), (sk, .inl (sk1, 22424, .inr (.inl gs_46)))] H := hP
            have hD : va_D A [(h0, .inr (11, [.ref h_tape, .int h_fed, .ref h_taken, .ref h_parser, .ref h_machine, .ref h_countedCells, .ref h_plainCells, .ref h_printer, .int h_faultNumber, .int h_stopPlace, .int h_wasRun, .int h_runSteps, .int h_runCalls, .int h_hasValue, .long h_value, .int h_hasOther, .long h_otherValue])), (h_taken, .inr (9, [.ref gco, .ref gar, .ref gki, .ref gfu])), (gfu, .inr (3, [.ref fw, .ref fe, .ref ff, .int fz])), (fw, .inl (f1, 30, .inr (.inl fgw))), (fe, .inl (f2, 30, .inl fge)), (ff, .inl (f3, 150, .inl fgf)), (h_machine, .inr (5, [.ref mp, .ref m_c, .ref mce, .int mcn, .ref sk, .int tp_45, .int ba, .ref kb, .ref kk, .ref ks, .int on, .ref sh, .int sn, .int mat, .int alw, .int st, .int mo, .int mh, .int sp, .long re])), (sk, .inl (sk1, 22424, .inr (.inl gs_46)))] := hD
            have hK : va_K (dC, dI) vwCl [(f1, .long), (f2, .int), (f3, .int), (sk1, .long)] s := hK
            obtain ⟨hq_47, hq_48⟩ := hw
            obtain ⟨x_49, ex_49⟩ : ∃ y : Int32, y = i + Int32.ofInt 1 := ⟨_, rfl⟩
            refine lv_iinc (v := x_49) (lv' := [(7, .int x_49), (8, .int ib), (6, .int r_1), (0, .ref h0), (1, .int fu), (2, .int ia), (3, .int ib), (4, .int ic), (5, .int id_)]) hx hb dX11_tellInts_80 hl (k := 1) rfl (by rw [ex_49]) (by decide) rfl (fun ls hl => ?_)
            have ix_49 : x_49.toInt = i.toInt + 1 := by rw [ex_49]; exact zi_addc (by decide) (by omega) (by omega)
            refine lv_goto (tgt := 17) hx hb dX11_tellInts_83 (by decide) ?_
            have hti_50 : ∀ k, k < Int32.toNatClampNeg x_49 → zhs (gs_46 k) = 0 := zti_s hti hq_48 (by have h9a := zn_nat (x := i) (by omega); have h9b := zn_nat (x := ltp) (by omega); omega) hq_42 (by have h9a := zn_nat (x := i) (by omega); have h9b := zn_nat (x := x_49) (by omega); omega)
            have htq_51 : ∀ k, k < Int32.toNatClampNeg x_49 → gs_46 k = pv0 (if k = 0 then ia else if k = 1 then ib else if k = 2 then ic else if k = 3 then id_ else 0) := zti_q (q := fun k => if k = 0 then ia else if k = 1 then ib else if k = 2 then ic else if k = 3 then id_ else 0) htq hq_48 (by have h9a := zn_nat (x := i) (by omega); have h9b := zn_nat (x := ltp) (by omega); omega) hq_42 (by have h9a := zn_nat (x := i) (by omega); rw [hq_43]; first | exact (if_pos (by omega)).symm | exact ((if_neg (by omega)).trans (if_pos (by omega))).symm | exact ((if_neg (by omega)).trans ((if_neg (by omega)).trans (if_pos (by omega)))).symm | exact ((if_neg (by omega)).trans ((if_neg (by omega)).trans ((if_neg (by omega)).trans (if_pos (by omega))))).symm | exact ((if_neg (by omega)).trans ((if_neg (by omega)).trans ((if_neg (by omega)).trans (if_neg (by omega))))).symm) (by have h9a := zn_nat (x := i) (by omega); have h9b := zn_nat (x := x_49) (by omega); omega)
            exact ih x_49 tp_45 gs_46 _ _ _ (by omega) (by omega) (by omega) (by omega) hti_50 htq_51 (hP.sub [0, 1, 6, 7, 2, 3, 4, 5] rfl) (hD.sub [0, 1, 6, 7, 2, 3, 4, 5] (by decide) rfl) hS (lv_sub hl [0, 2, 3, 4, 5, 6, 7, 8] rfl)
        · have ic_4 : i.toInt = 0 := zi_eq c_4
          refine lv_iload_n hx hb dX11_tellInts_29 rfl (lv_at hl 4 rfl) ?_
          refine lv_goto (tgt := 66) hx hb dX11_tellInts_30 (by decide) ?_
          refine lv_istore (lv' := [(8, .int ia), (7, .int i), (6, .int r_1), (0, .ref h0), (1, .int fu), (2, .int ia), (3, .int ib), (4, .int ic), (5, .int id_)]) hx hb dX11_tellInts_66 hl (by decide) rfl (fun ls hl => ?_)
          refine lv_aload_n hx hb dX11_tellInts_68 rfl (lv_at hl 3 rfl) ?_
          refine va_get (D := (dC, dI)) (ci := 11) (v := .ref h_machine) (C := RX11) (T := TX11) (N := 17) hx hb hA zin_X11 hown hK hP 0 rfl rfl 4 (by decide) (hA _ wi_588) (fun _ h9 => h9) rfl dX11_tellInts_69 ?_
          refine lv_iload hx hb dX11_tellInts_72 (lv_at hl 0 rfl) ?_
          have hPc := hP.sub (ws' := []) [] rfl
          have hDc := hD.sub (ws' := []) [] (by decide) rfl
          have hKc := hK.sub (tys' := []) [] rfl
          have hFc := va_free (wc := []) hD hS hAA [] rfl
          refine va_calll (va_runS (As := [.int ia]) (rest := [.ref h_machine]) ⟨hx, hb, hml, hown, hA⟩ (c_X1_ofInt_x l dC dI aK aV ia H.size) (va_cwS 1 hA (zw_S wi_1101 wi_1102 wi_140 (zw_good wi_1103)) rfl rfl rfl (by decide +kernel) ⟨(Nat.le_of_ble_eq_true rfl), (Nat.le_of_ble_eq_true rfl)⟩) ⟨zP_blind, zz_pre hKc hPc hDc hN hT hS hFc⟩ rfl rfl hl.1 rfl (lv_room (Nat.le_of_ble_eq_true rfl)) dX11_tellInts_74 ⟨(Nat.le_of_ble_eq_true rfl), (Nat.le_of_ble_eq_true rfl)⟩) hS (fun q _ h => hFc q h) hFc (fun r_52 u t H1 locs ht hvm hw hB hz1 hk1 hS => ?_)
          obtain ⟨hP1, hK1, hD1⟩ := hB
          rw [ht] at hP1
          have hK1 := va_K.moved hvm.symm hK1
          obtain ⟨hP, hD⟩ := va_join (wr := [(h0, .inr (11, [.ref h_tape, .int h_fed, .ref h_taken, .ref h_parser, .ref h_machine, .ref h_countedCells, .ref h_plainCells, .ref h_printer, .int h_faultNumber, .int h_stopPlace, .int h_wasRun, .int h_runSteps, .int h_runCalls, .int h_hasValue, .long h_value, .int h_hasOther, .long h_otherValue])), (h_taken, .inr (9, [.ref gco, .ref gar, .ref gki, .ref gfu])), (h_machine, .inr (5, [.ref mp, .ref m_c, .ref mce, .int mcn, .ref sk, .int ltp, .int ba, .ref kb, .ref kk, .ref ks, .int on, .ref sh, .int sn, .int mat, .int alw, .int st, .int mo, .int mh, .int sp, .long re])), (sk, .inl (sk1, 22424, .inr (.inl lgs))), (gfu, .inr (3, [.ref fw, .ref fe, .ref ff, .int fz])), (fw, .inl (f1, 30, .inr (.inl fgw))), (fe, .inl (f2, 30, .inl fge)), (ff, .inl (f3, 150, .inl fgf))]) (w1 := []) hP hD [] [0, 1, 2, 3, 4, 5, 6, 7] rfl rfl (by decide) (by decide) hk1 hFc hP1 hD1
          have hK := (hK.sub (tys' := [(sk1, .long), (f1, .long), (f2, .int), (f3, .int)]) [0, 1, 2, 3] rfl).app hK1
          generalize H1 = H at hP hS ⊢
          have hP : va_P (dC, dI) vwCl [(h0, .inr (11, [.ref h_tape, .int h_fed, .ref h_taken, .ref h_parser, .ref h_machine, .ref h_countedCells, .ref h_plainCells, .ref h_printer, .int h_faultNumber, .int h_stopPlace, .int h_wasRun, .int h_runSteps, .int h_runCalls, .int h_hasValue, .long h_value, .int h_hasOther, .long h_otherValue])), (h_taken, .inr (9, [.ref gco, .ref gar, .ref gki, .ref gfu])), (h_machine, .inr (5, [.ref mp, .ref m_c, .ref mce, .int mcn, .ref sk, .int ltp, .int ba, .ref kb, .ref kk, .ref ks, .int on, .ref sh, .int sn, .int mat, .int alw, .int st, .int mo, .int mh, .int sp, .long re])), (sk, .inl (sk1, 22424, .inr (.inl lgs))), (gfu, .inr (3, [.ref fw, .ref fe, .ref ff, .int fz])), (fw, .inl (f1, 30, .inr (.inl fgw))), (fe, .inl (f2, 30, .inl fge)), (ff, .inl (f3, 150, .inl fgf))] H := hP
          have hD : va_D A [(h0, .inr (11, [.ref h_tape, .int h_fed, .ref h_taken, .ref h_parser, .ref h_machine, .ref h_countedCells, .ref h_plainCells, .ref h_printer, .int h_faultNumber, .int h_stopPlace, .int h_wasRun, .int h_runSteps, .int h_runCalls, .int h_hasValue, .long h_value, .int h_hasOther, .long h_otherValue])), (h_taken, .inr (9, [.ref gco, .ref gar, .ref gki, .ref gfu])), (h_machine, .inr (5, [.ref mp, .ref m_c, .ref mce, .int mcn, .ref sk, .int ltp, .int ba, .ref kb, .ref kk, .ref ks, .int on, .ref sh, .int sn, .int mat, .int alw, .int st, .int mo, .int mh, .int sp, .long re])), (sk, .inl (sk1, 22424, .inr (.inl lgs))), (gfu, .inr (3, [.ref fw, .ref fe, .ref ff, .int fz])), (fw, .inl (f1, 30, .inr (.inl fgw))), (fe, .inl (f2, 30, .inl fge)), (ff, .inl (f3, 150, .inl fgf))] := hD
          have hK : va_K (dC, dI) vwCl [(sk1, .long), (f1, .long), (f2, .int), (f3, .int)] s := hK
          obtain ⟨hq_53, hq_54⟩ := hw
          have hPc := hP.sub (ws' := [(h_machine, .inr (5, [.ref mp, .ref m_c, .ref mce, .int mcn, .ref sk, .int ltp, .int ba, .ref kb, .ref kk, .ref ks, .int on, .ref sh, .int sn, .int mat, .int alw, .int st, .int mo, .int mh, .int sp, .long re])), (sk, .inl (sk1, 22424, .inr (.inl lgs)))]) [2, 3] rfl
          have hDc := hD.sub (ws' := [(h_machine, .inr (5, [.ref mp, .ref m_c, .ref mce, .int mcn, .ref sk, .int ltp, .int ba, .ref kb, .ref kk, .ref ks, .int on, .ref sh, .int sn, .int mat, .int alw, .int st, .int mo, .int mh, .int sp, .long re])), (sk, .inl (sk1, 22424, .inr (.inl lgs)))]) [2, 3] (by decide) rfl
          have hKc := hK.sub (tys' := [(sk1, .long)]) [0] rfl
          have hFc := va_free (wc := [(h_machine, .inr (5, [.ref mp, .ref m_c, .ref mce, .int mcn, .ref sk, .int ltp, .int ba, .ref kb, .ref kk, .ref ks, .int on, .ref sh, .int sn, .int mat, .int alw, .int st, .int mo, .int mh, .int sp, .long re])), (sk, .inl (sk1, 22424, .inr (.inl lgs)))]) hD hS hAA [2, 3] rfl
          refine va_callv (va_runV (As := [.long r_52]) (rest := []) ⟨hx, hb, hml, hown, hA⟩ (c_X5_push l dC dI aK aV h_machine mp m_c mce sk kb kk ks sh mcn ltp ba on sn mat alw st mo mh sp re sk1 lgs r_52 H.size (by omega) (by omega)) (cwV 1 hA (zw_V wi_1105 wi_1106 wi_1107 wi_139 (zw_good wi_1108)) rfl rfl rfl (by decide +kernel) ⟨(Nat.le_of_ble_eq_true rfl), (Nat.le_of_ble_eq_true rfl)⟩) ⟨zP_blind, va_recv hKc hPc (ci := 5) (q0 := 0) rfl rfl, zz_pre hKc hPc hDc hN hT hS hFc⟩ rfl rfl hl.1 rfl (lv_room (Nat.le_of_ble_eq_true rfl)) dX11_tellInts_77 ⟨(Nat.le_of_ble_eq_true rfl), (Nat.le_of_ble_eq_true rfl)⟩) hS (fun q _ h => hFc q h) hFc (fun u t H1 locs ht hvm hw hB hz1 hk1 hS => ?_)
          obtain ⟨tp_56, gs_57⟩ := u
          obtain ⟨hP1, hK1, hD1⟩ := hB
          rw [ht] at hP1
          have hK1 := va_K.moved hvm.symm hK1
          obtain ⟨hP, hD⟩ := va_join (wr := [(h0, .inr (11, [.ref h_tape, .int h_fed, .ref h_taken, .ref h_parser, .ref h_machine, .ref h_countedCells, .ref h_plainCells, .ref h_printer, .int h_faultNumber, .int h_stopPlace, .int h_wasRun, .int h_runSteps, .int h_runCalls, .int h_hasValue, .long h_value, .int h_hasOther, .long h_otherValue])), (h_taken, .inr (9, [.ref gco, .ref gar, .ref gki, .ref gfu])), (gfu, .inr (3, [.ref fw, .ref fe, .ref ff, .int fz])), (fw, .inl (f1, 30, .inr (.inl fgw))), (fe, .inl (f2, 30, .inl fge)), (ff, .inl (f3, 150, .inl fgf))]) (w1 := [(h_machine, .inr (5, [.ref mp, .ref m_c, .ref mce, .int mcn, .ref sk, .int tp_56, .int ba, .ref kb, .ref kk, .ref ks, .int on, .ref sh, .int sn, .int mat, .int alw, .int st, .int mo, .int mh, .int sp, .long re])), (sk, .inl (sk1, 22424, .inr (.inl gs_57)))]) hP hD [2, 3] [0, 1, 4, 5, 6, 7] rfl rfl (by decide) (by decide) hk1 hFc hP1 hD1
          have hK := (hK.sub (tys' := [(f1, .long), (f2, .int), (f3, .int)]) [1, 2, 3] rfl).app hK1
          generalize H1 = H at hP hS ⊢
          have hP : va_P (dC, dI) vwCl [(h0, .inr (11, [.ref h_tape, .int h_fed, .ref h_taken, .ref h_parser, .ref h_machine, .ref h_countedCells, .ref h_plainCells, .ref h_printer, .int h_faultNumber, .int h_stopPlace, .int h_wasRun, .int h_runSteps, .int h_runCalls, .int h_hasValue, .long h_value, .int h_hasOther, .long h_otherValue])), (h_taken, .inr (9, [.ref gco, .ref gar, .ref gki, .ref gfu])), (gfu, .inr (3, [.ref fw, .ref fe, .ref ff, .int fz])), (fw, .inl (f1, 30, .inr (.inl fgw))), (fe, .inl (f2, 30, .inl fge)), (ff, .inl (f3, 150, .inl fgf)), (h_machine, .inr (5, [.ref mp, .ref m_c, .ref mce, .int mcn, .ref sk, .int tp_56, .int ba, .ref kb, .ref kk, .ref ks, .int on, .ref sh, .int sn, .int mat, .int alw, .int st, .int mo, .int mh, .int sp, .long re])), (sk, .inl (sk1, 22424, .inr (.inl gs_57)))] H := hP
          have hD : va_D A [(h0, .inr (11, [.ref h_tape, .int h_fed, .ref h_taken, .ref h_parser, .ref h_machine, .ref h_countedCells, .ref h_plainCells, .ref h_printer, .int h_faultNumber, .int h_stopPlace, .int h_wasRun, .int h_runSteps, .int h_runCalls, .int h_hasValue, .long h_value, .int h_hasOther, .long h_otherValue])), (h_taken, .inr (9, [.ref gco, .ref gar, .ref gki, .ref gfu])), (gfu, .inr (3, [.ref fw, .ref fe, .ref ff, .int fz])), (fw, .inl (f1, 30, .inr (.inl fgw))), (fe, .inl (f2, 30, .inl fge)), (ff, .inl (f3, 150, .inl fgf)), (h_machine, .inr (5, [.ref mp, .ref m_c, .ref mce, .int mcn, .ref sk, .int tp_56, .int ba, .ref kb, .ref kk, .ref ks, .int on, .ref sh, .int sn, .int mat, .int alw, .int st, .int mo, .int mh, .int sp, .long re])), (sk, .inl (sk1, 22424, .inr (.inl gs_57)))] := hD
          have hK : va_K (dC, dI) vwCl [(f1, .long), (f2, .int), (f3, .int), (sk1, .long)] s := hK
          obtain ⟨hq_58, hq_59⟩ := hw
          obtain ⟨x_60, ex_60⟩ : ∃ y : Int32, y = i + Int32.ofInt 1 := ⟨_, rfl⟩
          refine lv_iinc (v := x_60) (lv' := [(7, .int x_60), (8, .int ia), (6, .int r_1), (0, .ref h0), (1, .int fu), (2, .int ia), (3, .int ib), (4, .int ic), (5, .int id_)]) hx hb dX11_tellInts_80 hl (k := 1) rfl (by rw [ex_60]) (by decide) rfl (fun ls hl => ?_)
          have ix_60 : x_60.toInt = i.toInt + 1 := by rw [ex_60]; exact zi_addc (by decide) (by omega) (by omega)
          refine lv_goto (tgt := 17) hx hb dX11_tellInts_83 (by decide) ?_
          have hti_61 : ∀ k, k < Int32.toNatClampNeg x_60 → zhs (gs_57 k) = 0 := zti_s hti hq_59 (by have h9a := zn_nat (x := i) (by omega); have h9b := zn_nat (x := ltp) (by omega); omega) hq_53 (by have h9a := zn_nat (x := i) (by omega); have h9b := zn_nat (x := x_60) (by omega); omega)
          have htq_62 : ∀ k, k < Int32.toNatClampNeg x_60 → gs_57 k = pv0 (if k = 0 then ia else if k = 1 then ib else if k = 2 then ic else if k = 3 then id_ else 0) := zti_q (q := fun k => if k = 0 then ia else if k = 1 then ib else if k = 2 then ic else if k = 3 then id_ else 0) htq hq_59 (by have h9a := zn_nat (x := i) (by omega); have h9b := zn_nat (x := ltp) (by omega); omega) hq_53 (by have h9a := zn_nat (x := i) (by omega); rw [hq_54]; first | exact (if_pos (by omega)).symm | exact ((if_neg (by omega)).trans (if_pos (by omega))).symm | exact ((if_neg (by omega)).trans ((if_neg (by omega)).trans (if_pos (by omega)))).symm | exact ((if_neg (by omega)).trans ((if_neg (by omega)).trans ((if_neg (by omega)).trans (if_pos (by omega))))).symm | exact ((if_neg (by omega)).trans ((if_neg (by omega)).trans ((if_neg (by omega)).trans (if_neg (by omega))))).symm) (by have h9a := zn_nat (x := i) (by omega); have h9b := zn_nat (x := x_60) (by omega); omega)
          exact ih x_60 tp_56 gs_57 _ _ _ (by omega) (by omega) (by omega) (by omega) hti_61 htq_62 (hP.sub [0, 1, 6, 7, 2, 3, 4, 5] rfl) (hD.sub [0, 1, 6, 7, 2, 3, 4, 5] (by decide) rfl) hS (lv_sub hl [0, 2, 3, 4, 5, 6, 7, 8] rfl)
  have hti_63 : ∀ k, k < Int32.toNatClampNeg 0 → zhs (gs k) = 0 := fun k hk => absurd hk (by rw [show Int32.toNatClampNeg 0 = 0 from rfl]; omega)
  have htq_64 : ∀ k, k < Int32.toNatClampNeg 0 → gs k = pv0 (if k = 0 then ia else if k = 1 then ib else if k = 2 then ic else if k = 3 then id_ else 0) := fun k hk => absurd hk (by rw [show Int32.toNatClampNeg 0 = 0 from rfl]; omega)
  exact loop_17 _ 0 tp gs _ _ _ (Nat.le_refl _) (by have h9_0 : Int32.toInt 0 = 0 := (by decide); omega) (by have h9_0 : Int32.toInt 0 = 0 := (by decide); omega) (by have h9_0 : Int32.toInt 0 = 0 := (by decide); omega) hti_63 htq_64 (hP.sub [0, 1, 2, 3, 4, 5, 6, 7] rfl) (hD.sub [0, 1, 2, 3, 4, 5, 6, 7] (by decide) rfl) hS (lv_sub hl [0, 1, 2, 3, 4, 5, 6, 7] rfl)

end
section
theorem wi_594 : Cond.fieldLink RX11 65 "ReuseHouse" "wasRun" "Z" ∈ zw := zw_in (List.mem_of_getElem? (i := 594) (by decide +kernel)) (by decide +kernel)
theorem wi_595 : Cond.fieldLink RX11 69 "ReuseHouse" "runSteps" "I" ∈ zw := zw_in (List.mem_of_getElem? (i := 595) (by decide +kernel)) (by decide +kernel)
theorem wi_589 : Cond.fieldLink RX11 45 "ReuseHouse" "countedCells" "LReuseHouse$Cells;" ∈ zw := zw_in (List.mem_of_getElem? (i := 589) (by decide +kernel)) (by decide +kernel)
theorem wi_449 : Cond.fieldLink RX11 182 "ReuseHouse$Cells" "made" "I" ∈ zw := zw_in (List.mem_of_getElem? (i := 449) (by decide +kernel)) (by decide +kernel)
theorem wi_451 : Cond.fieldLink RX11 185 "ReuseHouse$Cells" "reused" "I" ∈ zw := zw_in (List.mem_of_getElem? (i := 451) (by decide +kernel)) (by decide +kernel)
theorem wi_454 : Cond.fieldLink RX11 176 "ReuseHouse$Cells" "freed" "I" ∈ zw := zw_in (List.mem_of_getElem? (i := 454) (by decide +kernel)) (by decide +kernel)
theorem wi_447 : Cond.fieldLink RX11 188 "ReuseHouse$Cells" "mostHeld" "I" ∈ zw := zw_in (List.mem_of_getElem? (i := 447) (by decide +kernel)) (by decide +kernel)
theorem wi_456 : Cond.fieldLink RX11 191 "ReuseHouse$Cells" "doubled" "I" ∈ zw := zw_in (List.mem_of_getElem? (i := 456) (by decide +kernel)) (by decide +kernel)
theorem wi_445 : Cond.fieldLink RX11 154 "ReuseHouse$Cells" "held" "I" ∈ zw := zw_in (List.mem_of_getElem? (i := 445) (by decide +kernel)) (by decide +kernel)
theorem wi_596 : Cond.fieldLink RX11 72 "ReuseHouse" "runCalls" "I" ∈ zw := zw_in (List.mem_of_getElem? (i := 596) (by decide +kernel)) (by decide +kernel)
theorem wi_597 : Cond.fieldLink RX11 75 "ReuseHouse" "hasValue" "Z" ∈ zw := zw_in (List.mem_of_getElem? (i := 597) (by decide +kernel)) (by decide +kernel)
theorem wi_598 : Cond.fieldLink RX11 78 "ReuseHouse" "value" "J" ∈ zw := zw_in (List.mem_of_getElem? (i := 598) (by decide +kernel)) (by decide +kernel)
theorem wi_1338 : Cond.methodLink RX11 179 yX1_drop ∈ zw := zw_in (List.mem_of_getElem? (i := 1338) (by decide +kernel)) (by decide +kernel)
theorem dX11_about_0 : decode cX11_about 0 = .ok (.aload_n 0, 1) := by decide +kernel
theorem dX11_about_1 : decode cX11_about 1 = .ok (.getfield 20, 3) := by decide +kernel
theorem dX11_about_4 : decode cX11_about 4 = .ok (.getfield 102, 3) := by decide +kernel
theorem dX11_about_7 : decode cX11_about 7 = .ok (.iload_n 1, 1) := by decide +kernel
theorem dX11_about_8 : decode cX11_about 8 = .ok (.invokevirtual 111, 3) := by decide +kernel
theorem dX11_about_11 : decode cX11_about 11 = .ok (.ifCond .eq 12, 3) := by decide +kernel
theorem dX11_about_14 : decode cX11_about 14 = .ok (.iload_n 2, 1) := by decide +kernel
theorem dX11_about_15 : decode cX11_about 15 = .ok (.ifCond .lt 8, 3) := by decide +kernel
theorem dX11_about_18 : decode cX11_about 18 = .ok (.iload_n 2, 1) := by decide +kernel
theorem dX11_about_19 : decode cX11_about 19 = .ok (.iconst 5, 1) := by decide +kernel
theorem dX11_about_20 : decode cX11_about 20 = .ok (.if_icmp .lt 5, 3) := by decide +kernel
theorem dX11_about_23 : decode cX11_about 23 = .ok (.iconst (-1), 1) := by decide +kernel
theorem dX11_about_24 : decode cX11_about 24 = .ok (.ireturn, 1) := by decide +kernel
theorem dX11_about_25 : decode cX11_about 25 = .ok (.aload_n 0, 1) := by decide +kernel
theorem dX11_about_26 : decode cX11_about 26 = .ok (.getfield 20, 3) := by decide +kernel
theorem dX11_about_29 : decode cX11_about 29 = .ok (.getfield 102, 3) := by decide +kernel
theorem dX11_about_32 : decode cX11_about 32 = .ok (.iload_n 1, 1) := by decide +kernel
theorem dX11_about_33 : decode cX11_about 33 = .ok (.iload_n 2, 1) := by decide +kernel
theorem dX11_about_34 : decode cX11_about 34 = .ok (.invokevirtual 115, 3) := by decide +kernel
theorem dX11_about_37 : decode cX11_about 37 = .ok (.ireturn, 1) := by decide +kernel
theorem dX11_count_0 : decode cX11_count 0 = .ok (.aload_n 0, 1) := by decide +kernel
theorem dX11_count_1 : decode cX11_count 1 = .ok (.getfield 65, 3) := by decide +kernel
theorem dX11_count_4 : decode cX11_count 4 = .ok (.ifCond .ne 5, 3) := by decide +kernel
theorem dX11_count_7 : decode cX11_count 7 = .ok (.iconst (-1), 1) := by decide +kernel
theorem dX11_count_8 : decode cX11_count 8 = .ok (.ireturn, 1) := by decide +kernel
theorem dX11_count_9 : decode cX11_count 9 = .ok (.iload_n 1, 1) := by decide +kernel
theorem dX11_count_10 : decode cX11_count 10 = .ok (.tableswitch 104 0 7 #[46, 51, 59, 67, 75, 83, 91, 99], 46) := by decide +kernel
theorem dX11_count_56 : decode cX11_count 56 = .ok (.aload_n 0, 1) := by decide +kernel
theorem dX11_count_57 : decode cX11_count 57 = .ok (.getfield 69, 3) := by decide +kernel
theorem dX11_count_60 : decode cX11_count 60 = .ok (.ireturn, 1) := by decide +kernel
theorem dX11_count_61 : decode cX11_count 61 = .ok (.aload_n 0, 1) := by decide +kernel
theorem dX11_count_62 : decode cX11_count 62 = .ok (.getfield 45, 3) := by decide +kernel
theorem dX11_count_65 : decode cX11_count 65 = .ok (.getfield 182, 3) := by decide +kernel
theorem dX11_count_68 : decode cX11_count 68 = .ok (.ireturn, 1) := by decide +kernel
theorem dX11_count_69 : decode cX11_count 69 = .ok (.aload_n 0, 1) := by decide +kernel
theorem dX11_count_70 : decode cX11_count 70 = .ok (.getfield 45, 3) := by decide +kernel
theorem dX11_count_73 : decode cX11_count 73 = .ok (.getfield 185, 3) := by decide +kernel
theorem dX11_count_76 : decode cX11_count 76 = .ok (.ireturn, 1) := by decide +kernel
theorem dX11_count_77 : decode cX11_count 77 = .ok (.aload_n 0, 1) := by decide +kernel
theorem dX11_count_78 : decode cX11_count 78 = .ok (.getfield 45, 3) := by decide +kernel
theorem dX11_count_81 : decode cX11_count 81 = .ok (.getfield 176, 3) := by decide +kernel
theorem dX11_count_84 : decode cX11_count 84 = .ok (.ireturn, 1) := by decide +kernel
theorem dX11_count_85 : decode cX11_count 85 = .ok (.aload_n 0, 1) := by decide +kernel
theorem dX11_count_86 : decode cX11_count 86 = .ok (.getfield 45, 3) := by decide +kernel
theorem dX11_count_89 : decode cX11_count 89 = .ok (.getfield 188, 3) := by decide +kernel
theorem dX11_count_92 : decode cX11_count 92 = .ok (.ireturn, 1) := by decide +kernel
theorem dX11_count_93 : decode cX11_count 93 = .ok (.aload_n 0, 1) := by decide +kernel
theorem dX11_count_94 : decode cX11_count 94 = .ok (.getfield 45, 3) := by decide +kernel
theorem dX11_count_97 : decode cX11_count 97 = .ok (.getfield 191, 3) := by decide +kernel
theorem dX11_count_100 : decode cX11_count 100 = .ok (.ireturn, 1) := by decide +kernel
theorem dX11_count_101 : decode cX11_count 101 = .ok (.aload_n 0, 1) := by decide +kernel
theorem dX11_count_102 : decode cX11_count 102 = .ok (.getfield 45, 3) := by decide +kernel
theorem dX11_count_105 : decode cX11_count 105 = .ok (.getfield 154, 3) := by decide +kernel
theorem dX11_count_108 : decode cX11_count 108 = .ok (.ireturn, 1) := by decide +kernel
theorem dX11_count_109 : decode cX11_count 109 = .ok (.aload_n 0, 1) := by decide +kernel
theorem dX11_count_110 : decode cX11_count 110 = .ok (.getfield 72, 3) := by decide +kernel
theorem dX11_count_113 : decode cX11_count 113 = .ok (.ireturn, 1) := by decide +kernel
theorem dX11_count_114 : decode cX11_count 114 = .ok (.iconst (-1), 1) := by decide +kernel
theorem dX11_count_115 : decode cX11_count 115 = .ok (.ireturn, 1) := by decide +kernel
theorem dX11_release_0 : decode cX11_release 0 = .ok (.aload_n 0, 1) := by decide +kernel
theorem dX11_release_1 : decode cX11_release 1 = .ok (.getfield 75, 3) := by decide +kernel
theorem dX11_release_4 : decode cX11_release 4 = .ok (.ifCond .ne 5, 3) := by decide +kernel
theorem dX11_release_7 : decode cX11_release 7 = .ok (.iconst (-1), 1) := by decide +kernel
theorem dX11_release_8 : decode cX11_release 8 = .ok (.ireturn, 1) := by decide +kernel
theorem dX11_release_9 : decode cX11_release 9 = .ok (.aload_n 0, 1) := by decide +kernel
theorem dX11_release_10 : decode cX11_release 10 = .ok (.iconst 0, 1) := by decide +kernel
theorem dX11_release_11 : decode cX11_release 11 = .ok (.putfield 75, 3) := by decide +kernel
theorem dX11_release_14 : decode cX11_release 14 = .ok (.aload_n 0, 1) := by decide +kernel
theorem dX11_release_15 : decode cX11_release 15 = .ok (.getfield 45, 3) := by decide +kernel
theorem dX11_release_18 : decode cX11_release 18 = .ok (.getfield 176, 3) := by decide +kernel
theorem dX11_release_21 : decode cX11_release 21 = .ok (.istore_n 1, 1) := by decide +kernel
theorem dX11_release_22 : decode cX11_release 22 = .ok (.aload_n 0, 1) := by decide +kernel
theorem dX11_release_23 : decode cX11_release 23 = .ok (.getfield 45, 3) := by decide +kernel
theorem dX11_release_26 : decode cX11_release 26 = .ok (.aload_n 0, 1) := by decide +kernel
theorem dX11_release_27 : decode cX11_release 27 = .ok (.getfield 78, 3) := by decide +kernel
theorem dX11_release_30 : decode cX11_release 30 = .ok (.invokevirtual 179, 3) := by decide +kernel
theorem dX11_release_33 : decode cX11_release 33 = .ok (.aload_n 0, 1) := by decide +kernel
theorem dX11_release_34 : decode cX11_release 34 = .ok (.getfield 45, 3) := by decide +kernel
theorem dX11_release_37 : decode cX11_release 37 = .ok (.getfield 176, 3) := by decide +kernel
theorem dX11_release_40 : decode cX11_release 40 = .ok (.iload_n 1, 1) := by decide +kernel
theorem dX11_release_41 : decode cX11_release 41 = .ok (.isub, 1) := by decide +kernel
theorem dX11_release_42 : decode cX11_release 42 = .ok (.ireturn, 1) := by decide +kernel

end
section
theorem wi_1087 : Cond.code yX11_mayWork cX11_mayWork 3 (some .boolean) ∈ zw := zw_in (List.mem_of_getElem? (i := 1087) (by decide +kernel)) (by decide +kernel)
theorem wi_1084 : Cond.methodLink RX11 119 yX11_mayWork ∈ zw := zw_in (List.mem_of_getElem? (i := 1084) (by decide +kernel)) (by decide +kernel)
theorem wi_1086 : Cond.instanceMethod yX11_mayWork ∈ zw := zw_in (List.mem_of_getElem? (i := 1086) (by decide +kernel)) (by decide +kernel)
theorem wi_39 : Cond.selects RX11 yX11_mayWork yX11_mayWork ∈ zw := zw_in (List.mem_of_getElem? (i := 39) (by decide +kernel)) (by decide +kernel)
theorem wi_318 : Cond.fieldLink RX11 123 "ReuseHouse$Program" "kinds" "LReuseHouse$Kinds;" ∈ zw := zw_in (List.mem_of_getElem? (i := 318) (by decide +kernel)) (by decide +kernel)
theorem wi_1091 : Cond.code yX1_begin cX1_begin 3 none ∈ zw := zw_in (List.mem_of_getElem? (i := 1091) (by decide +kernel)) (by decide +kernel)
theorem wi_1088 : Cond.methodLink RX11 127 yX1_begin ∈ zw := zw_in (List.mem_of_getElem? (i := 1088) (by decide +kernel)) (by decide +kernel)
theorem wi_1089 : Cond.instanceMethod yX1_begin ∈ zw := zw_in (List.mem_of_getElem? (i := 1089) (by decide +kernel)) (by decide +kernel)
theorem wi_1090 : Cond.selects RX1 yX1_begin yX1_begin ∈ zw := zw_in (List.mem_of_getElem? (i := 1090) (by decide +kernel)) (by decide +kernel)
theorem wi_1096 : Cond.code yX5_begin cX5_begin 5 none ∈ zw := zw_in (List.mem_of_getElem? (i := 1096) (by decide +kernel)) (by decide +kernel)
theorem wi_1093 : Cond.methodLink RX11 131 yX5_begin ∈ zw := zw_in (List.mem_of_getElem? (i := 1093) (by decide +kernel)) (by decide +kernel)
theorem wi_1094 : Cond.instanceMethod yX5_begin ∈ zw := zw_in (List.mem_of_getElem? (i := 1094) (by decide +kernel)) (by decide +kernel)
theorem wi_1095 : Cond.selects RX5 yX5_begin yX5_begin ∈ zw := zw_in (List.mem_of_getElem? (i := 1095) (by decide +kernel)) (by decide +kernel)
theorem wi_1100 : Cond.code yX11_tellInts cX11_tellInts 9 none ∈ zw := zw_in (List.mem_of_getElem? (i := 1100) (by decide +kernel)) (by decide +kernel)
theorem wi_1097 : Cond.methodLink RX11 134 yX11_tellInts ∈ zw := zw_in (List.mem_of_getElem? (i := 1097) (by decide +kernel)) (by decide +kernel)
theorem wi_1099 : Cond.instanceMethod yX11_tellInts ∈ zw := zw_in (List.mem_of_getElem? (i := 1099) (by decide +kernel)) (by decide +kernel)
theorem wi_40 : Cond.selects RX11 yX11_tellInts yX11_tellInts ∈ zw := zw_in (List.mem_of_getElem? (i := 40) (by decide +kernel)) (by decide +kernel)
theorem wi_1112 : Cond.code yX5_work cX5_work 3 none ∈ zw := zw_in (List.mem_of_getElem? (i := 1112) (by decide +kernel)) (by decide +kernel)
theorem wi_1109 : Cond.methodLink RX11 138 yX5_work ∈ zw := zw_in (List.mem_of_getElem? (i := 1109) (by decide +kernel)) (by decide +kernel)
theorem wi_1110 : Cond.instanceMethod yX5_work ∈ zw := zw_in (List.mem_of_getElem? (i := 1110) (by decide +kernel)) (by decide +kernel)
theorem wi_1111 : Cond.selects RX5 yX5_work yX5_work ∈ zw := zw_in (List.mem_of_getElem? (i := 1111) (by decide +kernel)) (by decide +kernel)
theorem wi_506 : Cond.fieldLink RX11 141 "ReuseHouse$Machine" "stopPlace" "I" ∈ zw := zw_in (List.mem_of_getElem? (i := 506) (by decide +kernel)) (by decide +kernel)
theorem wi_500 : Cond.fieldLink RX11 142 "ReuseHouse$Machine" "steps" "I" ∈ zw := zw_in (List.mem_of_getElem? (i := 500) (by decide +kernel)) (by decide +kernel)
theorem wi_502 : Cond.fieldLink RX11 145 "ReuseHouse$Machine" "mostOpen" "I" ∈ zw := zw_in (List.mem_of_getElem? (i := 502) (by decide +kernel)) (by decide +kernel)
theorem wi_504 : Cond.fieldLink RX11 148 "ReuseHouse$Machine" "how" "I" ∈ zw := zw_in (List.mem_of_getElem? (i := 504) (by decide +kernel)) (by decide +kernel)
theorem wi_508 : Cond.fieldLink RX11 151 "ReuseHouse$Machine" "result" "J" ∈ zw := zw_in (List.mem_of_getElem? (i := 508) (by decide +kernel)) (by decide +kernel)
theorem dX11_run_0 : decode cX11_run 0 = .ok (.iload_n 2, 1) := by decide +kernel
theorem dX11_run_1 : decode cX11_run 1 = .ok (.ifCond .lt 19, 3) := by decide +kernel
theorem dX11_run_4 : decode cX11_run 4 = .ok (.iload_n 2, 1) := by decide +kernel
theorem dX11_run_5 : decode cX11_run 5 = .ok (.sipush 400, 3) := by decide +kernel
theorem dX11_run_8 : decode cX11_run 8 = .ok (.if_icmp .gt 12, 3) := by decide +kernel
theorem dX11_run_11 : decode cX11_run 11 = .ok (.aload_n 0, 1) := by decide +kernel
theorem dX11_run_12 : decode cX11_run 12 = .ok (.iload_n 1, 1) := by decide +kernel
theorem dX11_run_13 : decode cX11_run 13 = .ok (.iload_n 3, 1) := by decide +kernel
theorem dX11_run_14 : decode cX11_run 14 = .ok (.invokevirtual 119, 3) := by decide +kernel
theorem dX11_run_17 : decode cX11_run 17 = .ok (.ifCond .ne 5, 3) := by decide +kernel
theorem dX11_run_20 : decode cX11_run 20 = .ok (.iconst (-1), 1) := by decide +kernel
theorem dX11_run_21 : decode cX11_run 21 = .ok (.ireturn, 1) := by decide +kernel
theorem dX11_run_22 : decode cX11_run 22 = .ok (.aload_n 0, 1) := by decide +kernel
theorem dX11_run_23 : decode cX11_run 23 = .ok (.getfield 45, 3) := by decide +kernel
theorem dX11_run_26 : decode cX11_run 26 = .ok (.aload_n 0, 1) := by decide +kernel
theorem dX11_run_27 : decode cX11_run 27 = .ok (.getfield 20, 3) := by decide +kernel
theorem dX11_run_30 : decode cX11_run 30 = .ok (.getfield 123, 3) := by decide +kernel
theorem dX11_run_33 : decode cX11_run 33 = .ok (.iload_n 2, 1) := by decide +kernel
theorem dX11_run_34 : decode cX11_run 34 = .ok (.invokevirtual 127, 3) := by decide +kernel
theorem dX11_run_37 : decode cX11_run 37 = .ok (.aload_n 0, 1) := by decide +kernel
theorem dX11_run_38 : decode cX11_run 38 = .ok (.getfield 36, 3) := by decide +kernel
theorem dX11_run_41 : decode cX11_run 41 = .ok (.aload_n 0, 1) := by decide +kernel
theorem dX11_run_42 : decode cX11_run 42 = .ok (.getfield 20, 3) := by decide +kernel
theorem dX11_run_45 : decode cX11_run 45 = .ok (.aload_n 0, 1) := by decide +kernel
theorem dX11_run_46 : decode cX11_run 46 = .ok (.getfield 45, 3) := by decide +kernel
theorem dX11_run_49 : decode cX11_run 49 = .ok (.iconst 1, 1) := by decide +kernel
theorem dX11_run_50 : decode cX11_run 50 = .ok (.iload_n 3, 1) := by decide +kernel
theorem dX11_run_51 : decode cX11_run 51 = .ok (.invokevirtual 131, 3) := by decide +kernel
theorem dX11_run_54 : decode cX11_run 54 = .ok (.aload_n 0, 1) := by decide +kernel
theorem dX11_run_55 : decode cX11_run 55 = .ok (.iload_n 1, 1) := by decide +kernel
theorem dX11_run_56 : decode cX11_run 56 = .ok (.iload 4, 2) := by decide +kernel
theorem dX11_run_58 : decode cX11_run 58 = .ok (.iload 5, 2) := by decide +kernel
theorem dX11_run_60 : decode cX11_run 60 = .ok (.iload 6, 2) := by decide +kernel
theorem dX11_run_62 : decode cX11_run 62 = .ok (.iload 7, 2) := by decide +kernel
theorem dX11_run_64 : decode cX11_run 64 = .ok (.invokevirtual 134, 3) := by decide +kernel
theorem dX11_run_67 : decode cX11_run 67 = .ok (.aload_n 0, 1) := by decide +kernel
theorem dX11_run_68 : decode cX11_run 68 = .ok (.getfield 36, 3) := by decide +kernel
theorem dX11_run_71 : decode cX11_run 71 = .ok (.iload_n 1, 1) := by decide +kernel
theorem dX11_run_72 : decode cX11_run 72 = .ok (.invokevirtual 138, 3) := by decide +kernel
theorem dX11_run_75 : decode cX11_run 75 = .ok (.aload_n 0, 1) := by decide +kernel
theorem dX11_run_76 : decode cX11_run 76 = .ok (.aload_n 0, 1) := by decide +kernel
theorem dX11_run_77 : decode cX11_run 77 = .ok (.getfield 36, 3) := by decide +kernel
theorem dX11_run_80 : decode cX11_run 80 = .ok (.getfield 141, 3) := by decide +kernel
theorem dX11_run_83 : decode cX11_run 83 = .ok (.putfield 62, 3) := by decide +kernel
theorem dX11_run_86 : decode cX11_run 86 = .ok (.aload_n 0, 1) := by decide +kernel
theorem dX11_run_87 : decode cX11_run 87 = .ok (.iconst 1, 1) := by decide +kernel
theorem dX11_run_88 : decode cX11_run 88 = .ok (.putfield 65, 3) := by decide +kernel
theorem dX11_run_91 : decode cX11_run 91 = .ok (.aload_n 0, 1) := by decide +kernel
theorem dX11_run_92 : decode cX11_run 92 = .ok (.aload_n 0, 1) := by decide +kernel
theorem dX11_run_93 : decode cX11_run 93 = .ok (.getfield 36, 3) := by decide +kernel
theorem dX11_run_96 : decode cX11_run 96 = .ok (.getfield 142, 3) := by decide +kernel
theorem dX11_run_99 : decode cX11_run 99 = .ok (.putfield 69, 3) := by decide +kernel
theorem dX11_run_102 : decode cX11_run 102 = .ok (.aload_n 0, 1) := by decide +kernel
theorem dX11_run_103 : decode cX11_run 103 = .ok (.aload_n 0, 1) := by decide +kernel
theorem dX11_run_104 : decode cX11_run 104 = .ok (.getfield 36, 3) := by decide +kernel
theorem dX11_run_107 : decode cX11_run 107 = .ok (.getfield 145, 3) := by decide +kernel
theorem dX11_run_110 : decode cX11_run 110 = .ok (.putfield 72, 3) := by decide +kernel
theorem dX11_run_113 : decode cX11_run 113 = .ok (.aload_n 0, 1) := by decide +kernel
theorem dX11_run_114 : decode cX11_run 114 = .ok (.aload_n 0, 1) := by decide +kernel
theorem dX11_run_115 : decode cX11_run 115 = .ok (.getfield 36, 3) := by decide +kernel
theorem dX11_run_118 : decode cX11_run 118 = .ok (.getfield 148, 3) := by decide +kernel
theorem dX11_run_121 : decode cX11_run 121 = .ok (.iconst 1, 1) := by decide +kernel
theorem dX11_run_122 : decode cX11_run 122 = .ok (.if_icmp .ne 7, 3) := by decide +kernel
theorem dX11_run_125 : decode cX11_run 125 = .ok (.iconst 1, 1) := by decide +kernel
theorem dX11_run_126 : decode cX11_run 126 = .ok (.goto 4, 3) := by decide +kernel
theorem dX11_run_129 : decode cX11_run 129 = .ok (.iconst 0, 1) := by decide +kernel
theorem dX11_run_130 : decode cX11_run 130 = .ok (.putfield 75, 3) := by decide +kernel
theorem dX11_run_133 : decode cX11_run 133 = .ok (.aload_n 0, 1) := by decide +kernel
theorem dX11_run_134 : decode cX11_run 134 = .ok (.aload_n 0, 1) := by decide +kernel
theorem dX11_run_135 : decode cX11_run 135 = .ok (.getfield 36, 3) := by decide +kernel
theorem dX11_run_138 : decode cX11_run 138 = .ok (.getfield 151, 3) := by decide +kernel
theorem dX11_run_141 : decode cX11_run 141 = .ok (.putfield 78, 3) := by decide +kernel
theorem dX11_run_144 : decode cX11_run 144 = .ok (.aload_n 0, 1) := by decide +kernel
theorem dX11_run_145 : decode cX11_run 145 = .ok (.getfield 75, 3) := by decide +kernel
theorem dX11_run_148 : decode cX11_run 148 = .ok (.ifCond .ne 11, 3) := by decide +kernel
theorem dX11_run_151 : decode cX11_run 151 = .ok (.aload_n 0, 1) := by decide +kernel
theorem dX11_run_152 : decode cX11_run 152 = .ok (.getfield 45, 3) := by decide +kernel
theorem dX11_run_155 : decode cX11_run 155 = .ok (.iconst 0, 1) := by decide +kernel
theorem dX11_run_156 : decode cX11_run 156 = .ok (.putfield 154, 3) := by decide +kernel
theorem dX11_run_159 : decode cX11_run 159 = .ok (.aload_n 0, 1) := by decide +kernel
theorem dX11_run_160 : decode cX11_run 160 = .ok (.getfield 36, 3) := by decide +kernel
theorem dX11_run_163 : decode cX11_run 163 = .ok (.getfield 148, 3) := by decide +kernel
theorem dX11_run_166 : decode cX11_run 166 = .ok (.ireturn, 1) := by decide +kernel
set_option maxHeartbeats 4000000 in
set_option maxRecDepth 100000 in
theorem c_X1_begin_e4000 (l : Launch) (dC : Nat → ClassId) (dI : Nat → Nat → Nat) (aK aV : Nat → Nat) (h0 : Nat) (nki : Nat) (ek : Nat) (ec : Nat) (ef : Nat) (cki : Nat) (e1 : ClassId) (e2 : ClassId) (e3 : ClassId) (e_limit : Int32) (e_fresh : Int32) (e_firstFree : Int32) (e_held : Int32) (e_mostHeld : Int32) (e_made : Int32) (e_reused : Int32) (e_freed : Int32) (e_doubled : Int32) (gk : Nat → Int32) (gc : Nat → Int32) (gv : Nat → Int64) (mo : Int32) (sz : Nat)  : Met l yX1_begin (Cond.code yX1_begin cX1_begin 3 none :: zw) ({ frames := 8, cells := 0, slots := 0, locals := 200 }) (va_Pc [.ref h0, .ref nki, .int mo] (zP dC dI aK aV sz [(e1, .int), (e2, .int), (e3, .long)] [(h0, .inr (1, [.ref ek, .ref ec, .ref ef, .ref cki, .int e_limit, .int e_fresh, .int e_firstFree, .int e_held, .int e_mostHeld, .int e_made, .int e_reused, .int e_freed, .int e_doubled])), (ek, .inl (e1, 4000, .inl gk)), (ec, .inl (e2, 4000, .inl gc)), (ef, .inl (e3, 12000, .inr (.inl gv)))])) (va_Qv (fun u : Int32 => match u with | li => (li.toInt ≤ mo.toInt) ∧ (li.toInt ≤ 4000) ∧ (4000 < mo.toInt ∨ li.toInt = mo.toInt)) (fun u => match u with | li => zQ dC dI (va_A [(h0, .inr (1, [.ref ek, .ref ec, .ref ef, .ref cki, .int e_limit, .int e_fresh, .int e_firstFree, .int e_held, .int e_mostHeld, .int e_made, .int e_reused, .int e_freed, .int e_doubled])), (ek, .inl (e1, 4000, .inl gk)), (ec, .inl (e2, 4000, .inl gc)), (ef, .inl (e3, 12000, .inr (.inl gv)))] sz) [(e1, .int), (e2, .int), (e3, .long)] [(h0, .inr (1, [.ref ek, .ref ec, .ref ef, .ref nki, .int li, .int 0, .int (-1), .int 0, .int 0, .int 0, .int 0, .int 0, .int 0])), (ek, .inl (e1, 4000, .inl gk)), (ec, .inl (e2, 4000, .inl gc)), (ef, .inl (e3, 12000, .inr (.inl gv)))]) (va_A [(h0, .inr (1, [.ref ek, .ref ec, .ref ef, .ref cki, .int e_limit, .int e_fresh, .int e_firstFree, .int e_held, .int e_mostHeld, .int e_made, .int e_reused, .int e_freed, .int e_doubled])), (ek, .inl (e1, 4000, .inl gk)), (ec, .inl (e2, 4000, .inl gc)), (ef, .inl (e3, 12000, .inr (.inl gv)))] sz)) 0 0 (va_A [(h0, .inr (1, [.ref ek, .ref ec, .ref ef, .ref cki, .int e_limit, .int e_fresh, .int e_firstFree, .int e_held, .int e_mostHeld, .int e_made, .int e_reused, .int e_freed, .int e_doubled])), (ek, .inl (e1, 4000, .inl gk)), (ec, .inl (e2, 4000, .inl gc)), (ef, .inl (e3, 12000, .inr (.inl gv)))] sz) := by
  refine Met.ofW (cc := cX1_begin) (maxL := 3) (ret := none) (by decide) rfl ?_
  intro p e s m args below meth c s₁ B hml hv
  obtain ⟨rfl, hsz, hP, hK, hD0, hN, hT⟩ := hv
  have hx := B.exec
  have hb := B.bytes
  have hr := B.returns
  have hts := atoms_spec (ws := Cond.code yX1_begin cX1_begin 3 none :: zw) B.pre
  have hA : ∀ w ∈ zw, w.before _ s = true := fun w h => hts w (List.mem_cons_of_mem _ h)
  have hown : s.vm.findClass RX1 = some m.cls := findClass_of_methodNamed B.named
  have hlocks := B.notSynchronized
  subst hsz
  have hD := hD0.self (sz := s.heap.size)
  generalize hAe : va_A [(h0, .inr (1, [.ref ek, .ref ec, .ref ef, .ref cki, .int e_limit, .int e_fresh, .int e_firstFree, .int e_held, .int e_mostHeld, .int e_made, .int e_reused, .int e_freed, .int e_doubled])), (ek, .inl (e1, 4000, .inl gk)), (ec, .inl (e2, 4000, .inl gc)), (ef, .inl (e3, 12000, .inr (.inl gv)))] s.heap.size = A at hD hT ⊢
  have hAA : ∀ q : Nat, s.heap.size ≤ q → A q := fun q h => by rw [← hAe]; exact Or.inr h
  have hS : va_S A s.heap s.heap [] := va_S.rf
  have hl := lv_entry ([.ref h0, .ref nki, .int mo]) (n := 3) (Nat.le_of_ble_eq_true rfl)
  rw [lg_entry_eq]
  generalize (lg_sl ([.ref h0, .ref nki, .int mo]) ++ List.replicate (3 - (lg_sl ([.ref h0, .ref nki, .int mo])).length) Slot.unset).toArray = ls at hl ⊢
  have hl : lv_has ls 3 [(0, .ref h0), (1, .ref nki), (2, .int mo)] := hl
  refine lv_aload_n hx hb dX1_begin_0 rfl (lv_at hl 0 rfl) ?_
  refine lv_aload_n hx hb dX1_begin_1 rfl (lv_at hl 1 rfl) ?_
  refine va_put (D := (dC, dI)) (ci := 1) (v := .ref nki) (ty := .object "ReuseHouse$Kinds") (C := RX1) (T := TX1) (N := 13) hx hb hA zin_X1 tyX1 tyX1_ok nmX1 hown hK hP hD hS 0 rfl rfl 3 (by decide) (hA _ wi_439) (fun _ h9 => h9) rfl (by decide +kernel) rfl rfl (Nat.le_of_ble_eq_true rfl) dX1_begin_2 (fun H locs hP hD hS => ?_)
  have hP : va_P (dC, dI) vwCl [(h0, .inr (1, [.ref ek, .ref ec, .ref ef, .ref nki, .int e_limit, .int e_fresh, .int e_firstFree, .int e_held, .int e_mostHeld, .int e_made, .int e_reused, .int e_freed, .int e_doubled])), (ek, .inl (e1, 4000, .inl gk)), (ec, .inl (e2, 4000, .inl gc)), (ef, .inl (e3, 12000, .inr (.inl gv)))] H := hP
  have hD : va_D A [(h0, .inr (1, [.ref ek, .ref ec, .ref ef, .ref nki, .int e_limit, .int e_fresh, .int e_firstFree, .int e_held, .int e_mostHeld, .int e_made, .int e_reused, .int e_freed, .int e_doubled])), (ek, .inl (e1, 4000, .inl gk)), (ec, .inl (e2, 4000, .inl gc)), (ef, .inl (e3, 12000, .inr (.inl gv)))] := hD
  refine lv_aload_n hx hb dX1_begin_5 rfl (lv_at hl 0 rfl) ?_
  refine lv_iload_n hx hb dX1_begin_6 rfl (lv_at hl 2 rfl) ?_
  refine lv_aload_n hx hb dX1_begin_7 rfl (lv_at hl 0 rfl) ?_
  refine va_get (D := (dC, dI)) (ci := 1) (v := .ref ek) (C := RX1) (T := TX1) (N := 13) hx hb hA zin_X1 hown hK hP 0 rfl rfl 0 (by decide) (hA _ wi_435) (fun _ h9 => h9) rfl dX1_begin_8 ?_
  refine va_alen (v := 4000) hx hb hK hP 1 0 rfl rfl rfl dX1_begin_11 ?_
  refine va_mmin hx hb (by rw [hml]; exact hl.1.symm) hown (hA _ wi_1092) (hA _ wi_658) (hA _ wi_141) (hA _ wi_659) (Nat.le_of_ble_eq_true rfl) (Nat.le_of_ble_eq_true rfl) (Nat.le_of_ble_eq_true rfl) (Nat.le_of_ble_eq_true rfl) dX1_begin_12 ?_
  refine lv_topi (fun x_1 ex_1 => ?_)
  have ix_1 : x_1.toInt ≤ mo.toInt ∧ x_1.toInt ≤ 4000 ∧ (x_1.toInt = mo.toInt ∨ x_1.toInt = 4000) := zi_min ex_1 rfl (by decide)
  refine va_put (D := (dC, dI)) (ci := 1) (v := .int x_1) (ty := .int) (C := RX1) (T := TX1) (N := 13) hx hb hA zin_X1 tyX1 tyX1_ok nmX1 hown hK hP hD hS 0 rfl rfl 4 (by decide) (hA _ wi_441) (fun _ h9 => h9) rfl (by decide +kernel) rfl rfl (Nat.le_of_ble_eq_true rfl) dX1_begin_15 (fun H locs hP hD hS => ?_)
  have hP : va_P (dC, dI) vwCl [(h0, .inr (1, [.ref ek, .ref ec, .ref ef, .ref nki, .int x_1, .int e_fresh, .int e_firstFree, .int e_held, .int e_mostHeld, .int e_made, .int e_reused, .int e_freed, .int e_doubled])), (ek, .inl (e1, 4000, .inl gk)), (ec, .inl (e2, 4000, .inl gc)), (ef, .inl (e3, 12000, .inr (.inl gv)))] H := hP
  have hD : va_D A [(h0, .inr (1, [.ref ek, .ref ec, .ref ef, .ref nki, .int x_1, .int e_fresh, .int e_firstFree, .int e_held, .int e_mostHeld, .int e_made, .int e_reused, .int e_freed, .int e_doubled])), (ek, .inl (e1, 4000, .inl gk)), (ec, .inl (e2, 4000, .inl gc)), (ef, .inl (e3, 12000, .inr (.inl gv)))] := hD
  refine lv_aload_n hx hb dX1_begin_18 rfl (lv_at hl 0 rfl) ?_
  refine lv_iconst (v := 0) hx hb dX1_begin_19 (by decide) ?_
  refine va_put (D := (dC, dI)) (ci := 1) (v := .int 0) (ty := .int) (C := RX1) (T := TX1) (N := 13) hx hb hA zin_X1 tyX1 tyX1_ok nmX1 hown hK hP hD hS 0 rfl rfl 5 (by decide) (hA _ wi_442) (fun _ h9 => h9) rfl (by decide +kernel) rfl rfl (Nat.le_of_ble_eq_true rfl) dX1_begin_20 (fun H locs hP hD hS => ?_)
  have hP : va_P (dC, dI) vwCl [(h0, .inr (1, [.ref ek, .ref ec, .ref ef, .ref nki, .int x_1, .int 0, .int e_firstFree, .int e_held, .int e_mostHeld, .int e_made, .int e_reused, .int e_freed, .int e_doubled])), (ek, .inl (e1, 4000, .inl gk)), (ec, .inl (e2, 4000, .inl gc)), (ef, .inl (e3, 12000, .inr (.inl gv)))] H := hP
  have hD : va_D A [(h0, .inr (1, [.ref ek, .ref ec, .ref ef, .ref nki, .int x_1, .int 0, .int e_firstFree, .int e_held, .int e_mostHeld, .int e_made, .int e_reused, .int e_freed, .int e_doubled])), (ek, .inl (e1, 4000, .inl gk)), (ec, .inl (e2, 4000, .inl gc)), (ef, .inl (e3, 12000, .inr (.inl gv)))] := hD
  refine lv_aload_n hx hb dX1_begin_23 rfl (lv_at hl 0 rfl) ?_
  refine lv_iconst (v := (-1)) hx hb dX1_begin_24 (by decide) ?_
  refine va_put (D := (dC, dI)) (ci := 1) (v := .int (-1)) (ty := .int) (C := RX1) (T := TX1) (N := 13) hx hb hA zin_X1 tyX1 tyX1_ok nmX1 hown hK hP hD hS 0 rfl rfl 6 (by decide) (hA _ wi_443) (fun _ h9 => h9) rfl (by decide +kernel) rfl rfl (Nat.le_of_ble_eq_true rfl) dX1_begin_25 (fun H locs hP hD hS => ?_)
  have hP : va_P (dC, dI) vwCl [(h0, .inr (1, [.ref ek, .ref ec, .ref ef, .ref nki, .int x_1, .int 0, .int (-1), .int e_held, .int e_mostHeld, .int e_made, .int e_reused, .int e_freed, .int e_doubled])), (ek, .inl (e1, 4000, .inl gk)), (ec, .inl (e2, 4000, .inl gc)), (ef, .inl (e3, 12000, .inr (.inl gv)))] H := hP
  have hD : va_D A [(h0, .inr (1, [.ref ek, .ref ec, .ref ef, .ref nki, .int x_1, .int 0, .int (-1), .int e_held, .int e_mostHeld, .int e_made, .int e_reused, .int e_freed, .int e_doubled])), (ek, .inl (e1, 4000, .inl gk)), (ec, .inl (e2, 4000, .inl gc)), (ef, .inl (e3, 12000, .inr (.inl gv)))] := hD
  refine lv_aload_n hx hb dX1_begin_28 rfl (lv_at hl 0 rfl) ?_
  refine lv_iconst (v := 0) hx hb dX1_begin_29 (by decide) ?_
  refine va_put (D := (dC, dI)) (ci := 1) (v := .int 0) (ty := .int) (C := RX1) (T := TX1) (N := 13) hx hb hA zin_X1 tyX1 tyX1_ok nmX1 hown hK hP hD hS 0 rfl rfl 7 (by decide) (hA _ wi_444) (fun _ h9 => h9) rfl (by decide +kernel) rfl rfl (Nat.le_of_ble_eq_true rfl) dX1_begin_30 (fun H locs hP hD hS => ?_)
  have hP : va_P (dC, dI) vwCl [(h0, .inr (1, [.ref ek, .ref ec, .ref ef, .ref nki, .int x_1, .int 0, .int (-1), .int 0, .int e_mostHeld, .int e_made, .int e_reused, .int e_freed, .int e_doubled])), (ek, .inl (e1, 4000, .inl gk)), (ec, .inl (e2, 4000, .inl gc)), (ef, .inl (e3, 12000, .inr (.inl gv)))] H := hP
  have hD : va_D A [(h0, .inr (1, [.ref ek, .ref ec, .ref ef, .ref nki, .int x_1, .int 0, .int (-1), .int 0, .int e_mostHeld, .int e_made, .int e_reused, .int e_freed, .int e_doubled])), (ek, .inl (e1, 4000, .inl gk)), (ec, .inl (e2, 4000, .inl gc)), (ef, .inl (e3, 12000, .inr (.inl gv)))] := hD
  refine lv_aload_n hx hb dX1_begin_33 rfl (lv_at hl 0 rfl) ?_
  refine lv_iconst (v := 0) hx hb dX1_begin_34 (by decide) ?_
  refine va_put (D := (dC, dI)) (ci := 1) (v := .int 0) (ty := .int) (C := RX1) (T := TX1) (N := 13) hx hb hA zin_X1 tyX1 tyX1_ok nmX1 hown hK hP hD hS 0 rfl rfl 8 (by decide) (hA _ wi_446) (fun _ h9 => h9) rfl (by decide +kernel) rfl rfl (Nat.le_of_ble_eq_true rfl) dX1_begin_35 (fun H locs hP hD hS => ?_)
  have hP : va_P (dC, dI) vwCl [(h0, .inr (1, [.ref ek, .ref ec, .ref ef, .ref nki, .int x_1, .int 0, .int (-1), .int 0, .int 0, .int e_made, .int e_reused, .int e_freed, .int e_doubled])), (ek, .inl (e1, 4000, .inl gk)), (ec, .inl (e2, 4000, .inl gc)), (ef, .inl (e3, 12000, .inr (.inl gv)))] H := hP
  have hD : va_D A [(h0, .inr (1, [.ref ek, .ref ec, .ref ef, .ref nki, .int x_1, .int 0, .int (-1), .int 0, .int 0, .int e_made, .int e_reused, .int e_freed, .int e_doubled])), (ek, .inl (e1, 4000, .inl gk)), (ec, .inl (e2, 4000, .inl gc)), (ef, .inl (e3, 12000, .inr (.inl gv)))] := hD
  refine lv_aload_n hx hb dX1_begin_38 rfl (lv_at hl 0 rfl) ?_
  refine lv_iconst (v := 0) hx hb dX1_begin_39 (by decide) ?_
  refine va_put (D := (dC, dI)) (ci := 1) (v := .int 0) (ty := .int) (C := RX1) (T := TX1) (N := 13) hx hb hA zin_X1 tyX1 tyX1_ok nmX1 hown hK hP hD hS 0 rfl rfl 9 (by decide) (hA _ wi_448) (fun _ h9 => h9) rfl (by decide +kernel) rfl rfl (Nat.le_of_ble_eq_true rfl) dX1_begin_40 (fun H locs hP hD hS => ?_)
  have hP : va_P (dC, dI) vwCl [(h0, .inr (1, [.ref ek, .ref ec, .ref ef, .ref nki, .int x_1, .int 0, .int (-1), .int 0, .int 0, .int 0, .int e_reused, .int e_freed, .int e_doubled])), (ek, .inl (e1, 4000, .inl gk)), (ec, .inl (e2, 4000, .inl gc)), (ef, .inl (e3, 12000, .inr (.inl gv)))] H := hP
  have hD : va_D A [(h0, .inr (1, [.ref ek, .ref ec, .ref ef, .ref nki, .int x_1, .int 0, .int (-1), .int 0, .int 0, .int 0, .int e_reused, .int e_freed, .int e_doubled])), (ek, .inl (e1, 4000, .inl gk)), (ec, .inl (e2, 4000, .inl gc)), (ef, .inl (e3, 12000, .inr (.inl gv)))] := hD
  refine lv_aload_n hx hb dX1_begin_43 rfl (lv_at hl 0 rfl) ?_
  refine lv_iconst (v := 0) hx hb dX1_begin_44 (by decide) ?_
  refine va_put (D := (dC, dI)) (ci := 1) (v := .int 0) (ty := .int) (C := RX1) (T := TX1) (N := 13) hx hb hA zin_X1 tyX1 tyX1_ok nmX1 hown hK hP hD hS 0 rfl rfl 10 (by decide) (hA _ wi_450) (fun _ h9 => h9) rfl (by decide +kernel) rfl rfl (Nat.le_of_ble_eq_true rfl) dX1_begin_45 (fun H locs hP hD hS => ?_)
  have hP : va_P (dC, dI) vwCl [(h0, .inr (1, [.ref ek, .ref ec, .ref ef, .ref nki, .int x_1, .int 0, .int (-1), .int 0, .int 0, .int 0, .int 0, .int e_freed, .int e_doubled])), (ek, .inl (e1, 4000, .inl gk)), (ec, .inl (e2, 4000, .inl gc)), (ef, .inl (e3, 12000, .inr (.inl gv)))] H := hP
  have hD : va_D A [(h0, .inr (1, [.ref ek, .ref ec, .ref ef, .ref nki, .int x_1, .int 0, .int (-1), .int 0, .int 0, .int 0, .int 0, .int e_freed, .int e_doubled])), (ek, .inl (e1, 4000, .inl gk)), (ec, .inl (e2, 4000, .inl gc)), (ef, .inl (e3, 12000, .inr (.inl gv)))] := hD
  refine lv_aload_n hx hb dX1_begin_48 rfl (lv_at hl 0 rfl) ?_
  refine lv_iconst (v := 0) hx hb dX1_begin_49 (by decide) ?_
  refine va_put (D := (dC, dI)) (ci := 1) (v := .int 0) (ty := .int) (C := RX1) (T := TX1) (N := 13) hx hb hA zin_X1 tyX1 tyX1_ok nmX1 hown hK hP hD hS 0 rfl rfl 11 (by decide) (hA _ wi_453) (fun _ h9 => h9) rfl (by decide +kernel) rfl rfl (Nat.le_of_ble_eq_true rfl) dX1_begin_50 (fun H locs hP hD hS => ?_)
  have hP : va_P (dC, dI) vwCl [(h0, .inr (1, [.ref ek, .ref ec, .ref ef, .ref nki, .int x_1, .int 0, .int (-1), .int 0, .int 0, .int 0, .int 0, .int 0, .int e_doubled])), (ek, .inl (e1, 4000, .inl gk)), (ec, .inl (e2, 4000, .inl gc)), (ef, .inl (e3, 12000, .inr (.inl gv)))] H := hP
  have hD : va_D A [(h0, .inr (1, [.ref ek, .ref ec, .ref ef, .ref nki, .int x_1, .int 0, .int (-1), .int 0, .int 0, .int 0, .int 0, .int 0, .int e_doubled])), (ek, .inl (e1, 4000, .inl gk)), (ec, .inl (e2, 4000, .inl gc)), (ef, .inl (e3, 12000, .inr (.inl gv)))] := hD
  refine lv_aload_n hx hb dX1_begin_53 rfl (lv_at hl 0 rfl) ?_
  refine lv_iconst (v := 0) hx hb dX1_begin_54 (by decide) ?_
  refine va_put (D := (dC, dI)) (ci := 1) (v := .int 0) (ty := .int) (C := RX1) (T := TX1) (N := 13) hx hb hA zin_X1 tyX1 tyX1_ok nmX1 hown hK hP hD hS 0 rfl rfl 12 (by decide) (hA _ wi_455) (fun _ h9 => h9) rfl (by decide +kernel) rfl rfl (Nat.le_of_ble_eq_true rfl) dX1_begin_55 (fun H locs hP hD hS => ?_)
  have hP : va_P (dC, dI) vwCl [(h0, .inr (1, [.ref ek, .ref ec, .ref ef, .ref nki, .int x_1, .int 0, .int (-1), .int 0, .int 0, .int 0, .int 0, .int 0, .int 0])), (ek, .inl (e1, 4000, .inl gk)), (ec, .inl (e2, 4000, .inl gc)), (ef, .inl (e3, 12000, .inr (.inl gv)))] H := hP
  have hD : va_D A [(h0, .inr (1, [.ref ek, .ref ec, .ref ef, .ref nki, .int x_1, .int 0, .int (-1), .int 0, .int 0, .int 0, .int 0, .int 0, .int 0])), (ek, .inl (e1, 4000, .inl gk)), (ec, .inl (e2, 4000, .inl gc)), (ef, .inl (e3, 12000, .inr (.inl gv)))] := hD
  have hP9 := hP.sub (ws' := [(h0, .inr (1, [.ref ek, .ref ec, .ref ef, .ref nki, .int x_1, .int 0, .int (-1), .int 0, .int 0, .int 0, .int 0, .int 0, .int 0])), (ek, .inl (e1, 4000, .inl gk)), (ec, .inl (e2, 4000, .inl gc)), (ef, .inl (e3, 12000, .inr (.inl gv)))]) [0, 1, 2, 3] rfl
  have hD9 := hD.sub (ws' := [(h0, .inr (1, [.ref ek, .ref ec, .ref ef, .ref nki, .int x_1, .int 0, .int (-1), .int 0, .int 0, .int 0, .int 0, .int 0, .int 0])), (ek, .inl (e1, 4000, .inl gk)), (ec, .inl (e2, 4000, .inl gc)), (ef, .inl (e3, 12000, .inr (.inl gv)))]) [0, 1, 2, 3] (by decide) rfl
  have hK9 := hK.sub (tys' := [(e1, .int), (e2, .int), (e3, .long)]) [0, 1, 2] rfl
  exact W.vret hx hb hr (fun t ht hW => ⟨⟨(x_1), rfl, ⟨by omega, by omega, by omega⟩, by rw [ht]; exact hP9, va_K.moved hW.alike hK9, hD9⟩, hS.F ht⟩) hS.2.2 dX1_begin_58

end
