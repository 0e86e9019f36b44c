theorem wi_309 : Cond.fieldLink RX5 71 "ReuseHouse$Program" "code" "LReuseHouse$Code;" ∈ zw := zw_in (List.mem_of_getElem? (i := 309) (by decide +kernel)) (by decide +kernel)
theorem wi_586 : Cond.fieldLink RX11 20 "ReuseHouse" "taken" "LReuseHouse$Program;" ∈ zw := zw_in (List.mem_of_getElem? (i := 586) (by decide +kernel)) (by decide +kernel)
theorem wi_321 : Cond.fieldLink RX11 102 "ReuseHouse$Program" "functions" "LReuseHouse$Functions;" ∈ zw := zw_in (List.mem_of_getElem? (i := 321) (by decide +kernel)) (by decide +kernel)
theorem wi_1078 : Cond.methodLink RX11 111 yX3_has ∈ zw := zw_in (List.mem_of_getElem? (i := 1078) (by decide +kernel)) (by decide +kernel)
theorem wi_1079 : Cond.methodLink RX11 115 yX3_fact ∈ zw := zw_in (List.mem_of_getElem? (i := 1079) (by decide +kernel)) (by decide +kernel)
theorem wi_588 : Cond.fieldLink RX11 36 "ReuseHouse" "machine" "LReuseHouse$Machine;" ∈ zw := zw_in (List.mem_of_getElem? (i := 588) (by decide +kernel)) (by decide +kernel)
theorem wi_1101 : Cond.methodLink RX11 157 yX1_ofInt ∈ zw := zw_in (List.mem_of_getElem? (i := 1101) (by decide +kernel)) (by decide +kernel)
theorem wi_1105 : Cond.methodLink RX11 161 yX5_push ∈ zw := zw_in (List.mem_of_getElem? (i := 1105) (by decide +kernel)) (by decide +kernel)
theorem dX11_mayWork_0 : decode cX11_mayWork 0 = .ok (.aload_n 0, 1) := by decide +kernel
theorem dX11_mayWork_1 : decode cX11_mayWork 1 = .ok (.getfield 20, 3) := by decide +kernel
theorem dX11_mayWork_4 : decode cX11_mayWork 4 = .ok (.getfield 102, 3) := by decide +kernel
theorem dX11_mayWork_7 : decode cX11_mayWork 7 = .ok (.iload_n 1, 1) := by decide +kernel
theorem dX11_mayWork_8 : decode cX11_mayWork 8 = .ok (.invokevirtual 111, 3) := by decide +kernel
theorem dX11_mayWork_11 : decode cX11_mayWork 11 = .ok (.ifCond .eq 18, 3) := by decide +kernel
theorem dX11_mayWork_14 : decode cX11_mayWork 14 = .ok (.iload_n 2, 1) := by decide +kernel
theorem dX11_mayWork_15 : decode cX11_mayWork 15 = .ok (.ifCond .lt 14, 3) := by decide +kernel
theorem dX11_mayWork_18 : decode cX11_mayWork 18 = .ok (.iload_n 2, 1) := by decide +kernel
theorem dX11_mayWork_19 : decode cX11_mayWork 19 = .ok (.sipush 20000, 3) := by decide +kernel
theorem dX11_mayWork_22 : decode cX11_mayWork 22 = .ok (.if_icmp .gt 7, 3) := by decide +kernel
theorem dX11_mayWork_25 : decode cX11_mayWork 25 = .ok (.iconst 1, 1) := by decide +kernel
theorem dX11_mayWork_26 : decode cX11_mayWork 26 = .ok (.goto 4, 3) := by decide +kernel
theorem dX11_mayWork_29 : decode cX11_mayWork 29 = .ok (.iconst 0, 1) := by decide +kernel
theorem dX11_mayWork_30 : decode cX11_mayWork 30 = .ok (.ireturn, 1) := by decide +kernel
theorem dX11_tellInts_0 : decode cX11_tellInts 0 = .ok (.aload_n 0, 1) := by decide +kernel
theorem dX11_tellInts_1 : decode cX11_tellInts 1 = .ok (.getfield 20, 3) := by decide +kernel
theorem dX11_tellInts_4 : decode cX11_tellInts 4 = .ok (.getfield 102, 3) := by decide +kernel
theorem dX11_tellInts_7 : decode cX11_tellInts 7 = .ok (.iload_n 1, 1) := by decide +kernel
theorem dX11_tellInts_8 : decode cX11_tellInts 8 = .ok (.iconst 0, 1) := by decide +kernel
theorem dX11_tellInts_9 : decode cX11_tellInts 9 = .ok (.invokevirtual 115, 3) := by decide +kernel
theorem dX11_tellInts_12 : decode cX11_tellInts 12 = .ok (.istore 6, 2) := by decide +kernel
theorem dX11_tellInts_14 : decode cX11_tellInts 14 = .ok (.iconst 0, 1) := by decide +kernel
theorem dX11_tellInts_15 : decode cX11_tellInts 15 = .ok (.istore 7, 2) := by decide +kernel
theorem dX11_tellInts_17 : decode cX11_tellInts 17 = .ok (.iload 7, 2) := by decide +kernel
theorem dX11_tellInts_19 : decode cX11_tellInts 19 = .ok (.iload 6, 2) := by decide +kernel
theorem dX11_tellInts_21 : decode cX11_tellInts 21 = .ok (.if_icmp .ge 65, 3) := by decide +kernel
theorem dX11_tellInts_24 : decode cX11_tellInts 24 = .ok (.iload 7, 2) := by decide +kernel
theorem dX11_tellInts_26 : decode cX11_tellInts 26 = .ok (.ifCond .ne 7, 3) := by decide +kernel
theorem dX11_tellInts_29 : decode cX11_tellInts 29 = .ok (.iload_n 2, 1) := by decide +kernel
theorem dX11_tellInts_30 : decode cX11_tellInts 30 = .ok (.goto 36, 3) := by decide +kernel
theorem dX11_tellInts_33 : decode cX11_tellInts 33 = .ok (.iload 7, 2) := by decide +kernel
theorem dX11_tellInts_35 : decode cX11_tellInts 35 = .ok (.iconst 1, 1) := by decide +kernel
theorem dX11_tellInts_36 : decode cX11_tellInts 36 = .ok (.if_icmp .ne 7, 3) := by decide +kernel
theorem dX11_tellInts_39 : decode cX11_tellInts 39 = .ok (.iload_n 3, 1) := by decide +kernel
theorem dX11_tellInts_40 : decode cX11_tellInts 40 = .ok (.goto 26, 3) := by decide +kernel
theorem dX11_tellInts_43 : decode cX11_tellInts 43 = .ok (.iload 7, 2) := by decide +kernel
theorem dX11_tellInts_45 : decode cX11_tellInts 45 = .ok (.iconst 2, 1) := by decide +kernel
theorem dX11_tellInts_46 : decode cX11_tellInts 46 = .ok (.if_icmp .ne 8, 3) := by decide +kernel
theorem dX11_tellInts_49 : decode cX11_tellInts 49 = .ok (.iload 4, 2) := by decide +kernel
theorem dX11_tellInts_51 : decode cX11_tellInts 51 = .ok (.goto 15, 3) := by decide +kernel
theorem dX11_tellInts_54 : decode cX11_tellInts 54 = .ok (.iload 7, 2) := by decide +kernel
theorem dX11_tellInts_56 : decode cX11_tellInts 56 = .ok (.iconst 3, 1) := by decide +kernel
theorem dX11_tellInts_57 : decode cX11_tellInts 57 = .ok (.if_icmp .ne 8, 3) := by decide +kernel
theorem dX11_tellInts_60 : decode cX11_tellInts 60 = .ok (.iload 5, 2) := by decide +kernel
theorem dX11_tellInts_62 : decode cX11_tellInts 62 = .ok (.goto 4, 3) := by decide +kernel
theorem dX11_tellInts_65 : decode cX11_tellInts 65 = .ok (.iconst 0, 1) := by decide +kernel
theorem dX11_tellInts_66 : decode cX11_tellInts 66 = .ok (.istore 8, 2) := by decide +kernel
theorem dX11_tellInts_68 : decode cX11_tellInts 68 = .ok (.aload_n 0, 1) := by decide +kernel
theorem dX11_tellInts_69 : decode cX11_tellInts 69 = .ok (.getfield 36, 3) := by decide +kernel
theorem dX11_tellInts_72 : decode cX11_tellInts 72 = .ok (.iload 8, 2) := by decide +kernel
theorem dX11_tellInts_74 : decode cX11_tellInts 74 = .ok (.invokestatic 157, 3) := by decide +kernel
theorem dX11_tellInts_77 : decode cX11_tellInts 77 = .ok (.invokevirtual 161, 3) := by decide +kernel
theorem dX11_tellInts_80 : decode cX11_tellInts 80 = .ok (.iinc 7 1, 3) := by decide +kernel
theorem dX11_tellInts_83 : decode cX11_tellInts 83 = .ok (.goto (-66), 3) := by decide +kernel
theorem dX11_tellInts_86 : decode cX11_tellInts 86 = .ok (.return_, 1) := by decide +kernel
theorem dX5_begin_0 : decode cX5_begin 0 = .ok (.aload_n 0, 1) := by decide +kernel
theorem dX5_begin_1 : decode cX5_begin 1 = .ok (.aload_n 1, 1) := by decide +kernel
theorem dX5_begin_2 : decode cX5_begin 2 = .ok (.putfield 67, 3) := by decide +kernel
theorem dX5_begin_5 : decode cX5_begin 5 = .ok (.aload_n 0, 1) := by decide +kernel
theorem dX5_begin_6 : decode cX5_begin 6 = .ok (.aload_n 1, 1) := by decide +kernel
theorem dX5_begin_7 : decode cX5_begin 7 = .ok (.getfield 71, 3) := by decide +kernel
theorem dX5_begin_10 : decode cX5_begin 10 = .ok (.putfield 77, 3) := by decide +kernel
theorem dX5_begin_13 : decode cX5_begin 13 = .ok (.aload_n 0, 1) := by decide +kernel
theorem dX5_begin_14 : decode cX5_begin 14 = .ok (.aload_n 2, 1) := by decide +kernel
theorem dX5_begin_15 : decode cX5_begin 15 = .ok (.putfield 83, 3) := by decide +kernel
theorem dX5_begin_18 : decode cX5_begin 18 = .ok (.aload_n 0, 1) := by decide +kernel
theorem dX5_begin_19 : decode cX5_begin 19 = .ok (.iload_n 3, 1) := by decide +kernel
theorem dX5_begin_20 : decode cX5_begin 20 = .ok (.putfield 9, 3) := by decide +kernel
theorem dX5_begin_23 : decode cX5_begin 23 = .ok (.aload_n 0, 1) := by decide +kernel
theorem dX5_begin_24 : decode cX5_begin 24 = .ok (.iload 4, 2) := by decide +kernel
theorem dX5_begin_26 : decode cX5_begin 26 = .ok (.putfield 48, 3) := by decide +kernel
theorem dX5_begin_29 : decode cX5_begin 29 = .ok (.aload_n 0, 1) := by decide +kernel
theorem dX5_begin_30 : decode cX5_begin 30 = .ok (.iconst 0, 1) := by decide +kernel
theorem dX5_begin_31 : decode cX5_begin 31 = .ok (.putfield 19, 3) := by decide +kernel
theorem dX5_begin_34 : decode cX5_begin 34 = .ok (.aload_n 0, 1) := by decide +kernel
theorem dX5_begin_35 : decode cX5_begin 35 = .ok (.iconst 0, 1) := by decide +kernel
theorem dX5_begin_36 : decode cX5_begin 36 = .ok (.putfield 23, 3) := by decide +kernel
theorem dX5_begin_39 : decode cX5_begin 39 = .ok (.aload_n 0, 1) := by decide +kernel
theorem dX5_begin_40 : decode cX5_begin 40 = .ok (.iconst 0, 1) := by decide +kernel
theorem dX5_begin_41 : decode cX5_begin 41 = .ok (.putfield 36, 3) := by decide +kernel
theorem dX5_begin_44 : decode cX5_begin 44 = .ok (.aload_n 0, 1) := by decide +kernel
theorem dX5_begin_45 : decode cX5_begin 45 = .ok (.iconst 0, 1) := by decide +kernel
theorem dX5_begin_46 : decode cX5_begin 46 = .ok (.putfield 42, 3) := by decide +kernel
theorem dX5_begin_49 : decode cX5_begin 49 = .ok (.aload_n 0, 1) := by decide +kernel
theorem dX5_begin_50 : decode cX5_begin 50 = .ok (.iconst 0, 1) := by decide +kernel
theorem dX5_begin_51 : decode cX5_begin 51 = .ok (.putfield 51, 3) := by decide +kernel
theorem dX5_begin_54 : decode cX5_begin 54 = .ok (.aload_n 0, 1) := by decide +kernel
theorem dX5_begin_55 : decode cX5_begin 55 = .ok (.iconst 0, 1) := by decide +kernel
theorem dX5_begin_56 : decode cX5_begin 56 = .ok (.putfield 54, 3) := by decide +kernel
theorem dX5_begin_59 : decode cX5_begin 59 = .ok (.aload_n 0, 1) := by decide +kernel
theorem dX5_begin_60 : decode cX5_begin 60 = .ok (.iconst 0, 1) := by decide +kernel
theorem dX5_begin_61 : decode cX5_begin 61 = .ok (.putfield 57, 3) := by decide +kernel
theorem dX5_begin_64 : decode cX5_begin 64 = .ok (.aload_n 0, 1) := by decide +kernel
theorem dX5_begin_65 : decode cX5_begin 65 = .ok (.iconst (-1), 1) := by decide +kernel
theorem dX5_begin_66 : decode cX5_begin 66 = .ok (.putfield 60, 3) := by decide +kernel
theorem dX5_begin_69 : decode cX5_begin 69 = .ok (.aload_n 0, 1) := by decide +kernel
theorem dX5_begin_70 : decode cX5_begin 70 = .ok (.lconst 0, 1) := by decide +kernel
theorem dX5_begin_71 : decode cX5_begin 71 = .ok (.putfield 63, 3) := by decide +kernel
theorem dX5_begin_74 : decode cX5_begin 74 = .ok (.return_, 1) := by decide +kernel
set_option maxHeartbeats 4000000 in
set_option maxRecDepth 100000 in
theorem c_X5_begin_0 (l : Launch) (dC : Nat → ClassId) (dI : Nat → Nat → Nat) (aK aV : Nat → Nat) (h0 : Nat) (m_p : Nat) (m_c : Nat) (m_e : Nat) (sk : Nat) (kb : Nat) (kk : Nat) (ks : Nat) (sh : Nat) (mcn : Int32) (tp : Int32) (ba : Int32) (on : Int32) (sn : Int32) (mat : Int32) (alw : Int32) (st : Int32) (mo : Int32) (mh : Int32) (sp : Int32) (re : Int64) (po : Nat) (gco : Nat) (gar : Nat) (gki : Nat) (gfu : Nat) (ce : Nat) (ms_ : Int32) (sz : Nat)  : Met l yX5_begin (Cond.code yX5_begin cX5_begin 5 none :: zw) ({ frames := 8, cells := 0, slots := 0, locals := 200 }) (va_Pc [.ref h0, .ref po, .ref ce, .int 0, .int ms_] (zP dC dI aK aV sz [] [(h0, .inr (5, [.ref m_p, .ref m_c, .ref m_e, .int mcn, .ref sk, .int tp, .int ba, .ref kb, .ref kk, .ref ks, .int on, .ref sh, .int sn, .int mat, .int alw, .int st, .int mo, .int mh, .int sp, .long re])), (po, .inr (9, [.ref gco, .ref gar, .ref gki, .ref gfu]))])) (va_Qv (fun u : Unit => True) (fun u => zQ dC dI (va_A [(h0, .inr (5, [.ref m_p, .ref m_c, .ref m_e, .int mcn, .ref sk, .int tp, .int ba, .ref kb, .ref kk, .ref ks, .int on, .ref sh, .int sn, .int mat, .int alw, .int st, .int mo, .int mh, .int sp, .long re])), (po, .inr (9, [.ref gco, .ref gar, .ref gki, .ref gfu]))] sz) [] [(h0, .inr (5, [.ref po, .ref gco, .ref ce, .int 0, .ref sk, .int 0, .int 0, .ref kb, .ref kk, .ref ks, .int 0, .ref sh, .int 0, .int mat, .int ms_, .int 0, .int 0, .int 0, .int (-1), .long 0])), (po, .inr (9, [.ref gco, .ref gar, .ref gki, .ref gfu]))]) (va_A [(h0, .inr (5, [.ref m_p, .ref m_c, .ref m_e, .int mcn, .ref sk, .int tp, .int ba, .ref kb, .ref kk, .ref ks, .int on, .ref sh, .int sn, .int mat, .int alw, .int st, .int mo, .int mh, .int sp, .long re])), (po, .inr (9, [.ref gco, .ref gar, .ref gki, .ref gfu]))] sz)) 0 0 (va_A [(h0, .inr (5, [.ref m_p, .ref m_c, .ref m_e, .int mcn, .ref sk, .int tp, .int ba, .ref kb, .ref kk, .ref ks, .int on, .ref sh, .int sn, .int mat, .int alw, .int st, .int mo, .int mh, .int sp, .long re])), (po, .inr (9, [.ref gco, .ref gar, .ref gki, .ref gfu]))] sz) := by
  refine Met.ofW (cc := cX5_begin) (maxL := 5) (ret := none) (by decide) rfl ?_
  intro p e s m args below meth c s₁ B hml hv
  obtain ⟨rfl, hsz, hP, hK, hD0, hN, hT⟩ := hv
  have hx := B.exec
  have hb := B.bytes
  have hr := B.returns
  have hts := atoms_spec (ws := Cond.code yX5_begin cX5_begin 5 none :: zw) B.pre
  have hA : ∀ w ∈ zw, w.before _ s = true := fun w h => hts w (List.mem_cons_of_mem _ h)
  have hown : s.vm.findClass RX5 = some m.cls := findClass_of_methodNamed B.named
  have hlocks := B.notSynchronized
  subst hsz
  have hD := hD0.self (sz := s.heap.size)
  generalize hAe : va_A [(h0, .inr (5, [.ref m_p, .ref m_c, .ref m_e, .int mcn, .ref sk, .int tp, .int ba, .ref kb, .ref kk, .ref ks, .int on, .ref sh, .int sn, .int mat, .int alw, .int st, .int mo, .int mh, .int sp, .long re])), (po, .inr (9, [.ref gco, .ref gar, .ref gki, .ref gfu]))] s.heap.size = A at hD hT ⊢
  have hAA : ∀ q : Nat, s.heap.size ≤ q → A q := fun q h => by rw [← hAe]; exact Or.inr h
  have hS : va_S A s.heap s.heap [] := va_S.rf
  have hl := lv_entry ([.ref h0, .ref po, .ref ce, .int 0, .int ms_]) (n := 5) (Nat.le_of_ble_eq_true rfl)
  rw [lg_entry_eq]
  generalize (lg_sl ([.ref h0, .ref po, .ref ce, .int 0, .int ms_]) ++ List.replicate (5 - (lg_sl ([.ref h0, .ref po, .ref ce, .int 0, .int ms_])).length) Slot.unset).toArray = ls at hl ⊢
  have hl : lv_has ls 5 [(0, .ref h0), (1, .ref po), (2, .ref ce), (3, .int 0), (4, .int ms_)] := hl
  refine lv_aload_n hx hb dX5_begin_0 rfl (lv_at hl 0 rfl) ?_
  refine lv_aload_n hx hb dX5_begin_1 rfl (lv_at hl 1 rfl) ?_
  refine va_put (D := (dC, dI)) (ci := 5) (v := .ref po) (ty := .object "ReuseHouse$Program") (C := RX5) (T := TX5) (N := 20) hx hb hA zin_X5 tyX5 tyX5_ok nmX5 hown hK hP hD hS 0 rfl rfl 0 (by decide) (hA _ wi_484) (fun _ h9 => h9) rfl (by decide +kernel) rfl rfl (Nat.le_of_ble_eq_true rfl) dX5_begin_2 (fun H locs hP hD hS => ?_)
  have hP : va_P (dC, dI) vwCl [(h0, .inr (5, [.ref po, .ref m_c, .ref m_e, .int mcn, .ref sk, .int tp, .int ba, .ref kb, .ref kk, .ref ks, .int on, .ref sh, .int sn, .int mat, .int alw, .int st, .int mo, .int mh, .int sp, .long re])), (po, .inr (9, [.ref gco, .ref gar, .ref gki, .ref gfu]))] H := hP
  have hD : va_D A [(h0, .inr (5, [.ref po, .ref m_c, .ref m_e, .int mcn, .ref sk, .int tp, .int ba, .ref kb, .ref kk, .ref ks, .int on, .ref sh, .int sn, .int mat, .int alw, .int st, .int mo, .int mh, .int sp, .long re])), (po, .inr (9, [.ref gco, .ref gar, .ref gki, .ref gfu]))] := hD
  refine lv_aload_n hx hb dX5_begin_5 rfl (lv_at hl 0 rfl) ?_
  refine lv_aload_n hx hb dX5_begin_6 rfl (lv_at hl 1 rfl) ?_
  refine va_get (D := (dC, dI)) (ci := 9) (v := .ref gco) (C := RX9) (T := TX9) (N := 4) hx hb hA zin_X9 hown hK hP 1 rfl rfl 0 (by decide) (hA _ wi_309) (fun _ h9 => h9) rfl dX5_begin_7 ?_
  refine va_put (D := (dC, dI)) (ci := 5) (v := .ref gco) (ty := .object "ReuseHouse$Code") (C := RX5) (T := TX5) (N := 20) hx hb hA zin_X5 tyX5 tyX5_ok nmX5 hown hK hP hD hS 0 rfl rfl 1 (by decide) (hA _ wi_485) (fun _ h9 => h9) rfl (by decide +kernel) rfl rfl (Nat.le_of_ble_eq_true rfl) dX5_begin_10 (fun H locs hP hD hS => ?_)
  have hP : va_P (dC, dI) vwCl [(h0, .inr (5, [.ref po, .ref gco, .ref m_e, .int mcn, .ref sk, .int tp, .int ba, .ref kb, .ref kk, .ref ks, .int on, .ref sh, .int sn, .int mat, .int alw, .int st, .int mo, .int mh, .int sp, .long re])), (po, .inr (9, [.ref gco, .ref gar, .ref gki, .ref gfu]))] H := hP
  have hD : va_D A [(h0, .inr (5, [.ref po, .ref gco, .ref m_e, .int mcn, .ref sk, .int tp, .int ba, .ref kb, .ref kk, .ref ks, .int on, .ref sh, .int sn, .int mat, .int alw, .int st, .int mo, .int mh, .int sp, .long re])), (po, .inr (9, [.ref gco, .ref gar, .ref gki, .ref gfu]))] := hD
  refine lv_aload_n hx hb dX5_begin_13 rfl (lv_at hl 0 rfl) ?_
  refine lv_aload_n hx hb dX5_begin_14 rfl (lv_at hl 2 rfl) ?_
  refine va_put (D := (dC, dI)) (ci := 5) (v := .ref ce) (ty := .object "ReuseHouse$Cells") (C := RX5) (T := TX5) (N := 20) hx hb hA zin_X5 tyX5 tyX5_ok nmX5 hown hK hP hD hS 0 rfl rfl 2 (by decide) (hA _ wi_486) (fun _ h9 => h9) rfl (by decide +kernel) rfl rfl (Nat.le_of_ble_eq_true rfl) dX5_begin_15 (fun H locs hP hD hS => ?_)
  have hP : va_P (dC, dI) vwCl [(h0, .inr (5, [.ref po, .ref gco, .ref ce, .int mcn, .ref sk, .int tp, .int ba, .ref kb, .ref kk, .ref ks, .int on, .ref sh, .int sn, .int mat, .int alw, .int st, .int mo, .int mh, .int sp, .long re])), (po, .inr (9, [.ref gco, .ref gar, .ref gki, .ref gfu]))] H := hP
  have hD : va_D A [(h0, .inr (5, [.ref po, .ref gco, .ref ce, .int mcn, .ref sk, .int tp, .int ba, .ref kb, .ref kk, .ref ks, .int on, .ref sh, .int sn, .int mat, .int alw, .int st, .int mo, .int mh, .int sp, .long re])), (po, .inr (9, [.ref gco, .ref gar, .ref gki, .ref gfu]))] := hD
  refine lv_aload_n hx hb dX5_begin_18 rfl (lv_at hl 0 rfl) ?_
  refine lv_iload_n hx hb dX5_begin_19 rfl (lv_at hl 3 rfl) ?_
  refine va_put (D := (dC, dI)) (ci := 5) (v := .int 0) (ty := .boolean) (C := RX5) (T := TX5) (N := 20) hx hb hA zin_X5 tyX5 tyX5_ok nmX5 hown hK hP hD hS 0 rfl rfl 3 (by decide) (hA _ wi_487) (fun _ h9 => h9) rfl (by decide +kernel) rfl rfl (Nat.le_of_ble_eq_true rfl) dX5_begin_20 (fun H locs hP hD hS => ?_)
  have hP : va_P (dC, dI) vwCl [(h0, .inr (5, [.ref po, .ref gco, .ref ce, .int 0, .ref sk, .int tp, .int ba, .ref kb, .ref kk, .ref ks, .int on, .ref sh, .int sn, .int mat, .int alw, .int st, .int mo, .int mh, .int sp, .long re])), (po, .inr (9, [.ref gco, .ref gar, .ref gki, .ref gfu]))] H := hP
  have hD : va_D A [(h0, .inr (5, [.ref po, .ref gco, .ref ce, .int 0, .ref sk, .int tp, .int ba, .ref kb, .ref kk, .ref ks, .int on, .ref sh, .int sn, .int mat, .int alw, .int st, .int mo, .int mh, .int sp, .long re])), (po, .inr (9, [.ref gco, .ref gar, .ref gki, .ref gfu]))] := hD
  refine lv_aload_n hx hb dX5_begin_23 rfl (lv_at hl 0 rfl) ?_
  refine lv_iload hx hb dX5_begin_24 (lv_at hl 4 rfl) ?_
  refine va_put (D := (dC, dI)) (ci := 5) (v := .int ms_) (ty := .int) (C := RX5) (T := TX5) (N := 20) hx hb hA zin_X5 tyX5 tyX5_ok nmX5 hown hK hP hD hS 0 rfl rfl 14 (by decide) (hA _ wi_498) (fun _ h9 => h9) rfl (by decide +kernel) rfl rfl (Nat.le_of_ble_eq_true rfl) dX5_begin_26 (fun H locs hP hD hS => ?_)
  have hP : va_P (dC, dI) vwCl [(h0, .inr (5, [.ref po, .ref gco, .ref ce, .int 0, .ref sk, .int tp, .int ba, .ref kb, .ref kk, .ref ks, .int on, .ref sh, .int sn, .int mat, .int ms_, .int st, .int mo, .int mh, .int sp, .long re])), (po, .inr (9, [.ref gco, .ref gar, .ref gki, .ref gfu]))] H := hP
  have hD : va_D A [(h0, .inr (5, [.ref po, .ref gco, .ref ce, .int 0, .ref sk, .int tp, .int ba, .ref kb, .ref kk, .ref ks, .int on, .ref sh, .int sn, .int mat, .int ms_, .int st, .int mo, .int mh, .int sp, .long re])), (po, .inr (9, [.ref gco, .ref gar, .ref gki, .ref gfu]))] := hD
  refine lv_aload_n hx hb dX5_begin_29 rfl (lv_at hl 0 rfl) ?_
  refine lv_iconst (v := 0) hx hb dX5_begin_30 (by decide) ?_
  refine va_put (D := (dC, dI)) (ci := 5) (v := .int 0) (ty := .int) (C := RX5) (T := TX5) (N := 20) hx hb hA zin_X5 tyX5 tyX5_ok nmX5 hown hK hP hD hS 0 rfl rfl 5 (by decide) (hA _ wi_489) (fun _ h9 => h9) rfl (by decide +kernel) rfl rfl (Nat.le_of_ble_eq_true rfl) dX5_begin_31 (fun H locs hP hD hS => ?_)
  have hP : va_P (dC, dI) vwCl [(h0, .inr (5, [.ref po, .ref gco, .ref ce, .int 0, .ref sk, .int 0, .int ba, .ref kb, .ref kk, .ref ks, .int on, .ref sh, .int sn, .int mat, .int ms_, .int st, .int mo, .int mh, .int sp, .long re])), (po, .inr (9, [.ref gco, .ref gar, .ref gki, .ref gfu]))] H := hP
  have hD : va_D A [(h0, .inr (5, [.ref po, .ref gco, .ref ce, .int 0, .ref sk, .int 0, .int ba, .ref kb, .ref kk, .ref ks, .int on, .ref sh, .int sn, .int mat, .int ms_, .int st, .int mo, .int mh, .int sp, .long re])), (po, .inr (9, [.ref gco, .ref gar, .ref gki, .ref gfu]))] := hD
  refine lv_aload_n hx hb dX5_begin_34 rfl (lv_at hl 0 rfl) ?_
  refine lv_iconst (v := 0) hx hb dX5_begin_35 (by decide) ?_
  refine va_put (D := (dC, dI)) (ci := 5) (v := .int 0) (ty := .int) (C := RX5) (T := TX5) (N := 20) hx hb hA zin_X5 tyX5 tyX5_ok nmX5 hown hK hP hD hS 0 rfl rfl 6 (by decide) (hA _ wi_490) (fun _ h9 => h9) rfl (by decide +kernel) rfl rfl (Nat.le_of_ble_eq_true rfl) dX5_begin_36 (fun H locs hP hD hS => ?_)
  have hP : va_P (dC, dI) vwCl [(h0, .inr (5, [.ref po, .ref gco, .ref ce, .int 0, .ref sk, .int 0, .int 0, .ref kb, .ref kk, .ref ks, .int on, .ref sh, .int sn, .int mat, .int ms_, .int st, .int mo, .int mh, .int sp, .long re])), (po, .inr (9, [.ref gco, .ref gar, .ref gki, .ref gfu]))] H := hP
  have hD : va_D A [(h0, .inr (5, [.ref po, .ref gco, .ref ce, .int 0, .ref sk, .int 0, .int 0, .ref kb, .ref kk, .ref ks, .int on, .ref sh, .int sn, .int mat, .int ms_, .int st, .int mo, .int mh, .int sp, .long re])), (po, .inr (9, [.ref gco, .ref gar, .ref gki, .ref gfu]))] := hD
  refine lv_aload_n hx hb dX5_begin_39 rfl (lv_at hl 0 rfl) ?_
  refine lv_iconst (v := 0) hx hb dX5_begin_40 (by decide) ?_
  refine va_put (D := (dC, dI)) (ci := 5) (v := .int 0) (ty := .int) (C := RX5) (T := TX5) (N := 20) hx hb hA zin_X5 tyX5 tyX5_ok nmX5 hown hK hP hD hS 0 rfl rfl 10 (by decide) (hA _ wi_494) (fun _ h9 => h9) rfl (by decide +kernel) rfl rfl (Nat.le_of_ble_eq_true rfl) dX5_begin_41 (fun H locs hP hD hS => ?_)
  have hP : va_P (dC, dI) vwCl [(h0, .inr (5, [.ref po, .ref gco, .ref ce, .int 0, .ref sk, .int 0, .int 0, .ref kb, .ref kk, .ref ks, .int 0, .ref sh, .int sn, .int mat, .int ms_, .int st, .int mo, .int mh, .int sp, .long re])), (po, .inr (9, [.ref gco, .ref gar, .ref gki, .ref gfu]))] H := hP
  have hD : va_D A [(h0, .inr (5, [.ref po, .ref gco, .ref ce, .int 0, .ref sk, .int 0, .int 0, .ref kb, .ref kk, .ref ks, .int 0, .ref sh, .int sn, .int mat, .int ms_, .int st, .int mo, .int mh, .int sp, .long re])), (po, .inr (9, [.ref gco, .ref gar, .ref gki, .ref gfu]))] := hD
  refine lv_aload_n hx hb dX5_begin_44 rfl (lv_at hl 0 rfl) ?_
  refine lv_iconst (v := 0) hx hb dX5_begin_45 (by decide) ?_
  refine va_put (D := (dC, dI)) (ci := 5) (v := .int 0) (ty := .int) (C := RX5) (T := TX5) (N := 20) hx hb hA zin_X5 tyX5 tyX5_ok nmX5 hown hK hP hD hS 0 rfl rfl 12 (by decide) (hA _ wi_496) (fun _ h9 => h9) rfl (by decide +kernel) rfl rfl (Nat.le_of_ble_eq_true rfl) dX5_begin_46 (fun H locs hP hD hS => ?_)
  have hP : va_P (dC, dI) vwCl [(h0, .inr (5, [.ref po, .ref gco, .ref ce, .int 0, .ref sk, .int 0, .int 0, .ref kb, .ref kk, .ref ks, .int 0, .ref sh, .int 0, .int mat, .int ms_, .int st, .int mo, .int mh, .int sp, .long re])), (po, .inr (9, [.ref gco, .ref gar, .ref gki, .ref gfu]))] H := hP
  have hD : va_D A [(h0, .inr (5, [.ref po, .ref gco, .ref ce, .int 0, .ref sk, .int 0, .int 0, .ref kb, .ref kk, .ref ks, .int 0, .ref sh, .int 0, .int mat, .int ms_, .int st, .int mo, .int mh, .int sp, .long re])), (po, .inr (9, [.ref gco, .ref gar, .ref gki, .ref gfu]))] := hD
  refine lv_aload_n hx hb dX5_begin_49 rfl (lv_at hl 0 rfl) ?_
  refine lv_iconst (v := 0) hx hb dX5_begin_50 (by decide) ?_
  refine va_put (D := (dC, dI)) (ci := 5) (v := .int 0) (ty := .int) (C := RX5) (T := TX5) (N := 20) hx hb hA zin_X5 tyX5 tyX5_ok nmX5 hown hK hP hD hS 0 rfl rfl 15 (by decide) (hA _ wi_499) (fun _ h9 => h9) rfl (by decide +kernel) rfl rfl (Nat.le_of_ble_eq_true rfl) dX5_begin_51 (fun H locs hP hD hS => ?_)
  have hP : va_P (dC, dI) vwCl [(h0, .inr (5, [.ref po, .ref gco, .ref ce, .int 0, .ref sk, .int 0, .int 0, .ref kb, .ref kk, .ref ks, .int 0, .ref sh, .int 0, .int mat, .int ms_, .int 0, .int mo, .int mh, .int sp, .long re])), (po, .inr (9, [.ref gco, .ref gar, .ref gki, .ref gfu]))] H := hP
  have hD : va_D A [(h0, .inr (5, [.ref po, .ref gco, .ref ce, .int 0, .ref sk, .int 0, .int 0, .ref kb, .ref kk, .ref ks, .int 0, .ref sh, .int 0, .int mat, .int ms_, .int 0, .int mo, .int mh, .int sp, .long re])), (po, .inr (9, [.ref gco, .ref gar, .ref gki, .ref gfu]))] := hD
  refine lv_aload_n hx hb dX5_begin_54 rfl (lv_at hl 0 rfl) ?_
  refine lv_iconst (v := 0) hx hb dX5_begin_55 (by decide) ?_
  refine va_put (D := (dC, dI)) (ci := 5) (v := .int 0) (ty := .int) (C := RX5) (T := TX5) (N := 20) hx hb hA zin_X5 tyX5 tyX5_ok nmX5 hown hK hP hD hS 0 rfl rfl 16 (by decide) (hA _ wi_501) (fun _ h9 => h9) rfl (by decide +kernel) rfl rfl (Nat.le_of_ble_eq_true rfl) dX5_begin_56 (fun H locs hP hD hS => ?_)
  have hP : va_P (dC, dI) vwCl [(h0, .inr (5, [.ref po, .ref gco, .ref ce, .int 0, .ref sk, .int 0, .int 0, .ref kb, .ref kk, .ref ks, .int 0, .ref sh, .int 0, .int mat, .int ms_, .int 0, .int 0, .int mh, .int sp, .long re])), (po, .inr (9, [.ref gco, .ref gar, .ref gki, .ref gfu]))] H := hP
  have hD : va_D A [(h0, .inr (5, [.ref po, .ref gco, .ref ce, .int 0, .ref sk, .int 0, .int 0, .ref kb, .ref kk, .ref ks, .int 0, .ref sh, .int 0, .int mat, .int ms_, .int 0, .int 0, .int mh, .int sp, .long re])), (po, .inr (9, [.ref gco, .ref gar, .ref gki, .ref gfu]))] := hD
  refine lv_aload_n hx hb dX5_begin_59 rfl (lv_at hl 0 rfl) ?_
  refine lv_iconst (v := 0) hx hb dX5_begin_60 (by decide) ?_
  refine va_put (D := (dC, dI)) (ci := 5) (v := .int 0) (ty := .int) (C := RX5) (T := TX5) (N := 20) hx hb hA zin_X5 tyX5 tyX5_ok nmX5 hown hK hP hD hS 0 rfl rfl 17 (by decide) (hA _ wi_503) (fun _ h9 => h9) rfl (by decide +kernel) rfl rfl (Nat.le_of_ble_eq_true rfl) dX5_begin_61 (fun H locs hP hD hS => ?_)
  have hP : va_P (dC, dI) vwCl [(h0, .inr (5, [.ref po, .ref gco, .ref ce, .int 0, .ref sk, .int 0, .int 0, .ref kb, .ref kk, .ref ks, .int 0, .ref sh, .int 0, .int mat, .int ms_, .int 0, .int 0, .int 0, .int sp, .long re])), (po, .inr (9, [.ref gco, .ref gar, .ref gki, .ref gfu]))] H := hP
  have hD : va_D A [(h0, .inr (5, [.ref po, .ref gco, .ref ce, .int 0, .ref sk, .int 0, .int 0, .ref kb, .ref kk, .ref ks, .int 0, .ref sh, .int 0, .int mat, .int ms_, .int 0, .int 0, .int 0, .int sp, .long re])), (po, .inr (9, [.ref gco, .ref gar, .ref gki, .ref gfu]))] := hD
  refine lv_aload_n hx hb dX5_begin_64 rfl (lv_at hl 0 rfl) ?_
  refine lv_iconst (v := (-1)) hx hb dX5_begin_65 (by decide) ?_
  refine va_put (D := (dC, dI)) (ci := 5) (v := .int (-1)) (ty := .int) (C := RX5) (T := TX5) (N := 20) hx hb hA zin_X5 tyX5 tyX5_ok nmX5 hown hK hP hD hS 0 rfl rfl 18 (by decide) (hA _ wi_505) (fun _ h9 => h9) rfl (by decide +kernel) rfl rfl (Nat.le_of_ble_eq_true rfl) dX5_begin_66 (fun H locs hP hD hS => ?_)
  have hP : va_P (dC, dI) vwCl [(h0, .inr (5, [.ref po, .ref gco, .ref ce, .int 0, .ref sk, .int 0, .int 0, .ref kb, .ref kk, .ref ks, .int 0, .ref sh, .int 0, .int mat, .int ms_, .int 0, .int 0, .int 0, .int (-1), .long re])), (po, .inr (9, [.ref gco, .ref gar, .ref gki, .ref gfu]))] H := hP
  have hD : va_D A [(h0, .inr (5, [.ref po, .ref gco, .ref ce, .int 0, .ref sk, .int 0, .int 0, .ref kb, .ref kk, .ref ks, .int 0, .ref sh, .int 0, .int mat, .int ms_, .int 0, .int 0, .int 0, .int (-1), .long re])), (po, .inr (9, [.ref gco, .ref gar, .ref gki, .ref gfu]))] := hD
  refine lv_aload_n hx hb dX5_begin_69 rfl (lv_at hl 0 rfl) ?_
  refine lv_lconst (v := 0) hx hb dX5_begin_70 (by decide) ?_
  refine va_put (D := (dC, dI)) (ci := 5) (v := .long 0) (ty := .long) (C := RX5) (T := TX5) (N := 20) hx hb hA zin_X5 tyX5 tyX5_ok nmX5 hown hK hP hD hS 0 rfl rfl 19 (by decide) (hA _ wi_507) (fun _ h9 => h9) rfl (by decide +kernel) rfl rfl (Nat.le_of_ble_eq_true rfl) dX5_begin_71 (fun H locs hP hD hS => ?_)
  have hP : va_P (dC, dI) vwCl [(h0, .inr (5, [.ref po, .ref gco, .ref ce, .int 0, .ref sk, .int 0, .int 0, .ref kb, .ref kk, .ref ks, .int 0, .ref sh, .int 0, .int mat, .int ms_, .int 0, .int 0, .int 0, .int (-1), .long 0])), (po, .inr (9, [.ref gco, .ref gar, .ref gki, .ref gfu]))] H := hP
  have hD : va_D A [(h0, .inr (5, [.ref po, .ref gco, .ref ce, .int 0, .ref sk, .int 0, .int 0, .ref kb, .ref kk, .ref ks, .int 0, .ref sh, .int 0, .int mat, .int ms_, .int 0, .int 0, .int 0, .int (-1), .long 0])), (po, .inr (9, [.ref gco, .ref gar, .ref gki, .ref gfu]))] := hD
  have hP9 := hP.sub (ws' := [(h0, .inr (5, [.ref po, .ref gco, .ref ce, .int 0, .ref sk, .int 0, .int 0, .ref kb, .ref kk, .ref ks, .int 0, .ref sh, .int 0, .int mat, .int ms_, .int 0, .int 0, .int 0, .int (-1), .long 0])), (po, .inr (9, [.ref gco, .ref gar, .ref gki, .ref gfu]))]) [0, 1] rfl
  have hD9 := hD.sub (ws' := [(h0, .inr (5, [.ref po, .ref gco, .ref ce, .int 0, .ref sk, .int 0, .int 0, .ref kb, .ref kk, .ref ks, .int 0, .ref sh, .int 0, .int mat, .int ms_, .int 0, .int 0, .int 0, .int (-1), .long 0])), (po, .inr (9, [.ref gco, .ref gar, .ref gki, .ref gfu]))]) [0, 1] (by decide) rfl
  have hK9 := hK.sub (tys' := []) [] rfl
  exact W.vret hx hb hr (fun t ht hW => ⟨⟨(), rfl, trivial, by rw [ht]; exact hP9, va_K.moved hW.alike hK9, hD9⟩, hS.F ht⟩) hS.2.2 dX5_begin_74
set_option maxHeartbeats 4000000 in
set_option maxRecDepth 100000 in
theorem c_X5_begin_1 (l : Launch) (dC : Nat → ClassId) (dI : Nat → Nat → Nat) (aK aV : Nat → Nat) (h0 : Nat) (m_p : Nat) (m_c : Nat) (m_e : Nat) (sk : Nat) (kb : Nat) (kk : Nat) (ks : Nat) (sh : Nat) (mcn : Int32) (tp : Int32) (ba : Int32) (on : Int32) (sn : Int32) (mat : Int32) (alw : Int32) (st : Int32) (mo : Int32) (mh : Int32) (sp : Int32) (re : Int64) (po : Nat) (gco : Nat) (gar : Nat) (gki : Nat) (gfu : Nat) (ce : Nat) (ms_ : Int32) (sz : Nat)  : Met l yX5_begin (Cond.code yX5_begin cX5_begin 5 none :: zw) ({ frames := 8, cells := 0, slots := 0, locals := 200 }) (va_Pc [.ref h0, .ref po, .ref ce, .int 1, .int ms_] (zP dC dI aK aV sz [] [(h0, .inr (5, [.ref m_p, .ref m_c, .ref m_e, .int mcn, .ref sk, .int tp, .int ba, .ref kb, .ref kk, .ref ks, .int on, .ref sh, .int sn, .int mat, .int alw, .int st, .int mo, .int mh, .int sp, .long re])), (po, .inr (9, [.ref gco, .ref gar, .ref gki, .ref gfu]))])) (va_Qv (fun u : Unit => True) (fun u => zQ dC dI (va_A [(h0, .inr (5, [.ref m_p, .ref m_c, .ref m_e, .int mcn, .ref sk, .int tp, .int ba, .ref kb, .ref kk, .ref ks, .int on, .ref sh, .int sn, .int mat, .int alw, .int st, .int mo, .int mh, .int sp, .long re])), (po, .inr (9, [.ref gco, .ref gar, .ref gki, .ref gfu]))] sz) [] [(h0, .inr (5, [.ref po, .ref gco, .ref ce, .int 1, .ref sk, .int 0, .int 0, .ref kb, .ref kk, .ref ks, .int 0, .ref sh, .int 0, .int mat, .int ms_, .int 0, .int 0, .int 0, .int (-1), .long 0])), (po, .inr (9, [.ref gco, .ref gar, .ref gki, .ref gfu]))]) (va_A [(h0, .inr (5, [.ref m_p, .ref m_c, .ref m_e, .int mcn, .ref sk, .int tp, .int ba, .ref kb, .ref kk, .ref ks, .int on, .ref sh, .int sn, .int mat, .int alw, .int st, .int mo, .int mh, .int sp, .long re])), (po, .inr (9, [.ref gco, .ref gar, .ref gki, .ref gfu]))] sz)) 0 0 (va_A [(h0, .inr (5, [.ref m_p, .ref m_c, .ref m_e, .int mcn, .ref sk, .int tp, .int ba, .ref kb, .ref kk, .ref ks, .int on, .ref sh, .int sn, .int mat, .int alw, .int st, .int mo, .int mh, .int sp, .long re])), (po, .inr (9, [.ref gco, .ref gar, .ref gki, .ref gfu]))] sz) := by
  refine Met.ofW (cc := cX5_begin) (maxL := 5) (ret := none) (by decide) rfl ?_
  intro p e s m args below meth c s₁ B hml hv
  obtain ⟨rfl, hsz, hP, hK, hD0, hN, hT⟩ := hv
  have hx := B.exec
  have hb := B.bytes
  have hr := B.returns
  have hts := atoms_spec (ws := Cond.code yX5_begin cX5_begin 5 none :: zw) B.pre
  have hA : ∀ w ∈ zw, w.before _ s = true := fun w h => hts w (List.mem_cons_of_mem _ h)
  have hown : s.vm.findClass RX5 = some m.cls := findClass_of_methodNamed B.named
  have hlocks := B.notSynchronized
  subst hsz
  have hD := hD0.self (sz := s.heap.size)
  generalize hAe : va_A [(h0, .inr (5, [.ref m_p, .ref m_c, .ref m_e, .int mcn, .ref sk, .int tp, .int ba, .ref kb, .ref kk, .ref ks, .int on, .ref sh, .int sn, .int mat, .int alw, .int st, .int mo, .int mh, .int sp, .long re])), (po, .inr (9, [.ref gco, .ref gar, .ref gki, .ref gfu]))] s.heap.size = A at hD hT ⊢
  have hAA : ∀ q : Nat, s.heap.size ≤ q → A q := fun q h => by rw [← hAe]; exact Or.inr h
  have hS : va_S A s.heap s.heap [] := va_S.rf
  have hl := lv_entry ([.ref h0, .ref po, .ref ce, .int 1, .int ms_]) (n := 5) (Nat.le_of_ble_eq_true rfl)
  rw [lg_entry_eq]
  generalize (lg_sl ([.ref h0, .ref po, .ref ce, .int 1, .int ms_]) ++ List.replicate (5 - (lg_sl ([.ref h0, .ref po, .ref ce, .int 1, .int ms_])).length) Slot.unset).toArray = ls at hl ⊢
  have hl : lv_has ls 5 [(0, .ref h0), (1, .ref po), (2, .ref ce), (3, .int 1), (4, .int ms_)] := hl
  refine lv_aload_n hx hb dX5_begin_0 rfl (lv_at hl 0 rfl) ?_
  refine lv_aload_n hx hb dX5_begin_1 rfl (lv_at hl 1 rfl) ?_
  refine va_put (D := (dC, dI)) (ci := 5) (v := .ref po) (ty := .object "ReuseHouse$Program") (C := RX5) (T := TX5) (N := 20) hx hb hA zin_X5 tyX5 tyX5_ok nmX5 hown hK hP hD hS 0 rfl rfl 0 (by decide) (hA _ wi_484) (fun _ h9 => h9) rfl (by decide +kernel) rfl rfl (Nat.le_of_ble_eq_true rfl) dX5_begin_2 (fun H locs hP hD hS => ?_)
  have hP : va_P (dC, dI) vwCl [(h0, .inr (5, [.ref po, .ref m_c, .ref m_e, .int mcn, .ref sk, .int tp, .int ba, .ref kb, .ref kk, .ref ks, .int on, .ref sh, .int sn, .int mat, .int alw, .int st, .int mo, .int mh, .int sp, .long re])), (po, .inr (9, [.ref gco, .ref gar, .ref gki, .ref gfu]))] H := hP
  have hD : va_D A [(h0, .inr (5, [.ref po, .ref m_c, .ref m_e, .int mcn, .ref sk, .int tp, .int ba, .ref kb, .ref kk, .ref ks, .int on, .ref sh, .int sn, .int mat, .int alw, .int st, .int mo, .int mh, .int sp, .long re])), (po, .inr (9, [.ref gco, .ref gar, .ref gki, .ref gfu]))] := hD
  refine lv_aload_n hx hb dX5_begin_5 rfl (lv_at hl 0 rfl) ?_
  refine lv_aload_n hx hb dX5_begin_6 rfl (lv_at hl 1 rfl) ?_
  refine va_get (D := (dC, dI)) (ci := 9) (v := .ref gco) (C := RX9) (T := TX9) (N := 4) hx hb hA zin_X9 hown hK hP 1 rfl rfl 0 (by decide) (hA _ wi_309) (fun _ h9 => h9) rfl dX5_begin_7 ?_
  refine va_put (D := (dC, dI)) (ci := 5) (v := .ref gco) (ty := .object "ReuseHouse$Code") (C := RX5) (T := TX5) (N := 20) hx hb hA zin_X5 tyX5 tyX5_ok nmX5 hown hK hP hD hS 0 rfl rfl 1 (by decide) (hA _ wi_485) (fun _ h9 => h9) rfl (by decide +kernel) rfl rfl (Nat.le_of_ble_eq_true rfl) dX5_begin_10 (fun H locs hP hD hS => ?_)
  have hP : va_P (dC, dI) vwCl [(h0, .inr (5, [.ref po, .ref gco, .ref m_e, .int mcn, .ref sk, .int tp, .int ba, .ref kb, .ref kk, .ref ks, .int on, .ref sh, .int sn, .int mat, .int alw, .int st, .int mo, .int mh, .int sp, .long re])), (po, .inr (9, [.ref gco, .ref gar, .ref gki, .ref gfu]))] H := hP
  have hD : va_D A [(h0, .inr (5, [.ref po, .ref gco, .ref m_e, .int mcn, .ref sk, .int tp, .int ba, .ref kb, .ref kk, .ref ks, .int on, .ref sh, .int sn, .int mat, .int alw, .int st, .int mo, .int mh, .int sp, .long re])), (po, .inr (9, [.ref gco, .ref gar, .ref gki, .ref gfu]))] := hD
  refine lv_aload_n hx hb dX5_begin_13 rfl (lv_at hl 0 rfl) ?_
  refine lv_aload_n hx hb dX5_begin_14 rfl (lv_at hl 2 rfl) ?_
  refine va_put (D := (dC, dI)) (ci := 5) (v := .ref ce) (ty := .object "ReuseHouse$Cells") (C := RX5) (T := TX5) (N := 20) hx hb hA zin_X5 tyX5 tyX5_ok nmX5 hown hK hP hD hS 0 rfl rfl 2 (by decide) (hA _ wi_486) (fun _ h9 => h9) rfl (by decide +kernel) rfl rfl (Nat.le_of_ble_eq_true rfl) dX5_begin_15 (fun H locs hP hD hS => ?_)
  have hP : va_P (dC, dI) vwCl [(h0, .inr (5, [.ref po, .ref gco, .ref ce, .int mcn, .ref sk, .int tp, .int ba, .ref kb, .ref kk, .ref ks, .int on, .ref sh, .int sn, .int mat, .int alw, .int st, .int mo, .int mh, .int sp, .long re])), (po, .inr (9, [.ref gco, .ref gar, .ref gki, .ref gfu]))] H := hP
  have hD : va_D A [(h0, .inr (5, [.ref po, .ref gco, .ref ce, .int mcn, .ref sk, .int tp, .int ba, .ref kb, .ref kk, .ref ks, .int on, .ref sh, .int sn, .int mat, .int alw, .int st, .int mo, .int mh, .int sp, .long re])), (po, .inr (9, [.ref gco, .ref gar, .ref gki, .ref gfu]))] := hD
  refine lv_aload_n hx hb dX5_begin_18 rfl (lv_at hl 0 rfl) ?_
  refine lv_iload_n hx hb dX5_begin_19 rfl (lv_at hl 3 rfl) ?_
  refine va_put (D := (dC, dI)) (ci := 5) (v := .int 1) (ty := .boolean) (C := RX5) (T := TX5) (N := 20) hx hb hA zin_X5 tyX5 tyX5_ok nmX5 hown hK hP hD hS 0 rfl rfl 3 (by decide) (hA _ wi_487) (fun _ h9 => h9) rfl (by decide +kernel) rfl rfl (Nat.le_of_ble_eq_true rfl) dX5_begin_20 (fun H locs hP hD hS => ?_)
  have hP : va_P (dC, dI) vwCl [(h0, .inr (5, [.ref po, .ref gco, .ref ce, .int 1, .ref sk, .int tp, .int ba, .ref kb, .ref kk, .ref ks, .int on, .ref sh, .int sn, .int mat, .int alw, .int st, .int mo, .int mh, .int sp, .long re])), (po, .inr (9, [.ref gco, .ref gar, .ref gki, .ref gfu]))] H := hP
  have hD : va_D A [(h0, .inr (5, [.ref po, .ref gco, .ref ce, .int 1, .ref sk, .int tp, .int ba, .ref kb, .ref kk, .ref ks, .int on, .ref sh, .int sn, .int mat, .int alw, .int st, .int mo, .int mh, .int sp, .long re])), (po, .inr (9, [.ref gco, .ref gar, .ref gki, .ref gfu]))] := hD
  refine lv_aload_n hx hb dX5_begin_23 rfl (lv_at hl 0 rfl) ?_
  refine lv_iload hx hb dX5_begin_24 (lv_at hl 4 rfl) ?_
  refine va_put (D := (dC, dI)) (ci := 5) (v := .int ms_) (ty := .int) (C := RX5) (T := TX5) (N := 20) hx hb hA zin_X5 tyX5 tyX5_ok nmX5 hown hK hP hD hS 0 rfl rfl 14 (by decide) (hA _ wi_498) (fun _ h9 => h9) rfl (by decide +kernel) rfl rfl (Nat.le_of_ble_eq_true rfl) dX5_begin_26 (fun H locs hP hD hS => ?_)
  have hP : va_P (dC, dI) vwCl [(h0, .inr (5, [.ref po, .ref gco, .ref ce, .int 1, .ref sk, .int tp, .int ba, .ref kb, .ref kk, .ref ks, .int on, .ref sh, .int sn, .int mat, .int ms_, .int st, .int mo, .int mh, .int sp, .long re])), (po, .inr (9, [.ref gco, .ref gar, .ref gki, .ref gfu]))] H := hP
  have hD : va_D A [(h0, .inr (5, [.ref po, .ref gco, .ref ce, .int 1, .ref sk, .int tp, .int ba, .ref kb, .ref kk, .ref ks, .int on, .ref sh, .int sn, .int mat, .int ms_, .int st, .int mo, .int mh, .int sp, .long re])), (po, .inr (9, [.ref gco, .ref gar, .ref gki, .ref gfu]))] := hD
  refine lv_aload_n hx hb dX5_begin_29 rfl (lv_at hl 0 rfl) ?_
  refine lv_iconst (v := 0) hx hb dX5_begin_30 (by decide) ?_
  refine va_put (D := (dC, dI)) (ci := 5) (v := .int 0) (ty := .int) (C := RX5) (T := TX5) (N := 20) hx hb hA zin_X5 tyX5 tyX5_ok nmX5 hown hK hP hD hS 0 rfl rfl 5 (by decide) (hA _ wi_489) (fun _ h9 => h9) rfl (by decide +kernel) rfl rfl (Nat.le_of_ble_eq_true rfl) dX5_begin_31 (fun H locs hP hD hS => ?_)
  have hP : va_P (dC, dI) vwCl [(h0, .inr (5, [.ref po, .ref gco, .ref ce, .int 1, .ref sk, .int 0, .int ba, .ref kb, .ref kk, .ref ks, .int on, .ref sh, .int sn, .int mat, .int ms_, .int st, .int mo, .int mh, .int sp, .long re])), (po, .inr (9, [.ref gco, .ref gar, .ref gki, .ref gfu]))] H := hP
  have hD : va_D A [(h0, .inr (5, [.ref po, .ref gco, .ref ce, .int 1, .ref sk, .int 0, .int ba, .ref kb, .ref kk, .ref ks, .int on, .ref sh, .int sn, .int mat, .int ms_, .int st, .int mo, .int mh, .int sp, .long re])), (po, .inr (9, [.ref gco, .ref gar, .ref gki, .ref gfu]))] := hD
  refine lv_aload_n hx hb dX5_begin_34 rfl (lv_at hl 0 rfl) ?_
  refine lv_iconst (v := 0) hx hb dX5_begin_35 (by decide) ?_
  refine va_put (D := (dC, dI)) (ci := 5) (v := .int 0) (ty := .int) (C := RX5) (T := TX5) (N := 20) hx hb hA zin_X5 tyX5 tyX5_ok nmX5 hown hK hP hD hS 0 rfl rfl 6 (by decide) (hA _ wi_490) (fun _ h9 => h9) rfl (by decide +kernel) rfl rfl (Nat.le_of_ble_eq_true rfl) dX5_begin_36 (fun H locs hP hD hS => ?_)
  have hP : va_P (dC, dI) vwCl [(h0, .inr (5, [.ref po, .ref gco, .ref ce, .int 1, .ref sk, .int 0, .int 0, .ref kb, .ref kk, .ref ks, .int on, .ref sh, .int sn, .int mat, .int ms_, .int st, .int mo, .int mh, .int sp, .long re])), (po, .inr (9, [.ref gco, .ref gar, .ref gki, .ref gfu]))] H := hP
  have hD : va_D A [(h0, .inr (5, [.ref po, .ref gco, .ref ce, .int 1, .ref sk, .int 0, .int 0, .ref kb, .ref kk, .ref ks, .int on, .ref sh, .int sn, .int mat, .int ms_, .int st, .int mo, .int mh, .int sp, .long re])), (po, .inr (9, [.ref gco, .ref gar, .ref gki, .ref gfu]))] := hD
  refine lv_aload_n hx hb dX5_begin_39 rfl (lv_at hl 0 rfl) ?_
  refine lv_iconst (v := 0) hx hb dX5_begin_40 (by decide) ?_
  refine va_put (D := (dC, dI)) (ci := 5) (v := .int 0) (ty := .int) (C := RX5) (T := TX5) (N := 20) hx hb hA zin_X5 tyX5 tyX5_ok nmX5 hown hK hP hD hS 0 rfl rfl 10 (by decide) (hA _ wi_494) (fun _ h9 => h9) rfl (by decide +kernel) rfl rfl (Nat.le_of_ble_eq_true rfl) dX5_begin_41 (fun H locs hP hD hS => ?_)
  have hP : va_P (dC, dI) vwCl [(h0, .inr (5, [.ref po, .ref gco, .ref ce, .int 1, .ref sk, .int 0, .int 0, .ref kb, .ref kk, .ref ks, .int 0, .ref sh, .int sn, .int mat, .int ms_, .int st, .int mo, .int mh, .int sp, .long re])), (po, .inr (9, [.ref gco, .ref gar, .ref gki, .ref gfu]))] H := hP
  have hD : va_D A [(h0, .inr (5, [.ref po, .ref gco, .ref ce, .int 1, .ref sk, .int 0, .int 0, .ref kb, .ref kk, .ref ks, .int 0, .ref sh, .int sn, .int mat, .int ms_, .int st, .int mo, .int mh, .int sp, .long re])), (po, .inr (9, [.ref gco, .ref gar, .ref gki, .ref gfu]))] := hD
  refine lv_aload_n hx hb dX5_begin_44 rfl (lv_at hl 0 rfl) ?_
  refine lv_iconst (v := 0) hx hb dX5_begin_45 (by decide) ?_
  refine va_put (D := (dC, dI)) (ci := 5) (v := .int 0) (ty := .int) (C := RX5) (T := TX5) (N := 20) hx hb hA zin_X5 tyX5 tyX5_ok nmX5 hown hK hP hD hS 0 rfl rfl 12 (by decide) (hA _ wi_496) (fun _ h9 => h9) rfl (by decide +kernel) rfl rfl (Nat.le_of_ble_eq_true rfl) dX5_begin_46 (fun H locs hP hD hS => ?_)
  have hP : va_P (dC, dI) vwCl [(h0, .inr (5, [.ref po, .ref gco, .ref ce, .int 1, .ref sk, .int 0, .int 0, .ref kb, .ref kk, .ref ks, .int 0, .ref sh, .int 0, .int mat, .int ms_, .int st, .int mo, .int mh, .int sp, .long re])), (po, .inr (9, [.ref gco, .ref gar, .ref gki, .ref gfu]))] H := hP
  have hD : va_D A [(h0, .inr (5, [.ref po, .ref gco, .ref ce, .int 1, .ref sk, .int 0, .int 0, .ref kb, .ref kk, .ref ks, .int 0, .ref sh, .int 0, .int mat, .int ms_, .int st, .int mo, .int mh, .int sp, .long re])), (po, .inr (9, [.ref gco, .ref gar, .ref gki, .ref gfu]))] := hD
  refine lv_aload_n hx hb dX5_begin_49 rfl (lv_at hl 0 rfl) ?_
  refine lv_iconst (v := 0) hx hb dX5_begin_50 (by decide) ?_
  refine va_put (D := (dC, dI)) (ci := 5) (v := .int 0) (ty := .int) (C := RX5) (T := TX5) (N := 20) hx hb hA zin_X5 tyX5 tyX5_ok nmX5 hown hK hP hD hS 0 rfl rfl 15 (by decide) (hA _ wi_499) (fun _ h9 => h9) rfl (by decide +kernel) rfl rfl (Nat.le_of_ble_eq_true rfl) dX5_begin_51 (fun H locs hP hD hS => ?_)
  have hP : va_P (dC, dI) vwCl [(h0, .inr (5, [.ref po, .ref gco, .ref ce, .int 1, .ref sk, .int 0, .int 0, .ref kb, .ref kk, .ref ks, .int 0, .ref sh, .int 0, .int mat, .int ms_, .int 0, .int mo, .int mh, .int sp, .long re])), (po, .inr (9, [.ref gco, .ref gar, .ref gki, .ref gfu]))] H := hP
  have hD : va_D A [(h0, .inr (5, [.ref po, .ref gco, .ref ce, .int 1, .ref sk, .int 0, .int 0, .ref kb, .ref kk, .ref ks, .int 0, .ref sh, .int 0, .int mat, .int ms_, .int 0, .int mo, .int mh, .int sp, .long re])), (po, .inr (9, [.ref gco, .ref gar, .ref gki, .ref gfu]))] := hD
  refine lv_aload_n hx hb dX5_begin_54 rfl (lv_at hl 0 rfl) ?_
  refine lv_iconst (v := 0) hx hb dX5_begin_55 (by decide) ?_
  refine va_put (D := (dC, dI)) (ci := 5) (v := .int 0) (ty := .int) (C := RX5) (T := TX5) (N := 20) hx hb hA zin_X5 tyX5 tyX5_ok nmX5 hown hK hP hD hS 0 rfl rfl 16 (by decide) (hA _ wi_501) (fun _ h9 => h9) rfl (by decide +kernel) rfl rfl (Nat.le_of_ble_eq_true rfl) dX5_begin_56 (fun H locs hP hD hS => ?_)
  have hP : va_P (dC, dI) vwCl [(h0, .inr (5, [.ref po, .ref gco, .ref ce, .int 1, .ref sk, .int 0, .int 0, .ref kb, .ref kk, .ref ks, .int 0, .ref sh, .int 0, .int mat, .int ms_, .int 0, .int 0, .int mh, .int sp, .long re])), (po, .inr (9, [.ref gco, .ref gar, .ref gki, .ref gfu]))] H := hP
  have hD : va_D A [(h0, .inr (5, [.ref po, .ref gco, .ref ce, .int 1, .ref sk, .int 0, .int 0, .ref kb, .ref kk, .ref ks, .int 0, .ref sh, .int 0, .int mat, .int ms_, .int 0, .int 0, .int mh, .int sp, .long re])), (po, .inr (9, [.ref gco, .ref gar, .ref gki, .ref gfu]))] := hD
  refine lv_aload_n hx hb dX5_begin_59 rfl (lv_at hl 0 rfl) ?_
  refine lv_iconst (v := 0) hx hb dX5_begin_60 (by decide) ?_
  refine va_put (D := (dC, dI)) (ci := 5) (v := .int 0) (ty := .int) (C := RX5) (T := TX5) (N := 20) hx hb hA zin_X5 tyX5 tyX5_ok nmX5 hown hK hP hD hS 0 rfl rfl 17 (by decide) (hA _ wi_503) (fun _ h9 => h9) rfl (by decide +kernel) rfl rfl (Nat.le_of_ble_eq_true rfl) dX5_begin_61 (fun H locs hP hD hS => ?_)
  have hP : va_P (dC, dI) vwCl [(h0, .inr (5, [.ref po, .ref gco, .ref ce, .int 1, .ref sk, .int 0, .int 0, .ref kb, .ref kk, .ref ks, .int 0, .ref sh, .int 0, .int mat, .int ms_, .int 0, .int 0, .int 0, .int sp, .long re])), (po, .inr (9, [.ref gco, .ref gar, .ref gki, .ref gfu]))] H := hP
  have hD : va_D A [(h0, .inr (5, [.ref po, .ref gco, .ref ce, .int 1, .ref sk, .int 0, .int 0, .ref kb, .ref kk, .ref ks, .int 0, .ref sh, .int 0, .int mat, .int ms_, .int 0, .int 0, .int 0, .int sp, .long re])), (po, .inr (9, [.ref gco, .ref gar, .ref gki, .ref gfu]))] := hD
  refine lv_aload_n hx hb dX5_begin_64 rfl (lv_at hl 0 rfl) ?_
  refine lv_iconst (v := (-1)) hx hb dX5_begin_65 (by decide) ?_
  refine va_put (D := (dC, dI)) (ci := 5) (v := .int (-1)) (ty := .int) (C := RX5) (T := TX5) (N := 20) hx hb hA zin_X5 tyX5 tyX5_ok nmX5 hown hK hP hD hS 0 rfl rfl 18 (by decide) (hA _ wi_505) (fun _ h9 => h9) rfl (by decide +kernel) rfl rfl (Nat.le_of_ble_eq_true rfl) dX5_begin_66 (fun H locs hP hD hS => ?_)
  have hP : va_P (dC, dI) vwCl [(h0, .inr (5, [.ref po, .ref gco, .ref ce, .int 1, .ref sk, .int 0, .int 0, .ref kb, .ref kk, .ref ks, .int 0, .ref sh, .int 0, .int mat, .int ms_, .int 0, .int 0, .int 0, .int (-1), .long re])), (po, .inr (9, [.ref gco, .ref gar, .ref gki, .ref gfu]))] H := hP
  have hD : va_D A [(h0, .inr (5, [.ref po, .ref gco, .ref ce, .int 1, .ref sk, .int 0, .int 0, .ref kb, .ref kk, .ref ks, .int 0, .ref sh, .int 0, .int mat, .int ms_, .int 0, .int 0, .int 0, .int (-1), .long re])), (po, .inr (9, [.ref gco, .ref gar, .ref gki, .ref gfu]))] := hD
  refine lv_aload_n hx hb dX5_begin_69 rfl (lv_at hl 0 rfl) ?_
  refine lv_lconst (v := 0) hx hb dX5_begin_70 (by decide) ?_
  refine va_put (D := (dC, dI)) (ci := 5) (v := .long 0) (ty := .long) (C := RX5) (T := TX5) (N := 20) hx hb hA zin_X5 tyX5 tyX5_ok nmX5 hown hK hP hD hS 0 rfl rfl 19 (by decide) (hA _ wi_507) (fun _ h9 => h9) rfl (by decide +kernel) rfl rfl (Nat.le_of_ble_eq_true rfl) dX5_begin_71 (fun H locs hP hD hS => ?_)
  have hP : va_P (dC, dI) vwCl [(h0, .inr (5, [.ref po, .ref gco, .ref ce, .int 1, .ref sk, .int 0, .int 0, .ref kb, .ref kk, .ref ks, .int 0, .ref sh, .int 0, .int mat, .int ms_, .int 0, .int 0, .int 0, .int (-1), .long 0])), (po, .inr (9, [.ref gco, .ref gar, .ref gki, .ref gfu]))] H := hP
  have hD : va_D A [(h0, .inr (5, [.ref po, .ref gco, .ref ce, .int 1, .ref sk, .int 0, .int 0, .ref kb, .ref kk, .ref ks, .int 0, .ref sh, .int 0, .int mat, .int ms_, .int 0, .int 0, .int 0, .int (-1), .long 0])), (po, .inr (9, [.ref gco, .ref gar, .ref gki, .ref gfu]))] := hD
  have hP9 := hP.sub (ws' := [(h0, .inr (5, [.ref po, .ref gco, .ref ce, .int 1, .ref sk, .int 0, .int 0, .ref kb, .ref kk, .ref ks, .int 0, .ref sh, .int 0, .int mat, .int ms_, .int 0, .int 0, .int 0, .int (-1), .long 0])), (po, .inr (9, [.ref gco, .ref gar, .ref gki, .ref gfu]))]) [0, 1] rfl
  have hD9 := hD.sub (ws' := [(h0, .inr (5, [.ref po, .ref gco, .ref ce, .int 1, .ref sk, .int 0, .int 0, .ref kb, .ref kk, .ref ks, .int 0, .ref sh, .int 0, .int mat, .int ms_, .int 0, .int 0, .int 0, .int (-1), .long 0])), (po, .inr (9, [.ref gco, .ref gar, .ref gki, .ref gfu]))]) [0, 1] (by decide) rfl
  have hK9 := hK.sub (tys' := []) [] rfl
  exact W.vret hx hb hr (fun t ht hW => ⟨⟨(), rfl, trivial, by rw [ht]; exact hP9, va_K.moved hW.alike hK9, hD9⟩, hS.F ht⟩) hS.2.2 dX5_begin_74
set_option maxHeartbeats 4000000 in
set_option maxRecDepth 100000 in
theorem c_X11_mayWork_x (l : Launch) (dC : Nat → ClassId) (dI : Nat → Nat → Nat) (aK aV : Nat → Nat) (h0 : Nat) (h_tape : Nat) (h_fed : Int32) (h_taken : Nat) (h_parser : Nat) (h_machine : Nat) (h_countedCells : Nat) (h_plainCells : Nat) (h_printer : Nat) (h_faultNumber : Int32) (h_stopPlace : Int32) (h_wasRun : Int32) (h_runSteps : Int32) (h_runCalls : Int32) (h_hasValue : Int32) (h_value : Int64) (h_hasOther : Int32) (h_otherValue : Int64) (gco : Nat) (gar : Nat) (gki : Nat) (gfu : Nat) (fw : Nat) (fe : Nat) (ff : Nat) (fz : Int32) (fu : Int32) (sp_ : Int32) (sz : Nat)  : Met l yX11_mayWork (Cond.code yX11_mayWork cX11_mayWork 3 (some .boolean) :: zw) ({ frames := 10, cells := 0, slots := 0, locals := 300 }) (va_Pc [.ref h0, .int fu, .int sp_] (zP dC dI aK aV sz [] [(h0, .inr (11, [.ref h_tape, .int h_fed, .ref h_taken, .ref h_parser, .ref h_machine, .ref h_countedCells, .ref h_plainCells, .ref h_printer, .int h_faultNumber, .int h_stopPlace, .int h_wasRun, .int h_runSteps, .int h_runCalls, .int h_hasValue, .long h_value, .int h_hasOther, .long h_otherValue])), (h_taken, .inr (9, [.ref gco, .ref gar, .ref gki, .ref gfu])), (gfu, .inr (3, [.ref fw, .ref fe, .ref ff, .int fz]))])) (va_Qi (fun (r : Int32) (u : Unit) => (r.toInt = 0 ∨ r.toInt = 1 ∧ 0 ≤ fu.toInt ∧ fu.toInt < fz.toInt ∧ 0 ≤ sp_.toInt ∧ sp_.toInt ≤ 20000)) (fun u => zQ dC dI (va_A [(h0, .inr (11, [.ref h_tape, .int h_fed, .ref h_taken, .ref h_parser, .ref h_machine, .ref h_countedCells, .ref h_plainCells, .ref h_printer, .int h_faultNumber, .int h_stopPlace, .int h_wasRun, .int h_runSteps, .int h_runCalls, .int h_hasValue, .long h_value, .int h_hasOther, .long h_otherValue])), (h_taken, .inr (9, [.ref gco, .ref gar, .ref gki, .ref gfu])), (gfu, .inr (3, [.ref fw, .ref fe, .ref ff, .int fz]))] sz) [] [(h0, .inr (11, [.ref h_tape, .int h_fed, .ref h_taken, .ref h_parser, .ref h_machine, .ref h_countedCells, .ref h_plainCells, .ref h_printer, .int h_faultNumber, .int h_stopPlace, .int h_wasRun, .int h_runSteps, .int h_runCalls, .int h_hasValue, .long h_value, .int h_hasOther, .long h_otherValue])), (h_taken, .inr (9, [.ref gco, .ref gar, .ref gki, .ref gfu])), (gfu, .inr (3, [.ref fw, .ref fe, .ref ff, .int fz]))]) (va_A [(h0, .inr (11, [.ref h_tape, .int h_fed, .ref h_taken, .ref h_parser, .ref h_machine, .ref h_countedCells, .ref h_plainCells, .ref h_printer, .int h_faultNumber, .int h_stopPlace, .int h_wasRun, .int h_runSteps, .int h_runCalls, .int h_hasValue, .long h_value, .int h_hasOther, .long h_otherValue])), (h_taken, .inr (9, [.ref gco, .ref gar, .ref gki, .ref gfu])), (gfu, .inr (3, [.ref fw, .ref fe, .ref ff, .int fz]))] sz)) 0 0 (va_A [(h0, .inr (11, [.ref h_tape, .int h_fed, .ref h_taken, .ref h_parser, .ref h_machine, .ref h_countedCells, .ref h_plainCells, .ref h_printer, .int h_faultNumber, .int h_stopPlace, .int h_wasRun, .int h_runSteps, .int h_runCalls, .int h_hasValue, .long h_value, .int h_hasOther, .long h_otherValue])), (h_taken, .inr (9, [.ref gco, .ref gar, .ref gki, .ref gfu])), (gfu, .inr (3, [.ref fw, .ref fe, .ref ff, .int fz]))] sz) := by
  refine Met.ofW (cc := cX11_mayWork) (maxL := 3) (ret := (some .boolean)) (by decide) rfl ?_
  intro p e s m args below meth c s₁ B hml hv
  obtain ⟨rfl, hsz, hP, hK, hD0, hN, hT⟩ := hv
  have hx := B.exec
  have hb := B.bytes
  have hr := B.returns
  have hts := atoms_spec (ws := Cond.code yX11_mayWork cX11_mayWork 3 (some .boolean) :: zw) B.pre
  have hA : ∀ w ∈ zw, w.before _ s = true := fun w h => hts w (List.mem_cons_of_mem _ h)
  have hown : s.vm.findClass RX11 = some m.cls := findClass_of_methodNamed B.named
  have hlocks := B.notSynchronized
  subst hsz
  have hD := hD0.self (sz := s.heap.size)
  generalize hAe : va_A [(h0, .inr (11, [.ref h_tape, .int h_fed, .ref h_taken, .ref h_parser, .ref h_machine, .ref h_countedCells, .ref h_plainCells, .ref h_printer, .int h_faultNumber, .int h_stopPlace, .int h_wasRun, .int h_runSteps, .int h_runCalls, .int h_hasValue, .long h_value, .int h_hasOther, .long h_otherValue])), (h_taken, .inr (9, [.ref gco, .ref gar, .ref gki, .ref gfu])), (gfu, .inr (3, [.ref fw, .ref fe, .ref ff, .int fz]))] s.heap.size = A at hD hT ⊢
  have hAA : ∀ q : Nat, s.heap.size ≤ q → A q := fun q h => by rw [← hAe]; exact Or.inr h
  have hS : va_S A s.heap s.heap [] := va_S.rf
  have hl := lv_entry ([.ref h0, .int fu, .int sp_]) (n := 3) (Nat.le_of_ble_eq_true rfl)
  rw [lg_entry_eq]
  generalize (lg_sl ([.ref h0, .int fu, .int sp_]) ++ List.replicate (3 - (lg_sl ([.ref h0, .int fu, .int sp_])).length) Slot.unset).toArray = ls at hl ⊢
  have hl : lv_has ls 3 [(0, .ref h0), (1, .int fu), (2, .int sp_)] := hl
  refine lv_aload_n hx hb dX11_mayWork_0 rfl (lv_at hl 0 rfl) ?_
  refine va_get (D := (dC, dI)) (ci := 11) (v := .ref h_taken) (C := RX11) (T := TX11) (N := 17) hx hb hA zin_X11 hown hK hP 0 rfl rfl 2 (by decide) (hA _ wi_586) (fun _ h9 => h9) rfl dX11_mayWork_1 ?_
  refine va_get (D := (dC, dI)) (ci := 9) (v := .ref gfu) (C := RX9) (T := TX9) (N := 4) hx hb hA zin_X9 hown hK hP 1 rfl rfl 3 (by decide) (hA _ wi_321) (fun _ h9 => h9) rfl dX11_mayWork_4 ?_
  refine lv_iload_n hx hb dX11_mayWork_7 rfl (lv_at hl 1 rfl) ?_
  have hPc := hP.sub (ws' := [(gfu, .inr (3, [.ref fw, .ref fe, .ref ff, .int fz]))]) [2] rfl
  have hDc := hD.sub (ws' := [(gfu, .inr (3, [.ref fw, .ref fe, .ref ff, .int fz]))]) [2] (by decide) rfl
  have hKc := hK.sub (tys' := []) [] rfl
  have hFc := va_free (wc := [(gfu, .inr (3, [.ref fw, .ref fe, .ref ff, .int fz]))]) hD hS hAA [2] rfl
  refine va_calli (va_runV (As := [.int fu]) (rest := []) ⟨hx, hb, hml, hown, hA⟩ (c_X3_has_x l dC dI aK aV gfu fw fe ff fz fu s.heap.size) (cwV 1 hA (zw_V wi_1078 wi_911 wi_912 wi_135 (zw_good wi_913)) rfl rfl rfl (by decide +kernel) ⟨(Nat.le_of_ble_eq_true rfl), (Nat.le_of_ble_eq_true rfl)⟩) ⟨zP_blind, va_recv hKc hPc (ci := 3) (q0 := 0) rfl rfl, zz_pre hKc hPc hDc hN hT hS hFc⟩ rfl rfl hl.1 rfl (lv_room (Nat.le_of_ble_eq_true rfl)) dX11_mayWork_8 ⟨(Nat.le_of_ble_eq_true rfl), (Nat.le_of_ble_eq_true rfl)⟩) hS (fun q _ h => hFc q h) hFc (fun r_1 u t H1 locs ht hvm hw hB hz1 hk1 hS => ?_)
  obtain ⟨hP1, hK1, hD1⟩ := hB
  rw [ht] at hP1
  have hK1 := va_K.moved hvm.symm hK1
  obtain ⟨hP, hD⟩ := va_join (wr := [(h0, .inr (11, [.ref h_tape, .int h_fed, .ref h_taken, .ref h_parser, .ref h_machine, .ref h_countedCells, .ref h_plainCells, .ref h_printer, .int h_faultNumber, .int h_stopPlace, .int h_wasRun, .int h_runSteps, .int h_runCalls, .int h_hasValue, .long h_value, .int h_hasOther, .long h_otherValue])), (h_taken, .inr (9, [.ref gco, .ref gar, .ref gki, .ref gfu]))]) (w1 := [(gfu, .inr (3, [.ref fw, .ref fe, .ref ff, .int fz]))]) hP hD [2] [0, 1] rfl rfl (by decide) (by decide) hk1 hFc hP1 hD1
  have hK := (hK.sub (tys' := []) [] rfl).app hK1
  generalize H1 = H at hP hS ⊢
  have hP : va_P (dC, dI) vwCl [(h0, .inr (11, [.ref h_tape, .int h_fed, .ref h_taken, .ref h_parser, .ref h_machine, .ref h_countedCells, .ref h_plainCells, .ref h_printer, .int h_faultNumber, .int h_stopPlace, .int h_wasRun, .int h_runSteps, .int h_runCalls, .int h_hasValue, .long h_value, .int h_hasOther, .long h_otherValue])), (h_taken, .inr (9, [.ref gco, .ref gar, .ref gki, .ref gfu])), (gfu, .inr (3, [.ref fw, .ref fe, .ref ff, .int fz]))] H := hP
  have hD : va_D A [(h0, .inr (11, [.ref h_tape, .int h_fed, .ref h_taken, .ref h_parser, .ref h_machine, .ref h_countedCells, .ref h_plainCells, .ref h_printer, .int h_faultNumber, .int h_stopPlace, .int h_wasRun, .int h_runSteps, .int h_runCalls, .int h_hasValue, .long h_value, .int h_hasOther, .long h_otherValue])), (h_taken, .inr (9, [.ref gco, .ref gar, .ref gki, .ref gfu])), (gfu, .inr (3, [.ref fw, .ref fe, .ref ff, .int fz]))] := hD
  have hK : va_K (dC, dI) vwCl [] s := hK
  have hw_r_1 := hw
  try dsimp only at hw_r_1
  have hq_2 := hw
  refine lv_if_eq (tgt := 29) hx hb dX11_mayWork_11 (by decide) (fun c_3 => ?_) (fun c_3 => ?_)
  · have ic_3 : r_1.toInt = 0 := zi_eq c_3
    refine lv_iconst (v := 0) hx hb dX11_mayWork_29 (by decide) ?_
    have hlit : Int32.toInt 0 = 0 := by decide
    have hP9 := hP.sub (ws' := [(h0, .inr (11, [.ref h_tape, .int h_fed, .ref h_taken, .ref h_parser, .ref h_machine, .ref h_countedCells, .ref h_plainCells, .ref h_printer, .int h_faultNumber, .int h_stopPlace, .int h_wasRun, .int h_runSteps, .int h_runCalls, .int h_hasValue, .long h_value, .int h_hasOther, .long h_otherValue])), (h_taken, .inr (9, [.ref gco, .ref gar, .ref gki, .ref gfu])), (gfu, .inr (3, [.ref fw, .ref fe, .ref ff, .int fz]))]) [0, 1, 2] rfl
    have hD9 := hD.sub (ws' := [(h0, .inr (11, [.ref h_tape, .int h_fed, .ref h_taken, .ref h_parser, .ref h_machine, .ref h_countedCells, .ref h_plainCells, .ref h_printer, .int h_faultNumber, .int h_stopPlace, .int h_wasRun, .int h_runSteps, .int h_runCalls, .int h_hasValue, .long h_value, .int h_hasOther, .long h_otherValue])), (h_taken, .inr (9, [.ref gco, .ref gar, .ref gki, .ref gfu])), (gfu, .inr (3, [.ref fw, .ref fe, .ref ff, .int fz]))]) [0, 1, 2] (by decide) rfl
    have hK9 := hK.sub (tys' := []) [] rfl
    exact W.zret (v := 0) hx hb hr rfl (fun t ht hW => ⟨⟨0, (), rfl, by omega, by rw [ht]; exact hP9, va_K.moved hW.alike hK9, hD9⟩, hS.F ht⟩) hS.2.2 dX11_mayWork_30
  · have ic_3 : r_1.toInt ≠ 0 := zi_ne c_3
    refine lv_iload_n hx hb dX11_mayWork_14 rfl (lv_at hl 2 rfl) ?_
    refine lv_if_lt (tgt := 29) hx hb dX11_mayWork_15 (by decide) (fun c_4 => ?_) (fun c_4 => ?_)
    · have ic_4 : sp_.toInt < 0 := zi_lt c_4
      refine lv_iconst (v := 0) hx hb dX11_mayWork_29 (by decide) ?_
      have hlit : Int32.toInt 0 = 0 := by decide
      have hP9 := hP.sub (ws' := [(h0, .inr (11, [.ref h_tape, .int h_fed, .ref h_taken, .ref h_parser, .ref h_machine, .ref h_countedCells, .ref h_plainCells, .ref h_printer, .int h_faultNumber, .int h_stopPlace, .int h_wasRun, .int h_runSteps, .int h_runCalls, .int h_hasValue, .long h_value, .int h_hasOther, .long h_otherValue])), (h_taken, .inr (9, [.ref gco, .ref gar, .ref gki, .ref gfu])), (gfu, .inr (3, [.ref fw, .ref fe, .ref ff, .int fz]))]) [0, 1, 2] rfl
      have hD9 := hD.sub (ws' := [(h0, .inr (11, [.ref h_tape, .int h_fed, .ref h_taken, .ref h_parser, .ref h_machine, .ref h_countedCells, .ref h_plainCells, .ref h_printer, .int h_faultNumber, .int h_stopPlace, .int h_wasRun, .int h_runSteps, .int h_runCalls, .int h_hasValue, .long h_value, .int h_hasOther, .long h_otherValue])), (h_taken, .inr (9, [.ref gco, .ref gar, .ref gki, .ref gfu])), (gfu, .inr (3, [.ref fw, .ref fe, .ref ff, .int fz]))]) [0, 1, 2] (by decide) rfl
      have hK9 := hK.sub (tys' := []) [] rfl
      exact W.zret (v := 0) hx hb hr rfl (fun t ht hW => ⟨⟨0, (), rfl, by omega, by rw [ht]; exact hP9, va_K.moved hW.alike hK9, hD9⟩, hS.F ht⟩) hS.2.2 dX11_mayWork_30
    · have ic_4 : 0 ≤ sp_.toInt := zi_nlt c_4
      refine lv_iload_n hx hb dX11_mayWork_18 rfl (lv_at hl 2 rfl) ?_
      refine lv_sipush (v := 20000) hx hb dX11_mayWork_19 (by decide) ?_
      refine lv_icmp_gt (tgt := 29) hx hb dX11_mayWork_22 (by decide) (fun c_5 => ?_) (fun c_5 => ?_)
      · have ic_5 : 20000 < sp_.toInt := zi_lt c_5
        refine lv_iconst (v := 0) hx hb dX11_mayWork_29 (by decide) ?_
        have hlit : Int32.toInt 0 = 0 := by decide
        have hP9 := hP.sub (ws' := [(h0, .inr (11, [.ref h_tape, .int h_fed, .ref h_taken, .ref h_parser, .ref h_machine, .ref h_countedCells, .ref h_plainCells, .ref h_printer, .int h_faultNumber, .int h_stopPlace, .int h_wasRun, .int h_runSteps, .int h_runCalls, .int h_hasValue, .long h_value, .int h_hasOther, .long h_otherValue])), (h_taken, .inr (9, [.ref gco, .ref gar, .ref gki, .ref gfu])), (gfu, .inr (3, [.ref fw, .ref fe, .ref ff, .int fz]))]) [0, 1, 2] rfl
        have hD9 := hD.sub (ws' := [(h0, .inr (11, [.ref h_tape, .int h_fed, .ref h_taken, .ref h_parser, .ref h_machine, .ref h_countedCells, .ref h_plainCells, .ref h_printer, .int h_faultNumber, .int h_stopPlace, .int h_wasRun, .int h_runSteps, .int h_runCalls, .int h_hasValue, .long h_value, .int h_hasOther, .long h_otherValue])), (h_taken, .inr (9, [.ref gco, .ref gar, .ref gki, .ref gfu])), (gfu, .inr (3, [.ref fw, .ref fe, .ref ff, .int fz]))]) [0, 1, 2] (by decide) rfl
        have hK9 := hK.sub (tys' := []) [] rfl
        exact W.zret (v := 0) hx hb hr rfl (fun t ht hW => ⟨⟨0, (), rfl, by omega, by rw [ht]; exact hP9, va_K.moved hW.alike hK9, hD9⟩, hS.F ht⟩) hS.2.2 dX11_mayWork_30
      · have ic_5 : sp_.toInt ≤ 20000 := zi_nlt c_5
        refine lv_iconst (v := 1) hx hb dX11_mayWork_25 (by decide) ?_
        refine lv_goto (tgt := 30) hx hb dX11_mayWork_26 (by decide) ?_
        have hlit : Int32.toInt 1 = 1 := by decide
        have hP9 := hP.sub (ws' := [(h0, .inr (11, [.ref h_tape, .int h_fed, .ref h_taken, .ref h_parser, .ref h_machine, .ref h_countedCells, .ref h_plainCells, .ref h_printer, .int h_faultNumber, .int h_stopPlace, .int h_wasRun, .int h_runSteps, .int h_runCalls, .int h_hasValue, .long h_value, .int h_hasOther, .long h_otherValue])), (h_taken, .inr (9, [.ref gco, .ref gar, .ref gki, .ref gfu])), (gfu, .inr (3, [.ref fw, .ref fe, .ref ff, .int fz]))]) [0, 1, 2] rfl
        have hD9 := hD.sub (ws' := [(h0, .inr (11, [.ref h_tape, .int h_fed, .ref h_taken, .ref h_parser, .ref h_machine, .ref h_countedCells, .ref h_plainCells, .ref h_printer, .int h_faultNumber, .int h_stopPlace, .int h_wasRun, .int h_runSteps, .int h_runCalls, .int h_hasValue, .long h_value, .int h_hasOther, .long h_otherValue])), (h_taken, .inr (9, [.ref gco, .ref gar, .ref gki, .ref gfu])), (gfu, .inr (3, [.ref fw, .ref fe, .ref ff, .int fz]))]) [0, 1, 2] (by decide) rfl
        have hK9 := hK.sub (tys' := []) [] rfl
        exact W.zret (v := 1) hx hb hr rfl (fun t ht hW => ⟨⟨1, (), rfl, by omega, by rw [ht]; exact hP9, va_K.moved hW.alike hK9, hD9⟩, hS.F ht⟩) hS.2.2 dX11_mayWork_30
set_option maxHeartbeats 4000000 in
set_option maxRecDepth 100000 in
theorem c_X11_tellInts_x (l : Launch) (dC : Nat → ClassId) (dI : Nat → Nat → Nat) (aK aV : Nat → Nat) (h0 : Nat) (h_tape : Nat) (h_fed : Int32) (h_taken : Nat) (h_parser : Nat) (h_machine : Nat) (h_countedCells : Nat) (h_plainCells : Nat) (h_printer : Nat) (h_faultNumber : Int32) (h_stopPlace : Int32) (h_wasRun : Int32) (h_runSteps : Int32) (h_runCalls : Int32) (h_hasValue : Int32) (h_value : Int64) (h_hasOther : Int32) (h_otherValue : Int64) (gco : Nat) (gar : Nat) (gki : Nat) (gfu : Nat) (fw : Nat) (fe : Nat) (ff : Nat) (f1 : ClassId) (f2 : ClassId) (f3 : ClassId) (fz : Int32) (fgw : Nat → Int64) (fge : Nat → Int32) (fgf : Nat → Int32) (mp : Nat) (m_c : Nat) (mce : Nat) (sk : Nat) (kb : Nat) (kk : Nat) (ks : Nat) (sh : Nat) (mcn : Int32) (tp : Int32) (ba : Int32) (on : Int32) (sn : Int32) (mat : Int32) (alw : Int32) (st : Int32) (mo : Int32) (mh : Int32) (sp : Int32) (re : Int64) (sk1 : ClassId) (gs : Nat → Int64) (fu : Int32) (ia : Int32) (ib : Int32) (ic : Int32) (id_ : Int32) (sz : Nat) (hf0 : 0 ≤ fz.toInt) (hf1 : fz.toInt ≤ 30) (hu0 : 0 ≤ fu.toInt) (hu1 : fu.toInt < fz.toInt) (htp : tp.toInt = 0) (htd : 0 ≤ (fgf (5 * Int32.toNatClampNeg fu)).toInt ∧ (fgf (5 * Int32.toNatClampNeg fu)).toInt ≤ 6) : Met l yX11_tellInts (Cond.code yX11_tellInts cX11_tellInts 9 none :: zw) ({ frames := 12, cells := 0, slots := 0, locals := 400 }) (va_Pc [.ref h0, .int fu, .int ia, .int ib, .int ic, .int id_] (zP dC dI aK aV sz [(f1, .long), (f2, .int), (f3, .int), (sk1, .long)] [(h0, .inr (11, [.ref h_tape, .int h_fed, .ref h_taken, .ref h_parser, .ref h_machine, .ref h_countedCells, .ref h_plainCells, .ref h_printer, .int h_faultNumber, .int h_stopPlace, .int h_wasRun, .int h_runSteps, .int h_runCalls, .int h_hasValue, .long h_value, .int h_hasOther, .long h_otherValue])), (h_taken, .inr (9, [.ref gco, .ref gar, .ref gki, .ref gfu])), (gfu, .inr (3, [.ref fw, .ref fe, .ref ff, .int fz])), (fw, .inl (f1, 30, .inr (.inl fgw))), (fe, .inl (f2, 30, .inl fge)), (ff, .inl (f3, 150, .inl fgf)), (h_machine, .inr (5, [.ref mp, .ref m_c, .ref mce, .int mcn, .ref sk, .int tp, .int ba, .ref kb, .ref kk, .ref ks, .int on, .ref sh, .int sn, .int mat, .int alw, .int st, .int mo, .int mh, .int sp, .long re])), (sk, .inl (sk1, 22424, .inr (.inl gs)))])) (va_Qv (fun u : Int32 × (Nat → Int64) => match u with | (tp2, gs2) => (tp2.toInt = (fgf (5 * Int32.toNatClampNeg fu)).toInt) ∧ (∀ k, k < Int32.toNatClampNeg tp2 → zhs (gs2 k) = 0)) (fun u => match u with | (tp2, gs2) => zQ dC dI (va_A [(h0, .inr (11, [.ref h_tape, .int h_fed, .ref h_taken, .ref h_parser, .ref h_machine, .ref h_countedCells, .ref h_plainCells, .ref h_printer, .int h_faultNumber, .int h_stopPlace, .int h_wasRun, .int h_runSteps, .int h_runCalls, .int h_hasValue, .long h_value, .int h_hasOther, .long h_otherValue])), (h_taken, .inr (9, [.ref gco, .ref gar, .ref gki, .ref gfu])), (gfu, .inr (3, [.ref fw, .ref fe, .ref ff, .int fz])), (fw, .inl (f1, 30, .inr (.inl fgw))), (fe, .inl (f2, 30, .inl fge)), (ff, .inl (f3, 150, .inl fgf)), (h_machine, .inr (5, [.ref mp, .ref m_c, .ref mce, .int mcn, .ref sk, .int tp, .int ba, .ref kb, .ref kk, .ref ks, .int on, .ref sh, .int sn, .int mat, .int alw, .int st, .int mo, .int mh, .int sp, .long re])), (sk, .inl (sk1, 22424, .inr (.inl gs)))] sz) [(f1, .long), (f2, .int), (f3, .int), (sk1, .long)] [(h0, .inr (11, [.ref h_tape, .int h_fed, .ref h_taken, .ref h_parser, .ref h_machine, .ref h_countedCells, .ref h_plainCells, .ref h_printer, .int h_faultNumber, .int h_stopPlace, .int h_wasRun, .int h_runSteps, .int h_runCalls, .int h_hasValue, .long h_value, .int h_hasOther, .long h_otherValue])), (h_taken, .inr (9, [.ref gco, .ref gar, .ref gki, .ref gfu])), (gfu, .inr (3, [.ref fw, .ref fe, .ref ff, .int fz])), (fw, .inl (f1, 30, .inr (.inl fgw))), (fe, .inl (f2, 30, .inl fge)), (ff, .inl (f3, 150, .inl fgf)), (h_machine, .inr (5, [.ref mp, .ref m_c, .ref mce, .int mcn, .ref sk, .int tp2, .int ba, .ref kb, .ref kk, .ref ks, .int on, .ref sh, .int sn, .int mat, .int alw, .int st, .int mo, .int mh, .int sp, .long re])), (sk, .inl (sk1, 22424, .inr (.inl gs2)))]) (va_A [(h0, .inr (11, [.ref h_tape, .int h_fed, .ref h_taken, .ref h_parser, .ref h_machine, .ref h_countedCells, .ref h_plainCells, .ref h_printer, .int h_faultNumber, .int h_stopPlace, .int h_wasRun, .int h_runSteps, .int h_runCalls, .int h_hasValue, .long h_value, .int h_hasOther, .long h_otherValue])), (h_taken, .inr (9, [.ref gco, .ref gar, .ref gki, .ref gfu])), (gfu, .inr (3, [.ref fw, .ref fe, .ref ff, .int fz])), (fw, .inl (f1, 30, .inr (.inl fgw))), (fe, .inl (f2, 30, .inl fge)), (ff, .inl (f3, 150, .inl fgf)), (h_machine, .inr (5, [.ref mp, .ref m_c, .ref mce, .int mcn, .ref sk, .int tp, .int ba, .ref kb, .ref kk, .ref ks, .int on, .ref sh, .int sn, .int mat, .int alw, .int st, .int mo, .int mh, .int sp, .long re])), (sk, .inl (sk1, 22424, .inr (.inl gs)))] sz)) 0 0 (va_A [(h0, .inr (11, [.ref h_tape, .int h_fed, .ref h_taken, .ref h_parser, .ref h_machine, .ref h_countedCells, .ref h_plainCells, .ref h_printer, .int h_faultNumber, .int h_stopPlace, .int h_wasRun, .int h_runSteps, .int h_runCalls, .int h_hasValue, .long h_value, .int h_hasOther, .long h_otherValue])), (h_taken, .inr (9, [.ref gco, .ref gar, .ref gki, .ref gfu])), (gfu, .inr (3, [.ref fw, .ref fe, .ref ff, .int fz])), (fw, .inl (f1, 30, .inr (.inl fgw))), (fe, .inl (f2, 30, .inl fge)), (ff, .inl (f3, 150, .inl fgf)), (h_machine, .inr (5, [.ref mp, .ref m_c, .ref mce, .int mcn, .ref sk, .int tp, .int ba, .ref kb, .ref kk, .ref ks, .int on, .ref sh, .int sn, .int mat, .int alw, .int st, .int mo, .int mh, .int sp, .long re])), (sk, .inl (sk1, 22424, .inr (.inl gs)))] sz) := by
  refine Met.ofW (cc := cX11_tellInts) (maxL := 9) (ret := none) (by decide) rfl ?_
  intro p e s m args below meth c s₁ B hml hv
  obtain ⟨rfl, hsz, hP, hK, hD0, hN, hT⟩ := hv
  have hx := B.exec
  have hb := B.bytes
  have hr := B.returns
  have hts := atoms_spec (ws := Cond.code yX11_tellInts cX11_tellInts 9 none :: zw) B.pre
  have hA : ∀ w ∈ zw, w.before _ s = true := fun w h => hts w (List.mem_cons_of_mem _ h)
  have hown : s.vm.findClass RX11 = some m.cls := findClass_of_methodNamed B.named
  have hlocks := B.notSynchronized
  subst hsz
  have hD := hD0.self (sz := s.heap.size)
  generalize hAe : va_A [(h0, .inr (11, [.ref h_tape, .int h_fed, .ref h_taken, .ref h_parser, .ref h_machine, .ref h_countedCells, .ref h_plainCells, .ref h_printer, .int h_faultNumber, .int h_stopPlace, .int h_wasRun, .int h_runSteps, .int h_runCalls, .int h_hasValue, .long h_value, .int h_hasOther, .long h_otherValue])), (h_taken, .inr (9, [.ref gco, .ref gar, .ref gki, .ref gfu])), (gfu, .inr (3, [.ref fw, .ref fe, .ref ff, .int fz])), (fw, .inl (f1, 30, .inr (.inl fgw))), (fe, .inl (f2, 30, .inl fge)), (ff, .inl (f3, 150, .inl fgf)), (h_machine, .inr (5, [.ref mp, .ref m_c, .ref mce, .int mcn, .ref sk, .int tp, .int ba, .ref kb, .ref kk, .ref ks, .int on, .ref sh, .int sn, .int mat, .int alw, .int st, .int mo, .int mh, .int sp, .long re])), (sk, .inl (sk1, 22424, .inr (.inl gs)))] s.heap.size = A at hD hT ⊢
  have hAA : ∀ q : Nat, s.heap.size ≤ q → A q := fun q h => by rw [← hAe]; exact Or.inr h
  have hS : va_S A s.heap s.heap [] := va_S.rf
  have hl := lv_entry ([.ref h0, .int fu, .int ia, .int ib, .int ic, .int id_]) (n := 9) (Nat.le_of_ble_eq_true rfl)
  rw [lg_entry_eq]
  generalize (lg_sl ([.ref h0, .int fu, .int ia, .int ib, .int ic, .int id_]) ++ List.replicate (9 - (lg_sl ([.ref h0, .int fu, .int ia, .int ib, .int ic, .int id_])).length) Slot.unset).toArray = ls at hl ⊢
  have hl : lv_has ls 9 [(0, .ref h0), (1, .int fu), (2, .int ia), (3, .int ib), (4, .int ic), (5, .int id_)] := hl
  refine lv_aload_n hx hb dX11_tellInts_0 rfl (lv_at hl 0 rfl) ?_
  refine va_get (D := (dC, dI)) (ci := 11) (v := .ref h_taken) (C := RX11) (T := TX11) (N := 17) hx hb hA zin_X11 hown hK hP 0 rfl rfl 2 (by decide) (hA _ wi_586) (fun _ h9 => h9) rfl dX11_tellInts_1 ?_
  refine va_get (D := (dC, dI)) (ci := 9) (v := .ref gfu) (C := RX9) (T := TX9) (N := 4) hx hb hA zin_X9 hown hK hP 1 rfl rfl 3 (by decide) (hA _ wi_321) (fun _ h9 => h9) rfl dX11_tellInts_4 ?_
  refine lv_iload_n hx hb dX11_tellInts_7 rfl (lv_at hl 1 rfl) ?_
  refine lv_iconst (v := 0) hx hb dX11_tellInts_8 (by decide) ?_
  have hPc := hP.sub (ws' := [(gfu, .inr (3, [.ref fw, .ref fe, .ref ff, .int fz])), (fw, .inl (f1, 30, .inr (.inl fgw))), (fe, .inl (f2, 30, .inl fge)), (ff, .inl (f3, 150, .inl fgf))]) [2, 3, 4, 5] rfl
  have hDc := hD.sub (ws' := [(gfu, .inr (3, [.ref fw, .ref fe, .ref ff, .int fz])), (fw, .inl (f1, 30, .inr (.inl fgw))), (fe, .inl (f2, 30, .inl fge)), (ff, .inl (f3, 150, .inl fgf))]) [2, 3, 4, 5] (by decide) rfl
  have hKc := hK.sub (tys' := [(f1, .long), (f2, .int), (f3, .int)]) [0, 1, 2] rfl
  have hFc := va_free (wc := [(gfu, .inr (3, [.ref fw, .ref fe, .ref ff, .int fz])), (fw, .inl (f1, 30, .inr (.inl fgw))), (fe, .inl (f2, 30, .inl fge)), (ff, .inl (f3, 150, .inl fgf))]) hD hS hAA [2, 3, 4, 5] rfl
  refine va_calli (va_runV (As := [.int fu, .int 0]) (rest := []) ⟨hx, hb, hml, hown, hA⟩ (c_X3_fact_x l dC dI aK aV gfu fw fe ff f1 f2 f3 fz fgw fge fgf fu 0 s.heap.size (by omega) (by omega) (by omega) (by omega) (by have h9_0 : Int32.toInt 0 = 0 := (by decide); omega) (by have h9_0 : Int32.toInt 0 = 0 := (by decide); omega)) (cwV 2 hA (zw_V wi_1079 wi_907 wi_908 wi_135 (zw_good wi_909)) rfl rfl rfl (by decide +kernel) ⟨(Nat.le_of_ble_eq_true rfl), (Nat.le_of_ble_eq_true rfl)⟩) ⟨zP_blind, va_recv hKc hPc (ci := 3) (q0 := 0) rfl rfl, zz_pre hKc hPc hDc hN hT hS hFc⟩ rfl rfl hl.1 rfl (lv_room (Nat.le_of_ble_eq_true rfl)) dX11_tellInts_9 ⟨(Nat.le_of_ble_eq_true rfl), (Nat.le_of_ble_eq_true rfl)⟩) hS (fun q _ h => hFc q h) hFc (fun r_1 u t H1 locs ht hvm hw hB hz1 hk1 hS => ?_)
  obtain ⟨hP1, hK1, hD1⟩ := hB
  rw [ht] at hP1
  have hK1 := va_K.moved hvm.symm hK1
  obtain ⟨hP, hD⟩ := va_join (wr := [(h0, .inr (11, [.ref h_tape, .int h_fed, .ref h_taken, .ref h_parser, .ref h_machine, .ref h_countedCells, .ref h_plainCells, .ref h_printer, .int h_faultNumber, .int h_stopPlace, .int h_wasRun, .int h_runSteps, .int h_runCalls, .int h_hasValue, .long h_value, .int h_hasOther, .long h_otherValue])), (h_taken, .inr (9, [.ref gco, .ref gar, .ref gki, .ref gfu])), (h_machine, .inr (5, [.ref mp, .ref m_c, .ref mce, .int mcn, .ref sk, .int tp, .int ba, .ref kb, .ref kk, .ref ks, .int on, .ref sh, .int sn, .int mat, .int alw, .int st, .int mo, .int mh, .int sp, .long re])), (sk, .inl (sk1, 22424, .inr (.inl gs)))]) (w1 := [(gfu, .inr (3, [.ref fw, .ref fe, .ref ff, .int fz])), (fw, .inl (f1, 30, .inr (.inl fgw))), (fe, .inl (f2, 30, .inl fge)), (ff, .inl (f3, 150, .inl fgf))]) hP hD [2, 3, 4, 5] [0, 1, 6, 7] rfl rfl (by decide) (by decide) hk1 hFc hP1 hD1
  have hK := (hK.sub (tys' := [(sk1, .long)]) [3] rfl).app hK1
  generalize H1 = H at hP hS ⊢
  have hP : va_P (dC, dI) vwCl [(h0, .inr (11, [.ref h_tape, .int h_fed, .ref h_taken, .ref h_parser, .ref h_machine, .ref h_countedCells, .ref h_plainCells, .ref h_printer, .int h_faultNumber, .int h_stopPlace, .int h_wasRun, .int h_runSteps, .int h_runCalls, .int h_hasValue, .long h_value, .int h_hasOther, .long h_otherValue])), (h_taken, .inr (9, [.ref gco, .ref gar, .ref gki, .ref gfu])), (h_machine, .inr (5, [.ref mp, .ref m_c, .ref mce, .int mcn, .ref sk, .int tp, .int ba, .ref kb, .ref kk, .ref ks, .int on, .ref sh, .int sn, .int mat, .int alw, .int st, .int mo, .int mh, .int sp, .long re])), (sk, .inl (sk1, 22424, .inr (.inl gs))), (gfu, .inr (3, [.ref fw, .ref fe, .ref ff, .int fz])), (fw, .inl (f1, 30, .inr (.inl fgw))), (fe, .inl (f2, 30, .inl fge)), (ff, .inl (f3, 150, .inl fgf))] H := hP
  have hD : va_D A [(h0, .inr (11, [.ref h_tape, .int h_fed, .ref h_taken, .ref h_parser, .ref h_machine, .ref h_countedCells, .ref h_plainCells, .ref h_printer, .int h_faultNumber, .int h_stopPlace, .int h_wasRun, .int h_runSteps, .int h_runCalls, .int h_hasValue, .long h_value, .int h_hasOther, .long h_otherValue])), (h_taken, .inr (9, [.ref gco, .ref gar, .ref gki, .ref gfu])), (h_machine, .inr (5, [.ref mp, .ref m_c, .ref mce, .int mcn, .ref sk, .int tp, .int ba, .ref kb, .ref kk, .ref ks, .int on, .ref sh, .int sn, .int mat, .int alw, .int st, .int mo, .int mh, .int sp, .long re])), (sk, .inl (sk1, 22424, .inr (.inl gs))), (gfu, .inr (3, [.ref fw, .ref fe, .ref ff, .int fz])), (fw, .inl (f1, 30, .inr (.inl fgw))), (fe, .inl (f2, 30, .inl fge)), (ff, .inl (f3, 150, .inl fgf))] := hD
  have hK : va_K (dC, dI) vwCl [(sk1, .long), (f1, .long), (f2, .int), (f3, .int)] s := hK
  have hw_r_1 := hw
  try dsimp only at hw_r_1
  have hq_2 := hw
  have htd9 : r_1.toInt = (fgf (5 * Int32.toNatClampNeg fu)).toInt := by rw [hq_2]; exact congrArg (fun x => (fgf x).toInt) (by have h9a : Int32.toNatClampNeg 0 = 0 := (by decide); omega)
  refine lv_istore (lv' := [(6, .int r_1), (0, .ref h0), (1, .int fu), (2, .int ia), (3, .int ib), (4, .int ic), (5, .int id_)]) hx hb dX11_tellInts_12 hl (by decide) rfl (fun ls hl => ?_)
  refine lv_iconst (v := 0) hx hb dX11_tellInts_14 (by decide) ?_
  refine lv_istore (lv' := [(7, .int 0), (6, .int r_1), (0, .ref h0), (1, .int fu), (2, .int ia), (3, .int ib), (4, .int ic), (5, .int id_)]) hx hb dX11_tellInts_15 hl (by decide) rfl (fun ls hl => ?_)
  have loop_17 : ∀ (n9 : Nat) (i : Int32) (ltp : Int32) (lgs : Nat → Int64) (H : Heap) (locs : List Loc) (ls : Array Slot), (6 - i.toInt + 1).toNat ≤ n9 → 0 ≤ i.toInt → i.toInt ≤ (fgf (5 * Int32.toNatClampNeg fu)).toInt → ltp.toInt = i.toInt → (∀ k, k < Int32.toNatClampNeg i → zhs (lgs k) = 0) → va_P (dC, dI) vwCl [(h0, .inr (11, [.ref h_tape, .int h_fed, .ref h_taken, .ref h_parser, .ref h_machine, .ref h_countedCells, .ref h_plainCells, .ref h_printer, .int h_faultNumber, .int h_stopPlace, .int h_wasRun, .int h_runSteps, .int h_runCalls, .int h_hasValue, .long h_value, .int h_hasOther, .long h_otherValue])), (h_taken, .inr (9, [.ref gco, .ref gar, .ref gki, .ref gfu])), (h_machine, .inr (5, [.ref mp, .ref m_c, .ref mce, .int mcn, .ref sk, .int ltp, .int ba, .ref kb, .ref kk, .ref ks, .int on, .ref sh, .int sn, .int mat, .int alw, .int st, .int mo, .int mh, .int sp, .long re])), (sk, .inl (sk1, 22424, .inr (.inl lgs))), (gfu, .inr (3, [.ref fw, .ref fe, .ref ff, .int fz])), (fw, .inl (f1, 30, .inr (.inl fgw))), (fe, .inl (f2, 30, .inl fge)), (ff, .inl (f3, 150, .inl fgf))] H → va_D A [(h0, .inr (11, [.ref h_tape, .int h_fed, .ref h_taken, .ref h_parser, .ref h_machine, .ref h_countedCells, .ref h_plainCells, .ref h_printer, .int h_faultNumber, .int h_stopPlace, .int h_wasRun, .int h_runSteps, .int h_runCalls, .int h_hasValue, .long h_value, .int h_hasOther, .long h_otherValue])), (h_taken, .inr (9, [.ref gco, .ref gar, .ref gki, .ref gfu])), (h_machine, .inr (5, [.ref mp, .ref m_c, .ref mce, .int mcn, .ref sk, .int ltp, .int ba, .ref kb, .ref kk, .ref ks, .int on, .ref sh, .int sn, .int mat, .int alw, .int st, .int mo, .int mh, .int sp, .long re])), (sk, .inl (sk1, 22424, .inr (.inl lgs))), (gfu, .inr (3, [.ref fw, .ref fe, .ref ff, .int fz])), (fw, .inl (f1, 30, .inr (.inl fgw))), (fe, .inl (f2, 30, .inl fge)), (ff, .inl (f3, 150, .inl fgf))] → va_S A s.heap H locs → lv_has ls 9 [(7, .int i), (6, .int r_1), (0, .ref h0), (1, .int fu), (2, .int ia), (3, .int ib), (4, .int ic), (5, .int id_)] → W p l e (headSpec (Cond.code yX11_tellInts cX11_tellInts 9 none :: zw) ({ frames := 12, cells := 0, slots := 0, locals := 400 })).room s m #[.ref h0, .int fu, .int ia, .int ib, .int ic, .int id_] below meth c H locs 0 0 (MQ below (va_Qv (fun u : Int32 × (Nat → Int64) => match u with | (tp2, gs2) => (tp2.toInt = (fgf (5 * Int32.toNatClampNeg fu)).toInt) ∧ (∀ k, k < Int32.toNatClampNeg tp2 → zhs (gs2 k) = 0)) (fun u => match u with | (tp2, gs2) => zQ dC dI A [(f1, .long), (f2, .int), (f3, .int), (sk1, .long)] [(h0, .inr (11, [.ref h_tape, .int h_fed, .ref h_taken, .ref h_parser, .ref h_machine, .ref h_countedCells, .ref h_plainCells, .ref h_printer, .int h_faultNumber, .int h_stopPlace, .int h_wasRun, .int h_runSteps, .int h_runCalls, .int h_hasValue, .long h_value, .int h_hasOther, .long h_otherValue])), (h_taken, .inr (9, [.ref gco, .ref gar, .ref gki, .ref gfu])), (gfu, .inr (3, [.ref fw, .ref fe, .ref ff, .int fz])), (fw, .inl (f1, 30, .inr (.inl fgw))), (fe, .inl (f2, 30, .inl fge)), (ff, .inl (f3, 150, .inl fgf)), (h_machine, .inr (5, [.ref mp, .ref m_c, .ref mce, .int mcn, .ref sk, .int tp2, .int ba, .ref kb, .ref kk, .ref ks, .int on, .ref sh, .int sn, .int mat, .int alw, .int st, .int mo, .int mh, .int sp, .long re])), (sk, .inl (sk1, 22424, .inr (.inl gs2)))]) A) #[.ref h0, .int fu, .int ia, .int ib, .int ic, .int id_] s 0 0 A) (F0 m 17 ls []) := by
    intro n9
    induction n9 with
    | zero => intro i ltp lgs H locs ls hm hi0 hi1 hlt_ hti; exfalso; omega
    | succ n9 ih =>
      intro i ltp lgs H locs ls hm hi0 hi1 hlt_ hti hP hD hS hl
      refine lv_iload hx hb dX11_tellInts_17 (lv_at hl 0 rfl) ?_
      refine lv_iload hx hb dX11_tellInts_19 (lv_at hl 1 rfl) ?_
      refine lv_icmp_ge (tgt := 86) hx hb dX11_tellInts_21 (by decide) (fun c_3 => ?_) (fun c_3 => ?_)
      · have ic_3 : r_1.toInt ≤ i.toInt := zi_le c_3
        have hP9 := hP.sub (ws' := [(h0, .inr (11, [.ref h_tape, .int h_fed, .ref h_taken, .ref h_parser, .ref h_machine, .ref h_countedCells, .ref h_plainCells, .ref h_printer, .int h_faultNumber, .int h_stopPlace, .int h_wasRun, .int h_runSteps, .int h_runCalls, .int h_hasValue, .long h_value, .int h_hasOther, .long h_otherValue])), (h_taken, .inr (9, [.ref gco, .ref gar, .ref gki, .ref gfu])), (gfu, .inr (3, [.ref fw, .ref fe, .ref ff, .int fz])), (fw, .inl (f1, 30, .inr (.inl fgw))), (fe, .inl (f2, 30, .inl fge)), (ff, .inl (f3, 150, .inl fgf)), (h_machine, .inr (5, [.ref mp, .ref m_c, .ref mce, .int mcn, .ref sk, .int ltp, .int ba, .ref kb, .ref kk, .ref ks, .int on, .ref sh, .int sn, .int mat, .int alw, .int st, .int mo, .int mh, .int sp, .long re])), (sk, .inl (sk1, 22424, .inr (.inl lgs)))]) [0, 1, 4, 5, 6, 7, 2, 3] rfl
        have hD9 := hD.sub (ws' := [(h0, .inr (11, [.ref h_tape, .int h_fed, .ref h_taken, .ref h_parser, .ref h_machine, .ref h_countedCells, .ref h_plainCells, .ref h_printer, .int h_faultNumber, .int h_stopPlace, .int h_wasRun, .int h_runSteps, .int h_runCalls, .int h_hasValue, .long h_value, .int h_hasOther, .long h_otherValue])), (h_taken, .inr (9, [.ref gco, .ref gar, .ref gki, .ref gfu])), (gfu, .inr (3, [.ref fw, .ref fe, .ref ff, .int fz])), (fw, .inl (f1, 30, .inr (.inl fgw))), (fe, .inl (f2, 30, .inl fge)), (ff, .inl (f3, 150, .inl fgf)), (h_machine, .inr (5, [.ref mp, .ref m_c, .ref mce, .int mcn, .ref sk, .int ltp, .int ba, .ref kb, .ref kk, .ref ks, .int on, .ref sh, .int sn, .int mat, .int alw, .int st, .int mo, .int mh, .int sp, .long re])), (sk, .inl (sk1, 22424, .inr (.inl lgs)))]) [0, 1, 4, 5, 6, 7, 2, 3] (by decide) rfl
        have hK9 := hK.sub (tys' := [(f1, .long), (f2, .int), (f3, .int), (sk1, .long)]) [1, 2, 3, 0] rfl
        exact W.vret hx hb hr (fun t ht hW => ⟨⟨(ltp, lgs), rfl, ⟨by omega, (fun k hk => hti k (by have h9a := zn_nat (x := i) (by omega); have h9b := zn_nat (x := ltp) (by omega); omega))⟩, by rw [ht]; exact hP9, va_K.moved hW.alike hK9, hD9⟩, hS.F ht⟩) hS.2.2 dX11_tellInts_86
      · have ic_3 : i.toInt < r_1.toInt := zi_nle c_3
        refine lv_iload hx hb dX11_tellInts_24 (lv_at hl 0 rfl) ?_
        refine lv_if_ne (tgt := 33) hx hb dX11_tellInts_26 (by decide) (fun c_4 => ?_) (fun c_4 => ?_)
        · have ic_4 : i.toInt ≠ 0 := zi_ne c_4
          refine lv_iload hx hb dX11_tellInts_33 (lv_at hl 0 rfl) ?_
          refine lv_iconst (v := 1) hx hb dX11_tellInts_35 (by decide) ?_
          refine lv_icmp_ne (tgt := 43) hx hb dX11_tellInts_36 (by decide) (fun c_5 => ?_) (fun c_5 => ?_)
          · have ic_5 : i.toInt ≠ 1 := zi_ne c_5
            refine lv_iload hx hb dX11_tellInts_43 (lv_at hl 0 rfl) ?_
            refine lv_iconst (v := 2) hx hb dX11_tellInts_45 (by decide) ?_
            refine lv_icmp_ne (tgt := 54) hx hb dX11_tellInts_46 (by decide) (fun c_6 => ?_) (fun c_6 => ?_)
            · have ic_6 : i.toInt ≠ 2 := zi_ne c_6
              refine lv_iload hx hb dX11_tellInts_54 (lv_at hl 0 rfl) ?_
              refine lv_iconst (v := 3) hx hb dX11_tellInts_56 (by decide) ?_
              refine lv_icmp_ne (tgt := 65) hx hb dX11_tellInts_57 (by decide) (fun c_7 => ?_) (fun c_7 => ?_)
              · have ic_7 : i.toInt ≠ 3 := zi_ne c_7
                refine lv_iconst (v := 0) hx hb dX11_tellInts_65 (by decide) ?_
                refine lv_istore (lv' := [(8, .int 0), (7, .int i), (6, .int r_1), (0, .ref h0), (1, .int fu), (2, .int ia), (3, .int ib), (4, .int ic), (5, .int id_)]) hx hb dX11_tellInts_66 hl (by decide) rfl (fun ls hl => ?_)
                refine lv_aload_n hx hb dX11_tellInts_68 rfl (lv_at hl 3 rfl) ?_
                refine va_get (D := (dC, dI)) (ci := 11) (v := .ref h_machine) (C := RX11) (T := TX11) (N := 17) hx hb hA zin_X11 hown hK hP 0 rfl rfl 4 (by decide) (hA _ wi_588) (fun _ h9 => h9) rfl dX11_tellInts_69 ?_
                refine lv_iload hx hb dX11_tellInts_72 (lv_at hl 0 rfl) ?_
                have hPc := hP.sub (ws' := []) [] rfl
                have hDc := hD.sub (ws' := []) [] (by decide) rfl
                have hKc := hK.sub (tys' := []) [] rfl
                have hFc := va_free (wc := []) hD hS hAA [] rfl
                refine va_calll (va_runS (As := [.int 0]) (rest := [.ref h_machine]) ⟨hx, hb, hml, hown, hA⟩ (c_X1_ofInt_x l dC dI aK aV 0 H.size) (va_cwS 1 hA (zw_S wi_1101 wi_1102 wi_140 (zw_good wi_1103)) rfl rfl rfl (by decide +kernel) ⟨(Nat.le_of_ble_eq_true rfl), (Nat.le_of_ble_eq_true rfl)⟩) ⟨zP_blind, zz_pre hKc hPc hDc hN hT hS hFc⟩ rfl rfl hl.1 rfl (lv_room (Nat.le_of_ble_eq_true rfl)) dX11_tellInts_74 ⟨(Nat.le_of_ble_eq_true rfl), (Nat.le_of_ble_eq_true rfl)⟩) hS (fun q _ h => hFc q h) hFc (fun r_8 u t H1 locs ht hvm hw hB hz1 hk1 hS => ?_)
                obtain ⟨hP1, hK1, hD1⟩ := hB
                rw [ht] at hP1
                have hK1 := va_K.moved hvm.symm hK1
                obtain ⟨hP, hD⟩ := va_join (wr := [(h0, .inr (11, [.ref h_tape, .int h_fed, .ref h_taken, .ref h_parser, .ref h_machine, .ref h_countedCells, .ref h_plainCells, .ref h_printer, .int h_faultNumber, .int h_stopPlace, .int h_wasRun, .int h_runSteps, .int h_runCalls, .int h_hasValue, .long h_value, .int h_hasOther, .long h_otherValue])), (h_taken, .inr (9, [.ref gco, .ref gar, .ref gki, .ref gfu])), (h_machine, .inr (5, [.ref mp, .ref m_c, .ref mce, .int mcn, .ref sk, .int ltp, .int ba, .ref kb, .ref kk, .ref ks, .int on, .ref sh, .int sn, .int mat, .int alw, .int st, .int mo, .int mh, .int sp, .long re])), (sk, .inl (sk1, 22424, .inr (.inl lgs))), (gfu, .inr (3, [.ref fw, .ref fe, .ref ff, .int fz])), (fw, .inl (f1, 30, .inr (.inl fgw))), (fe, .inl (f2, 30, .inl fge)), (ff, .inl (f3, 150, .inl fgf))]) (w1 := []) hP hD [] [0, 1, 2, 3, 4, 5, 6, 7] rfl rfl (by decide) (by decide) hk1 hFc hP1 hD1
                have hK := (hK.sub (tys' := [(sk1, .long), (f1, .long), (f2, .int), (f3, .int)]) [0, 1, 2, 3] rfl).app hK1
                generalize H1 = H at hP hS ⊢
                have hP : va_P (dC, dI) vwCl [(h0, .inr (11, [.ref h_tape, .int h_fed, .ref h_taken, .ref h_parser, .ref h_machine, .ref h_countedCells, .ref h_plainCells, .ref h_printer, .int h_faultNumber, .int h_stopPlace, .int h_wasRun, .int h_runSteps, .int h_runCalls, .int h_hasValue, .long h_value, .int h_hasOther, .long h_otherValue])), (h_taken, .inr (9, [.ref gco, .ref gar, .ref gki, .ref gfu])), (h_machine, .inr (5, [.ref mp, .ref m_c, .ref mce, .int mcn, .ref sk, .int ltp, .int ba, .ref kb, .ref kk, .ref ks, .int on, .ref sh, .int sn, .int mat, .int alw, .int st, .int mo, .int mh, .int sp, .long re])), (sk, .inl (sk1, 22424, .inr (.inl lgs))), (gfu, .inr (3, [.ref fw, .ref fe, .ref ff, .int fz])), (fw, .inl (f1, 30, .inr (.inl fgw))), (fe, .inl (f2, 30, .inl fge)), (ff, .inl (f3, 150, .inl fgf))] H := hP
                have hD : va_D A [(h0, .inr (11, [.ref h_tape, .int h_fed, .ref h_taken, .ref h_parser, .ref h_machine, .ref h_countedCells, .ref h_plainCells, .ref h_printer, .int h_faultNumber, .int h_stopPlace, .int h_wasRun, .int h_runSteps, .int h_runCalls, .int h_hasValue, .long h_value, .int h_hasOther, .long h_otherValue])), (h_taken, .inr (9, [.ref gco, .ref gar, .ref gki, .ref gfu])), (h_machine, .inr (5, [.ref mp, .ref m_c, .ref mce, .int mcn, .ref sk, .int ltp, .int ba, .ref kb, .ref kk, .ref ks, .int on, .ref sh, .int sn, .int mat, .int alw, .int st, .int mo, .int mh, .int sp, .long re])), (sk, .inl (sk1, 22424, .inr (.inl lgs))), (gfu, .inr (3, [.ref fw, .ref fe, .ref ff, .int fz])), (fw, .inl (f1, 30, .inr (.inl fgw))), (fe, .inl (f2, 30, .inl fge)), (ff, .inl (f3, 150, .inl fgf))] := hD
                have hK : va_K (dC, dI) vwCl [(sk1, .long), (f1, .long), (f2, .int), (f3, .int)] s := hK
                obtain ⟨hq_9, hq_10⟩ := hw
                have hPc := hP.sub (ws' := [(h_machine, .inr (5, [.ref mp, .ref m_c, .ref mce, .int mcn, .ref sk, .int ltp, .int ba, .ref kb, .ref kk, .ref ks, .int on, .ref sh, .int sn, .int mat, .int alw, .int st, .int mo, .int mh, .int sp, .long re])), (sk, .inl (sk1, 22424, .inr (.inl lgs)))]) [2, 3] rfl
                have hDc := hD.sub (ws' := [(h_machine, .inr (5, [.ref mp, .ref m_c, .ref mce, .int mcn, .ref sk, .int ltp, .int ba, .ref kb, .ref kk, .ref ks, .int on, .ref sh, .int sn, .int mat, .int alw, .int st, .int mo, .int mh, .int sp, .long re])), (sk, .inl (sk1, 22424, .inr (.inl lgs)))]) [2, 3] (by decide) rfl
                have hKc := hK.sub (tys' := [(sk1, .long)]) [0] rfl
                have hFc := va_free (wc := [(h_machine, .inr (5, [.ref mp, .ref m_c, .ref mce, .int mcn, .ref sk, .int ltp, .int ba, .ref kb, .ref kk, .ref ks, .int on, .ref sh, .int sn, .int mat, .int alw, .int st, .int mo, .int mh, .int sp, .long re])), (sk, .inl (sk1, 22424, .inr (.inl lgs)))]) hD hS hAA [2, 3] rfl
                refine va_callv (va_runV (As := [.long r_8]) (rest := []) ⟨hx, hb, hml, hown, hA⟩ (c_X5_push l dC dI aK aV h_machine mp m_c mce sk kb kk ks sh mcn ltp ba on sn mat alw st mo mh sp re sk1 lgs r_8 H.size (by omega) (by omega)) (cwV 1 hA (zw_V wi_1105 wi_1106 wi_1107 wi_139 (zw_good wi_1108)) rfl rfl rfl (by decide +kernel) ⟨(Nat.le_of_ble_eq_true rfl), (Nat.le_of_ble_eq_true rfl)⟩) ⟨zP_blind, va_recv hKc hPc (ci := 5) (q0 := 0) rfl rfl, zz_pre hKc hPc hDc hN hT hS hFc⟩ rfl rfl hl.1 rfl (lv_room (Nat.le_of_ble_eq_true rfl)) dX11_tellInts_77 ⟨(Nat.le_of_ble_eq_true rfl), (Nat.le_of_ble_eq_true rfl)⟩) hS (fun q _ h => hFc q h) hFc (fun u t H1 locs ht hvm hw hB hz1 hk1 hS => ?_)
                obtain ⟨tp_12, gs_13⟩ := u
                obtain ⟨hP1, hK1, hD1⟩ := hB
                rw [ht] at hP1
                have hK1 := va_K.moved hvm.symm hK1
                obtain ⟨hP, hD⟩ := va_join (wr := [(h0, .inr (11, [.ref h_tape, .int h_fed, .ref h_taken, .ref h_parser, .ref h_machine, .ref h_countedCells, .ref h_plainCells, .ref h_printer, .int h_faultNumber, .int h_stopPlace, .int h_wasRun, .int h_runSteps, .int h_runCalls, .int h_hasValue, .long h_value, .int h_hasOther, .long h_otherValue])), (h_taken, .inr (9, [.ref gco, .ref gar, .ref gki, .ref gfu])), (gfu, .inr (3, [.ref fw, .ref fe, .ref ff, .int fz])), (fw, .inl (f1, 30, .inr (.inl fgw))), (fe, .inl (f2, 30, .inl fge)), (ff, .inl (f3, 150, .inl fgf))]) (w1 := [(h_machine, .inr (5, [.ref mp, .ref m_c, .ref mce, .int mcn, .ref sk, .int tp_12, .int ba, .ref kb, .ref kk, .ref ks, .int on, .ref sh, .int sn, .int mat, .int alw, .int st, .int mo, .int mh, .int sp, .long re])), (sk, .inl (sk1, 22424, .inr (.inl gs_13)))]) hP hD [2, 3] [0, 1, 4, 5, 6, 7] rfl rfl (by decide) (by decide) hk1 hFc hP1 hD1
                have hK := (hK.sub (tys' := [(f1, .long), (f2, .int), (f3, .int)]) [1, 2, 3] rfl).app hK1
                generalize H1 = H at hP hS ⊢
                have hP : va_P (dC, dI) vwCl [(h0, .inr (11, [.ref h_tape, .int h_fed, .ref h_taken, .ref h_parser, .ref h_machine, .ref h_countedCells, .ref h_plainCells, .ref h_printer, .int h_faultNumber, .int h_stopPlace, .int h_wasRun, .int h_runSteps, .int h_runCalls, .int h_hasValue, .long h_value, .int h_hasOther, .long h_otherValue])), (h_taken, .inr (9, [.ref gco, .ref gar, .ref gki, .ref gfu])), (gfu, .inr (3, [.ref fw, .ref fe, .ref ff, .int fz])), (fw, .inl (f1, 30, .inr (.inl fgw))), (fe, .inl (f2, 30, .inl fge)), (ff, .inl (f3, 150, .inl fgf)), (h_machine, .inr (5, [.ref mp, .ref m_c, .ref mce, .int mcn, .ref sk, .int tp_12, .int ba, .ref kb, .ref kk, .ref ks, .int on, .ref sh, .int sn, .int mat, .int alw, .int st, .int mo, .int mh, .int sp, .long re])), (sk, .inl (sk1, 22424, .inr (.inl gs_13)))] H := hP
                have hD : va_D A [(h0, .inr (11, [.ref h_tape, .int h_fed, .ref h_taken, .ref h_parser, .ref h_machine, .ref h_countedCells, .ref h_plainCells, .ref h_printer, .int h_faultNumber, .int h_stopPlace, .int h_wasRun, .int h_runSteps, .int h_runCalls, .int h_hasValue, .long h_value, .int h_hasOther, .long h_otherValue])), (h_taken, .inr (9, [.ref gco, .ref gar, .ref gki, .ref gfu])), (gfu, .inr (3, [.ref fw, .ref fe, .ref ff, .int fz])), (fw, .inl (f1, 30, .inr (.inl fgw))), (fe, .inl (f2, 30, .inl fge)), (ff, .inl (f3, 150, .inl fgf)), (h_machine, .inr (5, [.ref mp, .ref m_c, .ref mce, .int mcn, .ref sk, .int tp_12, .int ba, .ref kb, .ref kk, .ref ks, .int on, .ref sh, .int sn, .int mat, .int alw, .int st, .int mo, .int mh, .int sp, .long re])), (sk, .inl (sk1, 22424, .inr (.inl gs_13)))] := hD
                have hK : va_K (dC, dI) vwCl [(f1, .long), (f2, .int), (f3, .int), (sk1, .long)] s := hK
                obtain ⟨hq_14, hq_15⟩ := hw
                obtain ⟨x_16, ex_16⟩ : ∃ y : Int32, y = i + Int32.ofInt 1 := ⟨_, rfl⟩
                refine lv_iinc (v := x_16) (lv' := [(7, .int x_16), (8, .int 0), (6, .int r_1), (0, .ref h0), (1, .int fu), (2, .int ia), (3, .int ib), (4, .int ic), (5, .int id_)]) hx hb dX11_tellInts_80 hl (k := 1) rfl (by rw [ex_16]) (by decide) rfl (fun ls hl => ?_)
                have ix_16 : x_16.toInt = i.toInt + 1 := by rw [ex_16]; exact zi_addc (by decide) (by omega) (by omega)
                refine lv_goto (tgt := 17) hx hb dX11_tellInts_83 (by decide) ?_
                have hti_17 : ∀ k, k < Int32.toNatClampNeg x_16 → zhs (gs_13 k) = 0 := zti_s hti hq_15 (by have h9a := zn_nat (x := i) (by omega); have h9b := zn_nat (x := ltp) (by omega); omega) hq_9 (by have h9a := zn_nat (x := i) (by omega); have h9b := zn_nat (x := x_16) (by omega); omega)
                exact ih x_16 tp_12 gs_13 _ _ _ (by omega) (by omega) (by omega) (by omega) hti_17 (hP.sub [0, 1, 6, 7, 2, 3, 4, 5] rfl) (hD.sub [0, 1, 6, 7, 2, 3, 4, 5] (by decide) rfl) hS (lv_sub hl [0, 2, 3, 4, 5, 6, 7, 8] rfl)
              · have ic_7 : i.toInt = 3 := zi_eq c_7
                refine lv_iload hx hb dX11_tellInts_60 (lv_at hl 7 rfl) ?_
                refine lv_goto (tgt := 66) hx hb dX11_tellInts_62 (by decide) ?_
                refine lv_istore (lv' := [(8, .int id_), (7, .int i), (6, .int r_1), (0, .ref h0), (1, .int fu), (2, .int ia), (3, .int ib), (4, .int ic), (5, .int id_)]) hx hb dX11_tellInts_66 hl (by decide) rfl (fun ls hl => ?_)
                refine lv_aload_n hx hb dX11_tellInts_68 rfl (lv_at hl 3 rfl) ?_
                refine va_get (D := (dC, dI)) (ci := 11) (v := .ref h_machine) (C := RX11) (T := TX11) (N := 17) hx hb hA zin_X11 hown hK hP 0 rfl rfl 4 (by decide) (hA _ wi_588) (fun _ h9 => h9) rfl dX11_tellInts_69 ?_
                refine lv_iload hx hb dX11_tellInts_72 (lv_at hl 0 rfl) ?_
                have hPc := hP.sub (ws' := []) [] rfl
                have hDc := hD.sub (ws' := []) [] (by decide) rfl
                have hKc := hK.sub (tys' := []) [] rfl
                have hFc := va_free (wc := []) hD hS hAA [] rfl
                refine va_calll (va_runS (As := [.int id_]) (rest := [.ref h_machine]) ⟨hx, hb, hml, hown, hA⟩ (c_X1_ofInt_x l dC dI aK aV id_ H.size) (va_cwS 1 hA (zw_S wi_1101 wi_1102 wi_140 (zw_good wi_1103)) rfl rfl rfl (by decide +kernel) ⟨(Nat.le_of_ble_eq_true rfl), (Nat.le_of_ble_eq_true rfl)⟩) ⟨zP_blind, zz_pre hKc hPc hDc hN hT hS hFc⟩ rfl rfl hl.1 rfl (lv_room (Nat.le_of_ble_eq_true rfl)) dX11_tellInts_74 ⟨(Nat.le_of_ble_eq_true rfl), (Nat.le_of_ble_eq_true rfl)⟩) hS (fun q _ h => hFc q h) hFc (fun r_18 u t H1 locs ht hvm hw hB hz1 hk1 hS => ?_)
                obtain ⟨hP1, hK1, hD1⟩ := hB
                rw [ht] at hP1
                have hK1 := va_K.moved hvm.symm hK1
                obtain ⟨hP, hD⟩ := va_join (wr := [(h0, .inr (11, [.ref h_tape, .int h_fed, .ref h_taken, .ref h_parser, .ref h_machine, .ref h_countedCells, .ref h_plainCells, .ref h_printer, .int h_faultNumber, .int h_stopPlace, .int h_wasRun, .int h_runSteps, .int h_runCalls, .int h_hasValue, .long h_value, .int h_hasOther, .long h_otherValue])), (h_taken, .inr (9, [.ref gco, .ref gar, .ref gki, .ref gfu])), (h_machine, .inr (5, [.ref mp, .ref m_c, .ref mce, .int mcn, .ref sk, .int ltp, .int ba, .ref kb, .ref kk, .ref ks, .int on, .ref sh, .int sn, .int mat, .int alw, .int st, .int mo, .int mh, .int sp, .long re])), (sk, .inl (sk1, 22424, .inr (.inl lgs))), (gfu, .inr (3, [.ref fw, .ref fe, .ref ff, .int fz])), (fw, .inl (f1, 30, .inr (.inl fgw))), (fe, .inl (f2, 30, .inl fge)), (ff, .inl (f3, 150, .inl fgf))]) (w1 := []) hP hD [] [0, 1, 2, 3, 4, 5, 6, 7] rfl rfl (by decide) (by decide) hk1 hFc hP1 hD1
                have hK := (hK.sub (tys' := [(sk1, .long), (f1, .long), (f2, .int), (f3, .int)]) [0, 1, 2, 3] rfl).app hK1
                generalize H1 = H at hP hS ⊢
                have hP : va_P (dC, dI) vwCl [(h0, .inr (11, [.ref h_tape, .int h_fed, .ref h_taken, .ref h_parser, .ref h_machine, .ref h_countedCells, .ref h_plainCells, .ref h_printer, .int h_faultNumber, .int h_stopPlace, .int h_wasRun, .int h_runSteps, .int h_runCalls, .int h_hasValue, .long h_value, .int h_hasOther, .long h_otherValue])), (h_taken, .inr (9, [.ref gco, .ref gar, .ref gki, .ref gfu])), (h_machine, .inr (5, [.ref mp, .ref m_c, .ref mce, .int mcn, .ref sk, .int ltp, .int ba, .ref kb, .ref kk, .ref ks, .int on, .ref sh, .int sn, .int mat, .int alw, .int st, .int mo, .int mh, .int sp, .long re])), (sk, .inl (sk1, 22424, .inr (.inl lgs))), (gfu, .inr (3, [.ref fw, .ref fe, .ref ff, .int fz])), (fw, .inl (f1, 30, .inr (.inl fgw))), (fe, .inl (f2, 30, .inl fge)), (ff, .inl (f3, 150, .inl fgf))] H := hP
                have hD : va_D A [(h0, .inr (11, [.ref h_tape, .int h_fed, .ref h_taken, .ref h_parser, .ref h_machine, .ref h_countedCells, .ref h_plainCells, .ref h_printer, .int h_faultNumber, .int h_stopPlace, .int h_wasRun, .int h_runSteps, .int h_runCalls, .int h_hasValue, .long h_value, .int h_hasOther, .long h_otherValue])), (h_taken, .inr (9, [.ref gco, .ref gar, .ref gki, .ref gfu])), (h_machine, .inr (5, [.ref mp, .ref m_c, .ref mce, .int mcn, .ref sk, .int ltp, .int ba, .ref kb, .ref kk, .ref ks, .int on, .ref sh, .int sn, .int mat, .int alw, .int st, .int mo, .int mh, .int sp, .long re])), (sk, .inl (sk1, 22424, .inr (.inl lgs))), (gfu, .inr (3, [.ref fw, .ref fe, .ref ff, .int fz])), (fw, .inl (f1, 30, .inr (.inl fgw))), (fe, .inl (f2, 30, .inl fge)), (ff, .inl (f3, 150, .inl fgf))] := hD
                have hK : va_K (dC, dI) vwCl [(sk1, .long), (f1, .long), (f2, .int), (f3, .int)] s := hK
                obtain ⟨hq_19, hq_20⟩ := hw
                have hPc := hP.sub (ws' := [(h_machine, .inr (5, [.ref mp, .ref m_c, .ref mce, .int mcn, .ref sk, .int ltp, .int ba, .ref kb, .ref kk, .ref ks, .int on, .ref sh, .int sn, .int mat, .int alw, .int st, .int mo, .int mh, .int sp, .long re])), (sk, .inl (sk1, 22424, .inr (.inl lgs)))]) [2, 3] rfl
                have hDc := hD.sub (ws' := [(h_machine, .inr (5, [.ref mp, .ref m_c, .ref mce, .int mcn, .ref sk, .int ltp, .int ba, .ref kb, .ref kk, .ref ks, .int on, .ref sh, .int sn, .int mat, .int alw, .int st, .int mo, .int mh, .int sp, .long re])), (sk, .inl (sk1, 22424, .inr (.inl lgs)))]) [2, 3] (by decide) rfl
                have hKc := hK.sub (tys' := [(sk1, .long)]) [0] rfl
                have hFc := va_free (wc := [(h_machine, .inr (5, [.ref mp, .ref m_c, .ref mce, .int mcn, .ref sk, .int ltp, .int ba, .ref kb, .ref kk, .ref ks, .int on, .ref sh, .int sn, .int mat, .int alw, .int st, .int mo, .int mh, .int sp, .long re])), (sk, .inl (sk1, 22424, .inr (.inl lgs)))]) hD hS hAA [2, 3] rfl
                refine va_callv (va_runV (As := [.long r_18]) (rest := []) ⟨hx, hb, hml, hown, hA⟩ (c_X5_push l dC dI aK aV h_machine mp m_c mce sk kb kk ks sh mcn ltp ba on sn mat alw st mo mh sp re sk1 lgs r_18 H.size (by omega) (by omega)) (cwV 1 hA (zw_V wi_1105 wi_1106 wi_1107 wi_139 (zw_good wi_1108)) rfl rfl rfl (by decide +kernel) ⟨(Nat.le_of_ble_eq_true rfl), (Nat.le_of_ble_eq_true rfl)⟩) ⟨zP_blind, va_recv hKc hPc (ci := 5) (q0 := 0) rfl rfl, zz_pre hKc hPc hDc hN hT hS hFc⟩ rfl rfl hl.1 rfl (lv_room (Nat.le_of_ble_eq_true rfl)) dX11_tellInts_77 ⟨(Nat.le_of_ble_eq_true rfl), (Nat.le_of_ble_eq_true rfl)⟩) hS (fun q _ h => hFc q h) hFc (fun u t H1 locs ht hvm hw hB hz1 hk1 hS => ?_)
                obtain ⟨tp_22, gs_23⟩ := u
                obtain ⟨hP1, hK1, hD1⟩ := hB
                rw [ht] at hP1
                have hK1 := va_K.moved hvm.symm hK1
                obtain ⟨hP, hD⟩ := va_join (wr := [(h0, .inr (11, [.ref h_tape, .int h_fed, .ref h_taken, .ref h_parser, .ref h_machine, .ref h_countedCells, .ref h_plainCells, .ref h_printer, .int h_faultNumber, .int h_stopPlace, .int h_wasRun, .int h_runSteps, .int h_runCalls, .int h_hasValue, .long h_value, .int h_hasOther, .long h_otherValue])), (h_taken, .inr (9, [.ref gco, .ref gar, .ref gki, .ref gfu])), (gfu, .inr (3, [.ref fw, .ref fe, .ref ff, .int fz])), (fw, .inl (f1, 30, .inr (.inl fgw))), (fe, .inl (f2, 30, .inl fge)), (ff, .inl (f3, 150, .inl fgf))]) (w1 := [(h_machine, .inr (5, [.ref mp, .ref m_c, .ref mce, .int mcn, .ref sk, .int tp_22, .int ba, .ref kb, .ref kk, .ref ks, .int on, .ref sh, .int sn, .int mat, .int alw, .int st, .int mo, .int mh, .int sp, .long re])), (sk, .inl (sk1, 22424, .inr (.inl gs_23)))]) hP hD [2, 3] [0, 1, 4, 5, 6, 7] rfl rfl (by decide) (by decide) hk1 hFc hP1 hD1
                have hK := (hK.sub (tys' := [(f1, .long), (f2, .int), (f3, .int)]) [1, 2, 3] rfl).app hK1
                generalize H1 = H at hP hS ⊢
                have hP : va_P (dC, dI) vwCl [(h0, .inr (11, [.ref h_tape, .int h_fed, .ref h_taken, .ref h_parser, .ref h_machine, .ref h_countedCells, .ref h_plainCells, .ref h_printer, .int h_faultNumber, .int h_stopPlace, .int h_wasRun, .int h_runSteps, .int h_runCalls, .int h_hasValue, .long h_value, .int h_hasOther, .long h_otherValue])), (h_taken, .inr (9, [.ref gco, .ref gar, .ref gki, .ref gfu])), (gfu, .inr (3, [.ref fw, .ref fe, .ref ff, .int fz])), (fw, .inl (f1, 30, .inr (.inl fgw))), (fe, .inl (f2, 30, .inl fge)), (ff, .inl (f3, 150, .inl fgf)), (h_machine, .inr (5, [.ref mp, .ref m_c, .ref mce, .int mcn, .ref sk, .int tp_22, .int ba, .ref kb, .ref kk, .ref ks, .int on, .ref sh, .int sn, .int mat, .int alw, .int st, .int mo, .int mh, .int sp, .long re])), (sk, .inl (sk1, 22424, .inr (.inl gs_23)))] H := hP
                have hD : va_D A [(h0, .inr (11, [.ref h_tape, .int h_fed, .ref h_taken, .ref h_parser, .ref h_machine, .ref h_countedCells, .ref h_plainCells, .ref h_printer, .int h_faultNumber, .int h_stopPlace, .int h_wasRun, .int h_runSteps, .int h_runCalls, .int h_hasValue, .long h_value, .int h_hasOther, .long h_otherValue])), (h_taken, .inr (9, [.ref gco, .ref gar, .ref gki, .ref gfu])), (gfu, .inr (3, [.ref fw, .ref fe, .ref ff, .int fz])), (fw, .inl (f1, 30, .inr (.inl fgw))), (fe, .inl (f2, 30, .inl fge)), (ff, .inl (f3, 150, .inl fgf)), (h_machine, .inr (5, [.ref mp, .ref m_c, .ref mce, .int mcn, .ref sk, .int tp_22, .int ba, .ref kb, .ref kk, .ref ks, .int on, .ref sh, .int sn, .int mat, .int alw, .int st, .int mo, .int mh, .int sp, .long re])), (sk, .inl (sk1, 22424, .inr (.inl gs_23)))] := hD
                have hK : va_K (dC, dI) vwCl [(f1, .long), (f2, .int), (f3, .int), (sk1, .long)] s := hK
                obtain ⟨hq_24, hq_25⟩ := hw
                obtain ⟨x_26, ex_26⟩ : ∃ y : Int32, y = i + Int32.ofInt 1 := ⟨_, rfl⟩
                refine lv_iinc (v := x_26) (lv' := [(7, .int x_26), (8, .int id_), (6, .int r_1), (0, .ref h0), (1, .int fu), (2, .int ia), (3, .int ib), (4, .int ic), (5, .int id_)]) hx hb dX11_tellInts_80 hl (k := 1) rfl (by rw [ex_26]) (by decide) rfl (fun ls hl => ?_)
                have ix_26 : x_26.toInt = i.toInt + 1 := by rw [ex_26]; exact zi_addc (by decide) (by omega) (by omega)
                refine lv_goto (tgt := 17) hx hb dX11_tellInts_83 (by decide) ?_
                have hti_27 : ∀ k, k < Int32.toNatClampNeg x_26 → zhs (gs_23 k) = 0 := zti_s hti hq_25 (by have h9a := zn_nat (x := i) (by omega); have h9b := zn_nat (x := ltp) (by omega); omega) hq_19 (by have h9a := zn_nat (x := i) (by omega); have h9b := zn_nat (x := x_26) (by omega); omega)
                exact ih x_26 tp_22 gs_23 _ _ _ (by omega) (by omega) (by omega) (by omega) hti_27 (hP.sub [0, 1, 6, 7, 2, 3, 4, 5] rfl) (hD.sub [0, 1, 6, 7, 2, 3, 4, 5] (by decide) rfl) hS (lv_sub hl [0, 2, 3, 4, 5, 6, 7, 8] rfl)
            · have ic_6 : i.toInt = 2 := zi_eq c_6
              refine lv_iload hx hb dX11_tellInts_49 (lv_at hl 6 rfl) ?_
              refine lv_goto (tgt := 66) hx hb dX11_tellInts_51 (by decide) ?_
              refine lv_istore (lv' := [(8, .int ic), (7, .int i), (6, .int r_1), (0, .ref h0), (1, .int fu), (2, .int ia), (3, .int ib), (4, .int ic), (5, .int id_)]) hx hb dX11_tellInts_66 hl (by decide) rfl (fun ls hl => ?_)
              refine lv_aload_n hx hb dX11_tellInts_68 rfl (lv_at hl 3 rfl) ?_
              refine va_get (D := (dC, dI)) (ci := 11) (v := .ref h_machine) (C := RX11) (T := TX11) (N := 17) hx hb hA zin_X11 hown hK hP 0 rfl rfl 4 (by decide) (hA _ wi_588) (fun _ h9 => h9) rfl dX11_tellInts_69 ?_
              refine lv_iload hx hb dX11_tellInts_72 (lv_at hl 0 rfl) ?_
              have hPc := hP.sub (ws' := []) [] rfl
              have hDc := hD.sub (ws' := []) [] (by decide) rfl
              have hKc := hK.sub (tys' := []) [] rfl
              have hFc := va_free (wc := []) hD hS hAA [] rfl
              refine va_calll (va_runS (As := [.int ic]) (rest := [.ref h_machine]) ⟨hx, hb, hml, hown, hA⟩ (c_X1_ofInt_x l dC dI aK aV ic H.size) (va_cwS 1 hA (zw_S wi_1101 wi_1102 wi_140 (zw_good wi_1103)) rfl rfl rfl (by decide +kernel) ⟨(Nat.le_of_ble_eq_true rfl), (Nat.le_of_ble_eq_true rfl)⟩) ⟨zP_blind, zz_pre hKc hPc hDc hN hT hS hFc⟩ rfl rfl hl.1 rfl (lv_room (Nat.le_of_ble_eq_true rfl)) dX11_tellInts_74 ⟨(Nat.le_of_ble_eq_true rfl), (Nat.le_of_ble_eq_true rfl)⟩) hS (fun q _ h => hFc q h) hFc (fun r_28 u t H1 locs ht hvm hw hB hz1 hk1 hS => ?_)
              obtain ⟨hP1, hK1, hD1⟩ := hB
              rw [ht] at hP1
              have hK1 := va_K.moved hvm.symm hK1
              obtain ⟨hP, hD⟩ := va_join (wr := [(h0, .inr (11, [.ref h_tape, .int h_fed, .ref h_taken, .ref h_parser, .ref h_machine, .ref h_countedCells, .ref h_plainCells, .ref h_printer, .int h_faultNumber, .int h_stopPlace, .int h_wasRun, .int h_runSteps, .int h_runCalls, .int h_hasValue, .long h_value, .int h_hasOther, .long h_otherValue])), (h_taken, .inr (9, [.ref gco, .ref gar, .ref gki, .ref gfu])), (h_machine, .inr (5, [.ref mp, .ref m_c, .ref mce, .int mcn, .ref sk, .int ltp, .int ba, .ref kb, .ref kk, .ref ks, .int on, .ref sh, .int sn, .int mat, .int alw, .int st, .int mo, .int mh, .int sp, .long re])), (sk, .inl (sk1, 22424, .inr (.inl lgs))), (gfu, .inr (3, [.ref fw, .ref fe, .ref ff, .int fz])), (fw, .inl (f1, 30, .inr (.inl fgw))), (fe, .inl (f2, 30, .inl fge)), (ff, .inl (f3, 150, .inl fgf))]) (w1 := []) hP hD [] [0, 1, 2, 3, 4, 5, 6, 7] rfl rfl (by decide) (by decide) hk1 hFc hP1 hD1
              have hK := (hK.sub (tys' := [(sk1, .long), (f1, .long), (f2, .int), (f3, .int)]) [0, 1, 2, 3] rfl).app hK1
              generalize H1 = H at hP hS ⊢
              have hP : va_P (dC, dI) vwCl [(h0, .inr (11, [.ref h_tape, .int h_fed, .ref h_taken, .ref h_parser, .ref h_machine, .ref h_countedCells, .ref h_plainCells, .ref h_printer, .int h_faultNumber, .int h_stopPlace, .int h_wasRun, .int h_runSteps, .int h_runCalls, .int h_hasValue, .long h_value, .int h_hasOther, .long h_otherValue])), (h_taken, .inr (9, [.ref gco, .ref gar, .ref gki, .ref gfu])), (h_machine, .inr (5, [.ref mp, .ref m_c, .ref mce, .int mcn, .ref sk, .int ltp, .int ba, .ref kb, .ref kk, .ref ks, .int on, .ref sh, .int sn, .int mat, .int alw, .int st, .int mo, .int mh, .int sp, .long re])), (sk, .inl (sk1, 22424, .inr (.inl lgs))), (gfu, .inr (3, [.ref fw, .ref fe, .ref ff, .int fz])), (fw, .inl (f1, 30, .inr (.inl fgw))), (fe, .inl (f2, 30, .inl fge)), (ff, .inl (f3, 150, .inl fgf))] H := hP
              have hD : va_D A [(h0, .inr (11, [.ref h_tape, .int h_fed, .ref h_taken, .ref h_parser, .ref h_machine, .ref h_countedCells, .ref h_plainCells, .ref h_printer, .int h_faultNumber, .int h_stopPlace, .int h_wasRun, .int h_runSteps, .int h_runCalls, .int h_hasValue, .long h_value, .int h_hasOther, .long h_otherValue])), (h_taken, .inr (9, [.ref gco, .ref gar, .ref gki, .ref gfu])), (h_machine, .inr (5, [.ref mp, .ref m_c, .ref mce, .int mcn, .ref sk, .int ltp, .int ba, .ref kb, .ref kk, .ref ks, .int on, .ref sh, .int sn, .int mat, .int alw, .int st, .int mo, .int mh, .int sp, .long re])), (sk, .inl (sk1, 22424, .inr (.inl lgs))), (gfu, .inr (3, [.ref fw, .ref fe, .ref ff, .int fz])), (fw, .inl (f1, 30, .inr (.inl fgw))), (fe, .inl (f2, 30, .inl fge)), (ff, .inl (f3, 150, .inl fgf))] := hD
              have hK : va_K (dC, dI) vwCl [(sk1, .long), (f1, .long), (f2, .int), (f3, .int)] s := hK
              obtain ⟨hq_29, hq_30⟩ := hw
              have hPc := hP.sub (ws' := [(h_machine, .inr (5, [.ref mp, .ref m_c, .ref mce, .int mcn, .ref sk, .int ltp, .int ba, .ref kb, .ref kk, .ref ks, .int on, .ref sh, .int sn, .int mat, .int alw, .int st, .int mo, .int mh, .int sp, .long re])), (sk, .inl (sk1, 22424, .inr (.inl lgs)))]) [2, 3] rfl
              have hDc := hD.sub (ws' := [(h_machine, .inr (5, [.ref mp, .ref m_c, .ref mce, .int mcn, .ref sk, .int ltp, .int ba, .ref kb, .ref kk, .ref ks, .int on, .ref sh, .int sn, .int mat, .int alw, .int st, .int mo, .int mh, .int sp, .long re])), (sk, .inl (sk1, 22424, .inr (.inl lgs)))]) [2, 3] (by decide) rfl
              have hKc := hK.sub (tys' := [(sk1, .long)]) [0] rfl
              have hFc := va_free (wc := [(h_machine, .inr (5, [.ref mp, .ref m_c, .ref mce, .int mcn, .ref sk, .int ltp, .int ba, .ref kb, .ref kk, .ref ks, .int on, .ref sh, .int sn, .int mat, .int alw, .int st, .int mo, .int mh, .int sp, .long re])), (sk, .inl (sk1, 22424, .inr (.inl lgs)))]) hD hS hAA [2, 3] rfl
              refine va_callv (va_runV (As := [.long r_28]) (rest := []) ⟨hx, hb, hml, hown, hA⟩ (c_X5_push l dC dI aK aV h_machine mp m_c mce sk kb kk ks sh mcn ltp ba on sn mat alw st mo mh sp re sk1 lgs r_28 H.size (by omega) (by omega)) (cwV 1 hA (zw_V wi_1105 wi_1106 wi_1107 wi_139 (zw_good wi_1108)) rfl rfl rfl (by decide +kernel) ⟨(Nat.le_of_ble_eq_true rfl), (Nat.le_of_ble_eq_true rfl)⟩) ⟨zP_blind, va_recv hKc hPc (ci := 5) (q0 := 0) rfl rfl, zz_pre hKc hPc hDc hN hT hS hFc⟩ rfl rfl hl.1 rfl (lv_room (Nat.le_of_ble_eq_true rfl)) dX11_tellInts_77 ⟨(Nat.le_of_ble_eq_true rfl), (Nat.le_of_ble_eq_true rfl)⟩) hS (fun q _ h => hFc q h) hFc (fun u t H1 locs ht hvm hw hB hz1 hk1 hS => ?_)
              obtain ⟨tp_32, gs_33⟩ := u
              obtain ⟨hP1, hK1, hD1⟩ := hB
              rw [ht] at hP1
              have hK1 := va_K.moved hvm.symm hK1
              obtain ⟨hP, hD⟩ := va_join (wr := [(h0, .inr (11, [.ref h_tape, .int h_fed, .ref h_taken, .ref h_parser, .ref h_machine, .ref h_countedCells, .ref h_plainCells, .ref h_printer, .int h_faultNumber, .int h_stopPlace, .int h_wasRun, .int h_runSteps, .int h_runCalls, .int h_hasValue, .long h_value, .int h_hasOther, .long h_otherValue])), (h_taken, .inr (9, [.ref gco, .ref gar, .ref gki, .ref gfu])), (gfu, .inr (3, [.ref fw, .ref fe, .ref ff, .int fz])), (fw, .inl (f1, 30, .inr (.inl fgw))), (fe, .inl (f2, 30, .inl fge)), (ff, .inl (f3, 150, .inl fgf))]) (w1 := [(h_machine, .inr (5, [.ref mp, .ref m_c, .ref mce, .int mcn, .ref sk, .int tp_32, .int ba, .ref kb, .ref kk, .ref ks, .int on, .ref sh, .int sn, .int mat, .int alw, .int st, .int mo, .int mh, .int sp, .long re])), (sk, .inl (sk1, 22424, .inr (.inl gs_33)))]) hP hD [2, 3] [0, 1, 4, 5, 6, 7] rfl rfl (by decide) (by decide) hk1 hFc hP1 hD1
              have hK := (hK.sub (tys' := [(f1, .long), (f2, .int), (f3, .int)]) [1, 2, 3] rfl).app hK1
              generalize H1 = H at hP hS ⊢
              have hP : va_P (dC, dI) vwCl [(h0, .inr (11, [.ref h_tape, .int h_fed, .ref h_taken, .ref h_parser, .ref h_machine, .ref h_countedCells, .ref h_plainCells, .ref h_printer, .int h_faultNumber, .int h_stopPlace, .int h_wasRun, .int h_runSteps, .int h_runCalls, .int h_hasValue, .long h_value, .int h_hasOther, .long h_otherValue])), (h_taken, .inr (9, [.ref gco, .ref gar, .ref gki, .ref gfu])), (gfu, .inr (3, [.ref fw, .ref fe, .ref ff, .int fz])), (fw, .inl (f1, 30, .inr (.inl fgw))), (fe, .inl (f2, 30, .inl fge)), (ff, .inl (f3, 150, .inl fgf)), (h_machine, .inr (5, [.ref mp, .ref m_c, .ref mce, .int mcn, .ref sk, .int tp_32, .int ba, .ref kb, .ref kk, .ref ks, .int on, .ref sh, .int sn, .int mat, .int alw, .int st, .int mo, .int mh, .int sp, .long re])), (sk, .inl (sk1, 22424, .inr (.inl gs_33)))] H := hP
              have hD : va_D A [(h0, .inr (11, [.ref h_tape, .int h_fed, .ref h_taken, .ref h_parser, .ref h_machine, .ref h_countedCells, .ref h_plainCells, .ref h_printer, .int h_faultNumber, .int h_stopPlace, .int h_wasRun, .int h_runSteps, .int h_runCalls, .int h_hasValue, .long h_value, .int h_hasOther, .long h_otherValue])), (h_taken, .inr (9, [.ref gco, .ref gar, .ref gki, .ref gfu])), (gfu, .inr (3, [.ref fw, .ref fe, .ref ff, .int fz])), (fw, .inl (f1, 30, .inr (.inl fgw))), (fe, .inl (f2, 30, .inl fge)), (ff, .inl (f3, 150, .inl fgf)), (h_machine, .inr (5, [.ref mp, .ref m_c, .ref mce, .int mcn, .ref sk, .int tp_32, .int ba, .ref kb, .ref kk, .ref ks, .int on, .ref sh, .int sn, .int mat, .int alw, .int st, .int mo, .int mh, .int sp, .long re])), (sk, .inl (sk1, 22424, .inr (.inl gs_33)))] := hD
              have hK : va_K (dC, dI) vwCl [(f1, .long), (f2, .int), (f3, .int), (sk1, .long)] s := hK
              obtain ⟨hq_34, hq_35⟩ := hw
              obtain ⟨x_36, ex_36⟩ : ∃ y : Int32, y = i + Int32.ofInt 1 := ⟨_, rfl⟩
              refine lv_iinc (v := x_36) (lv' := [(7, .int x_36), (8, .int ic), (6, .int r_1), (0, .ref h0), (1, .int fu), (2, .int ia), (3, .int ib), (4, .int ic), (5, .int id_)]) hx hb dX11_tellInts_80 hl (k := 1) rfl (by rw [ex_36]) (by decide) rfl (fun ls hl => ?_)
              have ix_36 : x_36.toInt = i.toInt + 1 := by rw [ex_36]; exact zi_addc (by decide) (by omega) (by omega)
              refine lv_goto (tgt := 17) hx hb dX11_tellInts_83 (by decide) ?_
              have hti_37 : ∀ k, k < Int32.toNatClampNeg x_36 → zhs (gs_33 k) = 0 := zti_s hti hq_35 (by have h9a := zn_nat (x := i) (by omega); have h9b := zn_nat (x := ltp) (by omega); omega) hq_29 (by have h9a := zn_nat (x := i) (by omega); have h9b := zn_nat (x := x_36) (by omega); omega)
              exact ih x_36 tp_32 gs_33 _ _ _ (by omega) (by omega) (by omega) (by omega) hti_37 (hP.sub [0, 1, 6, 7, 2, 3, 4, 5] rfl) (hD.sub [0, 1, 6, 7, 2, 3, 4, 5] (by decide) rfl) hS (lv_sub hl [0, 2, 3, 4, 5, 6, 7, 8] rfl)
          · have ic_5 : i.toInt = 1 := zi_eq c_5
            refine lv_iload_n hx hb dX11_tellInts_39 rfl (lv_at hl 5 rfl) ?_
            refine lv_goto (tgt := 66) hx hb dX11_tellInts_40 (by decide) ?_
            refine lv_istore (lv' := [(8, .int ib), (7, .int i), (6, .int r_1), (0, .ref h0), (1, .int fu), (2, .int ia), (3, .int ib), (4, .int ic), (5, .int id_)]) hx hb dX11_tellInts_66 hl (by decide) rfl (fun ls hl => ?_)
            refine lv_aload_n hx hb dX11_tellInts_68 rfl (lv_at hl 3 rfl) ?_
            refine va_get (D := (dC, dI)) (ci := 11) (v := .ref h_machine) (C := RX11) (T := TX11) (N := 17) hx hb hA zin_X11 hown hK hP 0 rfl rfl 4 (by decide) (hA _ wi_588) (fun _ h9 => h9) rfl dX11_tellInts_69 ?_
            refine lv_iload hx hb dX11_tellInts_72 (lv_at hl 0 rfl) ?_
            have hPc := hP.sub (ws' := []) [] rfl
            have hDc := hD.sub (ws' := []) [] (by decide) rfl
            have hKc := hK.sub (tys' := []) [] rfl
            have hFc := va_free (wc := []) hD hS hAA [] rfl
            refine va_calll (va_runS (As := [.int ib]) (rest := [.ref h_machine]) ⟨hx, hb, hml, hown, hA⟩ (c_X1_ofInt_x l dC dI aK aV ib H.size) (va_cwS 1 hA (zw_S wi_1101 wi_1102 wi_140 (zw_good wi_1103)) rfl rfl rfl (by decide +kernel) ⟨(Nat.le_of_ble_eq_true rfl), (Nat.le_of_ble_eq_true rfl)⟩) ⟨zP_blind, zz_pre hKc hPc hDc hN hT hS hFc⟩ rfl rfl hl.1 rfl (lv_room (Nat.le_of_ble_eq_true rfl)) dX11_tellInts_74 ⟨(Nat.le_of_ble_eq_true rfl), (Nat.le_of_ble_eq_true rfl)⟩) hS (fun q _ h => hFc q h) hFc (fun r_38 u t H1 locs ht hvm hw hB hz1 hk1 hS => ?_)
            obtain ⟨hP1, hK1, hD1⟩ := hB
            rw [ht] at hP1
            have hK1 := va_K.moved hvm.symm hK1
            obtain ⟨hP, hD⟩ := va_join (wr := [(h0, .inr (11, [.ref h_tape, .int h_fed, .ref h_taken, .ref h_parser, .ref h_machine, .ref h_countedCells, .ref h_plainCells, .ref h_printer, .int h_faultNumber, .int h_stopPlace, .int h_wasRun, .int h_runSteps, .int h_runCalls, .int h_hasValue, .long h_value, .int h_hasOther, .long h_otherValue])), (h_taken, .inr (9, [.ref gco, .ref gar, .ref gki, .ref gfu])), (h_machine, .inr (5, [.ref mp, .ref m_c, .ref mce, .int mcn, .ref sk, .int ltp, .int ba, .ref kb, .ref kk, .ref ks, .int on, .ref sh, .int sn, .int mat, .int alw, .int st, .int mo, .int mh, .int sp, .long re])), (sk, .inl (sk1, 22424, .inr (.inl lgs))), (gfu, .inr (3, [.ref fw, .ref fe, .ref ff, .int fz])), (fw, .inl (f1, 30, .inr (.inl fgw))), (fe, .inl (f2, 30, .inl fge)), (ff, .inl (f3, 150, .inl fgf))]) (w1 := []) hP hD [] [0, 1, 2, 3, 4, 5, 6, 7] rfl rfl (by decide) (by decide) hk1 hFc hP1 hD1
            have hK := (hK.sub (tys' := [(sk1, .long), (f1, .long), (f2, .int), (f3, .int)]) [0, 1, 2, 3] rfl).app hK1
            generalize H1 = H at hP hS ⊢
            have hP : va_P (dC, dI) vwCl [(h0, .inr (11, [.ref h_tape, .int h_fed, .ref h_taken, .ref h_parser, .ref h_machine, .ref h_countedCells, .ref h_plainCells, .ref h_printer, .int h_faultNumber, .int h_stopPlace, .int h_wasRun, .int h_runSteps, .int h_runCalls, .int h_hasValue, .long h_value, .int h_hasOther, .long h_otherValue])), (h_taken, .inr (9, [.ref gco, .ref gar, .ref gki, .ref gfu])), (h_machine, .inr (5, [.ref mp, .ref m_c, .ref mce, .int mcn, .ref sk, .int ltp, .int ba, .ref kb, .ref kk, .ref ks, .int on, .ref sh, .int sn, .int mat, .int alw, .int st, .int mo, .int mh, .int sp, .long re])), (sk, .inl (sk1, 22424, .inr (.inl lgs))), (gfu, .inr (3, [.ref fw, .ref fe, .ref ff, .int fz])), (fw, .inl (f1, 30, .inr (.inl fgw))), (fe, .inl (f2, 30, .inl fge)), (ff, .inl (f3, 150, .inl fgf))] H := hP
            have hD : va_D A [(h0, .inr (11, [.ref h_tape, .int h_fed, .ref h_taken, .ref h_parser, .ref h_machine, .ref h_countedCells, .ref h_plainCells, .ref h_printer, .int h_faultNumber, .int h_stopPlace, .int h_wasRun, .int h_runSteps, .int h_runCalls, .int h_hasValue, .long h_value, .int h_hasOther, .long h_otherValue])), (h_taken, .inr (9, [.ref gco, .ref gar, .ref gki, .ref gfu])), (h_machine, .inr (5, [.ref mp, .ref m_c, .ref mce, .int mcn, .ref sk, .int ltp, .int ba, .ref kb, .ref kk, .ref ks, .int on, .ref sh, .int sn, .int mat, .int alw, .int st, .int mo, .int mh, .int sp, .long re])), (sk, .inl (sk1, 22424, .inr (.inl lgs))), (gfu, .inr (3, [.ref fw, .ref fe, .ref ff, .int fz])), (fw, .inl (f1, 30, .inr (.inl fgw))), (fe, .inl (f2, 30, .inl fge)), (ff, .inl (f3, 150, .inl fgf))] := hD
            have hK : va_K (dC, dI) vwCl [(sk1, .long), (f1, .long), (f2, .int), (f3, .int)] s := hK
            obtain ⟨hq_39, hq_40⟩ := hw
            have hPc := hP.sub (ws' := [(h_machine, .inr (5, [.ref mp, .ref m_c, .ref mce, .int mcn, .ref sk, .int ltp, .int ba, .ref kb, .ref kk, .ref ks, .int on, .ref sh, .int sn, .int mat, .int alw, .int st, .int mo, .int mh, .int sp, .long re])), (sk, .inl (sk1, 22424, .inr (.inl lgs)))]) [2, 3] rfl
            have hDc := hD.sub (ws' := [(h_machine, .inr (5, [.ref mp, .ref m_c, .ref mce, .int mcn, .ref sk, .int ltp, .int ba, .ref kb, .ref kk, .ref ks, .int on, .ref sh, .int sn, .int mat, .int alw, .int st, .int mo, .int mh, .int sp, .long re])), (sk, .inl (sk1, 22424, .inr (.inl lgs)))]) [2, 3] (by decide) rfl
            have hKc := hK.sub (tys' := [(sk1, .long)]) [0] rfl
            have hFc := va_free (wc := [(h_machine, .inr (5, [.ref mp, .ref m_c, .ref mce, .int mcn, .ref sk, .int ltp, .int ba, .ref kb, .ref kk, .ref ks, .int on, .ref sh, .int sn, .int mat, .int alw, .int st, .int mo, .int mh, .int sp, .long re])), (sk, .inl (sk1, 22424, .inr (.inl lgs)))]) hD hS hAA [2, 3] rfl
            refine va_callv (va_runV (As := [.long r_38]) (rest := []) ⟨hx, hb, hml, hown, hA⟩ (c_X5_push l dC dI aK aV h_machine mp m_c mce sk kb kk ks sh mcn ltp ba on sn mat alw st mo mh sp re sk1 lgs r_38 H.size (by omega) (by omega)) (cwV 1 hA (zw_V wi_1105 wi_1106 wi_1107 wi_139 (zw_good wi_1108)) rfl rfl rfl (by decide +kernel) ⟨(Nat.le_of_ble_eq_true rfl), (Nat.le_of_ble_eq_true rfl)⟩) ⟨zP_blind, va_recv hKc hPc (ci := 5) (q0 := 0) rfl rfl, zz_pre hKc hPc hDc hN hT hS hFc⟩ rfl rfl hl.1 rfl (lv_room (Nat.le_of_ble_eq_true rfl)) dX11_tellInts_77 ⟨(Nat.le_of_ble_eq_true rfl), (Nat.le_of_ble_eq_true rfl)⟩) hS (fun q _ h => hFc q h) hFc (fun u t H1 locs ht hvm hw hB hz1 hk1 hS => ?_)
            obtain ⟨tp_42, gs_43⟩ := u
            obtain ⟨hP1, hK1, hD1⟩ := hB
            rw [ht] at hP1
            have hK1 := va_K.moved hvm.symm hK1
            obtain ⟨hP, hD⟩ := va_join (wr := [(h0, .inr (11, [.ref h_tape, .int h_fed, .ref h_taken, .ref h_parser, .ref h_machine, .ref h_countedCells, .ref h_plainCells, .ref h_printer, .int h_faultNumber, .int h_stopPlace, .int h_wasRun, .int h_runSteps, .int h_runCalls, .int h_hasValue, .long h_value, .int h_hasOther, .long h_otherValue])), (h_taken, .inr (9, [.ref gco, .ref gar, .ref gki, .ref gfu])), (gfu, .inr (3, [.ref fw, .ref fe, .ref ff, .int fz])), (fw, .inl (f1, 30, .inr (.inl fgw))), (fe, .inl (f2, 30, .inl fge)), (ff, .inl (f3, 150, .inl fgf))]) (w1 := [(h_machine, .inr (5, [.ref mp, .ref m_c, .ref mce, .int mcn, .ref sk, .int tp_42, .int ba, .ref kb, .ref kk, .ref ks, .int on, .ref sh, .int sn, .int mat, .int alw, .int st, .int mo, .int mh, .int sp, .long re])), (sk, .inl (sk1, 22424, .inr (.inl gs_43)))]) hP hD [2, 3] [0, 1, 4, 5, 6, 7] rfl rfl (by decide) (by decide) hk1 hFc hP1 hD1
            have hK := (hK.sub (tys' := [(f1, .long), (f2, .int), (f3, .int)]) [1, 2, 3] rfl).app hK1
            generalize H1 = H at hP hS ⊢
            have hP : va_P (dC, dI) vwCl [(h0, .inr (11, [.ref h_tape, .int h_fed, .ref h_taken, .ref h_parser, .ref h_machine, .ref h_countedCells, .ref h_plainCells, .ref h_printer, .int h_faultNumber, .int h_stopPlace, .int h_wasRun, .int h_runSteps, .int h_runCalls, .int h_hasValue, .long h_value, .int h_hasOther, .long h_otherValue])), (h_taken, .inr (9, [.ref gco, .ref gar, .ref gki, .ref gfu])), (gfu, .inr (3, [.ref fw, .ref fe, .ref ff, .int fz])), (fw, .inl (f1, 30, .inr (.inl fgw))), (fe, .inl (f2, 30, .inl fge)), (ff, .inl (f3, 150, .inl fgf)), (h_machine, .inr (5, [.ref mp, .ref m_c, .ref mce, .int mcn, .ref sk, .int tp_42, .int ba, .ref kb, .ref kk, .ref ks, .int on, .ref sh, .int sn, .int mat, .int alw, .int st, .int mo, .int mh, .int sp, .long re])), (sk, .inl (sk1, 22424, .inr (.inl gs_43)))] H := hP
            have hD : va_D A [(h0, .inr (11, [.ref h_tape, .int h_fed, .ref h_taken, .ref h_parser, .ref h_machine, .ref h_countedCells, .ref h_plainCells, .ref h_printer, .int h_faultNumber, .int h_stopPlace, .int h_wasRun, .int h_runSteps, .int h_runCalls, .int h_hasValue, .long h_value, .int h_hasOther, .long h_otherValue])), (h_taken, .inr (9, [.ref gco, .ref gar, .ref gki, .ref gfu])), (gfu, .inr (3, [.ref fw, .ref fe, .ref ff, .int fz])), (fw, .inl (f1, 30, .inr (.inl fgw))), (fe, .inl (f2, 30, .inl fge)), (ff, .inl (f3, 150, .inl fgf)), (h_machine, .inr (5, [.ref mp, .ref m_c, .ref mce, .int mcn, .ref sk, .int tp_42, .int ba, .ref kb, .ref kk, .ref ks, .int on, .ref sh, .int sn, .int mat, .int alw, .int st, .int mo, .int mh, .int sp, .long re])), (sk, .inl (sk1, 22424, .inr (.inl gs_43)))] := hD
            have hK : va_K (dC, dI) vwCl [(f1, .long), (f2, .int), (f3, .int), (sk1, .long)] s := hK
            obtain ⟨hq_44, hq_45⟩ := hw
            obtain ⟨x_46, ex_46⟩ : ∃ y : Int32, y = i + Int32.ofInt 1 := ⟨_, rfl⟩
            refine lv_iinc (v := x_46) (lv' := [(7, .int x_46), (8, .int ib), (6, .int r_1), (0, .ref h0), (1, .int fu), (2, .int ia), (3, .int ib), (4, .int ic), (5, .int id_)]) hx hb dX11_tellInts_80 hl (k := 1) rfl (by rw [ex_46]) (by decide) rfl (fun ls hl => ?_)
            have ix_46 : x_46.toInt = i.toInt + 1 := by rw [ex_46]; exact zi_addc (by decide) (by omega) (by omega)
            refine lv_goto (tgt := 17) hx hb dX11_tellInts_83 (by decide) ?_
            have hti_47 : ∀ k, k < Int32.toNatClampNeg x_46 → zhs (gs_43 k) = 0 := zti_s hti hq_45 (by have h9a := zn_nat (x := i) (by omega); have h9b := zn_nat (x := ltp) (by omega); omega) hq_39 (by have h9a := zn_nat (x := i) (by omega); have h9b := zn_nat (x := x_46) (by omega); omega)
            exact ih x_46 tp_42 gs_43 _ _ _ (by omega) (by omega) (by omega) (by omega) hti_47 (hP.sub [0, 1, 6, 7, 2, 3, 4, 5] rfl) (hD.sub [0, 1, 6, 7, 2, 3, 4, 5] (by decide) rfl) hS (lv_sub hl [0, 2, 3, 4, 5, 6, 7, 8] rfl)
        · have ic_4 : i.toInt = 0 := zi_eq c_4
          refine lv_iload_n hx hb dX11_tellInts_29 rfl (lv_at hl 4 rfl) ?_
          refine lv_goto (tgt := 66) hx hb dX11_tellInts_30 (by decide) ?_
          refine lv_istore (lv' := [(8, .int ia), (7, .int i), (6, .int r_1), (0, .ref h0), (1, .int fu), (2, .int ia), (3, .int ib), (4, .int ic), (5, .int id_)]) hx hb dX11_tellInts_66 hl (by decide) rfl (fun ls hl => ?_)
          refine lv_aload_n hx hb dX11_tellInts_68 rfl (lv_at hl 3 rfl) ?_
          refine va_get (D := (dC, dI)) (ci := 11) (v := .ref h_machine) (C := RX11) (T := TX11) (N := 17) hx hb hA zin_X11 hown hK hP 0 rfl rfl 4 (by decide) (hA _ wi_588) (fun _ h9 => h9) rfl dX11_tellInts_69 ?_
          refine lv_iload hx hb dX11_tellInts_72 (lv_at hl 0 rfl) ?_
          have hPc := hP.sub (ws' := []) [] rfl
          have hDc := hD.sub (ws' := []) [] (by decide) rfl
          have hKc := hK.sub (tys' := []) [] rfl
          have hFc := va_free (wc := []) hD hS hAA [] rfl
          refine va_calll (va_runS (As := [.int ia]) (rest := [.ref h_machine]) ⟨hx, hb, hml, hown, hA⟩ (c_X1_ofInt_x l dC dI aK aV ia H.size) (va_cwS 1 hA (zw_S wi_1101 wi_1102 wi_140 (zw_good wi_1103)) rfl rfl rfl (by decide +kernel) ⟨(Nat.le_of_ble_eq_true rfl), (Nat.le_of_ble_eq_true rfl)⟩) ⟨zP_blind, zz_pre hKc hPc hDc hN hT hS hFc⟩ rfl rfl hl.1 rfl (lv_room (Nat.le_of_ble_eq_true rfl)) dX11_tellInts_74 ⟨(Nat.le_of_ble_eq_true rfl), (Nat.le_of_ble_eq_true rfl)⟩) hS (fun q _ h => hFc q h) hFc (fun r_48 u t H1 locs ht hvm hw hB hz1 hk1 hS => ?_)
          obtain ⟨hP1, hK1, hD1⟩ := hB
          rw [ht] at hP1
          have hK1 := va_K.moved hvm.symm hK1
          obtain ⟨hP, hD⟩ := va_join (wr := [(h0, .inr (11, [.ref h_tape, .int h_fed, .ref h_taken, .ref h_parser, .ref h_machine, .ref h_countedCells, .ref h_plainCells, .ref h_printer, .int h_faultNumber, .int h_stopPlace, .int h_wasRun, .int h_runSteps, .int h_runCalls, .int h_hasValue, .long h_value, .int h_hasOther, .long h_otherValue])), (h_taken, .inr (9, [.ref gco, .ref gar, .ref gki, .ref gfu])), (h_machine, .inr (5, [.ref mp, .ref m_c, .ref mce, .int mcn, .ref sk, .int ltp, .int ba, .ref kb, .ref kk, .ref ks, .int on, .ref sh, .int sn, .int mat, .int alw, .int st, .int mo, .int mh, .int sp, .long re])), (sk, .inl (sk1, 22424, .inr (.inl lgs))), (gfu, .inr (3, [.ref fw, .ref fe, .ref ff, .int fz])), (fw, .inl (f1, 30, .inr (.inl fgw))), (fe, .inl (f2, 30, .inl fge)), (ff, .inl (f3, 150, .inl fgf))]) (w1 := []) hP hD [] [0, 1, 2, 3, 4, 5, 6, 7] rfl rfl (by decide) (by decide) hk1 hFc hP1 hD1
          have hK := (hK.sub (tys' := [(sk1, .long), (f1, .long), (f2, .int), (f3, .int)]) [0, 1, 2, 3] rfl).app hK1
          generalize H1 = H at hP hS ⊢
          have hP : va_P (dC, dI) vwCl [(h0, .inr (11, [.ref h_tape, .int h_fed, .ref h_taken, .ref h_parser, .ref h_machine, .ref h_countedCells, .ref h_plainCells, .ref h_printer, .int h_faultNumber, .int h_stopPlace, .int h_wasRun, .int h_runSteps, .int h_runCalls, .int h_hasValue, .long h_value, .int h_hasOther, .long h_otherValue])), (h_taken, .inr (9, [.ref gco, .ref gar, .ref gki, .ref gfu])), (h_machine, .inr (5, [.ref mp, .ref m_c, .ref mce, .int mcn, .ref sk, .int ltp, .int ba, .ref kb, .ref kk, .ref ks, .int on, .ref sh, .int sn, .int mat, .int alw, .int st, .int mo, .int mh, .int sp, .long re])), (sk, .inl (sk1, 22424, .inr (.inl lgs))), (gfu, .inr (3, [.ref fw, .ref fe, .ref ff, .int fz])), (fw, .inl (f1, 30, .inr (.inl fgw))), (fe, .inl (f2, 30, .inl fge)), (ff, .inl (f3, 150, .inl fgf))] H := hP
          have hD : va_D A [(h0, .inr (11, [.ref h_tape, .int h_fed, .ref h_taken, .ref h_parser, .ref h_machine, .ref h_countedCells, .ref h_plainCells, .ref h_printer, .int h_faultNumber, .int h_stopPlace, .int h_wasRun, .int h_runSteps, .int h_runCalls, .int h_hasValue, .long h_value, .int h_hasOther, .long h_otherValue])), (h_taken, .inr (9, [.ref gco, .ref gar, .ref gki, .ref gfu])), (h_machine, .inr (5, [.ref mp, .ref m_c, .ref mce, .int mcn, .ref sk, .int ltp, .int ba, .ref kb, .ref kk, .ref ks, .int on, .ref sh, .int sn, .int mat, .int alw, .int st, .int mo, .int mh, .int sp, .long re])), (sk, .inl (sk1, 22424, .inr (.inl lgs))), (gfu, .inr (3, [.ref fw, .ref fe, .ref ff, .int fz])), (fw, .inl (f1, 30, .inr (.inl fgw))), (fe, .inl (f2, 30, .inl fge)), (ff, .inl (f3, 150, .inl fgf))] := hD
          have hK : va_K (dC, dI) vwCl [(sk1, .long), (f1, .long), (f2, .int), (f3, .int)] s := hK
          obtain ⟨hq_49, hq_50⟩ := hw
          have hPc := hP.sub (ws' := [(h_machine, .inr (5, [.ref mp, .ref m_c, .ref mce, .int mcn, .ref sk, .int ltp, .int ba, .ref kb, .ref kk, .ref ks, .int on, .ref sh, .int sn, .int mat, .int alw, .int st, .int mo, .int mh, .int sp, .long re])), (sk, .inl (sk1, 22424, .inr (.inl lgs)))]) [2, 3] rfl
          have hDc := hD.sub (ws' := [(h_machine, .inr (5, [.ref mp, .ref m_c, .ref mce, .int mcn, .ref sk, .int ltp, .int ba, .ref kb, .ref kk, .ref ks, .int on, .ref sh, .int sn, .int mat, .int alw, .int st, .int mo, .int mh, .int sp, .long re])), (sk, .inl (sk1, 22424, .inr (.inl lgs)))]) [2, 3] (by decide) rfl
          have hKc := hK.sub (tys' := [(sk1, .long)]) [0] rfl
          have hFc := va_free (wc := [(h_machine, .inr (5, [.ref mp, .ref m_c, .ref mce, .int mcn, .ref sk, .int ltp, .int ba, .ref kb, .ref kk, .ref ks, .int on, .ref sh, .int sn, .int mat, .int alw, .int st, .int mo, .int mh, .int sp, .long re])), (sk, .inl (sk1, 22424, .inr (.inl lgs)))]) hD hS hAA [2, 3] rfl
          refine va_callv (va_runV (As := [.long r_48]) (rest := []) ⟨hx, hb, hml, hown, hA⟩ (c_X5_push l dC dI aK aV h_machine mp m_c mce sk kb kk ks sh mcn ltp ba on sn mat alw st mo mh sp re sk1 lgs r_48 H.size (by omega) (by omega)) (cwV 1 hA (zw_V wi_1105 wi_1106 wi_1107 wi_139 (zw_good wi_1108)) rfl rfl rfl (by decide +kernel) ⟨(Nat.le_of_ble_eq_true rfl), (Nat.le_of_ble_eq_true rfl)⟩) ⟨zP_blind, va_recv hKc hPc (ci := 5) (q0 := 0) rfl rfl, zz_pre hKc hPc hDc hN hT hS hFc⟩ rfl rfl hl.1 rfl (lv_room (Nat.le_of_ble_eq_true rfl)) dX11_tellInts_77 ⟨(Nat.le_of_ble_eq_true rfl), (Nat.le_of_ble_eq_true rfl)⟩) hS (fun q _ h => hFc q h) hFc (fun u t H1 locs ht hvm hw hB hz1 hk1 hS => ?_)
          obtain ⟨tp_52, gs_53⟩ := u
          obtain ⟨hP1, hK1, hD1⟩ := hB
          rw [ht] at hP1
          have hK1 := va_K.moved hvm.symm hK1
          obtain ⟨hP, hD⟩ := va_join (wr := [(h0, .inr (11, [.ref h_tape, .int h_fed, .ref h_taken, .ref h_parser, .ref h_machine, .ref h_countedCells, .ref h_plainCells, .ref h_printer, .int h_faultNumber, .int h_stopPlace, .int h_wasRun, .int h_runSteps, .int h_runCalls, .int h_hasValue, .long h_value, .int h_hasOther, .long h_otherValue])), (h_taken, .inr (9, [.ref gco, .ref gar, .ref gki, .ref gfu])), (gfu, .inr (3, [.ref fw, .ref fe, .ref ff, .int fz])), (fw, .inl (f1, 30, .inr (.inl fgw))), (fe, .inl (f2, 30, .inl fge)), (ff, .inl (f3, 150, .inl fgf))]) (w1 := [(h_machine, .inr (5, [.ref mp, .ref m_c, .ref mce, .int mcn, .ref sk, .int tp_52, .int ba, .ref kb, .ref kk, .ref ks, .int on, .ref sh, .int sn, .int mat, .int alw, .int st, .int mo, .int mh, .int sp, .long re])), (sk, .inl (sk1, 22424, .inr (.inl gs_53)))]) hP hD [2, 3] [0, 1, 4, 5, 6, 7] rfl rfl (by decide) (by decide) hk1 hFc hP1 hD1
          have hK := (hK.sub (tys' := [(f1, .long), (f2, .int), (f3, .int)]) [1, 2, 3] rfl).app hK1
          generalize H1 = H at hP hS ⊢
          have hP : va_P (dC, dI) vwCl [(h0, .inr (11, [.ref h_tape, .int h_fed, .ref h_taken, .ref h_parser, .ref h_machine, .ref h_countedCells, .ref h_plainCells, .ref h_printer, .int h_faultNumber, .int h_stopPlace, .int h_wasRun, .int h_runSteps, .int h_runCalls, .int h_hasValue, .long h_value, .int h_hasOther, .long h_otherValue])), (h_taken, .inr (9, [.ref gco, .ref gar, .ref gki, .ref gfu])), (gfu, .inr (3, [.ref fw, .ref fe, .ref ff, .int fz])), (fw, .inl (f1, 30, .inr (.inl fgw))), (fe, .inl (f2, 30, .inl fge)), (ff, .inl (f3, 150, .inl fgf)), (h_machine, .inr (5, [.ref mp, .ref m_c, .ref mce, .int mcn, .ref sk, .int tp_52, .int ba, .ref kb, .ref kk, .ref ks, .int on, .ref sh, .int sn, .int mat, .int alw, .int st, .int mo, .int mh, .int sp, .long re])), (sk, .inl (sk1, 22424, .inr (.inl gs_53)))] H := hP
          have hD : va_D A [(h0, .inr (11, [.ref h_tape, .int h_fed, .ref h_taken, .ref h_parser, .ref h_machine, .ref h_countedCells, .ref h_plainCells, .ref h_printer, .int h_faultNumber, .int h_stopPlace, .int h_wasRun, .int h_runSteps, .int h_runCalls, .int h_hasValue, .long h_value, .int h_hasOther, .long h_otherValue])), (h_taken, .inr (9, [.ref gco, .ref gar, .ref gki, .ref gfu])), (gfu, .inr (3, [.ref fw, .ref fe, .ref ff, .int fz])), (fw, .inl (f1, 30, .inr (.inl fgw))), (fe, .inl (f2, 30, .inl fge)), (ff, .inl (f3, 150, .inl fgf)), (h_machine, .inr (5, [.ref mp, .ref m_c, .ref mce, .int mcn, .ref sk, .int tp_52, .int ba, .ref kb, .ref kk, .ref ks, .int on, .ref sh, .int sn, .int mat, .int alw, .int st, .int mo, .int mh, .int sp, .long re])), (sk, .inl (sk1, 22424, .inr (.inl gs_53)))] := hD
          have hK : va_K (dC, dI) vwCl [(f1, .long), (f2, .int), (f3, .int), (sk1, .long)] s := hK
          obtain ⟨hq_54, hq_55⟩ := hw
          obtain ⟨x_56, ex_56⟩ : ∃ y : Int32, y = i + Int32.ofInt 1 := ⟨_, rfl⟩
          refine lv_iinc (v := x_56) (lv' := [(7, .int x_56), (8, .int ia), (6, .int r_1), (0, .ref h0), (1, .int fu), (2, .int ia), (3, .int ib), (4, .int ic), (5, .int id_)]) hx hb dX11_tellInts_80 hl (k := 1) rfl (by rw [ex_56]) (by decide) rfl (fun ls hl => ?_)
          have ix_56 : x_56.toInt = i.toInt + 1 := by rw [ex_56]; exact zi_addc (by decide) (by omega) (by omega)
          refine lv_goto (tgt := 17) hx hb dX11_tellInts_83 (by decide) ?_
          have hti_57 : ∀ k, k < Int32.toNatClampNeg x_56 → zhs (gs_53 k) = 0 := zti_s hti hq_55 (by have h9a := zn_nat (x := i) (by omega); have h9b := zn_nat (x := ltp) (by omega); omega) hq_49 (by have h9a := zn_nat (x := i) (by omega); have h9b := zn_nat (x := x_56) (by omega); omega)
          exact ih x_56 tp_52 gs_53 _ _ _ (by omega) (by omega) (by omega) (by omega) hti_57 (hP.sub [0, 1, 6, 7, 2, 3, 4, 5] rfl) (hD.sub [0, 1, 6, 7, 2, 3, 4, 5] (by decide) rfl) hS (lv_sub hl [0, 2, 3, 4, 5, 6, 7, 8] rfl)
  have hti_58 : ∀ k, k < Int32.toNatClampNeg 0 → zhs (gs k) = 0 := fun k hk => absurd hk (by rw [show Int32.toNatClampNeg 0 = 0 from rfl]; omega)
  exact loop_17 _ 0 tp gs _ _ _ (Nat.le_refl _) (by have h9_0 : Int32.toInt 0 = 0 := (by decide); omega) (by have h9_0 : Int32.toInt 0 = 0 := (by decide); omega) (by have h9_0 : Int32.toInt 0 = 0 := (by decide); omega) hti_58 (hP.sub [0, 1, 2, 3, 4, 5, 6, 7] rfl) (hD.sub [0, 1, 2, 3, 4, 5, 6, 7] (by decide) rfl) hS (lv_sub hl [0, 1, 2, 3, 4, 5, 6, 7] rfl)
