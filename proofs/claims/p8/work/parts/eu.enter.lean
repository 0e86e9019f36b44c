theorem zz_str {t : Term} {cls : String} {args : Array Value} {s : State} (h : (Cond.exactly t cls).before args s = true) : ∃ a : Addr, t.eval args s none [] s = some (.ref a) := by
  obtain ⟨a, c, cell, k, h1, -⟩ := Cond.exactly_spec h
  exact ⟨a, h1⟩
theorem zNF_in : ∀ q ∈ zNF, Cond.fieldLinkNest q.1 q.2.1 q.2.2.1 q.2.2.2.1 q.2.2.2.2.1 q.2.2.2.2.2 ∈ lw_tbl := by decide +kernel
theorem zNM_in : ∀ q ∈ zNM, Cond.methodLinkNest q.1 q.2.1 q.2.2.1 q.2.2.2 ∈ lw_tbl := by decide +kernel
theorem zNC_in : ∀ q ∈ zNC, Cond.castable q.1 q.2 ∈ lw_tbl := by decide +kernel
theorem zND_in : ∀ q ∈ zND, Cond.declares q ∈ lw_tbl := by decide +kernel
theorem zNS_in : Cond.stringRef RX14 142 "fun" ∈ lw_tbl := List.mem_of_getElem? (i := 1750) (by decide +kernel)
theorem zTU_in : Cond.laysStatic Bundle.tN "UNASSIGNED_STACK" "[Ljava/lang/StackTraceElement;" ∈ lw_tbl := List.mem_of_getElem? (i := 836) (by decide +kernel)
theorem zTS_in : Cond.laysStatic Bundle.tN "SUPPRESSED_SENTINEL" "Ljava/util/List;" ∈ lw_tbl := List.mem_of_getElem? (i := 838) (by decide +kernel)
theorem zTP_in : Cond.laysStatic "jdk/internal/util/Preconditions" "SIOOBE_FORMATTER" "Ljava/util/function/BiFunction;" ∈ lw_tbl := List.mem_of_getElem? (i := 744) (by decide +kernel)
theorem zTC_in : Cond.laysStatic "java/lang/String" "COMPACT_STRINGS" "Z" ∈ lw_tbl := List.mem_of_getElem? (i := 705) (by decide +kernel)
def zSt (i : Nat) : Term := .string (zSr.getD i ("", 0, "")).1 (zSr.getD i ("", 0, "")).2.1
theorem zSr_in : ∀ i, i < 8 → Cond.stringRef (zSr.getD i ("", 0, "")).1 (zSr.getD i ("", 0, "")).2.1 (zSr.getD i ("", 0, "")).2.2 ∈ lw_tbl := by decide +kernel
theorem zT_at {p : Program} {s : State} {m : MethodId} {meth : Method} {c : Code} {b L : Nat} {xs : Nat → Int32} (C0 : lw_At p s m meth c b L xs) {A : Nat → Prop} (hAn : ∀ a : Nat, a < s.heap.size → ¬ A a) : ∃ aK aV, zT aK aV A s s.heap := by
  obtain ⟨hx, hb, hr, hml, hown, hts, hX, hbl, hlocks, hgv⟩ := C0
  have hA : ∀ w ∈ zw, w.before #[Value.ref b] s = true := fun w h => hts w (List.mem_filter.mp h).1
  have hfl := flat_of_before _ hgv
  obtain ⟨aK, aV, hS, hE⟩ := vk_Sof (args := #[Value.ref b]) (s := s) (N := 8) (tm := zSt) (len := zSl) (byt := zSb) (A := A) (by decide) (fun i hi => hfl _ ((show ∀ i, i < 8 → Cond.exactly (zSt i) "java/lang/String" ∈ _ by decide +kernel) i hi)) (fun i hi => hfl _ ((show ∀ i, i < 8 → Cond.eq (.field (zSt i) "java/lang/String" "coder" "B") (.int 0) ∈ _ by decide +kernel) i hi)) (fun i hi => hfl _ ((show ∀ i, i < 8 → Cond.arrayOf (.field (zSt i) "java/lang/String" "value" "[B") .byte ∈ _ by decide +kernel) i hi)) (fun i hi => hfl _ ((show ∀ i, i < 8 → Cond.eq (.length (.field (zSt i) "java/lang/String" "value" "[B")) (.int (Int32.ofNat (zSl.getD i 0))) ∈ _ by decide +kernel) i hi)) (fun i hi j hj => hfl _ ((show ∀ i, i < 8 → ∀ j, j < zSl.getD i 0 → Cond.eq (.elem (.field (zSt i) "java/lang/String" "value" "[B") (.int (Int32.ofNat j))) (.int ((zSb.getD i []).getD j 0)) ∈ _ by decide +kernel) i hi j hj)) (fun i j hi hj hn => ((show ∀ i, i < 8 → ∀ j, j < 8 → i ≠ j → Cond.not (Cond.eq (zSt i) (zSt j)) ∈ flatC (Jvm.Cond.and given_1 narrow_1) ∨ Cond.not (Cond.eq (zSt j) (zSt i)) ∈ flatC (Jvm.Cond.and given_1 narrow_1) by decide +kernel) i hi j hj hn).imp (hfl _) (hfl _)) hAn
  exact ⟨aK, aV, vx_Zqof (hts _ zTU_in) (hA _ wi_144) (hfl _ (by decide +kernel)) hAn, vx_Zqof (hts _ zTS_in) (hA _ wi_144) (hfl _ (by decide +kernel)) hAn, va_Zof (hts _ zTC_in) (hA _ wi_149) (va_eqt (hfl _ (by decide +kernel))) hAn, hS, fun i hi => vk_R.of (hts _ (zSr_in i hi)) (hE i hi), vx_Zqof (hts _ zTP_in) (hA _ wi_152) (hfl _ (by decide +kernel)) hAn⟩
