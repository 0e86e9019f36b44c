/-- the tables' good words: each method's words are its code and these -/
def zw : List Cond := lw_tbl.filter goodWord
theorem zw_in {w : Cond} (h : w ∈ lw_tbl) (g : goodWord w = true) : w ∈ zw := List.mem_filter.mpr ⟨h, g⟩
theorem zw_ok {w : Cond} (h : w ∈ zw) : (w.onTables && w.keeps) = true ∨ ∃ ty, w = .arrayClass ty := good_of_word (List.mem_filter.mp h).2
theorem zw_good {c : Cond} (h : c ∈ zw) : GoodIn zw (c :: zw) := fun w hw => (List.mem_cons.mp hw).elim (fun e => by rw [e]; exact ⟨h, zw_ok h⟩) (fun hw => ⟨hw, zw_ok hw⟩)
theorem zw_1 {c : Cond} {r : List Cond} (h : c ∈ zw) (hr : GoodIn zw r) : GoodIn zw (c :: r) := fun w hw => (List.mem_cons.mp hw).elim (fun e => by rw [e]; exact ⟨h, zw_ok h⟩) (hr w)
theorem zw_V {own : String} {idx : Nat} {C : String} {y : MethodName} {ws : List Cond} (h1 : Cond.methodLink own idx y ∈ zw) (h2 : Cond.instanceMethod y ∈ zw) (h3 : Cond.selects C y y ∈ zw) (h4 : Cond.initialized C ∈ zw) (h : GoodIn zw ws) : GoodIn zw (wsV own idx C y ws) := zw_1 h1 (zw_1 h2 (zw_1 h3 (zw_1 h4 h)))
theorem zw_S {own : String} {idx : Nat} {y : MethodName} {ws : List Cond} (h1 : Cond.methodLink own idx y ∈ zw) (h2 : Cond.static y ∈ zw) (h3 : Cond.initialized y.cls ∈ zw) (h : GoodIn zw ws) : GoodIn zw (va_wsS own idx y ws) := zw_1 h1 (zw_1 h2 (zw_1 h3 h))
theorem zw_sub {ws : List Cond} (ps : List Nat) (hp : ws = ps.filterMap (fun i => lw_tbl[i]?)) (h : ws.all goodWord = true) : ∀ w ∈ ws, w ∈ zw := fun w hw => zw_in (by
  have hw' := hw
  rw [hp] at hw'
  obtain ⟨i, -, hi⟩ := List.mem_filterMap.mp hw'
  exact List.mem_of_getElem? hi) (List.all_eq_true.mp h w hw)
def zNF : List (String × Nat × String × String × String × String) := [("ReuseHouseModel", 108, "ReuseHouseModel$Stop", "kind", "I", "ReuseHouseModel"), ("ReuseHouseModel", 111, "ReuseHouseModel$Stop", "place", "I", "ReuseHouseModel"), ("ReuseHouseModel", 191, "ReuseHouseModel$Program", "parts", "I", "ReuseHouseModel"), ("ReuseHouseModel", 194, "ReuseHouseModel$Program", "what", "[B", "ReuseHouseModel"), ("ReuseHouseModel", 197, "ReuseHouseModel$Program", "place", "[I", "ReuseHouseModel"), ("ReuseHouseModel", 199, "ReuseHouseModel$Program", "own", "[I", "ReuseHouseModel"), ("ReuseHouseModel", 202, "ReuseHouseModel$Program", "one", "[I", "ReuseHouseModel"), ("ReuseHouseModel", 205, "ReuseHouseModel$Program", "two", "[I", "ReuseHouseModel"), ("ReuseHouseModel", 208, "ReuseHouseModel$Program", "three", "[I", "ReuseHouseModel"), ("ReuseHouseModel", 211, "ReuseHouseModel$Program", "beside", "[I", "ReuseHouseModel"), ("ReuseHouseModel", 214, "ReuseHouseModel$Program", "many", "[I", "ReuseHouseModel"), ("ReuseHouseModel", 217, "ReuseHouseModel$Program", "name", "[J", "ReuseHouseModel"), ("ReuseHouseModel", 227, "ReuseHouseModel$Program", "widest", "[I", "ReuseHouseModel"), ("ReuseHouseModel", 230, "ReuseHouseModel$Program", "functions", "I", "ReuseHouseModel"), ("ReuseHouseModel", 239, "ReuseHouseModel$Program", "kinds", "I", "ReuseHouseModel"), ("ReuseHouseModel", 242, "ReuseHouseModel$Program", "kindName", "[J", "ReuseHouseModel"), ("ReuseHouseModel", 245, "ReuseHouseModel$Program", "fields", "[I", "ReuseHouseModel"), ("ReuseHouseModel", 315, "ReuseHouseModel$Program", "functionName", "[J", "ReuseHouseModel"), ("ReuseHouseModel", 322, "ReuseHouseModel$Program", "first", "[I", "ReuseHouseModel"), ("ReuseHouseModel", 325, "ReuseHouseModel$Program", "told", "[I", "ReuseHouseModel"), ("ReuseHouseModel", 328, "ReuseHouseModel$Program", "body", "[I", "ReuseHouseModel"), ("ReuseHouseModel", 337, "ReuseHouseModel$Program", "uses", "[I", "ReuseHouseModel"), ("ReuseHouseModel", 340, "ReuseHouseModel$Program", "makes", "[B", "ReuseHouseModel"), ("ReuseHouseModel", 347, "ReuseHouseModel$Program", "behind", "[I", "ReuseHouseModel")]
def zNM : List (String × Nat × MethodName × String) := [("ReuseHouse$Cells", 58, yX4_init, "ReuseHouse"), ("ReuseHouse", 19, yX9_init, "ReuseHouse"), ("ReuseHouse", 26, yX7_init, "ReuseHouse"), ("ReuseHouse", 54, yX8_init, "ReuseHouse"), ("ReuseHouseModel", 22, yX12_init, "ReuseHouseModel"), ("ReuseHouse$Parser", 11, yX10_init, "ReuseHouse"), ("ReuseHouse$Parser", 20, yX6_init, "ReuseHouse"), ("ReuseHouse$Parser", 39, yX9_init, "ReuseHouse"), ("ReuseHouse$Program", 9, yX2_init, "ReuseHouse"), ("ReuseHouse$Program", 18, yX0_init, "ReuseHouse"), ("ReuseHouse$Program", 25, yX4_init, "ReuseHouse"), ("ReuseHouse$Program", 32, yX3_init, "ReuseHouse")]
def zNC : List (String × String) := [("java/lang/IllegalStateException", "java/lang/IllegalStateException"), ("java/util/NoSuchElementException", "java/util/NoSuchElementException"), ("ReuseHouseModel$Stop", "ReuseHouseModel$Stop")]
def zND : List MethodName := [⟨"java/lang/RuntimeException", "<init>", "()V"⟩, ⟨"java/lang/Exception", "<init>", "()V"⟩, ⟨"java/lang/Throwable", "<init>", "()V"⟩]
/-- the tables' words that a call doesn't hand on by itself: links between nest mates, casts, declarations -/
def zN (U : State) : Prop := (∀ q ∈ zNF, va_Nw (.fieldLinkNest q.1 q.2.1 q.2.2.1 q.2.2.2.1 q.2.2.2.2.1 q.2.2.2.2.2) U) ∧ (∀ q ∈ zNM, va_Nw (.methodLinkNest q.1 q.2.1 q.2.2.1 q.2.2.2) U) ∧ (∀ q ∈ zNC, va_Nw (.castable q.1 q.2) U) ∧ (∀ q ∈ zND, va_Nw (.declares q) U) ∧ ∃ sa, vk_R RX14 142 "fun" sa U
theorem zN.warm {s U : State} (hW : s.WarmedH U.vm) (h : zN s) : zN U := ⟨fun q hq => va_Nw.warmF hW (h.1 q hq), fun q hq => va_Nw.warmM hW (h.2.1 q hq), fun q hq => va_Nw.warmC hW (h.2.2.1 q hq), fun q hq => va_Nw.warmD hW (h.2.2.2.1 q hq), h.2.2.2.2.elim fun sa hs => ⟨sa, hs.warm hW⟩⟩
theorem zN.same {u U : State} (h : u.vm = U.vm) (hz : zN u) : zN U := ⟨fun q hq => va_Nw.same rfl h (hz.1 q hq), fun q hq => va_Nw.same rfl h (hz.2.1 q hq), fun q hq => va_Nw.same rfl h (hz.2.2.1 q hq), fun q hq => va_Nw.same rfl h (hz.2.2.2.1 q hq), hz.2.2.2.2.elim fun sa hs => ⟨sa, hs.same h.symm⟩⟩
/-- the String constants: how long, their bytes, where they are named -/
def zSl : List Nat := [13, 3, 2, 2, 4, 4, 5, 3]
def zSb : List (List Int32) := [[40, 41, 44, 61, 43, 45, 42, 60, 123, 125, 124, 59, 95], [108, 101, 116], [105, 110], [105, 102], [116, 104, 101, 110], [101, 108, 115, 101], [109, 97, 116, 99, 104], [102, 117, 110]]
def zSr : List (String × Nat × String) := [("ReuseHouse$Tokens", 89, "(),=+-*<{}|;_"), ("ReuseHouseModel", 126, "let"), ("ReuseHouseModel", 132, "in"), ("ReuseHouseModel", 134, "if"), ("ReuseHouseModel", 136, "then"), ("ReuseHouseModel", 138, "else"), ("ReuseHouseModel", 140, "match"), ("ReuseHouseModel", 142, "fun")]
theorem zSl_le (i : Nat) : zSl.getD i 0 ≤ 13 := by
  rcases Nat.lt_or_ge i 8 with h | h
  · exact (show ∀ i, i < 8 → zSl.getD i 0 ≤ 13 by decide) i h
  · have h9 : zSl[i]? = none := List.getElem?_eq_none (by show 8 ≤ i; exact h)
    simp [List.getD, h9]
def zS (aK aV : Nat → Nat) (A : Nat → Prop) (U : State) (H : Heap) : Prop := va_Z "java/lang/String" "COMPACT_STRINGS" "Z" (.int 1) A U H ∧ vk_S 8 zSl zSb aK aV A U H ∧ (∀ i, i < 8 → vk_R (zSr.getD i ("", 0, "")).1 (zSr.getD i ("", 0, "")).2.1 (zSr.getD i ("", 0, "")).2.2 (aK i) U) ∧ vx_Zq "jdk/internal/util/Preconditions" "SIOOBE_FORMATTER" "Ljava/util/function/BiFunction;" A U H
/-- Throwable's two statics and the Strings, outside A -/
def zT (aK aV : Nat → Nat) (A : Nat → Prop) (U : State) (H : Heap) : Prop := vx_Zq Bundle.tN "UNASSIGNED_STACK" Bundle.steD A U H ∧ vx_Zq Bundle.tN "SUPPRESSED_SENTINEL" Bundle.listD A U H ∧ zS aK aV A U H
theorem zT.pass {aK aV : Nat → Nat} {A B : Nat → Prop} {s U : State} {H : Heap} {locs : List Loc} (hW : s.WarmedH U.vm) (hT : zT aK aV A s s.heap) (hS : va_S A s.heap H locs) (hF : ∀ q, B q → A q) : zT aK aV B U H :=
  ⟨vx_Zq.moved hW.alike ((hT.1.kept hS.2.1).narrow hF), vx_Zq.moved hW.alike ((hT.2.1.kept hS.2.1).narrow hF), va_Z.moved hW.alike ((hT.2.2.1.kept hS.2.1).narrow hF), vk_S.moved hW.alike ((hT.2.2.2.1.kept hS.2.1).narrow hF), fun i hi => (hT.2.2.2.2.1 i hi).warm hW, vx_Zq.moved hW.alike ((hT.2.2.2.2.2.kept hS.2.1).narrow hF)⟩
theorem zT.same {aK aV : Nat → Nat} {A : Nat → Prop} {u U : State} {H : Heap} (hv : u.vm = U.vm) (ha : u.vm.Alike U.vm) (hT : zT aK aV A u H) : zT aK aV A U H :=
  ⟨vx_Zq.moved ha hT.1, vx_Zq.moved ha hT.2.1, va_Z.moved ha hT.2.2.1, vk_S.moved ha hT.2.2.2.1, fun i hi => (hT.2.2.2.2.1 i hi).same hv.symm, vx_Zq.moved ha hT.2.2.2.2.2⟩
/-- a method's start: the world ws in a heap of sz cells -/
def zP (dC : Nat → ClassId) (dI : Nat → Nat → Nat) (aK aV : Nat → Nat) (sz : Nat) (tys : List (ClassId × FieldType)) (ws : va_W) (U : State) : Prop := U.heap.size = sz ∧ va_P (dC, dI) vwCl ws U.heap ∧ va_K (dC, dI) vwCl tys U ∧ va_D (fun _ => True) ws ∧ zN U ∧ zT aK aV (va_A ws sz) U U.heap
/-- a method's end: the world ws, within A -/
def zQ (dC : Nat → ClassId) (dI : Nat → Nat → Nat) (A : Nat → Prop) (tys : List (ClassId × FieldType)) (ws : va_W) (t : State) : Prop := va_P (dC, dI) vwCl ws t.heap ∧ va_K (dC, dI) vwCl tys t ∧ va_D A ws
theorem zP_blind {av : List Value} {dC : Nat → ClassId} {dI : Nat → Nat → Nat} {aK aV : Nat → Nat} {sz : Nat} {tys : List (ClassId × FieldType)} {ws : va_W} : FrameBlind (va_Pc av (zP dC dI aK aV sz tys ws)) := fun a U g mk q => by
  obtain ⟨q0, q1, qP, qK, qD, qN, qT⟩ := q
  exact ⟨q0, q1, qP, va_K.moved (u := U) (U := U.calling g mk a) (Vm.Alike.refl U.vm) qK, qD, zN.same (u := U) (U := U.calling g mk a) rfl qN, zT.same (u := U) (U := U.calling g mk a) rfl (Vm.Alike.refl U.vm) qT⟩
theorem zz_pre {av : List Value} {dC : Nat → ClassId} {dI : Nat → Nat → Nat} {aK aV : Nat → Nat} {A : Nat → Prop} {H : Heap} {locs : List Loc} {tys : List (ClassId × FieldType)} {wc : va_W} {s : State} (hK : va_K (dC, dI) vwCl tys s) (hP : va_P (dC, dI) vwCl wc H) (hD : va_D A wc) (hN : zN s) (hT : zT aK aV A s s.heap) (hS : va_S A s.heap H locs) (hF : ∀ q, va_A wc H.size q → A q) :
    ∀ U : State, U.heap = H → s.WarmedH U.vm → va_Pc av (zP dC dI aK aV H.size tys wc) av.toArray U := fun U hU hW =>
  ⟨rfl, by rw [hU], by rw [hU]; exact hP, va_K.moved hW.alike hK, hD.weaken (fun _ _ _ _ => trivial), hN.warm hW, by
    rw [hU]
    exact zT.pass hW hT hS hF⟩
theorem zin_X0 : ∀ w ∈ u_ws RX0 TX0 7, w ∈ zw := zw_sub [249, 251, 253, 255, 257, 259, 261] (by decide +kernel) (by decide +kernel)
theorem zd_X0 : ∀ j, j < 7 → defaultValue (tyX0 j) = vp_V [.null, .null, .null, .null, .null, .null, .int 0] j := by decide +kernel
theorem zin_X1 : ∀ w ∈ u_ws RX1 TX1 13, w ∈ zw := zw_sub [457, 459, 461, 463, 465, 467, 469, 471, 473, 475, 477, 479, 481] (by decide +kernel) (by decide +kernel)
theorem zd_X1 : ∀ j, j < 13 → defaultValue (tyX1 j) = vp_V [.null, .null, .null, .null, .int 0, .int 0, .int 0, .int 0, .int 0, .int 0, .int 0, .int 0, .int 0] j := by decide +kernel
theorem zin_X2 : ∀ w ∈ u_ws RX2 TX2 8, w ∈ zw := zw_sub [202, 204, 206, 208, 210, 212, 214, 216] (by decide +kernel) (by decide +kernel)
theorem zd_X2 : ∀ j, j < 8 → defaultValue (tyX2 j) = vp_V [.null, .null, .null, .null, .null, .null, .int 0, .int 0] j := by decide +kernel
theorem zin_X3 : ∀ w ∈ u_ws RX3 TX3 4, w ∈ zw := zw_sub [299, 301, 303, 305] (by decide +kernel) (by decide +kernel)
theorem zd_X3 : ∀ j, j < 4 → defaultValue (tyX3 j) = vp_V [.null, .null, .null, .int 0] j := by decide +kernel
theorem zin_X4 : ∀ w ∈ u_ws RX4 TX4 3, w ∈ zw := zw_sub [276, 278, 280] (by decide +kernel) (by decide +kernel)
theorem zd_X4 : ∀ j, j < 3 → defaultValue (tyX4 j) = vp_V [.null, .null, .int 0] j := by decide +kernel
theorem zin_X5 : ∀ w ∈ u_ws RX5 TX5 20, w ∈ zw := zw_sub [509, 511, 513, 515, 517, 519, 521, 523, 525, 527, 529, 531, 533, 535, 537, 539, 541, 543, 545, 547] (by decide +kernel) (by decide +kernel)
theorem zd_X5 : ∀ j, j < 20 → defaultValue (tyX5 j) = vp_V [.null, .null, .null, .int 0, .null, .int 0, .int 0, .null, .null, .null, .int 0, .null, .int 0, .int 0, .int 0, .int 0, .int 0, .int 0, .int 0, .long 0] j := by decide +kernel
theorem zin_X6 : ∀ w ∈ u_ws RX6 TX6 1, w ∈ zw := zw_sub [382] (by decide +kernel) (by decide +kernel)
theorem zd_X6 : ∀ j, j < 1 → defaultValue (tyX6 j) = vp_V [.null] j := by decide +kernel
theorem zin_X7 : ∀ w ∈ u_ws RX7 TX7 9, w ∈ zw := zw_sub [399, 401, 403, 405, 407, 409, 411, 413, 415] (by decide +kernel) (by decide +kernel)
theorem zd_X7 : ∀ j, j < 9 → defaultValue (tyX7 j) = vp_V [.null, .null, .null, .int 0, .null, .null, .int 0, .int 0, .int 0] j := by decide +kernel
theorem zin_X8 : ∀ w ∈ u_ws RX8 TX8 8, w ∈ zw := zw_sub [567, 569, 571, 573, 575, 577, 579, 581] (by decide +kernel) (by decide +kernel)
theorem zd_X8 : ∀ j, j < 8 → defaultValue (tyX8 j) = vp_V [.null, .int 0, .null, .int 0, .int 0, .null, .null, .int 0] j := by decide +kernel
theorem zin_X9 : ∀ w ∈ u_ws RX9 TX9 4, w ∈ zw := zw_sub [325, 327, 329, 331] (by decide +kernel) (by decide +kernel)
theorem zd_X9 : ∀ j, j < 4 → defaultValue (tyX9 j) = vp_V [.null, .null, .null, .null] j := by decide +kernel
theorem zin_X10 : ∀ w ∈ u_ws RX10 TX10 8, w ∈ zw := zw_sub [358, 360, 362, 364, 366, 368, 370, 372] (by decide +kernel) (by decide +kernel)
theorem zd_X10 : ∀ j, j < 8 → defaultValue (tyX10 j) = vp_V [.null, .null, .null, .int 0, .int 0, .int 0, .int 0, .long 0] j := by decide +kernel
theorem zin_X11 : ∀ w ∈ u_ws RX11 TX11 17, w ∈ zw := zw_sub [601, 603, 605, 607, 609, 611, 613, 615, 617, 619, 621, 623, 625, 627, 629, 631, 633] (by decide +kernel) (by decide +kernel)
theorem zd_X11 : ∀ j, j < 17 → defaultValue (tyX11 j) = vp_V [.null, .int 0, .null, .null, .null, .null, .null, .null, .int 0, .int 0, .int 0, .int 0, .int 0, .int 0, .long 0, .int 0, .long 0] j := by decide +kernel
theorem zin_X12 : ∀ w ∈ u_ws RX12 TX12 22, w ∈ zw := zw_sub [1452, 1454, 1456, 1458, 1460, 1462, 1464, 1466, 1468, 1470, 1472, 1474, 1476, 1478, 1480, 1482, 1484, 1486, 1488, 1490, 1492, 1494] (by decide +kernel) (by decide +kernel)
theorem zd_X12 : ∀ j, j < 22 → defaultValue (tyX12 j) = vp_V [.null, .null, .null, .null, .null, .null, .null, .null, .null, .null, .null, .null, .int 0, .null, .null, .null, .null, .null, .null, .null, .int 0, .int 0] j := by decide +kernel
theorem zin_X13 : ∀ w ∈ u_ws RX13 TX13 8, w ∈ zw := zw_sub [1380, 1381, 1382, 1383, 1384, 1403, 1399, 1401] (by decide +kernel) (by decide +kernel)
theorem zd_X13 : ∀ j, j < 8 → defaultValue (tyX13 j) = vp_V [.null, .null, .null, .null, .null, .int 0, .int 0, .int 0] j := by decide +kernel
theorem zin_X14 : ∀ w ∈ u_ws RX14 TX14 63, w ∈ zw := zw_sub [1560, 1562, 1564, 1566, 1568, 1570, 1572, 1574, 1576, 1578, 1580, 1582, 1584, 1586, 1588, 1590, 1592, 1594, 1596, 1598, 1600, 1602, 1604, 1606, 1608, 1610, 1612, 1614, 1616, 1618, 1620, 1622, 1624, 1626, 1628, 1630, 1632, 1634, 1636, 1638, 1640, 1642, 1644, 1646, 1648, 1650, 1652, 1654, 1656, 1658, 1660, 1662, 1664, 1666, 1668, 1670, 1672, 1674, 1676, 1678, 1680, 1682, 1684] (by decide +kernel) (by decide +kernel)
theorem zd_X14 : ∀ j, j < 63 → defaultValue (tyX14 j) = vp_V [.int 0, .null, .null, .int 0, .int 0, .int 0, .int 0, .int 0, .int 0, .long 0, .null, .null, .int 0, .null, .int 0, .int 0, .int 0, .int 0, .int 0, .null, .null, .null, .null, .null, .int 0, .int 0, .int 0, .null, .null, .int 0, .int 0, .int 0, .int 0, .long 0, .long 0, .int 0, .int 0, .int 0, .int 0, .int 0, .int 0, .int 0, .null, .null, .null, .int 0, .int 0, .int 0, .null, .null, .null, .null, .null, .int 0, .null, .null, .null, .null, .null, .null, .int 0, .int 0, .null] j := by decide +kernel
