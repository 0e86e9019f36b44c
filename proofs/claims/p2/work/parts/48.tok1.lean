/-- the tape's numbers are bytes -/
def zb (g : Nat → Int32) : Prop := ∀ j : Nat, -128 ≤ (g j).toInt ∧ (g j).toInt ≤ 127
theorem zand_all : ∀ k : Fin 256, (Int32.ofInt ((k.val : Int) - 128) &&& 255).toInt = if 0 ≤ (k.val : Int) - 128 then (k.val : Int) - 128 else (k.val : Int) - 128 + 256 := by decide +kernel
theorem zand255 {v x : Int32} (e : v = x &&& 255) (h1 : -128 ≤ x.toInt) (h2 : x.toInt ≤ 127) : v.toInt = x.toInt ∧ 0 ≤ x.toInt ∨ v.toInt = x.toInt + 256 ∧ x.toInt < 0 := by
  have hx : Int32.ofInt x.toInt = x := Int32.ofInt_toInt x
  have h := zand_all ⟨(x.toInt + 128).toNat, by omega⟩
  have e2 : (((⟨(x.toInt + 128).toNat, by omega⟩ : Fin 256).val : Nat) : Int) - 128 = x.toInt := by
    show (((x.toInt + 128).toNat : Nat) : Int) - 128 = x.toInt
    omega
  rw [e2, hx, ← e] at h
  by_cases g : 0 ≤ x.toInt
  · rw [if_pos g] at h; exact Or.inl ⟨h, g⟩
  · rw [if_neg g] at h; exact Or.inr ⟨h, by omega⟩
theorem zb_nar (x : Int32) : -128 ≤ (vp_nar .byte x).toInt ∧ (vp_nar .byte x).toInt ≤ 127 := by
  show -128 ≤ (Int32.toInt8 x).toInt32.toInt ∧ (Int32.toInt8 x).toInt32.toInt ≤ 127
  rw [Int8.toInt_toInt32]
  exact ⟨Int8.le_toInt _, Int8.toInt_le _⟩
theorem zb_upd {g g2 : Nat → Int32} {k : Nat} {x : Int32} (h : zb g) (e : g2 = upd g k (vp_nar .byte x)) : zb g2 := fun j => by
  rw [e]
  by_cases u : j = k
  · rw [u, zu_s]; exact zb_nar x
  · rw [zu_n u]; exact h j
/-- the tokens so far, and where the next one may begin -/
def zpr (gs gp : Nat → Int32) (z fr : Int) : Prop := (∀ i : Nat, (i : Int) + 1 < z → (gp i).toInt + 1 ≤ (gp (i + 1)).toInt ∧ (gs i = 261 → (gp i).toInt + 2 ≤ (gp (i + 1)).toInt)) ∧ (∀ i : Nat, (i : Int) + 1 = z → (gp i).toInt + 1 ≤ fr ∧ (gs i = 261 → (gp i).toInt + 2 ≤ fr)) ∧ (0 < z → 0 ≤ (gp 0).toInt)
theorem zpr_0 {gs gp : Nat → Int32} {z fr : Int} (h : z = 0) : zpr gs gp z fr := ⟨fun i hi => by omega, fun i hi => by omega, fun hi => by omega⟩
theorem zpr_up {gs gp : Nat → Int32} {z fr fr2 : Int} (h : zpr gs gp z fr) (hf : fr ≤ fr2) : zpr gs gp z fr2 := ⟨h.1, fun i hi => ⟨by have := (h.2.1 i hi).1; omega, fun g => by have := (h.2.1 i hi).2 g; omega⟩, h.2.2⟩
theorem zpr_st {gs gp gs2 gp2 : Nat → Int32} {zz f32 v : Int32} {z2 r : Int} (h : zpr gs gp zz.toInt f32.toInt) (hz : 0 ≤ zz.toInt) (hf : 0 ≤ f32.toInt) (e1 : gp2 = upd gp (Int32.toNatClampNeg zz) f32) (e2 : gs2 = upd gs (Int32.toNatClampNeg zz) v) (hr : f32.toInt < r) (hv : v.toInt = 261 → f32.toInt + 2 ≤ r) (ez : z2 = zz.toInt + 1) : zpr gs2 gp2 z2 r := by
  have hn := zn_nat hz
  subst ez
  refine ⟨fun i hi => ?_, fun i hi => ?_, fun _ => ?_⟩
  · have n1 : i ≠ Int32.toNatClampNeg zz := by omega
    rw [e1, e2, zu_n n1, zu_n n1]
    by_cases u : i + 1 = Int32.toNatClampNeg zz
    · rw [u, zu_s]
      exact h.2.1 i (by omega)
    · rw [zu_n u]
      exact h.1 i (by omega)
  · have e : i = Int32.toNatClampNeg zz := by omega
    rw [e, e1, e2, zu_s, zu_s]
    exact ⟨by omega, fun g => hv (by rw [g]; decide)⟩
  · rw [e1]
    by_cases u : 0 = Int32.toNatClampNeg zz
    · rw [u, zu_s]; exact hf
    · rw [zu_n u]; exact h.2.2 (by omega)
theorem zpl_end {gs gp gs2 gp2 : Nat → Int32} {zz en : Int32} {fr : Int} (h : zpr gs gp zz.toInt fr) (hz : 0 ≤ zz.toInt) (h0 : 0 ≤ en.toInt) (h1 : fr ≤ en.toInt) (h2 : en.toInt ≤ 2000) (e2 : gs2 = upd gs (Int32.toNatClampNeg zz) 256) (e1 : gp2 = upd gp (Int32.toNatClampNeg zz) en) : zpl gs2 gp2 zz := by
  have hn := zn_nat hz
  refine ⟨fun i hi => ?_, ?_, by rw [e1, zu_s]; exact h2, by rw [e2, zu_s]⟩
  · have n1 : i ≠ Int32.toNatClampNeg zz := by omega
    rw [e1, e2, zu_n n1, zu_n n1]
    by_cases u : i + 1 = Int32.toNatClampNeg zz
    · rw [u, zu_s]
      have := h.2.1 i (by omega)
      exact ⟨by omega, fun g => by have := this.2 g; omega⟩
    · rw [zu_n u]
      exact h.1 i (by omega)
  · rw [e1]
    by_cases u : 0 = Int32.toNatClampNeg zz
    · rw [u, zu_s]; exact h0
    · rw [zu_n u]; exact h.2.2 (by omega)

set_option maxHeartbeats 4000000 in
set_option maxRecDepth 100000 in
theorem c_X10_isSmall_x (l : Launch) (dC : Nat → ClassId) (dI : Nat → Nat → Nat) (aK aV : Nat → Nat) (ch : Int32) (sz : Nat)  : Met l yX10_isSmall (Cond.code yX10_isSmall cX10_isSmall 1 (some .boolean) :: zw) ({ frames := 8, cells := 0, slots := 0, locals := 200 }) (va_Pc [.int ch] (zP dC dI aK aV sz [] [])) (va_Qi (fun (r : Int32) (u : Unit) => (r.toInt = 1 ∧ 97 ≤ ch.toInt ∧ ch.toInt ≤ 122 ∨ r.toInt = 0 ∧ (ch.toInt < 97 ∨ 122 < ch.toInt))) (fun u => zQ dC dI (va_A [] sz) [] []) (va_A [] sz)) 0 0 (va_A [] sz) := by
  refine Met.ofW (cc := cX10_isSmall) (maxL := 1) (ret := (some .boolean)) (by decide) rfl ?_
  intro p e s m args below meth c s₁ B hml hv
  obtain ⟨rfl, hsz, hP, hK, hD0, hN, hT⟩ := hv
  have hx := B.exec
  have hb := B.bytes
  have hr := B.returns
  have hts := atoms_spec (ws := Cond.code yX10_isSmall cX10_isSmall 1 (some .boolean) :: zw) B.pre
  have hA : ∀ w ∈ zw, w.before _ s = true := fun w h => hts w (List.mem_cons_of_mem _ h)
  have hown : s.vm.findClass RX10 = some m.cls := findClass_of_methodNamed B.named
  have hlocks := B.notSynchronized
  subst hsz
  have hD := hD0.self (sz := s.heap.size)
  generalize hAe : va_A [] s.heap.size = A at hD hT ⊢
  have hAA : ∀ q : Nat, s.heap.size ≤ q → A q := fun q h => by rw [← hAe]; exact Or.inr h
  have hS : va_S A s.heap s.heap [] := va_S.rf
  have hl := lv_entry ([.int ch]) (n := 1) (Nat.le_of_ble_eq_true rfl)
  rw [lg_entry_eq]
  generalize (lg_sl ([.int ch]) ++ List.replicate (1 - (lg_sl ([.int ch])).length) Slot.unset).toArray = ls at hl ⊢
  have hl : lv_has ls 1 [(0, .int ch)] := hl
  refine lv_iload_n hx hb dX10_isSmall_0 rfl (lv_at hl 0 rfl) ?_
  refine lv_bipush (v := 97) hx hb dX10_isSmall_1 (by decide) ?_
  refine lv_icmp_lt (tgt := 16) hx hb dX10_isSmall_3 (by decide) (fun c_1 => ?_) (fun c_1 => ?_)
  · have ic_1 : ch.toInt < 97 := zi_lt c_1
    refine lv_iconst (v := 0) hx hb dX10_isSmall_16 (by decide) ?_
    have hlit : Int32.toInt 0 = 0 := by decide
    have hP9 := hP.sub (ws' := []) [] rfl
    have hD9 := hD.sub (ws' := []) [] (by decide) rfl
    have hK9 := hK.sub (tys' := []) [] rfl
    exact W.zret (v := 0) hx hb hr rfl (fun t ht hW => ⟨⟨0, (), rfl, by omega, by rw [ht]; exact hP9, va_K.moved hW.alike hK9, hD9⟩, hS.F ht⟩) hS.2.2 dX10_isSmall_17
  · have ic_1 : 97 ≤ ch.toInt := zi_nlt c_1
    refine lv_iload_n hx hb dX10_isSmall_6 rfl (lv_at hl 0 rfl) ?_
    refine lv_bipush (v := 122) hx hb dX10_isSmall_7 (by decide) ?_
    refine lv_icmp_gt (tgt := 16) hx hb dX10_isSmall_9 (by decide) (fun c_2 => ?_) (fun c_2 => ?_)
    · have ic_2 : 122 < ch.toInt := zi_lt c_2
      refine lv_iconst (v := 0) hx hb dX10_isSmall_16 (by decide) ?_
      have hlit : Int32.toInt 0 = 0 := by decide
      have hP9 := hP.sub (ws' := []) [] rfl
      have hD9 := hD.sub (ws' := []) [] (by decide) rfl
      have hK9 := hK.sub (tys' := []) [] rfl
      exact W.zret (v := 0) hx hb hr rfl (fun t ht hW => ⟨⟨0, (), rfl, by omega, by rw [ht]; exact hP9, va_K.moved hW.alike hK9, hD9⟩, hS.F ht⟩) hS.2.2 dX10_isSmall_17
    · have ic_2 : ch.toInt ≤ 122 := zi_nlt c_2
      refine lv_iconst (v := 1) hx hb dX10_isSmall_12 (by decide) ?_
      refine lv_goto (tgt := 17) hx hb dX10_isSmall_13 (by decide) ?_
      have hlit : Int32.toInt 1 = 1 := by decide
      have hP9 := hP.sub (ws' := []) [] rfl
      have hD9 := hD.sub (ws' := []) [] (by decide) rfl
      have hK9 := hK.sub (tys' := []) [] rfl
      exact W.zret (v := 1) hx hb hr rfl (fun t ht hW => ⟨⟨1, (), rfl, by omega, by rw [ht]; exact hP9, va_K.moved hW.alike hK9, hD9⟩, hS.F ht⟩) hS.2.2 dX10_isSmall_17
set_option maxHeartbeats 4000000 in
set_option maxRecDepth 100000 in
theorem c_X10_isGreat_x (l : Launch) (dC : Nat → ClassId) (dI : Nat → Nat → Nat) (aK aV : Nat → Nat) (ch : Int32) (sz : Nat)  : Met l yX10_isGreat (Cond.code yX10_isGreat cX10_isGreat 1 (some .boolean) :: zw) ({ frames := 8, cells := 0, slots := 0, locals := 200 }) (va_Pc [.int ch] (zP dC dI aK aV sz [] [])) (va_Qi (fun (r : Int32) (u : Unit) => (r.toInt = 1 ∧ 65 ≤ ch.toInt ∧ ch.toInt ≤ 90 ∨ r.toInt = 0 ∧ (ch.toInt < 65 ∨ 90 < ch.toInt))) (fun u => zQ dC dI (va_A [] sz) [] []) (va_A [] sz)) 0 0 (va_A [] sz) := by
  refine Met.ofW (cc := cX10_isGreat) (maxL := 1) (ret := (some .boolean)) (by decide) rfl ?_
  intro p e s m args below meth c s₁ B hml hv
  obtain ⟨rfl, hsz, hP, hK, hD0, hN, hT⟩ := hv
  have hx := B.exec
  have hb := B.bytes
  have hr := B.returns
  have hts := atoms_spec (ws := Cond.code yX10_isGreat cX10_isGreat 1 (some .boolean) :: zw) B.pre
  have hA : ∀ w ∈ zw, w.before _ s = true := fun w h => hts w (List.mem_cons_of_mem _ h)
  have hown : s.vm.findClass RX10 = some m.cls := findClass_of_methodNamed B.named
  have hlocks := B.notSynchronized
  subst hsz
  have hD := hD0.self (sz := s.heap.size)
  generalize hAe : va_A [] s.heap.size = A at hD hT ⊢
  have hAA : ∀ q : Nat, s.heap.size ≤ q → A q := fun q h => by rw [← hAe]; exact Or.inr h
  have hS : va_S A s.heap s.heap [] := va_S.rf
  have hl := lv_entry ([.int ch]) (n := 1) (Nat.le_of_ble_eq_true rfl)
  rw [lg_entry_eq]
  generalize (lg_sl ([.int ch]) ++ List.replicate (1 - (lg_sl ([.int ch])).length) Slot.unset).toArray = ls at hl ⊢
  have hl : lv_has ls 1 [(0, .int ch)] := hl
  refine lv_iload_n hx hb dX10_isGreat_0 rfl (lv_at hl 0 rfl) ?_
  refine lv_bipush (v := 65) hx hb dX10_isGreat_1 (by decide) ?_
  refine lv_icmp_lt (tgt := 16) hx hb dX10_isGreat_3 (by decide) (fun c_1 => ?_) (fun c_1 => ?_)
  · have ic_1 : ch.toInt < 65 := zi_lt c_1
    refine lv_iconst (v := 0) hx hb dX10_isGreat_16 (by decide) ?_
    have hlit : Int32.toInt 0 = 0 := by decide
    have hP9 := hP.sub (ws' := []) [] rfl
    have hD9 := hD.sub (ws' := []) [] (by decide) rfl
    have hK9 := hK.sub (tys' := []) [] rfl
    exact W.zret (v := 0) hx hb hr rfl (fun t ht hW => ⟨⟨0, (), rfl, by omega, by rw [ht]; exact hP9, va_K.moved hW.alike hK9, hD9⟩, hS.F ht⟩) hS.2.2 dX10_isGreat_17
  · have ic_1 : 65 ≤ ch.toInt := zi_nlt c_1
    refine lv_iload_n hx hb dX10_isGreat_6 rfl (lv_at hl 0 rfl) ?_
    refine lv_bipush (v := 90) hx hb dX10_isGreat_7 (by decide) ?_
    refine lv_icmp_gt (tgt := 16) hx hb dX10_isGreat_9 (by decide) (fun c_2 => ?_) (fun c_2 => ?_)
    · have ic_2 : 90 < ch.toInt := zi_lt c_2
      refine lv_iconst (v := 0) hx hb dX10_isGreat_16 (by decide) ?_
      have hlit : Int32.toInt 0 = 0 := by decide
      have hP9 := hP.sub (ws' := []) [] rfl
      have hD9 := hD.sub (ws' := []) [] (by decide) rfl
      have hK9 := hK.sub (tys' := []) [] rfl
      exact W.zret (v := 0) hx hb hr rfl (fun t ht hW => ⟨⟨0, (), rfl, by omega, by rw [ht]; exact hP9, va_K.moved hW.alike hK9, hD9⟩, hS.F ht⟩) hS.2.2 dX10_isGreat_17
    · have ic_2 : ch.toInt ≤ 90 := zi_nlt c_2
      refine lv_iconst (v := 1) hx hb dX10_isGreat_12 (by decide) ?_
      refine lv_goto (tgt := 17) hx hb dX10_isGreat_13 (by decide) ?_
      have hlit : Int32.toInt 1 = 1 := by decide
      have hP9 := hP.sub (ws' := []) [] rfl
      have hD9 := hD.sub (ws' := []) [] (by decide) rfl
      have hK9 := hK.sub (tys' := []) [] rfl
      exact W.zret (v := 1) hx hb hr rfl (fun t ht hW => ⟨⟨1, (), rfl, by omega, by rw [ht]; exact hP9, va_K.moved hW.alike hK9, hD9⟩, hS.F ht⟩) hS.2.2 dX10_isGreat_17
set_option maxHeartbeats 4000000 in
set_option maxRecDepth 100000 in
theorem c_X10_isDigit_x (l : Launch) (dC : Nat → ClassId) (dI : Nat → Nat → Nat) (aK aV : Nat → Nat) (ch : Int32) (sz : Nat)  : Met l yX10_isDigit (Cond.code yX10_isDigit cX10_isDigit 1 (some .boolean) :: zw) ({ frames := 8, cells := 0, slots := 0, locals := 200 }) (va_Pc [.int ch] (zP dC dI aK aV sz [] [])) (va_Qi (fun (r : Int32) (u : Unit) => (r.toInt = 1 ∧ 48 ≤ ch.toInt ∧ ch.toInt ≤ 57 ∨ r.toInt = 0 ∧ (ch.toInt < 48 ∨ 57 < ch.toInt))) (fun u => zQ dC dI (va_A [] sz) [] []) (va_A [] sz)) 0 0 (va_A [] sz) := by
  refine Met.ofW (cc := cX10_isDigit) (maxL := 1) (ret := (some .boolean)) (by decide) rfl ?_
  intro p e s m args below meth c s₁ B hml hv
  obtain ⟨rfl, hsz, hP, hK, hD0, hN, hT⟩ := hv
  have hx := B.exec
  have hb := B.bytes
  have hr := B.returns
  have hts := atoms_spec (ws := Cond.code yX10_isDigit cX10_isDigit 1 (some .boolean) :: zw) B.pre
  have hA : ∀ w ∈ zw, w.before _ s = true := fun w h => hts w (List.mem_cons_of_mem _ h)
  have hown : s.vm.findClass RX10 = some m.cls := findClass_of_methodNamed B.named
  have hlocks := B.notSynchronized
  subst hsz
  have hD := hD0.self (sz := s.heap.size)
  generalize hAe : va_A [] s.heap.size = A at hD hT ⊢
  have hAA : ∀ q : Nat, s.heap.size ≤ q → A q := fun q h => by rw [← hAe]; exact Or.inr h
  have hS : va_S A s.heap s.heap [] := va_S.rf
  have hl := lv_entry ([.int ch]) (n := 1) (Nat.le_of_ble_eq_true rfl)
  rw [lg_entry_eq]
  generalize (lg_sl ([.int ch]) ++ List.replicate (1 - (lg_sl ([.int ch])).length) Slot.unset).toArray = ls at hl ⊢
  have hl : lv_has ls 1 [(0, .int ch)] := hl
  refine lv_iload_n hx hb dX10_isDigit_0 rfl (lv_at hl 0 rfl) ?_
  refine lv_bipush (v := 48) hx hb dX10_isDigit_1 (by decide) ?_
  refine lv_icmp_lt (tgt := 16) hx hb dX10_isDigit_3 (by decide) (fun c_1 => ?_) (fun c_1 => ?_)
  · have ic_1 : ch.toInt < 48 := zi_lt c_1
    refine lv_iconst (v := 0) hx hb dX10_isDigit_16 (by decide) ?_
    have hlit : Int32.toInt 0 = 0 := by decide
    have hP9 := hP.sub (ws' := []) [] rfl
    have hD9 := hD.sub (ws' := []) [] (by decide) rfl
    have hK9 := hK.sub (tys' := []) [] rfl
    exact W.zret (v := 0) hx hb hr rfl (fun t ht hW => ⟨⟨0, (), rfl, by omega, by rw [ht]; exact hP9, va_K.moved hW.alike hK9, hD9⟩, hS.F ht⟩) hS.2.2 dX10_isDigit_17
  · have ic_1 : 48 ≤ ch.toInt := zi_nlt c_1
    refine lv_iload_n hx hb dX10_isDigit_6 rfl (lv_at hl 0 rfl) ?_
    refine lv_bipush (v := 57) hx hb dX10_isDigit_7 (by decide) ?_
    refine lv_icmp_gt (tgt := 16) hx hb dX10_isDigit_9 (by decide) (fun c_2 => ?_) (fun c_2 => ?_)
    · have ic_2 : 57 < ch.toInt := zi_lt c_2
      refine lv_iconst (v := 0) hx hb dX10_isDigit_16 (by decide) ?_
      have hlit : Int32.toInt 0 = 0 := by decide
      have hP9 := hP.sub (ws' := []) [] rfl
      have hD9 := hD.sub (ws' := []) [] (by decide) rfl
      have hK9 := hK.sub (tys' := []) [] rfl
      exact W.zret (v := 0) hx hb hr rfl (fun t ht hW => ⟨⟨0, (), rfl, by omega, by rw [ht]; exact hP9, va_K.moved hW.alike hK9, hD9⟩, hS.F ht⟩) hS.2.2 dX10_isDigit_17
    · have ic_2 : ch.toInt ≤ 57 := zi_nlt c_2
      refine lv_iconst (v := 1) hx hb dX10_isDigit_12 (by decide) ?_
      refine lv_goto (tgt := 17) hx hb dX10_isDigit_13 (by decide) ?_
      have hlit : Int32.toInt 1 = 1 := by decide
      have hP9 := hP.sub (ws' := []) [] rfl
      have hD9 := hD.sub (ws' := []) [] (by decide) rfl
      have hK9 := hK.sub (tys' := []) [] rfl
      exact W.zret (v := 1) hx hb hr rfl (fun t ht hW => ⟨⟨1, (), rfl, by omega, by rw [ht]; exact hP9, va_K.moved hW.alike hK9, hD9⟩, hS.F ht⟩) hS.2.2 dX10_isDigit_17
set_option maxHeartbeats 4000000 in
set_option maxRecDepth 100000 in
theorem c_X10_isWordByte_x (l : Launch) (dC : Nat → ClassId) (dI : Nat → Nat → Nat) (aK aV : Nat → Nat) (ch : Int32) (sz : Nat)  : Met l yX10_isWordByte (Cond.code yX10_isWordByte cX10_isWordByte 1 (some .boolean) :: zw) ({ frames := 10, cells := 0, slots := 0, locals := 300 }) (va_Pc [.int ch] (zP dC dI aK aV sz [] [])) (va_Qi (fun (r : Int32) (u : Unit) => (r.toInt = 1 ∧ (97 ≤ ch.toInt ∧ ch.toInt ≤ 122 ∨ 65 ≤ ch.toInt ∧ ch.toInt ≤ 90 ∨ 48 ≤ ch.toInt ∧ ch.toInt ≤ 57) ∨ r.toInt = 0 ∧ ¬ (97 ≤ ch.toInt ∧ ch.toInt ≤ 122 ∨ 65 ≤ ch.toInt ∧ ch.toInt ≤ 90 ∨ 48 ≤ ch.toInt ∧ ch.toInt ≤ 57))) (fun u => zQ dC dI (va_A [] sz) [] []) (va_A [] sz)) 0 0 (va_A [] sz) := by
  refine Met.ofW (cc := cX10_isWordByte) (maxL := 1) (ret := (some .boolean)) (by decide) rfl ?_
  intro p e s m args below meth c s₁ B hml hv
  obtain ⟨rfl, hsz, hP, hK, hD0, hN, hT⟩ := hv
  have hx := B.exec
  have hb := B.bytes
  have hr := B.returns
  have hts := atoms_spec (ws := Cond.code yX10_isWordByte cX10_isWordByte 1 (some .boolean) :: zw) B.pre
  have hA : ∀ w ∈ zw, w.before _ s = true := fun w h => hts w (List.mem_cons_of_mem _ h)
  have hown : s.vm.findClass RX10 = some m.cls := findClass_of_methodNamed B.named
  have hlocks := B.notSynchronized
  subst hsz
  have hD := hD0.self (sz := s.heap.size)
  generalize hAe : va_A [] s.heap.size = A at hD hT ⊢
  have hAA : ∀ q : Nat, s.heap.size ≤ q → A q := fun q h => by rw [← hAe]; exact Or.inr h
  have hS : va_S A s.heap s.heap [] := va_S.rf
  have hl := lv_entry ([.int ch]) (n := 1) (Nat.le_of_ble_eq_true rfl)
  rw [lg_entry_eq]
  generalize (lg_sl ([.int ch]) ++ List.replicate (1 - (lg_sl ([.int ch])).length) Slot.unset).toArray = ls at hl ⊢
  have hl : lv_has ls 1 [(0, .int ch)] := hl
  refine lv_iload_n hx hb dX10_isWordByte_0 rfl (lv_at hl 0 rfl) ?_
  have hPc := hP.sub (ws' := []) [] rfl
  have hDc := hD.sub (ws' := []) [] (by decide) rfl
  have hKc := hK.sub (tys' := []) [] rfl
  have hFc := va_free (wc := []) hD hS hAA [] rfl
  refine va_calli (va_runS (As := [.int ch]) (rest := []) ⟨hx, hb, hml, hown, hA⟩ (c_X10_isSmall_x l dC dI aK aV ch s.heap.size) (va_cwS 1 hA (zw_S wi_664 wi_665 wi_137 (zw_good wi_666)) rfl rfl rfl (by decide +kernel) ⟨(Nat.le_of_ble_eq_true rfl), (Nat.le_of_ble_eq_true rfl)⟩) ⟨zP_blind, zz_pre hKc hPc hDc hN hT hS hFc⟩ rfl rfl hl.1 rfl (lv_room (Nat.le_of_ble_eq_true rfl)) dX10_isWordByte_1 ⟨(Nat.le_of_ble_eq_true rfl), (Nat.le_of_ble_eq_true rfl)⟩) hS (fun q _ h => hFc q h) hFc (fun r_1 u t H1 locs ht hvm hw hB hz1 hk1 hS => ?_)
  obtain ⟨hP1, hK1, hD1⟩ := hB
  rw [ht] at hP1
  have hK1 := va_K.moved hvm.symm hK1
  obtain ⟨hP, hD⟩ := va_join (wr := []) (w1 := []) hP hD [] [] rfl rfl (by decide) (by decide) hk1 hFc hP1 hD1
  have hK := (hK.sub (tys' := []) [] rfl).app hK1
  generalize H1 = H at hP hS ⊢
  have hP : va_P (dC, dI) vwCl [] H := hP
  have hD : va_D A [] := hD
  have hK : va_K (dC, dI) vwCl [] s := hK
  have hw_r_1 := hw
  try dsimp only at hw_r_1
  have hq_2 := hw
  refine lv_if_ne (tgt := 21) hx hb dX10_isWordByte_4 (by decide) (fun c_3 => ?_) (fun c_3 => ?_)
  · have ic_3 : r_1.toInt ≠ 0 := zi_ne c_3
    refine lv_iconst (v := 1) hx hb dX10_isWordByte_21 (by decide) ?_
    refine lv_goto (tgt := 26) hx hb dX10_isWordByte_22 (by decide) ?_
    have hlit : Int32.toInt 1 = 1 := by decide
    have hP9 := hP.sub (ws' := []) [] rfl
    have hD9 := hD.sub (ws' := []) [] (by decide) rfl
    have hK9 := hK.sub (tys' := []) [] rfl
    exact W.zret (v := 1) hx hb hr rfl (fun t ht hW => ⟨⟨1, (), rfl, by omega, by rw [ht]; exact hP9, va_K.moved hW.alike hK9, hD9⟩, hS.F ht⟩) hS.2.2 dX10_isWordByte_26
  · have ic_3 : r_1.toInt = 0 := zi_eq c_3
    refine lv_iload_n hx hb dX10_isWordByte_7 rfl (lv_at hl 0 rfl) ?_
    have hPc := hP.sub (ws' := []) [] rfl
    have hDc := hD.sub (ws' := []) [] (by decide) rfl
    have hKc := hK.sub (tys' := []) [] rfl
    have hFc := va_free (wc := []) hD hS hAA [] rfl
    refine va_calli (va_runS (As := [.int ch]) (rest := []) ⟨hx, hb, hml, hown, hA⟩ (c_X10_isGreat_x l dC dI aK aV ch H.size) (va_cwS 1 hA (zw_S wi_667 wi_668 wi_137 (zw_good wi_669)) rfl rfl rfl (by decide +kernel) ⟨(Nat.le_of_ble_eq_true rfl), (Nat.le_of_ble_eq_true rfl)⟩) ⟨zP_blind, zz_pre hKc hPc hDc hN hT hS hFc⟩ rfl rfl hl.1 rfl (lv_room (Nat.le_of_ble_eq_true rfl)) dX10_isWordByte_8 ⟨(Nat.le_of_ble_eq_true rfl), (Nat.le_of_ble_eq_true rfl)⟩) hS (fun q _ h => hFc q h) hFc (fun r_4 u t H1 locs ht hvm hw hB hz1 hk1 hS => ?_)
    obtain ⟨hP1, hK1, hD1⟩ := hB
    rw [ht] at hP1
    have hK1 := va_K.moved hvm.symm hK1
    obtain ⟨hP, hD⟩ := va_join (wr := []) (w1 := []) hP hD [] [] rfl rfl (by decide) (by decide) hk1 hFc hP1 hD1
    have hK := (hK.sub (tys' := []) [] rfl).app hK1
    generalize H1 = H at hP hS ⊢
    have hP : va_P (dC, dI) vwCl [] H := hP
    have hD : va_D A [] := hD
    have hK : va_K (dC, dI) vwCl [] s := hK
    have hw_r_4 := hw
    try dsimp only at hw_r_4
    have hq_5 := hw
    refine lv_if_ne (tgt := 21) hx hb dX10_isWordByte_11 (by decide) (fun c_6 => ?_) (fun c_6 => ?_)
    · have ic_6 : r_4.toInt ≠ 0 := zi_ne c_6
      refine lv_iconst (v := 1) hx hb dX10_isWordByte_21 (by decide) ?_
      refine lv_goto (tgt := 26) hx hb dX10_isWordByte_22 (by decide) ?_
      have hlit : Int32.toInt 1 = 1 := by decide
      have hP9 := hP.sub (ws' := []) [] rfl
      have hD9 := hD.sub (ws' := []) [] (by decide) rfl
      have hK9 := hK.sub (tys' := []) [] rfl
      exact W.zret (v := 1) hx hb hr rfl (fun t ht hW => ⟨⟨1, (), rfl, by omega, by rw [ht]; exact hP9, va_K.moved hW.alike hK9, hD9⟩, hS.F ht⟩) hS.2.2 dX10_isWordByte_26
    · have ic_6 : r_4.toInt = 0 := zi_eq c_6
      refine lv_iload_n hx hb dX10_isWordByte_14 rfl (lv_at hl 0 rfl) ?_
      have hPc := hP.sub (ws' := []) [] rfl
      have hDc := hD.sub (ws' := []) [] (by decide) rfl
      have hKc := hK.sub (tys' := []) [] rfl
      have hFc := va_free (wc := []) hD hS hAA [] rfl
      refine va_calli (va_runS (As := [.int ch]) (rest := []) ⟨hx, hb, hml, hown, hA⟩ (c_X10_isDigit_x l dC dI aK aV ch H.size) (va_cwS 1 hA (zw_S wi_670 wi_671 wi_137 (zw_good wi_672)) rfl rfl rfl (by decide +kernel) ⟨(Nat.le_of_ble_eq_true rfl), (Nat.le_of_ble_eq_true rfl)⟩) ⟨zP_blind, zz_pre hKc hPc hDc hN hT hS hFc⟩ rfl rfl hl.1 rfl (lv_room (Nat.le_of_ble_eq_true rfl)) dX10_isWordByte_15 ⟨(Nat.le_of_ble_eq_true rfl), (Nat.le_of_ble_eq_true rfl)⟩) hS (fun q _ h => hFc q h) hFc (fun r_7 u t H1 locs ht hvm hw hB hz1 hk1 hS => ?_)
      obtain ⟨hP1, hK1, hD1⟩ := hB
      rw [ht] at hP1
      have hK1 := va_K.moved hvm.symm hK1
      obtain ⟨hP, hD⟩ := va_join (wr := []) (w1 := []) hP hD [] [] rfl rfl (by decide) (by decide) hk1 hFc hP1 hD1
      have hK := (hK.sub (tys' := []) [] rfl).app hK1
      generalize H1 = H at hP hS ⊢
      have hP : va_P (dC, dI) vwCl [] H := hP
      have hD : va_D A [] := hD
      have hK : va_K (dC, dI) vwCl [] s := hK
      have hw_r_7 := hw
      try dsimp only at hw_r_7
      have hq_8 := hw
      refine lv_if_eq (tgt := 25) hx hb dX10_isWordByte_18 (by decide) (fun c_9 => ?_) (fun c_9 => ?_)
      · have ic_9 : r_7.toInt = 0 := zi_eq c_9
        refine lv_iconst (v := 0) hx hb dX10_isWordByte_25 (by decide) ?_
        have hlit : Int32.toInt 0 = 0 := by decide
        have hP9 := hP.sub (ws' := []) [] rfl
        have hD9 := hD.sub (ws' := []) [] (by decide) rfl
        have hK9 := hK.sub (tys' := []) [] rfl
        exact W.zret (v := 0) hx hb hr rfl (fun t ht hW => ⟨⟨0, (), rfl, by omega, by rw [ht]; exact hP9, va_K.moved hW.alike hK9, hD9⟩, hS.F ht⟩) hS.2.2 dX10_isWordByte_26
      · have ic_9 : r_7.toInt ≠ 0 := zi_ne c_9
        refine lv_iconst (v := 1) hx hb dX10_isWordByte_21 (by decide) ?_
        refine lv_goto (tgt := 26) hx hb dX10_isWordByte_22 (by decide) ?_
        have hlit : Int32.toInt 1 = 1 := by decide
        have hP9 := hP.sub (ws' := []) [] rfl
        have hD9 := hD.sub (ws' := []) [] (by decide) rfl
        have hK9 := hK.sub (tys' := []) [] rfl
        exact W.zret (v := 1) hx hb hr rfl (fun t ht hW => ⟨⟨1, (), rfl, by omega, by rw [ht]; exact hP9, va_K.moved hW.alike hK9, hD9⟩, hS.F ht⟩) hS.2.2 dX10_isWordByte_26
set_option maxHeartbeats 4000000 in
set_option maxRecDepth 100000 in
theorem c_X10_sortOfSmall_x (l : Launch) (dC : Nat → ClassId) (dI : Nat → Nat → Nat) (aK aV : Nat → Nat) (wo : Int64) (sz : Nat)  : Met l yX10_sortOfSmall (Cond.code yX10_sortOfSmall cX10_sortOfSmall 2 (some .int) :: zw) ({ frames := 8, cells := 0, slots := 0, locals := 200 }) (va_Pc [.long wo] (zP dC dI aK aV sz [] [])) (va_Qi (fun (r : Int32) (u : Unit) => (r.toInt ≠ 261)) (fun u => zQ dC dI (va_A [] sz) [] []) (va_A [] sz)) 0 0 (va_A [] sz) := by
  refine Met.ofW (cc := cX10_sortOfSmall) (maxL := 2) (ret := (some .int)) (by decide) rfl ?_
  intro p e s m args below meth c s₁ B hml hv
  obtain ⟨rfl, hsz, hP, hK, hD0, hN, hT⟩ := hv
  have hx := B.exec
  have hb := B.bytes
  have hr := B.returns
  have hts := atoms_spec (ws := Cond.code yX10_sortOfSmall cX10_sortOfSmall 2 (some .int) :: zw) B.pre
  have hA : ∀ w ∈ zw, w.before _ s = true := fun w h => hts w (List.mem_cons_of_mem _ h)
  have hown : s.vm.findClass RX10 = some m.cls := findClass_of_methodNamed B.named
  have hlocks := B.notSynchronized
  subst hsz
  have hD := hD0.self (sz := s.heap.size)
  generalize hAe : va_A [] s.heap.size = A at hD hT ⊢
  have hAA : ∀ q : Nat, s.heap.size ≤ q → A q := fun q h => by rw [← hAe]; exact Or.inr h
  have hS : va_S A s.heap s.heap [] := va_S.rf
  have hl := lv_entry ([.long wo]) (n := 2) (Nat.le_of_ble_eq_true rfl)
  rw [lg_entry_eq]
  generalize (lg_sl ([.long wo]) ++ List.replicate (2 - (lg_sl ([.long wo])).length) Slot.unset).toArray = ls at hl ⊢
  have hl : lv_has ls 2 [(0, .long wo)] := hl
  refine lv_lload_n hx hb dX10_sortOfSmall_0 rfl (lv_at hl 0 rfl) ?_
  refine lv_ldc2 (v := 7103860) hx hb hown (hA _ wi_680) dX10_sortOfSmall_1 ?_
  refine W.lcmp hx hb dX10_sortOfSmall_4 ?_
  refine lv_topi (fun x_1 ex_1 => ?_)
  refine lv_if_ne (tgt := 12) hx hb dX10_sortOfSmall_5 (by decide) (fun c_2 => ?_) (fun c_2 => ?_)
  · have ic_2 : x_1.toInt ≠ 0 := zi_ne c_2
    refine lv_lload_n hx hb dX10_sortOfSmall_12 rfl (lv_at hl 0 rfl) ?_
    refine lv_ldc2 (v := 26990) hx hb hown (hA _ wi_681) dX10_sortOfSmall_13 ?_
    refine W.lcmp hx hb dX10_sortOfSmall_16 ?_
    refine lv_topi (fun x_3 ex_3 => ?_)
    refine lv_if_ne (tgt := 24) hx hb dX10_sortOfSmall_17 (by decide) (fun c_4 => ?_) (fun c_4 => ?_)
    · have ic_4 : x_3.toInt ≠ 0 := zi_ne c_4
      refine lv_lload_n hx hb dX10_sortOfSmall_24 rfl (lv_at hl 0 rfl) ?_
      refine lv_ldc2 (v := 26982) hx hb hown (hA _ wi_682) dX10_sortOfSmall_25 ?_
      refine W.lcmp hx hb dX10_sortOfSmall_28 ?_
      refine lv_topi (fun x_5 ex_5 => ?_)
      refine lv_if_ne (tgt := 36) hx hb dX10_sortOfSmall_29 (by decide) (fun c_6 => ?_) (fun c_6 => ?_)
      · have ic_6 : x_5.toInt ≠ 0 := zi_ne c_6
        refine lv_lload_n hx hb dX10_sortOfSmall_36 rfl (lv_at hl 0 rfl) ?_
        refine lv_ldc2 (v := 1952998766) hx hb hown (hA _ wi_683) dX10_sortOfSmall_37 ?_
        refine W.lcmp hx hb dX10_sortOfSmall_40 ?_
        refine lv_topi (fun x_7 ex_7 => ?_)
        refine lv_if_ne (tgt := 48) hx hb dX10_sortOfSmall_41 (by decide) (fun c_8 => ?_) (fun c_8 => ?_)
        · have ic_8 : x_7.toInt ≠ 0 := zi_ne c_8
          refine lv_lload_n hx hb dX10_sortOfSmall_48 rfl (lv_at hl 0 rfl) ?_
          refine lv_ldc2 (v := 1701606245) hx hb hown (hA _ wi_684) dX10_sortOfSmall_49 ?_
          refine W.lcmp hx hb dX10_sortOfSmall_52 ?_
          refine lv_topi (fun x_9 ex_9 => ?_)
          refine lv_if_ne (tgt := 60) hx hb dX10_sortOfSmall_53 (by decide) (fun c_10 => ?_) (fun c_10 => ?_)
          · have ic_10 : x_9.toInt ≠ 0 := zi_ne c_10
            refine lv_lload_n hx hb dX10_sortOfSmall_60 rfl (lv_at hl 0 rfl) ?_
            refine lv_ldc2 (v := 469786452840) hx hb hown (hA _ wi_685) dX10_sortOfSmall_61 ?_
            refine W.lcmp hx hb dX10_sortOfSmall_64 ?_
            refine lv_topi (fun x_11 ex_11 => ?_)
            refine lv_if_ne (tgt := 72) hx hb dX10_sortOfSmall_65 (by decide) (fun c_12 => ?_) (fun c_12 => ?_)
            · have ic_12 : x_11.toInt ≠ 0 := zi_ne c_12
              refine lv_lload_n hx hb dX10_sortOfSmall_72 rfl (lv_at hl 0 rfl) ?_
              refine lv_ldc2 (v := 6714734) hx hb hown (hA _ wi_686) dX10_sortOfSmall_73 ?_
              refine W.lcmp hx hb dX10_sortOfSmall_76 ?_
              refine lv_topi (fun x_13 ex_13 => ?_)
              refine lv_if_ne (tgt := 86) hx hb dX10_sortOfSmall_77 (by decide) (fun c_14 => ?_) (fun c_14 => ?_)
              · have ic_14 : x_13.toInt ≠ 0 := zi_ne c_14
                refine lv_sipush (v := 258) hx hb dX10_sortOfSmall_86 (by decide) ?_
                have hlit : Int32.toInt 258 = 258 := by decide
                have hP9 := hP.sub (ws' := []) [] rfl
                have hD9 := hD.sub (ws' := []) [] (by decide) rfl
                have hK9 := hK.sub (tys' := []) [] rfl
                exact W.iret (v := 258) hx hb hr (fun t ht hW => ⟨⟨258, (), rfl, by omega, by rw [ht]; exact hP9, va_K.moved hW.alike hK9, hD9⟩, hS.F ht⟩) hS.2.2 dX10_sortOfSmall_89
              · have ic_14 : x_13.toInt = 0 := zi_eq c_14
                refine lv_sipush (v := 268) hx hb dX10_sortOfSmall_80 (by decide) ?_
                refine lv_goto (tgt := 89) hx hb dX10_sortOfSmall_83 (by decide) ?_
                have hlit : Int32.toInt 268 = 268 := by decide
                have hP9 := hP.sub (ws' := []) [] rfl
                have hD9 := hD.sub (ws' := []) [] (by decide) rfl
                have hK9 := hK.sub (tys' := []) [] rfl
                exact W.iret (v := 268) hx hb hr (fun t ht hW => ⟨⟨268, (), rfl, by omega, by rw [ht]; exact hP9, va_K.moved hW.alike hK9, hD9⟩, hS.F ht⟩) hS.2.2 dX10_sortOfSmall_89
            · have ic_12 : x_11.toInt = 0 := zi_eq c_12
              refine lv_sipush (v := 267) hx hb dX10_sortOfSmall_68 (by decide) ?_
              have hlit : Int32.toInt 267 = 267 := by decide
              have hP9 := hP.sub (ws' := []) [] rfl
              have hD9 := hD.sub (ws' := []) [] (by decide) rfl
              have hK9 := hK.sub (tys' := []) [] rfl
              exact W.iret (v := 267) hx hb hr (fun t ht hW => ⟨⟨267, (), rfl, by omega, by rw [ht]; exact hP9, va_K.moved hW.alike hK9, hD9⟩, hS.F ht⟩) hS.2.2 dX10_sortOfSmall_71
          · have ic_10 : x_9.toInt = 0 := zi_eq c_10
            refine lv_sipush (v := 266) hx hb dX10_sortOfSmall_56 (by decide) ?_
            have hlit : Int32.toInt 266 = 266 := by decide
            have hP9 := hP.sub (ws' := []) [] rfl
            have hD9 := hD.sub (ws' := []) [] (by decide) rfl
            have hK9 := hK.sub (tys' := []) [] rfl
            exact W.iret (v := 266) hx hb hr (fun t ht hW => ⟨⟨266, (), rfl, by omega, by rw [ht]; exact hP9, va_K.moved hW.alike hK9, hD9⟩, hS.F ht⟩) hS.2.2 dX10_sortOfSmall_59
        · have ic_8 : x_7.toInt = 0 := zi_eq c_8
          refine lv_sipush (v := 265) hx hb dX10_sortOfSmall_44 (by decide) ?_
          have hlit : Int32.toInt 265 = 265 := by decide
          have hP9 := hP.sub (ws' := []) [] rfl
          have hD9 := hD.sub (ws' := []) [] (by decide) rfl
          have hK9 := hK.sub (tys' := []) [] rfl
          exact W.iret (v := 265) hx hb hr (fun t ht hW => ⟨⟨265, (), rfl, by omega, by rw [ht]; exact hP9, va_K.moved hW.alike hK9, hD9⟩, hS.F ht⟩) hS.2.2 dX10_sortOfSmall_47
      · have ic_6 : x_5.toInt = 0 := zi_eq c_6
        refine lv_sipush (v := 264) hx hb dX10_sortOfSmall_32 (by decide) ?_
        have hlit : Int32.toInt 264 = 264 := by decide
        have hP9 := hP.sub (ws' := []) [] rfl
        have hD9 := hD.sub (ws' := []) [] (by decide) rfl
        have hK9 := hK.sub (tys' := []) [] rfl
        exact W.iret (v := 264) hx hb hr (fun t ht hW => ⟨⟨264, (), rfl, by omega, by rw [ht]; exact hP9, va_K.moved hW.alike hK9, hD9⟩, hS.F ht⟩) hS.2.2 dX10_sortOfSmall_35
    · have ic_4 : x_3.toInt = 0 := zi_eq c_4
      refine lv_sipush (v := 263) hx hb dX10_sortOfSmall_20 (by decide) ?_
      have hlit : Int32.toInt 263 = 263 := by decide
      have hP9 := hP.sub (ws' := []) [] rfl
      have hD9 := hD.sub (ws' := []) [] (by decide) rfl
      have hK9 := hK.sub (tys' := []) [] rfl
      exact W.iret (v := 263) hx hb hr (fun t ht hW => ⟨⟨263, (), rfl, by omega, by rw [ht]; exact hP9, va_K.moved hW.alike hK9, hD9⟩, hS.F ht⟩) hS.2.2 dX10_sortOfSmall_23
  · have ic_2 : x_1.toInt = 0 := zi_eq c_2
    refine lv_sipush (v := 262) hx hb dX10_sortOfSmall_8 (by decide) ?_
    have hlit : Int32.toInt 262 = 262 := by decide
    have hP9 := hP.sub (ws' := []) [] rfl
    have hD9 := hD.sub (ws' := []) [] (by decide) rfl
    have hK9 := hK.sub (tys' := []) [] rfl
    exact W.iret (v := 262) hx hb hr (fun t ht hW => ⟨⟨262, (), rfl, by omega, by rw [ht]; exact hP9, va_K.moved hW.alike hK9, hD9⟩, hS.F ht⟩) hS.2.2 dX10_sortOfSmall_11
set_option maxHeartbeats 4000000 in
set_option maxRecDepth 100000 in
theorem c_X10_readWord_x (l : Launch) (dC : Nat → ClassId) (dI : Nat → Nat → Nat) (aK aV : Nat → Nat) (h0 : Nat) (ts : Nat) (tp : Nat) (tw : Nat) (t1 : ClassId) (t2 : ClassId) (t3 : ClassId) (z : Int32) (pa : Int32) (so : Int32) (pl : Int32) (wd : Int64) (gs : Nat → Int32) (gp : Nat → Int32) (gw : Nat → Int64) (bt : Nat) (bk : ClassId) (gt : Nat → Int32) (fr : Int32) (en : Int32) (sz : Nat) (hz0 : 0 ≤ z.toInt) (hz1 : z.toInt ≤ 2000) (hf0 : 0 ≤ fr.toInt) (hf1 : fr.toInt < en.toInt) (he : en.toInt ≤ 2000) (hwb : (97 ≤ (gt (Int32.toNatClampNeg fr)).toInt ∧ (gt (Int32.toNatClampNeg fr)).toInt ≤ 122 ∨ 65 ≤ (gt (Int32.toNatClampNeg fr)).toInt ∧ (gt (Int32.toNatClampNeg fr)).toInt ≤ 90 ∨ 48 ≤ (gt (Int32.toNatClampNeg fr)).toInt ∧ (gt (Int32.toNatClampNeg fr)).toInt ≤ 57)) : Met l yX10_readWord (Cond.code yX10_readWord cX10_readWord 11 (some .int) :: zw) ({ frames := 12, cells := 0, slots := 0, locals := 400 }) (va_Pc [.ref h0, .ref bt, .int fr, .int en] (zP dC dI aK aV sz [(t1, .int), (t2, .int), (t3, .long), (bk, .byte)] [(h0, .inr (10, [.ref ts, .ref tp, .ref tw, .int z, .int pa, .int so, .int pl, .long wd])), (ts, .inl (t1, 2001, .inl gs)), (tp, .inl (t2, 2001, .inl gp)), (tw, .inl (t3, 2001, .inr (.inl gw))), (bt, .inl (bk, 2000, .inl gt))])) (va_Qi (fun (r : Int32) (u : (Nat → Int32) × (Nat → Int64)) => match u with | (gs2, gw2) => (fr.toInt < r.toInt) ∧ (r.toInt ≤ en.toInt) ∧ (∃ v : Int32, gs2 = upd gs (Int32.toNatClampNeg z) v ∧ v.toInt ≠ 261)) (fun u => match u with | (gs2, gw2) => zQ dC dI (va_A [(h0, .inr (10, [.ref ts, .ref tp, .ref tw, .int z, .int pa, .int so, .int pl, .long wd])), (ts, .inl (t1, 2001, .inl gs)), (tp, .inl (t2, 2001, .inl gp)), (tw, .inl (t3, 2001, .inr (.inl gw))), (bt, .inl (bk, 2000, .inl gt))] sz) [(t1, .int), (t2, .int), (t3, .long), (bk, .byte)] [(h0, .inr (10, [.ref ts, .ref tp, .ref tw, .int z, .int pa, .int so, .int pl, .long wd])), (ts, .inl (t1, 2001, .inl gs2)), (tp, .inl (t2, 2001, .inl gp)), (tw, .inl (t3, 2001, .inr (.inl gw2))), (bt, .inl (bk, 2000, .inl gt))]) (va_A [(h0, .inr (10, [.ref ts, .ref tp, .ref tw, .int z, .int pa, .int so, .int pl, .long wd])), (ts, .inl (t1, 2001, .inl gs)), (tp, .inl (t2, 2001, .inl gp)), (tw, .inl (t3, 2001, .inr (.inl gw))), (bt, .inl (bk, 2000, .inl gt))] sz)) 0 0 (va_A [(h0, .inr (10, [.ref ts, .ref tp, .ref tw, .int z, .int pa, .int so, .int pl, .long wd])), (ts, .inl (t1, 2001, .inl gs)), (tp, .inl (t2, 2001, .inl gp)), (tw, .inl (t3, 2001, .inr (.inl gw))), (bt, .inl (bk, 2000, .inl gt))] sz) := by
  refine Met.ofW (cc := cX10_readWord) (maxL := 11) (ret := (some .int)) (by decide) rfl ?_
  intro p e s m args below meth c s₁ B hml hv
  obtain ⟨rfl, hsz, hP, hK, hD0, hN, hT⟩ := hv
  have hx := B.exec
  have hb := B.bytes
  have hr := B.returns
  have hts := atoms_spec (ws := Cond.code yX10_readWord cX10_readWord 11 (some .int) :: zw) B.pre
  have hA : ∀ w ∈ zw, w.before _ s = true := fun w h => hts w (List.mem_cons_of_mem _ h)
  have hown : s.vm.findClass RX10 = some m.cls := findClass_of_methodNamed B.named
  have hlocks := B.notSynchronized
  subst hsz
  have hD := hD0.self (sz := s.heap.size)
  generalize hAe : va_A [(h0, .inr (10, [.ref ts, .ref tp, .ref tw, .int z, .int pa, .int so, .int pl, .long wd])), (ts, .inl (t1, 2001, .inl gs)), (tp, .inl (t2, 2001, .inl gp)), (tw, .inl (t3, 2001, .inr (.inl gw))), (bt, .inl (bk, 2000, .inl gt))] s.heap.size = A at hD hT ⊢
  have hAA : ∀ q : Nat, s.heap.size ≤ q → A q := fun q h => by rw [← hAe]; exact Or.inr h
  have hS : va_S A s.heap s.heap [] := va_S.rf
  have hl := lv_entry ([.ref h0, .ref bt, .int fr, .int en]) (n := 11) (Nat.le_of_ble_eq_true rfl)
  rw [lg_entry_eq]
  generalize (lg_sl ([.ref h0, .ref bt, .int fr, .int en]) ++ List.replicate (11 - (lg_sl ([.ref h0, .ref bt, .int fr, .int en])).length) Slot.unset).toArray = ls at hl ⊢
  have hl : lv_has ls 11 [(0, .ref h0), (1, .ref bt), (2, .int fr), (3, .int en)] := hl
  refine lv_iload_n hx hb dX10_readWord_0 rfl (lv_at hl 2 rfl) ?_
  refine lv_istore (lv' := [(4, .int fr), (0, .ref h0), (1, .ref bt), (2, .int fr), (3, .int en)]) hx hb dX10_readWord_1 hl (by decide) rfl (fun ls hl => ?_)
  refine lv_iconst (v := 0) hx hb dX10_readWord_3 (by decide) ?_
  refine lv_istore (lv' := [(5, .int 0), (4, .int fr), (0, .ref h0), (1, .ref bt), (2, .int fr), (3, .int en)]) hx hb dX10_readWord_4 hl (by decide) rfl (fun ls hl => ?_)
  refine lv_iconst (v := 0) hx hb dX10_readWord_6 (by decide) ?_
  refine lv_istore (lv' := [(6, .int 0), (5, .int 0), (4, .int fr), (0, .ref h0), (1, .ref bt), (2, .int fr), (3, .int en)]) hx hb dX10_readWord_7 hl (by decide) rfl (fun ls hl => ?_)
  refine lv_iconst (v := 0) hx hb dX10_readWord_9 (by decide) ?_
  refine lv_istore (lv' := [(7, .int 0), (6, .int 0), (5, .int 0), (4, .int fr), (0, .ref h0), (1, .ref bt), (2, .int fr), (3, .int en)]) hx hb dX10_readWord_10 hl (by decide) rfl (fun ls hl => ?_)
  refine lv_lconst (v := 0) hx hb dX10_readWord_12 (by decide) ?_
  refine lv_lstore (lv' := [(8, .long 0), (7, .int 0), (6, .int 0), (5, .int 0), (4, .int fr), (0, .ref h0), (1, .ref bt), (2, .int fr), (3, .int en)]) hx hb dX10_readWord_13 hl (by decide) rfl (fun ls hl => ?_)
  have loop_15 : ∀ (n9 : Nat) (to : Int32) (sm : Int32) (di : Int32) (nu : Int32) (by_ : Int64) (H : Heap) (locs : List Loc) (ls : Array Slot), (en.toInt - to.toInt + 1).toNat ≤ n9 → fr.toInt ≤ to.toInt → to.toInt ≤ en.toInt → 0 ≤ sm.toInt → sm.toInt ≤ to.toInt → 0 ≤ di.toInt → di.toInt ≤ to.toInt → va_P (dC, dI) vwCl [(h0, .inr (10, [.ref ts, .ref tp, .ref tw, .int z, .int pa, .int so, .int pl, .long wd])), (ts, .inl (t1, 2001, .inl gs)), (tp, .inl (t2, 2001, .inl gp)), (tw, .inl (t3, 2001, .inr (.inl gw))), (bt, .inl (bk, 2000, .inl gt))] H → va_D A [(h0, .inr (10, [.ref ts, .ref tp, .ref tw, .int z, .int pa, .int so, .int pl, .long wd])), (ts, .inl (t1, 2001, .inl gs)), (tp, .inl (t2, 2001, .inl gp)), (tw, .inl (t3, 2001, .inr (.inl gw))), (bt, .inl (bk, 2000, .inl gt))] → va_S A s.heap H locs → lv_has ls 11 [(8, .long by_), (7, .int nu), (6, .int di), (5, .int sm), (4, .int to), (0, .ref h0), (1, .ref bt), (2, .int fr), (3, .int en)] → W p l e (headSpec (Cond.code yX10_readWord cX10_readWord 11 (some .int) :: zw) ({ frames := 12, cells := 0, slots := 0, locals := 400 })).room s m #[.ref h0, .ref bt, .int fr, .int en] below meth c H locs 0 0 (MQ below (va_Qi (fun (r : Int32) (u : (Nat → Int32) × (Nat → Int64)) => match u with | (gs2, gw2) => (fr.toInt < r.toInt) ∧ (r.toInt ≤ en.toInt) ∧ (∃ v : Int32, gs2 = upd gs (Int32.toNatClampNeg z) v ∧ v.toInt ≠ 261)) (fun u => match u with | (gs2, gw2) => zQ dC dI A [(t1, .int), (t2, .int), (t3, .long), (bk, .byte)] [(h0, .inr (10, [.ref ts, .ref tp, .ref tw, .int z, .int pa, .int so, .int pl, .long wd])), (ts, .inl (t1, 2001, .inl gs2)), (tp, .inl (t2, 2001, .inl gp)), (tw, .inl (t3, 2001, .inr (.inl gw2))), (bt, .inl (bk, 2000, .inl gt))]) A) #[.ref h0, .ref bt, .int fr, .int en] s 0 0 A) (F0 m 15 ls []) := by
    intro n9
    induction n9 with
    | zero => intro to sm di nu by_ H locs ls hm ht0 ht1 hs0 hs1 hd0 hd1; exfalso; omega
    | succ n9 ih =>
      intro to sm di nu by_ H locs ls hm ht0 ht1 hs0 hs1 hd0 hd1 hP hD hS hl
      refine lv_iload hx hb dX10_readWord_15 (lv_at hl 4 rfl) ?_
      refine lv_iload_n hx hb dX10_readWord_17 rfl (lv_at hl 8 rfl) ?_
      refine lv_icmp_ge (tgt := 94) hx hb dX10_readWord_18 (by decide) (fun c_1 => ?_) (fun c_1 => ?_)
      · have ic_1 : en.toInt ≤ to.toInt := zi_le c_1
        have hlt9 : fr.toInt < to.toInt := by omega
        refine lv_iload hx hb dX10_readWord_94 (lv_at hl 4 rfl) ?_
        refine lv_iload_n hx hb dX10_readWord_96 rfl (lv_at hl 7 rfl) ?_
        refine lv_isub hx hb dX10_readWord_97 ?_
        refine lv_topi (fun x_2 ex_2 => ?_)
        have ix_2 : x_2.toInt = to.toInt - fr.toInt := by rw [ex_2]; exact zi_subc rfl (by omega) (by omega)
        refine lv_istore (lv' := [(10, .int x_2), (8, .long by_), (7, .int nu), (6, .int di), (5, .int sm), (4, .int to), (0, .ref h0), (1, .ref bt), (2, .int fr), (3, .int en)]) hx hb dX10_readWord_98 hl (by decide) rfl (fun ls hl => ?_)
        refine lv_iload hx hb dX10_readWord_100 (lv_at hl 3 rfl) ?_
        refine lv_iload hx hb dX10_readWord_102 (lv_at hl 0 rfl) ?_
        refine lv_icmp_ne (tgt := 135) hx hb dX10_readWord_104 (by decide) (fun c_3 => ?_) (fun c_3 => ?_)
        · have ic_3 : di.toInt ≠ x_2.toInt := zi_ne c_3
          refine lv_iload hx hb dX10_readWord_135 (lv_at hl 0 rfl) ?_
          refine lv_bipush (v := 8) hx hb dX10_readWord_137 (by decide) ?_
          refine lv_icmp_le (tgt := 157) hx hb dX10_readWord_139 (by decide) (fun c_4 => ?_) (fun c_4 => ?_)
          · have ic_4 : x_2.toInt ≤ 8 := zi_le c_4
            refine lv_iload hx hb dX10_readWord_157 (lv_at hl 4 rfl) ?_
            refine lv_iload hx hb dX10_readWord_159 (lv_at hl 0 rfl) ?_
            refine lv_icmp_ne (tgt := 181) hx hb dX10_readWord_161 (by decide) (fun c_5 => ?_) (fun c_5 => ?_)
            · have ic_5 : sm.toInt ≠ x_2.toInt := zi_ne c_5
              refine lv_aload_n hx hb dX10_readWord_181 rfl (lv_at hl 6 rfl) ?_
              refine va_get (D := (dC, dI)) (ci := 10) (v := .ref ts) (C := RX10) (T := TX10) (N := 8) hx hb hA zin_X10 hown hK hP 0 rfl rfl 0 (by decide) (hA _ wi_346) (fun _ h9 => h9) rfl dX10_readWord_182 ?_
              refine lv_aload_n hx hb dX10_readWord_185 rfl (lv_at hl 6 rfl) ?_
              refine va_get (D := (dC, dI)) (ci := 10) (v := .int z) (C := RX10) (T := TX10) (N := 8) hx hb hA zin_X10 hown hK hP 0 rfl rfl 3 (by decide) (hA _ wi_349) (fun _ h9 => h9) rfl dX10_readWord_186 ?_
              refine lv_iload hx hb dX10_readWord_189 (lv_at hl 4 rfl) ?_
              refine lv_iload hx hb dX10_readWord_191 (lv_at hl 0 rfl) ?_
              refine lv_iconst (v := 1) hx hb dX10_readWord_193 (by decide) ?_
              refine lv_isub hx hb dX10_readWord_194 ?_
              refine lv_topi (fun x_6 ex_6 => ?_)
              have ix_6 : x_6.toInt = x_2.toInt - 1 := by rw [ex_6]; exact zi_subc (by decide) (by omega) (by omega)
              refine lv_icmp_ne (tgt := 213) hx hb dX10_readWord_195 (by decide) (fun c_7 => ?_) (fun c_7 => ?_)
              · have ic_7 : sm.toInt ≠ x_6.toInt := zi_ne c_7
                refine lv_sipush (v := 257) hx hb dX10_readWord_213 (by decide) ?_
                refine va_iast hx hb hK hP hD hS 1 0 rfl rfl (vp_in_iff.mpr ⟨by omega, by omega⟩) dX10_readWord_216 (fun H locs hP hD hS => ?_)
                obtain ⟨f_8, ef_8⟩ : ∃ gz9 : Nat → Int32, gz9 = upd gs (Int32.toNatClampNeg z) 257 := ⟨_, rfl⟩
                rw [← ef_8] at hP hD
                have hP : va_P (dC, dI) vwCl [(h0, .inr (10, [.ref ts, .ref tp, .ref tw, .int z, .int pa, .int so, .int pl, .long wd])), (ts, .inl (t1, 2001, .inl f_8)), (tp, .inl (t2, 2001, .inl gp)), (tw, .inl (t3, 2001, .inr (.inl gw))), (bt, .inl (bk, 2000, .inl gt))] H := hP
                have hD : va_D A [(h0, .inr (10, [.ref ts, .ref tp, .ref tw, .int z, .int pa, .int so, .int pl, .long wd])), (ts, .inl (t1, 2001, .inl f_8)), (tp, .inl (t2, 2001, .inl gp)), (tw, .inl (t3, 2001, .inr (.inl gw))), (bt, .inl (bk, 2000, .inl gt))] := hD
                refine lv_aload_n hx hb dX10_readWord_217 rfl (lv_at hl 6 rfl) ?_
                refine va_get (D := (dC, dI)) (ci := 10) (v := .ref tw) (C := RX10) (T := TX10) (N := 8) hx hb hA zin_X10 hown hK hP 0 rfl rfl 2 (by decide) (hA _ wi_348) (fun _ h9 => h9) rfl dX10_readWord_218 ?_
                refine lv_aload_n hx hb dX10_readWord_221 rfl (lv_at hl 6 rfl) ?_
                refine va_get (D := (dC, dI)) (ci := 10) (v := .int z) (C := RX10) (T := TX10) (N := 8) hx hb hA zin_X10 hown hK hP 0 rfl rfl 3 (by decide) (hA _ wi_349) (fun _ h9 => h9) rfl dX10_readWord_222 ?_
                refine lv_iload hx hb dX10_readWord_225 (lv_at hl 3 rfl) ?_
                refine lv_iload hx hb dX10_readWord_227 (lv_at hl 0 rfl) ?_
                refine lv_icmp_ne (tgt := 238) hx hb dX10_readWord_229 (by decide) (fun c_9 => ?_) (fun c_9 => ?_)
                · have ic_9 : di.toInt ≠ x_2.toInt := zi_ne c_9
                  refine lv_lload hx hb dX10_readWord_238 (lv_at hl 1 rfl) ?_
                  refine va_last hx hb hK hP hD hS 3 2 rfl rfl (vp_in_iff.mpr ⟨by omega, by omega⟩) dX10_readWord_240 (fun H locs hP hD hS => ?_)
                  obtain ⟨f_10, ef_10⟩ : ∃ gz9 : Nat → Int64, gz9 = vp_updL gw (Int32.toNatClampNeg z) by_ := ⟨_, rfl⟩
                  rw [← ef_10] at hP hD
                  have hP : va_P (dC, dI) vwCl [(h0, .inr (10, [.ref ts, .ref tp, .ref tw, .int z, .int pa, .int so, .int pl, .long wd])), (ts, .inl (t1, 2001, .inl f_8)), (tp, .inl (t2, 2001, .inl gp)), (tw, .inl (t3, 2001, .inr (.inl f_10))), (bt, .inl (bk, 2000, .inl gt))] H := hP
                  have hD : va_D A [(h0, .inr (10, [.ref ts, .ref tp, .ref tw, .int z, .int pa, .int so, .int pl, .long wd])), (ts, .inl (t1, 2001, .inl f_8)), (tp, .inl (t2, 2001, .inl gp)), (tw, .inl (t3, 2001, .inr (.inl f_10))), (bt, .inl (bk, 2000, .inl gt))] := hD
                  refine lv_iload hx hb dX10_readWord_241 (lv_at hl 5 rfl) ?_
                  have hP9 := hP.sub (ws' := [(h0, .inr (10, [.ref ts, .ref tp, .ref tw, .int z, .int pa, .int so, .int pl, .long wd])), (ts, .inl (t1, 2001, .inl f_8)), (tp, .inl (t2, 2001, .inl gp)), (tw, .inl (t3, 2001, .inr (.inl f_10))), (bt, .inl (bk, 2000, .inl gt))]) [0, 1, 2, 3, 4] rfl
                  have hD9 := hD.sub (ws' := [(h0, .inr (10, [.ref ts, .ref tp, .ref tw, .int z, .int pa, .int so, .int pl, .long wd])), (ts, .inl (t1, 2001, .inl f_8)), (tp, .inl (t2, 2001, .inl gp)), (tw, .inl (t3, 2001, .inr (.inl f_10))), (bt, .inl (bk, 2000, .inl gt))]) [0, 1, 2, 3, 4] (by decide) rfl
                  have hK9 := hK.sub (tys' := [(t1, .int), (t2, .int), (t3, .long), (bk, .byte)]) [0, 1, 2, 3] rfl
                  exact W.iret (v := to) hx hb hr (fun t ht hW => ⟨⟨to, (f_8, f_10), rfl, ⟨by omega, by omega, ⟨_, ef_8, by decide⟩⟩, by rw [ht]; exact hP9, va_K.moved hW.alike hK9, hD9⟩, hS.F ht⟩) hS.2.2 dX10_readWord_243
                · have ic_9 : di.toInt = x_2.toInt := zi_eq c_9
                  refine lv_iload hx hb dX10_readWord_232 (lv_at hl 2 rfl) ?_
                  obtain ⟨x_11, ex_11⟩ : ∃ z : Int64, z = Int32.toInt64 nu := ⟨_, rfl⟩
                  refine lv_i2l (v := x_11) hx hb dX10_readWord_234 ex_11.symm ?_
                  refine lv_goto (tgt := 240) hx hb dX10_readWord_235 (by decide) ?_
                  refine va_last hx hb hK hP hD hS 3 2 rfl rfl (vp_in_iff.mpr ⟨by omega, by omega⟩) dX10_readWord_240 (fun H locs hP hD hS => ?_)
                  obtain ⟨f_12, ef_12⟩ : ∃ gz9 : Nat → Int64, gz9 = vp_updL gw (Int32.toNatClampNeg z) x_11 := ⟨_, rfl⟩
                  rw [← ef_12] at hP hD
                  have hP : va_P (dC, dI) vwCl [(h0, .inr (10, [.ref ts, .ref tp, .ref tw, .int z, .int pa, .int so, .int pl, .long wd])), (ts, .inl (t1, 2001, .inl f_8)), (tp, .inl (t2, 2001, .inl gp)), (tw, .inl (t3, 2001, .inr (.inl f_12))), (bt, .inl (bk, 2000, .inl gt))] H := hP
                  have hD : va_D A [(h0, .inr (10, [.ref ts, .ref tp, .ref tw, .int z, .int pa, .int so, .int pl, .long wd])), (ts, .inl (t1, 2001, .inl f_8)), (tp, .inl (t2, 2001, .inl gp)), (tw, .inl (t3, 2001, .inr (.inl f_12))), (bt, .inl (bk, 2000, .inl gt))] := hD
                  refine lv_iload hx hb dX10_readWord_241 (lv_at hl 5 rfl) ?_
                  have hP9 := hP.sub (ws' := [(h0, .inr (10, [.ref ts, .ref tp, .ref tw, .int z, .int pa, .int so, .int pl, .long wd])), (ts, .inl (t1, 2001, .inl f_8)), (tp, .inl (t2, 2001, .inl gp)), (tw, .inl (t3, 2001, .inr (.inl f_12))), (bt, .inl (bk, 2000, .inl gt))]) [0, 1, 2, 3, 4] rfl
                  have hD9 := hD.sub (ws' := [(h0, .inr (10, [.ref ts, .ref tp, .ref tw, .int z, .int pa, .int so, .int pl, .long wd])), (ts, .inl (t1, 2001, .inl f_8)), (tp, .inl (t2, 2001, .inl gp)), (tw, .inl (t3, 2001, .inr (.inl f_12))), (bt, .inl (bk, 2000, .inl gt))]) [0, 1, 2, 3, 4] (by decide) rfl
                  have hK9 := hK.sub (tys' := [(t1, .int), (t2, .int), (t3, .long), (bk, .byte)]) [0, 1, 2, 3] rfl
                  exact W.iret (v := to) hx hb hr (fun t ht hW => ⟨⟨to, (f_8, f_12), rfl, ⟨by omega, by omega, ⟨_, ef_8, by decide⟩⟩, by rw [ht]; exact hP9, va_K.moved hW.alike hK9, hD9⟩, hS.F ht⟩) hS.2.2 dX10_readWord_243
              · have ic_7 : sm.toInt = x_6.toInt := zi_eq c_7
                refine lv_aload_n hx hb dX10_readWord_198 rfl (lv_at hl 7 rfl) ?_
                refine lv_iload_n hx hb dX10_readWord_199 rfl (lv_at hl 8 rfl) ?_
                refine va_bald hx hb hK hP 4 3 rfl rfl (vp_in_iff.mpr ⟨by omega, by omega⟩) dX10_readWord_200 ?_
                refine lv_topi (fun x_13 ex_13 => ?_)
                have hPc := hP.sub (ws' := []) [] rfl
                have hDc := hD.sub (ws' := []) [] (by decide) rfl
                have hKc := hK.sub (tys' := []) [] rfl
                have hFc := va_free (wc := []) hD hS hAA [] rfl
                refine va_calli (va_runS (As := [.int x_13]) (rest := [.int z, .ref ts]) ⟨hx, hb, hml, hown, hA⟩ (c_X10_isGreat_x l dC dI aK aV x_13 H.size) (va_cwS 1 hA (zw_S wi_667 wi_668 wi_137 (zw_good wi_669)) rfl rfl rfl (by decide +kernel) ⟨(Nat.le_of_ble_eq_true rfl), (Nat.le_of_ble_eq_true rfl)⟩) ⟨zP_blind, zz_pre hKc hPc hDc hN hT hS hFc⟩ rfl rfl hl.1 rfl (lv_room (Nat.le_of_ble_eq_true rfl)) dX10_readWord_201 ⟨(Nat.le_of_ble_eq_true rfl), (Nat.le_of_ble_eq_true rfl)⟩) hS (fun q _ h => hFc q h) hFc (fun r_14 u t H1 locs ht hvm hw hB hz1 hk1 hS => ?_)
                obtain ⟨hP1, hK1, hD1⟩ := hB
                rw [ht] at hP1
                have hK1 := va_K.moved hvm.symm hK1
                obtain ⟨hP, hD⟩ := va_join (wr := [(h0, .inr (10, [.ref ts, .ref tp, .ref tw, .int z, .int pa, .int so, .int pl, .long wd])), (ts, .inl (t1, 2001, .inl gs)), (tp, .inl (t2, 2001, .inl gp)), (tw, .inl (t3, 2001, .inr (.inl gw))), (bt, .inl (bk, 2000, .inl gt))]) (w1 := []) hP hD [] [0, 1, 2, 3, 4] rfl rfl (by decide) (by decide) hk1 hFc hP1 hD1
                have hK := (hK.sub (tys' := [(t1, .int), (t2, .int), (t3, .long), (bk, .byte)]) [0, 1, 2, 3] rfl).app hK1
                generalize H1 = H at hP hS ⊢
                have hP : va_P (dC, dI) vwCl [(h0, .inr (10, [.ref ts, .ref tp, .ref tw, .int z, .int pa, .int so, .int pl, .long wd])), (ts, .inl (t1, 2001, .inl gs)), (tp, .inl (t2, 2001, .inl gp)), (tw, .inl (t3, 2001, .inr (.inl gw))), (bt, .inl (bk, 2000, .inl gt))] H := hP
                have hD : va_D A [(h0, .inr (10, [.ref ts, .ref tp, .ref tw, .int z, .int pa, .int so, .int pl, .long wd])), (ts, .inl (t1, 2001, .inl gs)), (tp, .inl (t2, 2001, .inl gp)), (tw, .inl (t3, 2001, .inr (.inl gw))), (bt, .inl (bk, 2000, .inl gt))] := hD
                have hK : va_K (dC, dI) vwCl [(t1, .int), (t2, .int), (t3, .long), (bk, .byte)] s := hK
                have hw_r_14 := hw
                try dsimp only at hw_r_14
                have hq_15 := hw
                refine lv_if_eq (tgt := 213) hx hb dX10_readWord_204 (by decide) (fun c_16 => ?_) (fun c_16 => ?_)
                · have ic_16 : r_14.toInt = 0 := zi_eq c_16
                  refine lv_sipush (v := 257) hx hb dX10_readWord_213 (by decide) ?_
                  refine va_iast hx hb hK hP hD hS 1 0 rfl rfl (vp_in_iff.mpr ⟨by omega, by omega⟩) dX10_readWord_216 (fun H locs hP hD hS => ?_)
                  obtain ⟨f_17, ef_17⟩ : ∃ gz9 : Nat → Int32, gz9 = upd gs (Int32.toNatClampNeg z) 257 := ⟨_, rfl⟩
                  rw [← ef_17] at hP hD
                  have hP : va_P (dC, dI) vwCl [(h0, .inr (10, [.ref ts, .ref tp, .ref tw, .int z, .int pa, .int so, .int pl, .long wd])), (ts, .inl (t1, 2001, .inl f_17)), (tp, .inl (t2, 2001, .inl gp)), (tw, .inl (t3, 2001, .inr (.inl gw))), (bt, .inl (bk, 2000, .inl gt))] H := hP
                  have hD : va_D A [(h0, .inr (10, [.ref ts, .ref tp, .ref tw, .int z, .int pa, .int so, .int pl, .long wd])), (ts, .inl (t1, 2001, .inl f_17)), (tp, .inl (t2, 2001, .inl gp)), (tw, .inl (t3, 2001, .inr (.inl gw))), (bt, .inl (bk, 2000, .inl gt))] := hD
                  refine lv_aload_n hx hb dX10_readWord_217 rfl (lv_at hl 6 rfl) ?_
                  refine va_get (D := (dC, dI)) (ci := 10) (v := .ref tw) (C := RX10) (T := TX10) (N := 8) hx hb hA zin_X10 hown hK hP 0 rfl rfl 2 (by decide) (hA _ wi_348) (fun _ h9 => h9) rfl dX10_readWord_218 ?_
                  refine lv_aload_n hx hb dX10_readWord_221 rfl (lv_at hl 6 rfl) ?_
                  refine va_get (D := (dC, dI)) (ci := 10) (v := .int z) (C := RX10) (T := TX10) (N := 8) hx hb hA zin_X10 hown hK hP 0 rfl rfl 3 (by decide) (hA _ wi_349) (fun _ h9 => h9) rfl dX10_readWord_222 ?_
                  refine lv_iload hx hb dX10_readWord_225 (lv_at hl 3 rfl) ?_
                  refine lv_iload hx hb dX10_readWord_227 (lv_at hl 0 rfl) ?_
                  refine lv_icmp_ne (tgt := 238) hx hb dX10_readWord_229 (by decide) (fun c_18 => ?_) (fun c_18 => ?_)
                  · have ic_18 : di.toInt ≠ x_2.toInt := zi_ne c_18
                    refine lv_lload hx hb dX10_readWord_238 (lv_at hl 1 rfl) ?_
                    refine va_last hx hb hK hP hD hS 3 2 rfl rfl (vp_in_iff.mpr ⟨by omega, by omega⟩) dX10_readWord_240 (fun H locs hP hD hS => ?_)
                    obtain ⟨f_19, ef_19⟩ : ∃ gz9 : Nat → Int64, gz9 = vp_updL gw (Int32.toNatClampNeg z) by_ := ⟨_, rfl⟩
                    rw [← ef_19] at hP hD
                    have hP : va_P (dC, dI) vwCl [(h0, .inr (10, [.ref ts, .ref tp, .ref tw, .int z, .int pa, .int so, .int pl, .long wd])), (ts, .inl (t1, 2001, .inl f_17)), (tp, .inl (t2, 2001, .inl gp)), (tw, .inl (t3, 2001, .inr (.inl f_19))), (bt, .inl (bk, 2000, .inl gt))] H := hP
                    have hD : va_D A [(h0, .inr (10, [.ref ts, .ref tp, .ref tw, .int z, .int pa, .int so, .int pl, .long wd])), (ts, .inl (t1, 2001, .inl f_17)), (tp, .inl (t2, 2001, .inl gp)), (tw, .inl (t3, 2001, .inr (.inl f_19))), (bt, .inl (bk, 2000, .inl gt))] := hD
                    refine lv_iload hx hb dX10_readWord_241 (lv_at hl 5 rfl) ?_
                    have hP9 := hP.sub (ws' := [(h0, .inr (10, [.ref ts, .ref tp, .ref tw, .int z, .int pa, .int so, .int pl, .long wd])), (ts, .inl (t1, 2001, .inl f_17)), (tp, .inl (t2, 2001, .inl gp)), (tw, .inl (t3, 2001, .inr (.inl f_19))), (bt, .inl (bk, 2000, .inl gt))]) [0, 1, 2, 3, 4] rfl
                    have hD9 := hD.sub (ws' := [(h0, .inr (10, [.ref ts, .ref tp, .ref tw, .int z, .int pa, .int so, .int pl, .long wd])), (ts, .inl (t1, 2001, .inl f_17)), (tp, .inl (t2, 2001, .inl gp)), (tw, .inl (t3, 2001, .inr (.inl f_19))), (bt, .inl (bk, 2000, .inl gt))]) [0, 1, 2, 3, 4] (by decide) rfl
                    have hK9 := hK.sub (tys' := [(t1, .int), (t2, .int), (t3, .long), (bk, .byte)]) [0, 1, 2, 3] rfl
                    exact W.iret (v := to) hx hb hr (fun t ht hW => ⟨⟨to, (f_17, f_19), rfl, ⟨by omega, by omega, ⟨_, ef_17, by decide⟩⟩, by rw [ht]; exact hP9, va_K.moved hW.alike hK9, hD9⟩, hS.F ht⟩) hS.2.2 dX10_readWord_243
                  · have ic_18 : di.toInt = x_2.toInt := zi_eq c_18
                    refine lv_iload hx hb dX10_readWord_232 (lv_at hl 2 rfl) ?_
                    obtain ⟨x_20, ex_20⟩ : ∃ z : Int64, z = Int32.toInt64 nu := ⟨_, rfl⟩
                    refine lv_i2l (v := x_20) hx hb dX10_readWord_234 ex_20.symm ?_
                    refine lv_goto (tgt := 240) hx hb dX10_readWord_235 (by decide) ?_
                    refine va_last hx hb hK hP hD hS 3 2 rfl rfl (vp_in_iff.mpr ⟨by omega, by omega⟩) dX10_readWord_240 (fun H locs hP hD hS => ?_)
                    obtain ⟨f_21, ef_21⟩ : ∃ gz9 : Nat → Int64, gz9 = vp_updL gw (Int32.toNatClampNeg z) x_20 := ⟨_, rfl⟩
                    rw [← ef_21] at hP hD
                    have hP : va_P (dC, dI) vwCl [(h0, .inr (10, [.ref ts, .ref tp, .ref tw, .int z, .int pa, .int so, .int pl, .long wd])), (ts, .inl (t1, 2001, .inl f_17)), (tp, .inl (t2, 2001, .inl gp)), (tw, .inl (t3, 2001, .inr (.inl f_21))), (bt, .inl (bk, 2000, .inl gt))] H := hP
                    have hD : va_D A [(h0, .inr (10, [.ref ts, .ref tp, .ref tw, .int z, .int pa, .int so, .int pl, .long wd])), (ts, .inl (t1, 2001, .inl f_17)), (tp, .inl (t2, 2001, .inl gp)), (tw, .inl (t3, 2001, .inr (.inl f_21))), (bt, .inl (bk, 2000, .inl gt))] := hD
                    refine lv_iload hx hb dX10_readWord_241 (lv_at hl 5 rfl) ?_
                    have hP9 := hP.sub (ws' := [(h0, .inr (10, [.ref ts, .ref tp, .ref tw, .int z, .int pa, .int so, .int pl, .long wd])), (ts, .inl (t1, 2001, .inl f_17)), (tp, .inl (t2, 2001, .inl gp)), (tw, .inl (t3, 2001, .inr (.inl f_21))), (bt, .inl (bk, 2000, .inl gt))]) [0, 1, 2, 3, 4] rfl
                    have hD9 := hD.sub (ws' := [(h0, .inr (10, [.ref ts, .ref tp, .ref tw, .int z, .int pa, .int so, .int pl, .long wd])), (ts, .inl (t1, 2001, .inl f_17)), (tp, .inl (t2, 2001, .inl gp)), (tw, .inl (t3, 2001, .inr (.inl f_21))), (bt, .inl (bk, 2000, .inl gt))]) [0, 1, 2, 3, 4] (by decide) rfl
                    have hK9 := hK.sub (tys' := [(t1, .int), (t2, .int), (t3, .long), (bk, .byte)]) [0, 1, 2, 3] rfl
                    exact W.iret (v := to) hx hb hr (fun t ht hW => ⟨⟨to, (f_17, f_21), rfl, ⟨by omega, by omega, ⟨_, ef_17, by decide⟩⟩, by rw [ht]; exact hP9, va_K.moved hW.alike hK9, hD9⟩, hS.F ht⟩) hS.2.2 dX10_readWord_243
                · have ic_16 : r_14.toInt ≠ 0 := zi_ne c_16
                  refine lv_sipush (v := 259) hx hb dX10_readWord_207 (by decide) ?_
                  refine lv_goto (tgt := 216) hx hb dX10_readWord_210 (by decide) ?_
                  refine va_iast hx hb hK hP hD hS 1 0 rfl rfl (vp_in_iff.mpr ⟨by omega, by omega⟩) dX10_readWord_216 (fun H locs hP hD hS => ?_)
                  obtain ⟨f_22, ef_22⟩ : ∃ gz9 : Nat → Int32, gz9 = upd gs (Int32.toNatClampNeg z) 259 := ⟨_, rfl⟩
                  rw [← ef_22] at hP hD
                  have hP : va_P (dC, dI) vwCl [(h0, .inr (10, [.ref ts, .ref tp, .ref tw, .int z, .int pa, .int so, .int pl, .long wd])), (ts, .inl (t1, 2001, .inl f_22)), (tp, .inl (t2, 2001, .inl gp)), (tw, .inl (t3, 2001, .inr (.inl gw))), (bt, .inl (bk, 2000, .inl gt))] H := hP
                  have hD : va_D A [(h0, .inr (10, [.ref ts, .ref tp, .ref tw, .int z, .int pa, .int so, .int pl, .long wd])), (ts, .inl (t1, 2001, .inl f_22)), (tp, .inl (t2, 2001, .inl gp)), (tw, .inl (t3, 2001, .inr (.inl gw))), (bt, .inl (bk, 2000, .inl gt))] := hD
                  refine lv_aload_n hx hb dX10_readWord_217 rfl (lv_at hl 6 rfl) ?_
                  refine va_get (D := (dC, dI)) (ci := 10) (v := .ref tw) (C := RX10) (T := TX10) (N := 8) hx hb hA zin_X10 hown hK hP 0 rfl rfl 2 (by decide) (hA _ wi_348) (fun _ h9 => h9) rfl dX10_readWord_218 ?_
                  refine lv_aload_n hx hb dX10_readWord_221 rfl (lv_at hl 6 rfl) ?_
                  refine va_get (D := (dC, dI)) (ci := 10) (v := .int z) (C := RX10) (T := TX10) (N := 8) hx hb hA zin_X10 hown hK hP 0 rfl rfl 3 (by decide) (hA _ wi_349) (fun _ h9 => h9) rfl dX10_readWord_222 ?_
                  refine lv_iload hx hb dX10_readWord_225 (lv_at hl 3 rfl) ?_
                  refine lv_iload hx hb dX10_readWord_227 (lv_at hl 0 rfl) ?_
                  refine lv_icmp_ne (tgt := 238) hx hb dX10_readWord_229 (by decide) (fun c_23 => ?_) (fun c_23 => ?_)
                  · have ic_23 : di.toInt ≠ x_2.toInt := zi_ne c_23
                    refine lv_lload hx hb dX10_readWord_238 (lv_at hl 1 rfl) ?_
                    refine va_last hx hb hK hP hD hS 3 2 rfl rfl (vp_in_iff.mpr ⟨by omega, by omega⟩) dX10_readWord_240 (fun H locs hP hD hS => ?_)
                    obtain ⟨f_24, ef_24⟩ : ∃ gz9 : Nat → Int64, gz9 = vp_updL gw (Int32.toNatClampNeg z) by_ := ⟨_, rfl⟩
                    rw [← ef_24] at hP hD
                    have hP : va_P (dC, dI) vwCl [(h0, .inr (10, [.ref ts, .ref tp, .ref tw, .int z, .int pa, .int so, .int pl, .long wd])), (ts, .inl (t1, 2001, .inl f_22)), (tp, .inl (t2, 2001, .inl gp)), (tw, .inl (t3, 2001, .inr (.inl f_24))), (bt, .inl (bk, 2000, .inl gt))] H := hP
                    have hD : va_D A [(h0, .inr (10, [.ref ts, .ref tp, .ref tw, .int z, .int pa, .int so, .int pl, .long wd])), (ts, .inl (t1, 2001, .inl f_22)), (tp, .inl (t2, 2001, .inl gp)), (tw, .inl (t3, 2001, .inr (.inl f_24))), (bt, .inl (bk, 2000, .inl gt))] := hD
                    refine lv_iload hx hb dX10_readWord_241 (lv_at hl 5 rfl) ?_
                    have hP9 := hP.sub (ws' := [(h0, .inr (10, [.ref ts, .ref tp, .ref tw, .int z, .int pa, .int so, .int pl, .long wd])), (ts, .inl (t1, 2001, .inl f_22)), (tp, .inl (t2, 2001, .inl gp)), (tw, .inl (t3, 2001, .inr (.inl f_24))), (bt, .inl (bk, 2000, .inl gt))]) [0, 1, 2, 3, 4] rfl
                    have hD9 := hD.sub (ws' := [(h0, .inr (10, [.ref ts, .ref tp, .ref tw, .int z, .int pa, .int so, .int pl, .long wd])), (ts, .inl (t1, 2001, .inl f_22)), (tp, .inl (t2, 2001, .inl gp)), (tw, .inl (t3, 2001, .inr (.inl f_24))), (bt, .inl (bk, 2000, .inl gt))]) [0, 1, 2, 3, 4] (by decide) rfl
                    have hK9 := hK.sub (tys' := [(t1, .int), (t2, .int), (t3, .long), (bk, .byte)]) [0, 1, 2, 3] rfl
                    exact W.iret (v := to) hx hb hr (fun t ht hW => ⟨⟨to, (f_22, f_24), rfl, ⟨by omega, by omega, ⟨_, ef_22, by decide⟩⟩, by rw [ht]; exact hP9, va_K.moved hW.alike hK9, hD9⟩, hS.F ht⟩) hS.2.2 dX10_readWord_243
                  · have ic_23 : di.toInt = x_2.toInt := zi_eq c_23
                    refine lv_iload hx hb dX10_readWord_232 (lv_at hl 2 rfl) ?_
                    obtain ⟨x_25, ex_25⟩ : ∃ z : Int64, z = Int32.toInt64 nu := ⟨_, rfl⟩
                    refine lv_i2l (v := x_25) hx hb dX10_readWord_234 ex_25.symm ?_
                    refine lv_goto (tgt := 240) hx hb dX10_readWord_235 (by decide) ?_
                    refine va_last hx hb hK hP hD hS 3 2 rfl rfl (vp_in_iff.mpr ⟨by omega, by omega⟩) dX10_readWord_240 (fun H locs hP hD hS => ?_)
                    obtain ⟨f_26, ef_26⟩ : ∃ gz9 : Nat → Int64, gz9 = vp_updL gw (Int32.toNatClampNeg z) x_25 := ⟨_, rfl⟩
                    rw [← ef_26] at hP hD
                    have hP : va_P (dC, dI) vwCl [(h0, .inr (10, [.ref ts, .ref tp, .ref tw, .int z, .int pa, .int so, .int pl, .long wd])), (ts, .inl (t1, 2001, .inl f_22)), (tp, .inl (t2, 2001, .inl gp)), (tw, .inl (t3, 2001, .inr (.inl f_26))), (bt, .inl (bk, 2000, .inl gt))] H := hP
                    have hD : va_D A [(h0, .inr (10, [.ref ts, .ref tp, .ref tw, .int z, .int pa, .int so, .int pl, .long wd])), (ts, .inl (t1, 2001, .inl f_22)), (tp, .inl (t2, 2001, .inl gp)), (tw, .inl (t3, 2001, .inr (.inl f_26))), (bt, .inl (bk, 2000, .inl gt))] := hD
                    refine lv_iload hx hb dX10_readWord_241 (lv_at hl 5 rfl) ?_
                    have hP9 := hP.sub (ws' := [(h0, .inr (10, [.ref ts, .ref tp, .ref tw, .int z, .int pa, .int so, .int pl, .long wd])), (ts, .inl (t1, 2001, .inl f_22)), (tp, .inl (t2, 2001, .inl gp)), (tw, .inl (t3, 2001, .inr (.inl f_26))), (bt, .inl (bk, 2000, .inl gt))]) [0, 1, 2, 3, 4] rfl
                    have hD9 := hD.sub (ws' := [(h0, .inr (10, [.ref ts, .ref tp, .ref tw, .int z, .int pa, .int so, .int pl, .long wd])), (ts, .inl (t1, 2001, .inl f_22)), (tp, .inl (t2, 2001, .inl gp)), (tw, .inl (t3, 2001, .inr (.inl f_26))), (bt, .inl (bk, 2000, .inl gt))]) [0, 1, 2, 3, 4] (by decide) rfl
                    have hK9 := hK.sub (tys' := [(t1, .int), (t2, .int), (t3, .long), (bk, .byte)]) [0, 1, 2, 3] rfl
                    exact W.iret (v := to) hx hb hr (fun t ht hW => ⟨⟨to, (f_22, f_26), rfl, ⟨by omega, by omega, ⟨_, ef_22, by decide⟩⟩, by rw [ht]; exact hP9, va_K.moved hW.alike hK9, hD9⟩, hS.F ht⟩) hS.2.2 dX10_readWord_243
            · have ic_5 : sm.toInt = x_2.toInt := zi_eq c_5
              refine lv_aload_n hx hb dX10_readWord_164 rfl (lv_at hl 6 rfl) ?_
              refine va_get (D := (dC, dI)) (ci := 10) (v := .ref ts) (C := RX10) (T := TX10) (N := 8) hx hb hA zin_X10 hown hK hP 0 rfl rfl 0 (by decide) (hA _ wi_346) (fun _ h9 => h9) rfl dX10_readWord_165 ?_
              refine lv_aload_n hx hb dX10_readWord_168 rfl (lv_at hl 6 rfl) ?_
              refine va_get (D := (dC, dI)) (ci := 10) (v := .int z) (C := RX10) (T := TX10) (N := 8) hx hb hA zin_X10 hown hK hP 0 rfl rfl 3 (by decide) (hA _ wi_349) (fun _ h9 => h9) rfl dX10_readWord_169 ?_
              refine lv_lload hx hb dX10_readWord_172 (lv_at hl 1 rfl) ?_
              have hPc := hP.sub (ws' := []) [] rfl
              have hDc := hD.sub (ws' := []) [] (by decide) rfl
              have hKc := hK.sub (tys' := []) [] rfl
              have hFc := va_free (wc := []) hD hS hAA [] rfl
              refine va_calli (va_runS (As := [.long by_]) (rest := [.int z, .ref ts]) ⟨hx, hb, hml, hown, hA⟩ (c_X10_sortOfSmall_x l dC dI aK aV by_ H.size) (va_cwS 1 hA (zw_S wi_677 wi_678 wi_137 (zw_good wi_679)) rfl rfl rfl (by decide +kernel) ⟨(Nat.le_of_ble_eq_true rfl), (Nat.le_of_ble_eq_true rfl)⟩) ⟨zP_blind, zz_pre hKc hPc hDc hN hT hS hFc⟩ rfl rfl hl.1 rfl (lv_room (Nat.le_of_ble_eq_true rfl)) dX10_readWord_174 ⟨(Nat.le_of_ble_eq_true rfl), (Nat.le_of_ble_eq_true rfl)⟩) hS (fun q _ h => hFc q h) hFc (fun r_27 u t H1 locs ht hvm hw hB hz1 hk1 hS => ?_)
              obtain ⟨hP1, hK1, hD1⟩ := hB
              rw [ht] at hP1
              have hK1 := va_K.moved hvm.symm hK1
              obtain ⟨hP, hD⟩ := va_join (wr := [(h0, .inr (10, [.ref ts, .ref tp, .ref tw, .int z, .int pa, .int so, .int pl, .long wd])), (ts, .inl (t1, 2001, .inl gs)), (tp, .inl (t2, 2001, .inl gp)), (tw, .inl (t3, 2001, .inr (.inl gw))), (bt, .inl (bk, 2000, .inl gt))]) (w1 := []) hP hD [] [0, 1, 2, 3, 4] rfl rfl (by decide) (by decide) hk1 hFc hP1 hD1
              have hK := (hK.sub (tys' := [(t1, .int), (t2, .int), (t3, .long), (bk, .byte)]) [0, 1, 2, 3] rfl).app hK1
              generalize H1 = H at hP hS ⊢
              have hP : va_P (dC, dI) vwCl [(h0, .inr (10, [.ref ts, .ref tp, .ref tw, .int z, .int pa, .int so, .int pl, .long wd])), (ts, .inl (t1, 2001, .inl gs)), (tp, .inl (t2, 2001, .inl gp)), (tw, .inl (t3, 2001, .inr (.inl gw))), (bt, .inl (bk, 2000, .inl gt))] H := hP
              have hD : va_D A [(h0, .inr (10, [.ref ts, .ref tp, .ref tw, .int z, .int pa, .int so, .int pl, .long wd])), (ts, .inl (t1, 2001, .inl gs)), (tp, .inl (t2, 2001, .inl gp)), (tw, .inl (t3, 2001, .inr (.inl gw))), (bt, .inl (bk, 2000, .inl gt))] := hD
              have hK : va_K (dC, dI) vwCl [(t1, .int), (t2, .int), (t3, .long), (bk, .byte)] s := hK
              have hw_r_27 := hw
              try dsimp only at hw_r_27
              have hq_28 := hw
              refine va_iast hx hb hK hP hD hS 1 0 rfl rfl (vp_in_iff.mpr ⟨by omega, by omega⟩) dX10_readWord_177 (fun H locs hP hD hS => ?_)
              obtain ⟨f_29, ef_29⟩ : ∃ gz9 : Nat → Int32, gz9 = upd gs (Int32.toNatClampNeg z) r_27 := ⟨_, rfl⟩
              rw [← ef_29] at hP hD
              have hP : va_P (dC, dI) vwCl [(h0, .inr (10, [.ref ts, .ref tp, .ref tw, .int z, .int pa, .int so, .int pl, .long wd])), (ts, .inl (t1, 2001, .inl f_29)), (tp, .inl (t2, 2001, .inl gp)), (tw, .inl (t3, 2001, .inr (.inl gw))), (bt, .inl (bk, 2000, .inl gt))] H := hP
              have hD : va_D A [(h0, .inr (10, [.ref ts, .ref tp, .ref tw, .int z, .int pa, .int so, .int pl, .long wd])), (ts, .inl (t1, 2001, .inl f_29)), (tp, .inl (t2, 2001, .inl gp)), (tw, .inl (t3, 2001, .inr (.inl gw))), (bt, .inl (bk, 2000, .inl gt))] := hD
              refine lv_goto (tgt := 217) hx hb dX10_readWord_178 (by decide) ?_
              refine lv_aload_n hx hb dX10_readWord_217 rfl (lv_at hl 6 rfl) ?_
              refine va_get (D := (dC, dI)) (ci := 10) (v := .ref tw) (C := RX10) (T := TX10) (N := 8) hx hb hA zin_X10 hown hK hP 0 rfl rfl 2 (by decide) (hA _ wi_348) (fun _ h9 => h9) rfl dX10_readWord_218 ?_
              refine lv_aload_n hx hb dX10_readWord_221 rfl (lv_at hl 6 rfl) ?_
              refine va_get (D := (dC, dI)) (ci := 10) (v := .int z) (C := RX10) (T := TX10) (N := 8) hx hb hA zin_X10 hown hK hP 0 rfl rfl 3 (by decide) (hA _ wi_349) (fun _ h9 => h9) rfl dX10_readWord_222 ?_
              refine lv_iload hx hb dX10_readWord_225 (lv_at hl 3 rfl) ?_
              refine lv_iload hx hb dX10_readWord_227 (lv_at hl 0 rfl) ?_
              refine lv_icmp_ne (tgt := 238) hx hb dX10_readWord_229 (by decide) (fun c_30 => ?_) (fun c_30 => ?_)
              · have ic_30 : di.toInt ≠ x_2.toInt := zi_ne c_30
                refine lv_lload hx hb dX10_readWord_238 (lv_at hl 1 rfl) ?_
                refine va_last hx hb hK hP hD hS 3 2 rfl rfl (vp_in_iff.mpr ⟨by omega, by omega⟩) dX10_readWord_240 (fun H locs hP hD hS => ?_)
                obtain ⟨f_31, ef_31⟩ : ∃ gz9 : Nat → Int64, gz9 = vp_updL gw (Int32.toNatClampNeg z) by_ := ⟨_, rfl⟩
                rw [← ef_31] at hP hD
                have hP : va_P (dC, dI) vwCl [(h0, .inr (10, [.ref ts, .ref tp, .ref tw, .int z, .int pa, .int so, .int pl, .long wd])), (ts, .inl (t1, 2001, .inl f_29)), (tp, .inl (t2, 2001, .inl gp)), (tw, .inl (t3, 2001, .inr (.inl f_31))), (bt, .inl (bk, 2000, .inl gt))] H := hP
                have hD : va_D A [(h0, .inr (10, [.ref ts, .ref tp, .ref tw, .int z, .int pa, .int so, .int pl, .long wd])), (ts, .inl (t1, 2001, .inl f_29)), (tp, .inl (t2, 2001, .inl gp)), (tw, .inl (t3, 2001, .inr (.inl f_31))), (bt, .inl (bk, 2000, .inl gt))] := hD
                refine lv_iload hx hb dX10_readWord_241 (lv_at hl 5 rfl) ?_
                have hP9 := hP.sub (ws' := [(h0, .inr (10, [.ref ts, .ref tp, .ref tw, .int z, .int pa, .int so, .int pl, .long wd])), (ts, .inl (t1, 2001, .inl f_29)), (tp, .inl (t2, 2001, .inl gp)), (tw, .inl (t3, 2001, .inr (.inl f_31))), (bt, .inl (bk, 2000, .inl gt))]) [0, 1, 2, 3, 4] rfl
                have hD9 := hD.sub (ws' := [(h0, .inr (10, [.ref ts, .ref tp, .ref tw, .int z, .int pa, .int so, .int pl, .long wd])), (ts, .inl (t1, 2001, .inl f_29)), (tp, .inl (t2, 2001, .inl gp)), (tw, .inl (t3, 2001, .inr (.inl f_31))), (bt, .inl (bk, 2000, .inl gt))]) [0, 1, 2, 3, 4] (by decide) rfl
                have hK9 := hK.sub (tys' := [(t1, .int), (t2, .int), (t3, .long), (bk, .byte)]) [0, 1, 2, 3] rfl
                exact W.iret (v := to) hx hb hr (fun t ht hW => ⟨⟨to, (f_29, f_31), rfl, ⟨by omega, by omega, ⟨_, ef_29, by omega⟩⟩, by rw [ht]; exact hP9, va_K.moved hW.alike hK9, hD9⟩, hS.F ht⟩) hS.2.2 dX10_readWord_243
              · have ic_30 : di.toInt = x_2.toInt := zi_eq c_30
                refine lv_iload hx hb dX10_readWord_232 (lv_at hl 2 rfl) ?_
                obtain ⟨x_32, ex_32⟩ : ∃ z : Int64, z = Int32.toInt64 nu := ⟨_, rfl⟩
                refine lv_i2l (v := x_32) hx hb dX10_readWord_234 ex_32.symm ?_
                refine lv_goto (tgt := 240) hx hb dX10_readWord_235 (by decide) ?_
                refine va_last hx hb hK hP hD hS 3 2 rfl rfl (vp_in_iff.mpr ⟨by omega, by omega⟩) dX10_readWord_240 (fun H locs hP hD hS => ?_)
                obtain ⟨f_33, ef_33⟩ : ∃ gz9 : Nat → Int64, gz9 = vp_updL gw (Int32.toNatClampNeg z) x_32 := ⟨_, rfl⟩
                rw [← ef_33] at hP hD
                have hP : va_P (dC, dI) vwCl [(h0, .inr (10, [.ref ts, .ref tp, .ref tw, .int z, .int pa, .int so, .int pl, .long wd])), (ts, .inl (t1, 2001, .inl f_29)), (tp, .inl (t2, 2001, .inl gp)), (tw, .inl (t3, 2001, .inr (.inl f_33))), (bt, .inl (bk, 2000, .inl gt))] H := hP
                have hD : va_D A [(h0, .inr (10, [.ref ts, .ref tp, .ref tw, .int z, .int pa, .int so, .int pl, .long wd])), (ts, .inl (t1, 2001, .inl f_29)), (tp, .inl (t2, 2001, .inl gp)), (tw, .inl (t3, 2001, .inr (.inl f_33))), (bt, .inl (bk, 2000, .inl gt))] := hD
                refine lv_iload hx hb dX10_readWord_241 (lv_at hl 5 rfl) ?_
                have hP9 := hP.sub (ws' := [(h0, .inr (10, [.ref ts, .ref tp, .ref tw, .int z, .int pa, .int so, .int pl, .long wd])), (ts, .inl (t1, 2001, .inl f_29)), (tp, .inl (t2, 2001, .inl gp)), (tw, .inl (t3, 2001, .inr (.inl f_33))), (bt, .inl (bk, 2000, .inl gt))]) [0, 1, 2, 3, 4] rfl
                have hD9 := hD.sub (ws' := [(h0, .inr (10, [.ref ts, .ref tp, .ref tw, .int z, .int pa, .int so, .int pl, .long wd])), (ts, .inl (t1, 2001, .inl f_29)), (tp, .inl (t2, 2001, .inl gp)), (tw, .inl (t3, 2001, .inr (.inl f_33))), (bt, .inl (bk, 2000, .inl gt))]) [0, 1, 2, 3, 4] (by decide) rfl
                have hK9 := hK.sub (tys' := [(t1, .int), (t2, .int), (t3, .long), (bk, .byte)]) [0, 1, 2, 3] rfl
                exact W.iret (v := to) hx hb hr (fun t ht hW => ⟨⟨to, (f_29, f_33), rfl, ⟨by omega, by omega, ⟨_, ef_29, by omega⟩⟩, by rw [ht]; exact hP9, va_K.moved hW.alike hK9, hD9⟩, hS.F ht⟩) hS.2.2 dX10_readWord_243
          · have ic_4 : 8 < x_2.toInt := zi_nle c_4
            refine lv_aload_n hx hb dX10_readWord_142 rfl (lv_at hl 6 rfl) ?_
            refine va_get (D := (dC, dI)) (ci := 10) (v := .ref ts) (C := RX10) (T := TX10) (N := 8) hx hb hA zin_X10 hown hK hP 0 rfl rfl 0 (by decide) (hA _ wi_346) (fun _ h9 => h9) rfl dX10_readWord_143 ?_
            refine lv_aload_n hx hb dX10_readWord_146 rfl (lv_at hl 6 rfl) ?_
            refine va_get (D := (dC, dI)) (ci := 10) (v := .int z) (C := RX10) (T := TX10) (N := 8) hx hb hA zin_X10 hown hK hP 0 rfl rfl 3 (by decide) (hA _ wi_349) (fun _ h9 => h9) rfl dX10_readWord_147 ?_
            refine lv_sipush (v := 257) hx hb dX10_readWord_150 (by decide) ?_
            refine va_iast hx hb hK hP hD hS 1 0 rfl rfl (vp_in_iff.mpr ⟨by omega, by omega⟩) dX10_readWord_153 (fun H locs hP hD hS => ?_)
            obtain ⟨f_34, ef_34⟩ : ∃ gz9 : Nat → Int32, gz9 = upd gs (Int32.toNatClampNeg z) 257 := ⟨_, rfl⟩
            rw [← ef_34] at hP hD
            have hP : va_P (dC, dI) vwCl [(h0, .inr (10, [.ref ts, .ref tp, .ref tw, .int z, .int pa, .int so, .int pl, .long wd])), (ts, .inl (t1, 2001, .inl f_34)), (tp, .inl (t2, 2001, .inl gp)), (tw, .inl (t3, 2001, .inr (.inl gw))), (bt, .inl (bk, 2000, .inl gt))] H := hP
            have hD : va_D A [(h0, .inr (10, [.ref ts, .ref tp, .ref tw, .int z, .int pa, .int so, .int pl, .long wd])), (ts, .inl (t1, 2001, .inl f_34)), (tp, .inl (t2, 2001, .inl gp)), (tw, .inl (t3, 2001, .inr (.inl gw))), (bt, .inl (bk, 2000, .inl gt))] := hD
            refine lv_goto (tgt := 217) hx hb dX10_readWord_154 (by decide) ?_
            refine lv_aload_n hx hb dX10_readWord_217 rfl (lv_at hl 6 rfl) ?_
            refine va_get (D := (dC, dI)) (ci := 10) (v := .ref tw) (C := RX10) (T := TX10) (N := 8) hx hb hA zin_X10 hown hK hP 0 rfl rfl 2 (by decide) (hA _ wi_348) (fun _ h9 => h9) rfl dX10_readWord_218 ?_
            refine lv_aload_n hx hb dX10_readWord_221 rfl (lv_at hl 6 rfl) ?_
            refine va_get (D := (dC, dI)) (ci := 10) (v := .int z) (C := RX10) (T := TX10) (N := 8) hx hb hA zin_X10 hown hK hP 0 rfl rfl 3 (by decide) (hA _ wi_349) (fun _ h9 => h9) rfl dX10_readWord_222 ?_
            refine lv_iload hx hb dX10_readWord_225 (lv_at hl 3 rfl) ?_
            refine lv_iload hx hb dX10_readWord_227 (lv_at hl 0 rfl) ?_
            refine lv_icmp_ne (tgt := 238) hx hb dX10_readWord_229 (by decide) (fun c_35 => ?_) (fun c_35 => ?_)
            · have ic_35 : di.toInt ≠ x_2.toInt := zi_ne c_35
              refine lv_lload hx hb dX10_readWord_238 (lv_at hl 1 rfl) ?_
              refine va_last hx hb hK hP hD hS 3 2 rfl rfl (vp_in_iff.mpr ⟨by omega, by omega⟩) dX10_readWord_240 (fun H locs hP hD hS => ?_)
              obtain ⟨f_36, ef_36⟩ : ∃ gz9 : Nat → Int64, gz9 = vp_updL gw (Int32.toNatClampNeg z) by_ := ⟨_, rfl⟩
              rw [← ef_36] at hP hD
              have hP : va_P (dC, dI) vwCl [(h0, .inr (10, [.ref ts, .ref tp, .ref tw, .int z, .int pa, .int so, .int pl, .long wd])), (ts, .inl (t1, 2001, .inl f_34)), (tp, .inl (t2, 2001, .inl gp)), (tw, .inl (t3, 2001, .inr (.inl f_36))), (bt, .inl (bk, 2000, .inl gt))] H := hP
              have hD : va_D A [(h0, .inr (10, [.ref ts, .ref tp, .ref tw, .int z, .int pa, .int so, .int pl, .long wd])), (ts, .inl (t1, 2001, .inl f_34)), (tp, .inl (t2, 2001, .inl gp)), (tw, .inl (t3, 2001, .inr (.inl f_36))), (bt, .inl (bk, 2000, .inl gt))] := hD
              refine lv_iload hx hb dX10_readWord_241 (lv_at hl 5 rfl) ?_
              have hP9 := hP.sub (ws' := [(h0, .inr (10, [.ref ts, .ref tp, .ref tw, .int z, .int pa, .int so, .int pl, .long wd])), (ts, .inl (t1, 2001, .inl f_34)), (tp, .inl (t2, 2001, .inl gp)), (tw, .inl (t3, 2001, .inr (.inl f_36))), (bt, .inl (bk, 2000, .inl gt))]) [0, 1, 2, 3, 4] rfl
              have hD9 := hD.sub (ws' := [(h0, .inr (10, [.ref ts, .ref tp, .ref tw, .int z, .int pa, .int so, .int pl, .long wd])), (ts, .inl (t1, 2001, .inl f_34)), (tp, .inl (t2, 2001, .inl gp)), (tw, .inl (t3, 2001, .inr (.inl f_36))), (bt, .inl (bk, 2000, .inl gt))]) [0, 1, 2, 3, 4] (by decide) rfl
              have hK9 := hK.sub (tys' := [(t1, .int), (t2, .int), (t3, .long), (bk, .byte)]) [0, 1, 2, 3] rfl
              exact W.iret (v := to) hx hb hr (fun t ht hW => ⟨⟨to, (f_34, f_36), rfl, ⟨by omega, by omega, ⟨_, ef_34, by decide⟩⟩, by rw [ht]; exact hP9, va_K.moved hW.alike hK9, hD9⟩, hS.F ht⟩) hS.2.2 dX10_readWord_243
            · have ic_35 : di.toInt = x_2.toInt := zi_eq c_35
              refine lv_iload hx hb dX10_readWord_232 (lv_at hl 2 rfl) ?_
              obtain ⟨x_37, ex_37⟩ : ∃ z : Int64, z = Int32.toInt64 nu := ⟨_, rfl⟩
              refine lv_i2l (v := x_37) hx hb dX10_readWord_234 ex_37.symm ?_
              refine lv_goto (tgt := 240) hx hb dX10_readWord_235 (by decide) ?_
              refine va_last hx hb hK hP hD hS 3 2 rfl rfl (vp_in_iff.mpr ⟨by omega, by omega⟩) dX10_readWord_240 (fun H locs hP hD hS => ?_)
              obtain ⟨f_38, ef_38⟩ : ∃ gz9 : Nat → Int64, gz9 = vp_updL gw (Int32.toNatClampNeg z) x_37 := ⟨_, rfl⟩
              rw [← ef_38] at hP hD
              have hP : va_P (dC, dI) vwCl [(h0, .inr (10, [.ref ts, .ref tp, .ref tw, .int z, .int pa, .int so, .int pl, .long wd])), (ts, .inl (t1, 2001, .inl f_34)), (tp, .inl (t2, 2001, .inl gp)), (tw, .inl (t3, 2001, .inr (.inl f_38))), (bt, .inl (bk, 2000, .inl gt))] H := hP
              have hD : va_D A [(h0, .inr (10, [.ref ts, .ref tp, .ref tw, .int z, .int pa, .int so, .int pl, .long wd])), (ts, .inl (t1, 2001, .inl f_34)), (tp, .inl (t2, 2001, .inl gp)), (tw, .inl (t3, 2001, .inr (.inl f_38))), (bt, .inl (bk, 2000, .inl gt))] := hD
              refine lv_iload hx hb dX10_readWord_241 (lv_at hl 5 rfl) ?_
              have hP9 := hP.sub (ws' := [(h0, .inr (10, [.ref ts, .ref tp, .ref tw, .int z, .int pa, .int so, .int pl, .long wd])), (ts, .inl (t1, 2001, .inl f_34)), (tp, .inl (t2, 2001, .inl gp)), (tw, .inl (t3, 2001, .inr (.inl f_38))), (bt, .inl (bk, 2000, .inl gt))]) [0, 1, 2, 3, 4] rfl
              have hD9 := hD.sub (ws' := [(h0, .inr (10, [.ref ts, .ref tp, .ref tw, .int z, .int pa, .int so, .int pl, .long wd])), (ts, .inl (t1, 2001, .inl f_34)), (tp, .inl (t2, 2001, .inl gp)), (tw, .inl (t3, 2001, .inr (.inl f_38))), (bt, .inl (bk, 2000, .inl gt))]) [0, 1, 2, 3, 4] (by decide) rfl
              have hK9 := hK.sub (tys' := [(t1, .int), (t2, .int), (t3, .long), (bk, .byte)]) [0, 1, 2, 3] rfl
              exact W.iret (v := to) hx hb hr (fun t ht hW => ⟨⟨to, (f_34, f_38), rfl, ⟨by omega, by omega, ⟨_, ef_34, by decide⟩⟩, by rw [ht]; exact hP9, va_K.moved hW.alike hK9, hD9⟩, hS.F ht⟩) hS.2.2 dX10_readWord_243
        · have ic_3 : di.toInt = x_2.toInt := zi_eq c_3
          refine lv_aload_n hx hb dX10_readWord_107 rfl (lv_at hl 6 rfl) ?_
          refine va_get (D := (dC, dI)) (ci := 10) (v := .ref ts) (C := RX10) (T := TX10) (N := 8) hx hb hA zin_X10 hown hK hP 0 rfl rfl 0 (by decide) (hA _ wi_346) (fun _ h9 => h9) rfl dX10_readWord_108 ?_
          refine lv_aload_n hx hb dX10_readWord_111 rfl (lv_at hl 6 rfl) ?_
          refine va_get (D := (dC, dI)) (ci := 10) (v := .int z) (C := RX10) (T := TX10) (N := 8) hx hb hA zin_X10 hown hK hP 0 rfl rfl 3 (by decide) (hA _ wi_349) (fun _ h9 => h9) rfl dX10_readWord_112 ?_
          refine lv_iload hx hb dX10_readWord_115 (lv_at hl 0 rfl) ?_
          refine lv_bipush (v := 9) hx hb dX10_readWord_117 (by decide) ?_
          refine lv_icmp_gt (tgt := 128) hx hb dX10_readWord_119 (by decide) (fun c_39 => ?_) (fun c_39 => ?_)
          · have ic_39 : 9 < x_2.toInt := zi_lt c_39
            refine lv_sipush (v := 257) hx hb dX10_readWord_128 (by decide) ?_
            refine va_iast hx hb hK hP hD hS 1 0 rfl rfl (vp_in_iff.mpr ⟨by omega, by omega⟩) dX10_readWord_131 (fun H locs hP hD hS => ?_)
            obtain ⟨f_40, ef_40⟩ : ∃ gz9 : Nat → Int32, gz9 = upd gs (Int32.toNatClampNeg z) 257 := ⟨_, rfl⟩
            rw [← ef_40] at hP hD
            have hP : va_P (dC, dI) vwCl [(h0, .inr (10, [.ref ts, .ref tp, .ref tw, .int z, .int pa, .int so, .int pl, .long wd])), (ts, .inl (t1, 2001, .inl f_40)), (tp, .inl (t2, 2001, .inl gp)), (tw, .inl (t3, 2001, .inr (.inl gw))), (bt, .inl (bk, 2000, .inl gt))] H := hP
            have hD : va_D A [(h0, .inr (10, [.ref ts, .ref tp, .ref tw, .int z, .int pa, .int so, .int pl, .long wd])), (ts, .inl (t1, 2001, .inl f_40)), (tp, .inl (t2, 2001, .inl gp)), (tw, .inl (t3, 2001, .inr (.inl gw))), (bt, .inl (bk, 2000, .inl gt))] := hD
            refine lv_goto (tgt := 217) hx hb dX10_readWord_132 (by decide) ?_
            refine lv_aload_n hx hb dX10_readWord_217 rfl (lv_at hl 6 rfl) ?_
            refine va_get (D := (dC, dI)) (ci := 10) (v := .ref tw) (C := RX10) (T := TX10) (N := 8) hx hb hA zin_X10 hown hK hP 0 rfl rfl 2 (by decide) (hA _ wi_348) (fun _ h9 => h9) rfl dX10_readWord_218 ?_
            refine lv_aload_n hx hb dX10_readWord_221 rfl (lv_at hl 6 rfl) ?_
            refine va_get (D := (dC, dI)) (ci := 10) (v := .int z) (C := RX10) (T := TX10) (N := 8) hx hb hA zin_X10 hown hK hP 0 rfl rfl 3 (by decide) (hA _ wi_349) (fun _ h9 => h9) rfl dX10_readWord_222 ?_
            refine lv_iload hx hb dX10_readWord_225 (lv_at hl 3 rfl) ?_
            refine lv_iload hx hb dX10_readWord_227 (lv_at hl 0 rfl) ?_
            refine lv_icmp_ne (tgt := 238) hx hb dX10_readWord_229 (by decide) (fun c_41 => ?_) (fun c_41 => ?_)
            · have ic_41 : di.toInt ≠ x_2.toInt := zi_ne c_41
              refine lv_lload hx hb dX10_readWord_238 (lv_at hl 1 rfl) ?_
              refine va_last hx hb hK hP hD hS 3 2 rfl rfl (vp_in_iff.mpr ⟨by omega, by omega⟩) dX10_readWord_240 (fun H locs hP hD hS => ?_)
              obtain ⟨f_42, ef_42⟩ : ∃ gz9 : Nat → Int64, gz9 = vp_updL gw (Int32.toNatClampNeg z) by_ := ⟨_, rfl⟩
              rw [← ef_42] at hP hD
              have hP : va_P (dC, dI) vwCl [(h0, .inr (10, [.ref ts, .ref tp, .ref tw, .int z, .int pa, .int so, .int pl, .long wd])), (ts, .inl (t1, 2001, .inl f_40)), (tp, .inl (t2, 2001, .inl gp)), (tw, .inl (t3, 2001, .inr (.inl f_42))), (bt, .inl (bk, 2000, .inl gt))] H := hP
              have hD : va_D A [(h0, .inr (10, [.ref ts, .ref tp, .ref tw, .int z, .int pa, .int so, .int pl, .long wd])), (ts, .inl (t1, 2001, .inl f_40)), (tp, .inl (t2, 2001, .inl gp)), (tw, .inl (t3, 2001, .inr (.inl f_42))), (bt, .inl (bk, 2000, .inl gt))] := hD
              refine lv_iload hx hb dX10_readWord_241 (lv_at hl 5 rfl) ?_
              have hP9 := hP.sub (ws' := [(h0, .inr (10, [.ref ts, .ref tp, .ref tw, .int z, .int pa, .int so, .int pl, .long wd])), (ts, .inl (t1, 2001, .inl f_40)), (tp, .inl (t2, 2001, .inl gp)), (tw, .inl (t3, 2001, .inr (.inl f_42))), (bt, .inl (bk, 2000, .inl gt))]) [0, 1, 2, 3, 4] rfl
              have hD9 := hD.sub (ws' := [(h0, .inr (10, [.ref ts, .ref tp, .ref tw, .int z, .int pa, .int so, .int pl, .long wd])), (ts, .inl (t1, 2001, .inl f_40)), (tp, .inl (t2, 2001, .inl gp)), (tw, .inl (t3, 2001, .inr (.inl f_42))), (bt, .inl (bk, 2000, .inl gt))]) [0, 1, 2, 3, 4] (by decide) rfl
              have hK9 := hK.sub (tys' := [(t1, .int), (t2, .int), (t3, .long), (bk, .byte)]) [0, 1, 2, 3] rfl
              exact W.iret (v := to) hx hb hr (fun t ht hW => ⟨⟨to, (f_40, f_42), rfl, ⟨by omega, by omega, ⟨_, ef_40, by decide⟩⟩, by rw [ht]; exact hP9, va_K.moved hW.alike hK9, hD9⟩, hS.F ht⟩) hS.2.2 dX10_readWord_243
            · have ic_41 : di.toInt = x_2.toInt := zi_eq c_41
              refine lv_iload hx hb dX10_readWord_232 (lv_at hl 2 rfl) ?_
              obtain ⟨x_43, ex_43⟩ : ∃ z : Int64, z = Int32.toInt64 nu := ⟨_, rfl⟩
              refine lv_i2l (v := x_43) hx hb dX10_readWord_234 ex_43.symm ?_
              refine lv_goto (tgt := 240) hx hb dX10_readWord_235 (by decide) ?_
              refine va_last hx hb hK hP hD hS 3 2 rfl rfl (vp_in_iff.mpr ⟨by omega, by omega⟩) dX10_readWord_240 (fun H locs hP hD hS => ?_)
              obtain ⟨f_44, ef_44⟩ : ∃ gz9 : Nat → Int64, gz9 = vp_updL gw (Int32.toNatClampNeg z) x_43 := ⟨_, rfl⟩
              rw [← ef_44] at hP hD
              have hP : va_P (dC, dI) vwCl [(h0, .inr (10, [.ref ts, .ref tp, .ref tw, .int z, .int pa, .int so, .int pl, .long wd])), (ts, .inl (t1, 2001, .inl f_40)), (tp, .inl (t2, 2001, .inl gp)), (tw, .inl (t3, 2001, .inr (.inl f_44))), (bt, .inl (bk, 2000, .inl gt))] H := hP
              have hD : va_D A [(h0, .inr (10, [.ref ts, .ref tp, .ref tw, .int z, .int pa, .int so, .int pl, .long wd])), (ts, .inl (t1, 2001, .inl f_40)), (tp, .inl (t2, 2001, .inl gp)), (tw, .inl (t3, 2001, .inr (.inl f_44))), (bt, .inl (bk, 2000, .inl gt))] := hD
              refine lv_iload hx hb dX10_readWord_241 (lv_at hl 5 rfl) ?_
              have hP9 := hP.sub (ws' := [(h0, .inr (10, [.ref ts, .ref tp, .ref tw, .int z, .int pa, .int so, .int pl, .long wd])), (ts, .inl (t1, 2001, .inl f_40)), (tp, .inl (t2, 2001, .inl gp)), (tw, .inl (t3, 2001, .inr (.inl f_44))), (bt, .inl (bk, 2000, .inl gt))]) [0, 1, 2, 3, 4] rfl
              have hD9 := hD.sub (ws' := [(h0, .inr (10, [.ref ts, .ref tp, .ref tw, .int z, .int pa, .int so, .int pl, .long wd])), (ts, .inl (t1, 2001, .inl f_40)), (tp, .inl (t2, 2001, .inl gp)), (tw, .inl (t3, 2001, .inr (.inl f_44))), (bt, .inl (bk, 2000, .inl gt))]) [0, 1, 2, 3, 4] (by decide) rfl
              have hK9 := hK.sub (tys' := [(t1, .int), (t2, .int), (t3, .long), (bk, .byte)]) [0, 1, 2, 3] rfl
              exact W.iret (v := to) hx hb hr (fun t ht hW => ⟨⟨to, (f_40, f_44), rfl, ⟨by omega, by omega, ⟨_, ef_40, by decide⟩⟩, by rw [ht]; exact hP9, va_K.moved hW.alike hK9, hD9⟩, hS.F ht⟩) hS.2.2 dX10_readWord_243
          · have ic_39 : x_2.toInt ≤ 9 := zi_nlt c_39
            refine lv_sipush (v := 260) hx hb dX10_readWord_122 (by decide) ?_
            refine lv_goto (tgt := 131) hx hb dX10_readWord_125 (by decide) ?_
            refine va_iast hx hb hK hP hD hS 1 0 rfl rfl (vp_in_iff.mpr ⟨by omega, by omega⟩) dX10_readWord_131 (fun H locs hP hD hS => ?_)
            obtain ⟨f_45, ef_45⟩ : ∃ gz9 : Nat → Int32, gz9 = upd gs (Int32.toNatClampNeg z) 260 := ⟨_, rfl⟩
            rw [← ef_45] at hP hD
            have hP : va_P (dC, dI) vwCl [(h0, .inr (10, [.ref ts, .ref tp, .ref tw, .int z, .int pa, .int so, .int pl, .long wd])), (ts, .inl (t1, 2001, .inl f_45)), (tp, .inl (t2, 2001, .inl gp)), (tw, .inl (t3, 2001, .inr (.inl gw))), (bt, .inl (bk, 2000, .inl gt))] H := hP
            have hD : va_D A [(h0, .inr (10, [.ref ts, .ref tp, .ref tw, .int z, .int pa, .int so, .int pl, .long wd])), (ts, .inl (t1, 2001, .inl f_45)), (tp, .inl (t2, 2001, .inl gp)), (tw, .inl (t3, 2001, .inr (.inl gw))), (bt, .inl (bk, 2000, .inl gt))] := hD
            refine lv_goto (tgt := 217) hx hb dX10_readWord_132 (by decide) ?_
            refine lv_aload_n hx hb dX10_readWord_217 rfl (lv_at hl 6 rfl) ?_
            refine va_get (D := (dC, dI)) (ci := 10) (v := .ref tw) (C := RX10) (T := TX10) (N := 8) hx hb hA zin_X10 hown hK hP 0 rfl rfl 2 (by decide) (hA _ wi_348) (fun _ h9 => h9) rfl dX10_readWord_218 ?_
            refine lv_aload_n hx hb dX10_readWord_221 rfl (lv_at hl 6 rfl) ?_
            refine va_get (D := (dC, dI)) (ci := 10) (v := .int z) (C := RX10) (T := TX10) (N := 8) hx hb hA zin_X10 hown hK hP 0 rfl rfl 3 (by decide) (hA _ wi_349) (fun _ h9 => h9) rfl dX10_readWord_222 ?_
            refine lv_iload hx hb dX10_readWord_225 (lv_at hl 3 rfl) ?_
            refine lv_iload hx hb dX10_readWord_227 (lv_at hl 0 rfl) ?_
            refine lv_icmp_ne (tgt := 238) hx hb dX10_readWord_229 (by decide) (fun c_46 => ?_) (fun c_46 => ?_)
            · have ic_46 : di.toInt ≠ x_2.toInt := zi_ne c_46
              refine lv_lload hx hb dX10_readWord_238 (lv_at hl 1 rfl) ?_
              refine va_last hx hb hK hP hD hS 3 2 rfl rfl (vp_in_iff.mpr ⟨by omega, by omega⟩) dX10_readWord_240 (fun H locs hP hD hS => ?_)
              obtain ⟨f_47, ef_47⟩ : ∃ gz9 : Nat → Int64, gz9 = vp_updL gw (Int32.toNatClampNeg z) by_ := ⟨_, rfl⟩
              rw [← ef_47] at hP hD
              have hP : va_P (dC, dI) vwCl [(h0, .inr (10, [.ref ts, .ref tp, .ref tw, .int z, .int pa, .int so, .int pl, .long wd])), (ts, .inl (t1, 2001, .inl f_45)), (tp, .inl (t2, 2001, .inl gp)), (tw, .inl (t3, 2001, .inr (.inl f_47))), (bt, .inl (bk, 2000, .inl gt))] H := hP
              have hD : va_D A [(h0, .inr (10, [.ref ts, .ref tp, .ref tw, .int z, .int pa, .int so, .int pl, .long wd])), (ts, .inl (t1, 2001, .inl f_45)), (tp, .inl (t2, 2001, .inl gp)), (tw, .inl (t3, 2001, .inr (.inl f_47))), (bt, .inl (bk, 2000, .inl gt))] := hD
              refine lv_iload hx hb dX10_readWord_241 (lv_at hl 5 rfl) ?_
              have hP9 := hP.sub (ws' := [(h0, .inr (10, [.ref ts, .ref tp, .ref tw, .int z, .int pa, .int so, .int pl, .long wd])), (ts, .inl (t1, 2001, .inl f_45)), (tp, .inl (t2, 2001, .inl gp)), (tw, .inl (t3, 2001, .inr (.inl f_47))), (bt, .inl (bk, 2000, .inl gt))]) [0, 1, 2, 3, 4] rfl
              have hD9 := hD.sub (ws' := [(h0, .inr (10, [.ref ts, .ref tp, .ref tw, .int z, .int pa, .int so, .int pl, .long wd])), (ts, .inl (t1, 2001, .inl f_45)), (tp, .inl (t2, 2001, .inl gp)), (tw, .inl (t3, 2001, .inr (.inl f_47))), (bt, .inl (bk, 2000, .inl gt))]) [0, 1, 2, 3, 4] (by decide) rfl
              have hK9 := hK.sub (tys' := [(t1, .int), (t2, .int), (t3, .long), (bk, .byte)]) [0, 1, 2, 3] rfl
              exact W.iret (v := to) hx hb hr (fun t ht hW => ⟨⟨to, (f_45, f_47), rfl, ⟨by omega, by omega, ⟨_, ef_45, by decide⟩⟩, by rw [ht]; exact hP9, va_K.moved hW.alike hK9, hD9⟩, hS.F ht⟩) hS.2.2 dX10_readWord_243
            · have ic_46 : di.toInt = x_2.toInt := zi_eq c_46
              refine lv_iload hx hb dX10_readWord_232 (lv_at hl 2 rfl) ?_
              obtain ⟨x_48, ex_48⟩ : ∃ z : Int64, z = Int32.toInt64 nu := ⟨_, rfl⟩
              refine lv_i2l (v := x_48) hx hb dX10_readWord_234 ex_48.symm ?_
              refine lv_goto (tgt := 240) hx hb dX10_readWord_235 (by decide) ?_
              refine va_last hx hb hK hP hD hS 3 2 rfl rfl (vp_in_iff.mpr ⟨by omega, by omega⟩) dX10_readWord_240 (fun H locs hP hD hS => ?_)
              obtain ⟨f_49, ef_49⟩ : ∃ gz9 : Nat → Int64, gz9 = vp_updL gw (Int32.toNatClampNeg z) x_48 := ⟨_, rfl⟩
              rw [← ef_49] at hP hD
              have hP : va_P (dC, dI) vwCl [(h0, .inr (10, [.ref ts, .ref tp, .ref tw, .int z, .int pa, .int so, .int pl, .long wd])), (ts, .inl (t1, 2001, .inl f_45)), (tp, .inl (t2, 2001, .inl gp)), (tw, .inl (t3, 2001, .inr (.inl f_49))), (bt, .inl (bk, 2000, .inl gt))] H := hP
              have hD : va_D A [(h0, .inr (10, [.ref ts, .ref tp, .ref tw, .int z, .int pa, .int so, .int pl, .long wd])), (ts, .inl (t1, 2001, .inl f_45)), (tp, .inl (t2, 2001, .inl gp)), (tw, .inl (t3, 2001, .inr (.inl f_49))), (bt, .inl (bk, 2000, .inl gt))] := hD
              refine lv_iload hx hb dX10_readWord_241 (lv_at hl 5 rfl) ?_
              have hP9 := hP.sub (ws' := [(h0, .inr (10, [.ref ts, .ref tp, .ref tw, .int z, .int pa, .int so, .int pl, .long wd])), (ts, .inl (t1, 2001, .inl f_45)), (tp, .inl (t2, 2001, .inl gp)), (tw, .inl (t3, 2001, .inr (.inl f_49))), (bt, .inl (bk, 2000, .inl gt))]) [0, 1, 2, 3, 4] rfl
              have hD9 := hD.sub (ws' := [(h0, .inr (10, [.ref ts, .ref tp, .ref tw, .int z, .int pa, .int so, .int pl, .long wd])), (ts, .inl (t1, 2001, .inl f_45)), (tp, .inl (t2, 2001, .inl gp)), (tw, .inl (t3, 2001, .inr (.inl f_49))), (bt, .inl (bk, 2000, .inl gt))]) [0, 1, 2, 3, 4] (by decide) rfl
              have hK9 := hK.sub (tys' := [(t1, .int), (t2, .int), (t3, .long), (bk, .byte)]) [0, 1, 2, 3] rfl
              exact W.iret (v := to) hx hb hr (fun t ht hW => ⟨⟨to, (f_45, f_49), rfl, ⟨by omega, by omega, ⟨_, ef_45, by decide⟩⟩, by rw [ht]; exact hP9, va_K.moved hW.alike hK9, hD9⟩, hS.F ht⟩) hS.2.2 dX10_readWord_243
      · have ic_1 : to.toInt < en.toInt := zi_nle c_1
        refine lv_aload_n hx hb dX10_readWord_21 rfl (lv_at hl 6 rfl) ?_
        refine lv_iload hx hb dX10_readWord_22 (lv_at hl 4 rfl) ?_
        refine va_bald hx hb hK hP 4 3 rfl rfl (vp_in_iff.mpr ⟨by omega, by omega⟩) dX10_readWord_24 ?_
        refine lv_topi (fun x_50 ex_50 => ?_)
        have hPc := hP.sub (ws' := []) [] rfl
        have hDc := hD.sub (ws' := []) [] (by decide) rfl
        have hKc := hK.sub (tys' := []) [] rfl
        have hFc := va_free (wc := []) hD hS hAA [] rfl
        refine va_calli (va_runS (As := [.int x_50]) (rest := []) ⟨hx, hb, hml, hown, hA⟩ (c_X10_isWordByte_x l dC dI aK aV x_50 H.size) (va_cwS 1 hA (zw_S wi_661 wi_662 wi_137 (zw_good wi_663)) rfl rfl rfl (by decide +kernel) ⟨(Nat.le_of_ble_eq_true rfl), (Nat.le_of_ble_eq_true rfl)⟩) ⟨zP_blind, zz_pre hKc hPc hDc hN hT hS hFc⟩ rfl rfl hl.1 rfl (lv_room (Nat.le_of_ble_eq_true rfl)) dX10_readWord_25 ⟨(Nat.le_of_ble_eq_true rfl), (Nat.le_of_ble_eq_true rfl)⟩) hS (fun q _ h => hFc q h) hFc (fun r_51 u t H1 locs ht hvm hw hB hz1 hk1 hS => ?_)
        obtain ⟨hP1, hK1, hD1⟩ := hB
        rw [ht] at hP1
        have hK1 := va_K.moved hvm.symm hK1
        obtain ⟨hP, hD⟩ := va_join (wr := [(h0, .inr (10, [.ref ts, .ref tp, .ref tw, .int z, .int pa, .int so, .int pl, .long wd])), (ts, .inl (t1, 2001, .inl gs)), (tp, .inl (t2, 2001, .inl gp)), (tw, .inl (t3, 2001, .inr (.inl gw))), (bt, .inl (bk, 2000, .inl gt))]) (w1 := []) hP hD [] [0, 1, 2, 3, 4] rfl rfl (by decide) (by decide) hk1 hFc hP1 hD1
        have hK := (hK.sub (tys' := [(t1, .int), (t2, .int), (t3, .long), (bk, .byte)]) [0, 1, 2, 3] rfl).app hK1
        generalize H1 = H at hP hS ⊢
        have hP : va_P (dC, dI) vwCl [(h0, .inr (10, [.ref ts, .ref tp, .ref tw, .int z, .int pa, .int so, .int pl, .long wd])), (ts, .inl (t1, 2001, .inl gs)), (tp, .inl (t2, 2001, .inl gp)), (tw, .inl (t3, 2001, .inr (.inl gw))), (bt, .inl (bk, 2000, .inl gt))] H := hP
        have hD : va_D A [(h0, .inr (10, [.ref ts, .ref tp, .ref tw, .int z, .int pa, .int so, .int pl, .long wd])), (ts, .inl (t1, 2001, .inl gs)), (tp, .inl (t2, 2001, .inl gp)), (tw, .inl (t3, 2001, .inr (.inl gw))), (bt, .inl (bk, 2000, .inl gt))] := hD
        have hK : va_K (dC, dI) vwCl [(t1, .int), (t2, .int), (t3, .long), (bk, .byte)] s := hK
        have hw_r_51 := hw
        try dsimp only at hw_r_51
        have hq_52 := hw
        refine lv_if_eq (tgt := 94) hx hb dX10_readWord_28 (by decide) (fun c_53 => ?_) (fun c_53 => ?_)
        · have ic_53 : r_51.toInt = 0 := zi_eq c_53
          have hv9 : to = fr → x_50.toInt = (gt (Int32.toNatClampNeg fr)).toInt := fun e => by rw [ex_50, e]
          have hlt9 : fr.toInt < to.toInt := by
            by_cases g : fr.toInt < to.toInt
            · exact g
            · have := hv9 (Int32.toInt_inj.mp (by omega)); omega
          refine lv_iload hx hb dX10_readWord_94 (lv_at hl 4 rfl) ?_
          refine lv_iload_n hx hb dX10_readWord_96 rfl (lv_at hl 7 rfl) ?_
          refine lv_isub hx hb dX10_readWord_97 ?_
          refine lv_topi (fun x_54 ex_54 => ?_)
          have ix_54 : x_54.toInt = to.toInt - fr.toInt := by rw [ex_54]; exact zi_subc rfl (by omega) (by omega)
          refine lv_istore (lv' := [(10, .int x_54), (8, .long by_), (7, .int nu), (6, .int di), (5, .int sm), (4, .int to), (0, .ref h0), (1, .ref bt), (2, .int fr), (3, .int en)]) hx hb dX10_readWord_98 hl (by decide) rfl (fun ls hl => ?_)
          refine lv_iload hx hb dX10_readWord_100 (lv_at hl 3 rfl) ?_
          refine lv_iload hx hb dX10_readWord_102 (lv_at hl 0 rfl) ?_
          refine lv_icmp_ne (tgt := 135) hx hb dX10_readWord_104 (by decide) (fun c_55 => ?_) (fun c_55 => ?_)
          · have ic_55 : di.toInt ≠ x_54.toInt := zi_ne c_55
            refine lv_iload hx hb dX10_readWord_135 (lv_at hl 0 rfl) ?_
            refine lv_bipush (v := 8) hx hb dX10_readWord_137 (by decide) ?_
            refine lv_icmp_le (tgt := 157) hx hb dX10_readWord_139 (by decide) (fun c_56 => ?_) (fun c_56 => ?_)
            · have ic_56 : x_54.toInt ≤ 8 := zi_le c_56
              refine lv_iload hx hb dX10_readWord_157 (lv_at hl 4 rfl) ?_
              refine lv_iload hx hb dX10_readWord_159 (lv_at hl 0 rfl) ?_
              refine lv_icmp_ne (tgt := 181) hx hb dX10_readWord_161 (by decide) (fun c_57 => ?_) (fun c_57 => ?_)
              · have ic_57 : sm.toInt ≠ x_54.toInt := zi_ne c_57
                refine lv_aload_n hx hb dX10_readWord_181 rfl (lv_at hl 6 rfl) ?_
                refine va_get (D := (dC, dI)) (ci := 10) (v := .ref ts) (C := RX10) (T := TX10) (N := 8) hx hb hA zin_X10 hown hK hP 0 rfl rfl 0 (by decide) (hA _ wi_346) (fun _ h9 => h9) rfl dX10_readWord_182 ?_
                refine lv_aload_n hx hb dX10_readWord_185 rfl (lv_at hl 6 rfl) ?_
                refine va_get (D := (dC, dI)) (ci := 10) (v := .int z) (C := RX10) (T := TX10) (N := 8) hx hb hA zin_X10 hown hK hP 0 rfl rfl 3 (by decide) (hA _ wi_349) (fun _ h9 => h9) rfl dX10_readWord_186 ?_
                refine lv_iload hx hb dX10_readWord_189 (lv_at hl 4 rfl) ?_
                refine lv_iload hx hb dX10_readWord_191 (lv_at hl 0 rfl) ?_
                refine lv_iconst (v := 1) hx hb dX10_readWord_193 (by decide) ?_
                refine lv_isub hx hb dX10_readWord_194 ?_
                refine lv_topi (fun x_58 ex_58 => ?_)
                have ix_58 : x_58.toInt = x_54.toInt - 1 := by rw [ex_58]; exact zi_subc (by decide) (by omega) (by omega)
                refine lv_icmp_ne (tgt := 213) hx hb dX10_readWord_195 (by decide) (fun c_59 => ?_) (fun c_59 => ?_)
                · have ic_59 : sm.toInt ≠ x_58.toInt := zi_ne c_59
                  refine lv_sipush (v := 257) hx hb dX10_readWord_213 (by decide) ?_
                  refine va_iast hx hb hK hP hD hS 1 0 rfl rfl (vp_in_iff.mpr ⟨by omega, by omega⟩) dX10_readWord_216 (fun H locs hP hD hS => ?_)
                  obtain ⟨f_60, ef_60⟩ : ∃ gz9 : Nat → Int32, gz9 = upd gs (Int32.toNatClampNeg z) 257 := ⟨_, rfl⟩
                  rw [← ef_60] at hP hD
                  have hP : va_P (dC, dI) vwCl [(h0, .inr (10, [.ref ts, .ref tp, .ref tw, .int z, .int pa, .int so, .int pl, .long wd])), (ts, .inl (t1, 2001, .inl f_60)), (tp, .inl (t2, 2001, .inl gp)), (tw, .inl (t3, 2001, .inr (.inl gw))), (bt, .inl (bk, 2000, .inl gt))] H := hP
                  have hD : va_D A [(h0, .inr (10, [.ref ts, .ref tp, .ref tw, .int z, .int pa, .int so, .int pl, .long wd])), (ts, .inl (t1, 2001, .inl f_60)), (tp, .inl (t2, 2001, .inl gp)), (tw, .inl (t3, 2001, .inr (.inl gw))), (bt, .inl (bk, 2000, .inl gt))] := hD
                  refine lv_aload_n hx hb dX10_readWord_217 rfl (lv_at hl 6 rfl) ?_
                  refine va_get (D := (dC, dI)) (ci := 10) (v := .ref tw) (C := RX10) (T := TX10) (N := 8) hx hb hA zin_X10 hown hK hP 0 rfl rfl 2 (by decide) (hA _ wi_348) (fun _ h9 => h9) rfl dX10_readWord_218 ?_
                  refine lv_aload_n hx hb dX10_readWord_221 rfl (lv_at hl 6 rfl) ?_
                  refine va_get (D := (dC, dI)) (ci := 10) (v := .int z) (C := RX10) (T := TX10) (N := 8) hx hb hA zin_X10 hown hK hP 0 rfl rfl 3 (by decide) (hA _ wi_349) (fun _ h9 => h9) rfl dX10_readWord_222 ?_
                  refine lv_iload hx hb dX10_readWord_225 (lv_at hl 3 rfl) ?_
                  refine lv_iload hx hb dX10_readWord_227 (lv_at hl 0 rfl) ?_
                  refine lv_icmp_ne (tgt := 238) hx hb dX10_readWord_229 (by decide) (fun c_61 => ?_) (fun c_61 => ?_)
                  · have ic_61 : di.toInt ≠ x_54.toInt := zi_ne c_61
                    refine lv_lload hx hb dX10_readWord_238 (lv_at hl 1 rfl) ?_
                    refine va_last hx hb hK hP hD hS 3 2 rfl rfl (vp_in_iff.mpr ⟨by omega, by omega⟩) dX10_readWord_240 (fun H locs hP hD hS => ?_)
                    obtain ⟨f_62, ef_62⟩ : ∃ gz9 : Nat → Int64, gz9 = vp_updL gw (Int32.toNatClampNeg z) by_ := ⟨_, rfl⟩
                    rw [← ef_62] at hP hD
                    have hP : va_P (dC, dI) vwCl [(h0, .inr (10, [.ref ts, .ref tp, .ref tw, .int z, .int pa, .int so, .int pl, .long wd])), (ts, .inl (t1, 2001, .inl f_60)), (tp, .inl (t2, 2001, .inl gp)), (tw, .inl (t3, 2001, .inr (.inl f_62))), (bt, .inl (bk, 2000, .inl gt))] H := hP
                    have hD : va_D A [(h0, .inr (10, [.ref ts, .ref tp, .ref tw, .int z, .int pa, .int so, .int pl, .long wd])), (ts, .inl (t1, 2001, .inl f_60)), (tp, .inl (t2, 2001, .inl gp)), (tw, .inl (t3, 2001, .inr (.inl f_62))), (bt, .inl (bk, 2000, .inl gt))] := hD
                    refine lv_iload hx hb dX10_readWord_241 (lv_at hl 5 rfl) ?_
                    have hP9 := hP.sub (ws' := [(h0, .inr (10, [.ref ts, .ref tp, .ref tw, .int z, .int pa, .int so, .int pl, .long wd])), (ts, .inl (t1, 2001, .inl f_60)), (tp, .inl (t2, 2001, .inl gp)), (tw, .inl (t3, 2001, .inr (.inl f_62))), (bt, .inl (bk, 2000, .inl gt))]) [0, 1, 2, 3, 4] rfl
                    have hD9 := hD.sub (ws' := [(h0, .inr (10, [.ref ts, .ref tp, .ref tw, .int z, .int pa, .int so, .int pl, .long wd])), (ts, .inl (t1, 2001, .inl f_60)), (tp, .inl (t2, 2001, .inl gp)), (tw, .inl (t3, 2001, .inr (.inl f_62))), (bt, .inl (bk, 2000, .inl gt))]) [0, 1, 2, 3, 4] (by decide) rfl
                    have hK9 := hK.sub (tys' := [(t1, .int), (t2, .int), (t3, .long), (bk, .byte)]) [0, 1, 2, 3] rfl
                    exact W.iret (v := to) hx hb hr (fun t ht hW => ⟨⟨to, (f_60, f_62), rfl, ⟨by omega, by omega, ⟨_, ef_60, by decide⟩⟩, by rw [ht]; exact hP9, va_K.moved hW.alike hK9, hD9⟩, hS.F ht⟩) hS.2.2 dX10_readWord_243
                  · have ic_61 : di.toInt = x_54.toInt := zi_eq c_61
                    refine lv_iload hx hb dX10_readWord_232 (lv_at hl 2 rfl) ?_
                    obtain ⟨x_63, ex_63⟩ : ∃ z : Int64, z = Int32.toInt64 nu := ⟨_, rfl⟩
                    refine lv_i2l (v := x_63) hx hb dX10_readWord_234 ex_63.symm ?_
                    refine lv_goto (tgt := 240) hx hb dX10_readWord_235 (by decide) ?_
                    refine va_last hx hb hK hP hD hS 3 2 rfl rfl (vp_in_iff.mpr ⟨by omega, by omega⟩) dX10_readWord_240 (fun H locs hP hD hS => ?_)
                    obtain ⟨f_64, ef_64⟩ : ∃ gz9 : Nat → Int64, gz9 = vp_updL gw (Int32.toNatClampNeg z) x_63 := ⟨_, rfl⟩
                    rw [← ef_64] at hP hD
                    have hP : va_P (dC, dI) vwCl [(h0, .inr (10, [.ref ts, .ref tp, .ref tw, .int z, .int pa, .int so, .int pl, .long wd])), (ts, .inl (t1, 2001, .inl f_60)), (tp, .inl (t2, 2001, .inl gp)), (tw, .inl (t3, 2001, .inr (.inl f_64))), (bt, .inl (bk, 2000, .inl gt))] H := hP
                    have hD : va_D A [(h0, .inr (10, [.ref ts, .ref tp, .ref tw, .int z, .int pa, .int so, .int pl, .long wd])), (ts, .inl (t1, 2001, .inl f_60)), (tp, .inl (t2, 2001, .inl gp)), (tw, .inl (t3, 2001, .inr (.inl f_64))), (bt, .inl (bk, 2000, .inl gt))] := hD
                    refine lv_iload hx hb dX10_readWord_241 (lv_at hl 5 rfl) ?_
                    have hP9 := hP.sub (ws' := [(h0, .inr (10, [.ref ts, .ref tp, .ref tw, .int z, .int pa, .int so, .int pl, .long wd])), (ts, .inl (t1, 2001, .inl f_60)), (tp, .inl (t2, 2001, .inl gp)), (tw, .inl (t3, 2001, .inr (.inl f_64))), (bt, .inl (bk, 2000, .inl gt))]) [0, 1, 2, 3, 4] rfl
                    have hD9 := hD.sub (ws' := [(h0, .inr (10, [.ref ts, .ref tp, .ref tw, .int z, .int pa, .int so, .int pl, .long wd])), (ts, .inl (t1, 2001, .inl f_60)), (tp, .inl (t2, 2001, .inl gp)), (tw, .inl (t3, 2001, .inr (.inl f_64))), (bt, .inl (bk, 2000, .inl gt))]) [0, 1, 2, 3, 4] (by decide) rfl
                    have hK9 := hK.sub (tys' := [(t1, .int), (t2, .int), (t3, .long), (bk, .byte)]) [0, 1, 2, 3] rfl
                    exact W.iret (v := to) hx hb hr (fun t ht hW => ⟨⟨to, (f_60, f_64), rfl, ⟨by omega, by omega, ⟨_, ef_60, by decide⟩⟩, by rw [ht]; exact hP9, va_K.moved hW.alike hK9, hD9⟩, hS.F ht⟩) hS.2.2 dX10_readWord_243
                · have ic_59 : sm.toInt = x_58.toInt := zi_eq c_59
                  refine lv_aload_n hx hb dX10_readWord_198 rfl (lv_at hl 7 rfl) ?_
                  refine lv_iload_n hx hb dX10_readWord_199 rfl (lv_at hl 8 rfl) ?_
                  refine va_bald hx hb hK hP 4 3 rfl rfl (vp_in_iff.mpr ⟨by omega, by omega⟩) dX10_readWord_200 ?_
                  refine lv_topi (fun x_65 ex_65 => ?_)
                  have hPc := hP.sub (ws' := []) [] rfl
                  have hDc := hD.sub (ws' := []) [] (by decide) rfl
                  have hKc := hK.sub (tys' := []) [] rfl
                  have hFc := va_free (wc := []) hD hS hAA [] rfl
                  refine va_calli (va_runS (As := [.int x_65]) (rest := [.int z, .ref ts]) ⟨hx, hb, hml, hown, hA⟩ (c_X10_isGreat_x l dC dI aK aV x_65 H.size) (va_cwS 1 hA (zw_S wi_667 wi_668 wi_137 (zw_good wi_669)) rfl rfl rfl (by decide +kernel) ⟨(Nat.le_of_ble_eq_true rfl), (Nat.le_of_ble_eq_true rfl)⟩) ⟨zP_blind, zz_pre hKc hPc hDc hN hT hS hFc⟩ rfl rfl hl.1 rfl (lv_room (Nat.le_of_ble_eq_true rfl)) dX10_readWord_201 ⟨(Nat.le_of_ble_eq_true rfl), (Nat.le_of_ble_eq_true rfl)⟩) hS (fun q _ h => hFc q h) hFc (fun r_66 u t H1 locs ht hvm hw hB hz1 hk1 hS => ?_)
                  obtain ⟨hP1, hK1, hD1⟩ := hB
                  rw [ht] at hP1
                  have hK1 := va_K.moved hvm.symm hK1
                  obtain ⟨hP, hD⟩ := va_join (wr := [(h0, .inr (10, [.ref ts, .ref tp, .ref tw, .int z, .int pa, .int so, .int pl, .long wd])), (ts, .inl (t1, 2001, .inl gs)), (tp, .inl (t2, 2001, .inl gp)), (tw, .inl (t3, 2001, .inr (.inl gw))), (bt, .inl (bk, 2000, .inl gt))]) (w1 := []) hP hD [] [0, 1, 2, 3, 4] rfl rfl (by decide) (by decide) hk1 hFc hP1 hD1
                  have hK := (hK.sub (tys' := [(t1, .int), (t2, .int), (t3, .long), (bk, .byte)]) [0, 1, 2, 3] rfl).app hK1
                  generalize H1 = H at hP hS ⊢
                  have hP : va_P (dC, dI) vwCl [(h0, .inr (10, [.ref ts, .ref tp, .ref tw, .int z, .int pa, .int so, .int pl, .long wd])), (ts, .inl (t1, 2001, .inl gs)), (tp, .inl (t2, 2001, .inl gp)), (tw, .inl (t3, 2001, .inr (.inl gw))), (bt, .inl (bk, 2000, .inl gt))] H := hP
                  have hD : va_D A [(h0, .inr (10, [.ref ts, .ref tp, .ref tw, .int z, .int pa, .int so, .int pl, .long wd])), (ts, .inl (t1, 2001, .inl gs)), (tp, .inl (t2, 2001, .inl gp)), (tw, .inl (t3, 2001, .inr (.inl gw))), (bt, .inl (bk, 2000, .inl gt))] := hD
                  have hK : va_K (dC, dI) vwCl [(t1, .int), (t2, .int), (t3, .long), (bk, .byte)] s := hK
                  have hw_r_66 := hw
                  try dsimp only at hw_r_66
                  have hq_67 := hw
                  refine lv_if_eq (tgt := 213) hx hb dX10_readWord_204 (by decide) (fun c_68 => ?_) (fun c_68 => ?_)
                  · have ic_68 : r_66.toInt = 0 := zi_eq c_68
                    refine lv_sipush (v := 257) hx hb dX10_readWord_213 (by decide) ?_
                    refine va_iast hx hb hK hP hD hS 1 0 rfl rfl (vp_in_iff.mpr ⟨by omega, by omega⟩) dX10_readWord_216 (fun H locs hP hD hS => ?_)
                    obtain ⟨f_69, ef_69⟩ : ∃ gz9 : Nat → Int32, gz9 = upd gs (Int32.toNatClampNeg z) 257 := ⟨_, rfl⟩
                    rw [← ef_69] at hP hD
                    have hP : va_P (dC, dI) vwCl [(h0, .inr (10, [.ref ts, .ref tp, .ref tw, .int z, .int pa, .int so, .int pl, .long wd])), (ts, .inl (t1, 2001, .inl f_69)), (tp, .inl (t2, 2001, .inl gp)), (tw, .inl (t3, 2001, .inr (.inl gw))), (bt, .inl (bk, 2000, .inl gt))] H := hP
                    have hD : va_D A [(h0, .inr (10, [.ref ts, .ref tp, .ref tw, .int z, .int pa, .int so, .int pl, .long wd])), (ts, .inl (t1, 2001, .inl f_69)), (tp, .inl (t2, 2001, .inl gp)), (tw, .inl (t3, 2001, .inr (.inl gw))), (bt, .inl (bk, 2000, .inl gt))] := hD
                    refine lv_aload_n hx hb dX10_readWord_217 rfl (lv_at hl 6 rfl) ?_
                    refine va_get (D := (dC, dI)) (ci := 10) (v := .ref tw) (C := RX10) (T := TX10) (N := 8) hx hb hA zin_X10 hown hK hP 0 rfl rfl 2 (by decide) (hA _ wi_348) (fun _ h9 => h9) rfl dX10_readWord_218 ?_
                    refine lv_aload_n hx hb dX10_readWord_221 rfl (lv_at hl 6 rfl) ?_
                    refine va_get (D := (dC, dI)) (ci := 10) (v := .int z) (C := RX10) (T := TX10) (N := 8) hx hb hA zin_X10 hown hK hP 0 rfl rfl 3 (by decide) (hA _ wi_349) (fun _ h9 => h9) rfl dX10_readWord_222 ?_
                    refine lv_iload hx hb dX10_readWord_225 (lv_at hl 3 rfl) ?_
                    refine lv_iload hx hb dX10_readWord_227 (lv_at hl 0 rfl) ?_
                    refine lv_icmp_ne (tgt := 238) hx hb dX10_readWord_229 (by decide) (fun c_70 => ?_) (fun c_70 => ?_)
                    · have ic_70 : di.toInt ≠ x_54.toInt := zi_ne c_70
                      refine lv_lload hx hb dX10_readWord_238 (lv_at hl 1 rfl) ?_
                      refine va_last hx hb hK hP hD hS 3 2 rfl rfl (vp_in_iff.mpr ⟨by omega, by omega⟩) dX10_readWord_240 (fun H locs hP hD hS => ?_)
                      obtain ⟨f_71, ef_71⟩ : ∃ gz9 : Nat → Int64, gz9 = vp_updL gw (Int32.toNatClampNeg z) by_ := ⟨_, rfl⟩
                      rw [← ef_71] at hP hD
                      have hP : va_P (dC, dI) vwCl [(h0, .inr (10, [.ref ts, .ref tp, .ref tw, .int z, .int pa, .int so, .int pl, .long wd])), (ts, .inl (t1, 2001, .inl f_69)), (tp, .inl (t2, 2001, .inl gp)), (tw, .inl (t3, 2001, .inr (.inl f_71))), (bt, .inl (bk, 2000, .inl gt))] H := hP
                      have hD : va_D A [(h0, .inr (10, [.ref ts, .ref tp, .ref tw, .int z, .int pa, .int so, .int pl, .long wd])), (ts, .inl (t1, 2001, .inl f_69)), (tp, .inl (t2, 2001, .inl gp)), (tw, .inl (t3, 2001, .inr (.inl f_71))), (bt, .inl (bk, 2000, .inl gt))] := hD
                      refine lv_iload hx hb dX10_readWord_241 (lv_at hl 5 rfl) ?_
                      have hP9 := hP.sub (ws' := [(h0, .inr (10, [.ref ts, .ref tp, .ref tw, .int z, .int pa, .int so, .int pl, .long wd])), (ts, .inl (t1, 2001, .inl f_69)), (tp, .inl (t2, 2001, .inl gp)), (tw, .inl (t3, 2001, .inr (.inl f_71))), (bt, .inl (bk, 2000, .inl gt))]) [0, 1, 2, 3, 4] rfl
                      have hD9 := hD.sub (ws' := [(h0, .inr (10, [.ref ts, .ref tp, .ref tw, .int z, .int pa, .int so, .int pl, .long wd])), (ts, .inl (t1, 2001, .inl f_69)), (tp, .inl (t2, 2001, .inl gp)), (tw, .inl (t3, 2001, .inr (.inl f_71))), (bt, .inl (bk, 2000, .inl gt))]) [0, 1, 2, 3, 4] (by decide) rfl
                      have hK9 := hK.sub (tys' := [(t1, .int), (t2, .int), (t3, .long), (bk, .byte)]) [0, 1, 2, 3] rfl
                      exact W.iret (v := to) hx hb hr (fun t ht hW => ⟨⟨to, (f_69, f_71), rfl, ⟨by omega, by omega, ⟨_, ef_69, by decide⟩⟩, by rw [ht]; exact hP9, va_K.moved hW.alike hK9, hD9⟩, hS.F ht⟩) hS.2.2 dX10_readWord_243
                    · have ic_70 : di.toInt = x_54.toInt := zi_eq c_70
                      refine lv_iload hx hb dX10_readWord_232 (lv_at hl 2 rfl) ?_
                      obtain ⟨x_72, ex_72⟩ : ∃ z : Int64, z = Int32.toInt64 nu := ⟨_, rfl⟩
                      refine lv_i2l (v := x_72) hx hb dX10_readWord_234 ex_72.symm ?_
                      refine lv_goto (tgt := 240) hx hb dX10_readWord_235 (by decide) ?_
                      refine va_last hx hb hK hP hD hS 3 2 rfl rfl (vp_in_iff.mpr ⟨by omega, by omega⟩) dX10_readWord_240 (fun H locs hP hD hS => ?_)
                      obtain ⟨f_73, ef_73⟩ : ∃ gz9 : Nat → Int64, gz9 = vp_updL gw (Int32.toNatClampNeg z) x_72 := ⟨_, rfl⟩
                      rw [← ef_73] at hP hD
                      have hP : va_P (dC, dI) vwCl [(h0, .inr (10, [.ref ts, .ref tp, .ref tw, .int z, .int pa, .int so, .int pl, .long wd])), (ts, .inl (t1, 2001, .inl f_69)), (tp, .inl (t2, 2001, .inl gp)), (tw, .inl (t3, 2001, .inr (.inl f_73))), (bt, .inl (bk, 2000, .inl gt))] H := hP
                      have hD : va_D A [(h0, .inr (10, [.ref ts, .ref tp, .ref tw, .int z, .int pa, .int so, .int pl, .long wd])), (ts, .inl (t1, 2001, .inl f_69)), (tp, .inl (t2, 2001, .inl gp)), (tw, .inl (t3, 2001, .inr (.inl f_73))), (bt, .inl (bk, 2000, .inl gt))] := hD
                      refine lv_iload hx hb dX10_readWord_241 (lv_at hl 5 rfl) ?_
                      have hP9 := hP.sub (ws' := [(h0, .inr (10, [.ref ts, .ref tp, .ref tw, .int z, .int pa, .int so, .int pl, .long wd])), (ts, .inl (t1, 2001, .inl f_69)), (tp, .inl (t2, 2001, .inl gp)), (tw, .inl (t3, 2001, .inr (.inl f_73))), (bt, .inl (bk, 2000, .inl gt))]) [0, 1, 2, 3, 4] rfl
                      have hD9 := hD.sub (ws' := [(h0, .inr (10, [.ref ts, .ref tp, .ref tw, .int z, .int pa, .int so, .int pl, .long wd])), (ts, .inl (t1, 2001, .inl f_69)), (tp, .inl (t2, 2001, .inl gp)), (tw, .inl (t3, 2001, .inr (.inl f_73))), (bt, .inl (bk, 2000, .inl gt))]) [0, 1, 2, 3, 4] (by decide) rfl
                      have hK9 := hK.sub (tys' := [(t1, .int), (t2, .int), (t3, .long), (bk, .byte)]) [0, 1, 2, 3] rfl
                      exact W.iret (v := to) hx hb hr (fun t ht hW => ⟨⟨to, (f_69, f_73), rfl, ⟨by omega, by omega, ⟨_, ef_69, by decide⟩⟩, by rw [ht]; exact hP9, va_K.moved hW.alike hK9, hD9⟩, hS.F ht⟩) hS.2.2 dX10_readWord_243
                  · have ic_68 : r_66.toInt ≠ 0 := zi_ne c_68
                    refine lv_sipush (v := 259) hx hb dX10_readWord_207 (by decide) ?_
                    refine lv_goto (tgt := 216) hx hb dX10_readWord_210 (by decide) ?_
                    refine va_iast hx hb hK hP hD hS 1 0 rfl rfl (vp_in_iff.mpr ⟨by omega, by omega⟩) dX10_readWord_216 (fun H locs hP hD hS => ?_)
                    obtain ⟨f_74, ef_74⟩ : ∃ gz9 : Nat → Int32, gz9 = upd gs (Int32.toNatClampNeg z) 259 := ⟨_, rfl⟩
                    rw [← ef_74] at hP hD
                    have hP : va_P (dC, dI) vwCl [(h0, .inr (10, [.ref ts, .ref tp, .ref tw, .int z, .int pa, .int so, .int pl, .long wd])), (ts, .inl (t1, 2001, .inl f_74)), (tp, .inl (t2, 2001, .inl gp)), (tw, .inl (t3, 2001, .inr (.inl gw))), (bt, .inl (bk, 2000, .inl gt))] H := hP
                    have hD : va_D A [(h0, .inr (10, [.ref ts, .ref tp, .ref tw, .int z, .int pa, .int so, .int pl, .long wd])), (ts, .inl (t1, 2001, .inl f_74)), (tp, .inl (t2, 2001, .inl gp)), (tw, .inl (t3, 2001, .inr (.inl gw))), (bt, .inl (bk, 2000, .inl gt))] := hD
                    refine lv_aload_n hx hb dX10_readWord_217 rfl (lv_at hl 6 rfl) ?_
                    refine va_get (D := (dC, dI)) (ci := 10) (v := .ref tw) (C := RX10) (T := TX10) (N := 8) hx hb hA zin_X10 hown hK hP 0 rfl rfl 2 (by decide) (hA _ wi_348) (fun _ h9 => h9) rfl dX10_readWord_218 ?_
                    refine lv_aload_n hx hb dX10_readWord_221 rfl (lv_at hl 6 rfl) ?_
                    refine va_get (D := (dC, dI)) (ci := 10) (v := .int z) (C := RX10) (T := TX10) (N := 8) hx hb hA zin_X10 hown hK hP 0 rfl rfl 3 (by decide) (hA _ wi_349) (fun _ h9 => h9) rfl dX10_readWord_222 ?_
                    refine lv_iload hx hb dX10_readWord_225 (lv_at hl 3 rfl) ?_
                    refine lv_iload hx hb dX10_readWord_227 (lv_at hl 0 rfl) ?_
                    refine lv_icmp_ne (tgt := 238) hx hb dX10_readWord_229 (by decide) (fun c_75 => ?_) (fun c_75 => ?_)
                    · have ic_75 : di.toInt ≠ x_54.toInt := zi_ne c_75
                      refine lv_lload hx hb dX10_readWord_238 (lv_at hl 1 rfl) ?_
                      refine va_last hx hb hK hP hD hS 3 2 rfl rfl (vp_in_iff.mpr ⟨by omega, by omega⟩) dX10_readWord_240 (fun H locs hP hD hS => ?_)
                      obtain ⟨f_76, ef_76⟩ : ∃ gz9 : Nat → Int64, gz9 = vp_updL gw (Int32.toNatClampNeg z) by_ := ⟨_, rfl⟩
                      rw [← ef_76] at hP hD
                      have hP : va_P (dC, dI) vwCl [(h0, .inr (10, [.ref ts, .ref tp, .ref tw, .int z, .int pa, .int so, .int pl, .long wd])), (ts, .inl (t1, 2001, .inl f_74)), (tp, .inl (t2, 2001, .inl gp)), (tw, .inl (t3, 2001, .inr (.inl f_76))), (bt, .inl (bk, 2000, .inl gt))] H := hP
                      have hD : va_D A [(h0, .inr (10, [.ref ts, .ref tp, .ref tw, .int z, .int pa, .int so, .int pl, .long wd])), (ts, .inl (t1, 2001, .inl f_74)), (tp, .inl (t2, 2001, .inl gp)), (tw, .inl (t3, 2001, .inr (.inl f_76))), (bt, .inl (bk, 2000, .inl gt))] := hD
                      refine lv_iload hx hb dX10_readWord_241 (lv_at hl 5 rfl) ?_
                      have hP9 := hP.sub (ws' := [(h0, .inr (10, [.ref ts, .ref tp, .ref tw, .int z, .int pa, .int so, .int pl, .long wd])), (ts, .inl (t1, 2001, .inl f_74)), (tp, .inl (t2, 2001, .inl gp)), (tw, .inl (t3, 2001, .inr (.inl f_76))), (bt, .inl (bk, 2000, .inl gt))]) [0, 1, 2, 3, 4] rfl
                      have hD9 := hD.sub (ws' := [(h0, .inr (10, [.ref ts, .ref tp, .ref tw, .int z, .int pa, .int so, .int pl, .long wd])), (ts, .inl (t1, 2001, .inl f_74)), (tp, .inl (t2, 2001, .inl gp)), (tw, .inl (t3, 2001, .inr (.inl f_76))), (bt, .inl (bk, 2000, .inl gt))]) [0, 1, 2, 3, 4] (by decide) rfl
                      have hK9 := hK.sub (tys' := [(t1, .int), (t2, .int), (t3, .long), (bk, .byte)]) [0, 1, 2, 3] rfl
                      exact W.iret (v := to) hx hb hr (fun t ht hW => ⟨⟨to, (f_74, f_76), rfl, ⟨by omega, by omega, ⟨_, ef_74, by decide⟩⟩, by rw [ht]; exact hP9, va_K.moved hW.alike hK9, hD9⟩, hS.F ht⟩) hS.2.2 dX10_readWord_243
                    · have ic_75 : di.toInt = x_54.toInt := zi_eq c_75
                      refine lv_iload hx hb dX10_readWord_232 (lv_at hl 2 rfl) ?_
                      obtain ⟨x_77, ex_77⟩ : ∃ z : Int64, z = Int32.toInt64 nu := ⟨_, rfl⟩
                      refine lv_i2l (v := x_77) hx hb dX10_readWord_234 ex_77.symm ?_
                      refine lv_goto (tgt := 240) hx hb dX10_readWord_235 (by decide) ?_
                      refine va_last hx hb hK hP hD hS 3 2 rfl rfl (vp_in_iff.mpr ⟨by omega, by omega⟩) dX10_readWord_240 (fun H locs hP hD hS => ?_)
                      obtain ⟨f_78, ef_78⟩ : ∃ gz9 : Nat → Int64, gz9 = vp_updL gw (Int32.toNatClampNeg z) x_77 := ⟨_, rfl⟩
                      rw [← ef_78] at hP hD
                      have hP : va_P (dC, dI) vwCl [(h0, .inr (10, [.ref ts, .ref tp, .ref tw, .int z, .int pa, .int so, .int pl, .long wd])), (ts, .inl (t1, 2001, .inl f_74)), (tp, .inl (t2, 2001, .inl gp)), (tw, .inl (t3, 2001, .inr (.inl f_78))), (bt, .inl (bk, 2000, .inl gt))] H := hP
                      have hD : va_D A [(h0, .inr (10, [.ref ts, .ref tp, .ref tw, .int z, .int pa, .int so, .int pl, .long wd])), (ts, .inl (t1, 2001, .inl f_74)), (tp, .inl (t2, 2001, .inl gp)), (tw, .inl (t3, 2001, .inr (.inl f_78))), (bt, .inl (bk, 2000, .inl gt))] := hD
                      refine lv_iload hx hb dX10_readWord_241 (lv_at hl 5 rfl) ?_
                      have hP9 := hP.sub (ws' := [(h0, .inr (10, [.ref ts, .ref tp, .ref tw, .int z, .int pa, .int so, .int pl, .long wd])), (ts, .inl (t1, 2001, .inl f_74)), (tp, .inl (t2, 2001, .inl gp)), (tw, .inl (t3, 2001, .inr (.inl f_78))), (bt, .inl (bk, 2000, .inl gt))]) [0, 1, 2, 3, 4] rfl
                      have hD9 := hD.sub (ws' := [(h0, .inr (10, [.ref ts, .ref tp, .ref tw, .int z, .int pa, .int so, .int pl, .long wd])), (ts, .inl (t1, 2001, .inl f_74)), (tp, .inl (t2, 2001, .inl gp)), (tw, .inl (t3, 2001, .inr (.inl f_78))), (bt, .inl (bk, 2000, .inl gt))]) [0, 1, 2, 3, 4] (by decide) rfl
                      have hK9 := hK.sub (tys' := [(t1, .int), (t2, .int), (t3, .long), (bk, .byte)]) [0, 1, 2, 3] rfl
                      exact W.iret (v := to) hx hb hr (fun t ht hW => ⟨⟨to, (f_74, f_78), rfl, ⟨by omega, by omega, ⟨_, ef_74, by decide⟩⟩, by rw [ht]; exact hP9, va_K.moved hW.alike hK9, hD9⟩, hS.F ht⟩) hS.2.2 dX10_readWord_243
              · have ic_57 : sm.toInt = x_54.toInt := zi_eq c_57
                refine lv_aload_n hx hb dX10_readWord_164 rfl (lv_at hl 6 rfl) ?_
                refine va_get (D := (dC, dI)) (ci := 10) (v := .ref ts) (C := RX10) (T := TX10) (N := 8) hx hb hA zin_X10 hown hK hP 0 rfl rfl 0 (by decide) (hA _ wi_346) (fun _ h9 => h9) rfl dX10_readWord_165 ?_
                refine lv_aload_n hx hb dX10_readWord_168 rfl (lv_at hl 6 rfl) ?_
                refine va_get (D := (dC, dI)) (ci := 10) (v := .int z) (C := RX10) (T := TX10) (N := 8) hx hb hA zin_X10 hown hK hP 0 rfl rfl 3 (by decide) (hA _ wi_349) (fun _ h9 => h9) rfl dX10_readWord_169 ?_
                refine lv_lload hx hb dX10_readWord_172 (lv_at hl 1 rfl) ?_
                have hPc := hP.sub (ws' := []) [] rfl
                have hDc := hD.sub (ws' := []) [] (by decide) rfl
                have hKc := hK.sub (tys' := []) [] rfl
                have hFc := va_free (wc := []) hD hS hAA [] rfl
                refine va_calli (va_runS (As := [.long by_]) (rest := [.int z, .ref ts]) ⟨hx, hb, hml, hown, hA⟩ (c_X10_sortOfSmall_x l dC dI aK aV by_ H.size) (va_cwS 1 hA (zw_S wi_677 wi_678 wi_137 (zw_good wi_679)) rfl rfl rfl (by decide +kernel) ⟨(Nat.le_of_ble_eq_true rfl), (Nat.le_of_ble_eq_true rfl)⟩) ⟨zP_blind, zz_pre hKc hPc hDc hN hT hS hFc⟩ rfl rfl hl.1 rfl (lv_room (Nat.le_of_ble_eq_true rfl)) dX10_readWord_174 ⟨(Nat.le_of_ble_eq_true rfl), (Nat.le_of_ble_eq_true rfl)⟩) hS (fun q _ h => hFc q h) hFc (fun r_79 u t H1 locs ht hvm hw hB hz1 hk1 hS => ?_)
                obtain ⟨hP1, hK1, hD1⟩ := hB
                rw [ht] at hP1
                have hK1 := va_K.moved hvm.symm hK1
                obtain ⟨hP, hD⟩ := va_join (wr := [(h0, .inr (10, [.ref ts, .ref tp, .ref tw, .int z, .int pa, .int so, .int pl, .long wd])), (ts, .inl (t1, 2001, .inl gs)), (tp, .inl (t2, 2001, .inl gp)), (tw, .inl (t3, 2001, .inr (.inl gw))), (bt, .inl (bk, 2000, .inl gt))]) (w1 := []) hP hD [] [0, 1, 2, 3, 4] rfl rfl (by decide) (by decide) hk1 hFc hP1 hD1
                have hK := (hK.sub (tys' := [(t1, .int), (t2, .int), (t3, .long), (bk, .byte)]) [0, 1, 2, 3] rfl).app hK1
                generalize H1 = H at hP hS ⊢
                have hP : va_P (dC, dI) vwCl [(h0, .inr (10, [.ref ts, .ref tp, .ref tw, .int z, .int pa, .int so, .int pl, .long wd])), (ts, .inl (t1, 2001, .inl gs)), (tp, .inl (t2, 2001, .inl gp)), (tw, .inl (t3, 2001, .inr (.inl gw))), (bt, .inl (bk, 2000, .inl gt))] H := hP
                have hD : va_D A [(h0, .inr (10, [.ref ts, .ref tp, .ref tw, .int z, .int pa, .int so, .int pl, .long wd])), (ts, .inl (t1, 2001, .inl gs)), (tp, .inl (t2, 2001, .inl gp)), (tw, .inl (t3, 2001, .inr (.inl gw))), (bt, .inl (bk, 2000, .inl gt))] := hD
                have hK : va_K (dC, dI) vwCl [(t1, .int), (t2, .int), (t3, .long), (bk, .byte)] s := hK
                have hw_r_79 := hw
                try dsimp only at hw_r_79
                have hq_80 := hw
                refine va_iast hx hb hK hP hD hS 1 0 rfl rfl (vp_in_iff.mpr ⟨by omega, by omega⟩) dX10_readWord_177 (fun H locs hP hD hS => ?_)
                obtain ⟨f_81, ef_81⟩ : ∃ gz9 : Nat → Int32, gz9 = upd gs (Int32.toNatClampNeg z) r_79 := ⟨_, rfl⟩
                rw [← ef_81] at hP hD
                have hP : va_P (dC, dI) vwCl [(h0, .inr (10, [.ref ts, .ref tp, .ref tw, .int z, .int pa, .int so, .int pl, .long wd])), (ts, .inl (t1, 2001, .inl f_81)), (tp, .inl (t2, 2001, .inl gp)), (tw, .inl (t3, 2001, .inr (.inl gw))), (bt, .inl (bk, 2000, .inl gt))] H := hP
                have hD : va_D A [(h0, .inr (10, [.ref ts, .ref tp, .ref tw, .int z, .int pa, .int so, .int pl, .long wd])), (ts, .inl (t1, 2001, .inl f_81)), (tp, .inl (t2, 2001, .inl gp)), (tw, .inl (t3, 2001, .inr (.inl gw))), (bt, .inl (bk, 2000, .inl gt))] := hD
                refine lv_goto (tgt := 217) hx hb dX10_readWord_178 (by decide) ?_
                refine lv_aload_n hx hb dX10_readWord_217 rfl (lv_at hl 6 rfl) ?_
                refine va_get (D := (dC, dI)) (ci := 10) (v := .ref tw) (C := RX10) (T := TX10) (N := 8) hx hb hA zin_X10 hown hK hP 0 rfl rfl 2 (by decide) (hA _ wi_348) (fun _ h9 => h9) rfl dX10_readWord_218 ?_
                refine lv_aload_n hx hb dX10_readWord_221 rfl (lv_at hl 6 rfl) ?_
                refine va_get (D := (dC, dI)) (ci := 10) (v := .int z) (C := RX10) (T := TX10) (N := 8) hx hb hA zin_X10 hown hK hP 0 rfl rfl 3 (by decide) (hA _ wi_349) (fun _ h9 => h9) rfl dX10_readWord_222 ?_
                refine lv_iload hx hb dX10_readWord_225 (lv_at hl 3 rfl) ?_
                refine lv_iload hx hb dX10_readWord_227 (lv_at hl 0 rfl) ?_
                refine lv_icmp_ne (tgt := 238) hx hb dX10_readWord_229 (by decide) (fun c_82 => ?_) (fun c_82 => ?_)
                · have ic_82 : di.toInt ≠ x_54.toInt := zi_ne c_82
                  refine lv_lload hx hb dX10_readWord_238 (lv_at hl 1 rfl) ?_
                  refine va_last hx hb hK hP hD hS 3 2 rfl rfl (vp_in_iff.mpr ⟨by omega, by omega⟩) dX10_readWord_240 (fun H locs hP hD hS => ?_)
                  obtain ⟨f_83, ef_83⟩ : ∃ gz9 : Nat → Int64, gz9 = vp_updL gw (Int32.toNatClampNeg z) by_ := ⟨_, rfl⟩
                  rw [← ef_83] at hP hD
                  have hP : va_P (dC, dI) vwCl [(h0, .inr (10, [.ref ts, .ref tp, .ref tw, .int z, .int pa, .int so, .int pl, .long wd])), (ts, .inl (t1, 2001, .inl f_81)), (tp, .inl (t2, 2001, .inl gp)), (tw, .inl (t3, 2001, .inr (.inl f_83))), (bt, .inl (bk, 2000, .inl gt))] H := hP
                  have hD : va_D A [(h0, .inr (10, [.ref ts, .ref tp, .ref tw, .int z, .int pa, .int so, .int pl, .long wd])), (ts, .inl (t1, 2001, .inl f_81)), (tp, .inl (t2, 2001, .inl gp)), (tw, .inl (t3, 2001, .inr (.inl f_83))), (bt, .inl (bk, 2000, .inl gt))] := hD
                  refine lv_iload hx hb dX10_readWord_241 (lv_at hl 5 rfl) ?_
                  have hP9 := hP.sub (ws' := [(h0, .inr (10, [.ref ts, .ref tp, .ref tw, .int z, .int pa, .int so, .int pl, .long wd])), (ts, .inl (t1, 2001, .inl f_81)), (tp, .inl (t2, 2001, .inl gp)), (tw, .inl (t3, 2001, .inr (.inl f_83))), (bt, .inl (bk, 2000, .inl gt))]) [0, 1, 2, 3, 4] rfl
                  have hD9 := hD.sub (ws' := [(h0, .inr (10, [.ref ts, .ref tp, .ref tw, .int z, .int pa, .int so, .int pl, .long wd])), (ts, .inl (t1, 2001, .inl f_81)), (tp, .inl (t2, 2001, .inl gp)), (tw, .inl (t3, 2001, .inr (.inl f_83))), (bt, .inl (bk, 2000, .inl gt))]) [0, 1, 2, 3, 4] (by decide) rfl
                  have hK9 := hK.sub (tys' := [(t1, .int), (t2, .int), (t3, .long), (bk, .byte)]) [0, 1, 2, 3] rfl
                  exact W.iret (v := to) hx hb hr (fun t ht hW => ⟨⟨to, (f_81, f_83), rfl, ⟨by omega, by omega, ⟨_, ef_81, by omega⟩⟩, by rw [ht]; exact hP9, va_K.moved hW.alike hK9, hD9⟩, hS.F ht⟩) hS.2.2 dX10_readWord_243
                · have ic_82 : di.toInt = x_54.toInt := zi_eq c_82
                  refine lv_iload hx hb dX10_readWord_232 (lv_at hl 2 rfl) ?_
                  obtain ⟨x_84, ex_84⟩ : ∃ z : Int64, z = Int32.toInt64 nu := ⟨_, rfl⟩
                  refine lv_i2l (v := x_84) hx hb dX10_readWord_234 ex_84.symm ?_
                  refine lv_goto (tgt := 240) hx hb dX10_readWord_235 (by decide) ?_
                  refine va_last hx hb hK hP hD hS 3 2 rfl rfl (vp_in_iff.mpr ⟨by omega, by omega⟩) dX10_readWord_240 (fun H locs hP hD hS => ?_)
                  obtain ⟨f_85, ef_85⟩ : ∃ gz9 : Nat → Int64, gz9 = vp_updL gw (Int32.toNatClampNeg z) x_84 := ⟨_, rfl⟩
                  rw [← ef_85] at hP hD
                  have hP : va_P (dC, dI) vwCl [(h0, .inr (10, [.ref ts, .ref tp, .ref tw, .int z, .int pa, .int so, .int pl, .long wd])), (ts, .inl (t1, 2001, .inl f_81)), (tp, .inl (t2, 2001, .inl gp)), (tw, .inl (t3, 2001, .inr (.inl f_85))), (bt, .inl (bk, 2000, .inl gt))] H := hP
                  have hD : va_D A [(h0, .inr (10, [.ref ts, .ref tp, .ref tw, .int z, .int pa, .int so, .int pl, .long wd])), (ts, .inl (t1, 2001, .inl f_81)), (tp, .inl (t2, 2001, .inl gp)), (tw, .inl (t3, 2001, .inr (.inl f_85))), (bt, .inl (bk, 2000, .inl gt))] := hD
                  refine lv_iload hx hb dX10_readWord_241 (lv_at hl 5 rfl) ?_
                  have hP9 := hP.sub (ws' := [(h0, .inr (10, [.ref ts, .ref tp, .ref tw, .int z, .int pa, .int so, .int pl, .long wd])), (ts, .inl (t1, 2001, .inl f_81)), (tp, .inl (t2, 2001, .inl gp)), (tw, .inl (t3, 2001, .inr (.inl f_85))), (bt, .inl (bk, 2000, .inl gt))]) [0, 1, 2, 3, 4] rfl
                  have hD9 := hD.sub (ws' := [(h0, .inr (10, [.ref ts, .ref tp, .ref tw, .int z, .int pa, .int so, .int pl, .long wd])), (ts, .inl (t1, 2001, .inl f_81)), (tp, .inl (t2, 2001, .inl gp)), (tw, .inl (t3, 2001, .inr (.inl f_85))), (bt, .inl (bk, 2000, .inl gt))]) [0, 1, 2, 3, 4] (by decide) rfl
                  have hK9 := hK.sub (tys' := [(t1, .int), (t2, .int), (t3, .long), (bk, .byte)]) [0, 1, 2, 3] rfl
                  exact W.iret (v := to) hx hb hr (fun t ht hW => ⟨⟨to, (f_81, f_85), rfl, ⟨by omega, by omega, ⟨_, ef_81, by omega⟩⟩, by rw [ht]; exact hP9, va_K.moved hW.alike hK9, hD9⟩, hS.F ht⟩) hS.2.2 dX10_readWord_243
            · have ic_56 : 8 < x_54.toInt := zi_nle c_56
              refine lv_aload_n hx hb dX10_readWord_142 rfl (lv_at hl 6 rfl) ?_
              refine va_get (D := (dC, dI)) (ci := 10) (v := .ref ts) (C := RX10) (T := TX10) (N := 8) hx hb hA zin_X10 hown hK hP 0 rfl rfl 0 (by decide) (hA _ wi_346) (fun _ h9 => h9) rfl dX10_readWord_143 ?_
              refine lv_aload_n hx hb dX10_readWord_146 rfl (lv_at hl 6 rfl) ?_
              refine va_get (D := (dC, dI)) (ci := 10) (v := .int z) (C := RX10) (T := TX10) (N := 8) hx hb hA zin_X10 hown hK hP 0 rfl rfl 3 (by decide) (hA _ wi_349) (fun _ h9 => h9) rfl dX10_readWord_147 ?_
              refine lv_sipush (v := 257) hx hb dX10_readWord_150 (by decide) ?_
              refine va_iast hx hb hK hP hD hS 1 0 rfl rfl (vp_in_iff.mpr ⟨by omega, by omega⟩) dX10_readWord_153 (fun H locs hP hD hS => ?_)
              obtain ⟨f_86, ef_86⟩ : ∃ gz9 : Nat → Int32, gz9 = upd gs (Int32.toNatClampNeg z) 257 := ⟨_, rfl⟩
              rw [← ef_86] at hP hD
              have hP : va_P (dC, dI) vwCl [(h0, .inr (10, [.ref ts, .ref tp, .ref tw, .int z, .int pa, .int so, .int pl, .long wd])), (ts, .inl (t1, 2001, .inl f_86)), (tp, .inl (t2, 2001, .inl gp)), (tw, .inl (t3, 2001, .inr (.inl gw))), (bt, .inl (bk, 2000, .inl gt))] H := hP
              have hD : va_D A [(h0, .inr (10, [.ref ts, .ref tp, .ref tw, .int z, .int pa, .int so, .int pl, .long wd])), (ts, .inl (t1, 2001, .inl f_86)), (tp, .inl (t2, 2001, .inl gp)), (tw, .inl (t3, 2001, .inr (.inl gw))), (bt, .inl (bk, 2000, .inl gt))] := hD
              refine lv_goto (tgt := 217) hx hb dX10_readWord_154 (by decide) ?_
              refine lv_aload_n hx hb dX10_readWord_217 rfl (lv_at hl 6 rfl) ?_
              refine va_get (D := (dC, dI)) (ci := 10) (v := .ref tw) (C := RX10) (T := TX10) (N := 8) hx hb hA zin_X10 hown hK hP 0 rfl rfl 2 (by decide) (hA _ wi_348) (fun _ h9 => h9) rfl dX10_readWord_218 ?_
              refine lv_aload_n hx hb dX10_readWord_221 rfl (lv_at hl 6 rfl) ?_
              refine va_get (D := (dC, dI)) (ci := 10) (v := .int z) (C := RX10) (T := TX10) (N := 8) hx hb hA zin_X10 hown hK hP 0 rfl rfl 3 (by decide) (hA _ wi_349) (fun _ h9 => h9) rfl dX10_readWord_222 ?_
              refine lv_iload hx hb dX10_readWord_225 (lv_at hl 3 rfl) ?_
              refine lv_iload hx hb dX10_readWord_227 (lv_at hl 0 rfl) ?_
              refine lv_icmp_ne (tgt := 238) hx hb dX10_readWord_229 (by decide) (fun c_87 => ?_) (fun c_87 => ?_)
              · have ic_87 : di.toInt ≠ x_54.toInt := zi_ne c_87
                refine lv_lload hx hb dX10_readWord_238 (lv_at hl 1 rfl) ?_
                refine va_last hx hb hK hP hD hS 3 2 rfl rfl (vp_in_iff.mpr ⟨by omega, by omega⟩) dX10_readWord_240 (fun H locs hP hD hS => ?_)
                obtain ⟨f_88, ef_88⟩ : ∃ gz9 : Nat → Int64, gz9 = vp_updL gw (Int32.toNatClampNeg z) by_ := ⟨_, rfl⟩
                rw [← ef_88] at hP hD
                have hP : va_P (dC, dI) vwCl [(h0, .inr (10, [.ref ts, .ref tp, .ref tw, .int z, .int pa, .int so, .int pl, .long wd])), (ts, .inl (t1, 2001, .inl f_86)), (tp, .inl (t2, 2001, .inl gp)), (tw, .inl (t3, 2001, .inr (.inl f_88))), (bt, .inl (bk, 2000, .inl gt))] H := hP
                have hD : va_D A [(h0, .inr (10, [.ref ts, .ref tp, .ref tw, .int z, .int pa, .int so, .int pl, .long wd])), (ts, .inl (t1, 2001, .inl f_86)), (tp, .inl (t2, 2001, .inl gp)), (tw, .inl (t3, 2001, .inr (.inl f_88))), (bt, .inl (bk, 2000, .inl gt))] := hD
                refine lv_iload hx hb dX10_readWord_241 (lv_at hl 5 rfl) ?_
                have hP9 := hP.sub (ws' := [(h0, .inr (10, [.ref ts, .ref tp, .ref tw, .int z, .int pa, .int so, .int pl, .long wd])), (ts, .inl (t1, 2001, .inl f_86)), (tp, .inl (t2, 2001, .inl gp)), (tw, .inl (t3, 2001, .inr (.inl f_88))), (bt, .inl (bk, 2000, .inl gt))]) [0, 1, 2, 3, 4] rfl
                have hD9 := hD.sub (ws' := [(h0, .inr (10, [.ref ts, .ref tp, .ref tw, .int z, .int pa, .int so, .int pl, .long wd])), (ts, .inl (t1, 2001, .inl f_86)), (tp, .inl (t2, 2001, .inl gp)), (tw, .inl (t3, 2001, .inr (.inl f_88))), (bt, .inl (bk, 2000, .inl gt))]) [0, 1, 2, 3, 4] (by decide) rfl
                have hK9 := hK.sub (tys' := [(t1, .int), (t2, .int), (t3, .long), (bk, .byte)]) [0, 1, 2, 3] rfl
                exact W.iret (v := to) hx hb hr (fun t ht hW => ⟨⟨to, (f_86, f_88), rfl, ⟨by omega, by omega, ⟨_, ef_86, by decide⟩⟩, by rw [ht]; exact hP9, va_K.moved hW.alike hK9, hD9⟩, hS.F ht⟩) hS.2.2 dX10_readWord_243
              · have ic_87 : di.toInt = x_54.toInt := zi_eq c_87
                refine lv_iload hx hb dX10_readWord_232 (lv_at hl 2 rfl) ?_
                obtain ⟨x_89, ex_89⟩ : ∃ z : Int64, z = Int32.toInt64 nu := ⟨_, rfl⟩
                refine lv_i2l (v := x_89) hx hb dX10_readWord_234 ex_89.symm ?_
                refine lv_goto (tgt := 240) hx hb dX10_readWord_235 (by decide) ?_
                refine va_last hx hb hK hP hD hS 3 2 rfl rfl (vp_in_iff.mpr ⟨by omega, by omega⟩) dX10_readWord_240 (fun H locs hP hD hS => ?_)
                obtain ⟨f_90, ef_90⟩ : ∃ gz9 : Nat → Int64, gz9 = vp_updL gw (Int32.toNatClampNeg z) x_89 := ⟨_, rfl⟩
                rw [← ef_90] at hP hD
                have hP : va_P (dC, dI) vwCl [(h0, .inr (10, [.ref ts, .ref tp, .ref tw, .int z, .int pa, .int so, .int pl, .long wd])), (ts, .inl (t1, 2001, .inl f_86)), (tp, .inl (t2, 2001, .inl gp)), (tw, .inl (t3, 2001, .inr (.inl f_90))), (bt, .inl (bk, 2000, .inl gt))] H := hP
                have hD : va_D A [(h0, .inr (10, [.ref ts, .ref tp, .ref tw, .int z, .int pa, .int so, .int pl, .long wd])), (ts, .inl (t1, 2001, .inl f_86)), (tp, .inl (t2, 2001, .inl gp)), (tw, .inl (t3, 2001, .inr (.inl f_90))), (bt, .inl (bk, 2000, .inl gt))] := hD
                refine lv_iload hx hb dX10_readWord_241 (lv_at hl 5 rfl) ?_
                have hP9 := hP.sub (ws' := [(h0, .inr (10, [.ref ts, .ref tp, .ref tw, .int z, .int pa, .int so, .int pl, .long wd])), (ts, .inl (t1, 2001, .inl f_86)), (tp, .inl (t2, 2001, .inl gp)), (tw, .inl (t3, 2001, .inr (.inl f_90))), (bt, .inl (bk, 2000, .inl gt))]) [0, 1, 2, 3, 4] rfl
                have hD9 := hD.sub (ws' := [(h0, .inr (10, [.ref ts, .ref tp, .ref tw, .int z, .int pa, .int so, .int pl, .long wd])), (ts, .inl (t1, 2001, .inl f_86)), (tp, .inl (t2, 2001, .inl gp)), (tw, .inl (t3, 2001, .inr (.inl f_90))), (bt, .inl (bk, 2000, .inl gt))]) [0, 1, 2, 3, 4] (by decide) rfl
                have hK9 := hK.sub (tys' := [(t1, .int), (t2, .int), (t3, .long), (bk, .byte)]) [0, 1, 2, 3] rfl
                exact W.iret (v := to) hx hb hr (fun t ht hW => ⟨⟨to, (f_86, f_90), rfl, ⟨by omega, by omega, ⟨_, ef_86, by decide⟩⟩, by rw [ht]; exact hP9, va_K.moved hW.alike hK9, hD9⟩, hS.F ht⟩) hS.2.2 dX10_readWord_243
          · have ic_55 : di.toInt = x_54.toInt := zi_eq c_55
            refine lv_aload_n hx hb dX10_readWord_107 rfl (lv_at hl 6 rfl) ?_
            refine va_get (D := (dC, dI)) (ci := 10) (v := .ref ts) (C := RX10) (T := TX10) (N := 8) hx hb hA zin_X10 hown hK hP 0 rfl rfl 0 (by decide) (hA _ wi_346) (fun _ h9 => h9) rfl dX10_readWord_108 ?_
            refine lv_aload_n hx hb dX10_readWord_111 rfl (lv_at hl 6 rfl) ?_
            refine va_get (D := (dC, dI)) (ci := 10) (v := .int z) (C := RX10) (T := TX10) (N := 8) hx hb hA zin_X10 hown hK hP 0 rfl rfl 3 (by decide) (hA _ wi_349) (fun _ h9 => h9) rfl dX10_readWord_112 ?_
            refine lv_iload hx hb dX10_readWord_115 (lv_at hl 0 rfl) ?_
            refine lv_bipush (v := 9) hx hb dX10_readWord_117 (by decide) ?_
            refine lv_icmp_gt (tgt := 128) hx hb dX10_readWord_119 (by decide) (fun c_91 => ?_) (fun c_91 => ?_)
            · have ic_91 : 9 < x_54.toInt := zi_lt c_91
              refine lv_sipush (v := 257) hx hb dX10_readWord_128 (by decide) ?_
              refine va_iast hx hb hK hP hD hS 1 0 rfl rfl (vp_in_iff.mpr ⟨by omega, by omega⟩) dX10_readWord_131 (fun H locs hP hD hS => ?_)
              obtain ⟨f_92, ef_92⟩ : ∃ gz9 : Nat → Int32, gz9 = upd gs (Int32.toNatClampNeg z) 257 := ⟨_, rfl⟩
              rw [← ef_92] at hP hD
              have hP : va_P (dC, dI) vwCl [(h0, .inr (10, [.ref ts, .ref tp, .ref tw, .int z, .int pa, .int so, .int pl, .long wd])), (ts, .inl (t1, 2001, .inl f_92)), (tp, .inl (t2, 2001, .inl gp)), (tw, .inl (t3, 2001, .inr (.inl gw))), (bt, .inl (bk, 2000, .inl gt))] H := hP
              have hD : va_D A [(h0, .inr (10, [.ref ts, .ref tp, .ref tw, .int z, .int pa, .int so, .int pl, .long wd])), (ts, .inl (t1, 2001, .inl f_92)), (tp, .inl (t2, 2001, .inl gp)), (tw, .inl (t3, 2001, .inr (.inl gw))), (bt, .inl (bk, 2000, .inl gt))] := hD
              refine lv_goto (tgt := 217) hx hb dX10_readWord_132 (by decide) ?_
              refine lv_aload_n hx hb dX10_readWord_217 rfl (lv_at hl 6 rfl) ?_
              refine va_get (D := (dC, dI)) (ci := 10) (v := .ref tw) (C := RX10) (T := TX10) (N := 8) hx hb hA zin_X10 hown hK hP 0 rfl rfl 2 (by decide) (hA _ wi_348) (fun _ h9 => h9) rfl dX10_readWord_218 ?_
              refine lv_aload_n hx hb dX10_readWord_221 rfl (lv_at hl 6 rfl) ?_
              refine va_get (D := (dC, dI)) (ci := 10) (v := .int z) (C := RX10) (T := TX10) (N := 8) hx hb hA zin_X10 hown hK hP 0 rfl rfl 3 (by decide) (hA _ wi_349) (fun _ h9 => h9) rfl dX10_readWord_222 ?_
              refine lv_iload hx hb dX10_readWord_225 (lv_at hl 3 rfl) ?_
              refine lv_iload hx hb dX10_readWord_227 (lv_at hl 0 rfl) ?_
              refine lv_icmp_ne (tgt := 238) hx hb dX10_readWord_229 (by decide) (fun c_93 => ?_) (fun c_93 => ?_)
              · have ic_93 : di.toInt ≠ x_54.toInt := zi_ne c_93
                refine lv_lload hx hb dX10_readWord_238 (lv_at hl 1 rfl) ?_
                refine va_last hx hb hK hP hD hS 3 2 rfl rfl (vp_in_iff.mpr ⟨by omega, by omega⟩) dX10_readWord_240 (fun H locs hP hD hS => ?_)
                obtain ⟨f_94, ef_94⟩ : ∃ gz9 : Nat → Int64, gz9 = vp_updL gw (Int32.toNatClampNeg z) by_ := ⟨_, rfl⟩
                rw [← ef_94] at hP hD
                have hP : va_P (dC, dI) vwCl [(h0, .inr (10, [.ref ts, .ref tp, .ref tw, .int z, .int pa, .int so, .int pl, .long wd])), (ts, .inl (t1, 2001, .inl f_92)), (tp, .inl (t2, 2001, .inl gp)), (tw, .inl (t3, 2001, .inr (.inl f_94))), (bt, .inl (bk, 2000, .inl gt))] H := hP
                have hD : va_D A [(h0, .inr (10, [.ref ts, .ref tp, .ref tw, .int z, .int pa, .int so, .int pl, .long wd])), (ts, .inl (t1, 2001, .inl f_92)), (tp, .inl (t2, 2001, .inl gp)), (tw, .inl (t3, 2001, .inr (.inl f_94))), (bt, .inl (bk, 2000, .inl gt))] := hD
                refine lv_iload hx hb dX10_readWord_241 (lv_at hl 5 rfl) ?_
                have hP9 := hP.sub (ws' := [(h0, .inr (10, [.ref ts, .ref tp, .ref tw, .int z, .int pa, .int so, .int pl, .long wd])), (ts, .inl (t1, 2001, .inl f_92)), (tp, .inl (t2, 2001, .inl gp)), (tw, .inl (t3, 2001, .inr (.inl f_94))), (bt, .inl (bk, 2000, .inl gt))]) [0, 1, 2, 3, 4] rfl
                have hD9 := hD.sub (ws' := [(h0, .inr (10, [.ref ts, .ref tp, .ref tw, .int z, .int pa, .int so, .int pl, .long wd])), (ts, .inl (t1, 2001, .inl f_92)), (tp, .inl (t2, 2001, .inl gp)), (tw, .inl (t3, 2001, .inr (.inl f_94))), (bt, .inl (bk, 2000, .inl gt))]) [0, 1, 2, 3, 4] (by decide) rfl
                have hK9 := hK.sub (tys' := [(t1, .int), (t2, .int), (t3, .long), (bk, .byte)]) [0, 1, 2, 3] rfl
                exact W.iret (v := to) hx hb hr (fun t ht hW => ⟨⟨to, (f_92, f_94), rfl, ⟨by omega, by omega, ⟨_, ef_92, by decide⟩⟩, by rw [ht]; exact hP9, va_K.moved hW.alike hK9, hD9⟩, hS.F ht⟩) hS.2.2 dX10_readWord_243
              · have ic_93 : di.toInt = x_54.toInt := zi_eq c_93
                refine lv_iload hx hb dX10_readWord_232 (lv_at hl 2 rfl) ?_
                obtain ⟨x_95, ex_95⟩ : ∃ z : Int64, z = Int32.toInt64 nu := ⟨_, rfl⟩
                refine lv_i2l (v := x_95) hx hb dX10_readWord_234 ex_95.symm ?_
                refine lv_goto (tgt := 240) hx hb dX10_readWord_235 (by decide) ?_
                refine va_last hx hb hK hP hD hS 3 2 rfl rfl (vp_in_iff.mpr ⟨by omega, by omega⟩) dX10_readWord_240 (fun H locs hP hD hS => ?_)
                obtain ⟨f_96, ef_96⟩ : ∃ gz9 : Nat → Int64, gz9 = vp_updL gw (Int32.toNatClampNeg z) x_95 := ⟨_, rfl⟩
                rw [← ef_96] at hP hD
                have hP : va_P (dC, dI) vwCl [(h0, .inr (10, [.ref ts, .ref tp, .ref tw, .int z, .int pa, .int so, .int pl, .long wd])), (ts, .inl (t1, 2001, .inl f_92)), (tp, .inl (t2, 2001, .inl gp)), (tw, .inl (t3, 2001, .inr (.inl f_96))), (bt, .inl (bk, 2000, .inl gt))] H := hP
                have hD : va_D A [(h0, .inr (10, [.ref ts, .ref tp, .ref tw, .int z, .int pa, .int so, .int pl, .long wd])), (ts, .inl (t1, 2001, .inl f_92)), (tp, .inl (t2, 2001, .inl gp)), (tw, .inl (t3, 2001, .inr (.inl f_96))), (bt, .inl (bk, 2000, .inl gt))] := hD
                refine lv_iload hx hb dX10_readWord_241 (lv_at hl 5 rfl) ?_
                have hP9 := hP.sub (ws' := [(h0, .inr (10, [.ref ts, .ref tp, .ref tw, .int z, .int pa, .int so, .int pl, .long wd])), (ts, .inl (t1, 2001, .inl f_92)), (tp, .inl (t2, 2001, .inl gp)), (tw, .inl (t3, 2001, .inr (.inl f_96))), (bt, .inl (bk, 2000, .inl gt))]) [0, 1, 2, 3, 4] rfl
                have hD9 := hD.sub (ws' := [(h0, .inr (10, [.ref ts, .ref tp, .ref tw, .int z, .int pa, .int so, .int pl, .long wd])), (ts, .inl (t1, 2001, .inl f_92)), (tp, .inl (t2, 2001, .inl gp)), (tw, .inl (t3, 2001, .inr (.inl f_96))), (bt, .inl (bk, 2000, .inl gt))]) [0, 1, 2, 3, 4] (by decide) rfl
                have hK9 := hK.sub (tys' := [(t1, .int), (t2, .int), (t3, .long), (bk, .byte)]) [0, 1, 2, 3] rfl
                exact W.iret (v := to) hx hb hr (fun t ht hW => ⟨⟨to, (f_92, f_96), rfl, ⟨by omega, by omega, ⟨_, ef_92, by decide⟩⟩, by rw [ht]; exact hP9, va_K.moved hW.alike hK9, hD9⟩, hS.F ht⟩) hS.2.2 dX10_readWord_243
            · have ic_91 : x_54.toInt ≤ 9 := zi_nlt c_91
              refine lv_sipush (v := 260) hx hb dX10_readWord_122 (by decide) ?_
              refine lv_goto (tgt := 131) hx hb dX10_readWord_125 (by decide) ?_
              refine va_iast hx hb hK hP hD hS 1 0 rfl rfl (vp_in_iff.mpr ⟨by omega, by omega⟩) dX10_readWord_131 (fun H locs hP hD hS => ?_)
              obtain ⟨f_97, ef_97⟩ : ∃ gz9 : Nat → Int32, gz9 = upd gs (Int32.toNatClampNeg z) 260 := ⟨_, rfl⟩
              rw [← ef_97] at hP hD
              have hP : va_P (dC, dI) vwCl [(h0, .inr (10, [.ref ts, .ref tp, .ref tw, .int z, .int pa, .int so, .int pl, .long wd])), (ts, .inl (t1, 2001, .inl f_97)), (tp, .inl (t2, 2001, .inl gp)), (tw, .inl (t3, 2001, .inr (.inl gw))), (bt, .inl (bk, 2000, .inl gt))] H := hP
              have hD : va_D A [(h0, .inr (10, [.ref ts, .ref tp, .ref tw, .int z, .int pa, .int so, .int pl, .long wd])), (ts, .inl (t1, 2001, .inl f_97)), (tp, .inl (t2, 2001, .inl gp)), (tw, .inl (t3, 2001, .inr (.inl gw))), (bt, .inl (bk, 2000, .inl gt))] := hD
              refine lv_goto (tgt := 217) hx hb dX10_readWord_132 (by decide) ?_
              refine lv_aload_n hx hb dX10_readWord_217 rfl (lv_at hl 6 rfl) ?_
              refine va_get (D := (dC, dI)) (ci := 10) (v := .ref tw) (C := RX10) (T := TX10) (N := 8) hx hb hA zin_X10 hown hK hP 0 rfl rfl 2 (by decide) (hA _ wi_348) (fun _ h9 => h9) rfl dX10_readWord_218 ?_
              refine lv_aload_n hx hb dX10_readWord_221 rfl (lv_at hl 6 rfl) ?_
              refine va_get (D := (dC, dI)) (ci := 10) (v := .int z) (C := RX10) (T := TX10) (N := 8) hx hb hA zin_X10 hown hK hP 0 rfl rfl 3 (by decide) (hA _ wi_349) (fun _ h9 => h9) rfl dX10_readWord_222 ?_
              refine lv_iload hx hb dX10_readWord_225 (lv_at hl 3 rfl) ?_
              refine lv_iload hx hb dX10_readWord_227 (lv_at hl 0 rfl) ?_
              refine lv_icmp_ne (tgt := 238) hx hb dX10_readWord_229 (by decide) (fun c_98 => ?_) (fun c_98 => ?_)
              · have ic_98 : di.toInt ≠ x_54.toInt := zi_ne c_98
                refine lv_lload hx hb dX10_readWord_238 (lv_at hl 1 rfl) ?_
                refine va_last hx hb hK hP hD hS 3 2 rfl rfl (vp_in_iff.mpr ⟨by omega, by omega⟩) dX10_readWord_240 (fun H locs hP hD hS => ?_)
                obtain ⟨f_99, ef_99⟩ : ∃ gz9 : Nat → Int64, gz9 = vp_updL gw (Int32.toNatClampNeg z) by_ := ⟨_, rfl⟩
                rw [← ef_99] at hP hD
                have hP : va_P (dC, dI) vwCl [(h0, .inr (10, [.ref ts, .ref tp, .ref tw, .int z, .int pa, .int so, .int pl, .long wd])), (ts, .inl (t1, 2001, .inl f_97)), (tp, .inl (t2, 2001, .inl gp)), (tw, .inl (t3, 2001, .inr (.inl f_99))), (bt, .inl (bk, 2000, .inl gt))] H := hP
                have hD : va_D A [(h0, .inr (10, [.ref ts, .ref tp, .ref tw, .int z, .int pa, .int so, .int pl, .long wd])), (ts, .inl (t1, 2001, .inl f_97)), (tp, .inl (t2, 2001, .inl gp)), (tw, .inl (t3, 2001, .inr (.inl f_99))), (bt, .inl (bk, 2000, .inl gt))] := hD
                refine lv_iload hx hb dX10_readWord_241 (lv_at hl 5 rfl) ?_
                have hP9 := hP.sub (ws' := [(h0, .inr (10, [.ref ts, .ref tp, .ref tw, .int z, .int pa, .int so, .int pl, .long wd])), (ts, .inl (t1, 2001, .inl f_97)), (tp, .inl (t2, 2001, .inl gp)), (tw, .inl (t3, 2001, .inr (.inl f_99))), (bt, .inl (bk, 2000, .inl gt))]) [0, 1, 2, 3, 4] rfl
                have hD9 := hD.sub (ws' := [(h0, .inr (10, [.ref ts, .ref tp, .ref tw, .int z, .int pa, .int so, .int pl, .long wd])), (ts, .inl (t1, 2001, .inl f_97)), (tp, .inl (t2, 2001, .inl gp)), (tw, .inl (t3, 2001, .inr (.inl f_99))), (bt, .inl (bk, 2000, .inl gt))]) [0, 1, 2, 3, 4] (by decide) rfl
                have hK9 := hK.sub (tys' := [(t1, .int), (t2, .int), (t3, .long), (bk, .byte)]) [0, 1, 2, 3] rfl
                exact W.iret (v := to) hx hb hr (fun t ht hW => ⟨⟨to, (f_97, f_99), rfl, ⟨by omega, by omega, ⟨_, ef_97, by decide⟩⟩, by rw [ht]; exact hP9, va_K.moved hW.alike hK9, hD9⟩, hS.F ht⟩) hS.2.2 dX10_readWord_243
              · have ic_98 : di.toInt = x_54.toInt := zi_eq c_98
                refine lv_iload hx hb dX10_readWord_232 (lv_at hl 2 rfl) ?_
                obtain ⟨x_100, ex_100⟩ : ∃ z : Int64, z = Int32.toInt64 nu := ⟨_, rfl⟩
                refine lv_i2l (v := x_100) hx hb dX10_readWord_234 ex_100.symm ?_
                refine lv_goto (tgt := 240) hx hb dX10_readWord_235 (by decide) ?_
                refine va_last hx hb hK hP hD hS 3 2 rfl rfl (vp_in_iff.mpr ⟨by omega, by omega⟩) dX10_readWord_240 (fun H locs hP hD hS => ?_)
                obtain ⟨f_101, ef_101⟩ : ∃ gz9 : Nat → Int64, gz9 = vp_updL gw (Int32.toNatClampNeg z) x_100 := ⟨_, rfl⟩
                rw [← ef_101] at hP hD
                have hP : va_P (dC, dI) vwCl [(h0, .inr (10, [.ref ts, .ref tp, .ref tw, .int z, .int pa, .int so, .int pl, .long wd])), (ts, .inl (t1, 2001, .inl f_97)), (tp, .inl (t2, 2001, .inl gp)), (tw, .inl (t3, 2001, .inr (.inl f_101))), (bt, .inl (bk, 2000, .inl gt))] H := hP
                have hD : va_D A [(h0, .inr (10, [.ref ts, .ref tp, .ref tw, .int z, .int pa, .int so, .int pl, .long wd])), (ts, .inl (t1, 2001, .inl f_97)), (tp, .inl (t2, 2001, .inl gp)), (tw, .inl (t3, 2001, .inr (.inl f_101))), (bt, .inl (bk, 2000, .inl gt))] := hD
                refine lv_iload hx hb dX10_readWord_241 (lv_at hl 5 rfl) ?_
                have hP9 := hP.sub (ws' := [(h0, .inr (10, [.ref ts, .ref tp, .ref tw, .int z, .int pa, .int so, .int pl, .long wd])), (ts, .inl (t1, 2001, .inl f_97)), (tp, .inl (t2, 2001, .inl gp)), (tw, .inl (t3, 2001, .inr (.inl f_101))), (bt, .inl (bk, 2000, .inl gt))]) [0, 1, 2, 3, 4] rfl
                have hD9 := hD.sub (ws' := [(h0, .inr (10, [.ref ts, .ref tp, .ref tw, .int z, .int pa, .int so, .int pl, .long wd])), (ts, .inl (t1, 2001, .inl f_97)), (tp, .inl (t2, 2001, .inl gp)), (tw, .inl (t3, 2001, .inr (.inl f_101))), (bt, .inl (bk, 2000, .inl gt))]) [0, 1, 2, 3, 4] (by decide) rfl
                have hK9 := hK.sub (tys' := [(t1, .int), (t2, .int), (t3, .long), (bk, .byte)]) [0, 1, 2, 3] rfl
                exact W.iret (v := to) hx hb hr (fun t ht hW => ⟨⟨to, (f_97, f_101), rfl, ⟨by omega, by omega, ⟨_, ef_97, by decide⟩⟩, by rw [ht]; exact hP9, va_K.moved hW.alike hK9, hD9⟩, hS.F ht⟩) hS.2.2 dX10_readWord_243
        · have ic_53 : r_51.toInt ≠ 0 := zi_ne c_53
          refine lv_aload_n hx hb dX10_readWord_31 rfl (lv_at hl 6 rfl) ?_
          refine lv_iload hx hb dX10_readWord_32 (lv_at hl 4 rfl) ?_
          refine va_bald hx hb hK hP 4 3 rfl rfl (vp_in_iff.mpr ⟨by omega, by omega⟩) dX10_readWord_34 ?_
          refine lv_topi (fun x_102 ex_102 => ?_)
          have jx_102 : x_102.toInt = x_50.toInt := by rw [ex_102, ex_50]
          have hPc := hP.sub (ws' := []) [] rfl
          have hDc := hD.sub (ws' := []) [] (by decide) rfl
          have hKc := hK.sub (tys' := []) [] rfl
          have hFc := va_free (wc := []) hD hS hAA [] rfl
          refine va_calli (va_runS (As := [.int x_102]) (rest := []) ⟨hx, hb, hml, hown, hA⟩ (c_X10_isSmall_x l dC dI aK aV x_102 H.size) (va_cwS 1 hA (zw_S wi_664 wi_665 wi_137 (zw_good wi_666)) rfl rfl rfl (by decide +kernel) ⟨(Nat.le_of_ble_eq_true rfl), (Nat.le_of_ble_eq_true rfl)⟩) ⟨zP_blind, zz_pre hKc hPc hDc hN hT hS hFc⟩ rfl rfl hl.1 rfl (lv_room (Nat.le_of_ble_eq_true rfl)) dX10_readWord_35 ⟨(Nat.le_of_ble_eq_true rfl), (Nat.le_of_ble_eq_true rfl)⟩) hS (fun q _ h => hFc q h) hFc (fun r_103 u t H1 locs ht hvm hw hB hz1 hk1 hS => ?_)
          obtain ⟨hP1, hK1, hD1⟩ := hB
          rw [ht] at hP1
          have hK1 := va_K.moved hvm.symm hK1
          obtain ⟨hP, hD⟩ := va_join (wr := [(h0, .inr (10, [.ref ts, .ref tp, .ref tw, .int z, .int pa, .int so, .int pl, .long wd])), (ts, .inl (t1, 2001, .inl gs)), (tp, .inl (t2, 2001, .inl gp)), (tw, .inl (t3, 2001, .inr (.inl gw))), (bt, .inl (bk, 2000, .inl gt))]) (w1 := []) hP hD [] [0, 1, 2, 3, 4] rfl rfl (by decide) (by decide) hk1 hFc hP1 hD1
          have hK := (hK.sub (tys' := [(t1, .int), (t2, .int), (t3, .long), (bk, .byte)]) [0, 1, 2, 3] rfl).app hK1
          generalize H1 = H at hP hS ⊢
          have hP : va_P (dC, dI) vwCl [(h0, .inr (10, [.ref ts, .ref tp, .ref tw, .int z, .int pa, .int so, .int pl, .long wd])), (ts, .inl (t1, 2001, .inl gs)), (tp, .inl (t2, 2001, .inl gp)), (tw, .inl (t3, 2001, .inr (.inl gw))), (bt, .inl (bk, 2000, .inl gt))] H := hP
          have hD : va_D A [(h0, .inr (10, [.ref ts, .ref tp, .ref tw, .int z, .int pa, .int so, .int pl, .long wd])), (ts, .inl (t1, 2001, .inl gs)), (tp, .inl (t2, 2001, .inl gp)), (tw, .inl (t3, 2001, .inr (.inl gw))), (bt, .inl (bk, 2000, .inl gt))] := hD
          have hK : va_K (dC, dI) vwCl [(t1, .int), (t2, .int), (t3, .long), (bk, .byte)] s := hK
          have hw_r_103 := hw
          try dsimp only at hw_r_103
          have hq_104 := hw
          refine lv_if_eq (tgt := 47) hx hb dX10_readWord_38 (by decide) (fun c_105 => ?_) (fun c_105 => ?_)
          · have ic_105 : r_103.toInt = 0 := zi_eq c_105
            refine lv_aload_n hx hb dX10_readWord_47 rfl (lv_at hl 6 rfl) ?_
            refine lv_iload hx hb dX10_readWord_48 (lv_at hl 4 rfl) ?_
            refine va_bald hx hb hK hP 4 3 rfl rfl (vp_in_iff.mpr ⟨by omega, by omega⟩) dX10_readWord_50 ?_
            refine lv_topi (fun x_106 ex_106 => ?_)
            have jx_106 : x_106.toInt = x_102.toInt := by rw [ex_106, ex_102]
            have hPc := hP.sub (ws' := []) [] rfl
            have hDc := hD.sub (ws' := []) [] (by decide) rfl
            have hKc := hK.sub (tys' := []) [] rfl
            have hFc := va_free (wc := []) hD hS hAA [] rfl
            refine va_calli (va_runS (As := [.int x_106]) (rest := []) ⟨hx, hb, hml, hown, hA⟩ (c_X10_isDigit_x l dC dI aK aV x_106 H.size) (va_cwS 1 hA (zw_S wi_670 wi_671 wi_137 (zw_good wi_672)) rfl rfl rfl (by decide +kernel) ⟨(Nat.le_of_ble_eq_true rfl), (Nat.le_of_ble_eq_true rfl)⟩) ⟨zP_blind, zz_pre hKc hPc hDc hN hT hS hFc⟩ rfl rfl hl.1 rfl (lv_room (Nat.le_of_ble_eq_true rfl)) dX10_readWord_51 ⟨(Nat.le_of_ble_eq_true rfl), (Nat.le_of_ble_eq_true rfl)⟩) hS (fun q _ h => hFc q h) hFc (fun r_107 u t H1 locs ht hvm hw hB hz1 hk1 hS => ?_)
            obtain ⟨hP1, hK1, hD1⟩ := hB
            rw [ht] at hP1
            have hK1 := va_K.moved hvm.symm hK1
            obtain ⟨hP, hD⟩ := va_join (wr := [(h0, .inr (10, [.ref ts, .ref tp, .ref tw, .int z, .int pa, .int so, .int pl, .long wd])), (ts, .inl (t1, 2001, .inl gs)), (tp, .inl (t2, 2001, .inl gp)), (tw, .inl (t3, 2001, .inr (.inl gw))), (bt, .inl (bk, 2000, .inl gt))]) (w1 := []) hP hD [] [0, 1, 2, 3, 4] rfl rfl (by decide) (by decide) hk1 hFc hP1 hD1
            have hK := (hK.sub (tys' := [(t1, .int), (t2, .int), (t3, .long), (bk, .byte)]) [0, 1, 2, 3] rfl).app hK1
            generalize H1 = H at hP hS ⊢
            have hP : va_P (dC, dI) vwCl [(h0, .inr (10, [.ref ts, .ref tp, .ref tw, .int z, .int pa, .int so, .int pl, .long wd])), (ts, .inl (t1, 2001, .inl gs)), (tp, .inl (t2, 2001, .inl gp)), (tw, .inl (t3, 2001, .inr (.inl gw))), (bt, .inl (bk, 2000, .inl gt))] H := hP
            have hD : va_D A [(h0, .inr (10, [.ref ts, .ref tp, .ref tw, .int z, .int pa, .int so, .int pl, .long wd])), (ts, .inl (t1, 2001, .inl gs)), (tp, .inl (t2, 2001, .inl gp)), (tw, .inl (t3, 2001, .inr (.inl gw))), (bt, .inl (bk, 2000, .inl gt))] := hD
            have hK : va_K (dC, dI) vwCl [(t1, .int), (t2, .int), (t3, .long), (bk, .byte)] s := hK
            have hw_r_107 := hw
            try dsimp only at hw_r_107
            have hq_108 := hw
            refine lv_if_eq (tgt := 75) hx hb dX10_readWord_54 (by decide) (fun c_109 => ?_) (fun c_109 => ?_)
            · have ic_109 : r_107.toInt = 0 := zi_eq c_109
              refine lv_lload hx hb dX10_readWord_75 (lv_at hl 0 rfl) ?_
              refine lv_bipush (v := 8) hx hb dX10_readWord_77 (by decide) ?_
              refine lv_lshl hx hb dX10_readWord_79 rfl ?_
              refine lv_topl (fun x_110 ex_110 => ?_)
              refine lv_aload_n hx hb dX10_readWord_80 rfl (lv_at hl 6 rfl) ?_
              refine lv_iload hx hb dX10_readWord_81 (lv_at hl 4 rfl) ?_
              refine va_bald hx hb hK hP 4 3 rfl rfl (vp_in_iff.mpr ⟨by omega, by omega⟩) dX10_readWord_83 ?_
              refine lv_topi (fun x_111 ex_111 => ?_)
              have jx_111 : x_111.toInt = x_106.toInt := by rw [ex_111, ex_106]
              obtain ⟨x_112, ex_112⟩ : ∃ z : Int64, z = Int32.toInt64 x_111 := ⟨_, rfl⟩
              refine lv_i2l (v := x_112) hx hb dX10_readWord_84 ex_112.symm ?_
              refine lv_lor hx hb dX10_readWord_85 ?_
              refine lv_topl (fun x_113 ex_113 => ?_)
              refine lv_lstore (lv' := [(8, .long x_113), (7, .int nu), (6, .int di), (5, .int sm), (4, .int to), (0, .ref h0), (1, .ref bt), (2, .int fr), (3, .int en)]) hx hb dX10_readWord_86 hl (by decide) rfl (fun ls hl => ?_)
              obtain ⟨x_114, ex_114⟩ : ∃ y : Int32, y = to + Int32.ofInt 1 := ⟨_, rfl⟩
              refine lv_iinc (v := x_114) (lv' := [(4, .int x_114), (8, .long x_113), (7, .int nu), (6, .int di), (5, .int sm), (0, .ref h0), (1, .ref bt), (2, .int fr), (3, .int en)]) hx hb dX10_readWord_88 hl (k := 4) rfl (by rw [ex_114]) (by decide) rfl (fun ls hl => ?_)
              have ix_114 : x_114.toInt = to.toInt + 1 := by rw [ex_114]; exact zi_addc (by decide) (by omega) (by omega)
              refine lv_goto (tgt := 15) hx hb dX10_readWord_91 (by decide) ?_
              exact ih x_114 sm di nu x_113 _ _ _ (by omega) (by omega) (by omega) (by omega) (by omega) (by omega) (by omega) (hP.sub [0, 1, 2, 3, 4] rfl) (hD.sub [0, 1, 2, 3, 4] (by decide) rfl) hS (lv_sub hl [1, 2, 3, 4, 0, 5, 6, 7, 8] rfl)
            · have ic_109 : r_107.toInt ≠ 0 := zi_ne c_109
              obtain ⟨x_115, ex_115⟩ : ∃ y : Int32, y = di + Int32.ofInt 1 := ⟨_, rfl⟩
              refine lv_iinc (v := x_115) (lv' := [(6, .int x_115), (8, .long by_), (7, .int nu), (5, .int sm), (4, .int to), (0, .ref h0), (1, .ref bt), (2, .int fr), (3, .int en)]) hx hb dX10_readWord_57 hl (k := 2) rfl (by rw [ex_115]) (by decide) rfl (fun ls hl => ?_)
              have ix_115 : x_115.toInt = di.toInt + 1 := by rw [ex_115]; exact zi_addc (by decide) (by omega) (by omega)
              refine lv_iload hx hb dX10_readWord_60 (lv_at hl 2 rfl) ?_
              refine lv_bipush (v := 10) hx hb dX10_readWord_62 (by decide) ?_
              refine lv_imul hx hb dX10_readWord_64 ?_
              refine lv_topi (fun x_116 ex_116 => ?_)
              refine lv_aload_n hx hb dX10_readWord_65 rfl (lv_at hl 6 rfl) ?_
              refine lv_iload hx hb dX10_readWord_66 (lv_at hl 4 rfl) ?_
              refine va_bald hx hb hK hP 4 3 rfl rfl (vp_in_iff.mpr ⟨by omega, by omega⟩) dX10_readWord_68 ?_
              refine lv_topi (fun x_117 ex_117 => ?_)
              have jx_117 : x_117.toInt = x_106.toInt := by rw [ex_117, ex_106]
              refine lv_bipush (v := 48) hx hb dX10_readWord_69 (by decide) ?_
              refine lv_isub hx hb dX10_readWord_71 ?_
              refine lv_topi (fun x_118 ex_118 => ?_)
              refine lv_iadd hx hb dX10_readWord_72 ?_
              refine lv_topi (fun x_119 ex_119 => ?_)
              refine lv_istore (lv' := [(7, .int x_119), (6, .int x_115), (8, .long by_), (5, .int sm), (4, .int to), (0, .ref h0), (1, .ref bt), (2, .int fr), (3, .int en)]) hx hb dX10_readWord_73 hl (by decide) rfl (fun ls hl => ?_)
              refine lv_lload hx hb dX10_readWord_75 (lv_at hl 2 rfl) ?_
              refine lv_bipush (v := 8) hx hb dX10_readWord_77 (by decide) ?_
              refine lv_lshl hx hb dX10_readWord_79 rfl ?_
              refine lv_topl (fun x_120 ex_120 => ?_)
              refine lv_aload_n hx hb dX10_readWord_80 rfl (lv_at hl 6 rfl) ?_
              refine lv_iload hx hb dX10_readWord_81 (lv_at hl 4 rfl) ?_
              refine va_bald hx hb hK hP 4 3 rfl rfl (vp_in_iff.mpr ⟨by omega, by omega⟩) dX10_readWord_83 ?_
              refine lv_topi (fun x_121 ex_121 => ?_)
              have jx_121 : x_121.toInt = x_117.toInt := by rw [ex_121, ex_117]
              obtain ⟨x_122, ex_122⟩ : ∃ z : Int64, z = Int32.toInt64 x_121 := ⟨_, rfl⟩
              refine lv_i2l (v := x_122) hx hb dX10_readWord_84 ex_122.symm ?_
              refine lv_lor hx hb dX10_readWord_85 ?_
              refine lv_topl (fun x_123 ex_123 => ?_)
              refine lv_lstore (lv' := [(8, .long x_123), (7, .int x_119), (6, .int x_115), (5, .int sm), (4, .int to), (0, .ref h0), (1, .ref bt), (2, .int fr), (3, .int en)]) hx hb dX10_readWord_86 hl (by decide) rfl (fun ls hl => ?_)
              obtain ⟨x_124, ex_124⟩ : ∃ y : Int32, y = to + Int32.ofInt 1 := ⟨_, rfl⟩
              refine lv_iinc (v := x_124) (lv' := [(4, .int x_124), (8, .long x_123), (7, .int x_119), (6, .int x_115), (5, .int sm), (0, .ref h0), (1, .ref bt), (2, .int fr), (3, .int en)]) hx hb dX10_readWord_88 hl (k := 4) rfl (by rw [ex_124]) (by decide) rfl (fun ls hl => ?_)
              have ix_124 : x_124.toInt = to.toInt + 1 := by rw [ex_124]; exact zi_addc (by decide) (by omega) (by omega)
              refine lv_goto (tgt := 15) hx hb dX10_readWord_91 (by decide) ?_
              exact ih x_124 sm x_115 x_119 x_123 _ _ _ (by omega) (by omega) (by omega) (by omega) (by omega) (by omega) (by omega) (hP.sub [0, 1, 2, 3, 4] rfl) (hD.sub [0, 1, 2, 3, 4] (by decide) rfl) hS (lv_sub hl [1, 2, 3, 4, 0, 5, 6, 7, 8] rfl)
          · have ic_105 : r_103.toInt ≠ 0 := zi_ne c_105
            obtain ⟨x_125, ex_125⟩ : ∃ y : Int32, y = sm + Int32.ofInt 1 := ⟨_, rfl⟩
            refine lv_iinc (v := x_125) (lv' := [(5, .int x_125), (8, .long by_), (7, .int nu), (6, .int di), (4, .int to), (0, .ref h0), (1, .ref bt), (2, .int fr), (3, .int en)]) hx hb dX10_readWord_41 hl (k := 3) rfl (by rw [ex_125]) (by decide) rfl (fun ls hl => ?_)
            have ix_125 : x_125.toInt = sm.toInt + 1 := by rw [ex_125]; exact zi_addc (by decide) (by omega) (by omega)
            refine lv_goto (tgt := 75) hx hb dX10_readWord_44 (by decide) ?_
            refine lv_lload hx hb dX10_readWord_75 (lv_at hl 1 rfl) ?_
            refine lv_bipush (v := 8) hx hb dX10_readWord_77 (by decide) ?_
            refine lv_lshl hx hb dX10_readWord_79 rfl ?_
            refine lv_topl (fun x_126 ex_126 => ?_)
            refine lv_aload_n hx hb dX10_readWord_80 rfl (lv_at hl 6 rfl) ?_
            refine lv_iload hx hb dX10_readWord_81 (lv_at hl 4 rfl) ?_
            refine va_bald hx hb hK hP 4 3 rfl rfl (vp_in_iff.mpr ⟨by omega, by omega⟩) dX10_readWord_83 ?_
            refine lv_topi (fun x_127 ex_127 => ?_)
            have jx_127 : x_127.toInt = x_102.toInt := by rw [ex_127, ex_102]
            obtain ⟨x_128, ex_128⟩ : ∃ z : Int64, z = Int32.toInt64 x_127 := ⟨_, rfl⟩
            refine lv_i2l (v := x_128) hx hb dX10_readWord_84 ex_128.symm ?_
            refine lv_lor hx hb dX10_readWord_85 ?_
            refine lv_topl (fun x_129 ex_129 => ?_)
            refine lv_lstore (lv' := [(8, .long x_129), (5, .int x_125), (7, .int nu), (6, .int di), (4, .int to), (0, .ref h0), (1, .ref bt), (2, .int fr), (3, .int en)]) hx hb dX10_readWord_86 hl (by decide) rfl (fun ls hl => ?_)
            obtain ⟨x_130, ex_130⟩ : ∃ y : Int32, y = to + Int32.ofInt 1 := ⟨_, rfl⟩
            refine lv_iinc (v := x_130) (lv' := [(4, .int x_130), (8, .long x_129), (5, .int x_125), (7, .int nu), (6, .int di), (0, .ref h0), (1, .ref bt), (2, .int fr), (3, .int en)]) hx hb dX10_readWord_88 hl (k := 4) rfl (by rw [ex_130]) (by decide) rfl (fun ls hl => ?_)
            have ix_130 : x_130.toInt = to.toInt + 1 := by rw [ex_130]; exact zi_addc (by decide) (by omega) (by omega)
            refine lv_goto (tgt := 15) hx hb dX10_readWord_91 (by decide) ?_
            exact ih x_130 x_125 di nu x_129 _ _ _ (by omega) (by omega) (by omega) (by omega) (by omega) (by omega) (by omega) (hP.sub [0, 1, 2, 3, 4] rfl) (hD.sub [0, 1, 2, 3, 4] (by decide) rfl) hS (lv_sub hl [1, 3, 4, 2, 0, 5, 6, 7, 8] rfl)
  exact loop_15 _ fr 0 0 0 0 _ _ _ (Nat.le_refl _) (by have h9_0 : Int32.toInt 0 = 0 := (by decide); omega) (by have h9_0 : Int32.toInt 0 = 0 := (by decide); omega) (by have h9_0 : Int32.toInt 0 = 0 := (by decide); omega) (by have h9_0 : Int32.toInt 0 = 0 := (by decide); omega) (by have h9_0 : Int32.toInt 0 = 0 := (by decide); omega) (by have h9_0 : Int32.toInt 0 = 0 := (by decide); omega) (hP.sub [0, 1, 2, 3, 4] rfl) (hD.sub [0, 1, 2, 3, 4] (by decide) rfl) hS (lv_sub hl [0, 1, 2, 3, 4, 5, 6, 7, 8] rfl)
