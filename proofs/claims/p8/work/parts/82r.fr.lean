/-! the class's stack, calls and cells, as the plain machine has them -/
def cTop (gs : Nat → Int64) (b nm : Nat) (Vs : List Int64) (e : Nat → Int64) (bd tp : Nat) : Prop := tp = b + nm + Vs.length ∧ (∀ j, j < Vs.length → gs (b + nm + j) = Vs.getD (Vs.length - 1 - j) 0) ∧ (∀ k, k < bd → gs (b + k) = e k) ∧ bd ≤ nm
theorem cTop_cg {gs gs2 : Nat → Int64} {b nm bd tp : Nat} {Vs : List Int64} {e : Nat → Int64} (hg : ∀ j, j < tp → gs2 j = gs j) (h : cTop gs b nm Vs e bd tp) : cTop gs2 b nm Vs e bd tp := by
  obtain ⟨h1, h2, h3, h4⟩ := h
  exact ⟨h1, fun j hj => by rw [hg _ (by omega)]; exact h2 j hj, fun k hk => by rw [hg _ (by omega)]; exact h3 k hk, h4⟩
theorem cul_s {f : Nat → Int64} {t : Nat} {v : Int64} : vp_updL f t v t = v := by unfold vp_updL; rw [if_pos rfl]
theorem cul_n {f : Nat → Int64} {t j : Nat} {v : Int64} (h : j ≠ t) : vp_updL f t v j = f j := by unfold vp_updL; rw [if_neg h]
theorem cTop_pu {gs gs2 : Nat → Int64} {b nm bd tp : Nat} {Vs : List Int64} {e : Nat → Int64} {v : Int64} (h : cTop gs b nm Vs e bd tp) (hg : gs2 = vp_updL gs tp v) : cTop gs2 b nm (v :: Vs) e bd (tp + 1) := by
  obtain ⟨h1, h2, h3, h4⟩ := h
  subst hg
  refine ⟨by rw [List.length_cons]; omega, fun j hj => ?_, fun k hk => by rw [cul_n (by omega)]; exact h3 k hk, h4⟩
  rw [List.length_cons] at hj ⊢
  by_cases g : j = Vs.length
  · rw [show b + nm + j = tp from by omega, cul_s, show Vs.length + 1 - 1 - j = 0 from by omega]; rfl
  · rw [cul_n (by omega), h2 j (by omega), show Vs.length + 1 - 1 - j = (Vs.length - 1 - j) + 1 from by omega]; rfl
theorem cTop_dr {gs : Nat → Int64} {b nm bd tp q : Nat} {Vs : List Int64} {e : Nat → Int64} (h : cTop gs b nm Vs e bd tp) (hq : q ≤ Vs.length) : cTop gs b nm (Vs.drop q) e bd (tp - q) ∧ (∀ i, i < q → gs (tp - q + i) = Vs.getD (q - 1 - i) 0) ∧ b + nm ≤ tp - q := by
  obtain ⟨h1, h2, h3, h4⟩ := h
  refine ⟨⟨by rw [List.length_drop]; omega, fun j hj => ?_, h3, h4⟩, fun i hi => ?_, by omega⟩
  · rw [List.length_drop] at hj ⊢
    rw [h2 j (by omega), List.getD_eq_getElem?_getD, List.getD_eq_getElem?_getD, List.getElem?_drop, show q + (Vs.length - q - 1 - j) = Vs.length - 1 - j from by omega]
  · rw [show tp - q + i = b + nm + (Vs.length - q + i) from by omega, h2 _ (by omega), show Vs.length - 1 - (Vs.length - q + i) = q - 1 - i from by omega]
theorem cTop_se {gs gs2 : Nat → Int64} {b nm bd tp s : Nat} {Vs : List Int64} {e : Nat → Int64} {v : Int64} (h : cTop gs b nm Vs e bd tp) (hs : s ≤ bd) (hn : s < nm) (hg : gs2 = vp_updL gs (b + s) v) : cTop gs2 b nm Vs (vp_updL e s v) (max bd (s + 1)) tp := by
  obtain ⟨h1, h2, h3, h4⟩ := h
  subst hg
  refine ⟨h1, fun j hj => by rw [cul_n (by omega)]; exact h2 j hj, fun k hk => ?_, by omega⟩
  by_cases g : k = s
  · rw [g, cul_s, cul_s]
  · rw [cul_n (by omega), cul_n g]; exact h3 k (by omega)
abbrev cFm := Nat × Nat × List (Nat × Tm) × List Int64 × (Nat → Int64) × Nat
/-- the calls that wait: b, nm their names' rows, K what is to do, Vs their values -/
def cFr (S : Nat → Nat → Int32) (nx : Nat → Int32) (H : Int32 → Int64 → Prop) (az : Int) (z : Nat) (kf : Nat → Int32) (gs : Nat → Int64) (kb kk : Nat → Int32) : List cFm → Nat → Int32 → Nat → Prop
  | [], _, _, m => m = 0
  | (b, nm, K, Vs, e, bd) :: fs, tp, x, m => cTop gs b nm Vs e bd tp ∧ (kb fs.length).toInt = (b : Int) ∧ (∀ u ∈ K, cOk z kf bd nm u) ∧ cHt K (Vs.length + 1) ∧ ∃ m1 m2 : Nat, cKo S nx H az K x m1 ∧ cFr S nx H az z kf gs kb kk fs b (kk fs.length) m2 ∧ m = m1 + m2
theorem cFr_cg {S : Nat → Nat → Int32} {nx : Nat → Int32} {H : Int32 → Int64 → Prop} {az : Int} {z : Nat} {kf : Nat → Int32} {gs gs2 : Nat → Int64} {kb kk kb2 kk2 : Nat → Int32} : ∀ {fs : List cFm} {tp : Nat} {x : Int32} {m : Nat}, (∀ j, j < tp → gs2 j = gs j) → (∀ i, i < fs.length → kb2 i = kb i ∧ kk2 i = kk i) → cFr S nx H az z kf gs kb kk fs tp x m → cFr S nx H az z kf gs2 kb2 kk2 fs tp x m
  | [], _, _, _, _, _, h => h
  | (b, nm, K, Vs, e, bd) :: fs, tp, x, m, hg, hk, ⟨h1, h2, h3, h4, m1, m2, h5, h6, h7⟩ => by
    have hl : fs.length < ((b, nm, K, Vs, e, bd) :: fs).length := by rw [List.length_cons]; omega
    have hb : b ≤ tp := by have := h1.1; omega
    exact ⟨cTop_cg hg h1, by rw [(hk _ hl).1]; exact h2, h3, h4, m1, m2, h5, by rw [(hk _ hl).2]; exact cFr_cg (fun j hj => hg j (by omega)) (fun i hi => hk i (by omega)) h6, h7⟩
def cTs : List cFm → List (Nat × Tm)
  | [] => []
  | f :: fs => f.2.2.1 ++ (2, Tm.nil) :: cTs fs
def cVs : List cFm → List Int64
  | [] => []
  | f :: fs => f.2.2.2.1 ++ cVs fs
def cEs : List cFm → List (Nat → Int64)
  | [] => []
  | f :: fs => f.2.2.2.2.1 :: cEs fs
theorem cEs_ln : ∀ fs : List cFm, (cEs fs).length = fs.length
  | [] => rfl
  | _ :: fs => by show (cEs fs).length + 1 = fs.length + 1; rw [cEs_ln fs]
/-- the cells -/
def cCe (kz : Int32) (kf gk : Nat → Int32) (gv : Nat → Int64) (c : Nat) (ck : Nat → Int32) (cf : Nat → Int64) : Prop := ∀ i, i < c → gk i = ck i ∧ ∀ k : Nat, (k : Int) < zfk kz kf (ck i) → gv (3 * i + k) = cf (3 * i + k)
/-- the class at row x, as the plain machine is -/
def cSm (S : Nat → Nat → Int32) (nx : Nat → Int32) (H : Int32 → Int64 → Prop) (az : Int) (z : Nat) (kz : Int32) (kf : Nat → Int32) (gs : Nat → Int64) (kb kk : Nat → Int32) (gk : Nat → Int32) (gv : Nat → Int64) (on ba tp st fr : Int32) (x : Int32) (i : Int) (s : pm_S) : Prop :=
  ∃ (b nm : Nat) (K : List (Nat × Tm)) (Vs : List Int64) (e : Nat → Int64) (bd : Nat) (fs : List cFm) (m1 m2 tn sn cn : Nat) (ck : Nat → Int32) (cf : Nat → Int64), (tp.toInt = (tn : Int) ∧ st.toInt = (sn : Int) ∧ fr.toInt = (cn : Int) ∧ on.toInt = (fs.length : Int) + 1 ∧ ba.toInt = (b : Int)) ∧ (cTop gs b nm Vs e bd tn ∧ (kb fs.length).toInt = (b : Int) ∧ (∀ u ∈ K, cOk z kf bd nm u) ∧ cHt K Vs.length) ∧ cKo S nx H az K x m1 ∧ cFr S nx H az z kf gs kb kk fs b (kk fs.length) m2 ∧ s = (K ++ (2, Tm.nil) :: cTs fs, Vs ++ cVs fs, e :: cEs fs, sn, cn, ck, cf) ∧ cCe kz kf gk gv cn ck cf ∧ i + m1 + m2 ≤ 4 * (sn : Int) + 2
