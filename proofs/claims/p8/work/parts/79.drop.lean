/-- what is doomed and not freed is lost -/
theorem zCS_leak {wd : Nat → Nat} {gc : Nat → Int32} {gv : Nat → Int64} {fresh ff held dbl dm : Int32} {lv : Nat → Bool} {R : Nat → Int} {FL DL : List Nat} (h : zCS wd gc gv fresh ff held dbl lv R FL DL dm) : zCS wd gc gv fresh ff held dbl lv R FL [] (-1) := by
  obtain ⟨hI, h0, h4, hd, hR0, hf, hdm, hnd, hfl, hh, hg⟩ := h
  refine ⟨zI_leak hI (fun c => ?_) (fun c => ?_), h0, h4, hd, hR0, hf, by show (-1 : Int32).toInt = -1; decide, ?_, fun c hc => hfl c ?_, hh, fun d hd => hg d (hd.elim Or.inl (fun g => (nomatch g)))⟩
  · have := zdl_0 (wd := wd) (gv := gv) (l := DL) (c := c)
    show R c + 0 ≤ R c + zdl wd gv DL c
    omega
  · have := hR0 c
    show 0 ≤ R c + 0
    omega
  · rw [List.append_nil]; exact (List.nodup_append.mp hnd).1
  · rw [List.append_nil] at hc; exact List.mem_append.mpr (Or.inl hc)
/-- the first of the doomed is taken in hand: its own references are held -/
theorem zCS_pop {wd : Nat → Nat} {gc : Nat → Int32} {gv : Nat → Int64} {fresh ff held dbl dm : Int32} {lv : Nat → Bool} {R : Nat → Int} {FL DL : List Nat} (h : zCS wd gc gv fresh ff held dbl lv R FL DL dm) (hne : dm.toInt ≠ -1) : 0 ≤ dm.toInt ∧ dm.toInt < fresh.toInt ∧ lv (Int32.toNatClampNeg dm) = false ∧ (∀ k, k < wd (Int32.toNatClampNeg dm) → zgd (gv (3 * Int32.toNatClampNeg dm + k))) ∧ Int32.toNatClampNeg dm ∈ DL ∧ ∃ DL2, zCS wd gc gv fresh ff held dbl lv (fun c => R c + zcf zr wd gv (Int32.toNatClampNeg dm) c) FL DL2 (gc (Int32.toNatClampNeg dm)) ∧ Int32.toNatClampNeg dm ∉ FL ++ DL2 ∧ ∀ c ∈ DL2, c ∈ DL := by
  obtain ⟨hI, h0, h4, hd, hR0, hf, hdm, hnd, hfl, hh, hg⟩ := h
  have hn := zn_nat h0
  cases DL with
  | nil => exact (hne hdm).elim
  | cons y DL =>
    have h1 : dm.toInt = (y : Int) := hdm.1
    have hy := zn_nat (x := dm) (by omega)
    have e : Int32.toNatClampNeg dm = y := by omega
    rw [e]
    have hm := hfl y (List.mem_append.mpr (Or.inr List.mem_cons_self))
    obtain ⟨n1, n2, n3⟩ := List.nodup_append.mp hnd
    have hyF : y ∉ FL := fun g => n3 y g y List.mem_cons_self rfl
    have hyD := (List.nodup_cons.mp n2).1
    refine ⟨by omega, by omega, hm.2, fun k hk => hg y (Or.inr List.mem_cons_self) k hk, List.mem_cons_self, DL, ⟨?_, h0, h4, hd, fun c => ?_, hf, hdm.2, ?_, fun c hc => hfl c ?_, hh, fun d hd => hg d (hd.elim Or.inl (fun g => Or.inr (List.mem_cons_of_mem _ g)))⟩, fun g => ?_, fun c hc => List.mem_cons_of_mem _ hc⟩
    · have e2 : (fun c => R c + zcf zr wd gv y c + zdl wd gv DL c : Nat → Int) = (fun c => R c + zdl wd gv (y :: DL) c) := by
        funext c
        show _ = R c + (zcf zr wd gv y c + zdl wd gv DL c)
        omega
      rw [e2]; exact hI
    · have := hR0 c
      have := zcf_0 zr_0 (wd := wd) (gv := gv) (d := y) (c := c)
      show 0 ≤ R c + zcf zr wd gv y c
      omega
    · exact List.nodup_append.mpr ⟨n1, (List.nodup_cons.mp n2).2, fun a ha b hb => n3 a ha b (List.mem_cons_of_mem _ hb)⟩
    · rcases List.mem_append.mp hc with u | u
      · exact List.mem_append.mpr (Or.inl u)
      · exact List.mem_append.mpr (Or.inr (List.mem_cons_of_mem _ u))
    · exact (List.mem_append.mp g).elim hyF hyD
/-- what is left of a sum from k on -/
def zrm (n k : Nat) (f : Nat → Int) : Int := zs n (fun j => if k ≤ j then f j else 0)
theorem zrm_0 {n : Nat} {f : Nat → Int} : zrm n 0 f = zs n f := zs_ext (fun d _ => if_pos (Nat.zero_le d))
theorem zs_z {f : Nat → Int} : ∀ {n : Nat}, (∀ d, d < n → f d = 0) → zs n f = 0
  | 0, _ => rfl
  | n + 1, h => by
    show zs n f + f n = 0
    rw [zs_z (fun d hd => h d (by omega)), h n (by omega)]; rfl
theorem zrm_e {n k : Nat} {f : Nat → Int} (h : n ≤ k) : zrm n k f = 0 := zs_z (fun d hd => if_neg (by omega))
theorem zrm_s {n k : Nat} {f : Nat → Int} (h : k < n) : zrm n k f = zrm n (k + 1) f + f k := by
  have := zs_up (f := fun j => if k + 1 ≤ j then f j else 0) (g := fun j => if k ≤ j then f j else 0) (n := n) (x := k) (fun d _ hd => by
    show (if k ≤ d then f d else 0) = (if k + 1 ≤ d then f d else 0)
    by_cases g : k ≤ d
    · rw [if_pos g, if_pos (by omega)]
    · rw [if_neg g, if_neg (by omega)]) h
  unfold zrm
  rw [this, if_neg (by omega : ¬ k + 1 ≤ k), if_pos (Nat.le_refl k)]; omega
theorem zrm_p {n k : Nat} {f : Nat → Int} (h : ∀ j, 0 ≤ f j) : 0 ≤ zrm n k f := zs_0 (fun d _ => by
  show 0 ≤ (if k ≤ d then f d else 0)
  have := h d
  split <;> omega)
