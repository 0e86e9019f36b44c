/-! the trees that the parser gives: names in scope, kinds as they are told -/
theorem sp_bs {α β : Type} {x : Option α} {f : α → Option β} {r : β} (h : x.bind f = some r) : ∃ a, x = some a ∧ f a = some r := by
  cases x with
  | none => cases h
  | some a => exact ⟨a, rfl, h⟩
theorem sp_ifs {α : Type} {p : Prop} [Decidable p] {x : Option α} {r : α} (h : (if p then x else none) = some r) : p ∧ x = some r := by
  by_cases u : p
  · rw [if_pos u] at h; exact ⟨u, h⟩
  · rw [if_neg u] at h; cases h
/-- kinds told stay -/
def km (s s2 : sp_S) : Prop := s.2.1 ≤ s2.2.1 ∧ ∀ k, k < s.2.1 → (s.2.2.2.1 k).toInt ≠ -1 → s2.2.2.2.1 k = s.2.2.2.1 k
theorem km_rf {s : sp_S} : km s s := ⟨Nat.le_refl _, fun _ _ _ => rfl⟩
theorem km_tr {s s1 s2 : sp_S} (a : km s s1) (b : km s1 s2) : km s s2 := ⟨Nat.le_trans a.1 b.1, fun k hk hn => by
  have e := a.2 k hk hn
  rw [b.2 k (Nat.lt_of_lt_of_le hk a.1) (by rw [e]; exact hn), e]⟩
def tm_wf (z : Nat) (kf : Nat → Int32) : Tm → Nat → Prop
  | .leaf (some (_ + 1, _, _, s, _, _)), c => s < c
  | .branch 0 (.leaf (some (0, _, _, _, _, _))) x, c => tm_wf z kf x c
  | .branch 0 (.leaf (some (1, _, _, k, _, _))) x, c => (k < z ∧ (kf k).toInt = (tm_ln x : Int)) ∧ tm_wf z kf x c
  | .branch 0 (.leaf (some (2, _, _, s, _, _))) x, c => (s < c ∧ x ≠ Tm.nil ∧ tm_ln x ≤ 8) ∧ tm_wf z kf x c
  | .branch 1 (.leaf (some (0, _, _, _, _, _))) (.branch _ x y), c => tm_wf z kf x c ∧ tm_wf z kf y c
  | .branch 1 (.leaf (some (_ + 1, _, _, s, _, _))) (.branch _ x y), c => (s = c ∧ c < 24) ∧ tm_wf z kf x c ∧ tm_wf z kf y (c + 1)
  | .branch 2 (.leaf (some (_, _, _, _, _, _))) (.branch _ x (.branch _ y w)), c => tm_wf z kf x c ∧ tm_wf z kf y c ∧ tm_wf z kf w c
  | .branch 0 (.leaf (some (_ + 3, _, k, h, m, _))) x, c => ((h = c ∧ c + m ≤ 24 ∧ m ≤ 3) ∧ (k = -1 ∧ m = 0 ∨ ∃ j : Nat, k = (j : Int) ∧ j < z ∧ (kf j).toInt = (m : Int))) ∧ tm_wf z kf x (c + m)
  | .branch (_ + 3) x y, c => tm_wf z kf x c ∧ tm_wf z kf y c
  | _, _ => True
theorem wf_mo {z z2 : Nat} {kf kf2 : Nat → Int32} (hz : z ≤ z2) (hk : ∀ k, k < z → (kf k).toInt ≠ -1 → kf2 k = kf k) : ∀ (t : Tm) {c : Nat}, tm_wf z kf t c → tm_wf z2 kf2 t c
  | .leaf (some (0, _, _, _, _, _)), _, h => h
  | .leaf (some (_ + 1, _, _, _, _, _)), _, h => h
  | .branch 0 (.leaf (some (0, _, _, _, _, _))) x, c, h => wf_mo hz hk x (c := c) h
  | .branch 0 (.leaf (some (1, _, _, k, _, _))) x, c, ⟨⟨h1, h2⟩, h3⟩ => ⟨⟨by omega, by rw [hk k h1 (by omega)]; exact h2⟩, wf_mo hz hk x h3⟩
  | .branch 0 (.leaf (some (2, _, _, s, _, _))) x, c, ⟨h1, h2⟩ => ⟨h1, wf_mo hz hk x h2⟩
  | .branch 1 (.leaf (some (0, _, _, _, _, _))) (.branch _ x y), c, h => ⟨wf_mo hz hk x h.1, wf_mo hz hk y h.2⟩
  | .branch 1 (.leaf (some (_ + 1, _, _, s, _, _))) (.branch _ x y), c, h => ⟨h.1, wf_mo hz hk x h.2.1, wf_mo hz hk y h.2.2⟩
  | .branch 2 (.leaf (some (_, _, _, _, _, _))) (.branch _ x (.branch _ y w)), c, h => ⟨wf_mo hz hk x h.1, wf_mo hz hk y h.2.1, wf_mo hz hk w h.2.2⟩
  | .branch 0 (.leaf (some (_ + 3, _, k, hh, m, _))) x, c, ⟨⟨h1, h2⟩, h3⟩ => ⟨⟨h1, h2.imp id (fun ⟨j, e, j1, j2⟩ => ⟨j, e, by omega, by rw [hk j j1 (by omega)]; exact j2⟩)⟩, wf_mo hz hk x h3⟩
  | .branch 0 (.leaf none) _, _, h9 => h9
  | .branch 0 (.branch _ _ _) _, _, h9 => h9
  | .branch 1 (.leaf none) _, _, h9 => h9
  | .branch 1 (.branch _ _ _) _, _, h9 => h9
  | .branch 1 (.leaf (some (0, _, _, _, _, _))) (.leaf _), _, h9 => h9
  | .branch 1 (.leaf (some (_ + 1, _, _, _, _, _))) (.leaf _), _, h9 => h9
  | .branch 2 (.leaf none) _, _, h9 => h9
  | .branch 2 (.branch _ _ _) _, _, h9 => h9
  | .branch 2 (.leaf (some (_, _, _, _, _, _))) (.leaf _), _, h9 => h9
  | .branch 2 (.leaf (some (_, _, _, _, _, _))) (.branch _ _ (.leaf _)), _, h9 => h9
  | .leaf none, _, h => h
  | .branch (_ + 3) x y, c, h => ⟨wf_mo hz hk x h.1, wf_mo hz hk y h.2⟩
theorem wf_km {s s2 : sp_S} (a : km s s2) {t : Tm} {c : Nat} (h : tm_wf s.2.1 s.2.2.2.1 t c) : tm_wf s2.2.1 s2.2.2.2.1 t c := wf_mo a.1 a.2 t h
theorem wf_sn {z : Nat} {kf : Nat → Int32} {t : Tm} {c : Nat} (ht : tm_wf z kf t c) : ∀ {u : Tm}, tm_li u → tm_wf z kf u c → tm_wf z kf (tm_sn u t) c
  | .branch 0 (.leaf none) _, g, _ => g.elim
  | .branch 0 (.branch _ _ _) _, g, _ => g.elim
  | .branch 1 (.leaf none) _, g, _ => g.elim
  | .branch 1 (.branch _ _ _) _, g, _ => g.elim
  | .branch 1 (.leaf (some (0, _, _, _, _, _))) (.leaf _), g, _ => g.elim
  | .branch 1 (.leaf (some (_ + 1, _, _, _, _, _))) (.leaf _), g, _ => g.elim
  | .branch 2 (.leaf none) _, g, _ => g.elim
  | .branch 2 (.branch _ _ _) _, g, _ => g.elim
  | .branch 2 (.leaf (some (_, _, _, _, _, _))) (.leaf _), g, _ => g.elim
  | .branch 2 (.leaf (some (_, _, _, _, _, _))) (.branch _ _ (.leaf _)), g, _ => g.elim
  | .leaf none, _, _ => ⟨ht, trivial⟩
  | .branch (_ + 3) x y, hl, h => ⟨h.1, wf_sn ht (u := y) hl h.2⟩
  | .leaf (some (0, _, _, _, _, _)), g, _ => g.elim
  | .leaf (some (_ + 1, _, _, _, _, _)), g, _ => g.elim
  | .branch 0 (.leaf (some (0, _, _, _, _, _))) _, g, _ => g.elim
  | .branch 0 (.leaf (some (1, _, _, _, _, _))) _, g, _ => g.elim
  | .branch 1 (.leaf (some (0, _, _, _, _, _))) (.branch _ _ _), g, _ => g.elim
  | .branch 1 (.leaf (some (_ + 1, _, _, _, _, _))) (.branch _ _ _), g, _ => g.elim
  | .branch 2 (.leaf (some (_, _, _, _, _, _))) (.branch _ _ (.branch _ _ _)), g, _ => g.elim
  | .branch 0 (.leaf (some (2, _, _, _, _, _))) _, g, _ => g.elim
  | .branch 0 (.leaf (some (_ + 3, _, _, _, _, _))) _, g, _ => g.elim
theorem sn_ne (t : Tm) : ∀ {u : Tm}, tm_sn u t ≠ Tm.nil
  | .branch 0 (.leaf none) _ => fun h => nomatch h
  | .branch 0 (.branch _ _ _) _ => fun h => nomatch h
  | .branch 1 (.leaf none) _ => fun h => nomatch h
  | .branch 1 (.branch _ _ _) _ => fun h => nomatch h
  | .branch 1 (.leaf (some (0, _, _, _, _, _))) (.leaf _) => fun h => nomatch h
  | .branch 1 (.leaf (some (_ + 1, _, _, _, _, _))) (.leaf _) => fun h => nomatch h
  | .branch 2 (.leaf none) _ => fun h => nomatch h
  | .branch 2 (.branch _ _ _) _ => fun h => nomatch h
  | .branch 2 (.leaf (some (_, _, _, _, _, _))) (.leaf _) => fun h => nomatch h
  | .branch 2 (.leaf (some (_, _, _, _, _, _))) (.branch _ _ (.leaf _)) => fun h => nomatch h
  | .leaf none => fun h => nomatch h
  | .branch (_ + 3) _ _ => fun h => nomatch h
  | .leaf (some (0, _, _, _, _, _)) => fun h => nomatch h
  | .leaf (some (_ + 1, _, _, _, _, _)) => fun h => nomatch h
  | .branch 0 (.leaf (some (0, _, _, _, _, _))) _ => fun h => nomatch h
  | .branch 0 (.leaf (some (1, _, _, _, _, _))) _ => fun h => nomatch h
  | .branch 1 (.leaf (some (0, _, _, _, _, _))) (.branch _ _ _) => fun h => nomatch h
  | .branch 1 (.leaf (some (_ + 1, _, _, _, _, _))) (.branch _ _ _) => fun h => nomatch h
  | .branch 2 (.leaf (some (_, _, _, _, _, _))) (.branch _ _ (.branch _ _ _)) => fun h => nomatch h
  | .branch 0 (.leaf (some (2, _, _, _, _, _))) _ => fun h => nomatch h
  | .branch 0 (.leaf (some (_ + 3, _, _, _, _, _))) _ => fun h => nomatch h
theorem ix_lt : ∀ {L : List Int64} {w : Int64}, w ∈ L → sp_ix L w < L.length
  | a :: l, w, h => by
    unfold sp_ix
    split
    · exact Nat.zero_lt_succ _
    · rename_i g
      exact Nat.succ_lt_succ (ix_lt ((List.mem_cons.mp h).resolve_left (fun e => g e.symm)))
section
variable {T P : Nat → Int32} {V : Nat → Int64} {E : List Int64 → sp_S → Option (Tm × sp_S)}
theorem ki_km {s : sp_S} {q : Nat × sp_S} (h : sp_ki V s = some q) : km s q.2 ∧ q.1 < q.2.2.1 := by
  unfold sp_ki at h
  split at h
  · rename_i g; cases h; exact ⟨km_rf, g⟩
  · split at h
    · cases h
    · cases h
      exact ⟨⟨Nat.le_succ _, fun k hk _ => zu_n (by omega)⟩, Nat.lt_succ_self _⟩
theorem i32_sm {n : Int} (h0 : 0 ≤ n) (h1 : n ≤ 3) : (Int32.ofInt n).toInt = n := by
  have : n = 0 ∨ n = 1 ∨ n = 2 ∨ n = 3 := by omega
  rcases this with rfl | rfl | rfl | rfl <;> decide
theorem te_km {k : Nat} {n : Int} {s s2 : sp_S} (h0 : 0 ≤ n) (h1 : n ≤ 3) (h : sp_te k n s = some s2) : km s s2 ∧ (s2.2.2.2.1 k).toInt = n ∧ s2.2.1 = s.2.1 := by
  unfold sp_te at h
  split at h
  · rename_i g
    cases h
    refine ⟨⟨Nat.le_refl _, fun j _ hn => zu_n (fun e => hn (e ▸ g))⟩, ?_, rfl⟩
    show (upd s.2.2.2.1 k (Int32.ofInt n) k).toInt = n
    rw [zu_s]; exact i32_sm h0 h1
  · obtain ⟨g, h⟩ := sp_ifs h
    cases h; exact ⟨km_rf, g, rfl⟩
theorem pn_len : ∀ (n : Nat) {N : List Int64} {a : Nat} {q : List Int64 × Nat}, sp_pn T V n N a = some q → N.length < q.1.length ∧ q.1.length ≤ N.length + n ∧ q.1.length ≤ 24
  | 0, _, _, _, h => by cases h
  | n + 1, N, a, q, h => by
    unfold sp_pn at h
    obtain ⟨g0, h⟩ := sp_ifs h
    have g0 := g0.2.2
    split at h
    · have := pn_len n h
      rw [List.length_append] at this
      have e : [V (a + 1)].length = 1 := rfl
      omega
    · obtain ⟨-, h⟩ := sp_ifs h
      cases h
      show N.length < (N ++ [V (a + 1)]).length ∧ (N ++ [V (a + 1)]).length ≤ N.length + (n + 1) ∧ (N ++ [V (a + 1)]).length ≤ 24
      rw [List.length_append]
      have e : [V (a + 1)].length = 1 := rfl
      omega
theorem pa_km {N : List Int64} (hN : N.length ≤ 24) {k : Nat} {s : sp_S} {p : List Int64 × sp_S} (h : sp_pa T V N k s = some p) : km s p.2 ∧ (p.2.2.2.2.1 k).toInt = ((p.1.length - N.length : Nat) : Int) ∧ N.length ≤ p.1.length ∧ p.2.2.1 = s.2.1 ∧ p.1.length ≤ 24 ∧ p.1.length ≤ N.length + 3 := by
  unfold sp_pa at h
  split at h
  · obtain ⟨q, hq, h⟩ := sp_bs h
    obtain ⟨s2, h2, h⟩ := sp_bs h
    cases h
    have l := pn_len 3 hq
    obtain ⟨a, b, c⟩ := te_km (by omega) (by omega) h2
    exact ⟨a, by show (s2.2.2.2.1 k).toInt = ((q.1.length - N.length : Nat) : Int); omega, by show N.length ≤ q.1.length; omega, c, by show q.1.length ≤ 24; omega, by show q.1.length ≤ N.length + 3; omega⟩
  · obtain ⟨s2, h2, h⟩ := sp_bs h
    cases h
    obtain ⟨a, b, c⟩ := te_km (by omega) (by omega) h2
    exact ⟨a, by show (s2.2.2.2.1 k).toInt = ((N.length - N.length : Nat) : Int); omega, Nat.le_refl _, c, hN, by show N.length ≤ N.length + 3; omega⟩
abbrev wfR (s : sp_S) (r : Tm × sp_S) (c : Nat) : Prop := km s r.2 ∧ tm_wf r.2.2.1 r.2.2.2.2.1 r.1 c
def tm_hW (E : List Int64 → sp_S → Option (Tm × sp_S)) : Prop := ∀ N s r, N.length ≤ 24 → E N s = some r → wfR s r N.length
theorem wf_ar (hE : tm_hW E) {most : Nat} {N : List Int64} (hN : N.length ≤ 24) : ∀ (n : Nat) {c : Tm} {s : sp_S} {r : Tm × sp_S}, tm_li c → tm_wf s.2.1 s.2.2.2.1 c N.length → tm_ln c ≤ most → sp_ar T E most N n c s = some r → wfR s r N.length ∧ tm_ln r.1 ≤ most
  | 0, c, s, r, _, _, _, h => by cases h
  | n + 1, c, s, r, hl, hc, hm, h => by
    unfold sp_ar at h
    obtain ⟨hm2, h⟩ := sp_ifs h
    obtain ⟨q, hq, h⟩ := sp_bs h
    obtain ⟨e1, e2⟩ := hE _ _ _ hN hq
    have e1 : km s q.2 := e1
    have w := wf_sn e2 hl (wf_km e1 hc)
    have l := tm_ln_sn q.1 c
    split at h
    · obtain ⟨⟨a, b⟩, d⟩ := wf_ar hE hN n (tm_li_sn q.1 hl) w (by omega) h
      exact ⟨⟨km_tr e1 a, b⟩, d⟩
    · obtain ⟨-, h⟩ := sp_ifs h
      cases h
      exact ⟨⟨e1, w⟩, by show tm_ln (tm_sn c q.1) ≤ most; omega⟩
theorem wf_at (hE : tm_hW E) {N : List Int64} (hN : N.length ≤ 24) {s : sp_S} {r : Tm × sp_S} (h : sp_at T P V E N s = some r) : wfR s r N.length := by
  unfold sp_at at h
  split at h
  · cases h; exact ⟨km_rf, trivial⟩
  · split at h
    · split at h
      · obtain ⟨q, hq, h⟩ := sp_bs h
        cases h
        obtain ⟨⟨a, b⟩, -⟩ := wf_ar hE hN _ (c := Tm.nil) trivial trivial (Nat.zero_le _) hq
        exact ⟨a, b⟩
      · split at h
        · rename_i g; cases h; exact ⟨km_rf, ix_lt g⟩
        · cases h; exact ⟨km_rf, trivial⟩
    · split at h
      · obtain ⟨q, hq, h⟩ := sp_bs h
        obtain ⟨k1, k2⟩ := ki_km hq
        split at h
        · obtain ⟨q2, hq2, h⟩ := sp_bs h
          obtain ⟨s3, h3, h⟩ := sp_bs h
          cases h
          obtain ⟨⟨a, b⟩, l⟩ := wf_ar hE hN _ (c := Tm.nil) trivial trivial (Nat.zero_le _) hq2
          obtain ⟨t1, t2, t3⟩ := te_km (by omega) (by omega) h3
          have a : km q.2 q2.2 := a
          exact ⟨km_tr k1 (km_tr a t1), ⟨by show q.1 < s3.2.1; have := a.1; omega, t2⟩, wf_km t1 b⟩
        · obtain ⟨s3, h3, h⟩ := sp_bs h
          cases h
          obtain ⟨t1, t2, t3⟩ := te_km (by omega) (by omega) h3
          exact ⟨km_tr k1 t1, ⟨by show q.1 < s3.2.1; rw [t3]; exact k2, t2⟩, trivial⟩
      · split at h
        · obtain ⟨q, hq, h⟩ := sp_bs h
          have e := hE _ _ _ hN hq
          obtain ⟨-, h⟩ := sp_ifs h
          cases h
          exact e
        · cases h
theorem wf_prL (hE : tm_hW E) {N : List Int64} (hN : N.length ≤ 24) : ∀ (n : Nat) {s0 : sp_S} {s r : Tm × sp_S}, wfR s0 s N.length → sp_prL T P V E N n s = some r → wfR s0 r N.length
  | 0, _, _, _, _, h => by cases h
  | n + 1, s0, s, r, hs, h => by
    unfold sp_prL at h
    split at h
    · obtain ⟨q, hq, h⟩ := sp_bs h
      have e := wf_at hE hN hq
      exact wf_prL hE hN n (s := (Tm.bin _ _ s.1 q.1, q.2)) ⟨km_tr hs.1 e.1, wf_km e.1 hs.2, e.2⟩ h
    · cases h; exact hs
theorem wf_pt (hE : tm_hW E) {N : List Int64} (hN : N.length ≤ 24) {s : sp_S} {r : Tm × sp_S} (h : sp_pt T P V E N s = some r) : wfR s r N.length := by
  obtain ⟨q, hq, h⟩ := sp_bs h
  exact wf_prL hE hN _ (wf_at hE hN hq) h
theorem wf_smL (hE : tm_hW E) {N : List Int64} (hN : N.length ≤ 24) : ∀ (n : Nat) {s0 : sp_S} {s r : Tm × sp_S}, wfR s0 s N.length → sp_smL T P V E N n s = some r → wfR s0 r N.length
  | 0, _, _, _, _, h => by cases h
  | n + 1, s0, s, r, hs, h => by
    unfold sp_smL at h
    split at h
    · obtain ⟨q, hq, h⟩ := sp_bs h
      have e := wf_pt hE hN hq
      exact wf_smL hE hN n (s := (Tm.bin _ _ s.1 q.1, q.2)) ⟨km_tr hs.1 e.1, wf_km e.1 hs.2, e.2⟩ h
    · cases h; exact hs
theorem wf_sm (hE : tm_hW E) {N : List Int64} (hN : N.length ≤ 24) {s : sp_S} {r : Tm × sp_S} (h : sp_sm T P V E N s = some r) : wfR s r N.length := by
  obtain ⟨q, hq, h⟩ := sp_bs h
  exact wf_smL hE hN _ (wf_pt hE hN hq) h
theorem wf_cm (hE : tm_hW E) {N : List Int64} (hN : N.length ≤ 24) {s : sp_S} {r : Tm × sp_S} (h : sp_cm T P V E N s = some r) : wfR s r N.length := by
  obtain ⟨q, hq, h⟩ := sp_bs h
  have e := wf_sm hE hN hq
  split at h
  · obtain ⟨q2, hq2, h⟩ := sp_bs h
    have e2 := wf_sm hE hN hq2
    cases h
    exact ⟨km_tr e.1 e2.1, wf_km e2.1 e.2, e2.2⟩
  · cases h; exact e
theorem wf_le (hE : tm_hW E) {N : List Int64} (hN : N.length ≤ 24) {s : sp_S} {r : Tm × sp_S} (h : sp_le T P V E N s = some r) : wfR s r N.length := by
  unfold sp_le at h
  obtain ⟨g0, h⟩ := sp_ifs h
  obtain ⟨-, h⟩ := sp_ifs h
  obtain ⟨q, hq, h⟩ := sp_bs h
  obtain ⟨-, h⟩ := sp_ifs h
  obtain ⟨q2, hq2, h⟩ := sp_bs h
  cases h
  have e := hE _ _ _ hN hq
  have e2 := hE _ _ _ (by rw [List.length_append]; have : [V (s.1 + 1)].length = 1 := rfl; omega) hq2
  rw [List.length_append] at e2
  exact ⟨km_tr e.1 e2.1, ⟨rfl, g0.2.2⟩, wf_km e2.1 e.2, e2.2⟩
theorem wf_if (hE : tm_hW E) {N : List Int64} (hN : N.length ≤ 24) {s : sp_S} {r : Tm × sp_S} (h : sp_if T P E N s = some r) : wfR s r N.length := by
  obtain ⟨q, hq, h⟩ := sp_bs h
  obtain ⟨-, h⟩ := sp_ifs h
  obtain ⟨q2, hq2, h⟩ := sp_bs h
  obtain ⟨-, h⟩ := sp_ifs h
  obtain ⟨q3, hq3, h⟩ := sp_bs h
  cases h
  have e := hE _ _ _ hN hq
  have e2 := hE _ _ _ hN hq2
  have e3 := hE _ _ _ hN hq3
  exact ⟨km_tr e.1 (km_tr e2.1 e3.1), wf_km (km_tr e2.1 e3.1) e.2, wf_km e3.1 e2.2, e3.2⟩
theorem wf_ab (hE : tm_hW E) {N : List Int64} (hN : N.length ≤ 24) {s : sp_S} {r : Tm × sp_S} (h : sp_ab T E N s = some r) : wfR s r N.length := by
  obtain ⟨-, h⟩ := sp_ifs h
  have e := hE _ _ _ hN h
  exact e
theorem wf_am (hE : tm_hW E) {N : List Int64} (hN : N.length ≤ 24) {Q : List Nat} {s : sp_S} {r : Int × Tm × sp_S} (h : sp_am T P V E N Q s = some r) : wfR s r.2 N.length := by
  unfold sp_am at h
  split at h
  · obtain ⟨q, hq, h⟩ := sp_bs h
    cases h
    have e := wf_ab hE hN hq
    exact ⟨e.1, ⟨⟨rfl, hN, by decide⟩, Or.inl ⟨rfl, rfl⟩⟩, e.2⟩
  · obtain ⟨-, h⟩ := sp_ifs h
    obtain ⟨q, hk, h⟩ := sp_bs h
    obtain ⟨k1, k2⟩ := ki_km hk
    split at h
    · cases h
    · obtain ⟨p, hp, h⟩ := sp_bs h
      obtain ⟨p1, p2, p3, p4, p5, p6⟩ := pa_km hN hp
      obtain ⟨q2, hq2, h⟩ := sp_bs h
      cases h
      have e := wf_ab hE p5 hq2
      have e1 : km p.2 q2.2 := e.1
      refine ⟨km_tr k1 (km_tr p1 e1), ⟨⟨rfl, by show N.length + (p.1.length - N.length) ≤ 24; omega, by show p.1.length - N.length ≤ 3; omega⟩, Or.inr ⟨q.1, rfl, by have := e1.1; show q.1 < q2.2.2.1; omega, ?_⟩⟩, ?_⟩
      · show (q2.2.2.2.2.1 q.1).toInt = _
        rw [e1.2 q.1 (by omega) (by omega)]; exact p2
      · show tm_wf _ _ _ (N.length + (p.1.length - N.length))
        rw [show N.length + (p.1.length - N.length) = p.1.length by omega]; exact e.2
theorem wf_as (hE : tm_hW E) {N : List Int64} (hN : N.length ≤ 24) : ∀ (n : Nat) {Q : List Nat} {c : Tm} {s0 s : sp_S} {r : Tm × sp_S}, tm_li c → wfR s0 (c, s) N.length → sp_as T P V E N n Q c s = some r → wfR s0 r N.length ∧ r.1 ≠ Tm.nil ∧ tm_ln r.1 ≤ tm_ln c + n
  | 0, _, _, _, _, _, _, _, h => by cases h
  | n + 1, Q, c, s0, s, r, hl, hc, h => by
    unfold sp_as at h
    obtain ⟨q, hq, h⟩ := sp_bs h
    obtain ⟨e, e9⟩ := wf_am hE hN hq
    have e2 : wfR s0 (tm_sn c q.2.1, q.2.2) N.length := ⟨km_tr hc.1 e, wf_sn e9 hl (wf_km e hc.2)⟩
    have e1 := tm_li_sn q.2.1 hl
    have l1 := tm_ln_sn q.2.1 c
    split at h
    · obtain ⟨-, h⟩ := sp_ifs h
      cases h; exact ⟨e2, sn_ne _, by show tm_ln (tm_sn c q.2.1) ≤ _; omega⟩
    · split at h
      · obtain ⟨u1, u2, u3⟩ := wf_as hE hN n e1 (s0 := s0) (s := sp_to q.2.2 (q.2.2.1 + 1)) e2 h
        exact ⟨u1, u2, by omega⟩
      · obtain ⟨-, h⟩ := sp_ifs h
        cases h; exact ⟨e2, sn_ne _, by show tm_ln (tm_sn c q.2.1) ≤ _; omega⟩
theorem wf_ma (hE : tm_hW E) {N : List Int64} (hN : N.length ≤ 24) {s : sp_S} {r : Tm × sp_S} (h : sp_ma T P V E N s = some r) : wfR s r N.length := by
  unfold sp_ma at h
  obtain ⟨g, h⟩ := sp_ifs h
  obtain ⟨-, h⟩ := sp_ifs h
  obtain ⟨q, hq, h⟩ := sp_bs h
  cases h
  obtain ⟨⟨a, b⟩, d, d2⟩ := wf_as hE hN _ (c := Tm.nil) (s0 := s) (s := sp_to s (s.1 + 3)) trivial ⟨km_rf, trivial⟩ hq
  exact ⟨a, ⟨ix_lt g.2, d, Nat.le_trans d2 (Nat.le_of_eq (Nat.zero_add 8))⟩, b⟩
theorem wf_e (hE : tm_hW E) {N : List Int64} (hN : N.length ≤ 24) {s : sp_S} {r : Tm × sp_S} (h : sp_e T P V E N s = some r) : wfR s r N.length := by
  unfold sp_e at h
  split at h
  · exact wf_le hE hN h
  · split at h
    · exact wf_if hE hN h
    · split at h
      · exact wf_ma hE hN h
      · exact wf_cm hE hN h
theorem wf_E : ∀ f : Nat, tm_hW (sp_E T P V f)
  | 0 => fun _ _ _ _ h => by cases h
  | f + 1 => fun _ _ _ hN h => wf_e (wf_E f) hN h
theorem tn_len : ∀ (n : Nat) {N : List Int64} {a : Nat} {q : List Int64 × Nat}, sp_tn T V n N a = some q → q.1.length ≤ N.length + n
  | 0, N, a, q, h => by
    unfold sp_tn at h
    by_cases u : (T a).toInt = 258
    · rw [if_pos u] at h; cases h
    · rw [if_neg u] at h; cases h; exact Nat.le_refl _
  | n + 1, N, a, q, h => by
    unfold sp_tn at h
    by_cases u : (T a).toInt = 258
    · rw [if_pos u] at h
      have h : (if V a ∉ N then sp_tn T V n (N ++ [V a]) (a + 1) else none) = some q := h
      obtain ⟨-, h⟩ := sp_ifs h
      have := tn_len n h
      rw [List.length_append] at this
      have e : [V a].length = 1 := rfl
      omega
    · rw [if_neg u] at h; cases h; show N.length ≤ N.length + (n + 1); omega
/-- a program's functions -/
def wfF (s : sp_S) (F : sp_F) : Prop := ∀ g, g < F.1 → ∃ c : Nat, (F.2.2.1 g = (c : Int) ∧ c ≤ 24) ∧ tm_wf s.2.1 s.2.2.2.1 (F.2.2.2 g) c
theorem wf_df {s : sp_S} {F : sp_F} {r : sp_S × sp_F} (h0 : wfF s F) (h : sp_df T P V s F = some r) : km s r.1 ∧ wfF r.1 r.2 := by
  unfold sp_df at h
  obtain ⟨-, h⟩ := sp_ifs h
  obtain ⟨-, h⟩ := sp_ifs h
  obtain ⟨q, hq, h⟩ := sp_bs h
  obtain ⟨-, h⟩ := sp_ifs h
  obtain ⟨s2, hs, h⟩ := sp_bs h
  obtain ⟨-, h⟩ := sp_ifs h
  cases h
  have hq2 := tn_len 6 hq
  have hq3 : ([] : List Int64).length = 0 := rfl
  have e := wf_E 30 _ _ _ (by omega) hs
  have e1 : km s s2.2 := e.1
  refine ⟨e1, fun g hg => ?_⟩
  have hg : g < F.1 + 1 := hg
  show ∃ c : Nat, ((if g = F.1 then (q.1.length : Int) else F.2.2.1 g) = (c : Int) ∧ c ≤ 24) ∧ tm_wf s2.2.2.1 s2.2.2.2.2.1 (if g = F.1 then s2.1 else F.2.2.2 g) c
  by_cases u : g = F.1
  · rw [if_pos u, if_pos u]; exact ⟨_, ⟨rfl, by omega⟩, e.2⟩
  · rw [if_neg u, if_neg u]
    obtain ⟨c, c1, c2⟩ := h0 g (by omega)
    exact ⟨c, c1, wf_km e1 c2⟩
theorem wf_ds : ∀ (n : Nat) {s : sp_S} {F : sp_F} {r : sp_S × sp_F}, wfF s F → sp_ds T P V n s F = some r → wfF r.1 r.2
  | 0, _, _, _, _, h => by cases h
  | n + 1, s, F, r, h0, h => by
    unfold sp_ds at h
    obtain ⟨q, hq, h⟩ := sp_bs h
    have e := wf_df h0 hq
    split at h
    · cases h; exact e.2
    · exact wf_ds n e.2 h
theorem wf_pg {s : sp_S} {F : sp_F} {r : sp_S × sp_F} (h0 : F.1 = 0) (h : sp_pg T P V s F = some r) : wfF r.1 r.2 := by
  unfold sp_pg at h
  obtain ⟨q, hq, h⟩ := sp_bs h
  obtain ⟨-, h⟩ := sp_ifs h
  cases h
  exact wf_ds 31 (fun g hg => by omega) hq
end
/-! what is what: 0 a row, 1 a value's text, 2 an arm -/
def tm_k : Tm → Nat
  | .leaf (some (0, _, _, _, _, _)) => 1
  | .leaf (some (_ + 1, _, _, _, _, _)) => 1
  | .branch 0 (.leaf (some (0, _, _, _, _, _))) _ => 1
  | .branch 0 (.leaf (some (1, _, _, _, _, _))) _ => 1
  | .branch 0 (.leaf (some (2, _, _, _, _, _))) _ => 1
  | .branch 1 (.leaf (some (0, _, _, _, _, _))) (.branch _ _ _) => 1
  | .branch 1 (.leaf (some (_ + 1, _, _, _, _, _))) (.branch _ _ _) => 1
  | .branch 2 (.leaf (some (_, _, _, _, _, _))) (.branch _ _ (.branch _ _ _)) => 1
  | .branch 0 (.leaf (some (_ + 3, _, _, _, _, _))) _ => 2
  | _ => 0
def tm_sy : Tm → Bool → Prop
  | .branch 0 (.leaf (some (0, _, _, _, _, _))) x, _ => tm_li x ∧ tm_sy x false
  | .branch 0 (.leaf (some (1, _, _, _, _, _))) x, _ => tm_li x ∧ tm_sy x false
  | .branch 0 (.leaf (some (2, _, _, _, _, _))) x, _ => tm_li x ∧ tm_sy x true
  | .branch 1 (.leaf (some (0, _, _, _, _, _))) (.branch _ x y), _ => (tm_k x = 1 ∧ tm_sy x false) ∧ (tm_k y = 1 ∧ tm_sy y false)
  | .branch 1 (.leaf (some (_ + 1, _, _, _, _, _))) (.branch _ x y), _ => (tm_k x = 1 ∧ tm_sy x false) ∧ (tm_k y = 1 ∧ tm_sy y false)
  | .branch 2 (.leaf (some (_, _, _, _, _, _))) (.branch _ x (.branch _ y z)), _ => (tm_k x = 1 ∧ tm_sy x false) ∧ (tm_k y = 1 ∧ tm_sy y false) ∧ (tm_k z = 1 ∧ tm_sy z false)
  | .branch 0 (.leaf (some (_ + 3, _, _, _, _, _))) x, _ => tm_k x = 1 ∧ tm_sy x false
  | .branch (_ + 3) x y, b => (tm_k x = (if b = true then 2 else 1) ∧ tm_sy x false) ∧ tm_sy y b
  | _, _ => True
theorem sy_sn {t : Tm} {b : Bool} (ht : tm_k t = (if b = true then 2 else 1) ∧ tm_sy t false) : ∀ {c : Tm}, tm_li c → tm_sy c b → tm_sy (tm_sn c t) b
  | .leaf none, _, _ => ⟨ht, trivial⟩
  | .branch (_ + 3) x y, hl, h => ⟨h.1, sy_sn ht (c := y) hl h.2⟩
  | .leaf (some (0, _, _, _, _, _)), g, _ => g.elim
  | .leaf (some (_ + 1, _, _, _, _, _)), g, _ => g.elim
  | .branch 0 (.leaf (some (0, _, _, _, _, _))) _, g, _ => g.elim
  | .branch 0 (.leaf (some (1, _, _, _, _, _))) _, g, _ => g.elim
  | .branch 1 (.leaf (some (0, _, _, _, _, _))) (.branch _ _ _), g, _ => g.elim
  | .branch 1 (.leaf (some (_ + 1, _, _, _, _, _))) (.branch _ _ _), g, _ => g.elim
  | .branch 2 (.leaf (some (_, _, _, _, _, _))) (.branch _ _ (.branch _ _ _)), g, _ => g.elim
  | .branch 0 (.leaf (some (2, _, _, _, _, _))) _, g, _ => g.elim
  | .branch 0 (.leaf (some (_ + 3, _, _, _, _, _))) _, g, _ => g.elim
  | .branch 0 (.leaf none) _, g, _ => g.elim
  | .branch 0 (.branch _ _ _) _, g, _ => g.elim
  | .branch 1 (.leaf none) _, g, _ => g.elim
  | .branch 1 (.branch _ _ _) _, g, _ => g.elim
  | .branch 1 (.leaf (some (0, _, _, _, _, _))) (.leaf _), g, _ => g.elim
  | .branch 1 (.leaf (some (_ + 1, _, _, _, _, _))) (.leaf _), g, _ => g.elim
  | .branch 2 (.leaf none) _, g, _ => g.elim
  | .branch 2 (.branch _ _ _) _, g, _ => g.elim
  | .branch 2 (.leaf (some (_, _, _, _, _, _))) (.leaf _), g, _ => g.elim
  | .branch 2 (.leaf (some (_, _, _, _, _, _))) (.branch _ _ (.leaf _)), g, _ => g.elim
def sy_x (t : Tm) : Prop := tm_k t = 1 ∧ tm_sy t false
/-- how many matches a tree opens one within another at most -/
def tm_md : Tm → Nat
  | .branch 0 (.leaf (some (1, _, _, _, _, _))) x => tm_md x
  | .branch 0 (.leaf (some (0, _, _, _, _, _))) x => tm_md x
  | .branch 1 (.leaf (some (0, _, _, _, _, _))) (.branch _ x y) => max (tm_md x) (tm_md y)
  | .branch 1 (.leaf (some (_ + 1, _, _, _, _, _))) (.branch _ x y) => max (tm_md x) (tm_md y)
  | .branch 2 (.leaf (some (_, _, _, _, _, _))) (.branch _ x (.branch _ y z)) => max (tm_md x) (max (tm_md y) (tm_md z))
  | .branch 0 (.leaf (some (2, _, _, _, _, _))) x => tm_md x + 1
  | .branch 0 (.leaf (some (_ + 3, _, _, _, _, _))) x => tm_md x
  | .branch (_ + 3) x y => max (tm_md x) (tm_md y)
  | _ => 0
theorem md_1 {t u : Tm} : tm_md (Tm.cons t Tm.nil) ≤ max (tm_md u) (tm_md t) := by show max (tm_md t) 0 ≤ _; omega
theorem md_sn (t : Tm) : ∀ (c : Tm), tm_md (tm_sn c t) ≤ max (tm_md c) (tm_md t)
  | .branch (_ + 3) a b => by
    have h := md_sn t b
    show max (tm_md a) (tm_md (tm_sn b t)) ≤ max (max (tm_md a) (tm_md b)) (tm_md t)
    omega
  | .leaf none => md_1
  | .leaf (some (0, _, _, _, _, _)) => md_1
  | .leaf (some (_ + 1, _, _, _, _, _)) => md_1
  | .branch 0 (.leaf (some (0, _, _, _, _, _))) _ => md_1
  | .branch 0 (.leaf (some (1, _, _, _, _, _))) _ => md_1
  | .branch 1 (.leaf (some (0, _, _, _, _, _))) (.branch _ _ _) => md_1
  | .branch 1 (.leaf (some (_ + 1, _, _, _, _, _))) (.branch _ _ _) => md_1
  | .branch 2 (.leaf (some (_, _, _, _, _, _))) (.branch _ _ (.branch _ _ _)) => md_1
  | .branch 0 (.leaf (some (2, _, _, _, _, _))) _ => md_1
  | .branch 0 (.leaf (some (_ + 3, _, _, _, _, _))) _ => md_1
  | .branch 0 (.leaf none) _ => md_1
  | .branch 0 (.branch _ _ _) _ => md_1
  | .branch 1 (.leaf none) _ => md_1
  | .branch 1 (.branch _ _ _) _ => md_1
  | .branch 1 (.leaf (some (0, _, _, _, _, _))) (.leaf _) => md_1
  | .branch 1 (.leaf (some (_ + 1, _, _, _, _, _))) (.leaf _) => md_1
  | .branch 2 (.leaf none) _ => md_1
  | .branch 2 (.branch _ _ _) _ => md_1
  | .branch 2 (.leaf (some (_, _, _, _, _, _))) (.leaf _) => md_1
  | .branch 2 (.leaf (some (_, _, _, _, _, _))) (.branch _ _ (.leaf _)) => md_1
def tm_hM (D : Nat) (E : List Int64 → sp_S → Option (Tm × sp_S)) : Prop := ∀ N s r, E N s = some r → tm_md r.1 ≤ D
section
variable {T P : Nat → Int32} {V : Nat → Int64} {E : List Int64 → sp_S → Option (Tm × sp_S)} {D : Nat}
theorem md_ar (hE : tm_hM D E) {most : Nat} {N : List Int64} : ∀ (n : Nat) {c : Tm} {s : sp_S} {r : Tm × sp_S}, tm_md c ≤ D → sp_ar T E most N n c s = some r → tm_md r.1 ≤ D
  | 0, c, s, r, _, h => by cases h
  | n + 1, c, s, r, hc, h => by
    unfold sp_ar at h
    obtain ⟨-, h⟩ := sp_ifs h
    obtain ⟨q, hq, h⟩ := sp_bs h
    have e := hE _ _ _ hq
    have e2 := md_sn q.1 c
    by_cases u : (T q.2.1).toInt = 44
    · rw [if_pos u] at h
      exact md_ar hE n (by omega) h
    · rw [if_neg u] at h
      obtain ⟨-, h⟩ := sp_ifs h
      cases h
      show tm_md (tm_sn c q.1) ≤ D
      omega
theorem md_at (hE : tm_hM D E) {N : List Int64} {s : sp_S} {r : Tm × sp_S} (h : sp_at T P V E N s = some r) : tm_md r.1 ≤ D := by
  unfold sp_at at h
  split at h
  · cases h; exact Nat.zero_le _
  · split at h
    · split at h
      · obtain ⟨q, hq, h⟩ := sp_bs h
        cases h
        have e := md_ar hE _ (c := Tm.nil) (Nat.zero_le _) hq
        exact e
      · split at h
        · cases h; exact Nat.zero_le _
        · cases h; exact Nat.zero_le _
    · split at h
      · obtain ⟨q, hq, h⟩ := sp_bs h
        split at h
        · obtain ⟨q2, hq2, h⟩ := sp_bs h
          obtain ⟨s3, -, h⟩ := sp_bs h
          cases h
          have e := md_ar hE _ (c := Tm.nil) (Nat.zero_le _) hq2
          exact e
        · obtain ⟨s3, -, h⟩ := sp_bs h
          cases h
          exact Nat.zero_le _
      · split at h
        · obtain ⟨q, hq, h⟩ := sp_bs h
          have e := hE _ _ _ hq
          obtain ⟨-, h⟩ := sp_ifs h
          cases h
          exact e
        · cases h
theorem md_b {p o : Int} {a b : Tm} (ha : tm_md a ≤ D) (hb : tm_md b ≤ D) : tm_md (Tm.bin p o a b) ≤ D := by show max (tm_md a) (tm_md b) ≤ D; omega
theorem md_prL (hE : tm_hM D E) {N : List Int64} : ∀ (n : Nat) {s r : Tm × sp_S}, tm_md s.1 ≤ D → sp_prL T P V E N n s = some r → tm_md r.1 ≤ D
  | 0, _, _, _, h => by cases h
  | n + 1, s, r, hs, h => by
    unfold sp_prL at h
    split at h
    · obtain ⟨q, hq, h⟩ := sp_bs h
      exact md_prL hE n (s := (Tm.bin _ _ s.1 q.1, q.2)) (md_b hs (md_at hE hq)) h
    · cases h; exact hs
theorem md_pt (hE : tm_hM D E) {N : List Int64} {s : sp_S} {r : Tm × sp_S} (h : sp_pt T P V E N s = some r) : tm_md r.1 ≤ D := by
  obtain ⟨q, hq, h⟩ := sp_bs h
  exact md_prL hE _ (md_at hE hq) h
theorem md_smL (hE : tm_hM D E) {N : List Int64} : ∀ (n : Nat) {s r : Tm × sp_S}, tm_md s.1 ≤ D → sp_smL T P V E N n s = some r → tm_md r.1 ≤ D
  | 0, _, _, _, h => by cases h
  | n + 1, s, r, hs, h => by
    unfold sp_smL at h
    split at h
    · obtain ⟨q, hq, h⟩ := sp_bs h
      exact md_smL hE n (s := (Tm.bin _ _ s.1 q.1, q.2)) (md_b hs (md_pt hE hq)) h
    · cases h; exact hs
theorem md_sm (hE : tm_hM D E) {N : List Int64} {s : sp_S} {r : Tm × sp_S} (h : sp_sm T P V E N s = some r) : tm_md r.1 ≤ D := by
  obtain ⟨q, hq, h⟩ := sp_bs h
  exact md_smL hE _ (md_pt hE hq) h
theorem md_cm (hE : tm_hM D E) {N : List Int64} {s : sp_S} {r : Tm × sp_S} (h : sp_cm T P V E N s = some r) : tm_md r.1 ≤ D := by
  obtain ⟨q, hq, h⟩ := sp_bs h
  split at h
  · obtain ⟨q2, hq2, h⟩ := sp_bs h
    cases h
    exact md_b (md_sm hE hq) (md_sm hE hq2)
  · cases h; exact md_sm hE hq
theorem md_le (hE : tm_hM D E) {N : List Int64} {s : sp_S} {r : Tm × sp_S} (h : sp_le T P V E N s = some r) : tm_md r.1 ≤ D := by
  unfold sp_le at h
  obtain ⟨-, h⟩ := sp_ifs h
  obtain ⟨-, h⟩ := sp_ifs h
  obtain ⟨q, hq, h⟩ := sp_bs h
  obtain ⟨-, h⟩ := sp_ifs h
  obtain ⟨q2, hq2, h⟩ := sp_bs h
  cases h
  have e1 := hE _ _ _ hq
  have e2 := hE _ _ _ hq2
  show max (tm_md q.1) (tm_md q2.1) ≤ D
  omega
theorem md_if (hE : tm_hM D E) {N : List Int64} {s : sp_S} {r : Tm × sp_S} (h : sp_if T P E N s = some r) : tm_md r.1 ≤ D := by
  obtain ⟨q, hq, h⟩ := sp_bs h
  obtain ⟨-, h⟩ := sp_ifs h
  obtain ⟨q2, hq2, h⟩ := sp_bs h
  obtain ⟨-, h⟩ := sp_ifs h
  obtain ⟨q3, hq3, h⟩ := sp_bs h
  cases h
  have e1 := hE _ _ _ hq
  have e2 := hE _ _ _ hq2
  have e3 := hE _ _ _ hq3
  show max (tm_md q.1) (max (tm_md q2.1) (tm_md q3.1)) ≤ D
  omega
theorem md_ab (hE : tm_hM D E) {N : List Int64} {s : sp_S} {r : Tm × sp_S} (h : sp_ab T E N s = some r) : tm_md r.1 ≤ D := by
  obtain ⟨-, h⟩ := sp_ifs h
  exact hE _ _ _ h
theorem md_am (hE : tm_hM D E) {N : List Int64} {Q : List Nat} {s : sp_S} {r : Int × Tm × sp_S} (h : sp_am T P V E N Q s = some r) : tm_md r.2.1 ≤ D := by
  unfold sp_am at h
  split at h
  · obtain ⟨q, hq, h⟩ := sp_bs h
    cases h
    have e := md_ab hE hq
    exact e
  · obtain ⟨-, h⟩ := sp_ifs h
    obtain ⟨q, -, h⟩ := sp_bs h
    split at h
    · cases h
    · obtain ⟨p, -, h⟩ := sp_bs h
      obtain ⟨q2, hq2, h⟩ := sp_bs h
      cases h
      have e := md_ab hE hq2
      exact e
theorem md_as (hE : tm_hM D E) {N : List Int64} : ∀ (n : Nat) {Q : List Nat} {c : Tm} {s : sp_S} {r : Tm × sp_S}, tm_md c ≤ D → sp_as T P V E N n Q c s = some r → tm_md r.1 ≤ D
  | 0, _, _, _, _, _, h => by cases h
  | n + 1, Q, c, s, r, hc, h => by
    unfold sp_as at h
    obtain ⟨q, hq, h⟩ := sp_bs h
    have e := md_am hE hq
    have e2 := md_sn q.2.1 c
    have e3 : tm_md (tm_sn c q.2.1) ≤ D := by omega
    split at h
    · obtain ⟨-, h⟩ := sp_ifs h
      cases h; exact e3
    · split at h
      · exact md_as hE n e3 h
      · obtain ⟨-, h⟩ := sp_ifs h
        cases h; exact e3
theorem md_ma (hE : tm_hM D E) {N : List Int64} {s : sp_S} {r : Tm × sp_S} (h : sp_ma T P V E N s = some r) : tm_md r.1 ≤ D + 1 := by
  unfold sp_ma at h
  obtain ⟨-, h⟩ := sp_ifs h
  obtain ⟨-, h⟩ := sp_ifs h
  obtain ⟨q, hq, h⟩ := sp_bs h
  cases h
  have e := md_as hE _ (c := Tm.nil) (Nat.zero_le _) hq
  show tm_md q.1 + 1 ≤ D + 1
  omega
theorem md_e (hE : tm_hM D E) {N : List Int64} {s : sp_S} {r : Tm × sp_S} (h : sp_e T P V E N s = some r) : tm_md r.1 ≤ D + 1 := by
  unfold sp_e at h
  split at h
  · exact Nat.le_succ_of_le (md_le hE h)
  · split at h
    · exact Nat.le_succ_of_le (md_if hE h)
    · split at h
      · exact md_ma hE h
      · exact Nat.le_succ_of_le (md_cm hE h)
theorem md_E : ∀ f : Nat, tm_hM f (sp_E T P V f)
  | 0 => fun _ _ _ h => by cases h
  | f + 1 => fun _ _ _ h => md_e (md_E f) h
end
def tm_hS (E : List Int64 → sp_S → Option (Tm × sp_S)) : Prop := ∀ N s r, E N s = some r → sy_x r.1
section
variable {T P : Nat → Int32} {V : Nat → Int64} {E : List Int64 → sp_S → Option (Tm × sp_S)}
theorem sy_ar (hE : tm_hS E) {most : Nat} {N : List Int64} : ∀ (n : Nat) {c : Tm} {s : sp_S} {r : Tm × sp_S}, tm_li c → tm_sy c false → sp_ar T E most N n c s = some r → tm_li r.1 ∧ tm_sy r.1 false
  | 0, c, s, r, _, _, h => by cases h
  | n + 1, c, s, r, hl, hc, h => by
    unfold sp_ar at h
    obtain ⟨-, h⟩ := sp_ifs h
    obtain ⟨q, hq, h⟩ := sp_bs h
    have e := hE _ _ _ hq
    by_cases u : (T q.2.1).toInt = 44
    · rw [if_pos u] at h
      exact sy_ar hE n (tm_li_sn q.1 hl) (sy_sn (b := false) e hl hc) h
    · rw [if_neg u] at h
      obtain ⟨-, h⟩ := sp_ifs h
      cases h
      exact ⟨tm_li_sn q.1 hl, sy_sn (b := false) e hl hc⟩
theorem sy_at (hE : tm_hS E) {N : List Int64} {s : sp_S} {r : Tm × sp_S} (h : sp_at T P V E N s = some r) : sy_x r.1 := by
  unfold sp_at at h
  split at h
  · cases h; exact ⟨rfl, trivial⟩
  · split at h
    · split at h
      · obtain ⟨q, hq, h⟩ := sp_bs h
        cases h
        exact ⟨rfl, sy_ar hE _ (c := Tm.nil) trivial trivial hq⟩
      · split at h
        · cases h; exact ⟨rfl, trivial⟩
        · cases h; exact ⟨rfl, trivial, trivial⟩
    · split at h
      · obtain ⟨q, hq, h⟩ := sp_bs h
        split at h
        · obtain ⟨q2, hq2, h⟩ := sp_bs h
          obtain ⟨s3, -, h⟩ := sp_bs h
          cases h
          exact ⟨rfl, sy_ar hE _ (c := Tm.nil) trivial trivial hq2⟩
        · obtain ⟨s3, -, h⟩ := sp_bs h
          cases h
          exact ⟨rfl, trivial, trivial⟩
      · split at h
        · obtain ⟨q, hq, h⟩ := sp_bs h
          have e := hE _ _ _ hq
          obtain ⟨-, h⟩ := sp_ifs h
          cases h
          exact e
        · cases h
theorem sy_prL (hE : tm_hS E) {N : List Int64} : ∀ (n : Nat) {s r : Tm × sp_S}, sy_x s.1 → sp_prL T P V E N n s = some r → sy_x r.1
  | 0, _, _, _, h => by cases h
  | n + 1, s, r, hs, h => by
    unfold sp_prL at h
    split at h
    · obtain ⟨q, hq, h⟩ := sp_bs h
      exact sy_prL hE n (s := (Tm.bin _ _ s.1 q.1, q.2)) ⟨rfl, hs, sy_at hE hq⟩ h
    · cases h; exact hs
theorem sy_pt (hE : tm_hS E) {N : List Int64} {s : sp_S} {r : Tm × sp_S} (h : sp_pt T P V E N s = some r) : sy_x r.1 := by
  obtain ⟨q, hq, h⟩ := sp_bs h
  exact sy_prL hE _ (sy_at hE hq) h
theorem sy_smL (hE : tm_hS E) {N : List Int64} : ∀ (n : Nat) {s r : Tm × sp_S}, sy_x s.1 → sp_smL T P V E N n s = some r → sy_x r.1
  | 0, _, _, _, h => by cases h
  | n + 1, s, r, hs, h => by
    unfold sp_smL at h
    split at h
    · obtain ⟨q, hq, h⟩ := sp_bs h
      exact sy_smL hE n (s := (Tm.bin _ _ s.1 q.1, q.2)) ⟨rfl, hs, sy_pt hE hq⟩ h
    · cases h; exact hs
theorem sy_sm (hE : tm_hS E) {N : List Int64} {s : sp_S} {r : Tm × sp_S} (h : sp_sm T P V E N s = some r) : sy_x r.1 := by
  obtain ⟨q, hq, h⟩ := sp_bs h
  exact sy_smL hE _ (sy_pt hE hq) h
theorem sy_cm (hE : tm_hS E) {N : List Int64} {s : sp_S} {r : Tm × sp_S} (h : sp_cm T P V E N s = some r) : sy_x r.1 := by
  obtain ⟨q, hq, h⟩ := sp_bs h
  split at h
  · obtain ⟨q2, hq2, h⟩ := sp_bs h
    cases h
    exact ⟨rfl, sy_sm hE hq, sy_sm hE hq2⟩
  · cases h; exact sy_sm hE hq
theorem sy_le (hE : tm_hS E) {N : List Int64} {s : sp_S} {r : Tm × sp_S} (h : sp_le T P V E N s = some r) : sy_x r.1 := by
  unfold sp_le at h
  obtain ⟨-, h⟩ := sp_ifs h
  obtain ⟨-, h⟩ := sp_ifs h
  obtain ⟨q, hq, h⟩ := sp_bs h
  obtain ⟨-, h⟩ := sp_ifs h
  obtain ⟨q2, hq2, h⟩ := sp_bs h
  cases h
  exact ⟨rfl, hE _ _ _ hq, hE _ _ _ hq2⟩
theorem sy_if (hE : tm_hS E) {N : List Int64} {s : sp_S} {r : Tm × sp_S} (h : sp_if T P E N s = some r) : sy_x r.1 := by
  obtain ⟨q, hq, h⟩ := sp_bs h
  obtain ⟨-, h⟩ := sp_ifs h
  obtain ⟨q2, hq2, h⟩ := sp_bs h
  obtain ⟨-, h⟩ := sp_ifs h
  obtain ⟨q3, hq3, h⟩ := sp_bs h
  cases h
  exact ⟨rfl, hE _ _ _ hq, hE _ _ _ hq2, hE _ _ _ hq3⟩
theorem sy_ab (hE : tm_hS E) {N : List Int64} {s : sp_S} {r : Tm × sp_S} (h : sp_ab T E N s = some r) : sy_x r.1 := by
  obtain ⟨-, h⟩ := sp_ifs h
  exact hE _ _ _ h
theorem sy_am (hE : tm_hS E) {N : List Int64} {Q : List Nat} {s : sp_S} {r : Int × Tm × sp_S} (h : sp_am T P V E N Q s = some r) : tm_k r.2.1 = 2 ∧ tm_sy r.2.1 false := by
  unfold sp_am at h
  split at h
  · obtain ⟨q, hq, h⟩ := sp_bs h
    cases h
    exact ⟨rfl, sy_ab hE hq⟩
  · obtain ⟨-, h⟩ := sp_ifs h
    obtain ⟨q, -, h⟩ := sp_bs h
    split at h
    · cases h
    · obtain ⟨p, -, h⟩ := sp_bs h
      obtain ⟨q2, hq2, h⟩ := sp_bs h
      cases h
      exact ⟨rfl, sy_ab hE hq2⟩
theorem sy_as (hE : tm_hS E) {N : List Int64} : ∀ (n : Nat) {Q : List Nat} {c : Tm} {s : sp_S} {r : Tm × sp_S}, tm_li c → tm_sy c true → sp_as T P V E N n Q c s = some r → tm_li r.1 ∧ tm_sy r.1 true
  | 0, _, _, _, _, _, _, h => by cases h
  | n + 1, Q, c, s, r, hl, hc, h => by
    unfold sp_as at h
    obtain ⟨q, hq, h⟩ := sp_bs h
    have e := sy_am hE hq
    have e2 := sy_sn (b := true) e hl hc
    have e1 := tm_li_sn q.2.1 hl
    split at h
    · obtain ⟨-, h⟩ := sp_ifs h
      cases h; exact ⟨e1, e2⟩
    · split at h
      · exact sy_as hE n e1 e2 h
      · obtain ⟨-, h⟩ := sp_ifs h
        cases h; exact ⟨e1, e2⟩
theorem sy_ma (hE : tm_hS E) {N : List Int64} {s : sp_S} {r : Tm × sp_S} (h : sp_ma T P V E N s = some r) : sy_x r.1 := by
  unfold sp_ma at h
  obtain ⟨-, h⟩ := sp_ifs h
  obtain ⟨-, h⟩ := sp_ifs h
  obtain ⟨q, hq, h⟩ := sp_bs h
  cases h
  exact ⟨rfl, sy_as hE _ (c := Tm.nil) trivial trivial hq⟩
theorem sy_e (hE : tm_hS E) {N : List Int64} {s : sp_S} {r : Tm × sp_S} (h : sp_e T P V E N s = some r) : sy_x r.1 := by
  unfold sp_e at h
  split at h
  · exact sy_le hE h
  · split at h
    · exact sy_if hE h
    · split at h
      · exact sy_ma hE h
      · exact sy_cm hE h
theorem sy_E : ∀ f : Nat, tm_hS (sp_E T P V f)
  | 0 => fun _ _ _ h => by cases h
  | f + 1 => fun _ _ _ h => sy_e (sy_E f) h
def syF (F : sp_F) : Prop := ∀ g, g < F.1 → sy_x (F.2.2.2 g) ∧ tm_md (F.2.2.2 g) ≤ 30
theorem sy_df {s : sp_S} {F : sp_F} {r : sp_S × sp_F} (h0 : syF F) (h : sp_df T P V s F = some r) : syF r.2 := by
  unfold sp_df at h
  obtain ⟨-, h⟩ := sp_ifs h
  obtain ⟨-, h⟩ := sp_ifs h
  obtain ⟨q, hq, h⟩ := sp_bs h
  obtain ⟨-, h⟩ := sp_ifs h
  obtain ⟨s2, hs, h⟩ := sp_bs h
  obtain ⟨-, h⟩ := sp_ifs h
  cases h
  have e : sy_x s2.1 ∧ tm_md s2.1 ≤ 30 := ⟨sy_E 30 _ _ _ hs, md_E 30 _ _ _ hs⟩
  intro g hg
  have hg : g < F.1 + 1 := hg
  show sy_x (if g = F.1 then s2.1 else F.2.2.2 g) ∧ tm_md (if g = F.1 then s2.1 else F.2.2.2 g) ≤ 30
  by_cases u : g = F.1
  · rw [if_pos u]; exact e
  · rw [if_neg u]; exact h0 g (by omega)
theorem sy_ds : ∀ (n : Nat) {s : sp_S} {F : sp_F} {r : sp_S × sp_F}, syF F → sp_ds T P V n s F = some r → syF r.2
  | 0, _, _, _, _, h => by cases h
  | n + 1, s, F, r, h0, h => by
    unfold sp_ds at h
    obtain ⟨q, hq, h⟩ := sp_bs h
    have e := sy_df h0 hq
    split at h
    · cases h; exact e
    · exact sy_ds n e h
theorem sy_pg {s : sp_S} {F : sp_F} {r : sp_S × sp_F} (h0 : F.1 = 0) (h : sp_pg T P V s F = some r) : syF r.2 := by
  unfold sp_pg at h
  obtain ⟨q, hq, h⟩ := sp_bs h
  obtain ⟨-, h⟩ := sp_ifs h
  cases h
  exact sy_ds 31 (fun g hg => by omega) hq
end
theorem wf_ub {z : Nat} {kf : Nat → Int32} {k : Nat} : ∀ (t : Tm) {c : Nat}, tm_wf z kf t c → tm_ub t k = true → k < c
  | .leaf (some (0, _, _, _, _, _)), _, _, g => nomatch g
  | .leaf (some (_ + 1, _, _, s, _, _)), c, h, g => by
    have g : (k == s) = true := g
    have h : s < c := h
    rw [beq_iff_eq] at g; omega
  | .branch 0 (.leaf (some (0, _, _, _, _, _))) x, c, h, g => wf_ub x (c := c) h g
  | .branch 0 (.leaf (some (1, _, _, _, _, _))) x, c, h, g => wf_ub x h.2 g
  | .branch 1 (.leaf (some (0, _, _, _, _, _))) (.branch _ x y), c, h, g => by
    rcases (Bool.or_eq_true _ _).mp g with g | g
    · exact wf_ub x h.1 g
    · exact wf_ub y h.2 g
  | .branch 1 (.leaf (some (_ + 1, _, _, s, _, _))) (.branch _ x y), c, h, g => by
    rcases (Bool.or_eq_true _ _).mp g with g | g
    · exact wf_ub x h.2.1 g
    · obtain ⟨g1, g2⟩ := (Bool.and_eq_true _ _).mp g
      have := wf_ub y h.2.2 g1
      have h1 := h.1.1
      rw [Bool.not_eq_true', beq_eq_false_iff_ne] at g2
      omega
  | .branch 2 (.leaf (some (_, _, _, _, _, _))) (.branch _ x (.branch _ y z)), c, h, g => by
    rcases (Bool.or_eq_true _ _).mp g with g | g
    · rcases (Bool.or_eq_true _ _).mp g with g | g
      · exact wf_ub x h.1 g
      · exact wf_ub y h.2.1 g
    · exact wf_ub z h.2.2 g
  | .branch 0 (.leaf (some (2, _, _, s, _, _))) x, c, h, g => by
    rcases (Bool.or_eq_true _ _).mp g with g | g
    · have := h.1.1; rw [beq_iff_eq] at g; omega
    · exact wf_ub x h.2 g
  | .branch 0 (.leaf (some (_ + 3, _, _, hh, m, _))) x, c, h, g => by
    obtain ⟨g1, g2⟩ := (Bool.and_eq_true _ _).mp g
    have := wf_ub x h.2 g1
    have h1 := h.1.1.1
    rw [Bool.not_eq_true', Bool.and_eq_false_iff, decide_eq_false_iff_not, decide_eq_false_iff_not] at g2
    omega
  | .leaf none, _, _, g => nomatch g
  | .branch (_ + 3) x y, c, h, g => by
    rcases (Bool.or_eq_true _ _).mp g with g | g
    · exact wf_ub x h.1 g
    · exact wf_ub y h.2 g
  | .branch 0 (.leaf none) _, _, _, g => nomatch g
  | .branch 0 (.branch _ _ _) _, _, _, g => nomatch g
  | .branch 1 (.leaf none) _, _, _, g => nomatch g
  | .branch 1 (.branch _ _ _) _, _, _, g => nomatch g
  | .branch 1 (.leaf (some (0, _, _, _, _, _))) (.leaf _), _, _, g => nomatch g
  | .branch 1 (.leaf (some (_ + 1, _, _, _, _, _))) (.leaf _), _, _, g => nomatch g
  | .branch 2 (.leaf none) _, _, _, g => nomatch g
  | .branch 2 (.branch _ _ _) _, _, _, g => nomatch g
  | .branch 2 (.leaf (some (_, _, _, _, _, _))) (.leaf _), _, _, g => nomatch g
  | .branch 2 (.leaf (some (_, _, _, _, _, _))) (.branch _ _ (.leaf _)), _, _, g => nomatch g
