/-! the trees that the parser gives are trees -/
def tm_ok : Tm → Prop
  | .branch 0 (.leaf (some (0, _, _, _, _, _))) x => tm_li x ∧ tm_ok x
  | .branch 0 (.leaf (some (1, _, _, _, _, _))) x => tm_li x ∧ tm_ok x
  | .branch 0 (.leaf (some (2, _, _, _, _, _))) x => tm_li x ∧ tm_ok x
  | .branch 1 (.leaf (some (0, _, _, _, _, _))) (.branch _ x y) => (¬ tm_cl x ∧ tm_ok x) ∧ (¬ tm_cl y ∧ tm_ok y)
  | .branch 1 (.leaf (some (_ + 1, _, _, _, _, _))) (.branch _ x y) => (¬ tm_cl x ∧ tm_ok x) ∧ (¬ tm_cl y ∧ tm_ok y)
  | .branch 2 (.leaf (some (_, _, _, _, _, _))) (.branch _ x (.branch _ y z)) => (¬ tm_cl x ∧ tm_ok x) ∧ (¬ tm_cl y ∧ tm_ok y) ∧ (¬ tm_cl z ∧ tm_ok z)
  | .branch 0 (.leaf (some (_ + 3, _, _, _, _, _))) x => ¬ tm_cl x ∧ tm_ok x
  | .branch (_ + 3) x y => (¬ tm_cl x ∧ tm_ok x) ∧ tm_ok y
  | _ => True
def tm_e (t : Tm) : Prop := ¬ tm_cl t ∧ tm_ok t
theorem tm_ok_sn {t : Tm} (ht : tm_e t) : ∀ {c : Tm}, tm_li c → tm_ok c → tm_ok (tm_sn c t)
  | .branch 0 (.leaf none) _, g, _ => g.elim
  | .branch 0 (.branch _ _ _) _, g, _ => g.elim
  | .branch 1 (.leaf none) _, g, _ => g.elim
  | .branch 1 (.branch _ _ _) _, g, _ => g.elim
  | .branch 1 (.leaf (some (0, _, _, _, _, _))) (.leaf _), g, _ => g.elim
  | .branch 1 (.leaf (some (_ + 1, _, _, _, _, _))) (.leaf _), g, _ => g.elim
  | .branch 2 (.leaf none) _, g, _ => g.elim
  | .branch 2 (.branch _ _ _) _, g, _ => g.elim
  | .branch 2 (.leaf (some (_, _, _, _, _, _))) (.leaf _), g, _ => g.elim
  | .branch 2 (.leaf (some (_, _, _, _, _, _))) (.branch _ _ (.leaf _)), g, _ => g.elim
  | .leaf none, _, _ => ⟨ht, trivial⟩
  | .branch (_ + 3) x y, hl, h => ⟨h.1, tm_ok_sn ht (c := y) hl h.2⟩
  | .leaf (some (0, _, _, _, _, _)), g, _ => g.elim
  | .leaf (some (_ + 1, _, _, _, _, _)), g, _ => g.elim
  | .branch 0 (.leaf (some (0, _, _, _, _, _))) _, g, _ => g.elim
  | .branch 0 (.leaf (some (1, _, _, _, _, _))) _, g, _ => g.elim
  | .branch 1 (.leaf (some (0, _, _, _, _, _))) (.branch _ _ _), g, _ => g.elim
  | .branch 1 (.leaf (some (_ + 1, _, _, _, _, _))) (.branch _ _ _), g, _ => g.elim
  | .branch 2 (.leaf (some (_, _, _, _, _, _))) (.branch _ _ (.branch _ _ _)), g, _ => g.elim
  | .branch 0 (.leaf (some (2, _, _, _, _, _))) _, g, _ => g.elim
  | .branch 0 (.leaf (some (_ + 3, _, _, _, _, _))) _, g, _ => g.elim
section
variable {T P : Nat → Int32} {V : Nat → Int64} {E : List Int64 → sp_S → Option (Tm × sp_S)}
def tm_hE (E : List Int64 → sp_S → Option (Tm × sp_S)) : Prop := ∀ N s r, E N s = some r → tm_e r.1
theorem ok_ar (hE : tm_hE E) {most : Nat} {N : List Int64} : ∀ (n : Nat) {c : Tm} {s : sp_S} {r : Tm × sp_S}, tm_li c → tm_ok c → sp_ar T E most N n c s = some r → tm_li r.1 ∧ tm_ok r.1
  | 0, c, s, r, _, _, h => by cases h
  | n + 1, c, s, r, hl, hc, h => by
    unfold sp_ar at h
    obtain ⟨-, h⟩ := sp_ifs h
    obtain ⟨q, hq, h⟩ := sp_bs h
    have e := hE _ _ _ hq
    by_cases u : (T q.2.1).toInt = 44
    · rw [if_pos u] at h
      exact ok_ar hE n (tm_li_sn q.1 hl) (tm_ok_sn e hl hc) h
    · rw [if_neg u] at h
      obtain ⟨-, h⟩ := sp_ifs h
      cases h
      exact ⟨tm_li_sn q.1 hl, tm_ok_sn e hl hc⟩
theorem ok_at (hE : tm_hE E) {N : List Int64} {s : sp_S} {r : Tm × sp_S} (h : sp_at T P V E N s = some r) : tm_e r.1 := by
  unfold sp_at at h
  split at h
  · cases h; exact ⟨fun g => g, trivial⟩
  · split at h
    · split at h
      · obtain ⟨q, hq, h⟩ := sp_bs h
        cases h
        exact ⟨fun g => g, ok_ar hE _ (c := Tm.nil) trivial trivial hq⟩
      · split at h
        · cases h; exact ⟨fun g => g, trivial⟩
        · cases h; exact ⟨fun g => g, trivial, trivial⟩
    · split at h
      · obtain ⟨q, hq, h⟩ := sp_bs h
        split at h
        · obtain ⟨q2, hq2, h⟩ := sp_bs h
          obtain ⟨s3, -, h⟩ := sp_bs h
          cases h
          exact ⟨fun g => g, ok_ar hE _ (c := Tm.nil) trivial trivial hq2⟩
        · obtain ⟨s3, -, h⟩ := sp_bs h
          cases h
          exact ⟨fun g => g, trivial, trivial⟩
      · split at h
        · obtain ⟨q, hq, h⟩ := sp_bs h
          have e := hE _ _ _ hq
          obtain ⟨-, h⟩ := sp_ifs h
          cases h
          exact e
        · cases h
theorem ok_prL (hE : tm_hE E) {N : List Int64} : ∀ (n : Nat) {s r : Tm × sp_S}, tm_e s.1 → sp_prL T P V E N n s = some r → tm_e r.1
  | 0, _, _, _, h => by cases h
  | n + 1, s, r, hs, h => by
    unfold sp_prL at h
    split at h
    · obtain ⟨q, hq, h⟩ := sp_bs h
      exact ok_prL hE n (s := (Tm.bin _ _ s.1 q.1, q.2)) ⟨fun g => g, hs, ok_at hE hq⟩ h
    · cases h; exact hs
theorem ok_pt (hE : tm_hE E) {N : List Int64} {s : sp_S} {r : Tm × sp_S} (h : sp_pt T P V E N s = some r) : tm_e r.1 := by
  obtain ⟨q, hq, h⟩ := sp_bs h
  exact ok_prL hE _ (ok_at hE hq) h
theorem ok_smL (hE : tm_hE E) {N : List Int64} : ∀ (n : Nat) {s r : Tm × sp_S}, tm_e s.1 → sp_smL T P V E N n s = some r → tm_e r.1
  | 0, _, _, _, h => by cases h
  | n + 1, s, r, hs, h => by
    unfold sp_smL at h
    split at h
    · obtain ⟨q, hq, h⟩ := sp_bs h
      exact ok_smL hE n (s := (Tm.bin _ _ s.1 q.1, q.2)) ⟨fun g => g, hs, ok_pt hE hq⟩ h
    · cases h; exact hs
theorem ok_sm (hE : tm_hE E) {N : List Int64} {s : sp_S} {r : Tm × sp_S} (h : sp_sm T P V E N s = some r) : tm_e r.1 := by
  obtain ⟨q, hq, h⟩ := sp_bs h
  exact ok_smL hE _ (ok_pt hE hq) h
theorem ok_cm (hE : tm_hE E) {N : List Int64} {s : sp_S} {r : Tm × sp_S} (h : sp_cm T P V E N s = some r) : tm_e r.1 := by
  obtain ⟨q, hq, h⟩ := sp_bs h
  split at h
  · obtain ⟨q2, hq2, h⟩ := sp_bs h
    cases h
    exact ⟨fun g => g, ok_sm hE hq, ok_sm hE hq2⟩
  · cases h; exact ok_sm hE hq
theorem ok_le (hE : tm_hE E) {N : List Int64} {s : sp_S} {r : Tm × sp_S} (h : sp_le T P V E N s = some r) : tm_e r.1 := by
  unfold sp_le at h
  obtain ⟨-, h⟩ := sp_ifs h
  obtain ⟨-, h⟩ := sp_ifs h
  obtain ⟨q, hq, h⟩ := sp_bs h
  obtain ⟨-, h⟩ := sp_ifs h
  obtain ⟨q2, hq2, h⟩ := sp_bs h
  cases h
  exact ⟨fun g => g, hE _ _ _ hq, hE _ _ _ hq2⟩
theorem ok_if (hE : tm_hE E) {N : List Int64} {s : sp_S} {r : Tm × sp_S} (h : sp_if T P E N s = some r) : tm_e r.1 := by
  obtain ⟨q, hq, h⟩ := sp_bs h
  obtain ⟨-, h⟩ := sp_ifs h
  obtain ⟨q2, hq2, h⟩ := sp_bs h
  obtain ⟨-, h⟩ := sp_ifs h
  obtain ⟨q3, hq3, h⟩ := sp_bs h
  cases h
  exact ⟨fun g => g, hE _ _ _ hq, hE _ _ _ hq2, hE _ _ _ hq3⟩
theorem ok_ab (hE : tm_hE E) {N : List Int64} {s : sp_S} {r : Tm × sp_S} (h : sp_ab T E N s = some r) : tm_e r.1 := by
  obtain ⟨-, h⟩ := sp_ifs h
  exact hE _ _ _ h
theorem ok_am (hE : tm_hE E) {N : List Int64} {Q : List Nat} {s : sp_S} {r : Int × Tm × sp_S} (h : sp_am T P V E N Q s = some r) : tm_e r.2.1 := by
  unfold sp_am at h
  split at h
  · obtain ⟨q, hq, h⟩ := sp_bs h
    cases h
    exact ⟨fun g => g, ok_ab hE hq⟩
  · obtain ⟨-, h⟩ := sp_ifs h
    obtain ⟨q, -, h⟩ := sp_bs h
    split at h
    · cases h
    · obtain ⟨p, -, h⟩ := sp_bs h
      obtain ⟨q2, hq2, h⟩ := sp_bs h
      cases h
      exact ⟨fun g => g, ok_ab hE hq2⟩
theorem ok_as (hE : tm_hE E) {N : List Int64} : ∀ (n : Nat) {Q : List Nat} {c : Tm} {s : sp_S} {r : Tm × sp_S}, tm_li c → tm_ok c → sp_as T P V E N n Q c s = some r → tm_li r.1 ∧ tm_ok r.1
  | 0, _, _, _, _, _, _, h => by cases h
  | n + 1, Q, c, s, r, hl, hc, h => by
    unfold sp_as at h
    obtain ⟨q, hq, h⟩ := sp_bs h
    have e := ok_am hE hq
    have e2 := tm_ok_sn e hl hc
    have e1 := tm_li_sn q.2.1 hl
    split at h
    · obtain ⟨-, h⟩ := sp_ifs h
      cases h; exact ⟨e1, e2⟩
    · split at h
      · exact ok_as hE n e1 e2 h
      · obtain ⟨-, h⟩ := sp_ifs h
        cases h; exact ⟨e1, e2⟩
theorem ok_ma (hE : tm_hE E) {N : List Int64} {s : sp_S} {r : Tm × sp_S} (h : sp_ma T P V E N s = some r) : tm_e r.1 := by
  unfold sp_ma at h
  obtain ⟨-, h⟩ := sp_ifs h
  obtain ⟨-, h⟩ := sp_ifs h
  obtain ⟨q, hq, h⟩ := sp_bs h
  cases h
  exact ⟨fun g => g, ok_as hE _ (c := Tm.nil) trivial trivial hq⟩
theorem ok_e (hE : tm_hE E) {N : List Int64} {s : sp_S} {r : Tm × sp_S} (h : sp_e T P V E N s = some r) : tm_e r.1 := by
  unfold sp_e at h
  split at h
  · exact ok_le hE h
  · split at h
    · exact ok_if hE h
    · split at h
      · exact ok_ma hE h
      · exact ok_cm hE h
theorem ok_E : ∀ f : Nat, tm_hE (sp_E T P V f)
  | 0 => fun _ _ _ h => by cases h
  | f + 1 => fun _ _ _ h => ok_e (ok_E f) h
end
