/-! calls within opaque worlds: the callee's part comes first -/
theorem fr_rgC {wc wr : va_W} : (List.range wc.length).map (fun i => (wc ++ wr)[i]?) = wc.map some := by
  apply List.ext_getElem?
  intro k
  rw [List.getElem?_map, List.getElem?_map]
  by_cases h : k < wc.length
  · rw [List.getElem?_range h, Option.map_some, List.getElem?_append_left h, List.getElem?_eq_getElem h]; rfl
  · rw [List.getElem?_eq_none (by rw [List.length_range]; omega), List.getElem?_eq_none (by omega)]; rfl
theorem fr_rgR {wc wr : va_W} : ((List.range wr.length).map (fun i => wc.length + i)).map (fun i => (wc ++ wr)[i]?) = wr.map some := by
  apply List.ext_getElem?
  intro k
  rw [List.getElem?_map, List.getElem?_map, List.getElem?_map]
  by_cases h : k < wr.length
  · rw [List.getElem?_range h, Option.map_some, Option.map_some, List.getElem?_append_right (by omega), show wc.length + k - wc.length = k by omega, List.getElem?_eq_getElem h]; rfl
  · rw [List.getElem?_eq_none (by rw [List.length_range]; omega), List.getElem?_eq_none (by omega)]; rfl
theorem fr_Pl {D : va_G} {cl : List vw_C} {wc wr : va_W} {H : Heap} (h : va_P D cl (wc ++ wr) H) : va_P D cl wc H := fun k q hq => (fr_at fr_rgC hq).elim (fun i hi => h i q hi)
theorem fr_Kl {D : va_G} {cl : List vw_C} {tc tr : List (ClassId × FieldType)} {U : State} (h : va_K D cl (tc ++ tr) U) : va_K D cl tc U := ⟨h.1, fun k q hq => h.2 k q (by
  have hk : k < tc.length := by
    rcases Nat.lt_or_ge k tc.length with g | g
    · exact g
    · rw [List.getElem?_eq_none g] at hq; cases hq
  rw [List.getElem?_append_left hk]; exact hq)⟩
theorem fr_Kr {D : va_G} {cl : List vw_C} {tc tr : List (ClassId × FieldType)} {U : State} (h : va_K D cl (tc ++ tr) U) : va_K D cl tr U := ⟨h.1, fun k q hq => h.2 (tc.length + k) q (by
  rw [List.getElem?_append_right (by omega), show tc.length + k - tc.length = k by omega]; exact hq)⟩
theorem fr_Dl {A : Nat → Prop} {wc wr : va_W} (h : va_D A (wc ++ wr)) : va_D A wc := by
  have lt : ∀ (k : Nat) (q : Nat × va_E), wc[k]? = some q → (wc ++ wr)[k]? = some q := fun k q hq => by
    have hk : k < wc.length := by
      rcases Nat.lt_or_ge k wc.length with g | g
      · exact g
      · rw [List.getElem?_eq_none g] at hq; cases hq
    rw [List.getElem?_append_left hk]; exact hq
  exact ⟨fun i j p q h1 h2 h3 => h.1 i j p q (lt i p h1) (lt j q h2) h3, fun k q hq => h.2 k q (lt k q hq)⟩
theorem fr_Fl {A : Nat → Prop} {wc wr : va_W} {H0 H : Heap} {locs : List Loc} (hD : va_D A (wc ++ wr)) (hS : va_S A H0 H locs) (hA : ∀ q, H0.size ≤ q → A q) : ∀ q, va_A wc H.size q → A q := fun q h => by
  rcases h with ⟨k, e, h⟩ | h
  · exact (fr_Dl hD).2 k (q, e) h
  · exact hA q (Nat.le_trans hS.1 h)
theorem fr_apart {A : Nat → Prop} {D : va_G} {cl : List vw_C} {wc wr w1 : va_W} {H H1 : Heap} (hP : va_P D cl (wc ++ wr) H) (hD : va_D A (wc ++ wr)) (hk : ∀ q : Nat, q < H.size → ¬ va_A wc H.size q → H1[q]? = H[q]?) (hF : ∀ q, va_A wc H.size q → A q) (hP1 : va_P D cl w1 H1) (hD1 : va_D (va_A wc H.size) w1) : va_P D cl (wr ++ w1) H1 ∧ va_D A (wr ++ w1) := by
  have rt : ∀ (k : Nat) (q : Nat × va_E), wr[k]? = some q → (wc ++ wr)[wc.length + k]? = some q := fun k q hq => by
    rw [List.getElem?_append_right (by omega), show wc.length + k - wc.length = k by omega]; exact hq
  have lt : ∀ (k : Nat) (q : Nat × va_E), wc[k]? = some q → (wc ++ wr)[k]? = some q ∧ k < wc.length := fun k q hq => by
    have hk : k < wc.length := by
      rcases Nat.lt_or_ge k wc.length with g | g
      · exact g
      · rw [List.getElem?_eq_none g] at hq; cases hq
    rw [List.getElem?_append_left hk]; exact ⟨hq, hk⟩
  have apart : ∀ (k : Nat) (q : Nat × va_E), wr[k]? = some q → q.1 < H.size ∧ ¬ va_A wc H.size q.1 := fun k q hq => by
    have hl := (hP _ q (rt k q hq)).lt
    refine ⟨hl, fun h => ?_⟩
    rcases h with ⟨k2, e, h⟩ | h
    · obtain ⟨h3, h4⟩ := lt k2 (q.1, e) h
      have := hD.1 _ _ q (q.1, e) (rt k q hq) h3 rfl
      omega
    · omega
  have hDr : va_D A wr := ⟨fun i j p q h1 h2 h3 => by have := hD.1 _ _ p q (rt i p h1) (rt j q h2) h3; omega, fun k q hq => hD.2 _ q (rt k q hq)⟩
  refine ⟨va_P.app (va_P.kept (fun k q hq => hP _ q (rt k q hq)) (fun k q hq => hk q.1 (apart k q hq).1 (apart k q hq).2)) hP1, va_D.app hDr (hD1.weaken (fun k q _ h => hF q.1 h)) (fun i j p q h1 h2 h3 => ?_)⟩
  have := (apart i p h1).2
  rw [h3] at this
  exact this (hD1.2 j q h2)
theorem fr_vx {a0 : Addr} {l : Launch} {y : MethodName} {cs : List Cond} {rm : Room} {Pc : Array Value → State → Prop} {U : Type} {post : Nat → Nat → Int32 → U → Prop} {post2 : Int32 → U → Prop} {B : U → State → Prop} {A : Nat → Prop} {free : Addr → Prop} {mc ms : Nat} (h : vw_Met a0 l y cs rm Pc (fun kc kn => va_Qi (post kc kn) B A) (fr_X A) free) (hp : ∀ kc kn r u, post kc kn r u → post2 r u ∧ kc ≤ mc ∧ kn ≤ ms) : vx_Met l y cs rm Pc (va_Qi post2 B A) (vx_X (fun _ : Unit => False) (fun _ _ _ => True) A) mc ms free :=
  MetFree.mono h (fun _ _ h => h) (fun _ _ _ _ _ h => h) (fun a s o t _ q => by
    obtain ⟨kc, kn, q⟩ := q
    rcases q with ⟨⟨⟨r, u, ho, hq, hb⟩, hf⟩, L, hfe, hL⟩ | ⟨-, E, ce, L, ⟨u, hu, -⟩, -⟩
    · obtain ⟨h1, h2, h3⟩ := hp kc kn r u hq
      exact Or.inl ⟨⟨⟨r, u, ho, h1, hb⟩, hf⟩, L, ⟨hfe.1, hfe.2.1, hfe.2.2.mono h2 h3⟩, hL⟩
    · exact hu.elim)
