/-! a method's contract within a greater world -/
theorem fr_at {ws wc : va_W} {isC : List Nat} (hC : isC.map (fun i => ws[i]?) = wc.map some) {k : Nat} {q : Nat × va_E} (hq : wc[k]? = some q) : ∃ i : Nat, ws[i]? = some q := by
  have h1 : (isC.map (fun i => ws[i]?))[k]? = some (some q) := by rw [hC, List.getElem?_map, hq]; rfl
  rw [List.getElem?_map] at h1
  cases hi : isC[k]? with
  | none => rw [hi] at h1; cases h1
  | some i => rw [hi] at h1; exact ⟨i, Option.some.inj h1⟩
def fr_X (A : Nat → Prop) : Nat → Nat → String → State → State → Prop := fun _ _ => vx_X (fun _ : Unit => False) (fun _ _ _ => True) A
theorem fr_w {a0 : Addr} {l : Launch} {y : MethodName} {cs : List Cond} {rm : Room} {av : List Value} {dC : Nat → ClassId} {dI : Nat → Nat → Nat} {aK aV : Nat → Nat} {sz : Nat} {U : Type} {post : Nat → Nat → Int32 → U → Prop} {t1 : U → List (ClassId × FieldType)} {w1 : U → va_W} {ws wc wr : va_W} {tys tc tr : List (ClassId × FieldType)}
    (hM : vw_Met a0 l y cs rm (va_Pc av (zP dC dI aK aV sz tc wc)) (fun kc kn => va_Qi (post kc kn) (fun u => zQ dC dI (va_A wc sz) (t1 u) (w1 u)) (va_A wc sz)) (fr_X (va_A wc sz)) (va_A wc sz))
    (isC isR : List Nat) (hC : isC.map (fun i => ws[i]?) = wc.map some) (hR : isR.map (fun i => ws[i]?) = wr.map some) (hnC : va_nd isC = true) (hn : va_nd isR = true) (hdis : ∀ i ∈ isR, i ∉ isC) (ic ir : List Nat) (htc : ic.filterMap (fun i => tys[i]?) = tc) (htr : ir.filterMap (fun i => tys[i]?) = tr) :
    vw_Met a0 l y cs rm (va_Pc av (zP dC dI aK aV sz tys ws)) (fun kc kn => va_Qi (post kc kn) (fun u => zQ dC dI (va_A ws sz) (tr ++ t1 u) (wr ++ w1 u)) (va_A ws sz)) (fr_X (va_A ws sz)) (va_A ws sz) := by
  have hF : ∀ q, va_A wc sz q → va_A ws sz q := fun q h => by
    rcases h with ⟨k, e, h⟩ | h
    · obtain ⟨i, hi⟩ := fr_at hC h
      exact Or.inl ⟨i, e, hi⟩
    · exact Or.inr h
  refine MetFree.mono hM (fun a s h => ?_) (fun _ _ _ _ _ h => h) (fun a s o t h q => ?_)
  · obtain ⟨e, hsz, hP, hK, hD, hN, hT⟩ := h
    exact ⟨e, hsz, fun k q hq => (fr_at hC hq).elim (fun i hi => hP i q hi), hK.sub ic htc, hD.sub isC hnC hC, hN, zT.pass (State.WarmedH.refl s) hT va_S.rf hF⟩
  · obtain ⟨-, hsz, hP, hK, hD, -, -⟩ := h
    subst hsz
    obtain ⟨kc, kn, q⟩ := q
    rcases q with ⟨⟨⟨r, u, ho, hp, hq⟩, hf⟩, L, hfe, hL⟩ | ⟨-, E, ce, L, ⟨u, hu, -⟩, -⟩
    · obtain ⟨hP1, hK1, hD1⟩ := hq
      have hj := va_join (A0 := va_A ws s.heap.size) hP hD.self isC isR hC hR hn hdis hf.2 hF hP1 hD1
      refine ⟨kc, kn, Or.inl ⟨⟨⟨r, u, ho, hp, hj.1, (va_K.moved hfe.2.1.alike (hK.sub ir htr)).app hK1, hj.2⟩, hf.1, fun q h1 h2 => hf.2 q h1 (fun g => h2 (hF q g))⟩, L, hfe, fun z hz => hF _ (hL z hz)⟩⟩
    · exact hu.elim
/-- the world in another order, other facts, other names -/
theorem fr_m {a0 : Addr} {l : Launch} {y : MethodName} {cs : List Cond} {rm : Room} {Pc : Array Value → State → Prop} {dC : Nat → ClassId} {dI : Nat → Nat → Nat} {U V : Type} {post : Nat → Nat → Int32 → U → Prop} {post2 : Nat → Nat → Int32 → V → Prop} {t1 : U → List (ClassId × FieldType)} {w1 : U → va_W} {t2 : V → List (ClassId × FieldType)} {w2 : V → va_W} {A : Nat → Prop} {free : Addr → Prop}
    (hM : vw_Met a0 l y cs rm Pc (fun kc kn => va_Qi (post kc kn) (fun u => zQ dC dI A (t1 u) (w1 u)) A) (fr_X A) free)
    (hQ : ∀ kc kn r u, post kc kn r u → ∃ v, post2 kc kn r v ∧ (∃ is : List Nat, va_nd is = true ∧ is.map (fun i => (w1 u)[i]?) = (w2 v).map some) ∧ ∃ is : List Nat, is.filterMap (fun i => (t1 u)[i]?) = t2 v) :
    vw_Met a0 l y cs rm Pc (fun kc kn => va_Qi (post2 kc kn) (fun v => zQ dC dI A (t2 v) (w2 v)) A) (fr_X A) free := by
  refine MetFree.mono hM (fun a s h => h) (fun _ _ _ _ _ h => h) (fun a s o t h q => ?_)
  obtain ⟨kc, kn, q⟩ := q
  rcases q with ⟨⟨⟨r, u, ho, hp, hP1, hK1, hD1⟩, hf⟩, L, hfe, hL⟩ | ⟨-, E, ce, L, ⟨u, hu, -⟩, -⟩
  · obtain ⟨v, hv, ⟨is, h1, h2⟩, ⟨it, h3⟩⟩ := hQ kc kn r u hp
    exact ⟨kc, kn, Or.inl ⟨⟨⟨r, v, ho, hv, fun k q hq => (fr_at h2 hq).elim (fun i hi => hP1 i q hi), hK1.sub it h3, hD1.sub is h1 h2⟩, hf⟩, L, hfe, hL⟩⟩
  · exact hu.elim
theorem fr_ofMet {a0 : Addr} {l : Launch} {y : MethodName} {cs : List Cond} {rm : Room} {Pc : Array Value → State → Prop} {U : Type} {post : Int32 → U → Prop} {B : U → State → Prop} {A : Nat → Prop} {mc ms : Nat} {free : Addr → Prop} (h : Met l y cs rm Pc (va_Qi post B A) mc ms free) : vw_Met a0 l y cs rm Pc (fun kc kn => va_Qi (fun r u => post r u ∧ kc = mc ∧ kn = ms) B A) (fr_X A) free :=
  MetFree.mono h (fun _ _ h => h) (fun _ _ _ _ _ h => h) (fun a s o t _ q => by
    obtain ⟨⟨⟨r, u, ho, hp, hb⟩, hf⟩, L, hfe, hL⟩ := q
    exact ⟨mc, ms, Or.inl ⟨⟨⟨r, u, ho, ⟨hp, rfl, rfl⟩, hb⟩, hf⟩, L, hfe, hL⟩⟩)
theorem fr_ofVx {a0 : Addr} {l : Launch} {y : MethodName} {cs : List Cond} {rm : Room} {Pc : Array Value → State → Prop} {U : Type} {post : Int32 → U → Prop} {B : U → State → Prop} {A A2 : Nat → Prop} {mc ms : Nat} {free : Addr → Prop} (h : vx_Met l y cs rm Pc (va_Qi post B A) (vx_X (fun _ : Unit => False) (fun _ _ _ => True) A2) mc ms free) : vw_Met a0 l y cs rm Pc (fun kc kn => va_Qi (fun r u => post r u ∧ kc = mc ∧ kn = ms) B A) (fr_X A) free :=
  MetFree.mono h (fun _ _ h => h) (fun _ _ _ _ _ h => h) (fun a s o t _ q => by
    rcases q with ⟨⟨⟨r, u, ho, hp, hb⟩, hf⟩, L, hfe, hL⟩ | ⟨q, -, E, ce, L, ⟨u, hu, -⟩, -⟩
    · exact ⟨mc, ms, Or.inl ⟨⟨⟨r, u, ho, ⟨hp, rfl, rfl⟩, hb⟩, hf⟩, L, hfe, hL⟩⟩
    · exact hu.elim)
theorem fr_ofVw {a0 a1 : Addr} {l : Launch} {y : MethodName} {cs : List Cond} {rm : Room} {Pc : Array Value → State → Prop} {U : Type} {post : Nat → Nat → Int32 → U → Prop} {B : U → State → Prop} {A A2 : Nat → Prop} {free : Addr → Prop} (h : vw_Met a1 l y cs rm Pc (fun kc kn => va_Qi (post kc kn) B A) (fun _ _ => vx_X (fun _ : Unit => False) (fun _ _ _ => True) A2) free) : vw_Met a0 l y cs rm Pc (fun kc kn => va_Qi (post kc kn) B A) (fr_X A) free :=
  MetFree.mono h (fun _ _ h => h) (fun _ _ _ _ _ h => h) (fun a s o t _ q => by
    obtain ⟨kc, kn, q⟩ := q
    rcases q with q | ⟨-, E, ce, L, ⟨u, hu, -⟩, -⟩
    · exact ⟨kc, kn, Or.inl q⟩
    · exact hu.elim)
