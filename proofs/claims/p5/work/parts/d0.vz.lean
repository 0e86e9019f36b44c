section
/-! a method that throws one known object: its end, its call -/
def zy_Q (a : Addr) (XC : String → State → State → Prop) (mc ms : Nat) (free : Addr → Prop) : Array Value → State → Outcome → State → Prop := fun _ st o t => o = .threw a ∧ vx_T XC st a t mc ms free
def zy_MQ (below : List Frame) (a : Addr) (XC : String → State → State → Prop) (ar : Array Value) (s : State) (mc ms : Nat) (free : Addr → Prop) : State → Prop := fun t =>
  ∃ o, t.status = .running ∧ Ended t below o ∧ zy_Q a XC mc ms free ar s o t
theorem zy_athrow {p : Program} {l : Launch} {e : Env} {R : Room} {s : State} {m : MethodId} {args : Array Value} {below : List Frame} {meth : Method} {c : Code} {H : Heap} {locs : List Loc} {cells slots : Nat} {cc : ByteArray} {pc : Nat} {ls : Array Slot} {rest : List Value} {XC : String → State → State → Prop} {free : Addr → Prop} {E : String} {ce : Cell} {q : Addr} {mc ms : Nat}
    (hexec : p.tables.exec = Jvm.exec) (hb : c.code = cc) (hout : ∀ x ∈ c.exceptionTable.toList, covers x pc = false) (hlocks : meth.locks = false) (hcell : H[q]? = some ce) (hv : ce.vm = .none) (hcl : s.vm.findClass E = some ce.cls) (hdg : decode cc pc = .ok (.athrow, 1))
    (hx : ∀ t : State, t.heap = H → s.vm.Alike t.vm → XC E s t) (hf : ∀ z ∈ locs, free z.base) (hc : cells ≤ mc) (hs : slots ≤ ms) :
    W p l e R s m args below meth c H locs cells slots (zy_MQ below q XC args s mc ms free) (F0 m pc ls (.ref q :: rest)) := by
  intro T hT X
  obtain ⟨st1, hrun, hend, hW, hsm⟩ := Stand.athrowLeaves X hexec (g := F0 m pc ls (.ref q :: rest)) rfl rfl rfl hout (a := q) (rest := rest) rfl (by rw [hb]; exact hdg) hlocks
  have hcell9 : (T.setFrames (.throwing q :: below)).heap[q]? = some ce := by
    show T.heap[q]? = some ce
    rw [hT]; exact hcell
  exact ⟨_, st1, .threw q, hrun, hend, rfl, E, ce, locs, hx _ hT hW.alike, hcell9, hv, hcl, hW, hsm.mono hc hs, hf⟩
def zy_Post (a0 : Addr) (XC : String → State → State → Prop) (mc ms : Nat) (free : Addr → Prop) : Pt → Array Value → Addr → Pt → Prop := fun A a q B => q = a0 ∧ vx_Post XC mc ms free A a q B
def vz_Q (a0 : Addr) (Qc : Array Value → State → Outcome → State → Prop) (XC : String → State → State → Prop) (mc0 ms0 mc ms : Nat) (free : Addr → Prop) : Array Value → State → Outcome → State → Prop := fun a st o t =>
  (Qc a st o t ∧ ∃ L, FrameEnd st o t L mc0 ms0 ∧ ∀ q ∈ L, free q.base) ∨ (o = .threw a0 ∧ vx_T XC st a0 t mc ms free)
def vz_Met (a0 : Addr) (l : Launch) (y : MethodName) (ws : List Cond) (rm : Room) (Pc : Array Value → State → Prop) (Qc : Array Value → State → Outcome → State → Prop) (XC : String → State → State → Prop) (mc0 ms0 mc ms : Nat) (free : Addr → Prop) : Prop :=
  MetFree l y (headSpec ws rm) Pc (fun _ _ _ _ _ => True) (vz_Q a0 Qc XC mc0 ms0 mc ms free)
def vz_MQ (a0 : Addr) (below : List Frame) (Qc : Array Value → State → Outcome → State → Prop) (XC : String → State → State → Prop) (a : Array Value) (s : State) (mc0 ms0 mc ms : Nat) (free : Addr → Prop) : State → Prop := fun t =>
  ∃ o, t.status = .running ∧ Ended t below o ∧ vz_Q a0 Qc XC mc0 ms0 mc ms free a s o t
theorem vz_thr {a0 : Addr} {below : List Frame} {Qc : Array Value → State → Outcome → State → Prop} {XC : String → State → State → Prop} {a : Array Value} {s : State} {mc0 ms0 mc ms : Nat} {free : Addr → Prop} : ∀ t, zy_MQ below a0 XC a s mc ms free t → vz_MQ a0 below Qc XC a s mc0 ms0 mc ms free t := fun t h => by
  obtain ⟨o, h1, h2, h3⟩ := h
  exact ⟨o, h1, h2, Or.inr h3⟩
theorem vz_ret {a0 : Addr} {below : List Frame} {Qc : Array Value → State → Outcome → State → Prop} {XC : String → State → State → Prop} {a : Array Value} {s : State} {mc0 ms0 mc ms : Nat} {free : Addr → Prop} : ∀ t, vx_MQ below Qc (fun _ _ _ => False) a s mc0 ms0 free t → vz_MQ a0 below Qc XC a s mc0 ms0 mc ms free t := fun t h => by
  obtain ⟨o, h1, h2, h3⟩ := h
  exact ⟨o, h1, h2, h3.elim Or.inl (fun ⟨q, _, _, _, _, g, _⟩ => g.elim)⟩
theorem vz_out {p : Program} {l : Launch} {e : Env} {R : Room} {s : State} {m : MethodId} {args : Array Value} {below : List Frame} {meth : Method} {c : Code} {H : Heap} {locs : List Loc} {cells slots : Nat} {ls : Array Slot} {rest : List Value} {XC : String → State → State → Prop} {free : Addr → Prop} {pc : Nat} {E : String} {ce : Cell} {q : Addr} {mc ms : Nat} (hout : ∀ x ∈ c.exceptionTable.toList, covers x pc = false) (hlocks : meth.locks = false) (hcell : H[q]? = some ce) (hv : ce.vm = .none) (hcl : s.vm.findClass E = some ce.cls)
    (hx : ∀ t : State, t.heap = H → s.vm.Alike t.vm → XC E s t) (hf : ∀ z ∈ locs, free z.base) (hc : cells ≤ mc) (hs : slots ≤ ms) :
    vx_W p l e R s m args below meth c H locs cells slots (zy_MQ below q XC args s mc ms free) (F0 m pc ls rest) q := by
  intro T hT X
  obtain ⟨st1, hrun, hend, hW, hsm⟩ := X.leaveThrown q (g := F0 m pc ls rest) rfl rfl rfl hout hlocks
  have hcell9 : (T.setFrames (.throwing q :: below)).heap[q]? = some ce := by
    show T.heap[q]? = some ce
    rw [hT]; exact hcell
  exact ⟨_, st1, .threw q, hrun, hend, rfl, E, ce, locs, hx _ hT hW.alike, hcell9, hv, hcl, hW, hsm.mono hc hs, hf⟩
theorem vz_back {a0 : Addr} {l : Launch} {R : Room} {p : Program} {e : Env} {below : List Frame} {s : State} {sargs : Array Value} {y : MethodName} {len W9 : Nat} {ws : List Cond} {rm : Room} {Pc : Array Value → State → Prop} {Qc : Array Value → State → Outcome → State → Prop} {XC : String → State → State → Prop} {mc0 ms0 mc ms : Nat} {free : Addr → Prop} {bytes : ByteArray} {maxL : Nat} {ret : Option FieldType}
    (hM : vz_Met a0 l y ws rm Pc Qc XC mc0 ms0 mc ms free) (hblind : FrameBlind Pc) (hrc : rm.cells = mc) (hrs : rm.slots = ms)
    (hframes : rm.frames + 1 ≤ R.frames) (hlocals : W9 + (maxL + 11) + rm.locals ≤ R.locals)
    (hws : ∀ w ∈ ws, ∀ a' U, s.WarmedH U.vm → w.before a' U = true) (hcode : Cond.code y bytes maxL ret ∈ ws) (hinit : ∀ a' U, s.WarmedH U.vm → (Cond.initialized y.cls).before a' U = true) :
    vx_Back l R p e below s sargs y len W9 (PreOf R mc ms Pc) (PostOf Qc mc0 ms0 free) (zy_Post a0 XC mc ms free) := by
  intro m meth c A g ig mk a X hg hsize hdg hW hn hp
  have h1 : (headSpec ws rm).pre.before a A.U = true := atoms_intro fun w hw => hws w hw _ _ X.warmed
  have h2 : (Cond.code y bytes maxL ret).before a A.U = true := hws _ hcode _ _ X.warmed
  have h3 : (Cond.initialized y.cls).before a A.U = true := hinit _ _ X.warmed
  have h4 : A.cells + (headSpec ws rm).room.cells ≤ R.cells := by rw [show (headSpec ws rm).room.cells = mc from hrc]; exact hp.1
  have h5 : A.slots + (headSpec ws rm).room.slots ≤ R.slots := by rw [show (headSpec ws rm).room.slots = ms from hrs]; exact hp.2.1
  have hPc : Pc a (A.U.calling g mk a) := hblind _ _ _ _ hp.2.2
  obtain ⟨U, Ls, c0, s0⟩ := A
  dsimp only [Pt.U, Pt.locs, Pt.cells, Pt.slots] at h1 h2 h3 h4 h5 X hn hPc ⊢
  obtain ⟨methY, cY, hmY, hcY, -, hlY, -, -, -, -⟩ := Cond.code_spec hn h2
  obtain ⟨kY, hkY, -⟩ := className_of_methodNamed hn
  have hinitY : kY.init = .initialized := Cond.initialized_spec (findClass_of_methodNamed hn) hkY h3
  have h : At U g.method c below := by rw [hg]; exact X.here
  have hlocals9 : W9 + (maxL + 11) + (headSpec ws rm).room.locals ≤ R.locals := hlocals
  have happ : (headSpec ws rm).appliesLoose y e.platform (U.calling g mk a) = true :=
    Spec.appliesLoose_calling (g := g) h hdg hn hkY hinitY
      (X.room_calling (g := g) (R' := (headSpec ws rm).room) hsize hmY hcY hframes (by rw [hlY]; omega) h4 h5) h1
  obtain ⟨mid, hmid⟩ := h.above
  have hfr : (U.setTop g).frames = (.java g :: mid) ++ below := by rw [State.frames_setTop' g h.top, hmid]; rfl
  obtain ⟨o, s₂, hsteps, -, hend, hq⟩ := Steps.callFree hM p X.admits X.cas X.clock (acts := []) hfr happ hPc trivial
  have hq' : vz_Q a0 Qc XC mc0 ms0 mc ms free a (U.calling g mk a) o s₂ := hq
  rw [State.frames_setTop' g h.top] at hend
  obtain ⟨g₀, hg0⟩ := Option.isSome_iff_exists.mp h.top
  obtain ⟨r, hr⟩ := State.topJava?_eq_some.mp hg0
  have hr' : (({ U with heap := s₂.heap, slotsUsed := s₂.slotsUsed } : State).setVm s₂.vm).frames = .java g₀ :: r := hr
  rcases hq' with ⟨hqc, L, hfe, hL⟩ | ⟨rfl, E, ce, L, hx, hce, hcv, hcl, hW₂, hsm, hL⟩
  · obtain ⟨⟨v, rfl⟩, hW₂, e2, q2, q3, q4, q5, q6⟩ := id hfe
    have e3 : s₂ = ({ (U.calling g mk a).setFrames s₂.frames with heap := s₂.heap, slotsUsed := s₂.slotsUsed } : State).setVm s₂.vm := by
      have : s₂ = ({ s₂ with vm := (U.calling g mk a).vm } : State).setVm s₂.vm := rfl
      rw [e2] at this
      exact this
    obtain ⟨c₂, i₂, len₂, hc₂, hd₂, hf₂⟩ := hend
    have hW' : U.WarmedH s₂.vm := hW₂
    have hcc : c₂ = c := by
      have h1 : s₂.code? g.method = U.code? g.method := by
        rw [State.code?_eq, State.code?_eq, hW'.alike.method?]
      exact Option.some.inj (hc₂.symm.trans (h1.trans h.code))
    subst hcc
    have hlen : len₂ = len := by rw [hdg] at hd₂; cases hd₂; rfl
    subst hlen
    have hs₂ : s₂ = (({ U with heap := s₂.heap, slotsUsed := s₂.slotsUsed } : State).setVm s₂.vm).setTop { g with pc := g.pc + len₂, stack := v.toList ++ g.stack } := by
      refine e3.trans ?_
      rw [hf₂, State.calling_eq h.top, State.setFrames_setFrames, State.setTop_of_frames _ hr', hr]
      rfl
    have hsame : U.sameButNew ({ U with heap := s₂.heap, slotsUsed := s₂.slotsUsed } : State) L mc0 ms0 := by
      refine ⟨?_, q2, q3, q4, q5, q6⟩
      obtain ⟨t, ht, -⟩ := State.frames_cons hr
      show ({ U with heap := s₂.heap, slotsUsed := s₂.slotsUsed } : State) = { U.setFrames U.frames with heap := s₂.heap, slotsUsed := s₂.slotsUsed }
      rw [State.setFrames_self ht]
    subst hg
    refine Or.inl ⟨v, ⟨(({ U with heap := s₂.heap, slotsUsed := s₂.slotsUsed } : State).setVm s₂.vm), Ls ++ L, c0 + mc0, s0 + ms0⟩,
      ⟨X.admits, X.cas, X.clock, X.frames, X.room, X.hears, X.method, X.code, (X.here.setHeapUsed s₂.heap s₂.slotsUsed).setVm hW'.alike, X.tail, State.WarmedH.trans X.warmed hW', X.limits, X.bytes, X.same.trans (hsame.setVm s.vm)⟩,
      ⟨g, mk, s₂, L, rfl, rfl, hqc, rfl, hL, rfl, rfl⟩, ?_⟩
    show Steps p.tables e below _ ((({ U with heap := s₂.heap, slotsUsed := s₂.slotsUsed } : State).setVm s₂.vm).setTop { g with pc := g.pc + len₂, stack := v.toList ++ g.stack })
    rw [← hs₂]
    exact hsteps
  · obtain ⟨e2, q2, q3, q4, q5, q6⟩ := id hsm
    have e3 : s₂ = ({ (U.calling g mk a).setFrames s₂.frames with heap := s₂.heap, slotsUsed := s₂.slotsUsed } : State).setVm s₂.vm := by
      have : s₂ = ({ s₂ with vm := (U.calling g mk a).vm } : State).setVm s₂.vm := rfl
      rw [e2] at this
      exact this
    have hf₂ : s₂.frames = .throwing a0 :: .java g :: U.frames.tail := hend
    have hW' : U.WarmedH s₂.vm := hW₂
    have hs₂ : s₂ = ((({ U with heap := s₂.heap, slotsUsed := s₂.slotsUsed } : State).setVm s₂.vm).setTop g).pushFrame (.throwing a0) := by
      refine e3.trans ?_
      rw [hf₂, State.calling_eq h.top, State.setFrames_setFrames, State.pushFrame, State.frames_setTop _ hr', State.setTop_of_frames _ hr', State.setFrames_setFrames, hr]
      rfl
    have hsame : U.sameButNew ({ U with heap := s₂.heap, slotsUsed := s₂.slotsUsed } : State) L mc ms := by
      refine ⟨?_, q2, q3, q4, q5, q6⟩
      obtain ⟨t, ht, -⟩ := State.frames_cons hr
      show ({ U with heap := s₂.heap, slotsUsed := s₂.slotsUsed } : State) = { U.setFrames U.frames with heap := s₂.heap, slotsUsed := s₂.slotsUsed }
      rw [State.setFrames_self ht]
    subst hg
    refine Or.inr ⟨a0, ⟨(({ U with heap := s₂.heap, slotsUsed := s₂.slotsUsed } : State).setVm s₂.vm), Ls ++ L, c0 + mc, s0 + ms⟩,
      ⟨X.admits, X.cas, X.clock, X.frames, X.room, X.hears, X.method, X.code, (X.here.setHeapUsed s₂.heap s₂.slotsUsed).setVm hW'.alike, X.tail, State.WarmedH.trans X.warmed hW', X.limits, X.bytes, X.same.trans (hsame.setVm s.vm)⟩,
      ⟨rfl, g, mk, s₂, L, E, ce, rfl, rfl, hx, hce, hcv, hcl, rfl, hL, rfl, rfl⟩, ?_⟩
    show Steps p.tables e below _ (((({ U with heap := s₂.heap, slotsUsed := s₂.slotsUsed } : State).setVm s₂.vm).setTop g).pushFrame (.throwing a0))
    rw [← hs₂]
    exact hsteps
def vz_Run (a0 : Addr) (p : Program) (l : Launch) (e : Env) (R : Room) (s : State) (m : MethodId) (args : Array Value) (below : List Frame) (meth : Method) (c : Code) (H : Heap) (locs : List Loc) (cells slots mc0 ms0 mc ms : Nat) (g : JFrame) (rest : List Value) (Qa : State → Outcome → State → Prop) (XC : String → State → State → Prop) (free : Addr → Prop) : Prop :=
  ∀ T : State, T.heap = H → Stand p l e R s m args below meth c T locs cells slots →
    (∃ (v : Option Value) (st₀ t T' : State) (L : List Loc), st₀.heap = H ∧ Stand p l e R s m args below meth c T' (locs ++ L) (cells + mc0) (slots + ms0) ∧ (∀ q ∈ L, free q.base) ∧ T'.heap = t.heap ∧ T'.vm = t.vm ∧ Qa st₀ (.returned v) t ∧
      Goes p e below T g T' { g with pc := g.pc + 3, stack := v.toList ++ rest }) ∨
    (∃ (st₀ t T' : State) (L : List Loc) (E : String) (ce : Cell), st₀.heap = H ∧ Stand p l e R s m args below meth c T' (locs ++ L) (cells + mc) (slots + ms) ∧ (∀ z ∈ L, free z.base) ∧ T'.heap = t.heap ∧ T'.vm = t.vm ∧ XC E st₀ t ∧ t.heap[a0]? = some ce ∧ ce.vm = .none ∧ s.vm.findClass E = some ce.cls ∧
      Steps p.tables e below (T.setTop g) ((T'.setTop { g with stack := rest }).pushFrame (.throwing a0)))
theorem vz_runV {a0 : Addr} {p : Program} {l : Launch} {e : Env} {R : Room} {s : State} {m : MethodId} {args : Array Value} {below : List Frame} {meth : Method} {c : Code} {H : Heap} {locs : List Loc} {cells slots : Nat} {y : MethodName} {bytes cc : ByteArray} {maxL nL mc0 ms0 mc ms n index : Nat} {ret : Option FieldType} {ws : List Cond} {rm : Room} {Pc : Array Value → State → Prop} {Qc : Array Value → State → Outcome → State → Prop} {XC : String → State → State → Prop} {free : Addr → Prop} {Ts : List Cond} {own C : String} {b : Addr} {As rest : List Value} {g : JFrame} (S : CallFix p m c cc nL s args Ts own) (hM : vz_Met a0 l y ws rm Pc Qc XC mc0 ms0 mc ms free) (cw : CallW R s args own C index y bytes maxL ret ws rm mc ms n) (hp : PreV s H C b Pc As)
    (hg : g.method = m) (hn : As.length = n) (hsize : g.locals.size = nL) (hstack : g.stack = As.reverse ++ .ref b :: rest) (hW : 2 * g.monitorRoom + (rest.map fun v => v.category).sum ≤ 8) (hdg : decode cc g.pc = .ok (.invokevirtual index, 3)) (hf : cells + mc ≤ R.cells ∧ slots + ms ≤ R.slots) :
    vz_Run a0 p l e R s m args below meth c H locs cells slots mc0 ms0 mc ms g rest (Qc (Value.ref b :: As).toArray) XC free := by
  have hK : vx_Back l R p e below s args y 3 8 (PreOf R mc ms Pc) (PostOf Qc mc0 ms0 free) (zy_Post a0 XC mc ms free) := by
    obtain ⟨hrc, hrs, hfr, hlo, hws, hcw, -, hini, -⟩ := cw.1
    exact vz_back (bytes := bytes) (maxL := maxL) (ret := ret) hM hp.1 hrc hrs hfr hlo hws hcw (fun a' U hW => word_at hW (Or.inl (by first | rfl | simp [Cond.onTables, Cond.keeps, Cond.steady])) hini)
  obtain ⟨⟨-, -, -, -, -, -, hcode, -, hy, hlen, hl⟩, hin, hse⟩ := cw
  obtain ⟨hx, hb, hml, ho, -⟩ := S
  obtain ⟨-, ⟨cellB, hcB, hoB, hclB⟩, hPc⟩ := hp
  intro T hT X
  rcases vx_callV X hx (C := C) (bytes := bytes) (maxL := maxL) (ret := ret) ho hl hin hse hcode hy hK (by rw [hT]; exact hcB) hoB hclB hg (hsize.trans hml.symm) (argsL := As) (rest := rest) (fun sig h => hn.trans (hlen sig h)) hstack hW (by rw [hb]; exact hdg)
    (fun vm₁ hW₁ => ⟨hf.1, hf.2, hPc (T.setVm vm₁) hT hW₁⟩) with ⟨v, vm₁, ⟨U', l2, c2, s2⟩, hW₁, X', ⟨g', mk, t, L, e1, e2, hq, h1, hL, h2, h3⟩, st⟩ | ⟨q, vm₁, ⟨U', l2, c2, s2⟩, hW₁, X', ⟨rfl, g', mk, t, L, E, ce, e1, e2, hq, hce, hcv, hcl, h1, hL, h2, h3⟩, st⟩
  · dsimp only [Pt.U, Pt.locs, Pt.cells, Pt.slots] at X' e1 e2 h1 h2 h3 st
    subst h1; subst h2; subst h3
    exact Or.inl ⟨v, (T.setVm vm₁).calling g' mk (Value.ref b :: As).toArray, t, U', L, hT, X', hL, e1, e2, hq, st⟩
  · dsimp only [Pt.U, Pt.locs, Pt.cells, Pt.slots] at X' e1 e2 h1 h2 h3 st hcl
    subst h1; subst h2; subst h3
    exact Or.inr ⟨(T.setVm vm₁).calling g' mk (Value.ref b :: As).toArray, t, U', L, E, ce, hT, X', hL, e1, e2, hq, hce, hcv, vx_cls hW₁ hcl, st⟩
theorem vz_calli {a0 : Addr} {p : Program} {l : Launch} {e : Env} {R : Room} {s : State} {m : MethodId} {args : Array Value} {below : List Frame} {meth : Method} {c : Code} {H : Heap} {locs : List Loc} {cells slots : Nat} {Q : State → Prop} {mc0 ms0 mc ms : Nat} {free : Addr → Prop} {A0 A1 : Nat → Prop} {H0 : Heap} {a : Array Value} {pc : Nat} {ls : Array Slot} {st0 rest : List Value} {S SX : Type} {post : Int32 → S → Prop} {px : SX → Prop} {B : S → State → Prop} {BX : String → SX → State → Prop} {AX : Nat → Prop} (hr : vz_Run a0 p l e R s m args below meth c H locs cells slots mc0 ms0 mc ms (F0 m pc ls st0) rest (va_Qi post B A1 a) (vx_X px BX AX) free) (hS : va_S A0 H0 H locs) (hA : ∀ q, q < H.size → A1 q → A0 q) (hf : ∀ q, free q → A0 q) (hAX : ∀ q, q < H.size → AX q → A0 q)
    (kx : ∀ (E : String) (ce : Cell) (u : SX) (t : State) (H1 : Heap) (locs1 : List Loc), t.heap = H1 → s.vm.Alike t.vm → px u → BX E u t → H.size ≤ H1.size → (∀ q : Nat, q < H.size → ¬ AX q → H1[q]? = H[q]?) → va_S A0 H0 H1 locs1 → H1[a0]? = some ce → ce.vm = .none → s.vm.findClass E = some ce.cls → vx_W p l e R s m args below meth c H1 locs1 (cells + mc) (slots + ms) Q (F0 m pc ls rest) a0)
    (kk : ∀ (r : Int32) (u : S) (t : State) (H1 : Heap) (locs1 : List Loc), t.heap = H1 → s.vm.Alike t.vm → post r u → B u t → H.size ≤ H1.size → (∀ q : Nat, q < H.size → ¬ A1 q → H1[q]? = H[q]?) → va_S A0 H0 H1 locs1 → W p l e R s m args below meth c H1 locs1 (cells + mc0) (slots + ms0) Q (F0 m (pc + 3) ls (.int r :: rest))) : W p l e R s m args below meth c H locs cells slots Q (F0 m pc ls st0) := by
  intro T hT X
  rcases hr T hT X with ⟨v, st₀, t, T', L, h0, X', hL, e1, e2, ⟨⟨r, u, hv, hp, hb⟩, hF⟩, st⟩ | ⟨st₀, t, T', L, E, ce, h0, X', hL, e1, e2, ⟨u, hp, hb, hF⟩, hce, hcv, hcl, st⟩
  · cases hv
    obtain ⟨k1, k2, k3⟩ := vx_keep h0 e1 hS hA hf hL hF
    obtain ⟨t2, a1, b1⟩ := kk r u t T'.heap (locs ++ L) e1.symm (by rw [← e2]; exact X'.warmed.alike) hp hb k1 k2 k3 T' rfl X'
    exact ⟨t2, st t2 a1, b1⟩
  · obtain ⟨k1, k2, k3⟩ := vx_keep h0 e1 hS hAX hf hL hF
    obtain ⟨t2, a1, b1⟩ := kx E ce u t T'.heap (locs ++ L) e1.symm (by rw [← e2]; exact X'.warmed.alike) hp hb k1 k2 k3 (by rw [e1]; exact hce) hcv hcl T' rfl X'
    exact ⟨t2, st.trans a1, b1⟩
theorem vz_callv {a0 : Addr} {p : Program} {l : Launch} {e : Env} {R : Room} {s : State} {m : MethodId} {args : Array Value} {below : List Frame} {meth : Method} {c : Code} {H : Heap} {locs : List Loc} {cells slots : Nat} {Q : State → Prop} {mc0 ms0 mc ms : Nat} {free : Addr → Prop} {A0 A1 : Nat → Prop} {H0 : Heap} {a : Array Value} {pc : Nat} {ls : Array Slot} {st0 rest : List Value} {S SX : Type} {post : S → Prop} {px : SX → Prop} {B : S → State → Prop} {BX : String → SX → State → Prop} {AX : Nat → Prop} (hr : vz_Run a0 p l e R s m args below meth c H locs cells slots mc0 ms0 mc ms (F0 m pc ls st0) rest (va_Qv post B A1 a) (vx_X px BX AX) free) (hS : va_S A0 H0 H locs) (hA : ∀ q, q < H.size → A1 q → A0 q) (hf : ∀ q, free q → A0 q) (hAX : ∀ q, q < H.size → AX q → A0 q)
    (kx : ∀ (E : String) (ce : Cell) (u : SX) (t : State) (H1 : Heap) (locs1 : List Loc), t.heap = H1 → s.vm.Alike t.vm → px u → BX E u t → H.size ≤ H1.size → (∀ q : Nat, q < H.size → ¬ AX q → H1[q]? = H[q]?) → va_S A0 H0 H1 locs1 → H1[a0]? = some ce → ce.vm = .none → s.vm.findClass E = some ce.cls → vx_W p l e R s m args below meth c H1 locs1 (cells + mc) (slots + ms) Q (F0 m pc ls rest) a0)
    (kk : ∀ (u : S) (t : State) (H1 : Heap) (locs1 : List Loc), t.heap = H1 → s.vm.Alike t.vm → post u → B u t → H.size ≤ H1.size → (∀ q : Nat, q < H.size → ¬ A1 q → H1[q]? = H[q]?) → va_S A0 H0 H1 locs1 → W p l e R s m args below meth c H1 locs1 (cells + mc0) (slots + ms0) Q (F0 m (pc + 3) ls (rest))) : W p l e R s m args below meth c H locs cells slots Q (F0 m pc ls st0) := by
  intro T hT X
  rcases hr T hT X with ⟨v, st₀, t, T', L, h0, X', hL, e1, e2, ⟨⟨u, hv, hp, hb⟩, hF⟩, st⟩ | ⟨st₀, t, T', L, E, ce, h0, X', hL, e1, e2, ⟨u, hp, hb, hF⟩, hce, hcv, hcl, st⟩
  · cases hv
    obtain ⟨k1, k2, k3⟩ := vx_keep h0 e1 hS hA hf hL hF
    obtain ⟨t2, a1, b1⟩ := kk u t T'.heap (locs ++ L) e1.symm (by rw [← e2]; exact X'.warmed.alike) hp hb k1 k2 k3 T' rfl X'
    exact ⟨t2, st t2 a1, b1⟩
  · obtain ⟨k1, k2, k3⟩ := vx_keep h0 e1 hS hAX hf hL hF
    obtain ⟨t2, a1, b1⟩ := kx E ce u t T'.heap (locs ++ L) e1.symm (by rw [← e2]; exact X'.warmed.alike) hp hb k1 k2 k3 (by rw [e1]; exact hce) hcv hcl T' rfl X'
    exact ⟨t2, st.trans a1, b1⟩
theorem vz_ofW {a0 : Addr} {l : Launch} {y : MethodName} {ws ws' : List Cond} {rm : Room} {Pc : Array Value → State → Prop} {Qc : Array Value → State → Outcome → State → Prop} {XC : String → State → State → Prop} {mc0 ms0 mc ms : Nat} {free : Addr → Prop} {cc : ByteArray} {maxL : Nat} {ret : Option FieldType}
    (hy : plainName y.cls = true) (hw : ws = Cond.code y cc maxL ret :: ws')
    (body : ∀ p e s m args below meth c s₁, BodyLoose p l y (headSpec ws rm) cc maxL ret e s m args below meth c s₁ → c.maxLocals = maxL → (∀ x ∈ c.exceptionTable.toList, False) → Pc args s →
      W p l e (headSpec ws rm).room s m args below meth c s.heap [] 0 0 (vz_MQ a0 below Qc XC args s mc0 ms0 mc ms free) (entryFrame m args maxL)) : vz_Met a0 l y ws rm Pc Qc XC mc0 ms0 mc ms free := by
  refine MetFree.of_bodyS (code := cc) (maxLocals := maxL) (ret := ret) hy ?_ ?_
  · intro args s m h hn
    obtain ⟨meth, c, h1, h2, h3, h4, h5, h6, -, -⟩ := Cond.code_spec hn (atoms_spec (ws := ws) h _ (by rw [hw]; exact List.mem_cons_self))
    exact ⟨meth, c, h1, h2, h3, h4, h5, h6⟩
  · intro p e s m args below meth c s₁ B hml hP _
    have hh0 : s₁.heap = s.heap := by rw [B.state]; rfl
    have ht : ∀ x ∈ c.exceptionTable.toList, False := by
      obtain ⟨meth9, c9, h1, h2, -, -, -, -, h7, -⟩ := Cond.code_spec B.named (atoms_spec (ws := ws) B.pre _ (by rw [hw]; exact List.mem_cons_self))
      cases Option.some.inj (h1.symm.trans B.method)
      cases Option.some.inj (h2.symm.trans (Stand.of_body B).code)
      intro x hx
      rw [Array.isEmpty_iff.mp h7] at hx
      cases hx
    obtain ⟨t, a1, o, b1, b2, b3⟩ := body p e s m args below meth c s₁ B hml ht hP s₁ hh0 (Stand.of_body B)
    exact ⟨t, o, a1, b1, b2, b3⟩

end
section
theorem wi_743 : Cond.fieldLink RJ0 1053 "jdk/internal/util/Preconditions" "SIOOBE_FORMATTER" "Ljava/util/function/BiFunction;" ∈ zw := zw_in (List.mem_of_getElem? (i := 743) (by decide +kernel)) (by decide +kernel)
theorem wi_1737 : Cond.code yJ3_checkIndex_8e157 cJ3_checkIndex_8e157 3 (some .int) ∈ zw := zw_in (List.mem_of_getElem? (i := 1737) (by decide +kernel)) (by decide +kernel)
theorem wi_1735 : Cond.methodLink RJ0 1059 yJ3_checkIndex_8e157 ∈ zw := zw_in (List.mem_of_getElem? (i := 1735) (by decide +kernel)) (by decide +kernel)
theorem wi_1736 : Cond.static yJ3_checkIndex_8e157 ∈ zw := zw_in (List.mem_of_getElem? (i := 1736) (by decide +kernel)) (by decide +kernel)
theorem wi_152 : Cond.initialized RJ3 ∈ zw := zw_in (List.mem_of_getElem? (i := 152) (by decide +kernel)) (by decide +kernel)
theorem wi_1734 : Cond.code yJ0_checkIndex_df160 cJ0_checkIndex_df160 2 none ∈ zw := zw_in (List.mem_of_getElem? (i := 1734) (by decide +kernel)) (by decide +kernel)
theorem wi_1732 : Cond.methodLink RJ1 9 yJ0_checkIndex_df160 ∈ zw := zw_in (List.mem_of_getElem? (i := 1732) (by decide +kernel)) (by decide +kernel)
theorem wi_1733 : Cond.static yJ0_checkIndex_df160 ∈ zw := zw_in (List.mem_of_getElem? (i := 1733) (by decide +kernel)) (by decide +kernel)
theorem wi_1731 : Cond.code yJ1_charAt_3b067 cJ1_charAt_3b067 2 (some .char) ∈ zw := zw_in (List.mem_of_getElem? (i := 1731) (by decide +kernel)) (by decide +kernel)
theorem wi_1729 : Cond.methodLink RJ0 495 yJ1_charAt_3b067 ∈ zw := zw_in (List.mem_of_getElem? (i := 1729) (by decide +kernel)) (by decide +kernel)
theorem wi_1730 : Cond.static yJ1_charAt_3b067 ∈ zw := zw_in (List.mem_of_getElem? (i := 1730) (by decide +kernel)) (by decide +kernel)
theorem wi_1724 : Cond.methodLink RX14 117 yJ0_length_8abf5 ∈ zw := zw_in (List.mem_of_getElem? (i := 1724) (by decide +kernel)) (by decide +kernel)
theorem wi_1728 : Cond.code yJ0_charAt_5068e cJ0_charAt_5068e 2 (some .char) ∈ zw := zw_in (List.mem_of_getElem? (i := 1728) (by decide +kernel)) (by decide +kernel)
theorem wi_1725 : Cond.methodLink RX14 122 yJ0_charAt_5068e ∈ zw := zw_in (List.mem_of_getElem? (i := 1725) (by decide +kernel)) (by decide +kernel)
theorem wi_1726 : Cond.instanceMethod yJ0_charAt_5068e ∈ zw := zw_in (List.mem_of_getElem? (i := 1726) (by decide +kernel)) (by decide +kernel)
theorem wi_1727 : Cond.selects RJ0 yJ0_charAt_5068e yJ0_charAt_5068e ∈ zw := zw_in (List.mem_of_getElem? (i := 1727) (by decide +kernel)) (by decide +kernel)
theorem dJ0_charAt_5068e_0 : decode cJ0_charAt_5068e 0 = .ok (.aload_n 0, 1) := by decide +kernel
theorem dJ0_charAt_5068e_1 : decode cJ0_charAt_5068e 1 = .ok (.invokevirtual 492, 3) := by decide +kernel
theorem dJ0_charAt_5068e_4 : decode cJ0_charAt_5068e 4 = .ok (.ifCond .eq 12, 3) := by decide +kernel
theorem dJ0_charAt_5068e_7 : decode cJ0_charAt_5068e 7 = .ok (.aload_n 0, 1) := by decide +kernel
theorem dJ0_charAt_5068e_8 : decode cJ0_charAt_5068e 8 = .ok (.getfield 9, 3) := by decide +kernel
theorem dJ0_charAt_5068e_11 : decode cJ0_charAt_5068e 11 = .ok (.iload_n 1, 1) := by decide +kernel
theorem dJ0_charAt_5068e_12 : decode cJ0_charAt_5068e 12 = .ok (.invokestatic 495, 3) := by decide +kernel
theorem dJ0_charAt_5068e_15 : decode cJ0_charAt_5068e 15 = .ok (.ireturn, 1) := by decide +kernel
theorem dJ0_checkIndex_df160_0 : decode cJ0_checkIndex_df160 0 = .ok (.iload_n 0, 1) := by decide +kernel
theorem dJ0_checkIndex_df160_1 : decode cJ0_checkIndex_df160 1 = .ok (.iload_n 1, 1) := by decide +kernel
theorem dJ0_checkIndex_df160_2 : decode cJ0_checkIndex_df160 2 = .ok (.getstatic 1053, 3) := by decide +kernel
theorem dJ0_checkIndex_df160_5 : decode cJ0_checkIndex_df160 5 = .ok (.invokestatic 1059, 3) := by decide +kernel
theorem dJ0_checkIndex_df160_8 : decode cJ0_checkIndex_df160 8 = .ok (.pop, 1) := by decide +kernel
theorem dJ0_checkIndex_df160_9 : decode cJ0_checkIndex_df160 9 = .ok (.return_, 1) := by decide +kernel
theorem dJ1_charAt_3b067_0 : decode cJ1_charAt_3b067 0 = .ok (.iload_n 1, 1) := by decide +kernel
theorem dJ1_charAt_3b067_1 : decode cJ1_charAt_3b067 1 = .ok (.aload_n 0, 1) := by decide +kernel
theorem dJ1_charAt_3b067_2 : decode cJ1_charAt_3b067 2 = .ok (.arraylength, 1) := by decide +kernel
theorem dJ1_charAt_3b067_3 : decode cJ1_charAt_3b067 3 = .ok (.invokestatic 9, 3) := by decide +kernel
theorem dJ1_charAt_3b067_6 : decode cJ1_charAt_3b067 6 = .ok (.aload_n 0, 1) := by decide +kernel
theorem dJ1_charAt_3b067_7 : decode cJ1_charAt_3b067 7 = .ok (.iload_n 1, 1) := by decide +kernel
theorem dJ1_charAt_3b067_8 : decode cJ1_charAt_3b067 8 = .ok (.baload, 1) := by decide +kernel
theorem dJ1_charAt_3b067_9 : decode cJ1_charAt_3b067 9 = .ok (.sipush 255, 3) := by decide +kernel
theorem dJ1_charAt_3b067_12 : decode cJ1_charAt_3b067 12 = .ok (.iand, 1) := by decide +kernel
theorem dJ1_charAt_3b067_13 : decode cJ1_charAt_3b067 13 = .ok (.i2c, 1) := by decide +kernel
theorem dJ1_charAt_3b067_14 : decode cJ1_charAt_3b067 14 = .ok (.ireturn, 1) := by decide +kernel
theorem dJ3_checkIndex_8e157_0 : decode cJ3_checkIndex_8e157 0 = .ok (.iload_n 0, 1) := by decide +kernel
theorem dJ3_checkIndex_8e157_1 : decode cJ3_checkIndex_8e157 1 = .ok (.ifCond .lt 8, 3) := by decide +kernel
theorem dJ3_checkIndex_8e157_4 : decode cJ3_checkIndex_8e157 4 = .ok (.iload_n 0, 1) := by decide +kernel
theorem dJ3_checkIndex_8e157_5 : decode cJ3_checkIndex_8e157 5 = .ok (.iload_n 1, 1) := by decide +kernel
theorem dJ3_checkIndex_8e157_6 : decode cJ3_checkIndex_8e157 6 = .ok (.if_icmp .lt 10, 3) := by decide +kernel
theorem dJ3_checkIndex_8e157_16 : decode cJ3_checkIndex_8e157 16 = .ok (.iload_n 0, 1) := by decide +kernel
theorem dJ3_checkIndex_8e157_17 : decode cJ3_checkIndex_8e157 17 = .ok (.ireturn, 1) := by decide +kernel
theorem dX14_lettersOf_0 : decode cX14_lettersOf 0 = .ok (.lconst 0, 1) := by decide +kernel
theorem dX14_lettersOf_1 : decode cX14_lettersOf 1 = .ok (.lstore_n 1, 1) := by decide +kernel
theorem dX14_lettersOf_2 : decode cX14_lettersOf 2 = .ok (.iconst 0, 1) := by decide +kernel
theorem dX14_lettersOf_3 : decode cX14_lettersOf 3 = .ok (.istore_n 3, 1) := by decide +kernel
theorem dX14_lettersOf_4 : decode cX14_lettersOf 4 = .ok (.iload_n 3, 1) := by decide +kernel
theorem dX14_lettersOf_5 : decode cX14_lettersOf 5 = .ok (.aload_n 0, 1) := by decide +kernel
theorem dX14_lettersOf_6 : decode cX14_lettersOf 6 = .ok (.invokevirtual 117, 3) := by decide +kernel
theorem dX14_lettersOf_9 : decode cX14_lettersOf 9 = .ok (.if_icmp .ge 26, 3) := by decide +kernel
theorem dX14_lettersOf_12 : decode cX14_lettersOf 12 = .ok (.lload_n 1, 1) := by decide +kernel
theorem dX14_lettersOf_13 : decode cX14_lettersOf 13 = .ok (.bipush 6, 2) := by decide +kernel
theorem dX14_lettersOf_15 : decode cX14_lettersOf 15 = .ok (.lshl, 1) := by decide +kernel
theorem dX14_lettersOf_16 : decode cX14_lettersOf 16 = .ok (.aload_n 0, 1) := by decide +kernel
theorem dX14_lettersOf_17 : decode cX14_lettersOf 17 = .ok (.iload_n 3, 1) := by decide +kernel
theorem dX14_lettersOf_18 : decode cX14_lettersOf 18 = .ok (.invokevirtual 122, 3) := by decide +kernel
theorem dX14_lettersOf_21 : decode cX14_lettersOf 21 = .ok (.bipush 65, 2) := by decide +kernel
theorem dX14_lettersOf_23 : decode cX14_lettersOf 23 = .ok (.isub, 1) := by decide +kernel
theorem dX14_lettersOf_24 : decode cX14_lettersOf 24 = .ok (.iconst 1, 1) := by decide +kernel
theorem dX14_lettersOf_25 : decode cX14_lettersOf 25 = .ok (.iadd, 1) := by decide +kernel
theorem dX14_lettersOf_26 : decode cX14_lettersOf 26 = .ok (.i2l, 1) := by decide +kernel
theorem dX14_lettersOf_27 : decode cX14_lettersOf 27 = .ok (.lor, 1) := by decide +kernel
theorem dX14_lettersOf_28 : decode cX14_lettersOf 28 = .ok (.lstore_n 1, 1) := by decide +kernel
theorem dX14_lettersOf_29 : decode cX14_lettersOf 29 = .ok (.iinc 3 1, 3) := by decide +kernel
theorem dX14_lettersOf_32 : decode cX14_lettersOf 32 = .ok (.goto (-28), 3) := by decide +kernel
theorem dX14_lettersOf_35 : decode cX14_lettersOf 35 = .ok (.lload_n 1, 1) := by decide +kernel
theorem dX14_lettersOf_36 : decode cX14_lettersOf 36 = .ok (.lreturn, 1) := by decide +kernel
/-! the two ways in which a word is kept as a number -/
def rx_w (g : Nat → Int32) (p : Nat) : Nat → Int64
  | 0 => 0
  | k + 1 => (rx_w g p k <<< (Int32.toInt64 6 &&& 63)) ||| Int32.toInt64 ((g (p + k) &&& 255) - 65 + 1)
def nb_w (B : Nat) (d : Nat → Nat) : Nat → Nat
  | 0 => 0
  | k + 1 => nb_w B d k * B + d k
theorem nb_lt {B : Nat} {d : Nat → Nat} (hB : 1 ≤ B) : ∀ k, (∀ j, j < k → d j < B) → nb_w B d k < B ^ k
  | 0, _ => by show 0 < 1; decide
  | k + 1, h => by
    have ih := nb_lt hB k (fun j hj => h j (by omega))
    have hd := h k (by omega)
    show nb_w B d k * B + d k < B ^ (k + 1)
    rw [Nat.pow_succ]
    have : (nb_w B d k + 1) * B ≤ B ^ k * B := Nat.mul_le_mul_right B ih
    rw [Nat.add_mul, Nat.one_mul] at this
    omega
theorem nb_inj {B : Nat} : ∀ {k k2 : Nat} {d d2 : Nat → Nat}, (∀ j, j < k → 1 ≤ d j ∧ d j < B) → (∀ j, j < k2 → 1 ≤ d2 j ∧ d2 j < B) → nb_w B d k = nb_w B d2 k2 → k = k2 ∧ ∀ j, j < k → d j = d2 j
  | 0, 0, _, _, _, _, _ => ⟨rfl, fun j hj => by omega⟩
  | 0, k2 + 1, d, d2, _, h2, e => by
    have := (h2 k2 (by omega)).1
    have e : 0 = nb_w B d2 k2 * B + d2 k2 := e
    omega
  | k + 1, 0, d, d2, h, _, e => by
    have := (h k (by omega)).1
    have e : nb_w B d k * B + d k = 0 := e
    omega
  | k + 1, k2 + 1, d, d2, h, h2, e => by
    have a := h k (by omega)
    have b := h2 k2 (by omega)
    have e : nb_w B d k * B + d k = nb_w B d2 k2 * B + d2 k2 := e
    have e1 : d k = d2 k2 := by
      have := congrArg (· % B) e
      simp only [Nat.mul_add_mod_self_right, Nat.mod_eq_of_lt a.2, Nat.mod_eq_of_lt b.2] at this
      exact this
    have e2 : nb_w B d k = nb_w B d2 k2 := Nat.eq_of_mul_eq_mul_right (by omega : 0 < B) (by omega)
    obtain ⟨ek, ej⟩ := nb_inj (fun j hj => h j (by omega)) (fun j hj => h2 j (by omega)) e2
    subst ek
    exact ⟨rfl, fun j hj => by
      by_cases u : j = k
      · rw [u]; exact e1
      · exact ej j (by omega)⟩
theorem nb_cg {B : Nat} {d d2 : Nat → Nat} : ∀ k, (∀ j, j < k → d j = d2 j) → nb_w B d k = nb_w B d2 k
  | 0, _ => rfl
  | k + 1, h => by
    show nb_w B d k * B + d k = nb_w B d2 k * B + d2 k
    rw [nb_cg k (fun j hj => h j (by omega)), h k (by omega)]
theorem i64_or {a c s : Nat} {y : Int64} (hy : (y.toBitVec.smod 64).toNat = s) (hs : s < 64) (ha : a * 2 ^ s + 2 ^ s ≤ 2 ^ 64) (hc : c < 2 ^ s) : (Int64.ofNat a <<< y) ||| Int64.ofNat c = Int64.ofNat (a * 2 ^ s + c) := by
  have h2 : 1 ≤ 2 ^ s := Nat.one_le_two_pow
  have ha' : a < 2 ^ 64 := by
    have : a * 1 ≤ a * 2 ^ s := Nat.mul_le_mul_left a h2
    omega
  apply Int64.toBitVec_inj.mp
  apply BitVec.eq_of_toNat_eq
  rw [Int64.toBitVec_or, Int64.toBitVec_shiftLeft, Int64.toBitVec_ofNat', Int64.toBitVec_ofNat', Int64.toBitVec_ofNat', BitVec.toNat_or, BitVec.shiftLeft_eq', BitVec.toNat_shiftLeft, BitVec.toNat_ofNat, BitVec.toNat_ofNat, BitVec.toNat_ofNat, hy, Nat.mod_eq_of_lt ha', Nat.mod_eq_of_lt (show c < 2 ^ 64 by omega), Nat.mod_eq_of_lt (show a * 2 ^ s + c < 2 ^ 64 by omega), Nat.shiftLeft_eq, Nat.mod_eq_of_lt (show a * 2 ^ s < 2 ^ 64 by omega), ← Nat.shiftLeft_eq, Nat.shiftLeft_add_eq_or_of_lt hc]
theorem i64_inj {a b : Nat} (ha : a < 2 ^ 64) (hb : b < 2 ^ 64) (h : Int64.ofNat a = Int64.ofNat b) : a = b := by
  have h := congrArg (fun x => x.toBitVec.toNat) h
  simp only [Int64.toBitVec_ofNat', BitVec.toNat_ofNat] at h
  rw [Nat.mod_eq_of_lt ha, Nat.mod_eq_of_lt hb] at h
  exact h
/-- a letter -/
def rx_lt (c : Int) : Prop := 97 ≤ c ∧ c ≤ 122 ∨ 65 ≤ c ∧ c ≤ 90
theorem rx_c8 : ∀ k : Fin 128, Int32.toInt64 (Int32.ofInt (k.val : Int)) = Int64.ofNat k.val := by decide +kernel
theorem rx_c6 : ∀ k : Fin 64, Int32.toInt64 ((Int32.ofInt ((k.val : Int) + 64) &&& 255) - 65 + 1) = Int64.ofNat k.val := by decide +kernel
theorem rx_8 {x : Int32} (h : rx_lt x.toInt) : Int32.toInt64 x = Int64.ofNat x.toInt.toNat := by
  unfold rx_lt at h
  have e := rx_c8 ⟨x.toInt.toNat, by omega⟩
  have e : Int32.toInt64 (Int32.ofInt ((x.toInt.toNat : Nat) : Int)) = Int64.ofNat x.toInt.toNat := e
  rw [Int.toNat_of_nonneg (by omega), Int32.ofInt_toInt] at e
  exact e
theorem rx_6 {x : Int32} (h : rx_lt x.toInt) : Int32.toInt64 ((x &&& 255) - 65 + 1) = Int64.ofNat (x.toInt.toNat - 64) := by
  unfold rx_lt at h
  have e := rx_c6 ⟨x.toInt.toNat - 64, by omega⟩
  have e : Int32.toInt64 ((Int32.ofInt (((x.toInt.toNat - 64 : Nat) : Int) + 64) &&& 255) - 65 + 1) = Int64.ofNat (x.toInt.toNat - 64) := e
  rw [show ((x.toInt.toNat - 64 : Nat) : Int) + 64 = x.toInt by omega, Int32.ofInt_toInt] at e
  exact e
def rx_d8 (g : Nat → Int32) (p : Nat) (j : Nat) : Nat := (g (p + j)).toInt.toNat
def rx_d6 (g : Nat → Int32) (p : Nat) (j : Nat) : Nat := (g (p + j)).toInt.toNat - 64
theorem rx_p8 {k : Nat} (h : k ≤ 8) : (256 : Nat) ^ k ≤ 2 ^ 64 := by
  have : (256 : Nat) ^ k ≤ 256 ^ 8 := Nat.pow_le_pow_right (by decide) h
  exact Nat.le_trans this (by decide)
theorem rx_p6 {k : Nat} (h : k ≤ 8) : (64 : Nat) ^ k ≤ 2 ^ 64 := by
  have : (64 : Nat) ^ k ≤ 64 ^ 8 := Nat.pow_le_pow_right (by decide) h
  exact Nat.le_trans this (by decide)
set_option maxRecDepth 10000 in
theorem lx_w_nat {g : Nat → Int32} {p : Nat} : ∀ k, k ≤ 8 → (∀ j, j < k → rx_lt (g (p + j)).toInt) → lx_w g p k = Int64.ofNat (nb_w 256 (rx_d8 g p) k)
  | 0, _, _ => rfl
  | k + 1, hk, h => by
    have hl := h k (by omega)
    have lt := nb_lt (B := 256) (d := rx_d8 g p) (by decide) k (fun j hj => by have := h j (by omega); unfold rx_lt at this; unfold rx_d8; omega)
    have p8 := rx_p8 hk
    rw [Nat.pow_succ] at p8
    show (lx_w g p k <<< (Int32.toInt64 8 &&& 63)) ||| Int32.toInt64 (g (p + k)) = _
    rw [lx_w_nat k (by omega) (fun j hj => h j (by omega)), rx_8 hl]
    exact i64_or (s := 8) (by decide) (by decide) (by show nb_w 256 (rx_d8 g p) k * 256 + 256 ≤ _; have : (nb_w 256 (rx_d8 g p) k + 1) * 256 ≤ 256 ^ k * 256 := Nat.mul_le_mul_right _ lt; rw [Nat.add_mul, Nat.one_mul] at this; omega) (by show (g (p + k)).toInt.toNat < 256; unfold rx_lt at hl; omega)
set_option maxRecDepth 10000 in
theorem rx_w_nat {g : Nat → Int32} {p : Nat} : ∀ k, k ≤ 8 → (∀ j, j < k → rx_lt (g (p + j)).toInt) → rx_w g p k = Int64.ofNat (nb_w 64 (rx_d6 g p) k)
  | 0, _, _ => rfl
  | k + 1, hk, h => by
    have hl := h k (by omega)
    have lt := nb_lt (B := 64) (d := rx_d6 g p) (by decide) k (fun j hj => by have := h j (by omega); unfold rx_lt at this; unfold rx_d6; omega)
    have p6 := rx_p6 hk
    rw [Nat.pow_succ] at p6
    show (rx_w g p k <<< (Int32.toInt64 6 &&& 63)) ||| Int32.toInt64 ((g (p + k) &&& 255) - 65 + 1) = _
    rw [rx_w_nat k (by omega) (fun j hj => h j (by omega)), rx_6 hl]
    exact i64_or (s := 6) (by decide) (by decide) (by show nb_w 64 (rx_d6 g p) k * 64 + 64 ≤ _; have : (nb_w 64 (rx_d6 g p) k + 1) * 64 ≤ 64 ^ k * 64 := Nat.mul_le_mul_right _ lt; rw [Nat.add_mul, Nat.one_mul] at this; omega) (by show (g (p + k)).toInt.toNat - 64 < 64; unfold rx_lt at hl; omega)
/-- one word, kept in both ways -/
def sp_cv (w v : Int64) : Prop := ∃ (g : Nat → Int32) (p k : Nat), k ≤ 8 ∧ (∀ j, j < k → rx_lt (g (p + j)).toInt) ∧ w = lx_w g p k ∧ v = rx_w g p k
theorem sp_cv_inj {w v w2 v2 : Int64} (h : sp_cv w v) (h2 : sp_cv w2 v2) : w = w2 ↔ v = v2 := by
  obtain ⟨g, p, k, hk, hl, e1, e2⟩ := h
  obtain ⟨g', p', k', hk', hl', e1', e2'⟩ := h2
  have b8 : ∀ j, j < k → 1 ≤ rx_d8 g p j ∧ rx_d8 g p j < 256 := fun j hj => by have := hl j hj; unfold rx_lt at this; unfold rx_d8; omega
  have b8' : ∀ j, j < k' → 1 ≤ rx_d8 g' p' j ∧ rx_d8 g' p' j < 256 := fun j hj => by have := hl' j hj; unfold rx_lt at this; unfold rx_d8; omega
  have b6 : ∀ j, j < k → 1 ≤ rx_d6 g p j ∧ rx_d6 g p j < 64 := fun j hj => by have := hl j hj; unfold rx_lt at this; unfold rx_d6; omega
  have b6' : ∀ j, j < k' → 1 ≤ rx_d6 g' p' j ∧ rx_d6 g' p' j < 64 := fun j hj => by have := hl' j hj; unfold rx_lt at this; unfold rx_d6; omega
  have l8 := Nat.lt_of_lt_of_le (nb_lt (by decide) k (fun j hj => (b8 j hj).2)) (rx_p8 hk)
  have l8' := Nat.lt_of_lt_of_le (nb_lt (by decide) k' (fun j hj => (b8' j hj).2)) (rx_p8 hk')
  have l6 := Nat.lt_of_lt_of_le (nb_lt (by decide) k (fun j hj => (b6 j hj).2)) (rx_p6 hk)
  have l6' := Nat.lt_of_lt_of_le (nb_lt (by decide) k' (fun j hj => (b6' j hj).2)) (rx_p6 hk')
  rw [e1, e2, e1', e2', lx_w_nat k hk hl, lx_w_nat k' hk' hl', rx_w_nat k hk hl, rx_w_nat k' hk' hl']
  constructor
  · intro e
    obtain ⟨ek, ej⟩ := nb_inj b8 b8' (i64_inj l8 l8' e)
    subst ek
    rw [nb_cg (d2 := rx_d6 g' p') k (fun j hj => by have := ej j hj; unfold rx_d8 at this; unfold rx_d6; omega)]
  · intro e
    obtain ⟨ek, ej⟩ := nb_inj b6 b6' (i64_inj l6 l6' e)
    subst ek
    rw [nb_cg (d2 := rx_d8 g' p') k (fun j hj => by have h1 := ej j hj; have h2 := b6 j hj; have h3 := b6' j hj; unfold rx_d6 at h1 h2 h3; unfold rx_d8; omega)]
theorem zchr (x : Int32) : narrow .char (.int (x.toUInt32 % 65536).toInt32) = .int (x.toUInt32 % 65536).toInt32 := by
  show Value.int _ = _
  congr 1
  have h : ((x.toUInt32 % 65536).toInt32.toUInt32 % 65536) = x.toUInt32 % 65536 := by
    rw [UInt32.toUInt32_toInt32]
    apply UInt32.toNat_inj.mp
    rw [UInt32.toNat_mod, UInt32.toNat_mod]
    exact Nat.mod_mod _ _
  exact congrArg UInt32.toInt32 h
/-- byte k of the program, or NONE behind its end -/
def zrb (gt : Nat → Int32) (len k : Int32) : Int32 := if k.toInt < len.toInt then gt (Int32.toNatClampNeg k) &&& 255 else -1
theorem rl_tab : ∀ i, i < 8 → ∀ k, k < zSl.getD i 0 → (((zSb.getD i []).getD k 0 &&& 255).toUInt32 % 65536).toInt32 = (zSb.getD i []).getD k 0 := by decide +kernel
/-- a constant's letters -/
def rl_w (i : Nat) : Nat → Int64
  | 0 => 0
  | k + 1 => (rl_w i k <<< (Int32.toInt64 6 &&& 63)) ||| Int32.toInt64 ((zSb.getD i []).getD k 0 - 65 + 1)
def rx_k (i : Nat) : Int64 := rl_w i (zSl.getD i 0)
theorem rl_1 {i : Nat} {k k2 : Int32} {b b2 : Int64} {x : Int32} (h : b = rl_w i (Int32.toNatClampNeg k)) (h0 : 0 ≤ k.toInt) (e : k2.toInt = k.toInt + 1) (ex : x = (zSb.getD i []).getD (Int32.toNatClampNeg k) 0) (hb : b2 = (b <<< (Int32.toInt64 6 &&& 63)) ||| Int32.toInt64 (x - 65 + 1)) : b2 = rl_w i (Int32.toNatClampNeg k2) := by
  rw [zn_1 e h0]
  show _ = (rl_w i _ <<< _) ||| _
  rw [← h, ← ex]; exact hb
/-- is it a kept word? -/
def rx_kp (w : Int64) (r : Int32) : Prop := (r.toInt = 1 ∧ ∃ c, 1 ≤ c ∧ c ≤ 7 ∧ w = rx_k c) ∨ (r.toInt = 0 ∧ ∀ c, 1 ≤ c → c ≤ 7 → w ≠ rx_k c)
theorem rx_kp_n {w : Int64} {r : Int32} (hr : r.toInt = 0) (h1 : w ≠ rx_k 1) (h2 : w ≠ rx_k 2) (h3 : w ≠ rx_k 3) (h4 : w ≠ rx_k 4) (h5 : w ≠ rx_k 5) (h6 : w ≠ rx_k 6) (h7 : w ≠ rx_k 7) : rx_kp w r := Or.inr ⟨hr, fun c hc hc2 => by
  have : c = 1 ∨ c = 2 ∨ c = 3 ∨ c = 4 ∨ c = 5 ∨ c = 6 ∨ c = 7 := by omega
  rcases this with rfl | rfl | rfl | rfl | rfl | rfl | rfl
  · exact h1
  · exact h2
  · exact h3
  · exact h4
  · exact h5
  · exact h6
  · exact h7⟩
/-- is the word at hand constant i? -/
def rx_iw (so : Int32) (le : Int64) (i : Nat) (r : Int32) : Prop := (r.toInt = 1 ∧ so.toInt = 5 ∧ le = rx_k i) ∨ (r.toInt = 0 ∧ ¬ (so.toInt = 5 ∧ le = rx_k i))

set_option maxHeartbeats 4000000 in
set_option maxRecDepth 100000 in
theorem c_J3_checkIndex_n (l : Launch) (dC : Nat → ClassId) (dI : Nat → Nat → Nat) (aK aV : Nat → Nat) (ix : Int32) (ln : Int32) (sz : Nat) (hix0 : 0 ≤ ix.toInt) (hix1 : ix.toInt < ln.toInt) : Met l yJ3_checkIndex_8e157 (Cond.code yJ3_checkIndex_8e157 cJ3_checkIndex_8e157 3 (some .int) :: zw) ({ frames := 8, cells := 0, slots := 0, locals := 200 }) (va_Pc [.int ix, .int ln, .null] (zP dC dI aK aV sz [] [])) (va_Qi (fun (r : Int32) (u : Unit) => True) (fun u => zQ dC dI (va_A [] sz) [] []) (va_A [] sz)) 0 0 (va_A [] sz) := by
  refine Met.ofW (cc := cJ3_checkIndex_8e157) (maxL := 3) (ret := (some .int)) (by decide) rfl ?_
  intro p e s m args below meth c s₁ B hml hv
  obtain ⟨rfl, hsz, hP, hK, hD0, hN, hT⟩ := hv
  have hx := B.exec
  have hb := B.bytes
  have hr := B.returns
  have hts := atoms_spec (ws := Cond.code yJ3_checkIndex_8e157 cJ3_checkIndex_8e157 3 (some .int) :: zw) B.pre
  have hA : ∀ w ∈ zw, w.before _ s = true := fun w h => hts w (List.mem_cons_of_mem _ h)
  have hown : s.vm.findClass RJ3 = some m.cls := findClass_of_methodNamed B.named
  have hlocks := B.notSynchronized
  subst hsz
  have hD := hD0.self (sz := s.heap.size)
  generalize hAe : va_A [] s.heap.size = A at hD hT ⊢
  have hAA : ∀ q : Nat, s.heap.size ≤ q → A q := fun q h => by rw [← hAe]; exact Or.inr h
  have hS : va_S A s.heap s.heap [] := va_S.rf
  have hl := lv_entry ([.int ix, .int ln, .null]) (n := 3) (Nat.le_of_ble_eq_true rfl)
  rw [lg_entry_eq]
  generalize (lg_sl ([.int ix, .int ln, .null]) ++ List.replicate (3 - (lg_sl ([.int ix, .int ln, .null])).length) Slot.unset).toArray = ls at hl ⊢
  have hl : lv_has ls 3 [(0, .int ix), (1, .int ln), (2, .null)] := hl
  refine lv_iload_n hx hb dJ3_checkIndex_8e157_0 rfl (lv_at hl 0 rfl) ?_
  refine lv_if_lt (tgt := 9) hx hb dJ3_checkIndex_8e157_1 (by decide) (fun c_1 => ?_) (fun c_1 => ?_)
  · have ic_1 : ix.toInt < 0 := zi_lt c_1
    exfalso
    omega
  · have ic_1 : 0 ≤ ix.toInt := zi_nlt c_1
    refine lv_iload_n hx hb dJ3_checkIndex_8e157_4 rfl (lv_at hl 0 rfl) ?_
    refine lv_iload_n hx hb dJ3_checkIndex_8e157_5 rfl (lv_at hl 1 rfl) ?_
    refine lv_icmp_lt (tgt := 16) hx hb dJ3_checkIndex_8e157_6 (by decide) (fun c_2 => ?_) (fun c_2 => ?_)
    · have ic_2 : ix.toInt < ln.toInt := zi_lt c_2
      refine lv_iload_n hx hb dJ3_checkIndex_8e157_16 rfl (lv_at hl 0 rfl) ?_
      have hP9 := hP.sub (ws' := []) [] rfl
      have hD9 := hD.sub (ws' := []) [] (by decide) rfl
      have hK9 := hK.sub (tys' := []) [] rfl
      exact W.iret (v := ix) hx hb hr (fun t ht hW => ⟨⟨ix, (), rfl, trivial, by rw [ht]; exact hP9, va_K.moved hW.alike hK9, hD9⟩, hS.F ht⟩) hS.2.2 dJ3_checkIndex_8e157_17
    · have ic_2 : ln.toInt ≤ ix.toInt := zi_nlt c_2
      exfalso
      omega
set_option maxHeartbeats 4000000 in
set_option maxRecDepth 100000 in
theorem c_J3_checkIndex_r (l : Launch) (dC : Nat → ClassId) (dI : Nat → Nat → Nat) (aK aV : Nat → Nat) (ix : Int32) (ln : Int32) (fo : Nat) (sz : Nat) (hix0 : 0 ≤ ix.toInt) (hix1 : ix.toInt < ln.toInt) : Met l yJ3_checkIndex_8e157 (Cond.code yJ3_checkIndex_8e157 cJ3_checkIndex_8e157 3 (some .int) :: zw) ({ frames := 8, cells := 0, slots := 0, locals := 200 }) (va_Pc [.int ix, .int ln, .ref fo] (zP dC dI aK aV sz [] [])) (va_Qi (fun (r : Int32) (u : Unit) => True) (fun u => zQ dC dI (va_A [] sz) [] []) (va_A [] sz)) 0 0 (va_A [] sz) := by
  refine Met.ofW (cc := cJ3_checkIndex_8e157) (maxL := 3) (ret := (some .int)) (by decide) rfl ?_
  intro p e s m args below meth c s₁ B hml hv
  obtain ⟨rfl, hsz, hP, hK, hD0, hN, hT⟩ := hv
  have hx := B.exec
  have hb := B.bytes
  have hr := B.returns
  have hts := atoms_spec (ws := Cond.code yJ3_checkIndex_8e157 cJ3_checkIndex_8e157 3 (some .int) :: zw) B.pre
  have hA : ∀ w ∈ zw, w.before _ s = true := fun w h => hts w (List.mem_cons_of_mem _ h)
  have hown : s.vm.findClass RJ3 = some m.cls := findClass_of_methodNamed B.named
  have hlocks := B.notSynchronized
  subst hsz
  have hD := hD0.self (sz := s.heap.size)
  generalize hAe : va_A [] s.heap.size = A at hD hT ⊢
  have hAA : ∀ q : Nat, s.heap.size ≤ q → A q := fun q h => by rw [← hAe]; exact Or.inr h
  have hS : va_S A s.heap s.heap [] := va_S.rf
  have hl := lv_entry ([.int ix, .int ln, .ref fo]) (n := 3) (Nat.le_of_ble_eq_true rfl)
  rw [lg_entry_eq]
  generalize (lg_sl ([.int ix, .int ln, .ref fo]) ++ List.replicate (3 - (lg_sl ([.int ix, .int ln, .ref fo])).length) Slot.unset).toArray = ls at hl ⊢
  have hl : lv_has ls 3 [(0, .int ix), (1, .int ln), (2, .ref fo)] := hl
  refine lv_iload_n hx hb dJ3_checkIndex_8e157_0 rfl (lv_at hl 0 rfl) ?_
  refine lv_if_lt (tgt := 9) hx hb dJ3_checkIndex_8e157_1 (by decide) (fun c_1 => ?_) (fun c_1 => ?_)
  · have ic_1 : ix.toInt < 0 := zi_lt c_1
    exfalso
    omega
  · have ic_1 : 0 ≤ ix.toInt := zi_nlt c_1
    refine lv_iload_n hx hb dJ3_checkIndex_8e157_4 rfl (lv_at hl 0 rfl) ?_
    refine lv_iload_n hx hb dJ3_checkIndex_8e157_5 rfl (lv_at hl 1 rfl) ?_
    refine lv_icmp_lt (tgt := 16) hx hb dJ3_checkIndex_8e157_6 (by decide) (fun c_2 => ?_) (fun c_2 => ?_)
    · have ic_2 : ix.toInt < ln.toInt := zi_lt c_2
      refine lv_iload_n hx hb dJ3_checkIndex_8e157_16 rfl (lv_at hl 0 rfl) ?_
      have hP9 := hP.sub (ws' := []) [] rfl
      have hD9 := hD.sub (ws' := []) [] (by decide) rfl
      have hK9 := hK.sub (tys' := []) [] rfl
      exact W.iret (v := ix) hx hb hr (fun t ht hW => ⟨⟨ix, (), rfl, trivial, by rw [ht]; exact hP9, va_K.moved hW.alike hK9, hD9⟩, hS.F ht⟩) hS.2.2 dJ3_checkIndex_8e157_17
    · have ic_2 : ln.toInt ≤ ix.toInt := zi_nlt c_2
      exfalso
      omega
set_option maxHeartbeats 4000000 in
set_option maxRecDepth 100000 in
theorem c_J0_checkIndex_x (l : Launch) (dC : Nat → ClassId) (dI : Nat → Nat → Nat) (aK aV : Nat → Nat) (ix : Int32) (ln : Int32) (sz : Nat) (hix0 : 0 ≤ ix.toInt) (hix1 : ix.toInt < ln.toInt) : Met l yJ0_checkIndex_df160 (Cond.code yJ0_checkIndex_df160 cJ0_checkIndex_df160 2 none :: zw) ({ frames := 10, cells := 0, slots := 0, locals := 300 }) (va_Pc [.int ix, .int ln] (zP dC dI aK aV sz [] [])) (va_Qv (fun u : Unit => True) (fun u => zQ dC dI (va_A [] sz) [] []) (va_A [] sz)) 0 0 (va_A [] sz) := by
  refine Met.ofW (cc := cJ0_checkIndex_df160) (maxL := 2) (ret := none) (by decide) rfl ?_
  intro p e s m args below meth c s₁ B hml hv
  obtain ⟨rfl, hsz, hP, hK, hD0, hN, hT⟩ := hv
  have hx := B.exec
  have hb := B.bytes
  have hr := B.returns
  have hts := atoms_spec (ws := Cond.code yJ0_checkIndex_df160 cJ0_checkIndex_df160 2 none :: zw) B.pre
  have hA : ∀ w ∈ zw, w.before _ s = true := fun w h => hts w (List.mem_cons_of_mem _ h)
  have hown : s.vm.findClass RJ0 = some m.cls := findClass_of_methodNamed B.named
  have hlocks := B.notSynchronized
  subst hsz
  have hD := hD0.self (sz := s.heap.size)
  generalize hAe : va_A [] s.heap.size = A at hD hT ⊢
  have hAA : ∀ q : Nat, s.heap.size ≤ q → A q := fun q h => by rw [← hAe]; exact Or.inr h
  have hS : va_S A s.heap s.heap [] := va_S.rf
  have hl := lv_entry ([.int ix, .int ln]) (n := 2) (Nat.le_of_ble_eq_true rfl)
  rw [lg_entry_eq]
  generalize (lg_sl ([.int ix, .int ln]) ++ List.replicate (2 - (lg_sl ([.int ix, .int ln])).length) Slot.unset).toArray = ls at hl ⊢
  have hl : lv_has ls 2 [(0, .int ix), (1, .int ln)] := hl
  refine lv_iload_n hx hb dJ0_checkIndex_df160_0 rfl (lv_at hl 0 rfl) ?_
  refine lv_iload_n hx hb dJ0_checkIndex_df160_1 rfl (lv_at hl 1 rfl) ?_
  rcases hT.2.2.2.2.2.1 with hz | ⟨sq_1, hz⟩
  · refine va_gets hx hb hz hS hown (hA _ wi_743) (fun _ h9 => h9) dJ0_checkIndex_df160_2 ?_
    have hPc := hP.sub (ws' := []) [] rfl
    have hDc := hD.sub (ws' := []) [] (by decide) rfl
    have hKc := hK.sub (tys' := []) [] rfl
    have hFc := va_free (wc := []) hD hS hAA [] rfl
    refine va_calli (va_runS (As := [.int ix, .int ln, .null]) (rest := []) ⟨hx, hb, hml, hown, hA⟩ (c_J3_checkIndex_n l dC dI aK aV ix ln s.heap.size (by omega) (by omega)) (va_cwS 3 hA (zw_S wi_1735 wi_1736 wi_152 (zw_good wi_1737)) rfl rfl rfl (by decide +kernel) ⟨(Nat.le_of_ble_eq_true rfl), (Nat.le_of_ble_eq_true rfl)⟩) ⟨zP_blind, zz_pre hKc hPc hDc hN hT hS hFc⟩ rfl rfl hl.1 rfl (lv_room (Nat.le_of_ble_eq_true rfl)) dJ0_checkIndex_df160_5 ⟨(Nat.le_of_ble_eq_true rfl), (Nat.le_of_ble_eq_true rfl)⟩) hS (fun q _ h => hFc q h) hFc (fun r_2 u t H1 locs ht hvm hw hB hz1 hk1 hS => ?_)
    obtain ⟨hP1, hK1, hD1⟩ := hB
    rw [ht] at hP1
    have hK1 := va_K.moved hvm.symm hK1
    obtain ⟨hP, hD⟩ := va_join (wr := []) (w1 := []) hP hD [] [] rfl rfl (by decide) (by decide) hk1 hFc hP1 hD1
    have hK := (hK.sub (tys' := []) [] rfl).app hK1
    generalize H1 = H at hP hS ⊢
    have hP : va_P (dC, dI) vwCl [] H := hP
    have hD : va_D A [] := hD
    have hK : va_K (dC, dI) vwCl [] s := hK
    have hw_r_2 := hw
    try dsimp only at hw_r_2
    refine lv_pop hx hb dJ0_checkIndex_df160_8 rfl ?_
    have hP9 := hP.sub (ws' := []) [] rfl
    have hD9 := hD.sub (ws' := []) [] (by decide) rfl
    have hK9 := hK.sub (tys' := []) [] rfl
    exact W.vret hx hb hr (fun t ht hW => ⟨⟨(), rfl, trivial, by rw [ht]; exact hP9, va_K.moved hW.alike hK9, hD9⟩, hS.F ht⟩) hS.2.2 dJ0_checkIndex_df160_9
  · refine va_gets hx hb hz hS hown (hA _ wi_743) (fun _ h9 => h9) dJ0_checkIndex_df160_2 ?_
    have hPc := hP.sub (ws' := []) [] rfl
    have hDc := hD.sub (ws' := []) [] (by decide) rfl
    have hKc := hK.sub (tys' := []) [] rfl
    have hFc := va_free (wc := []) hD hS hAA [] rfl
    refine va_calli (va_runS (As := [.int ix, .int ln, .ref sq_1]) (rest := []) ⟨hx, hb, hml, hown, hA⟩ (c_J3_checkIndex_r l dC dI aK aV ix ln sq_1 s.heap.size (by omega) (by omega)) (va_cwS 3 hA (zw_S wi_1735 wi_1736 wi_152 (zw_good wi_1737)) rfl rfl rfl (by decide +kernel) ⟨(Nat.le_of_ble_eq_true rfl), (Nat.le_of_ble_eq_true rfl)⟩) ⟨zP_blind, zz_pre hKc hPc hDc hN hT hS hFc⟩ rfl rfl hl.1 rfl (lv_room (Nat.le_of_ble_eq_true rfl)) dJ0_checkIndex_df160_5 ⟨(Nat.le_of_ble_eq_true rfl), (Nat.le_of_ble_eq_true rfl)⟩) hS (fun q _ h => hFc q h) hFc (fun r_3 u t H1 locs ht hvm hw hB hz1 hk1 hS => ?_)
    obtain ⟨hP1, hK1, hD1⟩ := hB
    rw [ht] at hP1
    have hK1 := va_K.moved hvm.symm hK1
    obtain ⟨hP, hD⟩ := va_join (wr := []) (w1 := []) hP hD [] [] rfl rfl (by decide) (by decide) hk1 hFc hP1 hD1
    have hK := (hK.sub (tys' := []) [] rfl).app hK1
    generalize H1 = H at hP hS ⊢
    have hP : va_P (dC, dI) vwCl [] H := hP
    have hD : va_D A [] := hD
    have hK : va_K (dC, dI) vwCl [] s := hK
    have hw_r_3 := hw
    try dsimp only at hw_r_3
    refine lv_pop hx hb dJ0_checkIndex_df160_8 rfl ?_
    have hP9 := hP.sub (ws' := []) [] rfl
    have hD9 := hD.sub (ws' := []) [] (by decide) rfl
    have hK9 := hK.sub (tys' := []) [] rfl
    exact W.vret hx hb hr (fun t ht hW => ⟨⟨(), rfl, trivial, by rw [ht]; exact hP9, va_K.moved hW.alike hK9, hD9⟩, hS.F ht⟩) hS.2.2 dJ0_checkIndex_df160_9
set_option maxHeartbeats 4000000 in
set_option maxRecDepth 100000 in
theorem c_J1_charAt_x (l : Launch) (dC : Nat → ClassId) (dI : Nat → Nat → Nat) (aK aV : Nat → Nat) (i : Nat) (ix : Int32) (sz : Nat) (hi : i < 8) (hix0 : 0 ≤ ix.toInt) (hix1 : ix.toInt < ((zSl.getD i 0 : Nat) : Int)) : Met l yJ1_charAt_3b067 (Cond.code yJ1_charAt_3b067 cJ1_charAt_3b067 2 (some .char) :: zw) ({ frames := 12, cells := 0, slots := 0, locals := 400 }) (va_Pc [.ref (aV i), .int ix] (zP dC dI aK aV sz [] [])) (va_Qi (fun (r : Int32) (u : Unit) => (narrow .char (.int r) = .int r) ∧ (r = (zSb.getD i []).getD (Int32.toNatClampNeg ix) 0)) (fun u => zQ dC dI (va_A [] sz) [] []) (va_A [] sz)) 0 0 (va_A [] sz) := by
  refine Met.ofW (cc := cJ1_charAt_3b067) (maxL := 2) (ret := (some .char)) (by decide) rfl ?_
  intro p e s m args below meth c s₁ B hml hv
  obtain ⟨rfl, hsz, hP, hK, hD0, hN, hT⟩ := hv
  have hx := B.exec
  have hb := B.bytes
  have hr := B.returns
  have hts := atoms_spec (ws := Cond.code yJ1_charAt_3b067 cJ1_charAt_3b067 2 (some .char) :: zw) B.pre
  have hA : ∀ w ∈ zw, w.before _ s = true := fun w h => hts w (List.mem_cons_of_mem _ h)
  have hown : s.vm.findClass RJ1 = some m.cls := findClass_of_methodNamed B.named
  have hlocks := B.notSynchronized
  subst hsz
  have hD := hD0.self (sz := s.heap.size)
  generalize hAe : va_A [] s.heap.size = A at hD hT ⊢
  have hAA : ∀ q : Nat, s.heap.size ≤ q → A q := fun q h => by rw [← hAe]; exact Or.inr h
  have hS : va_S A s.heap s.heap [] := va_S.rf
  have hl := lv_entry ([.ref (aV i), .int ix]) (n := 2) (Nat.le_of_ble_eq_true rfl)
  rw [lg_entry_eq]
  generalize (lg_sl ([.ref (aV i), .int ix]) ++ List.replicate (2 - (lg_sl ([.ref (aV i), .int ix])).length) Slot.unset).toArray = ls at hl ⊢
  have hl : lv_has ls 2 [(0, .ref (aV i)), (1, .int ix)] := hl
  refine lv_iload_n hx hb dJ1_charAt_3b067_0 rfl (lv_at hl 1 rfl) ?_
  refine lv_aload_n hx hb dJ1_charAt_3b067_1 rfl (lv_at hl 0 rfl) ?_
  refine va_tlen hx hb (hT.2.2.2.1.1 i hi).2.2.2 hS rfl dJ1_charAt_3b067_2 ?_
  refine lv_topi (fun x_1 ex_1 => ?_)
  have ix_1 : x_1.toInt = ((zSl.getD i 0 : Nat) : Int) ∧ zSl.getD i 0 ≤ 13 := ⟨by rw [ex_1]; exact nI_toInt (by have := zSl_le i; omega), zSl_le i⟩
  have hPc := hP.sub (ws' := []) [] rfl
  have hDc := hD.sub (ws' := []) [] (by decide) rfl
  have hKc := hK.sub (tys' := []) [] rfl
  have hFc := va_free (wc := []) hD hS hAA [] rfl
  refine va_callv (va_runS (As := [.int ix, .int x_1]) (rest := []) ⟨hx, hb, hml, hown, hA⟩ (c_J0_checkIndex_x l dC dI aK aV ix x_1 s.heap.size (by omega) (by omega)) (va_cwS 2 hA (zw_S wi_1732 wi_1733 wi_149 (zw_good wi_1734)) rfl rfl rfl (by decide +kernel) ⟨(Nat.le_of_ble_eq_true rfl), (Nat.le_of_ble_eq_true rfl)⟩) ⟨zP_blind, zz_pre hKc hPc hDc hN hT hS hFc⟩ rfl rfl hl.1 rfl (lv_room (Nat.le_of_ble_eq_true rfl)) dJ1_charAt_3b067_3 ⟨(Nat.le_of_ble_eq_true rfl), (Nat.le_of_ble_eq_true rfl)⟩) hS (fun q _ h => hFc q h) hFc (fun u t H1 locs ht hvm hw hB hz1 hk1 hS => ?_)
  obtain ⟨hP1, hK1, hD1⟩ := hB
  rw [ht] at hP1
  have hK1 := va_K.moved hvm.symm hK1
  obtain ⟨hP, hD⟩ := va_join (wr := []) (w1 := []) hP hD [] [] rfl rfl (by decide) (by decide) hk1 hFc hP1 hD1
  have hK := (hK.sub (tys' := []) [] rfl).app hK1
  generalize H1 = H at hP hS ⊢
  have hP : va_P (dC, dI) vwCl [] H := hP
  have hD : va_D A [] := hD
  have hK : va_K (dC, dI) vwCl [] s := hK
  refine lv_aload_n hx hb dJ1_charAt_3b067_6 rfl (lv_at hl 0 rfl) ?_
  refine lv_iload_n hx hb dJ1_charAt_3b067_7 rfl (lv_at hl 1 rfl) ?_
  refine va_tb (v := .int ((zSb.getD i []).getD (Int32.toNatClampNeg ix) 0)) hx hb (hT.2.2.2.1.1 i hi).2.2.2 hS (vp_in_iff.mpr ⟨by omega, by omega⟩) rfl dJ1_charAt_3b067_8 ?_
  refine lv_topi (fun x_3 ex_3 => ?_)
  refine lv_sipush (v := 255) hx hb dJ1_charAt_3b067_9 (by decide) ?_
  refine lv_iand hx hb dJ1_charAt_3b067_12 ?_
  refine lv_topi (fun x_4 ex_4 => ?_)
  refine lv_i2c hx hb dJ1_charAt_3b067_13 rfl ?_
  refine lv_topi (fun x_5 ex_5 => ?_)
  have hP9 := hP.sub (ws' := []) [] rfl
  have hD9 := hD.sub (ws' := []) [] (by decide) rfl
  have hK9 := hK.sub (tys' := []) [] rfl
  exact W.zret (v := x_5) hx hb hr (by rw [ex_5]; exact zchr _) (fun t ht hW => ⟨⟨x_5, (), rfl, ⟨(by rw [ex_5]; exact zchr _), (by rw [ex_5, ex_4, ex_3]; exact rl_tab i hi _ (by have := zn_nat hix0; omega))⟩, by rw [ht]; exact hP9, va_K.moved hW.alike hK9, hD9⟩, hS.F ht⟩) hS.2.2 dJ1_charAt_3b067_14
set_option maxHeartbeats 4000000 in
set_option maxRecDepth 100000 in
theorem c_J0_charAt_x (l : Launch) (dC : Nat → ClassId) (dI : Nat → Nat → Nat) (aK aV : Nat → Nat) (i : Nat) (ix : Int32) (sz : Nat) (hi : i < 8) (hix0 : 0 ≤ ix.toInt) (hix1 : ix.toInt < ((zSl.getD i 0 : Nat) : Int)) : Met l yJ0_charAt_5068e (Cond.code yJ0_charAt_5068e cJ0_charAt_5068e 2 (some .char) :: zw) ({ frames := 14, cells := 0, slots := 0, locals := 500 }) (va_Pc [.ref (aK i), .int ix] (zP dC dI aK aV sz [] [])) (va_Qi (fun (r : Int32) (u : Unit) => (narrow .char (.int r) = .int r) ∧ (r = (zSb.getD i []).getD (Int32.toNatClampNeg ix) 0)) (fun u => zQ dC dI (va_A [] sz) [] []) (va_A [] sz)) 0 0 (va_A [] sz) := by
  refine Met.ofW (cc := cJ0_charAt_5068e) (maxL := 2) (ret := (some .char)) (by decide) rfl ?_
  intro p e s m args below meth c s₁ B hml hv
  obtain ⟨rfl, hsz, hP, hK, hD0, hN, hT⟩ := hv
  have hx := B.exec
  have hb := B.bytes
  have hr := B.returns
  have hts := atoms_spec (ws := Cond.code yJ0_charAt_5068e cJ0_charAt_5068e 2 (some .char) :: zw) B.pre
  have hA : ∀ w ∈ zw, w.before _ s = true := fun w h => hts w (List.mem_cons_of_mem _ h)
  have hown : s.vm.findClass RJ0 = some m.cls := findClass_of_methodNamed B.named
  have hlocks := B.notSynchronized
  subst hsz
  have hD := hD0.self (sz := s.heap.size)
  generalize hAe : va_A [] s.heap.size = A at hD hT ⊢
  have hAA : ∀ q : Nat, s.heap.size ≤ q → A q := fun q h => by rw [← hAe]; exact Or.inr h
  have hS : va_S A s.heap s.heap [] := va_S.rf
  have hl := lv_entry ([.ref (aK i), .int ix]) (n := 2) (Nat.le_of_ble_eq_true rfl)
  rw [lg_entry_eq]
  generalize (lg_sl ([.ref (aK i), .int ix]) ++ List.replicate (2 - (lg_sl ([.ref (aK i), .int ix])).length) Slot.unset).toArray = ls at hl ⊢
  have hl : lv_has ls 2 [(0, .ref (aK i)), (1, .int ix)] := hl
  refine lv_aload_n hx hb dJ0_charAt_5068e_0 rfl (lv_at hl 0 rfl) ?_
  have hPc := hP.sub (ws' := []) [] rfl
  have hDc := hD.sub (ws' := []) [] (by decide) rfl
  have hKc := hK.sub (tys' := []) [] rfl
  have hFc := va_free (wc := []) hD hS hAA [] rfl
  refine va_calli (va_runV (As := []) (rest := []) ⟨hx, hb, hml, hown, hA⟩ (c_J0_isLatin1_aae02 l dC dI aK aV i s.heap.size (by omega)) (cwV 0 hA (zw_V wi_700 wi_701 wi_702 wi_149 (zw_good wi_703)) rfl rfl rfl (by decide +kernel) ⟨(Nat.le_of_ble_eq_true rfl), (Nat.le_of_ble_eq_true rfl)⟩) ⟨zP_blind, vk_recv hT.2.2.2.1 hi hS, zz_pre hKc hPc hDc hN hT hS hFc⟩ rfl rfl hl.1 rfl (lv_room (Nat.le_of_ble_eq_true rfl)) dJ0_charAt_5068e_1 ⟨(Nat.le_of_ble_eq_true rfl), (Nat.le_of_ble_eq_true rfl)⟩) hS (fun q _ h => hFc q h) hFc (fun r_1 u t H1 locs ht hvm hw hB hz1 hk1 hS => ?_)
  obtain ⟨hP1, hK1, hD1⟩ := hB
  rw [ht] at hP1
  have hK1 := va_K.moved hvm.symm hK1
  obtain ⟨hP, hD⟩ := va_join (wr := []) (w1 := []) hP hD [] [] rfl rfl (by decide) (by decide) hk1 hFc hP1 hD1
  have hK := (hK.sub (tys' := []) [] rfl).app hK1
  generalize H1 = H at hP hS ⊢
  have hP : va_P (dC, dI) vwCl [] H := hP
  have hD : va_D A [] := hD
  have hK : va_K (dC, dI) vwCl [] s := hK
  obtain rfl : r_1 = 1 := hw
  refine lv_if_eq (tgt := 16) hx hb dJ0_charAt_5068e_4 (by decide) (fun c_0 => absurd c_0 (by decide)) (fun _ => ?_)
  refine lv_aload_n hx hb dJ0_charAt_5068e_7 rfl (lv_at hl 0 rfl) ?_
  refine vk_getf (v := .ref (aV i)) hx hb (hT.2.2.2.1.1 i hi).2.2.1 hS hown (hA _ wi_2046) (fun _ h9 => h9) dJ0_charAt_5068e_8 ?_
  refine lv_iload_n hx hb dJ0_charAt_5068e_11 rfl (lv_at hl 1 rfl) ?_
  have hPc := hP.sub (ws' := []) [] rfl
  have hDc := hD.sub (ws' := []) [] (by decide) rfl
  have hKc := hK.sub (tys' := []) [] rfl
  have hFc := va_free (wc := []) hD hS hAA [] rfl
  refine va_calli (va_runS (As := [.ref (aV i), .int ix]) (rest := []) ⟨hx, hb, hml, hown, hA⟩ (c_J1_charAt_x l dC dI aK aV i ix H.size (by omega) (by omega) (by omega)) (va_cwS 2 hA (zw_S wi_1729 wi_1730 wi_150 (zw_good wi_1731)) rfl rfl rfl (by decide +kernel) ⟨(Nat.le_of_ble_eq_true rfl), (Nat.le_of_ble_eq_true rfl)⟩) ⟨zP_blind, zz_pre hKc hPc hDc hN hT hS hFc⟩ rfl rfl hl.1 rfl (lv_room (Nat.le_of_ble_eq_true rfl)) dJ0_charAt_5068e_12 ⟨(Nat.le_of_ble_eq_true rfl), (Nat.le_of_ble_eq_true rfl)⟩) hS (fun q _ h => hFc q h) hFc (fun r_2 u t H1 locs ht hvm hw hB hz1 hk1 hS => ?_)
  obtain ⟨hP1, hK1, hD1⟩ := hB
  rw [ht] at hP1
  have hK1 := va_K.moved hvm.symm hK1
  obtain ⟨hP, hD⟩ := va_join (wr := []) (w1 := []) hP hD [] [] rfl rfl (by decide) (by decide) hk1 hFc hP1 hD1
  have hK := (hK.sub (tys' := []) [] rfl).app hK1
  generalize H1 = H at hP hS ⊢
  have hP : va_P (dC, dI) vwCl [] H := hP
  have hD : va_D A [] := hD
  have hK : va_K (dC, dI) vwCl [] s := hK
  have hw_r_2 := hw
  try dsimp only at hw_r_2
  obtain ⟨hq_3, hq_4⟩ := hw
  have hP9 := hP.sub (ws' := []) [] rfl
  have hD9 := hD.sub (ws' := []) [] (by decide) rfl
  have hK9 := hK.sub (tys' := []) [] rfl
  exact W.zret (v := r_2) hx hb hr hq_3 (fun t ht hW => ⟨⟨r_2, (), rfl, ⟨hq_3, hq_4⟩, by rw [ht]; exact hP9, va_K.moved hW.alike hK9, hD9⟩, hS.F ht⟩) hS.2.2 dJ0_charAt_5068e_15
set_option maxHeartbeats 4000000 in
set_option maxRecDepth 100000 in
theorem c_X14_lettersOf_x (l : Launch) (dC : Nat → ClassId) (dI : Nat → Nat → Nat) (aK aV : Nat → Nat) (i : Nat) (sz : Nat) (hi : i < 8) : Met l yX14_lettersOf (Cond.code yX14_lettersOf cX14_lettersOf 4 (some .long) :: zw) ({ frames := 16, cells := 0, slots := 0, locals := 600 }) (va_Pc [.ref (aK i)] (zP dC dI aK aV sz [] [])) (va_Ql (fun (r : Int64) (u : Unit) => (r = rx_k i)) (fun u => zQ dC dI (va_A [] sz) [] []) (va_A [] sz)) 0 0 (va_A [] sz) := by
  refine Met.ofW (cc := cX14_lettersOf) (maxL := 4) (ret := (some .long)) (by decide) rfl ?_
  intro p e s m args below meth c s₁ B hml hv
  obtain ⟨rfl, hsz, hP, hK, hD0, hN, hT⟩ := hv
  have hx := B.exec
  have hb := B.bytes
  have hr := B.returns
  have hts := atoms_spec (ws := Cond.code yX14_lettersOf cX14_lettersOf 4 (some .long) :: zw) B.pre
  have hA : ∀ w ∈ zw, w.before _ s = true := fun w h => hts w (List.mem_cons_of_mem _ h)
  have hown : s.vm.findClass RX14 = some m.cls := findClass_of_methodNamed B.named
  have hlocks := B.notSynchronized
  subst hsz
  have hD := hD0.self (sz := s.heap.size)
  generalize hAe : va_A [] s.heap.size = A at hD hT ⊢
  have hAA : ∀ q : Nat, s.heap.size ≤ q → A q := fun q h => by rw [← hAe]; exact Or.inr h
  have hS : va_S A s.heap s.heap [] := va_S.rf
  have hl := lv_entry ([.ref (aK i)]) (n := 4) (Nat.le_of_ble_eq_true rfl)
  rw [lg_entry_eq]
  generalize (lg_sl ([.ref (aK i)]) ++ List.replicate (4 - (lg_sl ([.ref (aK i)])).length) Slot.unset).toArray = ls at hl ⊢
  have hl : lv_has ls 4 [(0, .ref (aK i))] := hl
  refine lv_lconst (v := 0) hx hb dX14_lettersOf_0 (by decide) ?_
  refine lv_lstore_n (lv' := [(1, .long 0), (0, .ref (aK i))]) hx hb dX14_lettersOf_1 rfl hl (by decide) rfl (fun ls hl => ?_)
  refine lv_iconst (v := 0) hx hb dX14_lettersOf_2 (by decide) ?_
  refine lv_istore_n (lv' := [(3, .int 0), (1, .long 0), (0, .ref (aK i))]) hx hb dX14_lettersOf_3 rfl hl (by decide) rfl (fun ls hl => ?_)
  have loop_4 : ∀ (n9 : Nat) (k : Int32) (lvv : Int64) (H : Heap) (locs : List Loc) (ls : Array Slot), (14 - k.toInt).toNat ≤ n9 → 0 ≤ k.toInt → k.toInt ≤ 13 → k.toInt ≤ ((zSl.getD i 0 : Nat) : Int) → lvv = rl_w i (Int32.toNatClampNeg k) → va_P (dC, dI) vwCl [] H → va_D A [] → va_S A s.heap H locs → lv_has ls 4 [(3, .int k), (1, .long lvv), (0, .ref (aK i))] → W p l e (headSpec (Cond.code yX14_lettersOf cX14_lettersOf 4 (some .long) :: zw) ({ frames := 16, cells := 0, slots := 0, locals := 600 })).room s m #[.ref (aK i)] below meth c H locs 0 0 (MQ below (va_Ql (fun (r : Int64) (u : Unit) => (r = rx_k i)) (fun u => zQ dC dI A [] []) A) #[.ref (aK i)] s 0 0 A) (F0 m 4 ls []) := by
    intro n9
    induction n9 with
    | zero => intro k lvv H locs ls hm hk0 hk1 hk2 hlw; exfalso; omega
    | succ n9 ih =>
      intro k lvv H locs ls hm hk0 hk1 hk2 hlw hP hD hS hl
      have h13 := zSl_le i
      refine lv_iload_n hx hb dX14_lettersOf_4 rfl (lv_at hl 0 rfl) ?_
      refine lv_aload_n hx hb dX14_lettersOf_5 rfl (lv_at hl 2 rfl) ?_
      have hPc := hP.sub (ws' := []) [] rfl
      have hDc := hD.sub (ws' := []) [] (by decide) rfl
      have hKc := hK.sub (tys' := []) [] rfl
      have hFc := va_free (wc := []) hD hS hAA [] rfl
      refine va_calli (va_runV (As := []) (rest := [.int k]) ⟨hx, hb, hml, hown, hA⟩ (c_J0_length_8abf5 l dC dI aK aV i H.size (by omega)) (cwV 0 hA (zw_V wi_1724 wi_707 wi_708 wi_149 (zw_good wi_709)) rfl rfl rfl (by decide +kernel) ⟨(Nat.le_of_ble_eq_true rfl), (Nat.le_of_ble_eq_true rfl)⟩) ⟨zP_blind, vk_recv hT.2.2.2.1 hi hS, zz_pre hKc hPc hDc hN hT hS hFc⟩ rfl rfl hl.1 rfl (lv_room (Nat.le_of_ble_eq_true rfl)) dX14_lettersOf_6 ⟨(Nat.le_of_ble_eq_true rfl), (Nat.le_of_ble_eq_true rfl)⟩) hS (fun q _ h => hFc q h) hFc (fun r_1 u t H1 locs ht hvm hw hB hz1 hk1 hS => ?_)
      obtain ⟨hP1, hK1, hD1⟩ := hB
      rw [ht] at hP1
      have hK1 := va_K.moved hvm.symm hK1
      obtain ⟨hP, hD⟩ := va_join (wr := []) (w1 := []) hP hD [] [] rfl rfl (by decide) (by decide) hk1 hFc hP1 hD1
      have hK := (hK.sub (tys' := []) [] rfl).app hK1
      generalize H1 = H at hP hS ⊢
      have hP : va_P (dC, dI) vwCl [] H := hP
      have hD : va_D A [] := hD
      have hK : va_K (dC, dI) vwCl [] s := hK
      have hw_r_1 := hw
      try dsimp only at hw_r_1
      have hq_2 := hw
      refine lv_icmp_ge (tgt := 35) hx hb dX14_lettersOf_9 (by decide) (fun c_3 => ?_) (fun c_3 => ?_)
      · have ic_3 : r_1.toInt ≤ k.toInt := zi_le c_3
        refine lv_lload_n hx hb dX14_lettersOf_35 rfl (lv_at hl 1 rfl) ?_
        have hP9 := hP.sub (ws' := []) [] rfl
        have hD9 := hD.sub (ws' := []) [] (by decide) rfl
        have hK9 := hK.sub (tys' := []) [] rfl
        exact W.lret (v := lvv) hx hb hr (fun t ht hW => ⟨⟨lvv, (), rfl, (by unfold rx_k; rw [hlw, show Int32.toNatClampNeg k = zSl.getD i 0 by have := zn_nat (x := k) (by omega); omega]), by rw [ht]; exact hP9, va_K.moved hW.alike hK9, hD9⟩, hS.F ht⟩) hS.2.2 dX14_lettersOf_36
      · have ic_3 : k.toInt < r_1.toInt := zi_nle c_3
        refine lv_lload_n hx hb dX14_lettersOf_12 rfl (lv_at hl 1 rfl) ?_
        refine lv_bipush (v := 6) hx hb dX14_lettersOf_13 (by decide) ?_
        refine lv_lshl hx hb dX14_lettersOf_15 rfl ?_
        refine lv_topl (fun x_4 ex_4 => ?_)
        refine lv_aload_n hx hb dX14_lettersOf_16 rfl (lv_at hl 2 rfl) ?_
        refine lv_iload_n hx hb dX14_lettersOf_17 rfl (lv_at hl 0 rfl) ?_
        have hPc := hP.sub (ws' := []) [] rfl
        have hDc := hD.sub (ws' := []) [] (by decide) rfl
        have hKc := hK.sub (tys' := []) [] rfl
        have hFc := va_free (wc := []) hD hS hAA [] rfl
        refine va_calli (va_runV (As := [.int k]) (rest := [.long x_4]) ⟨hx, hb, hml, hown, hA⟩ (c_J0_charAt_x l dC dI aK aV i k H.size (by omega) (by omega) (by omega)) (cwV 1 hA (zw_V wi_1725 wi_1726 wi_1727 wi_149 (zw_good wi_1728)) rfl rfl rfl (by decide +kernel) ⟨(Nat.le_of_ble_eq_true rfl), (Nat.le_of_ble_eq_true rfl)⟩) ⟨zP_blind, vk_recv hT.2.2.2.1 hi hS, zz_pre hKc hPc hDc hN hT hS hFc⟩ rfl rfl hl.1 rfl (lv_room (Nat.le_of_ble_eq_true rfl)) dX14_lettersOf_18 ⟨(Nat.le_of_ble_eq_true rfl), (Nat.le_of_ble_eq_true rfl)⟩) hS (fun q _ h => hFc q h) hFc (fun r_5 u t H1 locs ht hvm hw hB hz1 hk1 hS => ?_)
        obtain ⟨hP1, hK1, hD1⟩ := hB
        rw [ht] at hP1
        have hK1 := va_K.moved hvm.symm hK1
        obtain ⟨hP, hD⟩ := va_join (wr := []) (w1 := []) hP hD [] [] rfl rfl (by decide) (by decide) hk1 hFc hP1 hD1
        have hK := (hK.sub (tys' := []) [] rfl).app hK1
        generalize H1 = H at hP hS ⊢
        have hP : va_P (dC, dI) vwCl [] H := hP
        have hD : va_D A [] := hD
        have hK : va_K (dC, dI) vwCl [] s := hK
        have hw_r_5 := hw
        try dsimp only at hw_r_5
        obtain ⟨hq_6, hq_7⟩ := hw
        refine lv_bipush (v := 65) hx hb dX14_lettersOf_21 (by decide) ?_
        refine lv_isub hx hb dX14_lettersOf_23 ?_
        refine lv_topi (fun x_8 ex_8 => ?_)
        refine lv_iconst (v := 1) hx hb dX14_lettersOf_24 (by decide) ?_
        refine lv_iadd hx hb dX14_lettersOf_25 ?_
        refine lv_topi (fun x_9 ex_9 => ?_)
        obtain ⟨x_10, ex_10⟩ : ∃ z : Int64, z = Int32.toInt64 x_9 := ⟨_, rfl⟩
        refine lv_i2l (v := x_10) hx hb dX14_lettersOf_26 ex_10.symm ?_
        refine lv_lor hx hb dX14_lettersOf_27 ?_
        refine lv_topl (fun x_11 ex_11 => ?_)
        refine lv_lstore_n (lv' := [(1, .long x_11), (3, .int k), (0, .ref (aK i))]) hx hb dX14_lettersOf_28 rfl hl (by decide) rfl (fun ls hl => ?_)
        obtain ⟨x_12, ex_12⟩ : ∃ y : Int32, y = k + Int32.ofInt 1 := ⟨_, rfl⟩
        refine lv_iinc (v := x_12) (lv' := [(3, .int x_12), (1, .long x_11), (0, .ref (aK i))]) hx hb dX14_lettersOf_29 hl (k := 1) rfl (by rw [ex_12]) (by decide) rfl (fun ls hl => ?_)
        have ix_12 : x_12.toInt = k.toInt + 1 := by rw [ex_12]; exact zi_addc (by decide) (by omega) (by omega)
        refine lv_goto (tgt := 4) hx hb dX14_lettersOf_32 (by decide) ?_
        have hlw_13 : x_11 = rl_w i (Int32.toNatClampNeg x_12) := rl_1 hlw (by omega) (by omega) hq_7 (by rw [ex_11, ex_4, ex_10, ex_9, ex_8])
        exact ih x_12 x_11 _ _ _ (by omega) (by omega) (by omega) (by omega) hlw_13 (hP.sub [] rfl) (hD.sub [] (by decide) rfl) hS (lv_sub hl [0, 1, 2] rfl)
  have hlw_14 : 0 = rl_w i (Int32.toNatClampNeg 0) := rfl
  exact loop_4 _ 0 0 _ _ _ (Nat.le_refl _) (by have h9_0 : Int32.toInt 0 = 0 := (by decide); omega) (by have h9_0 : Int32.toInt 0 = 0 := (by decide); omega) (by have h9_0 : Int32.toInt 0 = 0 := (by decide); omega) hlw_14 (hP.sub [] rfl) (hD.sub [] (by decide) rfl) hS (lv_sub hl [0, 1, 2] rfl)

end
section
theorem wi_1723 : Cond.code yX14_lettersOf cX14_lettersOf 4 (some .long) ∈ zw := zw_in (List.mem_of_getElem? (i := 1723) (by decide +kernel)) (by decide +kernel)
theorem wi_1721 : Cond.methodLink RX14 128 yX14_lettersOf ∈ zw := zw_in (List.mem_of_getElem? (i := 1721) (by decide +kernel)) (by decide +kernel)
theorem wi_1722 : Cond.static yX14_lettersOf ∈ zw := zw_in (List.mem_of_getElem? (i := 1722) (by decide +kernel)) (by decide +kernel)
theorem wi_143 : Cond.initialized RX14 ∈ zw := zw_in (List.mem_of_getElem? (i := 143) (by decide +kernel)) (by decide +kernel)
theorem wi_1503 : Cond.fieldLink RX14 152 "ReuseHouseModel" "sort" "I" ∈ zw := zw_in (List.mem_of_getElem? (i := 1503) (by decide +kernel)) (by decide +kernel)
theorem wi_1505 : Cond.fieldLink RX14 155 "ReuseHouseModel" "sign" "I" ∈ zw := zw_in (List.mem_of_getElem? (i := 1505) (by decide +kernel)) (by decide +kernel)
theorem wi_1506 : Cond.fieldLink RX14 168 "ReuseHouseModel" "letters" "J" ∈ zw := zw_in (List.mem_of_getElem? (i := 1506) (by decide +kernel)) (by decide +kernel)
theorem dX14_is_0 : decode cX14_is 0 = .ok (.aload_n 0, 1) := by decide +kernel
theorem dX14_is_1 : decode cX14_is 1 = .ok (.getfield 152, 3) := by decide +kernel
theorem dX14_is_4 : decode cX14_is 4 = .ok (.bipush 6, 2) := by decide +kernel
theorem dX14_is_6 : decode cX14_is 6 = .ok (.if_icmp .ne 15, 3) := by decide +kernel
theorem dX14_is_9 : decode cX14_is 9 = .ok (.aload_n 0, 1) := by decide +kernel
theorem dX14_is_10 : decode cX14_is 10 = .ok (.getfield 155, 3) := by decide +kernel
theorem dX14_is_13 : decode cX14_is 13 = .ok (.iload_n 1, 1) := by decide +kernel
theorem dX14_is_14 : decode cX14_is 14 = .ok (.if_icmp .ne 7, 3) := by decide +kernel
theorem dX14_is_17 : decode cX14_is 17 = .ok (.iconst 1, 1) := by decide +kernel
theorem dX14_is_18 : decode cX14_is 18 = .ok (.goto 4, 3) := by decide +kernel
theorem dX14_is_21 : decode cX14_is 21 = .ok (.iconst 0, 1) := by decide +kernel
theorem dX14_is_22 : decode cX14_is 22 = .ok (.ireturn, 1) := by decide +kernel
theorem dX14_isKept_0 : decode cX14_isKept 0 = .ok (.lload_n 0, 1) := by decide +kernel
theorem dX14_isKept_1 : decode cX14_isKept 1 = .ok (.ldc 126, 2) := by decide +kernel
theorem dX14_isKept_3 : decode cX14_isKept 3 = .ok (.invokestatic 128, 3) := by decide +kernel
theorem dX14_isKept_6 : decode cX14_isKept 6 = .ok (.lcmp, 1) := by decide +kernel
theorem dX14_isKept_7 : decode cX14_isKept 7 = .ok (.ifCond .eq 63, 3) := by decide +kernel
theorem dX14_isKept_10 : decode cX14_isKept 10 = .ok (.lload_n 0, 1) := by decide +kernel
theorem dX14_isKept_11 : decode cX14_isKept 11 = .ok (.ldc 132, 2) := by decide +kernel
theorem dX14_isKept_13 : decode cX14_isKept 13 = .ok (.invokestatic 128, 3) := by decide +kernel
theorem dX14_isKept_16 : decode cX14_isKept 16 = .ok (.lcmp, 1) := by decide +kernel
theorem dX14_isKept_17 : decode cX14_isKept 17 = .ok (.ifCond .eq 53, 3) := by decide +kernel
theorem dX14_isKept_20 : decode cX14_isKept 20 = .ok (.lload_n 0, 1) := by decide +kernel
theorem dX14_isKept_21 : decode cX14_isKept 21 = .ok (.ldc 134, 2) := by decide +kernel
theorem dX14_isKept_23 : decode cX14_isKept 23 = .ok (.invokestatic 128, 3) := by decide +kernel
theorem dX14_isKept_26 : decode cX14_isKept 26 = .ok (.lcmp, 1) := by decide +kernel
theorem dX14_isKept_27 : decode cX14_isKept 27 = .ok (.ifCond .eq 43, 3) := by decide +kernel
theorem dX14_isKept_30 : decode cX14_isKept 30 = .ok (.lload_n 0, 1) := by decide +kernel
theorem dX14_isKept_31 : decode cX14_isKept 31 = .ok (.ldc 136, 2) := by decide +kernel
theorem dX14_isKept_33 : decode cX14_isKept 33 = .ok (.invokestatic 128, 3) := by decide +kernel
theorem dX14_isKept_36 : decode cX14_isKept 36 = .ok (.lcmp, 1) := by decide +kernel
theorem dX14_isKept_37 : decode cX14_isKept 37 = .ok (.ifCond .eq 33, 3) := by decide +kernel
theorem dX14_isKept_40 : decode cX14_isKept 40 = .ok (.lload_n 0, 1) := by decide +kernel
theorem dX14_isKept_41 : decode cX14_isKept 41 = .ok (.ldc 138, 2) := by decide +kernel
theorem dX14_isKept_43 : decode cX14_isKept 43 = .ok (.invokestatic 128, 3) := by decide +kernel
theorem dX14_isKept_46 : decode cX14_isKept 46 = .ok (.lcmp, 1) := by decide +kernel
theorem dX14_isKept_47 : decode cX14_isKept 47 = .ok (.ifCond .eq 23, 3) := by decide +kernel
theorem dX14_isKept_50 : decode cX14_isKept 50 = .ok (.lload_n 0, 1) := by decide +kernel
theorem dX14_isKept_51 : decode cX14_isKept 51 = .ok (.ldc 140, 2) := by decide +kernel
theorem dX14_isKept_53 : decode cX14_isKept 53 = .ok (.invokestatic 128, 3) := by decide +kernel
theorem dX14_isKept_56 : decode cX14_isKept 56 = .ok (.lcmp, 1) := by decide +kernel
theorem dX14_isKept_57 : decode cX14_isKept 57 = .ok (.ifCond .eq 13, 3) := by decide +kernel
theorem dX14_isKept_60 : decode cX14_isKept 60 = .ok (.lload_n 0, 1) := by decide +kernel
theorem dX14_isKept_61 : decode cX14_isKept 61 = .ok (.ldc 142, 2) := by decide +kernel
theorem dX14_isKept_63 : decode cX14_isKept 63 = .ok (.invokestatic 128, 3) := by decide +kernel
theorem dX14_isKept_66 : decode cX14_isKept 66 = .ok (.lcmp, 1) := by decide +kernel
theorem dX14_isKept_67 : decode cX14_isKept 67 = .ok (.ifCond .ne 7, 3) := by decide +kernel
theorem dX14_isKept_70 : decode cX14_isKept 70 = .ok (.iconst 1, 1) := by decide +kernel
theorem dX14_isKept_71 : decode cX14_isKept 71 = .ok (.goto 4, 3) := by decide +kernel
theorem dX14_isKept_74 : decode cX14_isKept 74 = .ok (.iconst 0, 1) := by decide +kernel
theorem dX14_isKept_75 : decode cX14_isKept 75 = .ok (.ireturn, 1) := by decide +kernel
theorem dX14_isWord_0 : decode cX14_isWord 0 = .ok (.aload_n 0, 1) := by decide +kernel
theorem dX14_isWord_1 : decode cX14_isWord 1 = .ok (.getfield 152, 3) := by decide +kernel
theorem dX14_isWord_4 : decode cX14_isWord 4 = .ok (.iconst 5, 1) := by decide +kernel
theorem dX14_isWord_5 : decode cX14_isWord 5 = .ok (.if_icmp .ne 19, 3) := by decide +kernel
theorem dX14_isWord_8 : decode cX14_isWord 8 = .ok (.aload_n 0, 1) := by decide +kernel
theorem dX14_isWord_9 : decode cX14_isWord 9 = .ok (.getfield 168, 3) := by decide +kernel
theorem dX14_isWord_12 : decode cX14_isWord 12 = .ok (.aload_n 1, 1) := by decide +kernel
theorem dX14_isWord_13 : decode cX14_isWord 13 = .ok (.invokestatic 128, 3) := by decide +kernel
theorem dX14_isWord_16 : decode cX14_isWord 16 = .ok (.lcmp, 1) := by decide +kernel
theorem dX14_isWord_17 : decode cX14_isWord 17 = .ok (.ifCond .ne 7, 3) := by decide +kernel
theorem dX14_isWord_20 : decode cX14_isWord 20 = .ok (.iconst 1, 1) := by decide +kernel
theorem dX14_isWord_21 : decode cX14_isWord 21 = .ok (.goto 4, 3) := by decide +kernel
theorem dX14_isWord_24 : decode cX14_isWord 24 = .ok (.iconst 0, 1) := by decide +kernel
theorem dX14_isWord_25 : decode cX14_isWord 25 = .ok (.ireturn, 1) := by decide +kernel
set_option maxHeartbeats 4000000 in
set_option maxRecDepth 100000 in
theorem c_X14_isKept_x (l : Launch) (dC : Nat → ClassId) (dI : Nat → Nat → Nat) (aK aV : Nat → Nat) (wo : Int64) (sz : Nat)  : Met l yX14_isKept (Cond.code yX14_isKept cX14_isKept 2 (some .boolean) :: zw) ({ frames := 18, cells := 0, slots := 0, locals := 700 }) (va_Pc [.long wo] (zP dC dI aK aV sz [] [])) (va_Qi (fun (r : Int32) (u : Unit) => (r.toInt = 0 ∨ r.toInt = 1) ∧ (rx_kp wo r)) (fun u => zQ dC dI (va_A [] sz) [] []) (va_A [] sz)) 0 0 (va_A [] sz) := by
  refine Met.ofW (cc := cX14_isKept) (maxL := 2) (ret := (some .boolean)) (by decide) rfl ?_
  intro p e s m args below meth c s₁ B hml hv
  obtain ⟨rfl, hsz, hP, hK, hD0, hN, hT⟩ := hv
  have hx := B.exec
  have hb := B.bytes
  have hr := B.returns
  have hts := atoms_spec (ws := Cond.code yX14_isKept cX14_isKept 2 (some .boolean) :: zw) B.pre
  have hA : ∀ w ∈ zw, w.before _ s = true := fun w h => hts w (List.mem_cons_of_mem _ h)
  have hown : s.vm.findClass RX14 = some m.cls := findClass_of_methodNamed B.named
  have hlocks := B.notSynchronized
  subst hsz
  have hD := hD0.self (sz := s.heap.size)
  generalize hAe : va_A [] s.heap.size = A at hD hT ⊢
  have hAA : ∀ q : Nat, s.heap.size ≤ q → A q := fun q h => by rw [← hAe]; exact Or.inr h
  have hS : va_S A s.heap s.heap [] := va_S.rf
  have hl := lv_entry ([.long wo]) (n := 2) (Nat.le_of_ble_eq_true rfl)
  rw [lg_entry_eq]
  generalize (lg_sl ([.long wo]) ++ List.replicate (2 - (lg_sl ([.long wo])).length) Slot.unset).toArray = ls at hl ⊢
  have hl : lv_has ls 2 [(0, .long wo)] := hl
  refine lv_lload_n hx hb dX14_isKept_0 rfl (lv_at hl 0 rfl) ?_
  refine va_ldcS (tx := "let") (q := aK 1) hx hb hown (hT.2.2.2.2.1 1 (by decide)) dX14_isKept_1 ?_
  have hPc := hP.sub (ws' := []) [] rfl
  have hDc := hD.sub (ws' := []) [] (by decide) rfl
  have hKc := hK.sub (tys' := []) [] rfl
  have hFc := va_free (wc := []) hD hS hAA [] rfl
  refine va_calll (va_runS (As := [.ref (aK 1)]) (rest := [.long wo]) ⟨hx, hb, hml, hown, hA⟩ (c_X14_lettersOf_x l dC dI aK aV 1 s.heap.size (by omega)) (va_cwS 1 hA (zw_S wi_1721 wi_1722 wi_143 (zw_good wi_1723)) rfl rfl rfl (by decide +kernel) ⟨(Nat.le_of_ble_eq_true rfl), (Nat.le_of_ble_eq_true rfl)⟩) ⟨zP_blind, zz_pre hKc hPc hDc hN hT hS hFc⟩ rfl rfl hl.1 rfl (lv_room (Nat.le_of_ble_eq_true rfl)) dX14_isKept_3 ⟨(Nat.le_of_ble_eq_true rfl), (Nat.le_of_ble_eq_true rfl)⟩) hS (fun q _ h => hFc q h) hFc (fun r_1 u t H1 locs ht hvm hw hB hz1 hk1 hS => ?_)
  obtain ⟨hP1, hK1, hD1⟩ := hB
  rw [ht] at hP1
  have hK1 := va_K.moved hvm.symm hK1
  obtain ⟨hP, hD⟩ := va_join (wr := []) (w1 := []) hP hD [] [] rfl rfl (by decide) (by decide) hk1 hFc hP1 hD1
  have hK := (hK.sub (tys' := []) [] rfl).app hK1
  generalize H1 = H at hP hS ⊢
  have hP : va_P (dC, dI) vwCl [] H := hP
  have hD : va_D A [] := hD
  have hK : va_K (dC, dI) vwCl [] s := hK
  have hq_2 := hw
  refine W.lcmp hx hb dX14_isKept_6 ?_
  refine lv_topi (fun x_3 ex_3 => ?_)
  refine lv_if_eq (tgt := 70) hx hb dX14_isKept_7 (by decide) (fun c_4 => ?_) (fun c_4 => ?_)
  · have ic_4 : x_3.toInt = 0 := zi_eq c_4
    refine lv_iconst (v := 1) hx hb dX14_isKept_70 (by decide) ?_
    refine lv_goto (tgt := 75) hx hb dX14_isKept_71 (by decide) ?_
    have hlit : Int32.toInt 1 = 1 := by decide
    have hP9 := hP.sub (ws' := []) [] rfl
    have hD9 := hD.sub (ws' := []) [] (by decide) rfl
    have hK9 := hK.sub (tys' := []) [] rfl
    exact W.zret (v := 1) hx hb hr rfl (fun t ht hW => ⟨⟨1, (), rfl, ⟨by omega, (Or.inl ⟨by decide, 1, by decide, by decide, (lc_eq (by rw [← ex_3]; omega)).trans hq_2⟩)⟩, by rw [ht]; exact hP9, va_K.moved hW.alike hK9, hD9⟩, hS.F ht⟩) hS.2.2 dX14_isKept_75
  · have ic_4 : x_3.toInt ≠ 0 := zi_ne c_4
    refine lv_lload_n hx hb dX14_isKept_10 rfl (lv_at hl 0 rfl) ?_
    refine va_ldcS (tx := "in") (q := aK 2) hx hb hown (hT.2.2.2.2.1 2 (by decide)) dX14_isKept_11 ?_
    have hPc := hP.sub (ws' := []) [] rfl
    have hDc := hD.sub (ws' := []) [] (by decide) rfl
    have hKc := hK.sub (tys' := []) [] rfl
    have hFc := va_free (wc := []) hD hS hAA [] rfl
    refine va_calll (va_runS (As := [.ref (aK 2)]) (rest := [.long wo]) ⟨hx, hb, hml, hown, hA⟩ (c_X14_lettersOf_x l dC dI aK aV 2 H.size (by omega)) (va_cwS 1 hA (zw_S wi_1721 wi_1722 wi_143 (zw_good wi_1723)) rfl rfl rfl (by decide +kernel) ⟨(Nat.le_of_ble_eq_true rfl), (Nat.le_of_ble_eq_true rfl)⟩) ⟨zP_blind, zz_pre hKc hPc hDc hN hT hS hFc⟩ rfl rfl hl.1 rfl (lv_room (Nat.le_of_ble_eq_true rfl)) dX14_isKept_13 ⟨(Nat.le_of_ble_eq_true rfl), (Nat.le_of_ble_eq_true rfl)⟩) hS (fun q _ h => hFc q h) hFc (fun r_5 u t H1 locs ht hvm hw hB hz1 hk1 hS => ?_)
    obtain ⟨hP1, hK1, hD1⟩ := hB
    rw [ht] at hP1
    have hK1 := va_K.moved hvm.symm hK1
    obtain ⟨hP, hD⟩ := va_join (wr := []) (w1 := []) hP hD [] [] rfl rfl (by decide) (by decide) hk1 hFc hP1 hD1
    have hK := (hK.sub (tys' := []) [] rfl).app hK1
    generalize H1 = H at hP hS ⊢
    have hP : va_P (dC, dI) vwCl [] H := hP
    have hD : va_D A [] := hD
    have hK : va_K (dC, dI) vwCl [] s := hK
    have hq_6 := hw
    refine W.lcmp hx hb dX14_isKept_16 ?_
    refine lv_topi (fun x_7 ex_7 => ?_)
    refine lv_if_eq (tgt := 70) hx hb dX14_isKept_17 (by decide) (fun c_8 => ?_) (fun c_8 => ?_)
    · have ic_8 : x_7.toInt = 0 := zi_eq c_8
      refine lv_iconst (v := 1) hx hb dX14_isKept_70 (by decide) ?_
      refine lv_goto (tgt := 75) hx hb dX14_isKept_71 (by decide) ?_
      have hlit : Int32.toInt 1 = 1 := by decide
      have hP9 := hP.sub (ws' := []) [] rfl
      have hD9 := hD.sub (ws' := []) [] (by decide) rfl
      have hK9 := hK.sub (tys' := []) [] rfl
      exact W.zret (v := 1) hx hb hr rfl (fun t ht hW => ⟨⟨1, (), rfl, ⟨by omega, (Or.inl ⟨by decide, 2, by decide, by decide, (lc_eq (by rw [← ex_7]; omega)).trans hq_6⟩)⟩, by rw [ht]; exact hP9, va_K.moved hW.alike hK9, hD9⟩, hS.F ht⟩) hS.2.2 dX14_isKept_75
    · have ic_8 : x_7.toInt ≠ 0 := zi_ne c_8
      refine lv_lload_n hx hb dX14_isKept_20 rfl (lv_at hl 0 rfl) ?_
      refine va_ldcS (tx := "if") (q := aK 3) hx hb hown (hT.2.2.2.2.1 3 (by decide)) dX14_isKept_21 ?_
      have hPc := hP.sub (ws' := []) [] rfl
      have hDc := hD.sub (ws' := []) [] (by decide) rfl
      have hKc := hK.sub (tys' := []) [] rfl
      have hFc := va_free (wc := []) hD hS hAA [] rfl
      refine va_calll (va_runS (As := [.ref (aK 3)]) (rest := [.long wo]) ⟨hx, hb, hml, hown, hA⟩ (c_X14_lettersOf_x l dC dI aK aV 3 H.size (by omega)) (va_cwS 1 hA (zw_S wi_1721 wi_1722 wi_143 (zw_good wi_1723)) rfl rfl rfl (by decide +kernel) ⟨(Nat.le_of_ble_eq_true rfl), (Nat.le_of_ble_eq_true rfl)⟩) ⟨zP_blind, zz_pre hKc hPc hDc hN hT hS hFc⟩ rfl rfl hl.1 rfl (lv_room (Nat.le_of_ble_eq_true rfl)) dX14_isKept_23 ⟨(Nat.le_of_ble_eq_true rfl), (Nat.le_of_ble_eq_true rfl)⟩) hS (fun q _ h => hFc q h) hFc (fun r_9 u t H1 locs ht hvm hw hB hz1 hk1 hS => ?_)
      obtain ⟨hP1, hK1, hD1⟩ := hB
      rw [ht] at hP1
      have hK1 := va_K.moved hvm.symm hK1
      obtain ⟨hP, hD⟩ := va_join (wr := []) (w1 := []) hP hD [] [] rfl rfl (by decide) (by decide) hk1 hFc hP1 hD1
      have hK := (hK.sub (tys' := []) [] rfl).app hK1
      generalize H1 = H at hP hS ⊢
      have hP : va_P (dC, dI) vwCl [] H := hP
      have hD : va_D A [] := hD
      have hK : va_K (dC, dI) vwCl [] s := hK
      have hq_10 := hw
      refine W.lcmp hx hb dX14_isKept_26 ?_
      refine lv_topi (fun x_11 ex_11 => ?_)
      refine lv_if_eq (tgt := 70) hx hb dX14_isKept_27 (by decide) (fun c_12 => ?_) (fun c_12 => ?_)
      · have ic_12 : x_11.toInt = 0 := zi_eq c_12
        refine lv_iconst (v := 1) hx hb dX14_isKept_70 (by decide) ?_
        refine lv_goto (tgt := 75) hx hb dX14_isKept_71 (by decide) ?_
        have hlit : Int32.toInt 1 = 1 := by decide
        have hP9 := hP.sub (ws' := []) [] rfl
        have hD9 := hD.sub (ws' := []) [] (by decide) rfl
        have hK9 := hK.sub (tys' := []) [] rfl
        exact W.zret (v := 1) hx hb hr rfl (fun t ht hW => ⟨⟨1, (), rfl, ⟨by omega, (Or.inl ⟨by decide, 3, by decide, by decide, (lc_eq (by rw [← ex_11]; omega)).trans hq_10⟩)⟩, by rw [ht]; exact hP9, va_K.moved hW.alike hK9, hD9⟩, hS.F ht⟩) hS.2.2 dX14_isKept_75
      · have ic_12 : x_11.toInt ≠ 0 := zi_ne c_12
        refine lv_lload_n hx hb dX14_isKept_30 rfl (lv_at hl 0 rfl) ?_
        refine va_ldcS (tx := "then") (q := aK 4) hx hb hown (hT.2.2.2.2.1 4 (by decide)) dX14_isKept_31 ?_
        have hPc := hP.sub (ws' := []) [] rfl
        have hDc := hD.sub (ws' := []) [] (by decide) rfl
        have hKc := hK.sub (tys' := []) [] rfl
        have hFc := va_free (wc := []) hD hS hAA [] rfl
        refine va_calll (va_runS (As := [.ref (aK 4)]) (rest := [.long wo]) ⟨hx, hb, hml, hown, hA⟩ (c_X14_lettersOf_x l dC dI aK aV 4 H.size (by omega)) (va_cwS 1 hA (zw_S wi_1721 wi_1722 wi_143 (zw_good wi_1723)) rfl rfl rfl (by decide +kernel) ⟨(Nat.le_of_ble_eq_true rfl), (Nat.le_of_ble_eq_true rfl)⟩) ⟨zP_blind, zz_pre hKc hPc hDc hN hT hS hFc⟩ rfl rfl hl.1 rfl (lv_room (Nat.le_of_ble_eq_true rfl)) dX14_isKept_33 ⟨(Nat.le_of_ble_eq_true rfl), (Nat.le_of_ble_eq_true rfl)⟩) hS (fun q _ h => hFc q h) hFc (fun r_13 u t H1 locs ht hvm hw hB hz1 hk1 hS => ?_)
        obtain ⟨hP1, hK1, hD1⟩ := hB
        rw [ht] at hP1
        have hK1 := va_K.moved hvm.symm hK1
        obtain ⟨hP, hD⟩ := va_join (wr := []) (w1 := []) hP hD [] [] rfl rfl (by decide) (by decide) hk1 hFc hP1 hD1
        have hK := (hK.sub (tys' := []) [] rfl).app hK1
        generalize H1 = H at hP hS ⊢
        have hP : va_P (dC, dI) vwCl [] H := hP
        have hD : va_D A [] := hD
        have hK : va_K (dC, dI) vwCl [] s := hK
        have hq_14 := hw
        refine W.lcmp hx hb dX14_isKept_36 ?_
        refine lv_topi (fun x_15 ex_15 => ?_)
        refine lv_if_eq (tgt := 70) hx hb dX14_isKept_37 (by decide) (fun c_16 => ?_) (fun c_16 => ?_)
        · have ic_16 : x_15.toInt = 0 := zi_eq c_16
          refine lv_iconst (v := 1) hx hb dX14_isKept_70 (by decide) ?_
          refine lv_goto (tgt := 75) hx hb dX14_isKept_71 (by decide) ?_
          have hlit : Int32.toInt 1 = 1 := by decide
          have hP9 := hP.sub (ws' := []) [] rfl
          have hD9 := hD.sub (ws' := []) [] (by decide) rfl
          have hK9 := hK.sub (tys' := []) [] rfl
          exact W.zret (v := 1) hx hb hr rfl (fun t ht hW => ⟨⟨1, (), rfl, ⟨by omega, (Or.inl ⟨by decide, 4, by decide, by decide, (lc_eq (by rw [← ex_15]; omega)).trans hq_14⟩)⟩, by rw [ht]; exact hP9, va_K.moved hW.alike hK9, hD9⟩, hS.F ht⟩) hS.2.2 dX14_isKept_75
        · have ic_16 : x_15.toInt ≠ 0 := zi_ne c_16
          refine lv_lload_n hx hb dX14_isKept_40 rfl (lv_at hl 0 rfl) ?_
          refine va_ldcS (tx := "else") (q := aK 5) hx hb hown (hT.2.2.2.2.1 5 (by decide)) dX14_isKept_41 ?_
          have hPc := hP.sub (ws' := []) [] rfl
          have hDc := hD.sub (ws' := []) [] (by decide) rfl
          have hKc := hK.sub (tys' := []) [] rfl
          have hFc := va_free (wc := []) hD hS hAA [] rfl
          refine va_calll (va_runS (As := [.ref (aK 5)]) (rest := [.long wo]) ⟨hx, hb, hml, hown, hA⟩ (c_X14_lettersOf_x l dC dI aK aV 5 H.size (by omega)) (va_cwS 1 hA (zw_S wi_1721 wi_1722 wi_143 (zw_good wi_1723)) rfl rfl rfl (by decide +kernel) ⟨(Nat.le_of_ble_eq_true rfl), (Nat.le_of_ble_eq_true rfl)⟩) ⟨zP_blind, zz_pre hKc hPc hDc hN hT hS hFc⟩ rfl rfl hl.1 rfl (lv_room (Nat.le_of_ble_eq_true rfl)) dX14_isKept_43 ⟨(Nat.le_of_ble_eq_true rfl), (Nat.le_of_ble_eq_true rfl)⟩) hS (fun q _ h => hFc q h) hFc (fun r_17 u t H1 locs ht hvm hw hB hz1 hk1 hS => ?_)
          obtain ⟨hP1, hK1, hD1⟩ := hB
          rw [ht] at hP1
          have hK1 := va_K.moved hvm.symm hK1
          obtain ⟨hP, hD⟩ := va_join (wr := []) (w1 := []) hP hD [] [] rfl rfl (by decide) (by decide) hk1 hFc hP1 hD1
          have hK := (hK.sub (tys' := []) [] rfl).app hK1
          generalize H1 = H at hP hS ⊢
          have hP : va_P (dC, dI) vwCl [] H := hP
          have hD : va_D A [] := hD
          have hK : va_K (dC, dI) vwCl [] s := hK
          have hq_18 := hw
          refine W.lcmp hx hb dX14_isKept_46 ?_
          refine lv_topi (fun x_19 ex_19 => ?_)
          refine lv_if_eq (tgt := 70) hx hb dX14_isKept_47 (by decide) (fun c_20 => ?_) (fun c_20 => ?_)
          · have ic_20 : x_19.toInt = 0 := zi_eq c_20
            refine lv_iconst (v := 1) hx hb dX14_isKept_70 (by decide) ?_
            refine lv_goto (tgt := 75) hx hb dX14_isKept_71 (by decide) ?_
            have hlit : Int32.toInt 1 = 1 := by decide
            have hP9 := hP.sub (ws' := []) [] rfl
            have hD9 := hD.sub (ws' := []) [] (by decide) rfl
            have hK9 := hK.sub (tys' := []) [] rfl
            exact W.zret (v := 1) hx hb hr rfl (fun t ht hW => ⟨⟨1, (), rfl, ⟨by omega, (Or.inl ⟨by decide, 5, by decide, by decide, (lc_eq (by rw [← ex_19]; omega)).trans hq_18⟩)⟩, by rw [ht]; exact hP9, va_K.moved hW.alike hK9, hD9⟩, hS.F ht⟩) hS.2.2 dX14_isKept_75
          · have ic_20 : x_19.toInt ≠ 0 := zi_ne c_20
            refine lv_lload_n hx hb dX14_isKept_50 rfl (lv_at hl 0 rfl) ?_
            refine va_ldcS (tx := "match") (q := aK 6) hx hb hown (hT.2.2.2.2.1 6 (by decide)) dX14_isKept_51 ?_
            have hPc := hP.sub (ws' := []) [] rfl
            have hDc := hD.sub (ws' := []) [] (by decide) rfl
            have hKc := hK.sub (tys' := []) [] rfl
            have hFc := va_free (wc := []) hD hS hAA [] rfl
            refine va_calll (va_runS (As := [.ref (aK 6)]) (rest := [.long wo]) ⟨hx, hb, hml, hown, hA⟩ (c_X14_lettersOf_x l dC dI aK aV 6 H.size (by omega)) (va_cwS 1 hA (zw_S wi_1721 wi_1722 wi_143 (zw_good wi_1723)) rfl rfl rfl (by decide +kernel) ⟨(Nat.le_of_ble_eq_true rfl), (Nat.le_of_ble_eq_true rfl)⟩) ⟨zP_blind, zz_pre hKc hPc hDc hN hT hS hFc⟩ rfl rfl hl.1 rfl (lv_room (Nat.le_of_ble_eq_true rfl)) dX14_isKept_53 ⟨(Nat.le_of_ble_eq_true rfl), (Nat.le_of_ble_eq_true rfl)⟩) hS (fun q _ h => hFc q h) hFc (fun r_21 u t H1 locs ht hvm hw hB hz1 hk1 hS => ?_)
            obtain ⟨hP1, hK1, hD1⟩ := hB
            rw [ht] at hP1
            have hK1 := va_K.moved hvm.symm hK1
            obtain ⟨hP, hD⟩ := va_join (wr := []) (w1 := []) hP hD [] [] rfl rfl (by decide) (by decide) hk1 hFc hP1 hD1
            have hK := (hK.sub (tys' := []) [] rfl).app hK1
            generalize H1 = H at hP hS ⊢
            have hP : va_P (dC, dI) vwCl [] H := hP
            have hD : va_D A [] := hD
            have hK : va_K (dC, dI) vwCl [] s := hK
            have hq_22 := hw
            refine W.lcmp hx hb dX14_isKept_56 ?_
            refine lv_topi (fun x_23 ex_23 => ?_)
            refine lv_if_eq (tgt := 70) hx hb dX14_isKept_57 (by decide) (fun c_24 => ?_) (fun c_24 => ?_)
            · have ic_24 : x_23.toInt = 0 := zi_eq c_24
              refine lv_iconst (v := 1) hx hb dX14_isKept_70 (by decide) ?_
              refine lv_goto (tgt := 75) hx hb dX14_isKept_71 (by decide) ?_
              have hlit : Int32.toInt 1 = 1 := by decide
              have hP9 := hP.sub (ws' := []) [] rfl
              have hD9 := hD.sub (ws' := []) [] (by decide) rfl
              have hK9 := hK.sub (tys' := []) [] rfl
              exact W.zret (v := 1) hx hb hr rfl (fun t ht hW => ⟨⟨1, (), rfl, ⟨by omega, (Or.inl ⟨by decide, 6, by decide, by decide, (lc_eq (by rw [← ex_23]; omega)).trans hq_22⟩)⟩, by rw [ht]; exact hP9, va_K.moved hW.alike hK9, hD9⟩, hS.F ht⟩) hS.2.2 dX14_isKept_75
            · have ic_24 : x_23.toInt ≠ 0 := zi_ne c_24
              refine lv_lload_n hx hb dX14_isKept_60 rfl (lv_at hl 0 rfl) ?_
              refine va_ldcS (tx := "fun") (q := aK 7) hx hb hown (hT.2.2.2.2.1 7 (by decide)) dX14_isKept_61 ?_
              have hPc := hP.sub (ws' := []) [] rfl
              have hDc := hD.sub (ws' := []) [] (by decide) rfl
              have hKc := hK.sub (tys' := []) [] rfl
              have hFc := va_free (wc := []) hD hS hAA [] rfl
              refine va_calll (va_runS (As := [.ref (aK 7)]) (rest := [.long wo]) ⟨hx, hb, hml, hown, hA⟩ (c_X14_lettersOf_x l dC dI aK aV 7 H.size (by omega)) (va_cwS 1 hA (zw_S wi_1721 wi_1722 wi_143 (zw_good wi_1723)) rfl rfl rfl (by decide +kernel) ⟨(Nat.le_of_ble_eq_true rfl), (Nat.le_of_ble_eq_true rfl)⟩) ⟨zP_blind, zz_pre hKc hPc hDc hN hT hS hFc⟩ rfl rfl hl.1 rfl (lv_room (Nat.le_of_ble_eq_true rfl)) dX14_isKept_63 ⟨(Nat.le_of_ble_eq_true rfl), (Nat.le_of_ble_eq_true rfl)⟩) hS (fun q _ h => hFc q h) hFc (fun r_25 u t H1 locs ht hvm hw hB hz1 hk1 hS => ?_)
              obtain ⟨hP1, hK1, hD1⟩ := hB
              rw [ht] at hP1
              have hK1 := va_K.moved hvm.symm hK1
              obtain ⟨hP, hD⟩ := va_join (wr := []) (w1 := []) hP hD [] [] rfl rfl (by decide) (by decide) hk1 hFc hP1 hD1
              have hK := (hK.sub (tys' := []) [] rfl).app hK1
              generalize H1 = H at hP hS ⊢
              have hP : va_P (dC, dI) vwCl [] H := hP
              have hD : va_D A [] := hD
              have hK : va_K (dC, dI) vwCl [] s := hK
              have hq_26 := hw
              refine W.lcmp hx hb dX14_isKept_66 ?_
              refine lv_topi (fun x_27 ex_27 => ?_)
              refine lv_if_ne (tgt := 74) hx hb dX14_isKept_67 (by decide) (fun c_28 => ?_) (fun c_28 => ?_)
              · have ic_28 : x_27.toInt ≠ 0 := zi_ne c_28
                refine lv_iconst (v := 0) hx hb dX14_isKept_74 (by decide) ?_
                have hlit : Int32.toInt 0 = 0 := by decide
                have hP9 := hP.sub (ws' := []) [] rfl
                have hD9 := hD.sub (ws' := []) [] (by decide) rfl
                have hK9 := hK.sub (tys' := []) [] rfl
                exact W.zret (v := 0) hx hb hr rfl (fun t ht hW => ⟨⟨0, (), rfl, ⟨by omega, (rx_kp_n (by decide) (fun e9 => absurd (show x_3.toInt = 0 by rw [ex_3, e9, hq_2]; exact lc_rf) (by omega)) (fun e9 => absurd (show x_7.toInt = 0 by rw [ex_7, e9, hq_6]; exact lc_rf) (by omega)) (fun e9 => absurd (show x_11.toInt = 0 by rw [ex_11, e9, hq_10]; exact lc_rf) (by omega)) (fun e9 => absurd (show x_15.toInt = 0 by rw [ex_15, e9, hq_14]; exact lc_rf) (by omega)) (fun e9 => absurd (show x_19.toInt = 0 by rw [ex_19, e9, hq_18]; exact lc_rf) (by omega)) (fun e9 => absurd (show x_23.toInt = 0 by rw [ex_23, e9, hq_22]; exact lc_rf) (by omega)) (fun e9 => absurd (show x_27.toInt = 0 by rw [ex_27, e9, hq_26]; exact lc_rf) (by omega)))⟩, by rw [ht]; exact hP9, va_K.moved hW.alike hK9, hD9⟩, hS.F ht⟩) hS.2.2 dX14_isKept_75
              · have ic_28 : x_27.toInt = 0 := zi_eq c_28
                refine lv_iconst (v := 1) hx hb dX14_isKept_70 (by decide) ?_
                refine lv_goto (tgt := 75) hx hb dX14_isKept_71 (by decide) ?_
                have hlit : Int32.toInt 1 = 1 := by decide
                have hP9 := hP.sub (ws' := []) [] rfl
                have hD9 := hD.sub (ws' := []) [] (by decide) rfl
                have hK9 := hK.sub (tys' := []) [] rfl
                exact W.zret (v := 1) hx hb hr rfl (fun t ht hW => ⟨⟨1, (), rfl, ⟨by omega, (Or.inl ⟨by decide, 7, by decide, by decide, (lc_eq (by rw [← ex_27]; omega)).trans hq_26⟩)⟩, by rw [ht]; exact hP9, va_K.moved hW.alike hK9, hD9⟩, hS.F ht⟩) hS.2.2 dX14_isKept_75
set_option maxHeartbeats 4000000 in
set_option maxRecDepth 100000 in
theorem c_X14_isSmall_x (l : Launch) (dC : Nat → ClassId) (dI : Nat → Nat → Nat) (aK aV : Nat → Nat) (ch : Int32) (sz : Nat)  : Met l yX14_isSmall (Cond.code yX14_isSmall cX14_isSmall 1 (some .boolean) :: zw) ({ frames := 8, cells := 0, slots := 0, locals := 200 }) (va_Pc [.int ch] (zP dC dI aK aV sz [] [])) (va_Qi (fun (r : Int32) (u : Unit) => (r.toInt = 1 ∧ 97 ≤ ch.toInt ∧ ch.toInt ≤ 122 ∨ r.toInt = 0 ∧ (ch.toInt < 97 ∨ 122 < ch.toInt))) (fun u => zQ dC dI (va_A [] sz) [] []) (va_A [] sz)) 0 0 (va_A [] sz) := by
  refine Met.ofW (cc := cX14_isSmall) (maxL := 1) (ret := (some .boolean)) (by decide) rfl ?_
  intro p e s m args below meth c s₁ B hml hv
  obtain ⟨rfl, hsz, hP, hK, hD0, hN, hT⟩ := hv
  have hx := B.exec
  have hb := B.bytes
  have hr := B.returns
  have hts := atoms_spec (ws := Cond.code yX14_isSmall cX14_isSmall 1 (some .boolean) :: zw) B.pre
  have hA : ∀ w ∈ zw, w.before _ s = true := fun w h => hts w (List.mem_cons_of_mem _ h)
  have hown : s.vm.findClass RX14 = some m.cls := findClass_of_methodNamed B.named
  have hlocks := B.notSynchronized
  subst hsz
  have hD := hD0.self (sz := s.heap.size)
  generalize hAe : va_A [] s.heap.size = A at hD hT ⊢
  have hAA : ∀ q : Nat, s.heap.size ≤ q → A q := fun q h => by rw [← hAe]; exact Or.inr h
  have hS : va_S A s.heap s.heap [] := va_S.rf
  have hl := lv_entry ([.int ch]) (n := 1) (Nat.le_of_ble_eq_true rfl)
  rw [lg_entry_eq]
  generalize (lg_sl ([.int ch]) ++ List.replicate (1 - (lg_sl ([.int ch])).length) Slot.unset).toArray = ls at hl ⊢
  have hl : lv_has ls 1 [(0, .int ch)] := hl
  refine lv_iload_n hx hb dX14_isSmall_0 rfl (lv_at hl 0 rfl) ?_
  refine lv_bipush (v := 97) hx hb dX14_isSmall_1 (by decide) ?_
  refine lv_icmp_lt (tgt := 16) hx hb dX14_isSmall_3 (by decide) (fun c_1 => ?_) (fun c_1 => ?_)
  · have ic_1 : ch.toInt < 97 := zi_lt c_1
    refine lv_iconst (v := 0) hx hb dX14_isSmall_16 (by decide) ?_
    have hlit : Int32.toInt 0 = 0 := by decide
    have hP9 := hP.sub (ws' := []) [] rfl
    have hD9 := hD.sub (ws' := []) [] (by decide) rfl
    have hK9 := hK.sub (tys' := []) [] rfl
    exact W.zret (v := 0) hx hb hr rfl (fun t ht hW => ⟨⟨0, (), rfl, by omega, by rw [ht]; exact hP9, va_K.moved hW.alike hK9, hD9⟩, hS.F ht⟩) hS.2.2 dX14_isSmall_17
  · have ic_1 : 97 ≤ ch.toInt := zi_nlt c_1
    refine lv_iload_n hx hb dX14_isSmall_6 rfl (lv_at hl 0 rfl) ?_
    refine lv_bipush (v := 122) hx hb dX14_isSmall_7 (by decide) ?_
    refine lv_icmp_gt (tgt := 16) hx hb dX14_isSmall_9 (by decide) (fun c_2 => ?_) (fun c_2 => ?_)
    · have ic_2 : 122 < ch.toInt := zi_lt c_2
      refine lv_iconst (v := 0) hx hb dX14_isSmall_16 (by decide) ?_
      have hlit : Int32.toInt 0 = 0 := by decide
      have hP9 := hP.sub (ws' := []) [] rfl
      have hD9 := hD.sub (ws' := []) [] (by decide) rfl
      have hK9 := hK.sub (tys' := []) [] rfl
      exact W.zret (v := 0) hx hb hr rfl (fun t ht hW => ⟨⟨0, (), rfl, by omega, by rw [ht]; exact hP9, va_K.moved hW.alike hK9, hD9⟩, hS.F ht⟩) hS.2.2 dX14_isSmall_17
    · have ic_2 : ch.toInt ≤ 122 := zi_nlt c_2
      refine lv_iconst (v := 1) hx hb dX14_isSmall_12 (by decide) ?_
      refine lv_goto (tgt := 17) hx hb dX14_isSmall_13 (by decide) ?_
      have hlit : Int32.toInt 1 = 1 := by decide
      have hP9 := hP.sub (ws' := []) [] rfl
      have hD9 := hD.sub (ws' := []) [] (by decide) rfl
      have hK9 := hK.sub (tys' := []) [] rfl
      exact W.zret (v := 1) hx hb hr rfl (fun t ht hW => ⟨⟨1, (), rfl, by omega, by rw [ht]; exact hP9, va_K.moved hW.alike hK9, hD9⟩, hS.F ht⟩) hS.2.2 dX14_isSmall_17
set_option maxHeartbeats 4000000 in
set_option maxRecDepth 100000 in
theorem c_X14_isGreat_x (l : Launch) (dC : Nat → ClassId) (dI : Nat → Nat → Nat) (aK aV : Nat → Nat) (ch : Int32) (sz : Nat)  : Met l yX14_isGreat (Cond.code yX14_isGreat cX14_isGreat 1 (some .boolean) :: zw) ({ frames := 8, cells := 0, slots := 0, locals := 200 }) (va_Pc [.int ch] (zP dC dI aK aV sz [] [])) (va_Qi (fun (r : Int32) (u : Unit) => (r.toInt = 1 ∧ 65 ≤ ch.toInt ∧ ch.toInt ≤ 90 ∨ r.toInt = 0 ∧ (ch.toInt < 65 ∨ 90 < ch.toInt))) (fun u => zQ dC dI (va_A [] sz) [] []) (va_A [] sz)) 0 0 (va_A [] sz) := by
  refine Met.ofW (cc := cX14_isGreat) (maxL := 1) (ret := (some .boolean)) (by decide) rfl ?_
  intro p e s m args below meth c s₁ B hml hv
  obtain ⟨rfl, hsz, hP, hK, hD0, hN, hT⟩ := hv
  have hx := B.exec
  have hb := B.bytes
  have hr := B.returns
  have hts := atoms_spec (ws := Cond.code yX14_isGreat cX14_isGreat 1 (some .boolean) :: zw) B.pre
  have hA : ∀ w ∈ zw, w.before _ s = true := fun w h => hts w (List.mem_cons_of_mem _ h)
  have hown : s.vm.findClass RX14 = some m.cls := findClass_of_methodNamed B.named
  have hlocks := B.notSynchronized
  subst hsz
  have hD := hD0.self (sz := s.heap.size)
  generalize hAe : va_A [] s.heap.size = A at hD hT ⊢
  have hAA : ∀ q : Nat, s.heap.size ≤ q → A q := fun q h => by rw [← hAe]; exact Or.inr h
  have hS : va_S A s.heap s.heap [] := va_S.rf
  have hl := lv_entry ([.int ch]) (n := 1) (Nat.le_of_ble_eq_true rfl)
  rw [lg_entry_eq]
  generalize (lg_sl ([.int ch]) ++ List.replicate (1 - (lg_sl ([.int ch])).length) Slot.unset).toArray = ls at hl ⊢
  have hl : lv_has ls 1 [(0, .int ch)] := hl
  refine lv_iload_n hx hb dX14_isGreat_0 rfl (lv_at hl 0 rfl) ?_
  refine lv_bipush (v := 65) hx hb dX14_isGreat_1 (by decide) ?_
  refine lv_icmp_lt (tgt := 16) hx hb dX14_isGreat_3 (by decide) (fun c_1 => ?_) (fun c_1 => ?_)
  · have ic_1 : ch.toInt < 65 := zi_lt c_1
    refine lv_iconst (v := 0) hx hb dX14_isGreat_16 (by decide) ?_
    have hlit : Int32.toInt 0 = 0 := by decide
    have hP9 := hP.sub (ws' := []) [] rfl
    have hD9 := hD.sub (ws' := []) [] (by decide) rfl
    have hK9 := hK.sub (tys' := []) [] rfl
    exact W.zret (v := 0) hx hb hr rfl (fun t ht hW => ⟨⟨0, (), rfl, by omega, by rw [ht]; exact hP9, va_K.moved hW.alike hK9, hD9⟩, hS.F ht⟩) hS.2.2 dX14_isGreat_17
  · have ic_1 : 65 ≤ ch.toInt := zi_nlt c_1
    refine lv_iload_n hx hb dX14_isGreat_6 rfl (lv_at hl 0 rfl) ?_
    refine lv_bipush (v := 90) hx hb dX14_isGreat_7 (by decide) ?_
    refine lv_icmp_gt (tgt := 16) hx hb dX14_isGreat_9 (by decide) (fun c_2 => ?_) (fun c_2 => ?_)
    · have ic_2 : 90 < ch.toInt := zi_lt c_2
      refine lv_iconst (v := 0) hx hb dX14_isGreat_16 (by decide) ?_
      have hlit : Int32.toInt 0 = 0 := by decide
      have hP9 := hP.sub (ws' := []) [] rfl
      have hD9 := hD.sub (ws' := []) [] (by decide) rfl
      have hK9 := hK.sub (tys' := []) [] rfl
      exact W.zret (v := 0) hx hb hr rfl (fun t ht hW => ⟨⟨0, (), rfl, by omega, by rw [ht]; exact hP9, va_K.moved hW.alike hK9, hD9⟩, hS.F ht⟩) hS.2.2 dX14_isGreat_17
    · have ic_2 : ch.toInt ≤ 90 := zi_nlt c_2
      refine lv_iconst (v := 1) hx hb dX14_isGreat_12 (by decide) ?_
      refine lv_goto (tgt := 17) hx hb dX14_isGreat_13 (by decide) ?_
      have hlit : Int32.toInt 1 = 1 := by decide
      have hP9 := hP.sub (ws' := []) [] rfl
      have hD9 := hD.sub (ws' := []) [] (by decide) rfl
      have hK9 := hK.sub (tys' := []) [] rfl
      exact W.zret (v := 1) hx hb hr rfl (fun t ht hW => ⟨⟨1, (), rfl, by omega, by rw [ht]; exact hP9, va_K.moved hW.alike hK9, hD9⟩, hS.F ht⟩) hS.2.2 dX14_isGreat_17
set_option maxHeartbeats 4000000 in
set_option maxRecDepth 100000 in
theorem c_X14_isDigit_x (l : Launch) (dC : Nat → ClassId) (dI : Nat → Nat → Nat) (aK aV : Nat → Nat) (ch : Int32) (sz : Nat)  : Met l yX14_isDigit (Cond.code yX14_isDigit cX14_isDigit 1 (some .boolean) :: zw) ({ frames := 8, cells := 0, slots := 0, locals := 200 }) (va_Pc [.int ch] (zP dC dI aK aV sz [] [])) (va_Qi (fun (r : Int32) (u : Unit) => (r.toInt = 1 ∧ 48 ≤ ch.toInt ∧ ch.toInt ≤ 57 ∨ r.toInt = 0 ∧ (ch.toInt < 48 ∨ 57 < ch.toInt))) (fun u => zQ dC dI (va_A [] sz) [] []) (va_A [] sz)) 0 0 (va_A [] sz) := by
  refine Met.ofW (cc := cX14_isDigit) (maxL := 1) (ret := (some .boolean)) (by decide) rfl ?_
  intro p e s m args below meth c s₁ B hml hv
  obtain ⟨rfl, hsz, hP, hK, hD0, hN, hT⟩ := hv
  have hx := B.exec
  have hb := B.bytes
  have hr := B.returns
  have hts := atoms_spec (ws := Cond.code yX14_isDigit cX14_isDigit 1 (some .boolean) :: zw) B.pre
  have hA : ∀ w ∈ zw, w.before _ s = true := fun w h => hts w (List.mem_cons_of_mem _ h)
  have hown : s.vm.findClass RX14 = some m.cls := findClass_of_methodNamed B.named
  have hlocks := B.notSynchronized
  subst hsz
  have hD := hD0.self (sz := s.heap.size)
  generalize hAe : va_A [] s.heap.size = A at hD hT ⊢
  have hAA : ∀ q : Nat, s.heap.size ≤ q → A q := fun q h => by rw [← hAe]; exact Or.inr h
  have hS : va_S A s.heap s.heap [] := va_S.rf
  have hl := lv_entry ([.int ch]) (n := 1) (Nat.le_of_ble_eq_true rfl)
  rw [lg_entry_eq]
  generalize (lg_sl ([.int ch]) ++ List.replicate (1 - (lg_sl ([.int ch])).length) Slot.unset).toArray = ls at hl ⊢
  have hl : lv_has ls 1 [(0, .int ch)] := hl
  refine lv_iload_n hx hb dX14_isDigit_0 rfl (lv_at hl 0 rfl) ?_
  refine lv_bipush (v := 48) hx hb dX14_isDigit_1 (by decide) ?_
  refine lv_icmp_lt (tgt := 16) hx hb dX14_isDigit_3 (by decide) (fun c_1 => ?_) (fun c_1 => ?_)
  · have ic_1 : ch.toInt < 48 := zi_lt c_1
    refine lv_iconst (v := 0) hx hb dX14_isDigit_16 (by decide) ?_
    have hlit : Int32.toInt 0 = 0 := by decide
    have hP9 := hP.sub (ws' := []) [] rfl
    have hD9 := hD.sub (ws' := []) [] (by decide) rfl
    have hK9 := hK.sub (tys' := []) [] rfl
    exact W.zret (v := 0) hx hb hr rfl (fun t ht hW => ⟨⟨0, (), rfl, by omega, by rw [ht]; exact hP9, va_K.moved hW.alike hK9, hD9⟩, hS.F ht⟩) hS.2.2 dX14_isDigit_17
  · have ic_1 : 48 ≤ ch.toInt := zi_nlt c_1
    refine lv_iload_n hx hb dX14_isDigit_6 rfl (lv_at hl 0 rfl) ?_
    refine lv_bipush (v := 57) hx hb dX14_isDigit_7 (by decide) ?_
    refine lv_icmp_gt (tgt := 16) hx hb dX14_isDigit_9 (by decide) (fun c_2 => ?_) (fun c_2 => ?_)
    · have ic_2 : 57 < ch.toInt := zi_lt c_2
      refine lv_iconst (v := 0) hx hb dX14_isDigit_16 (by decide) ?_
      have hlit : Int32.toInt 0 = 0 := by decide
      have hP9 := hP.sub (ws' := []) [] rfl
      have hD9 := hD.sub (ws' := []) [] (by decide) rfl
      have hK9 := hK.sub (tys' := []) [] rfl
      exact W.zret (v := 0) hx hb hr rfl (fun t ht hW => ⟨⟨0, (), rfl, by omega, by rw [ht]; exact hP9, va_K.moved hW.alike hK9, hD9⟩, hS.F ht⟩) hS.2.2 dX14_isDigit_17
    · have ic_2 : ch.toInt ≤ 57 := zi_nlt c_2
      refine lv_iconst (v := 1) hx hb dX14_isDigit_12 (by decide) ?_
      refine lv_goto (tgt := 17) hx hb dX14_isDigit_13 (by decide) ?_
      have hlit : Int32.toInt 1 = 1 := by decide
      have hP9 := hP.sub (ws' := []) [] rfl
      have hD9 := hD.sub (ws' := []) [] (by decide) rfl
      have hK9 := hK.sub (tys' := []) [] rfl
      exact W.zret (v := 1) hx hb hr rfl (fun t ht hW => ⟨⟨1, (), rfl, by omega, by rw [ht]; exact hP9, va_K.moved hW.alike hK9, hD9⟩, hS.F ht⟩) hS.2.2 dX14_isDigit_17
set_option maxHeartbeats 4000000 in
set_option maxRecDepth 100000 in
theorem c_X14_byteAt_x (l : Launch) (dC : Nat → ClassId) (dI : Nat → Nat → Nat) (aK aV : Nat → Nat) (h0 : Nat) (m_thrown : Int32) (m_stop : Nat) (m_tape : Nat) (m_taped : Int32) (m_length : Int32) (m_at : Int32) (m_sort : Int32) (m_place : Int32) (m_sign : Int32) (m_letters : Int64) (m_p : Nat) (m_spare : Nat) (m_isTaken : Int32) (m_scope : Nat) (m_scoped : Int32) (m_deep : Int32) (m_counted : Int32) (m_fault : Int32) (m_where : Int32) (m_cellKind : Nat) (m_cellCount : Nat) (m_free : Nat) (m_pile : Nat) (m_cellField : Nat) (m_freeCount : Int32) (m_given : Int32) (m_nextPlain : Int32) (m_otherKind : Nat) (m_otherField : Nat) (m_isPlain : Int32) (m_hasRun : Int32) (m_hasValue : Int32) (m_hasOther : Int32) (m_value : Int64) (m_other : Int64) (m_steps : Int32) (m_made : Int32) (m_reused : Int32) (m_freed : Int32) (m_most : Int32) (m_doubled : Int32) (m_openMost : Int32) (m_taskWhat : Nat) (m_taskPart : Nat) (m_values : Nat) (m_tasks : Int32) (m_valued : Int32) (m_open : Int32) (m_slots : Nat) (m_present : Nat) (m_shell : Nat) (m_shellArm : Nat) (m_shellCall : Nat) (m_shells : Int32) (m_keptCounts : Nat) (m_asideKind : Nat) (m_asideCount : Nat) (m_asideField : Nat) (m_out : Nat) (m_side : Nat) (m_outs : Int32) (m_sides : Int32) (m_saying : Nat) (mk_ : ClassId) (gt : Nat → Int32) (k : Int32) (sz : Nat) (hk0 : 0 ≤ k.toInt) (hle : m_length.toInt ≤ 2000) : Met l yX14_byteAt (Cond.code yX14_byteAt cX14_byteAt 2 (some .int) :: zw) ({ frames := 8, cells := 0, slots := 0, locals := 200 }) (va_Pc [.ref h0, .int k] (zP dC dI aK aV sz [(mk_, .byte)] [(h0, .inr (14, [.int m_thrown, .ref m_stop, .ref m_tape, .int m_taped, .int m_length, .int m_at, .int m_sort, .int m_place, .int m_sign, .long m_letters, .ref m_p, .ref m_spare, .int m_isTaken, .ref m_scope, .int m_scoped, .int m_deep, .int m_counted, .int m_fault, .int m_where, .ref m_cellKind, .ref m_cellCount, .ref m_free, .ref m_pile, .ref m_cellField, .int m_freeCount, .int m_given, .int m_nextPlain, .ref m_otherKind, .ref m_otherField, .int m_isPlain, .int m_hasRun, .int m_hasValue, .int m_hasOther, .long m_value, .long m_other, .int m_steps, .int m_made, .int m_reused, .int m_freed, .int m_most, .int m_doubled, .int m_openMost, .ref m_taskWhat, .ref m_taskPart, .ref m_values, .int m_tasks, .int m_valued, .int m_open, .ref m_slots, .ref m_present, .ref m_shell, .ref m_shellArm, .ref m_shellCall, .int m_shells, .ref m_keptCounts, .ref m_asideKind, .ref m_asideCount, .ref m_asideField, .ref m_out, .ref m_side, .int m_outs, .int m_sides, .ref m_saying])), (m_tape, .inl (mk_, 2000, .inl gt))])) (va_Qi (fun (r : Int32) (u : Unit) => (r = zrb gt m_length k) ∧ ((zrb gt m_length k).toInt = -1 ∧ m_length.toInt ≤ k.toInt ∨ 0 ≤ (zrb gt m_length k).toInt ∧ (zrb gt m_length k).toInt < 256 ∧ k.toInt < m_length.toInt)) (fun u => zQ dC dI (va_A [(h0, .inr (14, [.int m_thrown, .ref m_stop, .ref m_tape, .int m_taped, .int m_length, .int m_at, .int m_sort, .int m_place, .int m_sign, .long m_letters, .ref m_p, .ref m_spare, .int m_isTaken, .ref m_scope, .int m_scoped, .int m_deep, .int m_counted, .int m_fault, .int m_where, .ref m_cellKind, .ref m_cellCount, .ref m_free, .ref m_pile, .ref m_cellField, .int m_freeCount, .int m_given, .int m_nextPlain, .ref m_otherKind, .ref m_otherField, .int m_isPlain, .int m_hasRun, .int m_hasValue, .int m_hasOther, .long m_value, .long m_other, .int m_steps, .int m_made, .int m_reused, .int m_freed, .int m_most, .int m_doubled, .int m_openMost, .ref m_taskWhat, .ref m_taskPart, .ref m_values, .int m_tasks, .int m_valued, .int m_open, .ref m_slots, .ref m_present, .ref m_shell, .ref m_shellArm, .ref m_shellCall, .int m_shells, .ref m_keptCounts, .ref m_asideKind, .ref m_asideCount, .ref m_asideField, .ref m_out, .ref m_side, .int m_outs, .int m_sides, .ref m_saying])), (m_tape, .inl (mk_, 2000, .inl gt))] sz) [(mk_, .byte)] [(h0, .inr (14, [.int m_thrown, .ref m_stop, .ref m_tape, .int m_taped, .int m_length, .int m_at, .int m_sort, .int m_place, .int m_sign, .long m_letters, .ref m_p, .ref m_spare, .int m_isTaken, .ref m_scope, .int m_scoped, .int m_deep, .int m_counted, .int m_fault, .int m_where, .ref m_cellKind, .ref m_cellCount, .ref m_free, .ref m_pile, .ref m_cellField, .int m_freeCount, .int m_given, .int m_nextPlain, .ref m_otherKind, .ref m_otherField, .int m_isPlain, .int m_hasRun, .int m_hasValue, .int m_hasOther, .long m_value, .long m_other, .int m_steps, .int m_made, .int m_reused, .int m_freed, .int m_most, .int m_doubled, .int m_openMost, .ref m_taskWhat, .ref m_taskPart, .ref m_values, .int m_tasks, .int m_valued, .int m_open, .ref m_slots, .ref m_present, .ref m_shell, .ref m_shellArm, .ref m_shellCall, .int m_shells, .ref m_keptCounts, .ref m_asideKind, .ref m_asideCount, .ref m_asideField, .ref m_out, .ref m_side, .int m_outs, .int m_sides, .ref m_saying])), (m_tape, .inl (mk_, 2000, .inl gt))]) (va_A [(h0, .inr (14, [.int m_thrown, .ref m_stop, .ref m_tape, .int m_taped, .int m_length, .int m_at, .int m_sort, .int m_place, .int m_sign, .long m_letters, .ref m_p, .ref m_spare, .int m_isTaken, .ref m_scope, .int m_scoped, .int m_deep, .int m_counted, .int m_fault, .int m_where, .ref m_cellKind, .ref m_cellCount, .ref m_free, .ref m_pile, .ref m_cellField, .int m_freeCount, .int m_given, .int m_nextPlain, .ref m_otherKind, .ref m_otherField, .int m_isPlain, .int m_hasRun, .int m_hasValue, .int m_hasOther, .long m_value, .long m_other, .int m_steps, .int m_made, .int m_reused, .int m_freed, .int m_most, .int m_doubled, .int m_openMost, .ref m_taskWhat, .ref m_taskPart, .ref m_values, .int m_tasks, .int m_valued, .int m_open, .ref m_slots, .ref m_present, .ref m_shell, .ref m_shellArm, .ref m_shellCall, .int m_shells, .ref m_keptCounts, .ref m_asideKind, .ref m_asideCount, .ref m_asideField, .ref m_out, .ref m_side, .int m_outs, .int m_sides, .ref m_saying])), (m_tape, .inl (mk_, 2000, .inl gt))] sz)) 0 0 (va_A [(h0, .inr (14, [.int m_thrown, .ref m_stop, .ref m_tape, .int m_taped, .int m_length, .int m_at, .int m_sort, .int m_place, .int m_sign, .long m_letters, .ref m_p, .ref m_spare, .int m_isTaken, .ref m_scope, .int m_scoped, .int m_deep, .int m_counted, .int m_fault, .int m_where, .ref m_cellKind, .ref m_cellCount, .ref m_free, .ref m_pile, .ref m_cellField, .int m_freeCount, .int m_given, .int m_nextPlain, .ref m_otherKind, .ref m_otherField, .int m_isPlain, .int m_hasRun, .int m_hasValue, .int m_hasOther, .long m_value, .long m_other, .int m_steps, .int m_made, .int m_reused, .int m_freed, .int m_most, .int m_doubled, .int m_openMost, .ref m_taskWhat, .ref m_taskPart, .ref m_values, .int m_tasks, .int m_valued, .int m_open, .ref m_slots, .ref m_present, .ref m_shell, .ref m_shellArm, .ref m_shellCall, .int m_shells, .ref m_keptCounts, .ref m_asideKind, .ref m_asideCount, .ref m_asideField, .ref m_out, .ref m_side, .int m_outs, .int m_sides, .ref m_saying])), (m_tape, .inl (mk_, 2000, .inl gt))] sz) := by
  refine Met.ofW (cc := cX14_byteAt) (maxL := 2) (ret := (some .int)) (by decide) rfl ?_
  intro p e s m args below meth c s₁ B hml hv
  obtain ⟨rfl, hsz, hP, hK, hD0, hN, hT⟩ := hv
  have hx := B.exec
  have hb := B.bytes
  have hr := B.returns
  have hts := atoms_spec (ws := Cond.code yX14_byteAt cX14_byteAt 2 (some .int) :: zw) B.pre
  have hA : ∀ w ∈ zw, w.before _ s = true := fun w h => hts w (List.mem_cons_of_mem _ h)
  have hown : s.vm.findClass RX14 = some m.cls := findClass_of_methodNamed B.named
  have hlocks := B.notSynchronized
  subst hsz
  have hD := hD0.self (sz := s.heap.size)
  generalize hAe : va_A [(h0, .inr (14, [.int m_thrown, .ref m_stop, .ref m_tape, .int m_taped, .int m_length, .int m_at, .int m_sort, .int m_place, .int m_sign, .long m_letters, .ref m_p, .ref m_spare, .int m_isTaken, .ref m_scope, .int m_scoped, .int m_deep, .int m_counted, .int m_fault, .int m_where, .ref m_cellKind, .ref m_cellCount, .ref m_free, .ref m_pile, .ref m_cellField, .int m_freeCount, .int m_given, .int m_nextPlain, .ref m_otherKind, .ref m_otherField, .int m_isPlain, .int m_hasRun, .int m_hasValue, .int m_hasOther, .long m_value, .long m_other, .int m_steps, .int m_made, .int m_reused, .int m_freed, .int m_most, .int m_doubled, .int m_openMost, .ref m_taskWhat, .ref m_taskPart, .ref m_values, .int m_tasks, .int m_valued, .int m_open, .ref m_slots, .ref m_present, .ref m_shell, .ref m_shellArm, .ref m_shellCall, .int m_shells, .ref m_keptCounts, .ref m_asideKind, .ref m_asideCount, .ref m_asideField, .ref m_out, .ref m_side, .int m_outs, .int m_sides, .ref m_saying])), (m_tape, .inl (mk_, 2000, .inl gt))] s.heap.size = A at hD hT ⊢
  have hAA : ∀ q : Nat, s.heap.size ≤ q → A q := fun q h => by rw [← hAe]; exact Or.inr h
  have hS : va_S A s.heap s.heap [] := va_S.rf
  have hl := lv_entry ([.ref h0, .int k]) (n := 2) (Nat.le_of_ble_eq_true rfl)
  rw [lg_entry_eq]
  generalize (lg_sl ([.ref h0, .int k]) ++ List.replicate (2 - (lg_sl ([.ref h0, .int k])).length) Slot.unset).toArray = ls at hl ⊢
  have hl : lv_has ls 2 [(0, .ref h0), (1, .int k)] := hl
  refine lv_iload_n hx hb dX14_byteAt_0 rfl (lv_at hl 1 rfl) ?_
  refine lv_aload_n hx hb dX14_byteAt_1 rfl (lv_at hl 0 rfl) ?_
  refine va_get (D := (dC, dI)) (ci := 14) (v := .int m_length) (C := RX14) (T := TX14) (N := 63) hx hb hA zin_X14 hown hK hP 0 rfl rfl 4 (by decide) (hA _ wi_1501) (fun _ h9 => h9) rfl dX14_byteAt_2 ?_
  refine lv_icmp_ge (tgt := 21) hx hb dX14_byteAt_5 (by decide) (fun c_1 => ?_) (fun c_1 => ?_)
  · have ic_1 : m_length.toInt ≤ k.toInt := zi_le c_1
    refine lv_iconst (v := (-1)) hx hb dX14_byteAt_21 (by decide) ?_
    have hlit : Int32.toInt (-1) = (-1) := by decide
    have hP9 := hP.sub (ws' := [(h0, .inr (14, [.int m_thrown, .ref m_stop, .ref m_tape, .int m_taped, .int m_length, .int m_at, .int m_sort, .int m_place, .int m_sign, .long m_letters, .ref m_p, .ref m_spare, .int m_isTaken, .ref m_scope, .int m_scoped, .int m_deep, .int m_counted, .int m_fault, .int m_where, .ref m_cellKind, .ref m_cellCount, .ref m_free, .ref m_pile, .ref m_cellField, .int m_freeCount, .int m_given, .int m_nextPlain, .ref m_otherKind, .ref m_otherField, .int m_isPlain, .int m_hasRun, .int m_hasValue, .int m_hasOther, .long m_value, .long m_other, .int m_steps, .int m_made, .int m_reused, .int m_freed, .int m_most, .int m_doubled, .int m_openMost, .ref m_taskWhat, .ref m_taskPart, .ref m_values, .int m_tasks, .int m_valued, .int m_open, .ref m_slots, .ref m_present, .ref m_shell, .ref m_shellArm, .ref m_shellCall, .int m_shells, .ref m_keptCounts, .ref m_asideKind, .ref m_asideCount, .ref m_asideField, .ref m_out, .ref m_side, .int m_outs, .int m_sides, .ref m_saying])), (m_tape, .inl (mk_, 2000, .inl gt))]) [0, 1] rfl
    have hD9 := hD.sub (ws' := [(h0, .inr (14, [.int m_thrown, .ref m_stop, .ref m_tape, .int m_taped, .int m_length, .int m_at, .int m_sort, .int m_place, .int m_sign, .long m_letters, .ref m_p, .ref m_spare, .int m_isTaken, .ref m_scope, .int m_scoped, .int m_deep, .int m_counted, .int m_fault, .int m_where, .ref m_cellKind, .ref m_cellCount, .ref m_free, .ref m_pile, .ref m_cellField, .int m_freeCount, .int m_given, .int m_nextPlain, .ref m_otherKind, .ref m_otherField, .int m_isPlain, .int m_hasRun, .int m_hasValue, .int m_hasOther, .long m_value, .long m_other, .int m_steps, .int m_made, .int m_reused, .int m_freed, .int m_most, .int m_doubled, .int m_openMost, .ref m_taskWhat, .ref m_taskPart, .ref m_values, .int m_tasks, .int m_valued, .int m_open, .ref m_slots, .ref m_present, .ref m_shell, .ref m_shellArm, .ref m_shellCall, .int m_shells, .ref m_keptCounts, .ref m_asideKind, .ref m_asideCount, .ref m_asideField, .ref m_out, .ref m_side, .int m_outs, .int m_sides, .ref m_saying])), (m_tape, .inl (mk_, 2000, .inl gt))]) [0, 1] (by decide) rfl
    have hK9 := hK.sub (tys' := [(mk_, .byte)]) [0] rfl
    exact W.iret (v := (-1)) hx hb hr (fun t ht hW => ⟨⟨(-1), (), rfl, ⟨(by unfold zrb; rw [if_neg (by omega)]), (by rw [← (show (-1) = zrb gt m_length k from (by unfold zrb; rw [if_neg (by omega)]))]; omega)⟩, by rw [ht]; exact hP9, va_K.moved hW.alike hK9, hD9⟩, hS.F ht⟩) hS.2.2 dX14_byteAt_22
  · have ic_1 : k.toInt < m_length.toInt := zi_nle c_1
    refine lv_aload_n hx hb dX14_byteAt_8 rfl (lv_at hl 0 rfl) ?_
    refine va_get (D := (dC, dI)) (ci := 14) (v := .ref m_tape) (C := RX14) (T := TX14) (N := 63) hx hb hA zin_X14 hown hK hP 0 rfl rfl 2 (by decide) (hA _ wi_1499) (fun _ h9 => h9) rfl dX14_byteAt_9 ?_
    refine lv_iload_n hx hb dX14_byteAt_12 rfl (lv_at hl 1 rfl) ?_
    refine va_bald hx hb hK hP 1 0 rfl rfl (vp_in_iff.mpr ⟨by omega, by omega⟩) dX14_byteAt_13 ?_
    refine lv_topi (fun x_2 ex_2 => ?_)
    refine lv_sipush (v := 255) hx hb dX14_byteAt_14 (by decide) ?_
    refine lv_iand hx hb dX14_byteAt_17 ?_
    refine lv_topi (fun x_3 ex_3 => ?_)
    have ix_3 : 0 ≤ x_3.toInt ∧ x_3.toInt < 256 := by rw [ex_3]; exact vp_in_iff.mp (pk_andIn x_2 8 (by decide) (by decide))
    refine lv_goto (tgt := 22) hx hb dX14_byteAt_18 (by decide) ?_
    have hP9 := hP.sub (ws' := [(h0, .inr (14, [.int m_thrown, .ref m_stop, .ref m_tape, .int m_taped, .int m_length, .int m_at, .int m_sort, .int m_place, .int m_sign, .long m_letters, .ref m_p, .ref m_spare, .int m_isTaken, .ref m_scope, .int m_scoped, .int m_deep, .int m_counted, .int m_fault, .int m_where, .ref m_cellKind, .ref m_cellCount, .ref m_free, .ref m_pile, .ref m_cellField, .int m_freeCount, .int m_given, .int m_nextPlain, .ref m_otherKind, .ref m_otherField, .int m_isPlain, .int m_hasRun, .int m_hasValue, .int m_hasOther, .long m_value, .long m_other, .int m_steps, .int m_made, .int m_reused, .int m_freed, .int m_most, .int m_doubled, .int m_openMost, .ref m_taskWhat, .ref m_taskPart, .ref m_values, .int m_tasks, .int m_valued, .int m_open, .ref m_slots, .ref m_present, .ref m_shell, .ref m_shellArm, .ref m_shellCall, .int m_shells, .ref m_keptCounts, .ref m_asideKind, .ref m_asideCount, .ref m_asideField, .ref m_out, .ref m_side, .int m_outs, .int m_sides, .ref m_saying])), (m_tape, .inl (mk_, 2000, .inl gt))]) [0, 1] rfl
    have hD9 := hD.sub (ws' := [(h0, .inr (14, [.int m_thrown, .ref m_stop, .ref m_tape, .int m_taped, .int m_length, .int m_at, .int m_sort, .int m_place, .int m_sign, .long m_letters, .ref m_p, .ref m_spare, .int m_isTaken, .ref m_scope, .int m_scoped, .int m_deep, .int m_counted, .int m_fault, .int m_where, .ref m_cellKind, .ref m_cellCount, .ref m_free, .ref m_pile, .ref m_cellField, .int m_freeCount, .int m_given, .int m_nextPlain, .ref m_otherKind, .ref m_otherField, .int m_isPlain, .int m_hasRun, .int m_hasValue, .int m_hasOther, .long m_value, .long m_other, .int m_steps, .int m_made, .int m_reused, .int m_freed, .int m_most, .int m_doubled, .int m_openMost, .ref m_taskWhat, .ref m_taskPart, .ref m_values, .int m_tasks, .int m_valued, .int m_open, .ref m_slots, .ref m_present, .ref m_shell, .ref m_shellArm, .ref m_shellCall, .int m_shells, .ref m_keptCounts, .ref m_asideKind, .ref m_asideCount, .ref m_asideField, .ref m_out, .ref m_side, .int m_outs, .int m_sides, .ref m_saying])), (m_tape, .inl (mk_, 2000, .inl gt))]) [0, 1] (by decide) rfl
    have hK9 := hK.sub (tys' := [(mk_, .byte)]) [0] rfl
    exact W.iret (v := x_3) hx hb hr (fun t ht hW => ⟨⟨x_3, (), rfl, ⟨(by unfold zrb; rw [if_pos (by omega), ex_3, ex_2]), (by rw [← (show x_3 = zrb gt m_length k from (by unfold zrb; rw [if_pos (by omega), ex_3, ex_2]))]; omega)⟩, by rw [ht]; exact hP9, va_K.moved hW.alike hK9, hD9⟩, hS.F ht⟩) hS.2.2 dX14_byteAt_22
set_option maxHeartbeats 4000000 in
set_option maxRecDepth 100000 in
theorem c_X14_is_x (l : Launch) (dC : Nat → ClassId) (dI : Nat → Nat → Nat) (aK aV : Nat → Nat) (h0 : Nat) (m_thrown : Int32) (m_stop : Nat) (m_tape : Nat) (m_taped : Int32) (m_length : Int32) (m_at : Int32) (m_sort : Int32) (m_place : Int32) (m_sign : Int32) (m_letters : Int64) (m_p : Nat) (m_spare : Nat) (m_isTaken : Int32) (m_scope : Nat) (m_scoped : Int32) (m_deep : Int32) (m_counted : Int32) (m_fault : Int32) (m_where : Int32) (m_cellKind : Nat) (m_cellCount : Nat) (m_free : Nat) (m_pile : Nat) (m_cellField : Nat) (m_freeCount : Int32) (m_given : Int32) (m_nextPlain : Int32) (m_otherKind : Nat) (m_otherField : Nat) (m_isPlain : Int32) (m_hasRun : Int32) (m_hasValue : Int32) (m_hasOther : Int32) (m_value : Int64) (m_other : Int64) (m_steps : Int32) (m_made : Int32) (m_reused : Int32) (m_freed : Int32) (m_most : Int32) (m_doubled : Int32) (m_openMost : Int32) (m_taskWhat : Nat) (m_taskPart : Nat) (m_values : Nat) (m_tasks : Int32) (m_valued : Int32) (m_open : Int32) (m_slots : Nat) (m_present : Nat) (m_shell : Nat) (m_shellArm : Nat) (m_shellCall : Nat) (m_shells : Int32) (m_keptCounts : Nat) (m_asideKind : Nat) (m_asideCount : Nat) (m_asideField : Nat) (m_out : Nat) (m_side : Nat) (m_outs : Int32) (m_sides : Int32) (m_saying : Nat) (ch : Int32) (sz : Nat)  : Met l yX14_is (Cond.code yX14_is cX14_is 2 (some .boolean) :: zw) ({ frames := 8, cells := 0, slots := 0, locals := 200 }) (va_Pc [.ref h0, .int ch] (zP dC dI aK aV sz [] [(h0, .inr (14, [.int m_thrown, .ref m_stop, .ref m_tape, .int m_taped, .int m_length, .int m_at, .int m_sort, .int m_place, .int m_sign, .long m_letters, .ref m_p, .ref m_spare, .int m_isTaken, .ref m_scope, .int m_scoped, .int m_deep, .int m_counted, .int m_fault, .int m_where, .ref m_cellKind, .ref m_cellCount, .ref m_free, .ref m_pile, .ref m_cellField, .int m_freeCount, .int m_given, .int m_nextPlain, .ref m_otherKind, .ref m_otherField, .int m_isPlain, .int m_hasRun, .int m_hasValue, .int m_hasOther, .long m_value, .long m_other, .int m_steps, .int m_made, .int m_reused, .int m_freed, .int m_most, .int m_doubled, .int m_openMost, .ref m_taskWhat, .ref m_taskPart, .ref m_values, .int m_tasks, .int m_valued, .int m_open, .ref m_slots, .ref m_present, .ref m_shell, .ref m_shellArm, .ref m_shellCall, .int m_shells, .ref m_keptCounts, .ref m_asideKind, .ref m_asideCount, .ref m_asideField, .ref m_out, .ref m_side, .int m_outs, .int m_sides, .ref m_saying]))])) (va_Qi (fun (r : Int32) (u : Unit) => (r.toInt = 0 ∧ (m_sort.toInt ≠ 6 ∨ m_sign.toInt ≠ ch.toInt) ∨ r.toInt = 1 ∧ m_sort.toInt = 6 ∧ m_sign.toInt = ch.toInt)) (fun u => zQ dC dI (va_A [(h0, .inr (14, [.int m_thrown, .ref m_stop, .ref m_tape, .int m_taped, .int m_length, .int m_at, .int m_sort, .int m_place, .int m_sign, .long m_letters, .ref m_p, .ref m_spare, .int m_isTaken, .ref m_scope, .int m_scoped, .int m_deep, .int m_counted, .int m_fault, .int m_where, .ref m_cellKind, .ref m_cellCount, .ref m_free, .ref m_pile, .ref m_cellField, .int m_freeCount, .int m_given, .int m_nextPlain, .ref m_otherKind, .ref m_otherField, .int m_isPlain, .int m_hasRun, .int m_hasValue, .int m_hasOther, .long m_value, .long m_other, .int m_steps, .int m_made, .int m_reused, .int m_freed, .int m_most, .int m_doubled, .int m_openMost, .ref m_taskWhat, .ref m_taskPart, .ref m_values, .int m_tasks, .int m_valued, .int m_open, .ref m_slots, .ref m_present, .ref m_shell, .ref m_shellArm, .ref m_shellCall, .int m_shells, .ref m_keptCounts, .ref m_asideKind, .ref m_asideCount, .ref m_asideField, .ref m_out, .ref m_side, .int m_outs, .int m_sides, .ref m_saying]))] sz) [] [(h0, .inr (14, [.int m_thrown, .ref m_stop, .ref m_tape, .int m_taped, .int m_length, .int m_at, .int m_sort, .int m_place, .int m_sign, .long m_letters, .ref m_p, .ref m_spare, .int m_isTaken, .ref m_scope, .int m_scoped, .int m_deep, .int m_counted, .int m_fault, .int m_where, .ref m_cellKind, .ref m_cellCount, .ref m_free, .ref m_pile, .ref m_cellField, .int m_freeCount, .int m_given, .int m_nextPlain, .ref m_otherKind, .ref m_otherField, .int m_isPlain, .int m_hasRun, .int m_hasValue, .int m_hasOther, .long m_value, .long m_other, .int m_steps, .int m_made, .int m_reused, .int m_freed, .int m_most, .int m_doubled, .int m_openMost, .ref m_taskWhat, .ref m_taskPart, .ref m_values, .int m_tasks, .int m_valued, .int m_open, .ref m_slots, .ref m_present, .ref m_shell, .ref m_shellArm, .ref m_shellCall, .int m_shells, .ref m_keptCounts, .ref m_asideKind, .ref m_asideCount, .ref m_asideField, .ref m_out, .ref m_side, .int m_outs, .int m_sides, .ref m_saying]))]) (va_A [(h0, .inr (14, [.int m_thrown, .ref m_stop, .ref m_tape, .int m_taped, .int m_length, .int m_at, .int m_sort, .int m_place, .int m_sign, .long m_letters, .ref m_p, .ref m_spare, .int m_isTaken, .ref m_scope, .int m_scoped, .int m_deep, .int m_counted, .int m_fault, .int m_where, .ref m_cellKind, .ref m_cellCount, .ref m_free, .ref m_pile, .ref m_cellField, .int m_freeCount, .int m_given, .int m_nextPlain, .ref m_otherKind, .ref m_otherField, .int m_isPlain, .int m_hasRun, .int m_hasValue, .int m_hasOther, .long m_value, .long m_other, .int m_steps, .int m_made, .int m_reused, .int m_freed, .int m_most, .int m_doubled, .int m_openMost, .ref m_taskWhat, .ref m_taskPart, .ref m_values, .int m_tasks, .int m_valued, .int m_open, .ref m_slots, .ref m_present, .ref m_shell, .ref m_shellArm, .ref m_shellCall, .int m_shells, .ref m_keptCounts, .ref m_asideKind, .ref m_asideCount, .ref m_asideField, .ref m_out, .ref m_side, .int m_outs, .int m_sides, .ref m_saying]))] sz)) 0 0 (va_A [(h0, .inr (14, [.int m_thrown, .ref m_stop, .ref m_tape, .int m_taped, .int m_length, .int m_at, .int m_sort, .int m_place, .int m_sign, .long m_letters, .ref m_p, .ref m_spare, .int m_isTaken, .ref m_scope, .int m_scoped, .int m_deep, .int m_counted, .int m_fault, .int m_where, .ref m_cellKind, .ref m_cellCount, .ref m_free, .ref m_pile, .ref m_cellField, .int m_freeCount, .int m_given, .int m_nextPlain, .ref m_otherKind, .ref m_otherField, .int m_isPlain, .int m_hasRun, .int m_hasValue, .int m_hasOther, .long m_value, .long m_other, .int m_steps, .int m_made, .int m_reused, .int m_freed, .int m_most, .int m_doubled, .int m_openMost, .ref m_taskWhat, .ref m_taskPart, .ref m_values, .int m_tasks, .int m_valued, .int m_open, .ref m_slots, .ref m_present, .ref m_shell, .ref m_shellArm, .ref m_shellCall, .int m_shells, .ref m_keptCounts, .ref m_asideKind, .ref m_asideCount, .ref m_asideField, .ref m_out, .ref m_side, .int m_outs, .int m_sides, .ref m_saying]))] sz) := by
  refine Met.ofW (cc := cX14_is) (maxL := 2) (ret := (some .boolean)) (by decide) rfl ?_
  intro p e s m args below meth c s₁ B hml hv
  obtain ⟨rfl, hsz, hP, hK, hD0, hN, hT⟩ := hv
  have hx := B.exec
  have hb := B.bytes
  have hr := B.returns
  have hts := atoms_spec (ws := Cond.code yX14_is cX14_is 2 (some .boolean) :: zw) B.pre
  have hA : ∀ w ∈ zw, w.before _ s = true := fun w h => hts w (List.mem_cons_of_mem _ h)
  have hown : s.vm.findClass RX14 = some m.cls := findClass_of_methodNamed B.named
  have hlocks := B.notSynchronized
  subst hsz
  have hD := hD0.self (sz := s.heap.size)
  generalize hAe : va_A [(h0, .inr (14, [.int m_thrown, .ref m_stop, .ref m_tape, .int m_taped, .int m_length, .int m_at, .int m_sort, .int m_place, .int m_sign, .long m_letters, .ref m_p, .ref m_spare, .int m_isTaken, .ref m_scope, .int m_scoped, .int m_deep, .int m_counted, .int m_fault, .int m_where, .ref m_cellKind, .ref m_cellCount, .ref m_free, .ref m_pile, .ref m_cellField, .int m_freeCount, .int m_given, .int m_nextPlain, .ref m_otherKind, .ref m_otherField, .int m_isPlain, .int m_hasRun, .int m_hasValue, .int m_hasOther, .long m_value, .long m_other, .int m_steps, .int m_made, .int m_reused, .int m_freed, .int m_most, .int m_doubled, .int m_openMost, .ref m_taskWhat, .ref m_taskPart, .ref m_values, .int m_tasks, .int m_valued, .int m_open, .ref m_slots, .ref m_present, .ref m_shell, .ref m_shellArm, .ref m_shellCall, .int m_shells, .ref m_keptCounts, .ref m_asideKind, .ref m_asideCount, .ref m_asideField, .ref m_out, .ref m_side, .int m_outs, .int m_sides, .ref m_saying]))] s.heap.size = A at hD hT ⊢
  have hAA : ∀ q : Nat, s.heap.size ≤ q → A q := fun q h => by rw [← hAe]; exact Or.inr h
  have hS : va_S A s.heap s.heap [] := va_S.rf
  have hl := lv_entry ([.ref h0, .int ch]) (n := 2) (Nat.le_of_ble_eq_true rfl)
  rw [lg_entry_eq]
  generalize (lg_sl ([.ref h0, .int ch]) ++ List.replicate (2 - (lg_sl ([.ref h0, .int ch])).length) Slot.unset).toArray = ls at hl ⊢
  have hl : lv_has ls 2 [(0, .ref h0), (1, .int ch)] := hl
  refine lv_aload_n hx hb dX14_is_0 rfl (lv_at hl 0 rfl) ?_
  refine va_get (D := (dC, dI)) (ci := 14) (v := .int m_sort) (C := RX14) (T := TX14) (N := 63) hx hb hA zin_X14 hown hK hP 0 rfl rfl 6 (by decide) (hA _ wi_1503) (fun _ h9 => h9) rfl dX14_is_1 ?_
  refine lv_bipush (v := 6) hx hb dX14_is_4 (by decide) ?_
  refine lv_icmp_ne (tgt := 21) hx hb dX14_is_6 (by decide) (fun c_1 => ?_) (fun c_1 => ?_)
  · have ic_1 : m_sort.toInt ≠ 6 := zi_ne c_1
    refine lv_iconst (v := 0) hx hb dX14_is_21 (by decide) ?_
    have hlit : Int32.toInt 0 = 0 := by decide
    have hP9 := hP.sub (ws' := [(h0, .inr (14, [.int m_thrown, .ref m_stop, .ref m_tape, .int m_taped, .int m_length, .int m_at, .int m_sort, .int m_place, .int m_sign, .long m_letters, .ref m_p, .ref m_spare, .int m_isTaken, .ref m_scope, .int m_scoped, .int m_deep, .int m_counted, .int m_fault, .int m_where, .ref m_cellKind, .ref m_cellCount, .ref m_free, .ref m_pile, .ref m_cellField, .int m_freeCount, .int m_given, .int m_nextPlain, .ref m_otherKind, .ref m_otherField, .int m_isPlain, .int m_hasRun, .int m_hasValue, .int m_hasOther, .long m_value, .long m_other, .int m_steps, .int m_made, .int m_reused, .int m_freed, .int m_most, .int m_doubled, .int m_openMost, .ref m_taskWhat, .ref m_taskPart, .ref m_values, .int m_tasks, .int m_valued, .int m_open, .ref m_slots, .ref m_present, .ref m_shell, .ref m_shellArm, .ref m_shellCall, .int m_shells, .ref m_keptCounts, .ref m_asideKind, .ref m_asideCount, .ref m_asideField, .ref m_out, .ref m_side, .int m_outs, .int m_sides, .ref m_saying]))]) [0] rfl
    have hD9 := hD.sub (ws' := [(h0, .inr (14, [.int m_thrown, .ref m_stop, .ref m_tape, .int m_taped, .int m_length, .int m_at, .int m_sort, .int m_place, .int m_sign, .long m_letters, .ref m_p, .ref m_spare, .int m_isTaken, .ref m_scope, .int m_scoped, .int m_deep, .int m_counted, .int m_fault, .int m_where, .ref m_cellKind, .ref m_cellCount, .ref m_free, .ref m_pile, .ref m_cellField, .int m_freeCount, .int m_given, .int m_nextPlain, .ref m_otherKind, .ref m_otherField, .int m_isPlain, .int m_hasRun, .int m_hasValue, .int m_hasOther, .long m_value, .long m_other, .int m_steps, .int m_made, .int m_reused, .int m_freed, .int m_most, .int m_doubled, .int m_openMost, .ref m_taskWhat, .ref m_taskPart, .ref m_values, .int m_tasks, .int m_valued, .int m_open, .ref m_slots, .ref m_present, .ref m_shell, .ref m_shellArm, .ref m_shellCall, .int m_shells, .ref m_keptCounts, .ref m_asideKind, .ref m_asideCount, .ref m_asideField, .ref m_out, .ref m_side, .int m_outs, .int m_sides, .ref m_saying]))]) [0] (by decide) rfl
    have hK9 := hK.sub (tys' := []) [] rfl
    exact W.zret (v := 0) hx hb hr rfl (fun t ht hW => ⟨⟨0, (), rfl, by omega, by rw [ht]; exact hP9, va_K.moved hW.alike hK9, hD9⟩, hS.F ht⟩) hS.2.2 dX14_is_22
  · have ic_1 : m_sort.toInt = 6 := zi_eq c_1
    refine lv_aload_n hx hb dX14_is_9 rfl (lv_at hl 0 rfl) ?_
    refine va_get (D := (dC, dI)) (ci := 14) (v := .int m_sign) (C := RX14) (T := TX14) (N := 63) hx hb hA zin_X14 hown hK hP 0 rfl rfl 8 (by decide) (hA _ wi_1505) (fun _ h9 => h9) rfl dX14_is_10 ?_
    refine lv_iload_n hx hb dX14_is_13 rfl (lv_at hl 1 rfl) ?_
    refine lv_icmp_ne (tgt := 21) hx hb dX14_is_14 (by decide) (fun c_2 => ?_) (fun c_2 => ?_)
    · have ic_2 : m_sign.toInt ≠ ch.toInt := zi_ne c_2
      refine lv_iconst (v := 0) hx hb dX14_is_21 (by decide) ?_
      have hlit : Int32.toInt 0 = 0 := by decide
      have hP9 := hP.sub (ws' := [(h0, .inr (14, [.int m_thrown, .ref m_stop, .ref m_tape, .int m_taped, .int m_length, .int m_at, .int m_sort, .int m_place, .int m_sign, .long m_letters, .ref m_p, .ref m_spare, .int m_isTaken, .ref m_scope, .int m_scoped, .int m_deep, .int m_counted, .int m_fault, .int m_where, .ref m_cellKind, .ref m_cellCount, .ref m_free, .ref m_pile, .ref m_cellField, .int m_freeCount, .int m_given, .int m_nextPlain, .ref m_otherKind, .ref m_otherField, .int m_isPlain, .int m_hasRun, .int m_hasValue, .int m_hasOther, .long m_value, .long m_other, .int m_steps, .int m_made, .int m_reused, .int m_freed, .int m_most, .int m_doubled, .int m_openMost, .ref m_taskWhat, .ref m_taskPart, .ref m_values, .int m_tasks, .int m_valued, .int m_open, .ref m_slots, .ref m_present, .ref m_shell, .ref m_shellArm, .ref m_shellCall, .int m_shells, .ref m_keptCounts, .ref m_asideKind, .ref m_asideCount, .ref m_asideField, .ref m_out, .ref m_side, .int m_outs, .int m_sides, .ref m_saying]))]) [0] rfl
      have hD9 := hD.sub (ws' := [(h0, .inr (14, [.int m_thrown, .ref m_stop, .ref m_tape, .int m_taped, .int m_length, .int m_at, .int m_sort, .int m_place, .int m_sign, .long m_letters, .ref m_p, .ref m_spare, .int m_isTaken, .ref m_scope, .int m_scoped, .int m_deep, .int m_counted, .int m_fault, .int m_where, .ref m_cellKind, .ref m_cellCount, .ref m_free, .ref m_pile, .ref m_cellField, .int m_freeCount, .int m_given, .int m_nextPlain, .ref m_otherKind, .ref m_otherField, .int m_isPlain, .int m_hasRun, .int m_hasValue, .int m_hasOther, .long m_value, .long m_other, .int m_steps, .int m_made, .int m_reused, .int m_freed, .int m_most, .int m_doubled, .int m_openMost, .ref m_taskWhat, .ref m_taskPart, .ref m_values, .int m_tasks, .int m_valued, .int m_open, .ref m_slots, .ref m_present, .ref m_shell, .ref m_shellArm, .ref m_shellCall, .int m_shells, .ref m_keptCounts, .ref m_asideKind, .ref m_asideCount, .ref m_asideField, .ref m_out, .ref m_side, .int m_outs, .int m_sides, .ref m_saying]))]) [0] (by decide) rfl
      have hK9 := hK.sub (tys' := []) [] rfl
      exact W.zret (v := 0) hx hb hr rfl (fun t ht hW => ⟨⟨0, (), rfl, by omega, by rw [ht]; exact hP9, va_K.moved hW.alike hK9, hD9⟩, hS.F ht⟩) hS.2.2 dX14_is_22
    · have ic_2 : m_sign.toInt = ch.toInt := zi_eq c_2
      refine lv_iconst (v := 1) hx hb dX14_is_17 (by decide) ?_
      refine lv_goto (tgt := 22) hx hb dX14_is_18 (by decide) ?_
      have hlit : Int32.toInt 1 = 1 := by decide
      have hP9 := hP.sub (ws' := [(h0, .inr (14, [.int m_thrown, .ref m_stop, .ref m_tape, .int m_taped, .int m_length, .int m_at, .int m_sort, .int m_place, .int m_sign, .long m_letters, .ref m_p, .ref m_spare, .int m_isTaken, .ref m_scope, .int m_scoped, .int m_deep, .int m_counted, .int m_fault, .int m_where, .ref m_cellKind, .ref m_cellCount, .ref m_free, .ref m_pile, .ref m_cellField, .int m_freeCount, .int m_given, .int m_nextPlain, .ref m_otherKind, .ref m_otherField, .int m_isPlain, .int m_hasRun, .int m_hasValue, .int m_hasOther, .long m_value, .long m_other, .int m_steps, .int m_made, .int m_reused, .int m_freed, .int m_most, .int m_doubled, .int m_openMost, .ref m_taskWhat, .ref m_taskPart, .ref m_values, .int m_tasks, .int m_valued, .int m_open, .ref m_slots, .ref m_present, .ref m_shell, .ref m_shellArm, .ref m_shellCall, .int m_shells, .ref m_keptCounts, .ref m_asideKind, .ref m_asideCount, .ref m_asideField, .ref m_out, .ref m_side, .int m_outs, .int m_sides, .ref m_saying]))]) [0] rfl
      have hD9 := hD.sub (ws' := [(h0, .inr (14, [.int m_thrown, .ref m_stop, .ref m_tape, .int m_taped, .int m_length, .int m_at, .int m_sort, .int m_place, .int m_sign, .long m_letters, .ref m_p, .ref m_spare, .int m_isTaken, .ref m_scope, .int m_scoped, .int m_deep, .int m_counted, .int m_fault, .int m_where, .ref m_cellKind, .ref m_cellCount, .ref m_free, .ref m_pile, .ref m_cellField, .int m_freeCount, .int m_given, .int m_nextPlain, .ref m_otherKind, .ref m_otherField, .int m_isPlain, .int m_hasRun, .int m_hasValue, .int m_hasOther, .long m_value, .long m_other, .int m_steps, .int m_made, .int m_reused, .int m_freed, .int m_most, .int m_doubled, .int m_openMost, .ref m_taskWhat, .ref m_taskPart, .ref m_values, .int m_tasks, .int m_valued, .int m_open, .ref m_slots, .ref m_present, .ref m_shell, .ref m_shellArm, .ref m_shellCall, .int m_shells, .ref m_keptCounts, .ref m_asideKind, .ref m_asideCount, .ref m_asideField, .ref m_out, .ref m_side, .int m_outs, .int m_sides, .ref m_saying]))]) [0] (by decide) rfl
      have hK9 := hK.sub (tys' := []) [] rfl
      exact W.zret (v := 1) hx hb hr rfl (fun t ht hW => ⟨⟨1, (), rfl, by omega, by rw [ht]; exact hP9, va_K.moved hW.alike hK9, hD9⟩, hS.F ht⟩) hS.2.2 dX14_is_22
set_option maxHeartbeats 4000000 in
set_option maxRecDepth 100000 in
theorem c_X14_isWord_x (l : Launch) (dC : Nat → ClassId) (dI : Nat → Nat → Nat) (aK aV : Nat → Nat) (h0 : Nat) (m_thrown : Int32) (m_stop : Nat) (m_tape : Nat) (m_taped : Int32) (m_length : Int32) (m_at : Int32) (m_sort : Int32) (m_place : Int32) (m_sign : Int32) (m_letters : Int64) (m_p : Nat) (m_spare : Nat) (m_isTaken : Int32) (m_scope : Nat) (m_scoped : Int32) (m_deep : Int32) (m_counted : Int32) (m_fault : Int32) (m_where : Int32) (m_cellKind : Nat) (m_cellCount : Nat) (m_free : Nat) (m_pile : Nat) (m_cellField : Nat) (m_freeCount : Int32) (m_given : Int32) (m_nextPlain : Int32) (m_otherKind : Nat) (m_otherField : Nat) (m_isPlain : Int32) (m_hasRun : Int32) (m_hasValue : Int32) (m_hasOther : Int32) (m_value : Int64) (m_other : Int64) (m_steps : Int32) (m_made : Int32) (m_reused : Int32) (m_freed : Int32) (m_most : Int32) (m_doubled : Int32) (m_openMost : Int32) (m_taskWhat : Nat) (m_taskPart : Nat) (m_values : Nat) (m_tasks : Int32) (m_valued : Int32) (m_open : Int32) (m_slots : Nat) (m_present : Nat) (m_shell : Nat) (m_shellArm : Nat) (m_shellCall : Nat) (m_shells : Int32) (m_keptCounts : Nat) (m_asideKind : Nat) (m_asideCount : Nat) (m_asideField : Nat) (m_out : Nat) (m_side : Nat) (m_outs : Int32) (m_sides : Int32) (m_saying : Nat) (i : Nat) (sz : Nat) (hi : i < 8) : Met l yX14_isWord (Cond.code yX14_isWord cX14_isWord 2 (some .boolean) :: zw) ({ frames := 18, cells := 0, slots := 0, locals := 700 }) (va_Pc [.ref h0, .ref (aK i)] (zP dC dI aK aV sz [] [(h0, .inr (14, [.int m_thrown, .ref m_stop, .ref m_tape, .int m_taped, .int m_length, .int m_at, .int m_sort, .int m_place, .int m_sign, .long m_letters, .ref m_p, .ref m_spare, .int m_isTaken, .ref m_scope, .int m_scoped, .int m_deep, .int m_counted, .int m_fault, .int m_where, .ref m_cellKind, .ref m_cellCount, .ref m_free, .ref m_pile, .ref m_cellField, .int m_freeCount, .int m_given, .int m_nextPlain, .ref m_otherKind, .ref m_otherField, .int m_isPlain, .int m_hasRun, .int m_hasValue, .int m_hasOther, .long m_value, .long m_other, .int m_steps, .int m_made, .int m_reused, .int m_freed, .int m_most, .int m_doubled, .int m_openMost, .ref m_taskWhat, .ref m_taskPart, .ref m_values, .int m_tasks, .int m_valued, .int m_open, .ref m_slots, .ref m_present, .ref m_shell, .ref m_shellArm, .ref m_shellCall, .int m_shells, .ref m_keptCounts, .ref m_asideKind, .ref m_asideCount, .ref m_asideField, .ref m_out, .ref m_side, .int m_outs, .int m_sides, .ref m_saying]))])) (va_Qi (fun (r : Int32) (u : Unit) => (r.toInt = 0 ∨ r.toInt = 1 ∧ m_sort.toInt = 5) ∧ (rx_iw m_sort m_letters i r)) (fun u => zQ dC dI (va_A [(h0, .inr (14, [.int m_thrown, .ref m_stop, .ref m_tape, .int m_taped, .int m_length, .int m_at, .int m_sort, .int m_place, .int m_sign, .long m_letters, .ref m_p, .ref m_spare, .int m_isTaken, .ref m_scope, .int m_scoped, .int m_deep, .int m_counted, .int m_fault, .int m_where, .ref m_cellKind, .ref m_cellCount, .ref m_free, .ref m_pile, .ref m_cellField, .int m_freeCount, .int m_given, .int m_nextPlain, .ref m_otherKind, .ref m_otherField, .int m_isPlain, .int m_hasRun, .int m_hasValue, .int m_hasOther, .long m_value, .long m_other, .int m_steps, .int m_made, .int m_reused, .int m_freed, .int m_most, .int m_doubled, .int m_openMost, .ref m_taskWhat, .ref m_taskPart, .ref m_values, .int m_tasks, .int m_valued, .int m_open, .ref m_slots, .ref m_present, .ref m_shell, .ref m_shellArm, .ref m_shellCall, .int m_shells, .ref m_keptCounts, .ref m_asideKind, .ref m_asideCount, .ref m_asideField, .ref m_out, .ref m_side, .int m_outs, .int m_sides, .ref m_saying]))] sz) [] [(h0, .inr (14, [.int m_thrown, .ref m_stop, .ref m_tape, .int m_taped, .int m_length, .int m_at, .int m_sort, .int m_place, .int m_sign, .long m_letters, .ref m_p, .ref m_spare, .int m_isTaken, .ref m_scope, .int m_scoped, .int m_deep, .int m_counted, .int m_fault, .int m_where, .ref m_cellKind, .ref m_cellCount, .ref m_free, .ref m_pile, .ref m_cellField, .int m_freeCount, .int m_given, .int m_nextPlain, .ref m_otherKind, .ref m_otherField, .int m_isPlain, .int m_hasRun, .int m_hasValue, .int m_hasOther, .long m_value, .long m_other, .int m_steps, .int m_made, .int m_reused, .int m_freed, .int m_most, .int m_doubled, .int m_openMost, .ref m_taskWhat, .ref m_taskPart, .ref m_values, .int m_tasks, .int m_valued, .int m_open, .ref m_slots, .ref m_present, .ref m_shell, .ref m_shellArm, .ref m_shellCall, .int m_shells, .ref m_keptCounts, .ref m_asideKind, .ref m_asideCount, .ref m_asideField, .ref m_out, .ref m_side, .int m_outs, .int m_sides, .ref m_saying]))]) (va_A [(h0, .inr (14, [.int m_thrown, .ref m_stop, .ref m_tape, .int m_taped, .int m_length, .int m_at, .int m_sort, .int m_place, .int m_sign, .long m_letters, .ref m_p, .ref m_spare, .int m_isTaken, .ref m_scope, .int m_scoped, .int m_deep, .int m_counted, .int m_fault, .int m_where, .ref m_cellKind, .ref m_cellCount, .ref m_free, .ref m_pile, .ref m_cellField, .int m_freeCount, .int m_given, .int m_nextPlain, .ref m_otherKind, .ref m_otherField, .int m_isPlain, .int m_hasRun, .int m_hasValue, .int m_hasOther, .long m_value, .long m_other, .int m_steps, .int m_made, .int m_reused, .int m_freed, .int m_most, .int m_doubled, .int m_openMost, .ref m_taskWhat, .ref m_taskPart, .ref m_values, .int m_tasks, .int m_valued, .int m_open, .ref m_slots, .ref m_present, .ref m_shell, .ref m_shellArm, .ref m_shellCall, .int m_shells, .ref m_keptCounts, .ref m_asideKind, .ref m_asideCount, .ref m_asideField, .ref m_out, .ref m_side, .int m_outs, .int m_sides, .ref m_saying]))] sz)) 0 0 (va_A [(h0, .inr (14, [.int m_thrown, .ref m_stop, .ref m_tape, .int m_taped, .int m_length, .int m_at, .int m_sort, .int m_place, .int m_sign, .long m_letters, .ref m_p, .ref m_spare, .int m_isTaken, .ref m_scope, .int m_scoped, .int m_deep, .int m_counted, .int m_fault, .int m_where, .ref m_cellKind, .ref m_cellCount, .ref m_free, .ref m_pile, .ref m_cellField, .int m_freeCount, .int m_given, .int m_nextPlain, .ref m_otherKind, .ref m_otherField, .int m_isPlain, .int m_hasRun, .int m_hasValue, .int m_hasOther, .long m_value, .long m_other, .int m_steps, .int m_made, .int m_reused, .int m_freed, .int m_most, .int m_doubled, .int m_openMost, .ref m_taskWhat, .ref m_taskPart, .ref m_values, .int m_tasks, .int m_valued, .int m_open, .ref m_slots, .ref m_present, .ref m_shell, .ref m_shellArm, .ref m_shellCall, .int m_shells, .ref m_keptCounts, .ref m_asideKind, .ref m_asideCount, .ref m_asideField, .ref m_out, .ref m_side, .int m_outs, .int m_sides, .ref m_saying]))] sz) := by
  refine Met.ofW (cc := cX14_isWord) (maxL := 2) (ret := (some .boolean)) (by decide) rfl ?_
  intro p e s m args below meth c s₁ B hml hv
  obtain ⟨rfl, hsz, hP, hK, hD0, hN, hT⟩ := hv
  have hx := B.exec
  have hb := B.bytes
  have hr := B.returns
  have hts := atoms_spec (ws := Cond.code yX14_isWord cX14_isWord 2 (some .boolean) :: zw) B.pre
  have hA : ∀ w ∈ zw, w.before _ s = true := fun w h => hts w (List.mem_cons_of_mem _ h)
  have hown : s.vm.findClass RX14 = some m.cls := findClass_of_methodNamed B.named
  have hlocks := B.notSynchronized
  subst hsz
  have hD := hD0.self (sz := s.heap.size)
  generalize hAe : va_A [(h0, .inr (14, [.int m_thrown, .ref m_stop, .ref m_tape, .int m_taped, .int m_length, .int m_at, .int m_sort, .int m_place, .int m_sign, .long m_letters, .ref m_p, .ref m_spare, .int m_isTaken, .ref m_scope, .int m_scoped, .int m_deep, .int m_counted, .int m_fault, .int m_where, .ref m_cellKind, .ref m_cellCount, .ref m_free, .ref m_pile, .ref m_cellField, .int m_freeCount, .int m_given, .int m_nextPlain, .ref m_otherKind, .ref m_otherField, .int m_isPlain, .int m_hasRun, .int m_hasValue, .int m_hasOther, .long m_value, .long m_other, .int m_steps, .int m_made, .int m_reused, .int m_freed, .int m_most, .int m_doubled, .int m_openMost, .ref m_taskWhat, .ref m_taskPart, .ref m_values, .int m_tasks, .int m_valued, .int m_open, .ref m_slots, .ref m_present, .ref m_shell, .ref m_shellArm, .ref m_shellCall, .int m_shells, .ref m_keptCounts, .ref m_asideKind, .ref m_asideCount, .ref m_asideField, .ref m_out, .ref m_side, .int m_outs, .int m_sides, .ref m_saying]))] s.heap.size = A at hD hT ⊢
  have hAA : ∀ q : Nat, s.heap.size ≤ q → A q := fun q h => by rw [← hAe]; exact Or.inr h
  have hS : va_S A s.heap s.heap [] := va_S.rf
  have hl := lv_entry ([.ref h0, .ref (aK i)]) (n := 2) (Nat.le_of_ble_eq_true rfl)
  rw [lg_entry_eq]
  generalize (lg_sl ([.ref h0, .ref (aK i)]) ++ List.replicate (2 - (lg_sl ([.ref h0, .ref (aK i)])).length) Slot.unset).toArray = ls at hl ⊢
  have hl : lv_has ls 2 [(0, .ref h0), (1, .ref (aK i))] := hl
  refine lv_aload_n hx hb dX14_isWord_0 rfl (lv_at hl 0 rfl) ?_
  refine va_get (D := (dC, dI)) (ci := 14) (v := .int m_sort) (C := RX14) (T := TX14) (N := 63) hx hb hA zin_X14 hown hK hP 0 rfl rfl 6 (by decide) (hA _ wi_1503) (fun _ h9 => h9) rfl dX14_isWord_1 ?_
  refine lv_iconst (v := 5) hx hb dX14_isWord_4 (by decide) ?_
  refine lv_icmp_ne (tgt := 24) hx hb dX14_isWord_5 (by decide) (fun c_1 => ?_) (fun c_1 => ?_)
  · have ic_1 : m_sort.toInt ≠ 5 := zi_ne c_1
    refine lv_iconst (v := 0) hx hb dX14_isWord_24 (by decide) ?_
    have hlit : Int32.toInt 0 = 0 := by decide
    have hP9 := hP.sub (ws' := [(h0, .inr (14, [.int m_thrown, .ref m_stop, .ref m_tape, .int m_taped, .int m_length, .int m_at, .int m_sort, .int m_place, .int m_sign, .long m_letters, .ref m_p, .ref m_spare, .int m_isTaken, .ref m_scope, .int m_scoped, .int m_deep, .int m_counted, .int m_fault, .int m_where, .ref m_cellKind, .ref m_cellCount, .ref m_free, .ref m_pile, .ref m_cellField, .int m_freeCount, .int m_given, .int m_nextPlain, .ref m_otherKind, .ref m_otherField, .int m_isPlain, .int m_hasRun, .int m_hasValue, .int m_hasOther, .long m_value, .long m_other, .int m_steps, .int m_made, .int m_reused, .int m_freed, .int m_most, .int m_doubled, .int m_openMost, .ref m_taskWhat, .ref m_taskPart, .ref m_values, .int m_tasks, .int m_valued, .int m_open, .ref m_slots, .ref m_present, .ref m_shell, .ref m_shellArm, .ref m_shellCall, .int m_shells, .ref m_keptCounts, .ref m_asideKind, .ref m_asideCount, .ref m_asideField, .ref m_out, .ref m_side, .int m_outs, .int m_sides, .ref m_saying]))]) [0] rfl
    have hD9 := hD.sub (ws' := [(h0, .inr (14, [.int m_thrown, .ref m_stop, .ref m_tape, .int m_taped, .int m_length, .int m_at, .int m_sort, .int m_place, .int m_sign, .long m_letters, .ref m_p, .ref m_spare, .int m_isTaken, .ref m_scope, .int m_scoped, .int m_deep, .int m_counted, .int m_fault, .int m_where, .ref m_cellKind, .ref m_cellCount, .ref m_free, .ref m_pile, .ref m_cellField, .int m_freeCount, .int m_given, .int m_nextPlain, .ref m_otherKind, .ref m_otherField, .int m_isPlain, .int m_hasRun, .int m_hasValue, .int m_hasOther, .long m_value, .long m_other, .int m_steps, .int m_made, .int m_reused, .int m_freed, .int m_most, .int m_doubled, .int m_openMost, .ref m_taskWhat, .ref m_taskPart, .ref m_values, .int m_tasks, .int m_valued, .int m_open, .ref m_slots, .ref m_present, .ref m_shell, .ref m_shellArm, .ref m_shellCall, .int m_shells, .ref m_keptCounts, .ref m_asideKind, .ref m_asideCount, .ref m_asideField, .ref m_out, .ref m_side, .int m_outs, .int m_sides, .ref m_saying]))]) [0] (by decide) rfl
    have hK9 := hK.sub (tys' := []) [] rfl
    exact W.zret (v := 0) hx hb hr rfl (fun t ht hW => ⟨⟨0, (), rfl, ⟨by omega, (Or.inr ⟨by decide, fun g => absurd g.1 (by omega)⟩)⟩, by rw [ht]; exact hP9, va_K.moved hW.alike hK9, hD9⟩, hS.F ht⟩) hS.2.2 dX14_isWord_25
  · have ic_1 : m_sort.toInt = 5 := zi_eq c_1
    refine lv_aload_n hx hb dX14_isWord_8 rfl (lv_at hl 0 rfl) ?_
    refine va_get (D := (dC, dI)) (ci := 14) (v := .long m_letters) (C := RX14) (T := TX14) (N := 63) hx hb hA zin_X14 hown hK hP 0 rfl rfl 9 (by decide) (hA _ wi_1506) (fun _ h9 => h9) rfl dX14_isWord_9 ?_
    refine lv_aload_n hx hb dX14_isWord_12 rfl (lv_at hl 1 rfl) ?_
    have hPc := hP.sub (ws' := []) [] rfl
    have hDc := hD.sub (ws' := []) [] (by decide) rfl
    have hKc := hK.sub (tys' := []) [] rfl
    have hFc := va_free (wc := []) hD hS hAA [] rfl
    refine va_calll (va_runS (As := [.ref (aK i)]) (rest := [.long m_letters]) ⟨hx, hb, hml, hown, hA⟩ (c_X14_lettersOf_x l dC dI aK aV i s.heap.size (by omega)) (va_cwS 1 hA (zw_S wi_1721 wi_1722 wi_143 (zw_good wi_1723)) rfl rfl rfl (by decide +kernel) ⟨(Nat.le_of_ble_eq_true rfl), (Nat.le_of_ble_eq_true rfl)⟩) ⟨zP_blind, zz_pre hKc hPc hDc hN hT hS hFc⟩ rfl rfl hl.1 rfl (lv_room (Nat.le_of_ble_eq_true rfl)) dX14_isWord_13 ⟨(Nat.le_of_ble_eq_true rfl), (Nat.le_of_ble_eq_true rfl)⟩) hS (fun q _ h => hFc q h) hFc (fun r_2 u t H1 locs ht hvm hw hB hz1 hk1 hS => ?_)
    obtain ⟨hP1, hK1, hD1⟩ := hB
    rw [ht] at hP1
    have hK1 := va_K.moved hvm.symm hK1
    obtain ⟨hP, hD⟩ := va_join (wr := [(h0, .inr (14, [.int m_thrown, .ref m_stop, .ref m_tape, .int m_taped, .int m_length, .int m_at, .int m_sort, .int m_place, .int m_sign, .long m_letters, .ref m_p, .ref m_spare, .int m_isTaken, .ref m_scope, .int m_scoped, .int m_deep, .int m_counted, .int m_fault, .int m_where, .ref m_cellKind, .ref m_cellCount, .ref m_free, .ref m_pile, .ref m_cellField, .int m_freeCount, .int m_given, .int m_nextPlain, .ref m_otherKind, .ref m_otherField, .int m_isPlain, .int m_hasRun, .int m_hasValue, .int m_hasOther, .long m_value, .long m_other, .int m_steps, .int m_made, .int m_reused, .int m_freed, .int m_most, .int m_doubled, .int m_openMost, .ref m_taskWhat, .ref m_taskPart, .ref m_values, .int m_tasks, .int m_valued, .int m_open, .ref m_slots, .ref m_present, .ref m_shell, .ref m_shellArm, .ref m_shellCall, .int m_shells, .ref m_keptCounts, .ref m_asideKind, .ref m_asideCount, .ref m_asideField, .ref m_out, .ref m_side, .int m_outs, .int m_sides, .ref m_saying]))]) (w1 := []) hP hD [] [0] rfl rfl (by decide) (by decide) hk1 hFc hP1 hD1
    have hK := (hK.sub (tys' := []) [] rfl).app hK1
    generalize H1 = H at hP hS ⊢
    have hP : va_P (dC, dI) vwCl [(h0, .inr (14, [.int m_thrown, .ref m_stop, .ref m_tape, .int m_taped, .int m_length, .int m_at, .int m_sort, .int m_place, .int m_sign, .long m_letters, .ref m_p, .ref m_spare, .int m_isTaken, .ref m_scope, .int m_scoped, .int m_deep, .int m_counted, .int m_fault, .int m_where, .ref m_cellKind, .ref m_cellCount, .ref m_free, .ref m_pile, .ref m_cellField, .int m_freeCount, .int m_given, .int m_nextPlain, .ref m_otherKind, .ref m_otherField, .int m_isPlain, .int m_hasRun, .int m_hasValue, .int m_hasOther, .long m_value, .long m_other, .int m_steps, .int m_made, .int m_reused, .int m_freed, .int m_most, .int m_doubled, .int m_openMost, .ref m_taskWhat, .ref m_taskPart, .ref m_values, .int m_tasks, .int m_valued, .int m_open, .ref m_slots, .ref m_present, .ref m_shell, .ref m_shellArm, .ref m_shellCall, .int m_shells, .ref m_keptCounts, .ref m_asideKind, .ref m_asideCount, .ref m_asideField, .ref m_out, .ref m_side, .int m_outs, .int m_sides, .ref m_saying]))] H := hP
    have hD : va_D A [(h0, .inr (14, [.int m_thrown, .ref m_stop, .ref m_tape, .int m_taped, .int m_length, .int m_at, .int m_sort, .int m_place, .int m_sign, .long m_letters, .ref m_p, .ref m_spare, .int m_isTaken, .ref m_scope, .int m_scoped, .int m_deep, .int m_counted, .int m_fault, .int m_where, .ref m_cellKind, .ref m_cellCount, .ref m_free, .ref m_pile, .ref m_cellField, .int m_freeCount, .int m_given, .int m_nextPlain, .ref m_otherKind, .ref m_otherField, .int m_isPlain, .int m_hasRun, .int m_hasValue, .int m_hasOther, .long m_value, .long m_other, .int m_steps, .int m_made, .int m_reused, .int m_freed, .int m_most, .int m_doubled, .int m_openMost, .ref m_taskWhat, .ref m_taskPart, .ref m_values, .int m_tasks, .int m_valued, .int m_open, .ref m_slots, .ref m_present, .ref m_shell, .ref m_shellArm, .ref m_shellCall, .int m_shells, .ref m_keptCounts, .ref m_asideKind, .ref m_asideCount, .ref m_asideField, .ref m_out, .ref m_side, .int m_outs, .int m_sides, .ref m_saying]))] := hD
    have hK : va_K (dC, dI) vwCl [] s := hK
    have hq_3 := hw
    refine W.lcmp hx hb dX14_isWord_16 ?_
    refine lv_topi (fun x_4 ex_4 => ?_)
    refine lv_if_ne (tgt := 24) hx hb dX14_isWord_17 (by decide) (fun c_5 => ?_) (fun c_5 => ?_)
    · have ic_5 : x_4.toInt ≠ 0 := zi_ne c_5
      refine lv_iconst (v := 0) hx hb dX14_isWord_24 (by decide) ?_
      have hlit : Int32.toInt 0 = 0 := by decide
      have hP9 := hP.sub (ws' := [(h0, .inr (14, [.int m_thrown, .ref m_stop, .ref m_tape, .int m_taped, .int m_length, .int m_at, .int m_sort, .int m_place, .int m_sign, .long m_letters, .ref m_p, .ref m_spare, .int m_isTaken, .ref m_scope, .int m_scoped, .int m_deep, .int m_counted, .int m_fault, .int m_where, .ref m_cellKind, .ref m_cellCount, .ref m_free, .ref m_pile, .ref m_cellField, .int m_freeCount, .int m_given, .int m_nextPlain, .ref m_otherKind, .ref m_otherField, .int m_isPlain, .int m_hasRun, .int m_hasValue, .int m_hasOther, .long m_value, .long m_other, .int m_steps, .int m_made, .int m_reused, .int m_freed, .int m_most, .int m_doubled, .int m_openMost, .ref m_taskWhat, .ref m_taskPart, .ref m_values, .int m_tasks, .int m_valued, .int m_open, .ref m_slots, .ref m_present, .ref m_shell, .ref m_shellArm, .ref m_shellCall, .int m_shells, .ref m_keptCounts, .ref m_asideKind, .ref m_asideCount, .ref m_asideField, .ref m_out, .ref m_side, .int m_outs, .int m_sides, .ref m_saying]))]) [0] rfl
      have hD9 := hD.sub (ws' := [(h0, .inr (14, [.int m_thrown, .ref m_stop, .ref m_tape, .int m_taped, .int m_length, .int m_at, .int m_sort, .int m_place, .int m_sign, .long m_letters, .ref m_p, .ref m_spare, .int m_isTaken, .ref m_scope, .int m_scoped, .int m_deep, .int m_counted, .int m_fault, .int m_where, .ref m_cellKind, .ref m_cellCount, .ref m_free, .ref m_pile, .ref m_cellField, .int m_freeCount, .int m_given, .int m_nextPlain, .ref m_otherKind, .ref m_otherField, .int m_isPlain, .int m_hasRun, .int m_hasValue, .int m_hasOther, .long m_value, .long m_other, .int m_steps, .int m_made, .int m_reused, .int m_freed, .int m_most, .int m_doubled, .int m_openMost, .ref m_taskWhat, .ref m_taskPart, .ref m_values, .int m_tasks, .int m_valued, .int m_open, .ref m_slots, .ref m_present, .ref m_shell, .ref m_shellArm, .ref m_shellCall, .int m_shells, .ref m_keptCounts, .ref m_asideKind, .ref m_asideCount, .ref m_asideField, .ref m_out, .ref m_side, .int m_outs, .int m_sides, .ref m_saying]))]) [0] (by decide) rfl
      have hK9 := hK.sub (tys' := []) [] rfl
      exact W.zret (v := 0) hx hb hr rfl (fun t ht hW => ⟨⟨0, (), rfl, ⟨by omega, (Or.inr ⟨by decide, fun g => absurd (show x_4.toInt = 0 by rw [ex_4, g.2, hq_3]; exact lc_rf) (by omega)⟩)⟩, by rw [ht]; exact hP9, va_K.moved hW.alike hK9, hD9⟩, hS.F ht⟩) hS.2.2 dX14_isWord_25
    · have ic_5 : x_4.toInt = 0 := zi_eq c_5
      refine lv_iconst (v := 1) hx hb dX14_isWord_20 (by decide) ?_
      refine lv_goto (tgt := 25) hx hb dX14_isWord_21 (by decide) ?_
      have hlit : Int32.toInt 1 = 1 := by decide
      have hP9 := hP.sub (ws' := [(h0, .inr (14, [.int m_thrown, .ref m_stop, .ref m_tape, .int m_taped, .int m_length, .int m_at, .int m_sort, .int m_place, .int m_sign, .long m_letters, .ref m_p, .ref m_spare, .int m_isTaken, .ref m_scope, .int m_scoped, .int m_deep, .int m_counted, .int m_fault, .int m_where, .ref m_cellKind, .ref m_cellCount, .ref m_free, .ref m_pile, .ref m_cellField, .int m_freeCount, .int m_given, .int m_nextPlain, .ref m_otherKind, .ref m_otherField, .int m_isPlain, .int m_hasRun, .int m_hasValue, .int m_hasOther, .long m_value, .long m_other, .int m_steps, .int m_made, .int m_reused, .int m_freed, .int m_most, .int m_doubled, .int m_openMost, .ref m_taskWhat, .ref m_taskPart, .ref m_values, .int m_tasks, .int m_valued, .int m_open, .ref m_slots, .ref m_present, .ref m_shell, .ref m_shellArm, .ref m_shellCall, .int m_shells, .ref m_keptCounts, .ref m_asideKind, .ref m_asideCount, .ref m_asideField, .ref m_out, .ref m_side, .int m_outs, .int m_sides, .ref m_saying]))]) [0] rfl
      have hD9 := hD.sub (ws' := [(h0, .inr (14, [.int m_thrown, .ref m_stop, .ref m_tape, .int m_taped, .int m_length, .int m_at, .int m_sort, .int m_place, .int m_sign, .long m_letters, .ref m_p, .ref m_spare, .int m_isTaken, .ref m_scope, .int m_scoped, .int m_deep, .int m_counted, .int m_fault, .int m_where, .ref m_cellKind, .ref m_cellCount, .ref m_free, .ref m_pile, .ref m_cellField, .int m_freeCount, .int m_given, .int m_nextPlain, .ref m_otherKind, .ref m_otherField, .int m_isPlain, .int m_hasRun, .int m_hasValue, .int m_hasOther, .long m_value, .long m_other, .int m_steps, .int m_made, .int m_reused, .int m_freed, .int m_most, .int m_doubled, .int m_openMost, .ref m_taskWhat, .ref m_taskPart, .ref m_values, .int m_tasks, .int m_valued, .int m_open, .ref m_slots, .ref m_present, .ref m_shell, .ref m_shellArm, .ref m_shellCall, .int m_shells, .ref m_keptCounts, .ref m_asideKind, .ref m_asideCount, .ref m_asideField, .ref m_out, .ref m_side, .int m_outs, .int m_sides, .ref m_saying]))]) [0] (by decide) rfl
      have hK9 := hK.sub (tys' := []) [] rfl
      exact W.zret (v := 1) hx hb hr rfl (fun t ht hW => ⟨⟨1, (), rfl, ⟨by omega, (Or.inl ⟨by decide, by omega, (lc_eq (by rw [← ex_4]; omega)).trans hq_3⟩)⟩, by rw [ht]; exact hP9, va_K.moved hW.alike hK9, hD9⟩, hS.F ht⟩) hS.2.2 dX14_isWord_25

end
