/-- no stack traces in this launch -/
def rl_Lq (l : Launch) : Prop := ∀ e : Env, l.admits e → e.platform.stackTraces = false
def rl_FT (s : State) (o : Outcome) (t : State) (L : List Loc) (k n : Nat) : Prop := (∃ x : Addr, o = Outcome.threw x) ∧ s.WarmedH t.vm ∧ s.sameButNew ({ t with vm := s.vm } : State) L k n
/-- the end of a method that throws an X -/
def rl_T (E : rl_E) (X : String) (σ : rl_M) : Array Value → State → Outcome → State → Prop := fun _ st oc t => ∃ x : Nat, oc = .threw x ∧ (∃ cell : Cell, t.heap[x]? = some cell ∧ cell.vm = .none ∧ st.vm.findClass X = some cell.cls) ∧ va_P E.2.1 rl_Cl (rl_wo E σ) t.heap ∧ va_F (rl_A E) st t
def rl_MQT (below : List Frame) (Qc : Array Value → State → Outcome → State → Prop) (a : Array Value) (s : State) (mc ms : Nat) (free : Addr → Prop) : State → Prop := fun t =>
  ∃ o, t.status = .running ∧ Ended t below o ∧ Qc a s o t ∧ ∃ L, rl_FT s o t L mc ms ∧ ∀ q ∈ L, free q.base
/-- a contract of a method that throws an X -/
def rl_MT (l : Launch) (y : MethodName) (ws : List Cond) (rm : Room) (E : rl_E) (av : List Value) (σ : rl_M) (X : String) (τ : rl_M) : Prop :=
  MetFree l y (headSpec ws rm) (rl_P E av σ) (fun _ _ _ _ _ => True) (fun a st o t => rl_T E X τ a st o t ∧ ∃ L, rl_FT st o t L 1 6 ∧ ∀ q ∈ L, rl_A E q.base)
theorem rl_MT.ofW {l : Launch} {y : MethodName} {ws ws' : List Cond} {rm : Room} {E : rl_E} {av : List Value} {σ τ : rl_M} {X : String} {cc : ByteArray} {maxL : Nat} {ret : Option FieldType}
    (hy : plainName y.cls = true) (hw : ws = Cond.code y cc maxL ret :: ws')
    (body : ∀ p e s m args below meth c s₁, BodyLoose p l y (headSpec ws rm) cc maxL ret e s m args below meth c s₁ → c.maxLocals = maxL → rl_P E av σ args s →
      W p l e (headSpec ws rm).room s m args below meth c s.heap [] 0 0 (rl_MQT below (rl_T E X τ) args s 1 6 (rl_A E)) (entryFrame m args maxL)) : rl_MT l y ws rm E av σ X τ := by
  refine MetFree.of_bodyS (code := cc) (maxLocals := maxL) (ret := ret) hy ?_ ?_
  · intro args s m h hn
    obtain ⟨meth, c, h1, h2, h3, h4, h5, h6, -, -⟩ := Cond.code_spec hn (atoms_spec (ws := ws) h _ (by rw [hw]; exact List.mem_cons_self))
    exact ⟨meth, c, h1, h2, h3, h4, h5, h6⟩
  · intro p e s m args below meth c s₁ B hml hP _
    have hh0 : s₁.heap = s.heap := by rw [B.state]; rfl
    obtain ⟨t, a1, o, b1, b2, b3⟩ := body p e s m args below meth c s₁ B hml hP s₁ hh0 (Stand.of_body B)
    exact ⟨t, o, a1, b1, b2, ⟨b3.1, b3.2⟩⟩
section RLT
variable {p : Program} {l : Launch} {e : Env} {R : Room} {s : State} {m : MethodId} {args : Array Value} {below : List Frame} {meth : Method} {c : Code} {cells slots : Nat} {Q : State → Prop}
variable {cc : ByteArray} {nL : Nat} {own : String} {E : rl_E} {σ τ : rl_M} {pc : Nat} {L : List (Nat × Value)} {st : List Value}
/-- a call that ends in 'threw': the caller's frame with the note laid over it -/
theorem rl_backT {y : MethodName} {ws : List Cond} {rm : Room} {av : List Value} {X : String} {bytes : ByteArray} {maxL : Nat} {ret : Option FieldType} (hM : rl_MT l y ws rm E av σ X τ)
    (hrm : rm.cells = 1 ∧ rm.slots = 6) (hf : rm.frames + 1 ≤ R.frames) (hlo : 8 + (maxL + 11) + rm.locals ≤ R.locals)
    (hws : ∀ w ∈ ws, ∀ (a' : Array Value) (U : State), s.WarmedH U.vm → w.before a' U = true) (hcw : Cond.code y bytes maxL ret ∈ ws) (hini : ∀ (a' : Array Value) (U : State), s.WarmedH U.vm → (Cond.initialized y.cls).before a' U = true)
    {T : State} {locs : List Loc} (X₀ : Stand p l e R s m args below meth c T locs cells slots) {g : JFrame} (hg : g.method = m) (hsize : g.locals.size = c.maxLocals) {ig : Instr} {len : Nat} (hdg : decode c.code g.pc = .ok (ig, len))
    (hW : 2 * g.monitorRoom + (g.stack.map fun v => v.category).sum ≤ 8) {mk : MethodId} (hn : T.methodNamed? y = some mk) (hcl : cells + 1 ≤ R.cells ∧ slots + 6 ≤ R.slots) (hp : rl_P E av σ av.toArray T) :
    ∃ (x : Nat) (t T' : State) (L' : List Loc), Stand p l e R s m args below meth c T' (locs ++ L') (cells + 1) (slots + 6) ∧ (∀ q ∈ L', rl_A E q.base) ∧ T'.heap = t.heap ∧ rl_T E X τ av.toArray (T.calling g mk av.toArray) (.threw x) t ∧
      Steps p.tables e below (doInvoke e (T.setTop g) [] mk av.toArray).1 ((T'.setTop g).pushFrame (.throwing x)) := by
  have h2 := hws _ hcw av.toArray T X₀.warmed
  obtain ⟨methY, cY, hmY, hcY, -, hlY, -, -, -, -⟩ := Cond.code_spec hn h2
  obtain ⟨kY, hkY, -⟩ := className_of_methodNamed hn
  have hinitY : kY.init = .initialized := Cond.initialized_spec (findClass_of_methodNamed hn) hkY (hini av.toArray T X₀.warmed)
  have h : At T g.method c below := by rw [hg]; exact X₀.here
  have happ : (headSpec ws rm).appliesLoose y e.platform (T.calling g mk av.toArray) = true :=
    Spec.appliesLoose_calling (g := g) h hdg hn hkY hinitY
      (X₀.room_calling (g := g) (R' := (headSpec ws rm).room) hsize hmY hcY hf (by rw [hlY]; show _ + (maxL + 11) + rm.locals ≤ _; omega) (by show _ + rm.cells ≤ _; rw [hrm.1]; exact hcl.1) (by show _ + rm.slots ≤ _; rw [hrm.2]; exact hcl.2)) (atoms_intro fun w hw => hws w hw _ _ X₀.warmed)
  obtain ⟨mid, hmid⟩ := h.above
  have hfr : (T.setTop g).frames = (.java g :: mid) ++ below := by rw [State.frames_setTop' g h.top, hmid]; rfl
  obtain ⟨o, s₂, hsteps, -, hend, hq, L', hFT, hL⟩ := Steps.callFree hM p X₀.admits X₀.cas X₀.clock (acts := []) hfr happ (rl_P_blind E av σ _ _ _ _ hp) trivial
  obtain ⟨⟨x, rfl⟩, hW2, hs2⟩ := hFT
  have hend' : Ended s₂ (.java g :: below) (.threw x) := by
    have he : (T.setTop g).frames = .java g :: below := by rw [State.frames_setTop' g h.top, X₀.tail]
    rw [he] at hend
    exact hend
  obtain ⟨T', X', hWT, hsT, hs⟩ := X₀.outOfThrown hg (mk := mk) (a := av.toArray) hend' hW2 hs2
  refine ⟨x, s₂, T', L', X', hL, ?_, hq, by rw [← hs]; exact hsteps⟩
  rw [hs]
  simp [State.pushFrame, State.setFrames, State.setTop, State.modifyTopJava]
end RLT
