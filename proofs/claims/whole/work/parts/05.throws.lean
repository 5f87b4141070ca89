/-- no stack traces in this launch -/
def rl_Lq (l : Launch) : Prop := ∀ e : Env, l.admits e → e.platform.stackTraces = false
def rl_FT (s : State) (o : Outcome) (t : State) (L : List Loc) (k n : Nat) : Prop := (∃ x : Addr, o = Outcome.threw x) ∧ s.WarmedH t.vm ∧ s.sameButNew ({ t with vm := s.vm } : State) L k n
/-- the end of a method that throws an X -/
def rl_T (E : rl_E) (X : String) (σ : rl_M) : Array Value → State → Outcome → State → Prop := fun _ st oc t => ∃ x : Nat, oc = .threw x ∧ (∃ cell : Cell, t.heap[x]? = some cell ∧ cell.vm = .none ∧ st.vm.findClass X = some cell.cls) ∧ va_P E.2.1 rl_Cl (rl_wo E σ) t.heap ∧ va_F (rl_A E) st t
def rl_MQT (below : List Frame) (Qc : Array Value → State → Outcome → State → Prop) (a : Array Value) (s : State) (mc ms : Nat) (free : Addr → Prop) : State → Prop := fun t =>
  ∃ o, t.status = .running ∧ Ended t below o ∧ Qc a s o t ∧ ∃ L, rl_FT s o t L mc ms ∧ ∀ q ∈ L, free q.base
/-- a contract of a method that throws an X -/
def rl_MT (l : Launch) (y : MethodName) (ws : List Cond) (rm : Room) (E : rl_E) (av : List Value) (σ : rl_M) (X : String) (τ : rl_M) : Prop :=
  MetFree l y (headSpec ws rm) (rl_P E av σ) (fun _ _ _ _ _ => True) (fun a st o t => rl_T E X τ a st o t ∧ ∃ L, rl_FT st o t L 1 6 ∧ ∀ q ∈ L, rl_A E q.base)
theorem rl_MT.ofW {l : Launch} {y : MethodName} {ws ws' : List Cond} {rm : Room} {E : rl_E} {av : List Value} {σ τ : rl_M} {X : String} {cc : ByteArray} {maxL : Nat} {ret : Option FieldType}
    (hy : plainName y.cls = true) (hw : ws = Cond.code y cc maxL ret :: ws')
    (body : ∀ p e s m args below meth c s₁, BodyLoose p l y (headSpec ws rm) cc maxL ret e s m args below meth c s₁ → c.maxLocals = maxL → rl_P E av σ args s →
      W p l e (headSpec ws rm).room s m args below meth c s.heap [] 0 0 (rl_MQT below (rl_T E X τ) args s 1 6 (rl_A E)) (entryFrame m args maxL)) : rl_MT l y ws rm E av σ X τ := by
  refine MetFree.of_bodyS (code := cc) (maxLocals := maxL) (ret := ret) hy ?_ ?_
  · intro args s m h hn
    obtain ⟨meth, c, h1, h2, h3, h4, h5, h6, -, -⟩ := Cond.code_spec hn (atoms_spec (ws := ws) h _ (by rw [hw]; exact List.mem_cons_self))
    exact ⟨meth, c, h1, h2, h3, h4, h5, h6⟩
  · intro p e s m args below meth c s₁ B hml hP _
    have hh0 : s₁.heap = s.heap := by rw [B.state]; rfl
    obtain ⟨t, a1, o, b1, b2, b3⟩ := body p e s m args below meth c s₁ B hml hP s₁ hh0 (Stand.of_body B)
    exact ⟨t, o, a1, b1, b2, ⟨b3.1, b3.2⟩⟩
section RLT
variable {p : Program} {l : Launch} {e : Env} {R : Room} {s : State} {m : MethodId} {args : Array Value} {below : List Frame} {meth : Method} {c : Code} {cells slots : Nat} {Q : State → Prop}
variable {cc : ByteArray} {nL : Nat} {own : String} {E : rl_E} {σ τ : rl_M} {pc : Nat} {L : List (Nat × Value)} {st : List Value}
/-- a call that ends in 'threw': the caller's frame with the note laid over it -/
theorem rl_backT {y : MethodName} {ws : List Cond} {rm : Room} {av : List Value} {X : String} {bytes : ByteArray} {maxL : Nat} {ret : Option FieldType} (hM : rl_MT l y ws rm E av σ X τ)
    (hrm : rm.cells = 1 ∧ rm.slots = 6) (hf : rm.frames + 1 ≤ R.frames) (hlo : 8 + (maxL + 11) + rm.locals ≤ R.locals)
    (hws : ∀ w ∈ ws, ∀ (a' : Array Value) (U : State), s.WarmedH U.vm → w.before a' U = true) (hcw : Cond.code y bytes maxL ret ∈ ws) (hini : ∀ (a' : Array Value) (U : State), s.WarmedH U.vm → (Cond.initialized y.cls).before a' U = true)
    {T : State} {locs : List Loc} (X₀ : Stand p l e R s m args below meth c T locs cells slots) {g : JFrame} (hg : g.method = m) (hsize : g.locals.size = c.maxLocals) {ig : Instr} {len : Nat} (hdg : decode c.code g.pc = .ok (ig, len))
    (hW : 2 * g.monitorRoom + (g.stack.map fun v => v.category).sum ≤ 8) {mk : MethodId} (hn : T.methodNamed? y = some mk) (hcl : cells + 1 ≤ R.cells ∧ slots + 6 ≤ R.slots) (hp : rl_P E av σ av.toArray T) :
    ∃ (x : Nat) (t T' : State) (L' : List Loc), Stand p l e R s m args below meth c T' (locs ++ L') (cells + 1) (slots + 6) ∧ (∀ q ∈ L', rl_A E q.base) ∧ T'.heap = t.heap ∧ rl_T E X τ av.toArray (T.calling g mk av.toArray) (.threw x) t ∧
      Steps p.tables e below (doInvoke e (T.setTop g) [] mk av.toArray).1 ((T'.setTop g).pushFrame (.throwing x)) := by
  have h2 := hws _ hcw av.toArray T X₀.warmed
  obtain ⟨methY, cY, hmY, hcY, -, hlY, -, -, -, -⟩ := Cond.code_spec hn h2
  obtain ⟨kY, hkY, -⟩ := className_of_methodNamed hn
  have hinitY : kY.init = .initialized := Cond.initialized_spec (findClass_of_methodNamed hn) hkY (hini av.toArray T X₀.warmed)
  have h : At T g.method c below := by rw [hg]; exact X₀.here
  have happ : (headSpec ws rm).appliesLoose y e.platform (T.calling g mk av.toArray) = true :=
    Spec.appliesLoose_calling (g := g) h hdg hn hkY hinitY
      (X₀.room_calling (g := g) (R' := (headSpec ws rm).room) hsize hmY hcY hf (by rw [hlY]; show _ + (maxL + 11) + rm.locals ≤ _; omega) (by show _ + rm.cells ≤ _; rw [hrm.1]; exact hcl.1) (by show _ + rm.slots ≤ _; rw [hrm.2]; exact hcl.2)) (atoms_intro fun w hw => hws w hw _ _ X₀.warmed)
  obtain ⟨mid, hmid⟩ := h.above
  have hfr : (T.setTop g).frames = (.java g :: mid) ++ below := by rw [State.frames_setTop' g h.top, hmid]; rfl
  obtain ⟨o, s₂, hsteps, -, hend, hq, L', hFT, hL⟩ := Steps.callFree hM p X₀.admits X₀.cas X₀.clock (acts := []) hfr happ (rl_P_blind E av σ _ _ _ _ hp) trivial
  obtain ⟨⟨x, rfl⟩, hW2, hs2⟩ := hFT
  have hend' : Ended s₂ (.java g :: below) (.threw x) := by
    have he : (T.setTop g).frames = .java g :: below := by rw [State.frames_setTop' g h.top, X₀.tail]
    rw [he] at hend
    exact hend
  obtain ⟨T', X', hWT, hsT, hs⟩ := X₀.outOfThrown hg (mk := mk) (a := av.toArray) hend' hW2 hs2
  refine ⟨x, s₂, T', L', X', hL, ?_, hq, by rw [← hs]; exact hsteps⟩
  rw [hs]
  simp [State.pushFrame, State.setFrames, State.setTop, State.modifyTopJava]
end RLT
/-- the road on which nothing is written: the heap is the one at the entry -/
def r0_G (p : Program) (l : Launch) (e : Env) (R : Room) (s : State) (m : MethodId) (args : Array Value) (below : List Frame) (meth : Method) (c : Code) (nL : Nat) (Q : State → Prop) (pc : Nat) (L : List (Nat × Value)) (st : List Value) : Prop :=
  ∀ ls : Array Slot, lv_has ls nL L → W p l e R s m args below meth c s.heap [] 0 0 Q (F0 m pc ls st)
def rl_QP (v : Option Value) : Array Value → State → Outcome → State → Prop := fun _ st oc t => oc = .returned v ∧ t.heap = st.heap
def rl_exc (n : Nat) : String := if n = 1 then "java/lang/IllegalArgumentException" else "java/lang/IllegalStateException"
theorem rl_x0 {v : Int32} {σ : rl_M} {r : Nat × Int32 × rl_M} (h : some (0, v, σ) = some r) : some (v, σ) = some r.2 := by cases h; rfl
theorem rl_x1 {v : Int32} {σ : rl_M} {r : Nat × Int32 × rl_M} (hr : ¬ r.1 = 0) (h : some (0, v, σ) = some r) : False := by cases h; exact hr rfl
theorem rl_xn {z : Nat} {v : Int32} {σ : rl_M} {r : Nat × Int32 × rl_M} (hr : r.1 = 0) (hz : ¬ z = 0) (h : some (z, v, σ) = some r) : False := by cases h; exact hz hr
section R0G
variable {p : Program} {l : Launch} {e : Env} {R : Room} {s : State} {m : MethodId} {args : Array Value} {below : List Frame} {meth : Method} {c : Code} {Q : State → Prop}
variable {cc : ByteArray} {nL : Nat} {Ts : List Cond} {own : String} {E : rl_E} {σ τ : rl_M} {pc : Nat} {L : List (Nat × Value)} {st : List Value}
theorem r0_iconst (Γ : CallFix p m c cc nL s args Ts own) {n : Int} {v : Int32} (d : decode cc pc = .ok (.iconst n, 1)) (hv : Int32.ofInt n = v) (k : r0_G p l e R s m args below meth c nL Q (pc + 1) L (.int v :: st)) : r0_G p l e R s m args below meth c nL Q (pc) L st := fun ls h3 => lv_iconst Γ.1 Γ.2.1 d hv (k ls h3)
theorem r0_bipush (Γ : CallFix p m c cc nL s args Ts own) {n : Int} {v : Int32} (d : decode cc pc = .ok (.bipush n, 2)) (hv : (Int8.ofInt n).toInt32 = v) (k : r0_G p l e R s m args below meth c nL Q (pc + 2) L (.int v :: st)) : r0_G p l e R s m args below meth c nL Q (pc) L st := fun ls h3 => lv_bipush Γ.1 Γ.2.1 d hv (k ls h3)
theorem r0_sipush (Γ : CallFix p m c cc nL s args Ts own) {n : Int} {v : Int32} (d : decode cc pc = .ok (.sipush n, 3)) (hv : (Int16.ofInt n).toInt32 = v) (k : r0_G p l e R s m args below meth c nL Q (pc + 3) L (.int v :: st)) : r0_G p l e R s m args below meth c nL Q (pc) L st := fun ls h3 => lv_sipush Γ.1 Γ.2.1 d hv (k ls h3)
theorem r0_ldc (Γ : CallFix p m c cc nL s args Ts own) {v : Int32} {index : Nat} (d : decode cc pc = .ok (.ldc index, 2)) (hc : (Jvm.Cond.constant own index v).before args s = true) (k : r0_G p l e R s m args below meth c nL Q (pc + 2) L (.int v :: st)) : r0_G p l e R s m args below meth c nL Q (pc) L st := fun ls h3 => lv_ldc Γ.1 Γ.2.1 Γ.2.2.2.1 hc d (k ls h3)
theorem r0_lconst (Γ : CallFix p m c cc nL s args Ts own) {n : Fin 2} {v : Int64} (d : decode cc pc = .ok (.lconst n, 1)) (hv : Int64.ofNat (n : Nat) = v) (k : r0_G p l e R s m args below meth c nL Q (pc + 1) L (.long v :: st)) : r0_G p l e R s m args below meth c nL Q (pc) L st := fun ls h3 => lv_lconst Γ.1 Γ.2.1 d hv (k ls h3)
theorem r0_iload_n (Γ : CallFix p m c cc nL s args Ts own) {z : Fin 4} {x : Int32} (d : decode cc pc = .ok (.iload_n z, 1)) (j : Nat) (hl : L[j]? = some ((z : Nat), .int x)) (k : r0_G p l e R s m args below meth c nL Q (pc + 1) L (.int x :: st)) : r0_G p l e R s m args below meth c nL Q (pc) L st := fun ls h3 => lv_iload_n Γ.1 Γ.2.1 d rfl (lv_at h3 j hl) (k ls h3)
theorem r0_iload (Γ : CallFix p m c cc nL s args Ts own) {z : Nat} {x : Int32} (d : decode cc pc = .ok (.iload z, 2)) (j : Nat) (hl : L[j]? = some (z, .int x)) (k : r0_G p l e R s m args below meth c nL Q (pc + 2) L (.int x :: st)) : r0_G p l e R s m args below meth c nL Q (pc) L st := fun ls h3 => lv_iload Γ.1 Γ.2.1 d (lv_at h3 j hl) (k ls h3)
theorem r0_lload_n (Γ : CallFix p m c cc nL s args Ts own) {z : Fin 4} {x : Int64} (d : decode cc pc = .ok (.lload_n z, 1)) (j : Nat) (hl : L[j]? = some ((z : Nat), .long x)) (k : r0_G p l e R s m args below meth c nL Q (pc + 1) L (.long x :: st)) : r0_G p l e R s m args below meth c nL Q (pc) L st := fun ls h3 => lv_lload_n Γ.1 Γ.2.1 d rfl (lv_at h3 j hl) (k ls h3)
theorem r0_lload (Γ : CallFix p m c cc nL s args Ts own) {z : Nat} {x : Int64} (d : decode cc pc = .ok (.lload z, 2)) (j : Nat) (hl : L[j]? = some (z, .long x)) (k : r0_G p l e R s m args below meth c nL Q (pc + 2) L (.long x :: st)) : r0_G p l e R s m args below meth c nL Q (pc) L st := fun ls h3 => lv_lload Γ.1 Γ.2.1 d (lv_at h3 j hl) (k ls h3)
theorem r0_aload_n (Γ : CallFix p m c cc nL s args Ts own) {z : Fin 4} {x : Nat} (d : decode cc pc = .ok (.aload_n z, 1)) (j : Nat) (hl : L[j]? = some ((z : Nat), .ref x)) (k : r0_G p l e R s m args below meth c nL Q (pc + 1) L (.ref x :: st)) : r0_G p l e R s m args below meth c nL Q (pc) L st := fun ls h3 => lv_aload_n Γ.1 Γ.2.1 d rfl (lv_at h3 j hl) (k ls h3)
theorem r0_aload (Γ : CallFix p m c cc nL s args Ts own) {z : Nat} {x : Nat} (d : decode cc pc = .ok (.aload z, 2)) (j : Nat) (hl : L[j]? = some (z, .ref x)) (k : r0_G p l e R s m args below meth c nL Q (pc + 2) L (.ref x :: st)) : r0_G p l e R s m args below meth c nL Q (pc) L st := fun ls h3 => lv_aload Γ.1 Γ.2.1 d (lv_at h3 j hl) (k ls h3)
theorem r0_istore_n (Γ : CallFix p m c cc nL s args Ts own) {z : Fin 4} {x : Int32} {L' : List (Nat × Value)} (d : decode cc pc = .ok (.istore_n z, 1)) (hn : (z : Nat) < nL) (hl : ((z : Nat), Value.int x) :: L.filter (fun q => !(q.1 == (z : Nat)) && !(q.1 + 1 == (z : Nat) && q.2.category == 2)) = L') (k : r0_G p l e R s m args below meth c nL Q (pc + 1) L' st) : r0_G p l e R s m args below meth c nL Q (pc) L (.int x :: st) := fun ls h3 => lv_istore_n Γ.1 Γ.2.1 d rfl h3 hn hl (fun ls' h => k ls' h)
theorem r0_istore (Γ : CallFix p m c cc nL s args Ts own) {z : Nat} {x : Int32} {L' : List (Nat × Value)} (d : decode cc pc = .ok (.istore z, 2)) (hn : z < nL) (hl : (z, Value.int x) :: L.filter (fun q => !(q.1 == z) && !(q.1 + 1 == z && q.2.category == 2)) = L') (k : r0_G p l e R s m args below meth c nL Q (pc + 2) L' st) : r0_G p l e R s m args below meth c nL Q (pc) L (.int x :: st) := fun ls h3 => lv_istore Γ.1 Γ.2.1 d h3 hn hl (fun ls' h => k ls' h)
theorem r0_lstore_n (Γ : CallFix p m c cc nL s args Ts own) {z : Fin 4} {x : Int64} {L' : List (Nat × Value)} (d : decode cc pc = .ok (.lstore_n z, 1)) (hn : (z : Nat) + 1 < nL) (hl : ((z : Nat), Value.long x) :: L.filter (fun q => !(q.1 == (z : Nat)) && (!(q.1 == (z : Nat) + 1) && !(q.1 + 1 == (z : Nat) && q.2.category == 2))) = L') (k : r0_G p l e R s m args below meth c nL Q (pc + 1) L' st) : r0_G p l e R s m args below meth c nL Q (pc) L (.long x :: st) := fun ls h3 => lv_lstore_n Γ.1 Γ.2.1 d rfl h3 hn hl (fun ls' h => k ls' h)
theorem r0_lstore (Γ : CallFix p m c cc nL s args Ts own) {z : Nat} {x : Int64} {L' : List (Nat × Value)} (d : decode cc pc = .ok (.lstore z, 2)) (hn : z + 1 < nL) (hl : (z, Value.long x) :: L.filter (fun q => !(q.1 == z) && (!(q.1 == z + 1) && !(q.1 + 1 == z && q.2.category == 2))) = L') (k : r0_G p l e R s m args below meth c nL Q (pc + 2) L' st) : r0_G p l e R s m args below meth c nL Q (pc) L (.long x :: st) := fun ls h3 => lv_lstore Γ.1 Γ.2.1 d h3 hn hl (fun ls' h => k ls' h)
theorem r0_astore_n (Γ : CallFix p m c cc nL s args Ts own) {z : Fin 4} {x : Nat} {L' : List (Nat × Value)} (d : decode cc pc = .ok (.astore_n z, 1)) (hn : (z : Nat) < nL) (hl : ((z : Nat), Value.ref x) :: L.filter (fun q => !(q.1 == (z : Nat)) && !(q.1 + 1 == (z : Nat) && q.2.category == 2)) = L') (k : r0_G p l e R s m args below meth c nL Q (pc + 1) L' st) : r0_G p l e R s m args below meth c nL Q (pc) L (.ref x :: st) := fun ls h3 => lv_astore_n Γ.1 Γ.2.1 d rfl h3 hn hl (fun ls' h => k ls' h)
theorem r0_astore (Γ : CallFix p m c cc nL s args Ts own) {z : Nat} {x : Nat} {L' : List (Nat × Value)} (d : decode cc pc = .ok (.astore z, 2)) (hn : z < nL) (hl : (z, Value.ref x) :: L.filter (fun q => !(q.1 == z) && !(q.1 + 1 == z && q.2.category == 2)) = L') (k : r0_G p l e R s m args below meth c nL Q (pc + 2) L' st) : r0_G p l e R s m args below meth c nL Q (pc) L (.ref x :: st) := fun ls h3 => lv_astore Γ.1 Γ.2.1 d h3 hn hl (fun ls' h => k ls' h)
theorem r0_iinc (Γ : CallFix p m c cc nL s args Ts own) {z : Nat} {n : Int} {x v : Int32} {L' : List (Nat × Value)} (d : decode cc pc = .ok (.iinc z n, 3)) (j : Nat) (hj : L[j]? = some (z, .int x)) (hv : x + Int32.ofInt n = v) (hn : z < nL) (hl : (z, Value.int v) :: L.filter (fun q => !(q.1 == z) && !(q.1 + 1 == z && q.2.category == 2)) = L') (k : r0_G p l e R s m args below meth c nL Q (pc + 3) L' st) : r0_G p l e R s m args below meth c nL Q (pc) L st := fun ls h3 => lv_iinc Γ.1 Γ.2.1 d h3 hj hv hn hl (fun ls' h => k ls' h)
theorem r0_iadd (Γ : CallFix p m c cc nL s args Ts own) {x y : Int32} (d : decode cc pc = .ok (.iadd, 1))  (k : r0_G p l e R s m args below meth c nL Q (pc + 1) L (.int (x + y) :: st)) : r0_G p l e R s m args below meth c nL Q (pc) L (.int y :: .int x :: st) := fun ls h3 => lv_iadd Γ.1 Γ.2.1 d (k ls h3)
theorem r0_isub (Γ : CallFix p m c cc nL s args Ts own) {x y : Int32} (d : decode cc pc = .ok (.isub, 1))  (k : r0_G p l e R s m args below meth c nL Q (pc + 1) L (.int (x - y) :: st)) : r0_G p l e R s m args below meth c nL Q (pc) L (.int y :: .int x :: st) := fun ls h3 => lv_isub Γ.1 Γ.2.1 d (k ls h3)
theorem r0_imul (Γ : CallFix p m c cc nL s args Ts own) {x y : Int32} (d : decode cc pc = .ok (.imul, 1))  (k : r0_G p l e R s m args below meth c nL Q (pc + 1) L (.int (x * y) :: st)) : r0_G p l e R s m args below meth c nL Q (pc) L (.int y :: .int x :: st) := fun ls h3 => lv_imul Γ.1 Γ.2.1 d (k ls h3)
theorem r0_iand (Γ : CallFix p m c cc nL s args Ts own) {x y : Int32} (d : decode cc pc = .ok (.iand, 1))  (k : r0_G p l e R s m args below meth c nL Q (pc + 1) L (.int (x &&& y) :: st)) : r0_G p l e R s m args below meth c nL Q (pc) L (.int y :: .int x :: st) := fun ls h3 => lv_iand Γ.1 Γ.2.1 d (k ls h3)
theorem r0_ior (Γ : CallFix p m c cc nL s args Ts own) {x y : Int32} (d : decode cc pc = .ok (.ior, 1))  (k : r0_G p l e R s m args below meth c nL Q (pc + 1) L (.int (x ||| y) :: st)) : r0_G p l e R s m args below meth c nL Q (pc) L (.int y :: .int x :: st) := fun ls h3 => lv_ior Γ.1 Γ.2.1 d (k ls h3)
theorem r0_ixor (Γ : CallFix p m c cc nL s args Ts own) {x y : Int32} (d : decode cc pc = .ok (.ixor, 1))  (k : r0_G p l e R s m args below meth c nL Q (pc + 1) L (.int (x ^^^ y) :: st)) : r0_G p l e R s m args below meth c nL Q (pc) L (.int y :: .int x :: st) := fun ls h3 => lv_ixor Γ.1 Γ.2.1 d (k ls h3)
theorem r0_ishl (Γ : CallFix p m c cc nL s args Ts own) {x y : Int32} (d : decode cc pc = .ok (.ishl, 1))  (k : r0_G p l e R s m args below meth c nL Q (pc + 1) L (.int (x <<< (y &&& 31)) :: st)) : r0_G p l e R s m args below meth c nL Q (pc) L (.int y :: .int x :: st) := fun ls h3 => lv_ishl Γ.1 Γ.2.1 d (k ls h3)
theorem r0_ishr (Γ : CallFix p m c cc nL s args Ts own) {x y : Int32} (d : decode cc pc = .ok (.ishr, 1))  (k : r0_G p l e R s m args below meth c nL Q (pc + 1) L (.int (x >>> (y &&& 31)) :: st)) : r0_G p l e R s m args below meth c nL Q (pc) L (.int y :: .int x :: st) := fun ls h3 => lv_ishr Γ.1 Γ.2.1 d (k ls h3)
theorem r0_idiv (Γ : CallFix p m c cc nL s args Ts own) {x y : Int32} (d : decode cc pc = .ok (.idiv, 1)) (hne : ¬ y = 0) (k : r0_G p l e R s m args below meth c nL Q (pc + 1) L (.int (x / y) :: st)) : r0_G p l e R s m args below meth c nL Q (pc) L (.int y :: .int x :: st) := fun ls h3 => lv_idiv Γ.1 Γ.2.1 d hne (k ls h3)
theorem r0_irem (Γ : CallFix p m c cc nL s args Ts own) {x y : Int32} (d : decode cc pc = .ok (.irem, 1)) (hne : ¬ y = 0) (k : r0_G p l e R s m args below meth c nL Q (pc + 1) L (.int (x - x / y * y) :: st)) : r0_G p l e R s m args below meth c nL Q (pc) L (.int y :: .int x :: st) := fun ls h3 => lv_irem Γ.1 Γ.2.1 d hne (k ls h3)
theorem r0_ineg (Γ : CallFix p m c cc nL s args Ts own) {x : Int32} (d : decode cc pc = .ok (.ineg, 1))  (k : r0_G p l e R s m args below meth c nL Q (pc + 1) L (.int (-x) :: st)) : r0_G p l e R s m args below meth c nL Q (pc) L (.int x :: st) := fun ls h3 => lv_ineg Γ.1 Γ.2.1 d (k ls h3)
theorem r0_land (Γ : CallFix p m c cc nL s args Ts own) {x y : Int64} (d : decode cc pc = .ok (.land, 1))  (k : r0_G p l e R s m args below meth c nL Q (pc + 1) L (.long (x &&& y) :: st)) : r0_G p l e R s m args below meth c nL Q (pc) L (.long y :: .long x :: st) := fun ls h3 => lv_land Γ.1 Γ.2.1 d (k ls h3)
theorem r0_lor (Γ : CallFix p m c cc nL s args Ts own) {x y : Int64} (d : decode cc pc = .ok (.lor, 1))  (k : r0_G p l e R s m args below meth c nL Q (pc + 1) L (.long (x ||| y) :: st)) : r0_G p l e R s m args below meth c nL Q (pc) L (.long y :: .long x :: st) := fun ls h3 => lv_lor Γ.1 Γ.2.1 d (k ls h3)
theorem r0_lxor (Γ : CallFix p m c cc nL s args Ts own) {x y : Int64} (d : decode cc pc = .ok (.lxor, 1))  (k : r0_G p l e R s m args below meth c nL Q (pc + 1) L (.long (x ^^^ y) :: st)) : r0_G p l e R s m args below meth c nL Q (pc) L (.long y :: .long x :: st) := fun ls h3 => lv_lxor Γ.1 Γ.2.1 d (k ls h3)
theorem r0_ladd (Γ : CallFix p m c cc nL s args Ts own) {x y : Int64} (d : decode cc pc = .ok (.ladd, 1))  (k : r0_G p l e R s m args below meth c nL Q (pc + 1) L (.long (x + y) :: st)) : r0_G p l e R s m args below meth c nL Q (pc) L (.long y :: .long x :: st) := fun ls h3 => lv_ladd Γ.1 Γ.2.1 d (k ls h3)
theorem r0_lsub (Γ : CallFix p m c cc nL s args Ts own) {x y : Int64} (d : decode cc pc = .ok (.lsub, 1))  (k : r0_G p l e R s m args below meth c nL Q (pc + 1) L (.long (x - y) :: st)) : r0_G p l e R s m args below meth c nL Q (pc) L (.long y :: .long x :: st) := fun ls h3 => lv_lsub Γ.1 Γ.2.1 d (k ls h3)
theorem r0_lmul (Γ : CallFix p m c cc nL s args Ts own) {x y : Int64} (d : decode cc pc = .ok (.lmul, 1))  (k : r0_G p l e R s m args below meth c nL Q (pc + 1) L (.long (x * y) :: st)) : r0_G p l e R s m args below meth c nL Q (pc) L (.long y :: .long x :: st) := fun ls h3 => lv_lmul Γ.1 Γ.2.1 d (k ls h3)
theorem r0_i2l (Γ : CallFix p m c cc nL s args Ts own) {x : Int32} (d : decode cc pc = .ok (.i2l, 1))  (k : r0_G p l e R s m args below meth c nL Q (pc + 1) L (.long x.toInt64 :: st)) : r0_G p l e R s m args below meth c nL Q (pc) L (.int x :: st) := fun ls h3 => lv_i2l Γ.1 Γ.2.1 d rfl (k ls h3)
theorem r0_l2i (Γ : CallFix p m c cc nL s args Ts own) {x : Int64} (d : decode cc pc = .ok (.l2i, 1))  (k : r0_G p l e R s m args below meth c nL Q (pc + 1) L (.int x.toInt32 :: st)) : r0_G p l e R s m args below meth c nL Q (pc) L (.long x :: st) := fun ls h3 => lv_l2i Γ.1 Γ.2.1 d rfl (k ls h3)
theorem r0_lushr (Γ : CallFix p m c cc nL s args Ts own) {x : Int64} {y : Int32} (d : decode cc pc = .ok (.lushr, 1))  (k : r0_G p l e R s m args below meth c nL Q (pc + 1) L (.long (x.toUInt64 >>> (y.toInt64.toUInt64 &&& Int64.toUInt64 63)).toInt64 :: st)) : r0_G p l e R s m args below meth c nL Q (pc) L (.int y :: .long x :: st) := fun ls h3 => lv_lushr Γ.1 Γ.2.1 d rfl (k ls h3)
theorem r0_lshl (Γ : CallFix p m c cc nL s args Ts own) {x : Int64} {y : Int32} (d : decode cc pc = .ok (.lshl, 1))  (k : r0_G p l e R s m args below meth c nL Q (pc + 1) L (.long (x <<< (y.toInt64 &&& 63)) :: st)) : r0_G p l e R s m args below meth c nL Q (pc) L (.int y :: .long x :: st) := fun ls h3 => lv_lshl Γ.1 Γ.2.1 d rfl (k ls h3)
theorem r0_lshr (Γ : CallFix p m c cc nL s args Ts own) {x : Int64} {y : Int32} (d : decode cc pc = .ok (.lshr, 1))  (k : r0_G p l e R s m args below meth c nL Q (pc + 1) L (.long (x >>> (y.toInt64 &&& 63)) :: st)) : r0_G p l e R s m args below meth c nL Q (pc) L (.int y :: .long x :: st) := fun ls h3 => lv_lshr Γ.1 Γ.2.1 d rfl (k ls h3)
theorem r0_iushr (Γ : CallFix p m c cc nL s args Ts own) {x y : Int32} (d : decode cc pc = .ok (.iushr, 1))  (k : r0_G p l e R s m args below meth c nL Q (pc + 1) L (.int (x.toUInt32 >>> (y.toUInt32 &&& Int32.toUInt32 31)).toInt32 :: st)) : r0_G p l e R s m args below meth c nL Q (pc) L (.int y :: .int x :: st) := fun ls h3 => lv_iushr Γ.1 Γ.2.1 d rfl (k ls h3)
theorem r0_dup (Γ : CallFix p m c cc nL s args Ts own) {a : Value} (d : decode cc pc = .ok (.dup, 1)) (ha : a.category = 1) (k : r0_G p l e R s m args below meth c nL Q (pc + 1) L (a :: a :: st)) : r0_G p l e R s m args below meth c nL Q (pc) L (a :: st) := fun ls h3 => lv_dup Γ.1 Γ.2.1 d ha (k ls h3)
theorem r0_pop (Γ : CallFix p m c cc nL s args Ts own) {a : Value} (d : decode cc pc = .ok (.pop, 1)) (ha : a.category = 1) (k : r0_G p l e R s m args below meth c nL Q (pc + 1) L st) : r0_G p l e R s m args below meth c nL Q (pc) L (a :: st) := fun ls h3 => lv_pop Γ.1 Γ.2.1 d ha (k ls h3)
theorem r0_dup_x1 (Γ : CallFix p m c cc nL s args Ts own) {a b : Value} (d : decode cc pc = .ok (.dup_x1, 1)) (ha : a.category = 1) (hb : b.category = 1) (k : r0_G p l e R s m args below meth c nL Q (pc + 1) L (a :: b :: a :: st)) : r0_G p l e R s m args below meth c nL Q (pc) L (a :: b :: st) := fun ls h3 => lv_dup_x1 Γ.1 Γ.2.1 d ha hb (k ls h3)
theorem r0_dup2 (Γ : CallFix p m c cc nL s args Ts own) {a b : Value} (d : decode cc pc = .ok (.dup2, 1)) (ha : a.category = 1) (hb : b.category = 1) (k : r0_G p l e R s m args below meth c nL Q (pc + 1) L (a :: b :: a :: b :: st)) : r0_G p l e R s m args below meth c nL Q (pc) L (a :: b :: st) := fun ls h3 => lv_dup2_11 Γ.1 Γ.2.1 d ha hb (k ls h3)
theorem r0_if_eq (Γ : CallFix p m c cc nL s args Ts own) {x : Int32} {off : Int} {tgt : Nat} (d : decode cc pc = .ok (.ifCond .eq off, 3)) (ht : (pc : Int) + off = (tgt : Int)) (kt : x = 0 → r0_G p l e R s m args below meth c nL Q (tgt) L st) (kf : ¬ x = 0 → r0_G p l e R s m args below meth c nL Q (pc + 3) L st) : r0_G p l e R s m args below meth c nL Q (pc) L (.int x :: st) := fun ls h3 => lv_if_eq Γ.1 Γ.2.1 d ht (fun z => kt z ls h3) (fun z => kf z ls h3)
theorem r0_icmp_eq (Γ : CallFix p m c cc nL s args Ts own) {x y : Int32} {off : Int} {tgt : Nat} (d : decode cc pc = .ok (.if_icmp .eq off, 3)) (ht : (pc : Int) + off = (tgt : Int)) (kt : x = y → r0_G p l e R s m args below meth c nL Q (tgt) L st) (kf : ¬ x = y → r0_G p l e R s m args below meth c nL Q (pc + 3) L st) : r0_G p l e R s m args below meth c nL Q (pc) L (.int y :: .int x :: st) := fun ls h3 => lv_icmp_eq Γ.1 Γ.2.1 d ht (fun z => kt z ls h3) (fun z => kf z ls h3)
theorem r0_if_ne (Γ : CallFix p m c cc nL s args Ts own) {x : Int32} {off : Int} {tgt : Nat} (d : decode cc pc = .ok (.ifCond .ne off, 3)) (ht : (pc : Int) + off = (tgt : Int)) (kt : ¬ x = 0 → r0_G p l e R s m args below meth c nL Q (tgt) L st) (kf : x = 0 → r0_G p l e R s m args below meth c nL Q (pc + 3) L st) : r0_G p l e R s m args below meth c nL Q (pc) L (.int x :: st) := fun ls h3 => lv_if_ne Γ.1 Γ.2.1 d ht (fun z => kt z ls h3) (fun z => kf z ls h3)
theorem r0_icmp_ne (Γ : CallFix p m c cc nL s args Ts own) {x y : Int32} {off : Int} {tgt : Nat} (d : decode cc pc = .ok (.if_icmp .ne off, 3)) (ht : (pc : Int) + off = (tgt : Int)) (kt : ¬ x = y → r0_G p l e R s m args below meth c nL Q (tgt) L st) (kf : x = y → r0_G p l e R s m args below meth c nL Q (pc + 3) L st) : r0_G p l e R s m args below meth c nL Q (pc) L (.int y :: .int x :: st) := fun ls h3 => lv_icmp_ne Γ.1 Γ.2.1 d ht (fun z => kt z ls h3) (fun z => kf z ls h3)
theorem r0_if_lt (Γ : CallFix p m c cc nL s args Ts own) {x : Int32} {off : Int} {tgt : Nat} (d : decode cc pc = .ok (.ifCond .lt off, 3)) (ht : (pc : Int) + off = (tgt : Int)) (kt : x < 0 → r0_G p l e R s m args below meth c nL Q (tgt) L st) (kf : ¬ x < 0 → r0_G p l e R s m args below meth c nL Q (pc + 3) L st) : r0_G p l e R s m args below meth c nL Q (pc) L (.int x :: st) := fun ls h3 => lv_if_lt Γ.1 Γ.2.1 d ht (fun z => kt z ls h3) (fun z => kf z ls h3)
theorem r0_icmp_lt (Γ : CallFix p m c cc nL s args Ts own) {x y : Int32} {off : Int} {tgt : Nat} (d : decode cc pc = .ok (.if_icmp .lt off, 3)) (ht : (pc : Int) + off = (tgt : Int)) (kt : x < y → r0_G p l e R s m args below meth c nL Q (tgt) L st) (kf : ¬ x < y → r0_G p l e R s m args below meth c nL Q (pc + 3) L st) : r0_G p l e R s m args below meth c nL Q (pc) L (.int y :: .int x :: st) := fun ls h3 => lv_icmp_lt Γ.1 Γ.2.1 d ht (fun z => kt z ls h3) (fun z => kf z ls h3)
theorem r0_if_ge (Γ : CallFix p m c cc nL s args Ts own) {x : Int32} {off : Int} {tgt : Nat} (d : decode cc pc = .ok (.ifCond .ge off, 3)) (ht : (pc : Int) + off = (tgt : Int)) (kt : 0 ≤ x → r0_G p l e R s m args below meth c nL Q (tgt) L st) (kf : ¬ 0 ≤ x → r0_G p l e R s m args below meth c nL Q (pc + 3) L st) : r0_G p l e R s m args below meth c nL Q (pc) L (.int x :: st) := fun ls h3 => lv_if_ge Γ.1 Γ.2.1 d ht (fun z => kt z ls h3) (fun z => kf z ls h3)
theorem r0_icmp_ge (Γ : CallFix p m c cc nL s args Ts own) {x y : Int32} {off : Int} {tgt : Nat} (d : decode cc pc = .ok (.if_icmp .ge off, 3)) (ht : (pc : Int) + off = (tgt : Int)) (kt : y ≤ x → r0_G p l e R s m args below meth c nL Q (tgt) L st) (kf : ¬ y ≤ x → r0_G p l e R s m args below meth c nL Q (pc + 3) L st) : r0_G p l e R s m args below meth c nL Q (pc) L (.int y :: .int x :: st) := fun ls h3 => lv_icmp_ge Γ.1 Γ.2.1 d ht (fun z => kt z ls h3) (fun z => kf z ls h3)
theorem r0_if_gt (Γ : CallFix p m c cc nL s args Ts own) {x : Int32} {off : Int} {tgt : Nat} (d : decode cc pc = .ok (.ifCond .gt off, 3)) (ht : (pc : Int) + off = (tgt : Int)) (kt : 0 < x → r0_G p l e R s m args below meth c nL Q (tgt) L st) (kf : ¬ 0 < x → r0_G p l e R s m args below meth c nL Q (pc + 3) L st) : r0_G p l e R s m args below meth c nL Q (pc) L (.int x :: st) := fun ls h3 => lv_if_gt Γ.1 Γ.2.1 d ht (fun z => kt z ls h3) (fun z => kf z ls h3)
theorem r0_icmp_gt (Γ : CallFix p m c cc nL s args Ts own) {x y : Int32} {off : Int} {tgt : Nat} (d : decode cc pc = .ok (.if_icmp .gt off, 3)) (ht : (pc : Int) + off = (tgt : Int)) (kt : y < x → r0_G p l e R s m args below meth c nL Q (tgt) L st) (kf : ¬ y < x → r0_G p l e R s m args below meth c nL Q (pc + 3) L st) : r0_G p l e R s m args below meth c nL Q (pc) L (.int y :: .int x :: st) := fun ls h3 => lv_icmp_gt Γ.1 Γ.2.1 d ht (fun z => kt z ls h3) (fun z => kf z ls h3)
theorem r0_if_le (Γ : CallFix p m c cc nL s args Ts own) {x : Int32} {off : Int} {tgt : Nat} (d : decode cc pc = .ok (.ifCond .le off, 3)) (ht : (pc : Int) + off = (tgt : Int)) (kt : x ≤ 0 → r0_G p l e R s m args below meth c nL Q (tgt) L st) (kf : ¬ x ≤ 0 → r0_G p l e R s m args below meth c nL Q (pc + 3) L st) : r0_G p l e R s m args below meth c nL Q (pc) L (.int x :: st) := fun ls h3 => lv_if_le Γ.1 Γ.2.1 d ht (fun z => kt z ls h3) (fun z => kf z ls h3)
theorem r0_icmp_le (Γ : CallFix p m c cc nL s args Ts own) {x y : Int32} {off : Int} {tgt : Nat} (d : decode cc pc = .ok (.if_icmp .le off, 3)) (ht : (pc : Int) + off = (tgt : Int)) (kt : x ≤ y → r0_G p l e R s m args below meth c nL Q (tgt) L st) (kf : ¬ x ≤ y → r0_G p l e R s m args below meth c nL Q (pc + 3) L st) : r0_G p l e R s m args below meth c nL Q (pc) L (.int y :: .int x :: st) := fun ls h3 => lv_icmp_le Γ.1 Γ.2.1 d ht (fun z => kt z ls h3) (fun z => kf z ls h3)
theorem r0_goto (Γ : CallFix p m c cc nL s args Ts own) {off : Int} {tgt : Nat} (d : decode cc pc = .ok (.goto off, 3)) (ht : (pc : Int) + off = (tgt : Int)) (k : r0_G p l e R s m args below meth c nL Q (tgt) L st) : r0_G p l e R s m args below meth c nL Q (pc) L st := fun ls h3 => lv_goto Γ.1 Γ.2.1 d ht (k ls h3)

theorem r0_start {av : List Value} (hn : (lg_sl av).length ≤ nL) (k : r0_G p l e R s m args below meth c nL Q 0 (lv_args 0 av) []) : W p l e R s m args below meth c s.heap [] 0 0 Q (entryFrame m av.toArray nL) := by
  rw [lg_entry_eq]
  exact k _ (lv_entry av hn)
theorem r0_get (hP : va_P E.2.1 rl_Cl (rl_wo E σ) s.heap) (Γ : CallFix p m c cc nL s args rl_TT own) {index : Nat} (d : decode cc pc = .ok (.getfield index, 3)) (hO : rl_Ok E s) {a ci k : Nat} {fs : (Nat → Int32) → List Value} (ho : a < rl_N ∧ ∀ f, rl_cr E a f = .inr (ci, fs f)) {C : String} {T : u_T} {Nf : Nat} (hc : rl_Cl[ci]? = some (C, T, Nf)) (hk : k < Nf) {v : Value} (hv : (fs (σ a))[k]? = some v) (hl : (∀ w ∈ u_ws C T Nf, w ∈ rl_TT) ∧ Cond.fieldLink own index (T k).1 (T k).2.1 (T k).2.2.1 ∈ rl_TT) (kk : r0_G p l e R s m args below meth c nL Q (pc + 3) L (v :: st)) : r0_G p l e R s m args below meth c nL Q (pc) L (.ref (E.1 a) :: st) := fun ls h3 =>
  va_get (D := E.2.1) (cl := rl_Cl) (ws := rl_wo E σ) Γ.1 Γ.2.1 Γ.2.2.2.2 hl.1 Γ.2.2.2.1 hO.1 hP a ((rl_wo_at ho.1).trans (by rw [ho.2])) hc k hk (Γ.2.2.2.2 _ hl.2) (fun _ h => h) hv d (kk ls h3)
theorem r0_ild (hP : va_P E.2.1 rl_Cl (rl_wo E σ) s.heap) (Γ : CallFix p m c cc nL s args rl_TT own) (d : decode cc pc = .ok (.iaload, 1)) (hO : rl_Ok E s) {a n : Nat} {i : Int32} (ho : a < rl_N ∧ ∀ f : Nat → Int32, rl_cr E a f = .inl (E.2.2.1, n, .inl f)) (hi : vp_in i n) (kk : r0_G p l e R s m args below meth c nL Q (pc + 1) L (.int (σ a i.toNatClampNeg) :: st)) : r0_G p l e R s m args below meth c nL Q (pc) L (.int i :: .ref (E.1 a) :: st) := fun ls h3 =>
  va_iald (D := E.2.1) (cl := rl_Cl) (ws := rl_wo E σ) Γ.1 Γ.2.1 hO.1 hP a 0 ((rl_wo_at ho.1).trans (by rw [ho.2])) rfl hi d (kk ls h3)
theorem r0_iret (Γ : CallFix p m c cc nL s args rl_TT own) (d : decode cc pc = .ok (.ireturn, 1)) (hr : meth.sig.returnType = some .int) (hk : meth.locks = false) {v : Int32} : r0_G p l e R s m args below meth c nL (MQ below (rl_QP (some (.int v))) args s 0 0 (fun _ => False)) pc L [.int v] :=
  fun ls h3 => W.iret (v := v) Γ.1 Γ.2.1 hr (fun t ht hW => ⟨rfl, ht⟩) (fun q h => by cases h) d
theorem r0_vret (Γ : CallFix p m c cc nL s args rl_TT own) (d : decode cc pc = .ok (.return_, 1)) (hr : meth.sig.returnType = none) (hk : meth.locks = false) : r0_G p l e R s m args below meth c nL (MQ below (rl_QP none) args s 0 0 (fun _ => False)) pc L [] :=
  fun ls h3 => W.vret Γ.1 Γ.2.1 hr (fun t ht hW => ⟨rfl, ht⟩) (fun q h => by cases h) d
theorem r0_goon {v : Option Value} {ls : Array Slot} {st0 : List Value} {a : Array Value} (hr : va_Run p l e R s m args below meth c s.heap [] 0 0 0 0 (F0 m pc ls st0) st (rl_QP v a) (fun _ => False)) (h3 : lv_has ls nL L) (kk : r0_G p l e R s m args below meth c nL Q (pc + 3) L (v.toList ++ st)) : W p l e R s m args below meth c s.heap [] 0 0 Q (F0 m pc ls st0) := by
  intro T hT X
  obtain ⟨v', st₀, t, T', L', h0, X', hL, e1, e2, ⟨hv, hh⟩, stp⟩ := hr T hT X
  cases hv
  have hL0 : L' = [] := List.eq_nil_iff_forall_not_mem.mpr hL
  subst hL0
  obtain ⟨t2, a1, b1⟩ := kk ls h3 T' (by rw [e1, hh, h0]) X'
  exact ⟨t2, stp t2 a1, b1⟩
theorem r0_callV {y : MethodName} {bytes : ByteArray} {maxL index : Nat} {ret : Option FieldType} {rm : Room} {v : Option Value} {a ci : Nat} {fs : (Nat → Int32) → List Value} {C : String} {T : u_T} {Nf : Nat} {As st0 : List Value} (hP : va_P E.2.1 rl_Cl (rl_wo E σ) s.heap) (Γ : CallFix p m c cc nL s args rl_TT own) (d : decode cc pc = .ok (.invokevirtual index, 3)) (hO : rl_Ok E s) (hM : Met l y (Cond.code y bytes maxL ret :: rl_TT) rm (rl_P E (.ref (E.1 a) :: As) σ) (rl_QP v) 0 0 (fun _ => False)) (n : Nat) (g1 : Cond.methodLink own index y ∈ rl_TT) (g2 : Cond.instanceMethod y ∈ rl_TT) (g3 : Cond.selects C y y ∈ rl_TT) (g4 : Cond.initialized C ∈ rl_TT) (g5 : Cond.code y bytes maxL ret ∈ rl_TT) (ho : a < rl_N ∧ ∀ f, rl_cr E a f = .inr (ci, fs f)) (hc : rl_Cl[ci]? = some (C, T, Nf)) (hrm : rm.cells = 0 ∧ rm.slots = 0) (hd : y.cls = C ∧ y.cls ≠ "java/lang/invoke/MethodHandle" ∧ y.cls ≠ "java/lang/invoke/VarHandle" ∧ (parseMethodDescriptor y.desc).map (fun d => d.parameters.length) = some n) (hf : rm.frames + 1 ≤ R.frames) (hlo : 8 + (maxL + 11) + rm.locals ≤ R.locals) (hw : (st.map fun v => v.category).sum ≤ 8) (hn : As.length = n) (hst : st0 = As.reverse ++ .ref (E.1 a) :: st) (kk : r0_G p l e R s m args below meth c nL Q (pc + 3) L (v.toList ++ st)) : r0_G p l e R s m args below meth c nL Q (pc) L (st0) := by
  intro ls h3
  have hG : GoodIn rl_TT (wsV own index C y (Cond.code y bytes maxL ret :: rl_TT)) := by
    intro w hw
    rcases List.mem_append.mp hw with h | h
    · simp only [List.mem_cons, List.not_mem_nil, or_false] at h
      rcases h with rfl | rfl | rfl | rfl
      · exact rl_gd g1
      · exact rl_gd g2
      · exact rl_gd g3
      · exact rl_gd g4
    · exact rl_GI g5 w h
  exact r0_goon (va_runV (As := As) (rest := st) Γ hM (cwV n Γ.2.2.2.2 hG rfl hrm.1 hrm.2 hd ⟨hf, hlo⟩) ⟨rl_P_blind E _ σ, va_recv hO.1 hP hc (q0 := a) ((rl_wo_at ho.1).trans (by rw [ho.2])), fun U hU hW => ⟨rfl, by rw [hU]; exact hP, hO.moved hW (fun q q1 q2 => by rw [hU])⟩⟩ rfl hn h3.1 hst (lv_room hw) d ⟨Nat.zero_le _, Nat.zero_le _⟩) h3 kk
theorem r0_callS {y : MethodName} {bytes : ByteArray} {maxL index : Nat} {ret : Option FieldType} {rm : Room} {v : Option Value} {C : String} {As st0 : List Value} (hP : va_P E.2.1 rl_Cl (rl_wo E σ) s.heap) (Γ : CallFix p m c cc nL s args rl_TT own) (d : decode cc pc = .ok (.invokestatic index, 3)) (hO : rl_Ok E s) (hM : Met l y (Cond.code y bytes maxL ret :: rl_TT) rm (rl_P E As σ) (rl_QP v) 0 0 (fun _ => False)) (n : Nat) (g1 : Cond.methodLink own index y ∈ rl_TT) (g2 : Cond.static y ∈ rl_TT) (g4 : Cond.initialized C ∈ rl_TT) (g5 : Cond.code y bytes maxL ret ∈ rl_TT) (hrm : rm.cells = 0 ∧ rm.slots = 0) (hd : y.cls = C ∧ y.cls ≠ "java/lang/invoke/MethodHandle" ∧ y.cls ≠ "java/lang/invoke/VarHandle" ∧ (parseMethodDescriptor y.desc).map (fun d => d.parameters.length) = some n) (hf : rm.frames + 1 ≤ R.frames) (hlo : 8 + (maxL + 11) + rm.locals ≤ R.locals) (hw : (st.map fun v => v.category).sum ≤ 8) (hn : As.length = n) (hst : st0 = As.reverse ++ st) (kk : r0_G p l e R s m args below meth c nL Q (pc + 3) L (v.toList ++ st)) : r0_G p l e R s m args below meth c nL Q (pc) L (st0) := by
  intro ls h3
  obtain ⟨hC, hd⟩ := hd
  subst hC
  exact r0_goon (va_runS (As := As) (rest := st) Γ hM ⟨callB_of n Γ.2.2.2.2 (rl_GI g5) rfl hrm.1 hrm.2 (Γ.2.2.2.2 _ g4) (Γ.2.2.2.2 _ g1) hd ⟨hf, hlo⟩, Γ.2.2.2.2 _ g2⟩ ⟨rl_P_blind E _ σ, fun U hU hW => ⟨rfl, by rw [hU]; exact hP, hO.moved hW (fun q q1 q2 => by rw [hU])⟩⟩ rfl hn h3.1 hst (lv_room hw) d ⟨Nat.zero_le _, Nat.zero_le _⟩) h3 kk
/-- the note over the frame, no handler: the method has thrown -/
theorem rl_leave {X : String} {x : Nat} {T t : State} {locs : List Loc} (hk : meth.locks = false) (hno : c.exceptionTable.isEmpty = true) (X₀ : Stand p l e R s m args below meth c T locs 1 6) (hl : ∀ q ∈ locs, rl_A E q.base) (hc : ∃ cell : Cell, T.heap[x]? = some cell ∧ cell.vm = .none ∧ s.vm.findClass X = some cell.cls) (hP : va_P E.2.1 rl_Cl (rl_wo E τ) T.heap) (hF : s.heap.size ≤ T.heap.size ∧ ∀ q : Nat, q < s.heap.size → ¬ rl_A E q → T.heap[q]? = s.heap[q]?) {ls : Array Slot} {st0 : List Value} : ∃ t, Steps p.tables e below ((T.setTop (F0 m pc ls st0)).pushFrame (.throwing x)) t ∧ rl_MQT below (rl_T E X τ) args s 1 6 (rl_A E) t := by
  have h0 : c.exceptionTable.toList = [] := by
    have : c.exceptionTable.size = 0 := by simpa [Array.isEmpty] using hno
    exact List.eq_nil_of_length_eq_zero (by simpa using this)
  obtain ⟨h1, h2, h3, h4, h5⟩ := X₀.leaveThrown x (g := F0 m pc ls st0) rfl rfl rfl (fun y hy => by rw [h0] at hy; cases hy) hk
  exact ⟨_, h1, .threw x, h2, h3, ⟨x, rfl, hc, hP, hF⟩, locs, ⟨⟨x, rfl⟩, h4, h5⟩, hl⟩
theorem rl_T_on {X : String} {st₀ t : State} {x : Nat} (hW : s.vm.Alike st₀.vm) (hh : st₀.heap = s.heap) (h : rl_T E X τ #[] st₀ (.threw x) t) : (∃ cell : Cell, t.heap[x]? = some cell ∧ cell.vm = .none ∧ s.vm.findClass X = some cell.cls) ∧ va_P E.2.1 rl_Cl (rl_wo E τ) t.heap ∧ (s.heap.size ≤ t.heap.size ∧ ∀ q : Nat, q < s.heap.size → ¬ rl_A E q → t.heap[q]? = s.heap[q]?) := by
  obtain ⟨x', hx, ⟨cell, c1, c2, c3⟩, hP, hF1, hF2⟩ := h
  cases hx
  rw [hh] at hF1 hF2
  exact ⟨⟨cell, c1, c2, by rw [← hW.findClass]; exact c3⟩, hP, hF1, hF2⟩
theorem r0_callVT {y : MethodName} {bytes : ByteArray} {maxL index : Nat} {ret : Option FieldType} {rm : Room} {X : String} {a ci : Nat} {fs : (Nat → Int32) → List Value} {C : String} {T : u_T} {Nf : Nat} {As st0 : List Value} (hP : va_P E.2.1 rl_Cl (rl_wo E σ) s.heap) (Γ : CallFix p m c cc nL s args rl_TT own) (d : decode cc pc = .ok (.invokevirtual index, 3)) (hO : rl_Ok E s) (hk : meth.locks = false) (hno : c.exceptionTable.isEmpty = true) (hM : rl_MT l y (Cond.code y bytes maxL ret :: rl_TT) rm E (.ref (E.1 a) :: As) σ X τ) (n : Nat) (g1 : Cond.methodLink own index y ∈ rl_TT) (g2 : Cond.instanceMethod y ∈ rl_TT) (g3 : Cond.selects C y y ∈ rl_TT) (g4 : Cond.initialized C ∈ rl_TT) (g5 : Cond.code y bytes maxL ret ∈ rl_TT) (ho : a < rl_N ∧ ∀ f, rl_cr E a f = .inr (ci, fs f)) (hc : rl_Cl[ci]? = some (C, T, Nf)) (hrm : rm.cells = 1 ∧ rm.slots = 6) (hd : y.cls = C ∧ y.cls ≠ "java/lang/invoke/MethodHandle" ∧ y.cls ≠ "java/lang/invoke/VarHandle" ∧ (parseMethodDescriptor y.desc).map (fun d => d.parameters.length) = some n) (hf : rm.frames + 1 ≤ R.frames) (hlo : 8 + (maxL + 11) + rm.locals ≤ R.locals) (hcl : 1 ≤ R.cells ∧ 6 ≤ R.slots) (hw : (st.map fun v => v.category).sum ≤ 8) (hn : As.length = n) (hst : st0 = As.reverse ++ .ref (E.1 a) :: st) : r0_G p l e R s m args below meth c nL (rl_MQT below (rl_T E X τ) args s 1 6 (rl_A E)) pc L st0 := by
  intro ls h3 T' hT X₀
  subst hst
  obtain ⟨hC, hd⟩ := hd
  subst hC
  have ht := Γ.2.2.2.2
  obtain ⟨cellB, hcB, hoB, hclB⟩ := va_recv hO.1 hP hc (q0 := a) ((rl_wo_at ho.1).trans (by rw [ho.2]))
  obtain ⟨mk, methM, hnamed, hmethM, hstM, habM⟩ := Cond.instanceMethod_spec (ht _ g2)
  obtain ⟨methM', cM, hmethM', -, -, -, -, -, -, hsigM⟩ := Cond.code_spec hnamed (ht _ g5)
  cases hmethM.symm.trans hmethM'
  obtain ⟨c2, r2, m2, q1, q2, q3, q4, kP, hkP, hkPi⟩ := Cond.selects_spec (ht _ g3)
  cases hclB.symm.trans q1
  cases (State.methodFound?_of_named hnamed ⟨hd.1, hd.2.1⟩).symm.trans q2
  cases hnamed.symm.trans q3
  have hselP : selectMethod e.platform s.vm cellB.cls mk = .method mk := by rw [Launch.admits_selectMethod X₀.admits]; exact q4
  have hlen : As.length = methM.sig.parameters.length := by
    have h9 := hd.2.2
    rw [hsigM] at h9
    rw [hn]
    exact (Option.some.inj h9).symm
  obtain ⟨vm₁, X₁, hstep₁⟩ := X₀.invokevirtual Γ.1 Γ.2.2.2.1 (ht _ g1) hnamed hmethM hstM hkP hkPi ⟨hd.1, hd.2.1⟩ (a := E.1 a) (cell := cellB) (by rw [hT]; exact hcB)
    (fun z h => by rw [h] at hoB; cases hoB) hselP hmethM habM hkP hkPi (g := F0 m pc ls (As.reverse ++ .ref (E.1 a) :: st)) rfl (argsL := As) (rest := st) hlen rfl (by rw [Γ.2.1]; exact d)
  obtain ⟨x, t, T2, L', X2, hL, e1, hq, hsteps⟩ := rl_backT (bytes := bytes) (maxL := maxL) (ret := ret) hM hrm hf hlo (pay_in ht (rl_GI g5)) List.mem_cons_self (fun a' U hW => word_at hW (Or.inl (by first | rfl | simp [Cond.onTables, Cond.keeps, Cond.steady])) (ht _ g4)) X₁ (g := F0 m pc ls st) rfl (h3.1.trans Γ.2.2.1.symm) (by rw [Γ.2.1]; exact d) (lv_room hw) (X₁.named hnamed) ⟨hcl.1, hcl.2⟩ ⟨rfl, by show va_P _ _ _ T'.heap; rw [hT]; exact hP, hO.moved X₁.warmed (fun q _ _ => by show T'.heap[q]? = _; rw [hT])⟩
  obtain ⟨b1, b2, b3⟩ := rl_T_on (s := s) (st₀ := T'.setVm vm₁) X₁.warmed.alike hT hq
  obtain ⟨tf, s1, s2⟩ := rl_leave (X := X) (x := x) (τ := τ) (t := t) (pc := pc) (ls := ls) (st0 := st) hk hno X2 (fun q hq => hL q (by simpa using hq)) (by rw [e1]; exact b1) (by rw [e1]; exact b2) (by rw [e1]; exact b3)
  exact ⟨tf, hstep₁ _ (fun acts => by rw [doInvoke_state]; exact hsteps.trans s1), s2⟩
theorem r0_callST {y : MethodName} {bytes : ByteArray} {maxL index : Nat} {ret : Option FieldType} {rm : Room} {X : String} {C : String} {As st0 : List Value} (hP : va_P E.2.1 rl_Cl (rl_wo E σ) s.heap) (Γ : CallFix p m c cc nL s args rl_TT own) (d : decode cc pc = .ok (.invokestatic index, 3)) (hO : rl_Ok E s) (hk : meth.locks = false) (hno : c.exceptionTable.isEmpty = true) (hM : rl_MT l y (Cond.code y bytes maxL ret :: rl_TT) rm E As σ X τ) (n : Nat) (g1 : Cond.methodLink own index y ∈ rl_TT) (g2 : Cond.static y ∈ rl_TT) (g4 : Cond.initialized C ∈ rl_TT) (g5 : Cond.code y bytes maxL ret ∈ rl_TT) (hrm : rm.cells = 1 ∧ rm.slots = 6) (hd : y.cls = C ∧ y.cls ≠ "java/lang/invoke/MethodHandle" ∧ y.cls ≠ "java/lang/invoke/VarHandle" ∧ (parseMethodDescriptor y.desc).map (fun d => d.parameters.length) = some n) (hf : rm.frames + 1 ≤ R.frames) (hlo : 8 + (maxL + 11) + rm.locals ≤ R.locals) (hcl : 1 ≤ R.cells ∧ 6 ≤ R.slots) (hw : (st.map fun v => v.category).sum ≤ 8) (hn : As.length = n) (hst : st0 = As.reverse ++ st) : r0_G p l e R s m args below meth c nL (rl_MQT below (rl_T E X τ) args s 1 6 (rl_A E)) pc L st0 := by
  intro ls h3 T' hT X₀
  subst hst
  obtain ⟨hC, hd⟩ := hd
  subst hC
  have ht := Γ.2.2.2.2
  have hini := ht _ g4
  obtain ⟨mk, hnamed⟩ := Cond.code_named (ht _ g5)
  obtain ⟨methM, cM, hmethM, -, -, -, -, -, -, hsigM⟩ := Cond.code_spec hnamed (ht _ g5)
  have hstatic : methM.isStatic = true := Cond.static_spec hnamed hmethM (ht _ g2)
  obtain ⟨kP, hkP, -⟩ := className_of_methodNamed hnamed
  have hinitP : kP.init = .initialized := Cond.initialized_spec (findClass_of_methodNamed hnamed) hkP (ht _ g4)
  have hlen : As.length = methM.sig.parameters.length := by
    have h9 := hd.2.2
    rw [hsigM] at h9
    rw [hn]
    exact (Option.some.inj h9).symm
  obtain ⟨vm₁, X₁, hstep₁⟩ := X₀.invokestatic Γ.1 Γ.2.2.2.1 (ht _ g1) hnamed hmethM hstatic hkP hinitP ⟨hd.1, hd.2.1⟩ (g := F0 m pc ls (As.reverse ++ st)) rfl (argsL := As) (rest := st) hlen rfl (by rw [Γ.2.1]; exact d)
  obtain ⟨x, t, T2, L', X2, hL, e1, hq, hsteps⟩ := rl_backT (bytes := bytes) (maxL := maxL) (ret := ret) hM hrm hf hlo (pay_in ht (rl_GI g5)) List.mem_cons_self (fun a' U hW => word_at hW (Or.inl (by first | rfl | simp [Cond.onTables, Cond.keeps, Cond.steady])) (ht _ g4)) X₁ (g := F0 m pc ls st) rfl (h3.1.trans Γ.2.2.1.symm) (by rw [Γ.2.1]; exact d) (lv_room hw) (X₁.named hnamed) ⟨hcl.1, hcl.2⟩ ⟨rfl, by show va_P _ _ _ T'.heap; rw [hT]; exact hP, hO.moved X₁.warmed (fun q _ _ => by show T'.heap[q]? = _; rw [hT])⟩
  obtain ⟨b1, b2, b3⟩ := rl_T_on (s := s) (st₀ := T'.setVm vm₁) X₁.warmed.alike hT hq
  obtain ⟨tf, s1, s2⟩ := rl_leave (X := X) (x := x) (τ := τ) (t := t) (pc := pc) (ls := ls) (st0 := st) hk hno X2 (fun q hq => hL q (by simpa using hq)) (by rw [e1]; exact b1) (by rw [e1]; exact b2) (by rw [e1]; exact b3)
  exact ⟨tf, hstep₁ _ (fun acts => by rw [doInvoke_state]; exact hsteps.trans s1), s2⟩
/-- 'throw new X("a text")', nothing written before -/
theorem r0_throw {X tx : String} {idxC idxS ic : Nat} (hP : va_P E.2.1 rl_Cl (rl_wo E σ) s.heap) (Γ : CallFix p m c cc nL s args rl_TT own) (hlq : rl_Lq l) (hO : rl_Ok E s) (hk : meth.locks = false) (hno : c.exceptionTable.isEmpty = true)
    (d0 : decode cc pc = .ok (.new idxC, 3)) (d3 : decode cc (pc + 3) = .ok (.dup, 1)) (d4 : decode cc (pc + 3 + 1) = .ok (.ldc idxS, 2)) (d6 : decode cc (pc + 3 + 1 + 2) = .ok (.invokespecial ic, 3)) (d9 : decode cc (pc + 3 + 1 + 2 + 3) = .ok (.athrow, 1))
    (g1 : Cond.classLink own idxC X ∈ rl_TT) (g2 : Cond.instantiable X 6 ∈ rl_TT) (g3 : Cond.initialized X ∈ rl_TT) (hs : ∃ a, vk_R own idxS tx a s) (hfit : Bundle.fit X = true)
    (hat : ∀ a ∈ Bundle.ownAtoms own ic X ["java/lang/RuntimeException", "java/lang/Exception"], a.before args s = true) (hR : 6 ≤ R.frames ∧ 90 ≤ R.locals ∧ 1 ≤ R.cells ∧ 6 ≤ R.slots) :
    r0_G p l e R s m args below meth c nL (rl_MQT below (rl_T E X σ) args s 1 6 (rl_A E)) pc L [] := by
  intro ls h3
  obtain ⟨q, hq⟩ := hs
  have ht := Γ.2.2.2.2
  refine W.newc (own := own) (C := X) (index := idxC) (n := 6) Γ.1 Γ.2.1 Γ.2.2.2.1 (ht _ g1) (ht _ g2) (ht _ g3) rfl d0 (by have := hR.2.2.1; omega) (by have := hR.2.2.2; omega) (fun cC kC hfC hkC hordC hnC => ?_)
  refine lv_dup (pc := pc + 3) (ls := ls) (rest := []) Γ.1 Γ.2.1 d3 rfl ?_
  refine va_ldcS Γ.1 Γ.2.1 Γ.2.2.2.1 hq d4 ?_
  intro T hT X₀
  have hsz : T.heap.size = s.heap.size + 1 := by rw [hT, Array.size_push]
  have hcell : T.heap[s.heap.size]? = some (freshCell cC kC) := by rw [hT]; simp [freshCell]
  obtain ⟨U, u1, u2, u3, u4, u5, ce, u6, u7⟩ := X₀.ctorThrowS Γ.1 (hlq e X₀.admits) (own := own) (cls := X) (names := ["java/lang/RuntimeException", "java/lang/Exception"]) (ic := ic) Γ.2.2.2.1 hfit (by decide +kernel) hat (fun x hx => by cases hx) (a := s.heap.size) hfC hkC hcell (Nat.le_refl _) (msg := .ref q) rfl
    (g := F0 m (pc + 3 + 1 + 2) ls [.ref q, .ref s.heap.size, .ref s.heap.size]) rfl (h3.1.trans Γ.2.2.1.symm) rfl rfl (rest := []) rfl (by rw [Γ.2.1]; exact d6) (by rw [Γ.2.1]; exact d9)
    (fun y hy => by
      have h0 : c.exceptionTable.size = 0 := by simpa [Array.isEmpty] using hno
      have h1 : c.exceptionTable.toList = [] := List.eq_nil_of_length_eq_zero (by simpa using h0)
      rw [h1] at hy; cases hy) (by show 2 + 3 < R.frames; omega) (by show 2 * 0 + _ + (13 * (2 + 1) + 42) ≤ R.locals; have := hR.2.1; simp [Value.category]; omega) hk
  obtain ⟨v1, v2, v3, v4, v5, v6⟩ := u5
  have hheap : ∀ q : Nat, q < s.heap.size → U.heap[q]? = s.heap[q]? := by
    intro q hq
    have h1 : s.heap[q]? = some s.heap[q] := Array.getElem?_eq_getElem hq
    obtain ⟨c', w1, w2, w3, w4⟩ := v6 q _ h1
    have w1' : U.heap[q]? = some c' := w1
    rw [w1', h1]
    congr 1
    rw [w2]
    have : c'.slots = s.heap[q].slots := by
      apply Array.ext_getElem?
      intro i
      exact w4 i (by simp)
    rw [this]
  refine ⟨U, u1, .threw s.heap.size, u2, u3, ⟨s.heap.size, rfl, ⟨ce, u6, u7.vm, u7.cls⟩, ?_, ⟨v2, fun q hq _ => hheap q hq⟩⟩, [], ⟨⟨_, rfl⟩, u4, ⟨v1, v2, v3, v4, v5, v6⟩⟩, fun q h => by cases h⟩
  exact hP.kept (fun k q hk => hheap q.1 (hP k q hk).lt)
end R0G
def rl_rest (X : String) : List Cond := [.declares (Bundle.initS "java/lang/RuntimeException"), .declares (Bundle.initS "java/lang/Exception"), .declares (Bundle.initS "java/lang/Throwable"), .castable X X, .laysStatic "java/lang/Throwable" "UNASSIGNED_STACK" "[Ljava/lang/StackTraceElement;", .laysStatic "java/lang/Throwable" "SUPPRESSED_SENTINEL" "Ljava/util/List;", .isRef (.static "java/lang/Throwable" "UNASSIGNED_STACK" "[Ljava/lang/StackTraceElement;"), .isRef (.static "java/lang/Throwable" "SUPPRESSED_SENTINEL" "Ljava/util/List;")]
/-- the words of a throw, out of what is carried -/
theorem rl_own {E : rl_E} {s : State} {args : Array Value} {own X : String} {ic : Nat} (hO : rl_Ok E s) (ht : ∀ w ∈ rl_TT, w.before args s = true) (hX : X = "java/lang/IllegalArgumentException" ∨ X = "java/lang/IllegalStateException")
    (hG : ((Bundle.ownAtoms own ic X ["java/lang/RuntimeException", "java/lang/Exception"]).all fun w => decide (w ∈ rl_TT) || decide (w ∈ rl_rest X)) = true) :
    ∀ a ∈ Bundle.ownAtoms own ic X ["java/lang/RuntimeException", "java/lang/Exception"], a.before args s = true := by
  intro w hw
  have h := List.all_eq_true.mp hG w hw
  simp only [Bool.or_eq_true, decide_eq_true_eq, rl_rest, List.mem_cons, List.not_mem_nil, or_false] at h
  obtain ⟨-, -, -, -, ⟨d1, d2, d3⟩, ⟨c1, c2, c3⟩, z1, z2⟩ := hO
  rcases h with h | rfl | rfl | rfl | rfl | rfl | rfl | rfl | rfl
  · exact ht w h
  · exact d1.use rfl
  · exact d2.use rfl
  · exact d3.use rfl
  · rcases hX with rfl | rfl
    · exact c1.use rfl
    · exact c2.use rfl
  · exact z1.lays
  · exact z2.lays
  · exact z1.isRef
  · exact z2.isRef
theorem rl_own_A {E : rl_E} {s : State} {args : Array Value} (hO : rl_Ok E s) (ht : ∀ w ∈ rl_TT, w.before args s = true) : ∀ a ∈ Bundle.ownAtoms nR_Ro 175 "java/lang/IllegalArgumentException" ["java/lang/RuntimeException", "java/lang/Exception"], a.before args s = true := rl_own hO ht (Or.inl rfl) (by decide +kernel)
theorem rl_own_S {E : rl_E} {s : State} {args : Array Value} (hO : rl_Ok E s) (ht : ∀ w ∈ rl_TT, w.before args s = true) : ∀ a ∈ Bundle.ownAtoms nR_Ro 44 "java/lang/IllegalStateException" ["java/lang/RuntimeException", "java/lang/Exception"], a.before args s = true := rl_own hO ht (Or.inr rfl) (by decide +kernel)
theorem nx_cA : Cond.classLink nR_Ro 171 "java/lang/IllegalArgumentException" ∈ rl_TT := by decide +kernel
theorem nx_cS : Cond.classLink nR_Ro 40 "java/lang/IllegalStateException" ∈ rl_TT := by decide +kernel
theorem nx_iA : Cond.instantiable "java/lang/IllegalArgumentException" 6 ∈ rl_TT := by decide +kernel
theorem nx_iS : Cond.instantiable "java/lang/IllegalStateException" 6 ∈ rl_TT := by decide +kernel
theorem nx_nA : Cond.initialized "java/lang/IllegalArgumentException" ∈ rl_TT := by decide +kernel
theorem nx_nS : Cond.initialized "java/lang/IllegalStateException" ∈ rl_TT := by decide +kernel
