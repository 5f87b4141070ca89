section RLC
variable {p : Program} {l : Launch} {e : Env} {R : Room} {s : State} {m : MethodId} {args : Array Value} {below : List Frame} {meth : Method} {c : Code} {cells slots : Nat} {Q : State → Prop}
variable {cc : ByteArray} {nL : Nat} {own : String} {E : rl_E} {σ τ : rl_M} {pc : Nat} {L : List (Nat × Value)} {st : List Value}
/-- one row of a handler table that holds the pc, its class resolved here or before -/
theorem rl_goC {Z : CtlPost} {d : Bool} {acts : List Action} {U : State} {f : JFrame} {a : Addr} {Qh : Handler → Pre} {x : ExceptionTableEntry} {t : List ExceptionTableEntry} {k : ClassId} {cell : Cell} {vm' : Vm} (hx : covers x f.pc = true) (h0 : x.catchType ≠ 0)
    (hg : (Jvm.resolveClass f.method.cls x.catchType).Gives e.toSetting U.vm (.ok k) vm') (hsz : vm'.classes.size ≤ U.vm.classes.size) (hcell : U.heap[a]? = some cell) (hobj : ∀ z, cell.vm ≠ .statics z)
    (hk : ∃ z, vm'.classes[cell.cls]? = some z) (hc : ∃ z, vm'.classes[k]? = some z) :
    wp (findHandler.go f a (x :: t)) Qh Z e d acts U ↔ if vm'.assignable cell.cls k = true then Qh (.found x.handlerPc) d acts (U.setVm vm') else wp (findHandler.go f a t) Qh Z e d acts (U.setVm vm') := by
  simp only [covers] at hx
  obtain ⟨ha, ht⟩ := hg.op (op := VmOp.resolveClass f.method.cls x.catchType) rfl
  cases hfit : vm'.assignable cell.cls k <;>
    simp [findHandler.go, hx, h0, ha, ht, hsz, hcell, hobj, hk, hc, hfit, VmOp.dirties, VmOp.acts]
/-- the search ends at a handler, the tables warmer -/
def rl_Find (e : Env) (U : State) (f : JFrame) (a : Addr) (hpc : Nat) (vm' : Vm) : Prop := ∀ (Qh : Handler → Pre) (Z : CtlPost) (d : Bool) (acts : List Action), wp (findHandler f a) Qh Z e d acts U ↔ Qh (.found hpc) d acts (U.setVm vm')
theorem rl_stepC {U : State} {a : Addr} {f : JFrame} {r : List Frame} {hpc : Nat} {vm' : Vm} (hfind : rl_Find e U f a hpc vm') :
    (stepThrowing e U a (.java f :: r)).Is ((U.setVm vm').setFrames (.java { f with pc := hpc, stack := [.ref a] } :: r)) [] := by
  simp only [stepThrowing, searchFrame, vmDo]
  generalize hr : Sem.go _ e false [] U = res
  obtain ⟨as, rfl, ha⟩ := Sem.eq_ok_of hr (a := Handler.found hpc) (s' := U.setVm vm') (acts' := []) (by simp [hfind _ _ _ _])
  exact ⟨rfl, ha⟩
theorem rl_stepsC {T : State} {locs : List Loc} (X₀ : Stand p l e R s m args below meth c T locs cells slots) {a : Addr} {g : JFrame} (hg : g.method = m) {hpc : Nat} {vm' : Vm} (hfind : rl_Find e ((T.setTop g).pushFrame (.throwing a)) g a hpc vm') {target : State}
    (hrest : Steps p.tables e below ((T.setVm vm').setTop { g with pc := hpc, stack := [.ref a] }) target) : Steps p.tables e below ((T.setTop g).pushFrame (.throwing a)) target := by
  have h : At T g.method c below := by rw [hg]; exact X₀.here
  obtain ⟨hgo, hw⟩ := h.throwing a
  refine Steps.head hgo hw ?_
  rw [stepThread_throwing (frames_entered h.top _), (rl_stepC hfind).1]
  obtain ⟨g₀, hg₀⟩ := Option.isSome_iff_exists.mp h.top
  obtain ⟨r, hr⟩ := State.topJava?_eq_some.mp hg₀
  have hr' : (T.setVm vm').frames = .java g₀ :: r := hr
  rw [State.setTop_of_frames _ hr'] at hrest
  rw [State.pushFrame, State.setTop_of_frames _ hr, State.setFrames_setFrames, hr]
  show Steps p.tables e below (((T.setVm vm').setFrames _).setFrames _) target
  rw [State.setFrames_setFrames]
  exact hrest
theorem rl_warmsz {vm' : Vm} (h : s.WarmedH vm') {U : State} (hU : s.WarmedH U.vm) : vm'.classes.size ≤ U.vm.classes.size := by rw [h.2.1, hU.2.1]; exact Nat.le_refl _
/-- caught by the table's first row -/
theorem rl_find1 {T : State} {locs : List Loc} (X₀ : Stand p l e R s m args below meth c T locs cells slots) {own X : String} {a : Addr} {g : JFrame} (hg : g.method = m) {x : ExceptionTableEntry} {t : List ExceptionTableEntry} (ht : c.exceptionTable.toList = x :: t) (hx : covers x g.pc = true) (h0 : x.catchType ≠ 0)
    (hown : s.vm.findClass own = some m.cls) (hl : (Cond.classLink own x.catchType X).before args s = true) (hcast : va_Nw (.castable X X) s) {cell : Cell} (hcell : T.heap[a]? = some cell) (hvm : cell.vm = .none) (hcls : s.vm.findClass X = some cell.cls) :
    ∃ vm', s.WarmedH vm' ∧ rl_Find e ((T.setTop g).pushFrame (.throwing a)) g a x.handlerPc vm' := by
  have hpl : e.platform.magicAccessors = ({} : Platform).magicAccessors := by rw [X₀.admits.platform]
  obtain ⟨k, hfk, hcl⟩ := Cond.classLink_spec hown hl e.platform hpl
  cases hcls.symm.trans hfk
  obtain ⟨hg₁, hwarm₁, hready₁⟩ := State.classEntry (e := e) X₀.warmed hcl
  obtain ⟨c0, t0, f1, f2, f3⟩ := Cond.castable_spec (va_Nw.use (A := args) rfl hcast)
  cases hcls.symm.trans f1
  cases hcls.symm.trans f2
  obtain ⟨kk, hkk⟩ := Vm.classAt_of_findClass hcls
  obtain ⟨k', hk', -⟩ := hwarm₁.alike.2.2 _ _ hkk
  refine ⟨_, hwarm₁, fun Qh Z d acts => ?_⟩
  rw [W.findHandler_eq (meth := meth) (code := c) (by rw [hg]; exact X₀.method') X₀.code, ht,
    rl_goC hx h0 (k := cell.cls) (vm' := T.vm.noted m.cls x.catchType (.cls cell.cls)) (by rw [hg, Stand.throwing_vm]; exact hg₁) (by rw [Stand.throwing_vm]; exact rl_warmsz hwarm₁ X₀.warmed) (by rw [Stand.throwing_heap]; exact hcell) (fun z h => by rw [hvm] at h; cases h) ⟨k', hk'⟩ ⟨k', hk'⟩,
    if_pos (by rw [hwarm₁.alike.assignable]; exact f3)]
/-- passed by the first row, caught by the second -/
theorem rl_find2 {T : State} {locs : List Loc} (X₀ : Stand p l e R s m args below meth c T locs cells slots) {own X Y : String} {a : Addr} {g : JFrame} (hg : g.method = m) {x y : ExceptionTableEntry} {t : List ExceptionTableEntry} (ht : c.exceptionTable.toList = x :: y :: t) (hx : covers x g.pc = true) (h0 : x.catchType ≠ 0) (hy : covers y g.pc = true) (h1 : y.catchType ≠ 0)
    (hown : s.vm.findClass own = some m.cls) (hlY : (Cond.classLink own x.catchType Y).before args s = true) (hl : (Cond.classLink own y.catchType X).before args s = true) (hno : va_Nc X Y s) (hcast : va_Nw (.castable X X) s) {cell : Cell} (hcell : T.heap[a]? = some cell) (hvm : cell.vm = .none) (hcls : s.vm.findClass X = some cell.cls) :
    ∃ vm', s.WarmedH vm' ∧ rl_Find e ((T.setTop g).pushFrame (.throwing a)) g a y.handlerPc vm' := by
  have hpl : e.platform.magicAccessors = ({} : Platform).magicAccessors := by rw [X₀.admits.platform]
  obtain ⟨kY, hfY, hclY⟩ := Cond.classLink_spec hown hlY e.platform hpl
  obtain ⟨hg₁, hwarm₁, hready₁⟩ := State.classEntry (e := e) X₀.warmed hclY
  obtain ⟨k, hfk, hcl⟩ := Cond.classLink_spec hown hl e.platform hpl
  cases hcls.symm.trans hfk
  obtain ⟨hg₂, hwarm₂, hready₂⟩ := State.classEntry (e := e) hwarm₁ hcl
  obtain ⟨c0, t0, f1, f2, f3⟩ := Cond.castable_spec (va_Nw.use (A := args) rfl hcast)
  cases hcls.symm.trans f1
  cases hcls.symm.trans f2
  obtain ⟨c1, t1, n1, n2, n3⟩ := hno
  cases hcls.symm.trans n1
  cases hfY.symm.trans n2
  obtain ⟨kk, hkk⟩ := Vm.classAt_of_findClass hcls
  obtain ⟨kz, hkz⟩ := Vm.classAt_of_findClass hfY
  obtain ⟨k1, hk1, -⟩ := hwarm₁.alike.2.2 _ _ hkk
  obtain ⟨k2, hk2, -⟩ := hwarm₁.alike.2.2 _ _ hkz
  obtain ⟨k3, hk3, -⟩ := hwarm₂.alike.2.2 _ _ hkk
  refine ⟨_, hwarm₂, fun Qh Z d acts => ?_⟩
  rw [W.findHandler_eq (meth := meth) (code := c) (by rw [hg]; exact X₀.method') X₀.code, ht,
    rl_goC hx h0 (k := kY) (vm' := T.vm.noted m.cls x.catchType (.cls kY)) (by rw [hg, Stand.throwing_vm]; exact hg₁) (by rw [Stand.throwing_vm]; exact rl_warmsz hwarm₁ X₀.warmed) (by rw [Stand.throwing_heap]; exact hcell) (fun z h => by rw [hvm] at h; cases h) ⟨k1, hk1⟩ ⟨k2, hk2⟩,
    if_neg (by rw [hwarm₁.alike.assignable, n3]; decide),
    rl_goC hy h1 (k := cell.cls) (vm' := (T.vm.noted m.cls x.catchType (.cls kY)).noted m.cls y.catchType (.cls cell.cls)) (by rw [hg]; exact hg₂) (by show _ ≤ (T.vm.noted m.cls x.catchType (.cls kY)).classes.size; rw [hwarm₂.2.1, hwarm₁.2.1]; exact Nat.le_refl _) (by show ((T.setTop g).pushFrame (.throwing a)).heap[a]? = _; rw [Stand.throwing_heap]; exact hcell) (fun z h => by rw [hvm] at h; cases h) ⟨k3, hk3⟩ ⟨k3, hk3⟩,
    if_pos (by rw [hwarm₂.alike.assignable]; exact f3)]
  exact Iff.rfl
/-- a call that throws, where a handler of the method's own takes it -/
theorem rl_callVC {y : MethodName} {bytes : ByteArray} {maxL index : Nat} {ret : Option FieldType} {rm : Room} {X : String} {a ci hpc : Nat} {fs : (Nat → Int32) → List Value} {C : String} {T : u_T} {Nf : Nat} {As st0 : List Value} (Γ : CallFix p m c cc nL s args rl_TT own) (d : decode cc pc = .ok (.invokevirtual index, 3)) (hO : rl_Ok E s) (hM : rl_MT l y (Cond.code y bytes maxL ret :: rl_TT) rm E (.ref (E.1 a) :: As) σ X τ) (n : Nat) (g1 : Cond.methodLink own index y ∈ rl_TT) (g2 : Cond.instanceMethod y ∈ rl_TT) (g3 : Cond.selects C y y ∈ rl_TT) (g4 : Cond.initialized C ∈ rl_TT) (g5 : Cond.code y bytes maxL ret ∈ rl_TT) (ho : a < rl_N ∧ ∀ f, rl_cr E a f = .inr (ci, fs f)) (hc : rl_Cl[ci]? = some (C, T, Nf)) (hrm : rm.cells = 1 ∧ rm.slots = 6) (hd : y.cls = C ∧ y.cls ≠ "java/lang/invoke/MethodHandle" ∧ y.cls ≠ "java/lang/invoke/VarHandle" ∧ (parseMethodDescriptor y.desc).map (fun d => d.parameters.length) = some n) (hf : rm.frames + 1 ≤ R.frames) (hlo : 8 + (maxL + 11) + rm.locals ≤ R.locals) (hcl : cells + 1 ≤ R.cells ∧ slots + 6 ≤ R.slots) (hw : (st.map fun v => v.category).sum ≤ 8) (hn : As.length = n) (hst : st0 = As.reverse ++ .ref (E.1 a) :: st)
    (hcatch : ∀ (T : State) (locs : List Loc) (x : Addr) (cell : Cell) (ls : Array Slot), Stand p l e R s m args below meth c T locs (cells + 1) (slots + 6) → T.heap[x]? = some cell → cell.vm = .none → s.vm.findClass X = some cell.cls → ∃ vm', s.WarmedH vm' ∧ rl_Find e ((T.setTop (F0 m pc ls st)).pushFrame (.throwing x)) (F0 m pc ls st) x hpc vm')
    (kk : ∀ x : Nat, rl_G p l e R s m args below meth c nL E (cells + 1) (slots + 6) Q τ hpc L [.ref x]) : rl_G p l e R s m args below meth c nL E cells slots Q σ pc L st0 := by
  intro H locs ls h1 h2 h3 T' hT X₀
  subst hst
  obtain ⟨hC, hd⟩ := hd
  subst hC
  have ht := Γ.2.2.2.2
  obtain ⟨cellB, hcB, hoB, hclB⟩ := va_recv hO.1 h1 hc (q0 := a) ((rl_wo_at ho.1).trans (by rw [ho.2]))
  obtain ⟨mk, methM, hnamed, hmethM, hstM, habM⟩ := Cond.instanceMethod_spec (ht _ g2)
  obtain ⟨methM', cM, hmethM', -, -, -, -, -, -, hsigM⟩ := Cond.code_spec hnamed (ht _ g5)
  cases hmethM.symm.trans hmethM'
  obtain ⟨c2, r2, m2, q1, q2, q3, q4, kP, hkP, hkPi⟩ := Cond.selects_spec (ht _ g3)
  cases hclB.symm.trans q1
  cases (State.methodFound?_of_named hnamed ⟨hd.1, hd.2.1⟩).symm.trans q2
  cases hnamed.symm.trans q3
  have hselP : selectMethod e.platform s.vm cellB.cls mk = .method mk := by rw [Launch.admits_selectMethod X₀.admits]; exact q4
  have hlen : As.length = methM.sig.parameters.length := by
    have h9 := hd.2.2
    rw [hsigM] at h9
    rw [hn]
    exact (Option.some.inj h9).symm
  obtain ⟨vm₁, X₁, hstep₁⟩ := X₀.invokevirtual Γ.1 Γ.2.2.2.1 (ht _ g1) hnamed hmethM hstM hkP hkPi ⟨hd.1, hd.2.1⟩ (a := E.1 a) (cell := cellB) (by rw [hT]; exact hcB)
    (fun z h => by rw [h] at hoB; cases hoB) hselP hmethM habM hkP hkPi (g := F0 m pc ls (As.reverse ++ .ref (E.1 a) :: st)) rfl (argsL := As) (rest := st) hlen rfl (by rw [Γ.2.1]; exact d)
  obtain ⟨x, t, T2, L', X2, hL, e1, hq, hsteps⟩ := rl_backT (bytes := bytes) (maxL := maxL) (ret := ret) hM hrm hf hlo (pay_in ht (rl_GI g5)) List.mem_cons_self (fun a' U hW => word_at hW (Or.inl (by first | rfl | simp [Cond.onTables, Cond.keeps, Cond.steady])) (ht _ g4)) X₁ (g := F0 m pc ls st) rfl (h3.1.trans Γ.2.2.1.symm) (by rw [Γ.2.1]; exact d) (lv_room hw) (X₁.named hnamed) hcl ⟨rfl, by show va_P _ _ _ T'.heap; rw [hT]; exact h1, hO.moved X₁.warmed (fun q q1 q2 => by show T'.heap[q]? = _; rw [hT]; exact h2.2.1 q q1 q2)⟩
  obtain ⟨x', hx', ⟨cell, c1, c2, c3⟩, hP2, hF1, hF2⟩ := hq
  cases hx'
  have hH : ((T'.setVm vm₁).calling (F0 m pc ls st) mk (Value.ref (E.1 a) :: As).toArray).heap = H := hT
  rw [hH] at hF1 hF2
  have c3' : s.vm.findClass X = some cell.cls := by rw [← X₁.warmed.alike.findClass]; exact c3
  obtain ⟨vm₃, hW₃, hfind⟩ := hcatch T2 _ x cell ls X2 (by rw [e1]; exact c1) c2 c3'
  have X3 := X2.noted hW₃
  obtain ⟨tf, s1, s2⟩ := kk x T2.heap (locs ++ L') ls (by rw [e1]; exact hP2) ⟨Nat.le_trans h2.1 (by rw [e1]; exact hF1), fun q w1 w2 => by rw [e1, hF2 q (Nat.lt_of_lt_of_le w1 h2.1) w2]; exact h2.2.1 q w1 w2, fun q hq => by
      rcases List.mem_append.mp hq with h | h
      · exact h2.2.2 q h
      · exact hL q h⟩ h3 (T2.setVm vm₃) rfl X3
  exact ⟨tf, hstep₁ _ (fun acts => by rw [doInvoke_state]; exact hsteps.trans (rl_stepsC X2 rfl hfind s1)), s2⟩
/-- a wrapper's end -/
theorem rl_wret (Γ : CallFix p m c cc nL s args rl_TT own) (d : decode cc pc = .ok (.ireturn, 1)) (hr : meth.sig.returnType = some .int) (hk : meth.locks = false) {v : Int32} {r : Int32 × rl_M} (hc : cells ≤ 1 ∧ slots ≤ 6) (h : some (v, σ) = some r) : rl_G p l e R s m args below meth c nL E cells slots (MQ below (rl_Q E (rl_ri r.1) r.2) args s 1 6 (rl_A E)) σ pc L [.int v] := by
  cases h
  exact fun H locs ls h1 h2 h3 => W.widen hc.1 hc.2 (W.iret (v := v) Γ.1 Γ.2.1 hr (fun t ht hW => ⟨rfl, by rw [ht]; exact h1, h2.F ht⟩) h2.2.2 d)
theorem rl_lst (Γ : CallFix p m c cc nL s args rl_TT own) (d : decode cc pc = .ok (.lastore, 1)) (hO : rl_Ok E s) {x : Int32} {y : Int64} (hy : y = x.toInt64) (kk : rl_G p l e R s m args below meth c nL E cells slots Q (rl_su σ 78 0 x) (pc + 1) L st) : rl_G p l e R s m args below meth c nL E cells slots Q σ pc L (.long y :: .int 0 :: .ref (E.1 78) :: st) := fun H locs ls h1 h2 h3 =>
  va_last (D := E.2.1) (cl := rl_Cl) (ws := rl_wo E σ) (H0 := s.heap) (f := fun j => (σ 78 j).toInt64) Γ.1 Γ.2.1 hO.1 h1 (rl_D hO σ) h2 78 1 ((rl_wo_at (rl_a78 E).1).trans (by rw [(rl_a78 E).2])) rfl (rl_ib_in (i := 0) (n := 1) (by decide)) d (fun H1 locs1 hP _ hS => kk H1 locs1 ls (by
    have e : vp_updL (fun j => (σ 78 j).toInt64) (0 : Int32).toNatClampNeg y = fun j => (upd (σ 78) 0 x j).toInt64 := by
      funext j
      show (if j = 0 then y else _) = (if j = 0 then x else σ 78 j).toInt64
      by_cases hj : j = 0
      · rw [if_pos hj, if_pos hj, hy]
      · rw [if_neg hj, if_neg hj]
    rw [e, ← (rl_a78 E).2, rl_wo_set (rl_a78 E).1] at hP
    exact hP) hS h3)
end RLC
