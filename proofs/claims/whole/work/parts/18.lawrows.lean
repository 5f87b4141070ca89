section RLW
variable {p : Program} {l : Launch} {e : Env} {R : Room} {s : State} {m : MethodId} {args : Array Value} {below : List Frame} {meth : Method} {c : Code} {cells slots : Nat} {Q : State → Prop}
variable {cc : ByteArray} {nL : Nat} {own : String} {E : rl_E} {σ τ : rl_M} {pc : Nat} {L : List (Nat × Value)} {st : List Value}
theorem rl_callW {y : MethodName} {bytes : ByteArray} {maxL index : Nat} {ret : Option FieldType} {hh : List (Nat × Nat × Nat × Nat)} {rm : Room} {r : Int32} {As st0 : List Value} (Γ : CallFix p m c cc nL s args rl_TT own) (d : decode cc pc = .ok (.invokestatic index, 3)) (hO : rl_Ok E s) (hM : Met l y (Cond.codeWith y bytes maxL ret hh :: rl_TT) rm (rl_P E As σ) (rl_Q E (rl_ri r) τ) 1 6 (rl_A E)) (n : Nat) (g1 : Cond.methodLink own index y ∈ rl_TT) (g2 : Cond.static y ∈ rl_TT) (g4 : Cond.initialized y.cls ∈ rl_TT) (g5 : Cond.codeWith y bytes maxL ret hh ∈ rl_TT) (hrm : rm.cells = 1 ∧ rm.slots = 6) (hd : y.cls ≠ "java/lang/invoke/MethodHandle" ∧ y.cls ≠ "java/lang/invoke/VarHandle" ∧ (parseMethodDescriptor y.desc).map (fun d => d.parameters.length) = some n) (hf : rm.frames + 1 ≤ R.frames) (hlo : 8 + (maxL + 11) + rm.locals ≤ R.locals) (hcl : cells + 1 ≤ R.cells ∧ slots + 6 ≤ R.slots) (hw : (st.map fun v => v.category).sum ≤ 8) (hn : As.length = n) (hst : st0 = As.reverse ++ st) (kk : rl_G p l e R s m args below meth c nL E (cells + 1) (slots + 6) Q τ (pc + 3) L (.int r :: st)) : rl_G p l e R s m args below meth c nL E cells slots Q σ pc L st0 := by
  intro H locs ls h1 h2 h3 T hT X₀
  subst hst
  have ht := Γ.2.2.2.2
  obtain ⟨mk, methM, cM, hnamed, hmethM, -, -, -, -, -, -, hsigM⟩ := Cond.codeWith_spec (ht _ g5)
  have hstatic : methM.isStatic = true := Cond.static_spec hnamed hmethM (ht _ g2)
  obtain ⟨kP, hkP, -⟩ := className_of_methodNamed hnamed
  have hinitP : kP.init = .initialized := Cond.initialized_spec (findClass_of_methodNamed hnamed) hkP (ht _ g4)
  have hlen : As.length = methM.sig.parameters.length := by
    have h9 := hd.2.2
    rw [hsigM] at h9
    rw [hn]
    exact (Option.some.inj h9).symm
  obtain ⟨vm₁, X₁, hstep₁⟩ := X₀.invokestatic Γ.1 Γ.2.2.2.1 (ht _ g1) hnamed hmethM hstatic hkP hinitP ⟨hd.1, hd.2.1⟩ (g := F0 m pc ls (As.reverse ++ st)) rfl (argsL := As) (rest := st) hlen rfl (by rw [Γ.2.1]; exact d)
  have hK : Back l R p e below s args y 3 8 (PreOf R 1 6 (rl_P E As σ)) (PostOf (rl_Q E (rl_ri r) τ) 1 6 (rl_A E)) := va_backW (hh := hh) (bytes := bytes) (maxL := maxL) (ret := ret) hM (rl_P_blind E As σ) hrm.1 hrm.2 hf hlo (pay_in ht (rl_GI g5)) List.mem_cons_self (fun a' U hW => word_at hW (Or.inl (by first | rfl | simp [Cond.onTables, Cond.keeps, Cond.steady])) (ht _ g4))
  obtain ⟨v, ⟨U', l2, c2, s2⟩, X', ⟨g', mk', t, L', e1, e2, ⟨hv, hP2, hF1, hF2⟩, q1, hL, q2, q3⟩, hsteps⟩ := hK m meth c ⟨T.setVm vm₁, locs, cells, slots⟩ (F0 m pc ls st) (.invokestatic index) mk As.toArray X₁ rfl (h3.1.trans Γ.2.2.1.symm) (by rw [Γ.2.1]; exact d) (lv_room hw) (X₁.named hnamed) ⟨hcl.1, hcl.2, rfl, by show va_P _ _ _ T.heap; rw [hT]; exact h1, hO.moved X₁.warmed (fun q q1 q2 => by show T.heap[q]? = _; rw [hT]; exact h2.2.1 q q1 q2)⟩
  dsimp only [Pt.U, Pt.locs, Pt.cells, Pt.slots] at X' e1 e2 q1 q2 q3 hsteps
  subst q1; subst q2; subst q3
  cases hv
  have hH : ((T.setVm vm₁).calling g' mk' As.toArray).heap = H := hT
  rw [hH] at hF1 hF2
  obtain ⟨tf, s1, s2⟩ := kk U'.heap (locs ++ L') ls (by rw [e1]; exact hP2) ⟨Nat.le_trans h2.1 (by rw [e1]; exact hF1), fun q w1 w2 => by rw [e1, hF2 q (Nat.lt_of_lt_of_le w1 h2.1) w2]; exact h2.2.1 q w1 w2, fun q hq => by
      rcases List.mem_append.mp hq with h | h
      · exact h2.2.2 q h
      · exact hL q h⟩ h3 U' rfl X'
  exact ⟨tf, hstep₁ _ (fun acts => by rw [doInvoke_state]; exact hsteps.trans s1), s2⟩
theorem rl_sld (Γ : CallFix p m c cc nL s args rl_TT own) {b0 Ln : Nat} {xs : Nat → Int32} (d : decode cc pc = .ok (.iaload, 1)) (hX : va_X b0 Ln xs s s.heap) (hbl : b0 < s.heap.size) (hbA : ¬ rl_A E b0) {i : Int32} (hi : vp_in i Ln) (kk : rl_G p l e R s m args below meth c nL E cells slots Q σ (pc + 1) L (.int (xs i.toNatClampNeg) :: st)) : rl_G p l e R s m args below meth c nL E cells slots Q σ pc L (.int i :: .ref b0 :: st) := fun H locs ls h1 h2 h3 =>
  va_sld Γ.1 Γ.2.1 hX hbl hbA h2 hi d (kk H locs ls h1 h2 h3)
theorem rl_slen (Γ : CallFix p m c cc nL s args rl_TT own) {b0 Ln : Nat} {xs : Nat → Int32} (d : decode cc pc = .ok (.arraylength, 1)) (hX : va_X b0 Ln xs s s.heap) (hbl : b0 < s.heap.size) (hbA : ¬ rl_A E b0) (kk : rl_G p l e R s m args below meth c nL E cells slots Q σ (pc + 1) L (.int (nI Ln) :: st)) : rl_G p l e R s m args below meth c nL E cells slots Q σ pc L (.ref b0 :: st) := fun H locs ls h1 h2 h3 =>
  va_slen Γ.1 Γ.2.1 hX hbl hbA h2 d (kk H locs ls h1 h2 h3)
theorem rl_lld (Γ : CallFix p m c cc nL s args rl_TT own) (d : decode cc pc = .ok (.laload, 1)) (hO : rl_Ok E s) (kk : rl_G p l e R s m args below meth c nL E cells slots Q σ (pc + 1) L (.long (σ 78 0).toInt64 :: st)) : rl_G p l e R s m args below meth c nL E cells slots Q σ pc L (.int 0 :: .ref (E.1 78) :: st) := fun H locs ls h1 h2 h3 =>
  va_lald (D := E.2.1) (cl := rl_Cl) (ws := rl_wo E σ) (f := fun j => (σ 78 j).toInt64) Γ.1 Γ.2.1 hO.1 h1 78 1 ((rl_wo_at (rl_a78 E).1).trans (by rw [(rl_a78 E).2])) rfl (rl_ib_in (i := 0) (n := 1) (by decide)) d (kk H locs ls h1 h2 h3)
theorem rl_lcmp (Γ : CallFix p m c cc nL s args rl_TT own) {x y : Int64} (d : decode cc pc = .ok (.lcmp, 1)) (kk : rl_G p l e R s m args below meth c nL E cells slots Q σ (pc + 1) L (.int (lg_cmp x y) :: st)) : rl_G p l e R s m args below meth c nL E cells slots Q σ pc L (.long y :: .long x :: st) := fun H locs ls h1 h2 h3 =>
  W.lcmp Γ.1 Γ.2.1 d (kk H locs ls h1 h2 h3)
theorem rl_widen {k n : Nat} (h1 : cells ≤ k) (h2 : slots ≤ n) (kk : rl_G p l e R s m args below meth c nL E k n Q σ pc L st) : rl_G p l e R s m args below meth c nL E cells slots Q σ pc L st := fun H locs ls a1 a2 a3 => W.widen h1 h2 (kk H locs ls a1 a2 a3)
end RLW
