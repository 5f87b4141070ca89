def rf_Mo_sign_J10 (x1 : Int32) (s0 : Int32)  (σ : rl_M) : Option (Int32 × rl_M) := (if ((rl_su σ 59 0 s0) 59 0) ≤ 0 then (if ((rl_su σ 59 0 s0) 59 7) ≤ x1 then some ((-1), rl_su σ 59 0 s0) else (if rl_ib x1 16 = true then some ((rl_su σ 59 0 s0) 63 x1.toNatClampNeg, rl_su σ 59 0 s0) else none)) else some (0, rl_su σ 59 0 s0))
def rf_Mo_sign (x1 : Int32) (σ : rl_M) : Option (Int32 × rl_M) := (if 0 ≤ x1 then rf_Mo_sign_J10 x1 0  σ else rf_Mo_sign_J10 x1 1  σ)
set_option maxHeartbeats 4000000 in
set_option maxRecDepth 100000 in
theorem rw_Mo_sign_J10 {p : Program} {l : Launch} {e : Env} {s : State} {m : MethodId} {args : Array Value} {below : List Frame} {meth : Method} {c : Code} {E : rl_E} (Γ : CallFix p m c nc_Mo_sign 2 s args rl_TT nR_Mo) (hO : rl_Ok E s) (hr : meth.sig.returnType = (some .int)) (hk : meth.locks = false)  (x1 : Int32) (s0 : Int32)   {r : Int32 × rl_M}  (σ : rl_M) (h : rf_Mo_sign_J10 x1 s0  σ = some r) : rl_G p l e nr_Mo_sign s m args below meth c 2 E 0 0 (rl_QM below args s E rl_ri r) σ 10 [(0, .ref (E.1 59)), (1, .int x1)] [.int s0, .ref (E.1 59)] := by
  unfold rf_Mo_sign_J10 at h
  refine rl_put (pc := 10) Γ nd_Mo_sign_10 hO (k := 0) (rl_o59 E) rfl (by decide) (fun _ _ => rfl) ⟨ni_Mo, nf_Mo_71⟩ nt_Mo nto_Mo nn_Mo rfl (fun _ => Nat.le_of_ble_eq_true rfl) rl_ni ?_
  refine rl_aload_n (pc := 13) Γ nd_Mo_sign_13 0 rfl ?_
  refine rl_get (pc := 14) Γ nd_Mo_sign_14 hO (k := 0) (rl_o59 E) rfl (by decide) rfl ⟨ni_Mo, nf_Mo_71⟩ ?_
  refine rl_if_le (tgt := 24) (pc := 17) Γ nd_Mo_sign_17 (by decide) (fun q2 => ?_) (fun q2 => ?_)
  · have h := rl_ift q2 h
    refine rl_iload_n (pc := 24) Γ nd_Mo_sign_24 1 rfl ?_
    refine rl_aload_n (pc := 25) Γ nd_Mo_sign_25 0 rfl ?_
    refine rl_get (pc := 26) Γ nd_Mo_sign_26 hO (k := 7) (rl_o59 E) rfl (by decide) rfl ⟨ni_Mo, nf_Mo_91⟩ ?_
    refine rl_icmp_ge (tgt := 41) (pc := 29) Γ nd_Mo_sign_29 (by decide) (fun q3 => ?_) (fun q3 => ?_)
    · have h := rl_ift q3 h
      refine rl_iconst (v := (-1)) (pc := 41) Γ nd_Mo_sign_41 (by decide) ?_
      exact rl_iret (pc := 42) Γ nd_Mo_sign_42 hr hk h
    · have h := rl_iff q3 h
      refine rl_aload_n (pc := 32) Γ nd_Mo_sign_32 0 rfl ?_
      refine rl_get (pc := 33) Γ nd_Mo_sign_33 hO (k := 8) (rl_o59 E) rfl (by decide) rfl ⟨ni_Mo, nf_Mo_26⟩ ?_
      refine rl_iload_n (pc := 36) Γ nd_Mo_sign_36 1 rfl ?_
      obtain ⟨q4, h⟩ := rl_if h
      refine rl_ild (pc := 37) Γ nd_Mo_sign_37 hO (rl_a63 E) (rl_ib_in q4) ?_
      refine rl_goto (tgt := 42) (pc := 38) Γ nd_Mo_sign_38 (by decide) ?_
      exact rl_iret (pc := 42) Γ nd_Mo_sign_42 hr hk h
  · have h := rl_iff q2 h
    refine rl_iconst (v := 0) (pc := 20) Γ nd_Mo_sign_20 (by decide) ?_
    refine rl_goto (tgt := 42) (pc := 21) Γ nd_Mo_sign_21 (by decide) ?_
    exact rl_iret (pc := 42) Γ nd_Mo_sign_42 hr hk h
set_option maxHeartbeats 4000000 in
set_option maxRecDepth 100000 in
theorem rw_Mo_sign (l : Launch) (E : rl_E) (x1 : Int32)  (σ : rl_M) (r : Int32 × rl_M) (h : rf_Mo_sign x1 σ = some r) : Met l ny_Mo_sign nw_Mo_sign nr_Mo_sign (rl_P E [.ref (E.1 59), .int x1] σ) (rl_Q E (rl_ri r.1) r.2) 0 0 (rl_A E) := by
  refine Met.ofW (cc := nc_Mo_sign) (maxL := 2) (ret := (some .int)) (by decide) rfl ?_
  intro p e s m args below meth c s₁ B hml hv
  obtain ⟨rfl, hP, hO⟩ := hv
  have Γ : CallFix p m c nc_Mo_sign 2 s ([.ref (E.1 59), .int x1] : List Value).toArray rl_TT nR_Mo := ⟨B.exec, B.bytes, hml, findClass_of_methodNamed B.named, fun w hw => atoms_spec (ws := nw_Mo_sign) B.pre w (List.mem_cons_of_mem _ hw)⟩
  have hr := B.returns
  have hk := B.notSynchronized
  refine rl_start (R := nr_Mo_sign) (Q := rl_QM below _ s E rl_ri r) (nL := 2) (av := [.ref (E.1 59), .int x1]) (σ := σ) hP (Nat.le_of_ble_eq_true rfl) ?_
  unfold rf_Mo_sign at h
  refine rl_aload_n (pc := 0) Γ nd_Mo_sign_0 0 rfl ?_
  refine rl_iload_n (pc := 1) Γ nd_Mo_sign_1 1 rfl ?_
  refine rl_if_ge (tgt := 9) (pc := 2) Γ nd_Mo_sign_2 (by decide) (fun q1 => ?_) (fun q1 => ?_)
  · have h := rl_ift q1 h
    refine rl_iconst (v := 0) (pc := 9) Γ nd_Mo_sign_9 (by decide) ?_
    exact rl_Gsub [0, 1] rfl (rw_Mo_sign_J10 Γ hO hr hk x1 0   σ h)
  · have h := rl_iff q1 h
    refine rl_iconst (v := 1) (pc := 5) Γ nd_Mo_sign_5 (by decide) ?_
    refine rl_goto (tgt := 10) (pc := 6) Γ nd_Mo_sign_6 (by decide) ?_
    exact rl_Gsub [0, 1] rfl (rw_Mo_sign_J10 Γ hO hr hk x1 1   σ h)
