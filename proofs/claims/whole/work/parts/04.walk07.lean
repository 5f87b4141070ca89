def rf_Mo_thrown  (σ : rl_M) : Option (Int32 × rl_M) := some (σ 59 0, σ)
set_option maxHeartbeats 4000000 in
set_option maxRecDepth 100000 in
theorem rw_Mo_thrown (l : Launch) (E : rl_E)   (σ : rl_M) (r : Int32 × rl_M) (h : rf_Mo_thrown  σ = some r) : Met l ny_Mo_thrown nw_Mo_thrown nr_Mo_thrown (rl_P E [.ref (E.1 59)] σ) (rl_Q E (rl_ri r.1) r.2) 0 0 (rl_A E) := by
  refine Met.ofW (cc := nc_Mo_thrown) (maxL := 1) (ret := (some .int)) (by decide) rfl ?_
  intro p e s m args below meth c s₁ B hml hv
  obtain ⟨rfl, hP, hO⟩ := hv
  have Γ : CallFix p m c nc_Mo_thrown 1 s ([.ref (E.1 59)] : List Value).toArray rl_TT nR_Mo := ⟨B.exec, B.bytes, hml, findClass_of_methodNamed B.named, fun w hw => atoms_spec (ws := nw_Mo_thrown) B.pre w (List.mem_cons_of_mem _ hw)⟩
  have hr := B.returns
  have hk := B.notSynchronized
  refine rl_start (R := nr_Mo_thrown) (Q := rl_QM below _ s E rl_ri r) (nL := 1) (av := [.ref (E.1 59)]) (σ := σ) hP (Nat.le_of_ble_eq_true rfl) ?_
  unfold rf_Mo_thrown at h
  refine rl_aload_n (pc := 0) Γ nd_Mo_thrown_0 0 rfl ?_
  refine rl_get (pc := 1) Γ nd_Mo_thrown_1 hO (k := 0) (rl_o59 E) rfl (by decide) rfl ⟨ni_Mo, nf_Mo_71⟩ ?_
  exact rl_iret (pc := 4) Γ nd_Mo_thrown_4 hr hk h
def rf_Mo_isRoom (x1 : Int32) (σ : rl_M) : Option (Int32 × rl_M) := (if x1 < 0 then some (0, σ) else (if (σ 59 1) ≤ x1 then some (0, σ) else some (1, σ)))
set_option maxHeartbeats 4000000 in
set_option maxRecDepth 100000 in
theorem rw_Mo_isRoom (l : Launch) (E : rl_E) (x1 : Int32)  (σ : rl_M) (r : Int32 × rl_M) (h : rf_Mo_isRoom x1 σ = some r) : Met l ny_Mo_isRoom nw_Mo_isRoom nr_Mo_isRoom (rl_P E [.ref (E.1 59), .int x1] σ) (rl_Q E (rl_ri r.1) r.2) 0 0 (rl_A E) := by
  refine Met.ofW (cc := nc_Mo_isRoom) (maxL := 2) (ret := (some .boolean)) (by decide) rfl ?_
  intro p e s m args below meth c s₁ B hml hv
  obtain ⟨rfl, hP, hO⟩ := hv
  have Γ : CallFix p m c nc_Mo_isRoom 2 s ([.ref (E.1 59), .int x1] : List Value).toArray rl_TT nR_Mo := ⟨B.exec, B.bytes, hml, findClass_of_methodNamed B.named, fun w hw => atoms_spec (ws := nw_Mo_isRoom) B.pre w (List.mem_cons_of_mem _ hw)⟩
  have hr := B.returns
  have hk := B.notSynchronized
  refine rl_start (R := nr_Mo_isRoom) (Q := rl_QM below _ s E rl_ri r) (nL := 2) (av := [.ref (E.1 59), .int x1]) (σ := σ) hP (Nat.le_of_ble_eq_true rfl) ?_
  unfold rf_Mo_isRoom at h
  refine rl_iload_n (pc := 0) Γ nd_Mo_isRoom_0 1 rfl ?_
  refine rl_if_lt (tgt := 16) (pc := 1) Γ nd_Mo_isRoom_1 (by decide) (fun q1 => ?_) (fun q1 => ?_)
  · have h := rl_ift q1 h
    refine rl_iconst (v := 0) (pc := 16) Γ nd_Mo_isRoom_16 (by decide) ?_
    exact rl_zret (pc := 17) Γ nd_Mo_isRoom_17 hr hk (by decide) h
  · have h := rl_iff q1 h
    refine rl_iload_n (pc := 4) Γ nd_Mo_isRoom_4 1 rfl ?_
    refine rl_aload_n (pc := 5) Γ nd_Mo_isRoom_5 0 rfl ?_
    refine rl_get (pc := 6) Γ nd_Mo_isRoom_6 hO (k := 1) (rl_o59 E) rfl (by decide) rfl ⟨ni_Mo, nf_Mo_74⟩ ?_
    refine rl_icmp_ge (tgt := 16) (pc := 9) Γ nd_Mo_isRoom_9 (by decide) (fun q2 => ?_) (fun q2 => ?_)
    · have h := rl_ift q2 h
      refine rl_iconst (v := 0) (pc := 16) Γ nd_Mo_isRoom_16 (by decide) ?_
      exact rl_zret (pc := 17) Γ nd_Mo_isRoom_17 hr hk (by decide) h
    · have h := rl_iff q2 h
      refine rl_iconst (v := 1) (pc := 12) Γ nd_Mo_isRoom_12 (by decide) ?_
      refine rl_goto (tgt := 17) (pc := 13) Γ nd_Mo_isRoom_13 (by decide) ?_
      exact rl_zret (pc := 17) Γ nd_Mo_isRoom_17 hr hk (by decide) h
def rf_Mo_isIn (x0 : Int32) (x1 : Int32) (x2 : Int32) (σ : rl_M) : Option (Int32 × rl_M) := (if x0 < x1 then some (0, σ) else (if x2 < x0 then some (0, σ) else some (1, σ)))
set_option maxHeartbeats 4000000 in
set_option maxRecDepth 100000 in
theorem rw_Mo_isIn (l : Launch) (E : rl_E) (x0 : Int32) (x1 : Int32) (x2 : Int32)  (σ : rl_M) (r : Int32 × rl_M) (h : rf_Mo_isIn x0 x1 x2 σ = some r) : Met l ny_Mo_isIn nw_Mo_isIn nr_Mo_isIn (rl_P E [.int x0, .int x1, .int x2] σ) (rl_Q E (rl_ri r.1) r.2) 0 0 (rl_A E) := by
  refine Met.ofW (cc := nc_Mo_isIn) (maxL := 3) (ret := (some .boolean)) (by decide) rfl ?_
  intro p e s m args below meth c s₁ B hml hv
  obtain ⟨rfl, hP, hO⟩ := hv
  have Γ : CallFix p m c nc_Mo_isIn 3 s ([.int x0, .int x1, .int x2] : List Value).toArray rl_TT nR_Mo := ⟨B.exec, B.bytes, hml, findClass_of_methodNamed B.named, fun w hw => atoms_spec (ws := nw_Mo_isIn) B.pre w (List.mem_cons_of_mem _ hw)⟩
  have hr := B.returns
  have hk := B.notSynchronized
  refine rl_start (R := nr_Mo_isIn) (Q := rl_QM below _ s E rl_ri r) (nL := 3) (av := [.int x0, .int x1, .int x2]) (σ := σ) hP (Nat.le_of_ble_eq_true rfl) ?_
  unfold rf_Mo_isIn at h
  refine rl_iload_n (pc := 0) Γ nd_Mo_isIn_0 0 rfl ?_
  refine rl_iload_n (pc := 1) Γ nd_Mo_isIn_1 1 rfl ?_
  refine rl_icmp_lt (tgt := 14) (pc := 2) Γ nd_Mo_isIn_2 (by decide) (fun q1 => ?_) (fun q1 => ?_)
  · have h := rl_ift q1 h
    refine rl_iconst (v := 0) (pc := 14) Γ nd_Mo_isIn_14 (by decide) ?_
    exact rl_zret (pc := 15) Γ nd_Mo_isIn_15 hr hk (by decide) h
  · have h := rl_iff q1 h
    refine rl_iload_n (pc := 5) Γ nd_Mo_isIn_5 0 rfl ?_
    refine rl_iload_n (pc := 6) Γ nd_Mo_isIn_6 2 rfl ?_
    refine rl_icmp_gt (tgt := 14) (pc := 7) Γ nd_Mo_isIn_7 (by decide) (fun q2 => ?_) (fun q2 => ?_)
    · have h := rl_ift q2 h
      refine rl_iconst (v := 0) (pc := 14) Γ nd_Mo_isIn_14 (by decide) ?_
      exact rl_zret (pc := 15) Γ nd_Mo_isIn_15 hr hk (by decide) h
    · have h := rl_iff q2 h
      refine rl_iconst (v := 1) (pc := 10) Γ nd_Mo_isIn_10 (by decide) ?_
      refine rl_goto (tgt := 15) (pc := 11) Γ nd_Mo_isIn_11 (by decide) ?_
      exact rl_zret (pc := 15) Γ nd_Mo_isIn_15 hr hk (by decide) h
def rf_Mo_room_J15 (s0 : Int32)  (σ : rl_M) : Option (Int32 × rl_M) := (if ((rl_su σ 59 0 s0) 59 0) ≤ 0 then some (((rl_su (rl_su σ 59 0 s0) 59 1 (((rl_su σ 59 0 s0) 59 1) + 1)) 59 1) - 1, rl_su (rl_su σ 59 0 s0) 59 1 (((rl_su σ 59 0 s0) 59 1) + 1)) else some (0, rl_su σ 59 0 s0))
def rf_Mo_room  (σ : rl_M) : Option (Int32 × rl_M) := (if (σ 59 1) = 6 then rf_Mo_room_J15 1  σ else rf_Mo_room_J15 0  σ)
set_option maxHeartbeats 4000000 in
set_option maxRecDepth 100000 in
theorem rw_Mo_room_J15 {p : Program} {l : Launch} {e : Env} {s : State} {m : MethodId} {args : Array Value} {below : List Frame} {meth : Method} {c : Code} {E : rl_E} (Γ : CallFix p m c nc_Mo_room 1 s args rl_TT nR_Mo) (hO : rl_Ok E s) (hr : meth.sig.returnType = (some .int)) (hk : meth.locks = false)  (s0 : Int32)   {r : Int32 × rl_M}  (σ : rl_M) (h : rf_Mo_room_J15 s0  σ = some r) : rl_G p l e nr_Mo_room s m args below meth c 1 E 0 0 (rl_QM below args s E rl_ri r) σ 15 [(0, .ref (E.1 59))] [.int s0, .ref (E.1 59)] := by
  unfold rf_Mo_room_J15 at h
  refine rl_put (pc := 15) Γ nd_Mo_room_15 hO (k := 0) (rl_o59 E) rfl (by decide) (fun _ _ => rfl) ⟨ni_Mo, nf_Mo_71⟩ nt_Mo nto_Mo nn_Mo rfl (fun _ => Nat.le_of_ble_eq_true rfl) rl_ni ?_
  refine rl_aload_n (pc := 18) Γ nd_Mo_room_18 0 rfl ?_
  refine rl_get (pc := 19) Γ nd_Mo_room_19 hO (k := 0) (rl_o59 E) rfl (by decide) rfl ⟨ni_Mo, nf_Mo_71⟩ ?_
  refine rl_if_le (tgt := 27) (pc := 22) Γ nd_Mo_room_22 (by decide) (fun q2 => ?_) (fun q2 => ?_)
  · have h := rl_ift q2 h
    refine rl_aload_n (pc := 27) Γ nd_Mo_room_27 0 rfl ?_
    refine rl_dup (pc := 28) Γ nd_Mo_room_28 rfl ?_
    refine rl_get (pc := 29) Γ nd_Mo_room_29 hO (k := 1) (rl_o59 E) rfl (by decide) rfl ⟨ni_Mo, nf_Mo_74⟩ ?_
    refine rl_iconst (v := 1) (pc := 32) Γ nd_Mo_room_32 (by decide) ?_
    refine rl_iadd (pc := 33) Γ nd_Mo_room_33 ?_
    refine rl_put (pc := 34) Γ nd_Mo_room_34 hO (k := 1) (rl_o59 E) rfl (by decide) (fun _ _ => rfl) ⟨ni_Mo, nf_Mo_74⟩ nt_Mo nto_Mo nn_Mo rfl (fun _ => Nat.le_of_ble_eq_true rfl) rl_ni ?_
    refine rl_aload_n (pc := 37) Γ nd_Mo_room_37 0 rfl ?_
    refine rl_get (pc := 38) Γ nd_Mo_room_38 hO (k := 1) (rl_o59 E) rfl (by decide) rfl ⟨ni_Mo, nf_Mo_74⟩ ?_
    refine rl_iconst (v := 1) (pc := 41) Γ nd_Mo_room_41 (by decide) ?_
    refine rl_isub (pc := 42) Γ nd_Mo_room_42 ?_
    exact rl_iret (pc := 43) Γ nd_Mo_room_43 hr hk h
  · have h := rl_iff q2 h
    refine rl_iconst (v := 0) (pc := 25) Γ nd_Mo_room_25 (by decide) ?_
    exact rl_iret (pc := 26) Γ nd_Mo_room_26 hr hk h
set_option maxHeartbeats 4000000 in
set_option maxRecDepth 100000 in
theorem rw_Mo_room (l : Launch) (E : rl_E)   (σ : rl_M) (r : Int32 × rl_M) (h : rf_Mo_room  σ = some r) : Met l ny_Mo_room nw_Mo_room nr_Mo_room (rl_P E [.ref (E.1 59)] σ) (rl_Q E (rl_ri r.1) r.2) 0 0 (rl_A E) := by
  refine Met.ofW (cc := nc_Mo_room) (maxL := 1) (ret := (some .int)) (by decide) rfl ?_
  intro p e s m args below meth c s₁ B hml hv
  obtain ⟨rfl, hP, hO⟩ := hv
  have Γ : CallFix p m c nc_Mo_room 1 s ([.ref (E.1 59)] : List Value).toArray rl_TT nR_Mo := ⟨B.exec, B.bytes, hml, findClass_of_methodNamed B.named, fun w hw => atoms_spec (ws := nw_Mo_room) B.pre w (List.mem_cons_of_mem _ hw)⟩
  have hr := B.returns
  have hk := B.notSynchronized
  refine rl_start (R := nr_Mo_room) (Q := rl_QM below _ s E rl_ri r) (nL := 1) (av := [.ref (E.1 59)]) (σ := σ) hP (Nat.le_of_ble_eq_true rfl) ?_
  unfold rf_Mo_room at h
  refine rl_aload_n (pc := 0) Γ nd_Mo_room_0 0 rfl ?_
  refine rl_aload_n (pc := 1) Γ nd_Mo_room_1 0 rfl ?_
  refine rl_get (pc := 2) Γ nd_Mo_room_2 hO (k := 1) (rl_o59 E) rfl (by decide) rfl ⟨ni_Mo, nf_Mo_74⟩ ?_
  refine rl_bipush (v := 6) (pc := 5) Γ nd_Mo_room_5 (by decide) ?_
  refine rl_icmp_ne (tgt := 14) (pc := 7) Γ nd_Mo_room_7 (by decide) (fun q1 => ?_) (fun q1 => ?_)
  · have h := rl_iff q1 h
    refine rl_iconst (v := 0) (pc := 14) Γ nd_Mo_room_14 (by decide) ?_
    exact rl_Gsub [0] rfl (rw_Mo_room_J15 Γ hO hr hk 0   σ h)
  · have h := rl_ift q1 h
    refine rl_iconst (v := 1) (pc := 10) Γ nd_Mo_room_10 (by decide) ?_
    refine rl_goto (tgt := 15) (pc := 11) Γ nd_Mo_room_11 (by decide) ?_
    exact rl_Gsub [0] rfl (rw_Mo_room_J15 Γ hO hr hk 1   σ h)
def rf_Mo_size_J48 (x1 : Int32) (x2 : Int32) (x3 : Int32) (s0 : Int32)  (σ : rl_M) : Option (Int32 × rl_M) := (if ((rl_su σ 59 0 s0) 59 0) ≤ 0 then (if rl_ib x1 6 = true then (if rl_ib ((4 * x1) + ((rl_su σ 59 0 s0) 60 x1.toNatClampNeg)) 24 = true then (if rl_ib x1 6 = true then (if rl_ib ((4 * x1) + ((rl_su (rl_su σ 59 0 s0) 61 ((4 * x1) + ((rl_su σ 59 0 s0) 60 x1.toNatClampNeg)).toNatClampNeg x2) 60 x1.toNatClampNeg)) 24 = true then (if rl_ib x1 6 = true then (if rl_ib x1 6 = true then (if rl_ib x1 6 = true then some (((rl_su (rl_su (rl_su (rl_su σ 59 0 s0) 61 ((4 * x1) + ((rl_su σ 59 0 s0) 60 x1.toNatClampNeg)).toNatClampNeg x2) 62 ((4 * x1) + ((rl_su (rl_su σ 59 0 s0) 61 ((4 * x1) + ((rl_su σ 59 0 s0) 60 x1.toNatClampNeg)).toNatClampNeg x2) 60 x1.toNatClampNeg)).toNatClampNeg x3) 60 x1.toNatClampNeg (((rl_su (rl_su (rl_su σ 59 0 s0) 61 ((4 * x1) + ((rl_su σ 59 0 s0) 60 x1.toNatClampNeg)).toNatClampNeg x2) 62 ((4 * x1) + ((rl_su (rl_su σ 59 0 s0) 61 ((4 * x1) + ((rl_su σ 59 0 s0) 60 x1.toNatClampNeg)).toNatClampNeg x2) 60 x1.toNatClampNeg)).toNatClampNeg x3) 60 x1.toNatClampNeg) + 1)) 60 x1.toNatClampNeg) - 1, rl_su (rl_su (rl_su (rl_su σ 59 0 s0) 61 ((4 * x1) + ((rl_su σ 59 0 s0) 60 x1.toNatClampNeg)).toNatClampNeg x2) 62 ((4 * x1) + ((rl_su (rl_su σ 59 0 s0) 61 ((4 * x1) + ((rl_su σ 59 0 s0) 60 x1.toNatClampNeg)).toNatClampNeg x2) 60 x1.toNatClampNeg)).toNatClampNeg x3) 60 x1.toNatClampNeg (((rl_su (rl_su (rl_su σ 59 0 s0) 61 ((4 * x1) + ((rl_su σ 59 0 s0) 60 x1.toNatClampNeg)).toNatClampNeg x2) 62 ((4 * x1) + ((rl_su (rl_su σ 59 0 s0) 61 ((4 * x1) + ((rl_su σ 59 0 s0) 60 x1.toNatClampNeg)).toNatClampNeg x2) 60 x1.toNatClampNeg)).toNatClampNeg x3) 60 x1.toNatClampNeg) + 1)) else none) else none) else none) else none) else none) else none) else none) else some (0, rl_su σ 59 0 s0))
def rf_Mo_size_J29 (x1 : Int32) (x2 : Int32) (x3 : Int32)  (σ : rl_M) : Option (Int32 × rl_M) := rf_Mo_size_J48 x1 x2 x3 1  σ
def rf_Mo_size (x1 : Int32) (x2 : Int32) (x3 : Int32) (σ : rl_M) : Option (Int32 × rl_M) := ((rf_Mo_isRoom x1 σ).bind (fun q1 => (if q1.1 = 0 then rf_Mo_size_J29 x1 x2 x3  q1.2 else ((rf_Mo_isIn x2 1 60 q1.2).bind (fun q11 => (if q11.1 = 0 then rf_Mo_size_J29 x1 x2 x3  q11.2 else ((rf_Mo_isIn x3 1 60 q11.2).bind (fun q13 => (if q13.1 = 0 then rf_Mo_size_J29 x1 x2 x3  q13.2 else (if rl_ib x1 6 = true then (if (q13.2 60 x1.toNatClampNeg) = 4 then rf_Mo_size_J48 x1 x2 x3 2  q13.2 else rf_Mo_size_J48 x1 x2 x3 0  q13.2) else none))))))))))
set_option maxHeartbeats 4000000 in
set_option maxRecDepth 100000 in
theorem rw_Mo_size_J48 {p : Program} {l : Launch} {e : Env} {s : State} {m : MethodId} {args : Array Value} {below : List Frame} {meth : Method} {c : Code} {E : rl_E} (Γ : CallFix p m c nc_Mo_size 4 s args rl_TT nR_Mo) (hO : rl_Ok E s) (hr : meth.sig.returnType = (some .int)) (hk : meth.locks = false)  (x1 : Int32) (x2 : Int32) (x3 : Int32) (s0 : Int32)   {r : Int32 × rl_M}  (σ : rl_M) (h : rf_Mo_size_J48 x1 x2 x3 s0  σ = some r) : rl_G p l e nr_Mo_size s m args below meth c 4 E 0 0 (rl_QM below args s E rl_ri r) σ 48 [(0, .ref (E.1 59)), (1, .int x1), (2, .int x2), (3, .int x3)] [.int s0, .ref (E.1 59)] := by
  unfold rf_Mo_size_J48 at h
  refine rl_put (pc := 48) Γ nd_Mo_size_48 hO (k := 0) (rl_o59 E) rfl (by decide) (fun _ _ => rfl) ⟨ni_Mo, nf_Mo_71⟩ nt_Mo nto_Mo nn_Mo rfl (fun _ => Nat.le_of_ble_eq_true rfl) rl_ni ?_
  refine rl_aload_n (pc := 51) Γ nd_Mo_size_51 0 rfl ?_
  refine rl_get (pc := 52) Γ nd_Mo_size_52 hO (k := 0) (rl_o59 E) rfl (by decide) rfl ⟨ni_Mo, nf_Mo_71⟩ ?_
  refine rl_if_le (tgt := 60) (pc := 55) Γ nd_Mo_size_55 (by decide) (fun q3 => ?_) (fun q3 => ?_)
  · have h := rl_ift q3 h
    refine rl_aload_n (pc := 60) Γ nd_Mo_size_60 0 rfl ?_
    refine rl_get (pc := 61) Γ nd_Mo_size_61 hO (k := 3) (rl_o59 E) rfl (by decide) rfl ⟨ni_Mo, nf_Mo_13⟩ ?_
    refine rl_iconst (v := 4) (pc := 64) Γ nd_Mo_size_64 (by decide) ?_
    refine rl_iload_n (pc := 65) Γ nd_Mo_size_65 1 rfl ?_
    refine rl_imul (pc := 66) Γ nd_Mo_size_66 ?_
    refine rl_aload_n (pc := 67) Γ nd_Mo_size_67 0 rfl ?_
    refine rl_get (pc := 68) Γ nd_Mo_size_68 hO (k := 2) (rl_o59 E) rfl (by decide) rfl ⟨ni_Mo, nf_Mo_7⟩ ?_
    refine rl_iload_n (pc := 71) Γ nd_Mo_size_71 1 rfl ?_
    obtain ⟨q4, h⟩ := rl_if h
    refine rl_ild (pc := 72) Γ nd_Mo_size_72 hO (rl_a60 E) (rl_ib_in q4) ?_
    refine rl_iadd (pc := 73) Γ nd_Mo_size_73 ?_
    refine rl_iload_n (pc := 74) Γ nd_Mo_size_74 2 rfl ?_
    obtain ⟨q5, h⟩ := rl_if h
    refine rl_ist (pc := 75) Γ nd_Mo_size_75 hO (rl_a61 E) (rl_ib_in q5) ?_
    refine rl_aload_n (pc := 76) Γ nd_Mo_size_76 0 rfl ?_
    refine rl_get (pc := 77) Γ nd_Mo_size_77 hO (k := 4) (rl_o59 E) rfl (by decide) rfl ⟨ni_Mo, nf_Mo_16⟩ ?_
    refine rl_iconst (v := 4) (pc := 80) Γ nd_Mo_size_80 (by decide) ?_
    refine rl_iload_n (pc := 81) Γ nd_Mo_size_81 1 rfl ?_
    refine rl_imul (pc := 82) Γ nd_Mo_size_82 ?_
    refine rl_aload_n (pc := 83) Γ nd_Mo_size_83 0 rfl ?_
    refine rl_get (pc := 84) Γ nd_Mo_size_84 hO (k := 2) (rl_o59 E) rfl (by decide) rfl ⟨ni_Mo, nf_Mo_7⟩ ?_
    refine rl_iload_n (pc := 87) Γ nd_Mo_size_87 1 rfl ?_
    obtain ⟨q6, h⟩ := rl_if h
    refine rl_ild (pc := 88) Γ nd_Mo_size_88 hO (rl_a60 E) (rl_ib_in q6) ?_
    refine rl_iadd (pc := 89) Γ nd_Mo_size_89 ?_
    refine rl_iload_n (pc := 90) Γ nd_Mo_size_90 3 rfl ?_
    obtain ⟨q7, h⟩ := rl_if h
    refine rl_ist (pc := 91) Γ nd_Mo_size_91 hO (rl_a62 E) (rl_ib_in q7) ?_
    refine rl_aload_n (pc := 92) Γ nd_Mo_size_92 0 rfl ?_
    refine rl_get (pc := 93) Γ nd_Mo_size_93 hO (k := 2) (rl_o59 E) rfl (by decide) rfl ⟨ni_Mo, nf_Mo_7⟩ ?_
    refine rl_iload_n (pc := 96) Γ nd_Mo_size_96 1 rfl ?_
    refine rl_dup2 (pc := 97) Γ nd_Mo_size_97 rfl rfl ?_
    obtain ⟨q8, h⟩ := rl_if h
    refine rl_ild (pc := 98) Γ nd_Mo_size_98 hO (rl_a60 E) (rl_ib_in q8) ?_
    refine rl_iconst (v := 1) (pc := 99) Γ nd_Mo_size_99 (by decide) ?_
    refine rl_iadd (pc := 100) Γ nd_Mo_size_100 ?_
    obtain ⟨q9, h⟩ := rl_if h
    refine rl_ist (pc := 101) Γ nd_Mo_size_101 hO (rl_a60 E) (rl_ib_in q9) ?_
    refine rl_aload_n (pc := 102) Γ nd_Mo_size_102 0 rfl ?_
    refine rl_get (pc := 103) Γ nd_Mo_size_103 hO (k := 2) (rl_o59 E) rfl (by decide) rfl ⟨ni_Mo, nf_Mo_7⟩ ?_
    refine rl_iload_n (pc := 106) Γ nd_Mo_size_106 1 rfl ?_
    obtain ⟨q10, h⟩ := rl_if h
    refine rl_ild (pc := 107) Γ nd_Mo_size_107 hO (rl_a60 E) (rl_ib_in q10) ?_
    refine rl_iconst (v := 1) (pc := 108) Γ nd_Mo_size_108 (by decide) ?_
    refine rl_isub (pc := 109) Γ nd_Mo_size_109 ?_
    exact rl_iret (pc := 110) Γ nd_Mo_size_110 hr hk h
  · have h := rl_iff q3 h
    refine rl_iconst (v := 0) (pc := 58) Γ nd_Mo_size_58 (by decide) ?_
    exact rl_iret (pc := 59) Γ nd_Mo_size_59 hr hk h
set_option maxHeartbeats 4000000 in
set_option maxRecDepth 100000 in
theorem rw_Mo_size_J29 {p : Program} {l : Launch} {e : Env} {s : State} {m : MethodId} {args : Array Value} {below : List Frame} {meth : Method} {c : Code} {E : rl_E} (Γ : CallFix p m c nc_Mo_size 4 s args rl_TT nR_Mo) (hO : rl_Ok E s) (hr : meth.sig.returnType = (some .int)) (hk : meth.locks = false)  (x1 : Int32) (x2 : Int32) (x3 : Int32)   {r : Int32 × rl_M}  (σ : rl_M) (h : rf_Mo_size_J29 x1 x2 x3  σ = some r) : rl_G p l e nr_Mo_size s m args below meth c 4 E 0 0 (rl_QM below args s E rl_ri r) σ 29 [(0, .ref (E.1 59)), (1, .int x1), (2, .int x2), (3, .int x3)] [.ref (E.1 59)] := by
  unfold rf_Mo_size_J29 at h
  refine rl_iconst (v := 1) (pc := 29) Γ nd_Mo_size_29 (by decide) ?_
  refine rl_goto (tgt := 48) (pc := 30) Γ nd_Mo_size_30 (by decide) ?_
  exact rl_Gsub [0, 1, 2, 3] rfl (rw_Mo_size_J48 Γ hO hr hk x1 x2 x3 1   σ h)
set_option maxHeartbeats 4000000 in
set_option maxRecDepth 100000 in
theorem rw_Mo_size (l : Launch) (E : rl_E) (x1 : Int32) (x2 : Int32) (x3 : Int32)  (σ : rl_M) (r : Int32 × rl_M) (h : rf_Mo_size x1 x2 x3 σ = some r) : Met l ny_Mo_size nw_Mo_size nr_Mo_size (rl_P E [.ref (E.1 59), .int x1, .int x2, .int x3] σ) (rl_Q E (rl_ri r.1) r.2) 0 0 (rl_A E) := by
  refine Met.ofW (cc := nc_Mo_size) (maxL := 4) (ret := (some .int)) (by decide) rfl ?_
  intro p e s m args below meth c s₁ B hml hv
  obtain ⟨rfl, hP, hO⟩ := hv
  have Γ : CallFix p m c nc_Mo_size 4 s ([.ref (E.1 59), .int x1, .int x2, .int x3] : List Value).toArray rl_TT nR_Mo := ⟨B.exec, B.bytes, hml, findClass_of_methodNamed B.named, fun w hw => atoms_spec (ws := nw_Mo_size) B.pre w (List.mem_cons_of_mem _ hw)⟩
  have hr := B.returns
  have hk := B.notSynchronized
  refine rl_start (R := nr_Mo_size) (Q := rl_QM below _ s E rl_ri r) (nL := 4) (av := [.ref (E.1 59), .int x1, .int x2, .int x3]) (σ := σ) hP (Nat.le_of_ble_eq_true rfl) ?_
  unfold rf_Mo_size at h
  refine rl_aload_n (pc := 0) Γ nd_Mo_size_0 0 rfl ?_
  refine rl_aload_n (pc := 1) Γ nd_Mo_size_1 0 rfl ?_
  refine rl_iload_n (pc := 2) Γ nd_Mo_size_2 1 rfl ?_
  obtain ⟨q1, q1h, h⟩ := rl_bd h
  refine rl_callVi (As := [.int x1]) (pc := 3) Γ nd_Mo_size_3 hO (rw_Mo_isRoom l E x1  σ q1 q1h) 1 nm_Mo_77 nm_im_Mo_isRoom nm_se_Mo_isRoom nm_ini_Mo nh_Mo_isRoom (rl_o59 E) rfl ⟨rfl, rfl⟩ (by decide +kernel) (Nat.le_of_ble_eq_true rfl) (Nat.le_of_ble_eq_true rfl) ⟨Nat.zero_le _, Nat.zero_le _⟩ (Nat.le_of_ble_eq_true rfl) rfl rfl ?_
  refine rl_if_eq (tgt := 29) (pc := 6) Γ nd_Mo_size_6 (by decide) (fun q2 => ?_) (fun q2 => ?_)
  · have h := rl_ift q2 h
    exact rl_Gsub [0, 1, 2, 3] rfl (rw_Mo_size_J29 Γ hO hr hk x1 x2 x3   q1.2 h)
  · have h := rl_iff q2 h
    refine rl_iload_n (pc := 9) Γ nd_Mo_size_9 2 rfl ?_
    refine rl_iconst (v := 1) (pc := 10) Γ nd_Mo_size_10 (by decide) ?_
    refine rl_bipush (v := 60) (pc := 11) Γ nd_Mo_size_11 (by decide) ?_
    obtain ⟨q11, q11h, h⟩ := rl_bd h
    refine rl_callSi (As := [.int x2, .int 1, .int 60]) (pc := 13) Γ nd_Mo_size_13 hO (rw_Mo_isIn l E x2 1 60  q1.2 q11 q11h) 3 nm_Mo_81 nm_st_Mo_isIn nm_ini_Mo nh_Mo_isIn ⟨rfl, rfl⟩ (by decide +kernel) (Nat.le_of_ble_eq_true rfl) (Nat.le_of_ble_eq_true rfl) ⟨Nat.zero_le _, Nat.zero_le _⟩ (Nat.le_of_ble_eq_true rfl) rfl rfl ?_
    refine rl_if_eq (tgt := 29) (pc := 16) Γ nd_Mo_size_16 (by decide) (fun q12 => ?_) (fun q12 => ?_)
    · have h := rl_ift q12 h
      exact rl_Gsub [0, 1, 2, 3] rfl (rw_Mo_size_J29 Γ hO hr hk x1 x2 x3   q11.2 h)
    · have h := rl_iff q12 h
      refine rl_iload_n (pc := 19) Γ nd_Mo_size_19 3 rfl ?_
      refine rl_iconst (v := 1) (pc := 20) Γ nd_Mo_size_20 (by decide) ?_
      refine rl_bipush (v := 60) (pc := 21) Γ nd_Mo_size_21 (by decide) ?_
      obtain ⟨q13, q13h, h⟩ := rl_bd h
      refine rl_callSi (As := [.int x3, .int 1, .int 60]) (pc := 23) Γ nd_Mo_size_23 hO (rw_Mo_isIn l E x3 1 60  q11.2 q13 q13h) 3 nm_Mo_81 nm_st_Mo_isIn nm_ini_Mo nh_Mo_isIn ⟨rfl, rfl⟩ (by decide +kernel) (Nat.le_of_ble_eq_true rfl) (Nat.le_of_ble_eq_true rfl) ⟨Nat.zero_le _, Nat.zero_le _⟩ (Nat.le_of_ble_eq_true rfl) rfl rfl ?_
      refine rl_if_ne (tgt := 33) (pc := 26) Γ nd_Mo_size_26 (by decide) (fun q14 => ?_) (fun q14 => ?_)
      · have h := rl_iff q14 h
        refine rl_aload_n (pc := 33) Γ nd_Mo_size_33 0 rfl ?_
        refine rl_get (pc := 34) Γ nd_Mo_size_34 hO (k := 2) (rl_o59 E) rfl (by decide) rfl ⟨ni_Mo, nf_Mo_7⟩ ?_
        refine rl_iload_n (pc := 37) Γ nd_Mo_size_37 1 rfl ?_
        obtain ⟨q15, h⟩ := rl_if h
        refine rl_ild (pc := 38) Γ nd_Mo_size_38 hO (rl_a60 E) (rl_ib_in q15) ?_
        refine rl_iconst (v := 4) (pc := 39) Γ nd_Mo_size_39 (by decide) ?_
        refine rl_icmp_ne (tgt := 47) (pc := 40) Γ nd_Mo_size_40 (by decide) (fun q16 => ?_) (fun q16 => ?_)
        · have h := rl_iff q16 h
          refine rl_iconst (v := 0) (pc := 47) Γ nd_Mo_size_47 (by decide) ?_
          exact rl_Gsub [0, 1, 2, 3] rfl (rw_Mo_size_J48 Γ hO hr hk x1 x2 x3 0   q13.2 h)
        · have h := rl_ift q16 h
          refine rl_iconst (v := 2) (pc := 43) Γ nd_Mo_size_43 (by decide) ?_
          refine rl_goto (tgt := 48) (pc := 44) Γ nd_Mo_size_44 (by decide) ?_
          exact rl_Gsub [0, 1, 2, 3] rfl (rw_Mo_size_J48 Γ hO hr hk x1 x2 x3 2   q13.2 h)
      · have h := rl_ift q14 h
        exact rl_Gsub [0, 1, 2, 3] rfl (rw_Mo_size_J29 Γ hO hr hk x1 x2 x3   q13.2 h)
def rf_Mo_lot_J28 (x1 : Int32) (x2 : Int32) (s0 : Int32)  (σ : rl_M) : Option (Int32 × rl_M) := (if ((rl_su σ 59 0 s0) 59 0) = 0 then some (0, rl_su (rl_su (rl_su σ 59 0 s0) 59 5 x1) 59 6 x2) else some (0, rl_su σ 59 0 s0))
def rf_Mo_lot_J27 (x1 : Int32) (x2 : Int32)  (σ : rl_M) : Option (Int32 × rl_M) := rf_Mo_lot_J28 x1 x2 1  σ
def rf_Mo_lot (x1 : Int32) (x2 : Int32) (σ : rl_M) : Option (Int32 × rl_M) := ((rf_Mo_isIn x1 1 400 σ).bind (fun q1 => (if q1.1 = 0 then rf_Mo_lot_J27 x1 x2  q1.2 else ((rf_Mo_isIn x2 1 400 q1.2).bind (fun q4 => (if q4.1 = 0 then rf_Mo_lot_J27 x1 x2  q4.2 else rf_Mo_lot_J28 x1 x2 0  q4.2))))))
set_option maxHeartbeats 4000000 in
set_option maxRecDepth 100000 in
theorem rw_Mo_lot_J28 {p : Program} {l : Launch} {e : Env} {s : State} {m : MethodId} {args : Array Value} {below : List Frame} {meth : Method} {c : Code} {E : rl_E} (Γ : CallFix p m c nc_Mo_lot 3 s args rl_TT nR_Mo) (hO : rl_Ok E s) (hr : meth.sig.returnType = none) (hk : meth.locks = false)  (x1 : Int32) (x2 : Int32) (s0 : Int32)   {r : Int32 × rl_M}  (σ : rl_M) (h : rf_Mo_lot_J28 x1 x2 s0  σ = some r) : rl_G p l e nr_Mo_lot s m args below meth c 3 E 0 0 (rl_QM below args s E rl_rv r) σ 28 [(0, .ref (E.1 59)), (1, .int x1), (2, .int x2)] [.int s0, .ref (E.1 59)] := by
  unfold rf_Mo_lot_J28 at h
  refine rl_put (pc := 28) Γ nd_Mo_lot_28 hO (k := 0) (rl_o59 E) rfl (by decide) (fun _ _ => rfl) ⟨ni_Mo, nf_Mo_71⟩ nt_Mo nto_Mo nn_Mo rfl (fun _ => Nat.le_of_ble_eq_true rfl) rl_ni ?_
  refine rl_aload_n (pc := 31) Γ nd_Mo_lot_31 0 rfl ?_
  refine rl_get (pc := 32) Γ nd_Mo_lot_32 hO (k := 0) (rl_o59 E) rfl (by decide) rfl ⟨ni_Mo, nf_Mo_71⟩ ?_
  refine rl_if_ne (tgt := 48) (pc := 35) Γ nd_Mo_lot_35 (by decide) (fun q3 => ?_) (fun q3 => ?_)
  · have h := rl_iff q3 h
    exact rl_vret (pc := 48) Γ nd_Mo_lot_48 hr hk h
  · have h := rl_ift q3 h
    refine rl_aload_n (pc := 38) Γ nd_Mo_lot_38 0 rfl ?_
    refine rl_iload_n (pc := 39) Γ nd_Mo_lot_39 1 rfl ?_
    refine rl_put (pc := 40) Γ nd_Mo_lot_40 hO (k := 5) (rl_o59 E) rfl (by decide) (fun _ _ => rfl) ⟨ni_Mo, nf_Mo_19⟩ nt_Mo nto_Mo nn_Mo rfl (fun _ => Nat.le_of_ble_eq_true rfl) rl_ni ?_
    refine rl_aload_n (pc := 43) Γ nd_Mo_lot_43 0 rfl ?_
    refine rl_iload_n (pc := 44) Γ nd_Mo_lot_44 2 rfl ?_
    refine rl_put (pc := 45) Γ nd_Mo_lot_45 hO (k := 6) (rl_o59 E) rfl (by decide) (fun _ _ => rfl) ⟨ni_Mo, nf_Mo_23⟩ nt_Mo nto_Mo nn_Mo rfl (fun _ => Nat.le_of_ble_eq_true rfl) rl_ni ?_
    exact rl_vret (pc := 48) Γ nd_Mo_lot_48 hr hk h
set_option maxHeartbeats 4000000 in
set_option maxRecDepth 100000 in
theorem rw_Mo_lot_J27 {p : Program} {l : Launch} {e : Env} {s : State} {m : MethodId} {args : Array Value} {below : List Frame} {meth : Method} {c : Code} {E : rl_E} (Γ : CallFix p m c nc_Mo_lot 3 s args rl_TT nR_Mo) (hO : rl_Ok E s) (hr : meth.sig.returnType = none) (hk : meth.locks = false)  (x1 : Int32) (x2 : Int32)   {r : Int32 × rl_M}  (σ : rl_M) (h : rf_Mo_lot_J27 x1 x2  σ = some r) : rl_G p l e nr_Mo_lot s m args below meth c 3 E 0 0 (rl_QM below args s E rl_rv r) σ 27 [(0, .ref (E.1 59)), (1, .int x1), (2, .int x2)] [.ref (E.1 59)] := by
  unfold rf_Mo_lot_J27 at h
  refine rl_iconst (v := 1) (pc := 27) Γ nd_Mo_lot_27 (by decide) ?_
  exact rl_Gsub [0, 1, 2] rfl (rw_Mo_lot_J28 Γ hO hr hk x1 x2 1   σ h)
set_option maxHeartbeats 4000000 in
set_option maxRecDepth 100000 in
theorem rw_Mo_lot (l : Launch) (E : rl_E) (x1 : Int32) (x2 : Int32)  (σ : rl_M) (r : Int32 × rl_M) (h : rf_Mo_lot x1 x2 σ = some r) : Met l ny_Mo_lot nw_Mo_lot nr_Mo_lot (rl_P E [.ref (E.1 59), .int x1, .int x2] σ) (rl_Q E (rl_rv r.1) r.2) 0 0 (rl_A E) := by
  refine Met.ofW (cc := nc_Mo_lot) (maxL := 3) (ret := none) (by decide) rfl ?_
  intro p e s m args below meth c s₁ B hml hv
  obtain ⟨rfl, hP, hO⟩ := hv
  have Γ : CallFix p m c nc_Mo_lot 3 s ([.ref (E.1 59), .int x1, .int x2] : List Value).toArray rl_TT nR_Mo := ⟨B.exec, B.bytes, hml, findClass_of_methodNamed B.named, fun w hw => atoms_spec (ws := nw_Mo_lot) B.pre w (List.mem_cons_of_mem _ hw)⟩
  have hr := B.returns
  have hk := B.notSynchronized
  refine rl_start (R := nr_Mo_lot) (Q := rl_QM below _ s E rl_rv r) (nL := 3) (av := [.ref (E.1 59), .int x1, .int x2]) (σ := σ) hP (Nat.le_of_ble_eq_true rfl) ?_
  unfold rf_Mo_lot at h
  refine rl_aload_n (pc := 0) Γ nd_Mo_lot_0 0 rfl ?_
  refine rl_iload_n (pc := 1) Γ nd_Mo_lot_1 1 rfl ?_
  refine rl_iconst (v := 1) (pc := 2) Γ nd_Mo_lot_2 (by decide) ?_
  refine rl_sipush (v := 400) (pc := 3) Γ nd_Mo_lot_3 (by decide) ?_
  obtain ⟨q1, q1h, h⟩ := rl_bd h
  refine rl_callSi (As := [.int x1, .int 1, .int 400]) (pc := 6) Γ nd_Mo_lot_6 hO (rw_Mo_isIn l E x1 1 400  σ q1 q1h) 3 nm_Mo_81 nm_st_Mo_isIn nm_ini_Mo nh_Mo_isIn ⟨rfl, rfl⟩ (by decide +kernel) (Nat.le_of_ble_eq_true rfl) (Nat.le_of_ble_eq_true rfl) ⟨Nat.zero_le _, Nat.zero_le _⟩ (Nat.le_of_ble_eq_true rfl) rfl rfl ?_
  refine rl_if_eq (tgt := 27) (pc := 9) Γ nd_Mo_lot_9 (by decide) (fun q2 => ?_) (fun q2 => ?_)
  · have h := rl_ift q2 h
    exact rl_Gsub [0, 1, 2] rfl (rw_Mo_lot_J27 Γ hO hr hk x1 x2   q1.2 h)
  · have h := rl_iff q2 h
    refine rl_iload_n (pc := 12) Γ nd_Mo_lot_12 2 rfl ?_
    refine rl_iconst (v := 1) (pc := 13) Γ nd_Mo_lot_13 (by decide) ?_
    refine rl_sipush (v := 400) (pc := 14) Γ nd_Mo_lot_14 (by decide) ?_
    obtain ⟨q4, q4h, h⟩ := rl_bd h
    refine rl_callSi (As := [.int x2, .int 1, .int 400]) (pc := 17) Γ nd_Mo_lot_17 hO (rw_Mo_isIn l E x2 1 400  q1.2 q4 q4h) 3 nm_Mo_81 nm_st_Mo_isIn nm_ini_Mo nh_Mo_isIn ⟨rfl, rfl⟩ (by decide +kernel) (Nat.le_of_ble_eq_true rfl) (Nat.le_of_ble_eq_true rfl) ⟨Nat.zero_le _, Nat.zero_le _⟩ (Nat.le_of_ble_eq_true rfl) rfl rfl ?_
    refine rl_if_eq (tgt := 27) (pc := 20) Γ nd_Mo_lot_20 (by decide) (fun q5 => ?_) (fun q5 => ?_)
    · have h := rl_ift q5 h
      exact rl_Gsub [0, 1, 2] rfl (rw_Mo_lot_J27 Γ hO hr hk x1 x2   q4.2 h)
    · have h := rl_iff q5 h
      refine rl_iconst (v := 0) (pc := 23) Γ nd_Mo_lot_23 (by decide) ?_
      refine rl_goto (tgt := 28) (pc := 24) Γ nd_Mo_lot_24 (by decide) ?_
      exact rl_Gsub [0, 1, 2] rfl (rw_Mo_lot_J28 Γ hO hr hk x1 x2 0   q4.2 h)
def rf_Mo_gather_L7 (l1 : Int64)  : Nat → Int32 → Int32 → rl_M → Option (Int32 × rl_M)
  | 0, _, _, _ => none
  | n + 1, x4, x5, σ => (if x5 < 0 then some (x4, σ) else (if (((l1 >>> (x5.toInt64 &&& 63)) &&& 255).toInt32) = 0 then rf_Mo_gather_L7 l1  n x4 (x5 + (-8)) σ else (if rl_ib x4 16 = true then rf_Mo_gather_L7 l1  n (x4 + 1) (x5 + (-8)) (rl_su σ 77 x4.toNatClampNeg (((l1 >>> (x5.toInt64 &&& 63)) &&& 255).toInt32)) else none)))
def rf_Mo_gather (l1 : Int64) (x3 : Int32) (σ : rl_M) : Option (Int32 × rl_M) := rf_Mo_gather_L7 l1  10000 x3 56 σ
set_option maxHeartbeats 4000000 in
set_option maxRecDepth 100000 in
theorem rw_Mo_gather_L7 {p : Program} {l : Launch} {e : Env} {s : State} {m : MethodId} {args : Array Value} {below : List Frame} {meth : Method} {c : Code} {E : rl_E} (Γ : CallFix p m c nc_Mo_gather 7 s args rl_TT nR_Mo) (hO : rl_Ok E s) (hr : meth.sig.returnType = (some .int)) (hk : meth.locks = false) (l1 : Int64)   {r : Int32 × rl_M}  : ∀ (n : Nat) (x4 : Int32) (x5 : Int32) (σ : rl_M), rf_Mo_gather_L7 l1  n x4 x5 σ = some r → rl_G p l e nr_Mo_gather s m args below meth c 7 E 0 0 (rl_QM below args s E rl_ri r) σ 7 [(0, .ref (E.1 59)), (1, .long l1), (4, .int x4), (5, .int x5)] [] := by
  intro n
  induction n with
  | zero =>
    intro x4 x5 σ h
    exact (rl_ns (show none = some r from h)).elim
  | succ n ih =>
    intro x4 x5 σ h
    unfold rf_Mo_gather_L7 at h
    refine rl_iload (pc := 7) Γ nd_Mo_gather_7 3 rfl ?_
    refine rl_if_lt (tgt := 46) (pc := 9) Γ nd_Mo_gather_9 (by decide) (fun q1 => ?_) (fun q1 => ?_)
    · have h := rl_ift q1 h
      refine rl_iload (pc := 46) Γ nd_Mo_gather_46 2 rfl ?_
      exact rl_iret (pc := 48) Γ nd_Mo_gather_48 hr hk h
    · have h := rl_iff q1 h
      refine rl_lload_n (pc := 12) Γ nd_Mo_gather_12 1 rfl ?_
      refine rl_iload (pc := 13) Γ nd_Mo_gather_13 3 rfl ?_
      refine rl_lshr (pc := 15) Γ nd_Mo_gather_15 ?_
      refine rl_ldc2 (v := 255) (pc := 16) Γ nd_Mo_gather_16 nk_Mo_85 ?_
      refine rl_land (pc := 19) Γ nd_Mo_gather_19 ?_
      refine rl_l2i (pc := 20) Γ nd_Mo_gather_20 ?_
      refine rl_istore (L' := [(6, .int (((l1 >>> (x5.toInt64 &&& 63)) &&& 255).toInt32)), (0, .ref (E.1 59)), (1, .long l1), (4, .int x4), (5, .int x5)]) (pc := 21) Γ nd_Mo_gather_21 (by decide) rfl ?_
      refine rl_iload (pc := 23) Γ nd_Mo_gather_23 0 rfl ?_
      refine rl_if_eq (tgt := 40) (pc := 25) Γ nd_Mo_gather_25 (by decide) (fun q2 => ?_) (fun q2 => ?_)
      · have h := rl_ift q2 h
        refine rl_iinc (v := x5 + (-8)) (L' := [(5, .int (x5 + (-8))), (6, .int (((l1 >>> (x5.toInt64 &&& 63)) &&& 255).toInt32)), (0, .ref (E.1 59)), (1, .long l1), (4, .int x4)]) (pc := 40) Γ nd_Mo_gather_40 4 rfl rfl (by decide) rfl ?_
        refine rl_goto (tgt := 7) (pc := 43) Γ nd_Mo_gather_43 (by decide) ?_
        exact rl_Gsub [2, 3, 4, 0] rfl (ih x4 (x5 + (-8)) σ h)
      · have h := rl_iff q2 h
        refine rl_aload_n (pc := 28) Γ nd_Mo_gather_28 1 rfl ?_
        refine rl_get (pc := 29) Γ nd_Mo_gather_29 hO (k := 26) (rl_o59 E) rfl (by decide) rfl ⟨ni_Mo, nf_Mo_68⟩ ?_
        refine rl_iload (pc := 32) Γ nd_Mo_gather_32 3 rfl ?_
        refine rl_iload (pc := 34) Γ nd_Mo_gather_34 0 rfl ?_
        obtain ⟨q3, h⟩ := rl_if h
        refine rl_ist (pc := 36) Γ nd_Mo_gather_36 hO (rl_a77 E) (rl_ib_in q3) ?_
        refine rl_iinc (v := x4 + 1) (L' := [(4, .int (x4 + 1)), (6, .int (((l1 >>> (x5.toInt64 &&& 63)) &&& 255).toInt32)), (0, .ref (E.1 59)), (1, .long l1), (5, .int x5)]) (pc := 37) Γ nd_Mo_gather_37 3 rfl rfl (by decide) rfl ?_
        refine rl_iinc (v := x5 + (-8)) (L' := [(5, .int (x5 + (-8))), (4, .int (x4 + 1)), (6, .int (((l1 >>> (x5.toInt64 &&& 63)) &&& 255).toInt32)), (0, .ref (E.1 59)), (1, .long l1)]) (pc := 40) Γ nd_Mo_gather_40 4 rfl rfl (by decide) rfl ?_
        refine rl_goto (tgt := 7) (pc := 43) Γ nd_Mo_gather_43 (by decide) ?_
        exact rl_Gsub [3, 4, 1, 0] rfl (ih (x4 + 1) (x5 + (-8)) (rl_su σ 77 x4.toNatClampNeg (((l1 >>> (x5.toInt64 &&& 63)) &&& 255).toInt32)) h)
set_option maxHeartbeats 4000000 in
set_option maxRecDepth 100000 in
theorem rw_Mo_gather (l : Launch) (E : rl_E) (l1 : Int64) (x3 : Int32)  (σ : rl_M) (r : Int32 × rl_M) (h : rf_Mo_gather l1 x3 σ = some r) : Met l ny_Mo_gather nw_Mo_gather nr_Mo_gather (rl_P E [.ref (E.1 59), .long l1, .int x3] σ) (rl_Q E (rl_ri r.1) r.2) 0 0 (rl_A E) := by
  refine Met.ofW (cc := nc_Mo_gather) (maxL := 7) (ret := (some .int)) (by decide) rfl ?_
  intro p e s m args below meth c s₁ B hml hv
  obtain ⟨rfl, hP, hO⟩ := hv
  have Γ : CallFix p m c nc_Mo_gather 7 s ([.ref (E.1 59), .long l1, .int x3] : List Value).toArray rl_TT nR_Mo := ⟨B.exec, B.bytes, hml, findClass_of_methodNamed B.named, fun w hw => atoms_spec (ws := nw_Mo_gather) B.pre w (List.mem_cons_of_mem _ hw)⟩
  have hr := B.returns
  have hk := B.notSynchronized
  refine rl_start (R := nr_Mo_gather) (Q := rl_QM below _ s E rl_ri r) (nL := 7) (av := [.ref (E.1 59), .long l1, .int x3]) (σ := σ) hP (Nat.le_of_ble_eq_true rfl) ?_
  unfold rf_Mo_gather at h
  refine rl_iload_n (pc := 0) Γ nd_Mo_gather_0 2 rfl ?_
  refine rl_istore (L' := [(4, .int x3), (0, .ref (E.1 59)), (1, .long l1), (3, .int x3)]) (pc := 1) Γ nd_Mo_gather_1 (by decide) rfl ?_
  refine rl_bipush (v := 56) (pc := 3) Γ nd_Mo_gather_3 (by decide) ?_
  refine rl_istore (L' := [(5, .int 56), (4, .int x3), (0, .ref (E.1 59)), (1, .long l1), (3, .int x3)]) (pc := 5) Γ nd_Mo_gather_5 (by decide) rfl ?_
  refine rl_Gsub [2, 3, 1, 0] rfl (rw_Mo_gather_L7 Γ hO hr hk l1    10000 x3 56 σ h)
def rf_Mo_order_L27 (x5 : Int32) (K136 : Int32 → rl_M → Option (Int32 × rl_M)) : Nat → Int32 → Int32 → Int32 → rl_M → Option (Int32 × rl_M)
  | 0, _, _, _, _ => none
  | n + 1, x6, x7, x8, σ => (if x5 ≤ x8 then K136 x6 σ else (if rl_ib x8 16 = true then (if rl_ib x8 16 = true then (if (σ 77 x8.toNatClampNeg) = 124 then (if 2 ≤ x6 then rf_Mo_order_L27 x5 K136 n (x6 + (-1)) x7 (x8 + 1) σ else some (x8, σ)) else (if rl_ib x8 16 = true then (if (σ 77 x8.toNatClampNeg) = 45 then (if 2 ≤ x6 then rf_Mo_order_L27 x5 K136 n (x6 + (-1)) x7 (x8 + 1) σ else some (x8, σ)) else ((rf_Mo_isRoom ((σ 77 x8.toNatClampNeg) - 48) σ).bind (fun q10 => (if q10.1 = 0 then some (x8, q10.2) else (if rl_ib ((σ 77 x8.toNatClampNeg) - 48) 6 = true then (if (q10.2 60 ((σ 77 x8.toNatClampNeg) - 48).toNatClampNeg) = 0 then some (x8, q10.2) else (if ((x7 >>> (((σ 77 x8.toNatClampNeg) - 48) &&& 31)) &&& 1) = 1 then some (x8, q10.2) else rf_Mo_order_L27 x5 K136 n (x6 + 1) (x7 ||| (1 <<< (((σ 77 x8.toNatClampNeg) - 48) &&& 31))) (x8 + 1) q10.2)) else none))))) else none)) else none) else none))
def rf_Mo_order_L154 (x5 : Int32)  : Nat → Int32 → rl_M → Option (Int32 × rl_M)
  | 0, _, _ => none
  | n + 1, x8, σ => (if x5 ≤ x8 then some ((-1), σ) else (if rl_ib x8 16 = true then (if rl_ib x8 16 = true then rf_Mo_order_L154 x5  n (x8 + 1) (rl_su σ 63 x8.toNatClampNeg (σ 77 x8.toNatClampNeg)) else none) else none))
def rf_Mo_order (l1 : Int64) (l3 : Int64) (σ : rl_M) : Option (Int32 × rl_M) := ((rf_Mo_gather l1 0 (rl_su σ 59 0 0)).bind (fun q1 => ((rf_Mo_gather l3 q1.1 q1.2).bind (fun q2 => rf_Mo_order_L27 q2.1 (fun (q16y6 : Int32) (q16m : rl_M) => (if q16y6 = 1 then rf_Mo_order_L154 q2.1  10000 0 (rl_su q16m 59 7 q2.1) else some (q2.1, q16m))) 10000 0 0 0 q2.2))))
set_option maxHeartbeats 4000000 in
set_option maxRecDepth 100000 in
theorem rw_Mo_order_L27 {p : Program} {l : Launch} {e : Env} {s : State} {m : MethodId} {args : Array Value} {below : List Frame} {meth : Method} {c : Code} {E : rl_E} (Γ : CallFix p m c nc_Mo_order 10 s args rl_TT nR_Mo) (hO : rl_Ok E s) (hr : meth.sig.returnType = (some .int)) (hk : meth.locks = false) (x5 : Int32)  (K136 : Int32 → rl_M → Option (Int32 × rl_M)) {r : Int32 × rl_M} (hK136 : ∀ (y6 : Int32) (σ : rl_M), K136 y6 σ = some r → rl_G p l e nr_Mo_order s m args below meth c 10 E 0 0 (rl_QM below args s E rl_ri r) σ 136 [(0, .ref (E.1 59)), (5, .int x5), (6, .int y6)] []) : ∀ (n : Nat) (x6 : Int32) (x7 : Int32) (x8 : Int32) (σ : rl_M), rf_Mo_order_L27 x5 K136 n x6 x7 x8 σ = some r → rl_G p l e nr_Mo_order s m args below meth c 10 E 0 0 (rl_QM below args s E rl_ri r) σ 27 [(0, .ref (E.1 59)), (5, .int x5), (6, .int x6), (7, .int x7), (8, .int x8)] [] := by
  intro n
  induction n with
  | zero =>
    intro x6 x7 x8 σ h
    exact (rl_ns (show none = some r from h)).elim
  | succ n ih =>
    intro x6 x7 x8 σ h
    unfold rf_Mo_order_L27 at h
    refine rl_iload (pc := 27) Γ nd_Mo_order_27 4 rfl ?_
    refine rl_iload (pc := 29) Γ nd_Mo_order_29 1 rfl ?_
    refine rl_icmp_ge (tgt := 136) (pc := 31) Γ nd_Mo_order_31 (by decide) (fun q3 => ?_) (fun q3 => ?_)
    · have h := rl_ift q3 h
      exact rl_Gsub [0, 1, 2] rfl (hK136 x6 σ h)
    · have h := rl_iff q3 h
      refine rl_aload_n (pc := 34) Γ nd_Mo_order_34 0 rfl ?_
      refine rl_get (pc := 35) Γ nd_Mo_order_35 hO (k := 26) (rl_o59 E) rfl (by decide) rfl ⟨ni_Mo, nf_Mo_68⟩ ?_
      refine rl_iload (pc := 38) Γ nd_Mo_order_38 4 rfl ?_
      obtain ⟨q4, h⟩ := rl_if h
      refine rl_ild (pc := 40) Γ nd_Mo_order_40 hO (rl_a77 E) (rl_ib_in q4) ?_
      refine rl_bipush (v := 48) (pc := 41) Γ nd_Mo_order_41 (by decide) ?_
      refine rl_isub (pc := 43) Γ nd_Mo_order_43 ?_
      refine rl_istore (L' := [(9, .int ((σ 77 x8.toNatClampNeg) - 48)), (0, .ref (E.1 59)), (5, .int x5), (6, .int x6), (7, .int x7), (8, .int x8)]) (pc := 44) Γ nd_Mo_order_44 (by decide) rfl ?_
      refine rl_aload_n (pc := 46) Γ nd_Mo_order_46 1 rfl ?_
      refine rl_get (pc := 47) Γ nd_Mo_order_47 hO (k := 26) (rl_o59 E) rfl (by decide) rfl ⟨ni_Mo, nf_Mo_68⟩ ?_
      refine rl_iload (pc := 50) Γ nd_Mo_order_50 5 rfl ?_
      obtain ⟨q5, h⟩ := rl_if h
      refine rl_ild (pc := 52) Γ nd_Mo_order_52 hO (rl_a77 E) (rl_ib_in q5) ?_
      refine rl_bipush (v := 124) (pc := 53) Γ nd_Mo_order_53 (by decide) ?_
      refine rl_icmp_eq (tgt := 70) (pc := 55) Γ nd_Mo_order_55 (by decide) (fun q6 => ?_) (fun q6 => ?_)
      · have h := rl_ift q6 h
        refine rl_iload (pc := 70) Γ nd_Mo_order_70 3 rfl ?_
        refine rl_iconst (v := 2) (pc := 72) Γ nd_Mo_order_72 (by decide) ?_
        refine rl_icmp_ge (tgt := 79) (pc := 73) Γ nd_Mo_order_73 (by decide) (fun q7 => ?_) (fun q7 => ?_)
        · have h := rl_ift q7 h
          refine rl_iinc (v := x6 + (-1)) (L' := [(6, .int (x6 + (-1))), (9, .int ((σ 77 x8.toNatClampNeg) - 48)), (0, .ref (E.1 59)), (5, .int x5), (7, .int x7), (8, .int x8)]) (pc := 79) Γ nd_Mo_order_79 3 rfl rfl (by decide) rfl ?_
          refine rl_goto (tgt := 130) (pc := 82) Γ nd_Mo_order_82 (by decide) ?_
          refine rl_iinc (v := x8 + 1) (L' := [(8, .int (x8 + 1)), (6, .int (x6 + (-1))), (9, .int ((σ 77 x8.toNatClampNeg) - 48)), (0, .ref (E.1 59)), (5, .int x5), (7, .int x7)]) (pc := 130) Γ nd_Mo_order_130 5 rfl rfl (by decide) rfl ?_
          refine rl_goto (tgt := 27) (pc := 133) Γ nd_Mo_order_133 (by decide) ?_
          exact rl_Gsub [3, 4, 1, 5, 0] rfl (ih (x6 + (-1)) x7 (x8 + 1) σ h)
        · have h := rl_iff q7 h
          refine rl_iload (pc := 76) Γ nd_Mo_order_76 5 rfl ?_
          exact rl_iret (pc := 78) Γ nd_Mo_order_78 hr hk h
      · have h := rl_iff q6 h
        refine rl_aload_n (pc := 58) Γ nd_Mo_order_58 1 rfl ?_
        refine rl_get (pc := 59) Γ nd_Mo_order_59 hO (k := 26) (rl_o59 E) rfl (by decide) rfl ⟨ni_Mo, nf_Mo_68⟩ ?_
        refine rl_iload (pc := 62) Γ nd_Mo_order_62 5 rfl ?_
        obtain ⟨q8, h⟩ := rl_if h
        refine rl_ild (pc := 64) Γ nd_Mo_order_64 hO (rl_a77 E) (rl_ib_in q8) ?_
        refine rl_bipush (v := 45) (pc := 65) Γ nd_Mo_order_65 (by decide) ?_
        refine rl_icmp_ne (tgt := 85) (pc := 67) Γ nd_Mo_order_67 (by decide) (fun q9 => ?_) (fun q9 => ?_)
        · have h := rl_iff q9 h
          refine rl_aload_n (pc := 85) Γ nd_Mo_order_85 1 rfl ?_
          refine rl_iload (pc := 86) Γ nd_Mo_order_86 0 rfl ?_
          obtain ⟨q10, q10h, h⟩ := rl_bd h
          refine rl_callVi (As := [.int ((σ 77 x8.toNatClampNeg) - 48)]) (pc := 88) Γ nd_Mo_order_88 hO (rw_Mo_isRoom l E ((σ 77 x8.toNatClampNeg) - 48)  σ q10 q10h) 1 nm_Mo_77 nm_im_Mo_isRoom nm_se_Mo_isRoom nm_ini_Mo nh_Mo_isRoom (rl_o59 E) rfl ⟨rfl, rfl⟩ (by decide +kernel) (Nat.le_of_ble_eq_true rfl) (Nat.le_of_ble_eq_true rfl) ⟨Nat.zero_le _, Nat.zero_le _⟩ (Nat.le_of_ble_eq_true rfl) rfl rfl ?_
          refine rl_if_eq (tgt := 115) (pc := 91) Γ nd_Mo_order_91 (by decide) (fun q11 => ?_) (fun q11 => ?_)
          · have h := rl_ift q11 h
            refine rl_iload (pc := 115) Γ nd_Mo_order_115 5 rfl ?_
            exact rl_iret (pc := 117) Γ nd_Mo_order_117 hr hk h
          · have h := rl_iff q11 h
            refine rl_aload_n (pc := 94) Γ nd_Mo_order_94 1 rfl ?_
            refine rl_get (pc := 95) Γ nd_Mo_order_95 hO (k := 2) (rl_o59 E) rfl (by decide) rfl ⟨ni_Mo, nf_Mo_7⟩ ?_
            refine rl_iload (pc := 98) Γ nd_Mo_order_98 0 rfl ?_
            obtain ⟨q12, h⟩ := rl_if h
            refine rl_ild (pc := 100) Γ nd_Mo_order_100 hO (rl_a60 E) (rl_ib_in q12) ?_
            refine rl_if_eq (tgt := 115) (pc := 101) Γ nd_Mo_order_101 (by decide) (fun q13 => ?_) (fun q13 => ?_)
            · have h := rl_ift q13 h
              refine rl_iload (pc := 115) Γ nd_Mo_order_115 5 rfl ?_
              exact rl_iret (pc := 117) Γ nd_Mo_order_117 hr hk h
            · have h := rl_iff q13 h
              refine rl_iload (pc := 104) Γ nd_Mo_order_104 4 rfl ?_
              refine rl_iload (pc := 106) Γ nd_Mo_order_106 0 rfl ?_
              refine rl_ishr (pc := 108) Γ nd_Mo_order_108 ?_
              refine rl_iconst (v := 1) (pc := 109) Γ nd_Mo_order_109 (by decide) ?_
              refine rl_iand (pc := 110) Γ nd_Mo_order_110 ?_
              refine rl_iconst (v := 1) (pc := 111) Γ nd_Mo_order_111 (by decide) ?_
              refine rl_icmp_ne (tgt := 118) (pc := 112) Γ nd_Mo_order_112 (by decide) (fun q14 => ?_) (fun q14 => ?_)
              · have h := rl_iff q14 h
                refine rl_iload (pc := 118) Γ nd_Mo_order_118 4 rfl ?_
                refine rl_iconst (v := 1) (pc := 120) Γ nd_Mo_order_120 (by decide) ?_
                refine rl_iload (pc := 121) Γ nd_Mo_order_121 0 rfl ?_
                refine rl_ishl (pc := 123) Γ nd_Mo_order_123 ?_
                refine rl_ior (pc := 124) Γ nd_Mo_order_124 ?_
                refine rl_istore (L' := [(7, .int (x7 ||| (1 <<< (((σ 77 x8.toNatClampNeg) - 48) &&& 31)))), (9, .int ((σ 77 x8.toNatClampNeg) - 48)), (0, .ref (E.1 59)), (5, .int x5), (6, .int x6), (8, .int x8)]) (pc := 125) Γ nd_Mo_order_125 (by decide) rfl ?_
                refine rl_iinc (v := x6 + 1) (L' := [(6, .int (x6 + 1)), (7, .int (x7 ||| (1 <<< (((σ 77 x8.toNatClampNeg) - 48) &&& 31)))), (9, .int ((σ 77 x8.toNatClampNeg) - 48)), (0, .ref (E.1 59)), (5, .int x5), (8, .int x8)]) (pc := 127) Γ nd_Mo_order_127 4 rfl rfl (by decide) rfl ?_
                refine rl_iinc (v := x8 + 1) (L' := [(8, .int (x8 + 1)), (6, .int (x6 + 1)), (7, .int (x7 ||| (1 <<< (((σ 77 x8.toNatClampNeg) - 48) &&& 31)))), (9, .int ((σ 77 x8.toNatClampNeg) - 48)), (0, .ref (E.1 59)), (5, .int x5)]) (pc := 130) Γ nd_Mo_order_130 5 rfl rfl (by decide) rfl ?_
                refine rl_goto (tgt := 27) (pc := 133) Γ nd_Mo_order_133 (by decide) ?_
                exact rl_Gsub [4, 5, 1, 2, 0] rfl (ih (x6 + 1) (x7 ||| (1 <<< (((σ 77 x8.toNatClampNeg) - 48) &&& 31))) (x8 + 1) q10.2 h)
              · have h := rl_ift q14 h
                refine rl_iload (pc := 115) Γ nd_Mo_order_115 5 rfl ?_
                exact rl_iret (pc := 117) Γ nd_Mo_order_117 hr hk h
        · have h := rl_ift q9 h
          refine rl_iload (pc := 70) Γ nd_Mo_order_70 3 rfl ?_
          refine rl_iconst (v := 2) (pc := 72) Γ nd_Mo_order_72 (by decide) ?_
          refine rl_icmp_ge (tgt := 79) (pc := 73) Γ nd_Mo_order_73 (by decide) (fun q15 => ?_) (fun q15 => ?_)
          · have h := rl_ift q15 h
            refine rl_iinc (v := x6 + (-1)) (L' := [(6, .int (x6 + (-1))), (9, .int ((σ 77 x8.toNatClampNeg) - 48)), (0, .ref (E.1 59)), (5, .int x5), (7, .int x7), (8, .int x8)]) (pc := 79) Γ nd_Mo_order_79 3 rfl rfl (by decide) rfl ?_
            refine rl_goto (tgt := 130) (pc := 82) Γ nd_Mo_order_82 (by decide) ?_
            refine rl_iinc (v := x8 + 1) (L' := [(8, .int (x8 + 1)), (6, .int (x6 + (-1))), (9, .int ((σ 77 x8.toNatClampNeg) - 48)), (0, .ref (E.1 59)), (5, .int x5), (7, .int x7)]) (pc := 130) Γ nd_Mo_order_130 5 rfl rfl (by decide) rfl ?_
            refine rl_goto (tgt := 27) (pc := 133) Γ nd_Mo_order_133 (by decide) ?_
            exact rl_Gsub [3, 4, 1, 5, 0] rfl (ih (x6 + (-1)) x7 (x8 + 1) σ h)
          · have h := rl_iff q15 h
            refine rl_iload (pc := 76) Γ nd_Mo_order_76 5 rfl ?_
            exact rl_iret (pc := 78) Γ nd_Mo_order_78 hr hk h
set_option maxHeartbeats 4000000 in
set_option maxRecDepth 100000 in
theorem rw_Mo_order_L154 {p : Program} {l : Launch} {e : Env} {s : State} {m : MethodId} {args : Array Value} {below : List Frame} {meth : Method} {c : Code} {E : rl_E} (Γ : CallFix p m c nc_Mo_order 10 s args rl_TT nR_Mo) (hO : rl_Ok E s) (hr : meth.sig.returnType = (some .int)) (hk : meth.locks = false) (x5 : Int32)   {r : Int32 × rl_M}  : ∀ (n : Nat) (x8 : Int32) (σ : rl_M), rf_Mo_order_L154 x5  n x8 σ = some r → rl_G p l e nr_Mo_order s m args below meth c 10 E 0 0 (rl_QM below args s E rl_ri r) σ 154 [(0, .ref (E.1 59)), (5, .int x5), (8, .int x8)] [] := by
  intro n
  induction n with
  | zero =>
    intro x8 σ h
    exact (rl_ns (show none = some r from h)).elim
  | succ n ih =>
    intro x8 σ h
    unfold rf_Mo_order_L154 at h
    refine rl_iload (pc := 154) Γ nd_Mo_order_154 2 rfl ?_
    refine rl_iload (pc := 156) Γ nd_Mo_order_156 1 rfl ?_
    refine rl_icmp_ge (tgt := 181) (pc := 158) Γ nd_Mo_order_158 (by decide) (fun q18 => ?_) (fun q18 => ?_)
    · have h := rl_ift q18 h
      refine rl_iconst (v := (-1)) (pc := 181) Γ nd_Mo_order_181 (by decide) ?_
      exact rl_iret (pc := 182) Γ nd_Mo_order_182 hr hk h
    · have h := rl_iff q18 h
      refine rl_aload_n (pc := 161) Γ nd_Mo_order_161 0 rfl ?_
      refine rl_get (pc := 162) Γ nd_Mo_order_162 hO (k := 8) (rl_o59 E) rfl (by decide) rfl ⟨ni_Mo, nf_Mo_26⟩ ?_
      refine rl_iload (pc := 165) Γ nd_Mo_order_165 2 rfl ?_
      refine rl_aload_n (pc := 167) Γ nd_Mo_order_167 0 rfl ?_
      refine rl_get (pc := 168) Γ nd_Mo_order_168 hO (k := 26) (rl_o59 E) rfl (by decide) rfl ⟨ni_Mo, nf_Mo_68⟩ ?_
      refine rl_iload (pc := 171) Γ nd_Mo_order_171 2 rfl ?_
      obtain ⟨q19, h⟩ := rl_if h
      refine rl_ild (pc := 173) Γ nd_Mo_order_173 hO (rl_a77 E) (rl_ib_in q19) ?_
      obtain ⟨q20, h⟩ := rl_if h
      refine rl_ist (pc := 174) Γ nd_Mo_order_174 hO (rl_a63 E) (rl_ib_in q20) ?_
      refine rl_iinc (v := x8 + 1) (L' := [(8, .int (x8 + 1)), (0, .ref (E.1 59)), (5, .int x5)]) (pc := 175) Γ nd_Mo_order_175 2 rfl rfl (by decide) rfl ?_
      refine rl_goto (tgt := 154) (pc := 178) Γ nd_Mo_order_178 (by decide) ?_
      exact rl_Gsub [1, 2, 0] rfl (ih (x8 + 1) (rl_su σ 63 x8.toNatClampNeg (σ 77 x8.toNatClampNeg)) h)
set_option maxHeartbeats 4000000 in
set_option maxRecDepth 100000 in
theorem rw_Mo_order (l : Launch) (E : rl_E) (l1 : Int64) (l3 : Int64)  (σ : rl_M) (r : Int32 × rl_M) (h : rf_Mo_order l1 l3 σ = some r) : Met l ny_Mo_order nw_Mo_order nr_Mo_order (rl_P E [.ref (E.1 59), .long l1, .long l3] σ) (rl_Q E (rl_ri r.1) r.2) 0 0 (rl_A E) := by
  refine Met.ofW (cc := nc_Mo_order) (maxL := 10) (ret := (some .int)) (by decide) rfl ?_
  intro p e s m args below meth c s₁ B hml hv
  obtain ⟨rfl, hP, hO⟩ := hv
  have Γ : CallFix p m c nc_Mo_order 10 s ([.ref (E.1 59), .long l1, .long l3] : List Value).toArray rl_TT nR_Mo := ⟨B.exec, B.bytes, hml, findClass_of_methodNamed B.named, fun w hw => atoms_spec (ws := nw_Mo_order) B.pre w (List.mem_cons_of_mem _ hw)⟩
  have hr := B.returns
  have hk := B.notSynchronized
  refine rl_start (R := nr_Mo_order) (Q := rl_QM below _ s E rl_ri r) (nL := 10) (av := [.ref (E.1 59), .long l1, .long l3]) (σ := σ) hP (Nat.le_of_ble_eq_true rfl) ?_
  unfold rf_Mo_order at h
  refine rl_aload_n (pc := 0) Γ nd_Mo_order_0 0 rfl ?_
  refine rl_iconst (v := 0) (pc := 1) Γ nd_Mo_order_1 (by decide) ?_
  refine rl_put (pc := 2) Γ nd_Mo_order_2 hO (k := 0) (rl_o59 E) rfl (by decide) (fun _ _ => rfl) ⟨ni_Mo, nf_Mo_71⟩ nt_Mo nto_Mo nn_Mo rfl (fun _ => Nat.le_of_ble_eq_true rfl) rl_ni ?_
  refine rl_aload_n (pc := 5) Γ nd_Mo_order_5 0 rfl ?_
  refine rl_lload_n (pc := 6) Γ nd_Mo_order_6 2 rfl ?_
  refine rl_aload_n (pc := 7) Γ nd_Mo_order_7 0 rfl ?_
  refine rl_lload_n (pc := 8) Γ nd_Mo_order_8 1 rfl ?_
  refine rl_iconst (v := 0) (pc := 9) Γ nd_Mo_order_9 (by decide) ?_
  obtain ⟨q1, q1h, h⟩ := rl_bd h
  refine rl_callVi (As := [.long l1, .int 0]) (pc := 10) Γ nd_Mo_order_10 hO (rw_Mo_gather l E l1 0  (rl_su σ 59 0 0) q1 q1h) 2 nm_Mo_87 nm_im_Mo_gather nm_se_Mo_gather nm_ini_Mo nh_Mo_gather (rl_o59 E) rfl ⟨rfl, rfl⟩ (by decide +kernel) (Nat.le_of_ble_eq_true rfl) (Nat.le_of_ble_eq_true rfl) ⟨Nat.zero_le _, Nat.zero_le _⟩ (Nat.le_of_ble_eq_true rfl) rfl rfl ?_
  obtain ⟨q2, q2h, h⟩ := rl_bd h
  refine rl_callVi (As := [.long l3, .int q1.1]) (pc := 13) Γ nd_Mo_order_13 hO (rw_Mo_gather l E l3 q1.1  q1.2 q2 q2h) 2 nm_Mo_87 nm_im_Mo_gather nm_se_Mo_gather nm_ini_Mo nh_Mo_gather (rl_o59 E) rfl ⟨rfl, rfl⟩ (by decide +kernel) (Nat.le_of_ble_eq_true rfl) (Nat.le_of_ble_eq_true rfl) ⟨Nat.zero_le _, Nat.zero_le _⟩ (Nat.le_of_ble_eq_true rfl) rfl rfl ?_
  refine rl_istore (L' := [(5, .int q2.1), (0, .ref (E.1 59)), (1, .long l1), (3, .long l3)]) (pc := 16) Γ nd_Mo_order_16 (by decide) rfl ?_
  refine rl_iconst (v := 0) (pc := 18) Γ nd_Mo_order_18 (by decide) ?_
  refine rl_istore (L' := [(6, .int 0), (5, .int q2.1), (0, .ref (E.1 59)), (1, .long l1), (3, .long l3)]) (pc := 19) Γ nd_Mo_order_19 (by decide) rfl ?_
  refine rl_iconst (v := 0) (pc := 21) Γ nd_Mo_order_21 (by decide) ?_
  refine rl_istore (L' := [(7, .int 0), (6, .int 0), (5, .int q2.1), (0, .ref (E.1 59)), (1, .long l1), (3, .long l3)]) (pc := 22) Γ nd_Mo_order_22 (by decide) rfl ?_
  refine rl_iconst (v := 0) (pc := 24) Γ nd_Mo_order_24 (by decide) ?_
  refine rl_istore (L' := [(8, .int 0), (7, .int 0), (6, .int 0), (5, .int q2.1), (0, .ref (E.1 59)), (1, .long l1), (3, .long l3)]) (pc := 25) Γ nd_Mo_order_25 (by decide) rfl ?_
  refine rl_Gsub [4, 3, 2, 1, 0] rfl (rw_Mo_order_L27 Γ hO hr hk q2.1  _ ?_ 10000 0 0 0 q2.2 h)
  · intro q16y6 q16m h
    refine rl_iload (pc := 136) Γ nd_Mo_order_136 2 rfl ?_
    refine rl_iconst (v := 1) (pc := 138) Γ nd_Mo_order_138 (by decide) ?_
    refine rl_icmp_eq (tgt := 145) (pc := 139) Γ nd_Mo_order_139 (by decide) (fun q17 => ?_) (fun q17 => ?_)
    · have h := rl_ift q17 h
      refine rl_aload_n (pc := 145) Γ nd_Mo_order_145 0 rfl ?_
      refine rl_iload (pc := 146) Γ nd_Mo_order_146 1 rfl ?_
      refine rl_put (pc := 148) Γ nd_Mo_order_148 hO (k := 7) (rl_o59 E) rfl (by decide) (fun _ _ => rfl) ⟨ni_Mo, nf_Mo_91⟩ nt_Mo nto_Mo nn_Mo rfl (fun _ => Nat.le_of_ble_eq_true rfl) rl_ni ?_
      refine rl_iconst (v := 0) (pc := 151) Γ nd_Mo_order_151 (by decide) ?_
      refine rl_istore (L' := [(8, .int 0), (0, .ref (E.1 59)), (5, .int q2.1), (6, .int q16y6)]) (pc := 152) Γ nd_Mo_order_152 (by decide) rfl ?_
      refine rl_Gsub [1, 2, 0] rfl (rw_Mo_order_L154 Γ hO hr hk q2.1    10000 0 (rl_su q16m 59 7 q2.1) h)
    · have h := rl_iff q17 h
      refine rl_iload (pc := 142) Γ nd_Mo_order_142 1 rfl ?_
      exact rl_iret (pc := 144) Γ nd_Mo_order_144 hr hk h
