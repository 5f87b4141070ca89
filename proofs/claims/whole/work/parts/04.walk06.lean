def rf_St_giveNode (x1 : Int32) (x2 : Int32) (σ : rl_M) : Option (Int32 × rl_M) := (if x1 < 0 then some (0, σ) else (if x1 < 6 then (if rl_ib x1 6 = true then ((rf_St_has x2 (rl_su σ 14 x1.toNatClampNeg x2)).bind (fun q4 => (if q4.1 = 0 then some (0, q4.2) else (if rl_ib x2 11 = true then some (0, rl_su q4.2 9 x2.toNatClampNeg (48 + x1)) else none)))) else none) else some (0, σ)))
set_option maxHeartbeats 4000000 in
set_option maxRecDepth 100000 in
theorem rw_St_giveNode (l : Launch) (E : rl_E) (x1 : Int32) (x2 : Int32)  (σ : rl_M) (r : Int32 × rl_M) (h : rf_St_giveNode x1 x2 σ = some r) : Met l ny_St_giveNode nw_St_giveNode nr_St_giveNode (rl_P E [.ref (E.1 8), .int x1, .int x2] σ) (rl_Q E (rl_rv r.1) r.2) 0 0 (rl_A E) := by
  refine Met.ofW (cc := nc_St_giveNode) (maxL := 3) (ret := none) (by decide) rfl ?_
  intro p e s m args below meth c s₁ B hml hv
  obtain ⟨rfl, hP, hO⟩ := hv
  have Γ : CallFix p m c nc_St_giveNode 3 s ([.ref (E.1 8), .int x1, .int x2] : List Value).toArray rl_TT nR_St := ⟨B.exec, B.bytes, hml, findClass_of_methodNamed B.named, fun w hw => atoms_spec (ws := nw_St_giveNode) B.pre w (List.mem_cons_of_mem _ hw)⟩
  have hr := B.returns
  have hk := B.notSynchronized
  refine rl_start (R := nr_St_giveNode) (Q := rl_QM below _ s E rl_rv r) (nL := 3) (av := [.ref (E.1 8), .int x1, .int x2]) (σ := σ) hP (Nat.le_of_ble_eq_true rfl) ?_
  unfold rf_St_giveNode at h
  refine rl_iload_n (pc := 0) Γ nd_St_giveNode_0 1 rfl ?_
  refine rl_if_lt (tgt := 10) (pc := 1) Γ nd_St_giveNode_1 (by decide) (fun q1 => ?_) (fun q1 => ?_)
  · have h := rl_ift q1 h
    exact rl_vret (pc := 10) Γ nd_St_giveNode_10 hr hk h
  · have h := rl_iff q1 h
    refine rl_iload_n (pc := 4) Γ nd_St_giveNode_4 1 rfl ?_
    refine rl_bipush (v := 6) (pc := 5) Γ nd_St_giveNode_5 (by decide) ?_
    refine rl_icmp_lt (tgt := 11) (pc := 7) Γ nd_St_giveNode_7 (by decide) (fun q2 => ?_) (fun q2 => ?_)
    · have h := rl_ift q2 h
      refine rl_aload_n (pc := 11) Γ nd_St_giveNode_11 0 rfl ?_
      refine rl_get (pc := 12) Γ nd_St_giveNode_12 hO (k := 6) (rl_o8 E) rfl (by decide) rfl ⟨ni_St, nf_St_31⟩ ?_
      refine rl_iload_n (pc := 15) Γ nd_St_giveNode_15 1 rfl ?_
      refine rl_iload_n (pc := 16) Γ nd_St_giveNode_16 2 rfl ?_
      obtain ⟨q3, h⟩ := rl_if h
      refine rl_ist (pc := 17) Γ nd_St_giveNode_17 hO (rl_a14 E) (rl_ib_in q3) ?_
      refine rl_aload_n (pc := 18) Γ nd_St_giveNode_18 0 rfl ?_
      refine rl_iload_n (pc := 19) Γ nd_St_giveNode_19 2 rfl ?_
      obtain ⟨q4, q4h, h⟩ := rl_bd h
      refine rl_callVi (As := [.int x2]) (pc := 20) Γ nd_St_giveNode_20 hO (rw_St_has l E x2  (rl_su σ 14 x1.toNatClampNeg x2) q4 q4h) 1 nm_St_65 nm_im_St_has nm_se_St_has nm_ini_St nh_St_has (rl_o8 E) rfl ⟨rfl, rfl⟩ (by decide +kernel) (Nat.le_of_ble_eq_true rfl) (Nat.le_of_ble_eq_true rfl) ⟨Nat.zero_le _, Nat.zero_le _⟩ (Nat.le_of_ble_eq_true rfl) rfl rfl ?_
      refine rl_if_eq (tgt := 36) (pc := 23) Γ nd_St_giveNode_23 (by decide) (fun q5 => ?_) (fun q5 => ?_)
      · have h := rl_ift q5 h
        exact rl_vret (pc := 36) Γ nd_St_giveNode_36 hr hk h
      · have h := rl_iff q5 h
        refine rl_aload_n (pc := 26) Γ nd_St_giveNode_26 0 rfl ?_
        refine rl_get (pc := 27) Γ nd_St_giveNode_27 hO (k := 1) (rl_o8 E) rfl (by decide) rfl ⟨ni_St, nf_St_15⟩ ?_
        refine rl_iload_n (pc := 30) Γ nd_St_giveNode_30 2 rfl ?_
        refine rl_bipush (v := 48) (pc := 31) Γ nd_St_giveNode_31 (by decide) ?_
        refine rl_iload_n (pc := 33) Γ nd_St_giveNode_33 1 rfl ?_
        refine rl_iadd (pc := 34) Γ nd_St_giveNode_34 ?_
        obtain ⟨q6, h⟩ := rl_if h
        refine rl_ist (pc := 35) Γ nd_St_giveNode_35 hO (rl_a9 E) (rl_ib_in q6) ?_
        exact rl_vret (pc := 36) Γ nd_St_giveNode_36 hr hk h
    · have h := rl_iff q2 h
      exact rl_vret (pc := 10) Γ nd_St_giveNode_10 hr hk h
def rf_St_exchange (x1 : Int32) (x2 : Int32) (σ : rl_M) : Option (Int32 × rl_M) := ((rf_St_nodeOf x1 σ).bind (fun q1 => ((rf_St_nodeOf x2 q1.2).bind (fun q2 => ((rf_St_giveNode x1 q2.1 q2.2).bind (fun q3 => ((rf_St_giveNode x2 q1.1 q3.2).bind (fun q4 => some (0, q4.2)))))))))
set_option maxHeartbeats 4000000 in
set_option maxRecDepth 100000 in
theorem rw_St_exchange (l : Launch) (E : rl_E) (x1 : Int32) (x2 : Int32)  (σ : rl_M) (r : Int32 × rl_M) (h : rf_St_exchange x1 x2 σ = some r) : Met l ny_St_exchange nw_St_exchange nr_St_exchange (rl_P E [.ref (E.1 8), .int x1, .int x2] σ) (rl_Q E (rl_rv r.1) r.2) 0 0 (rl_A E) := by
  refine Met.ofW (cc := nc_St_exchange) (maxL := 5) (ret := none) (by decide) rfl ?_
  intro p e s m args below meth c s₁ B hml hv
  obtain ⟨rfl, hP, hO⟩ := hv
  have Γ : CallFix p m c nc_St_exchange 5 s ([.ref (E.1 8), .int x1, .int x2] : List Value).toArray rl_TT nR_St := ⟨B.exec, B.bytes, hml, findClass_of_methodNamed B.named, fun w hw => atoms_spec (ws := nw_St_exchange) B.pre w (List.mem_cons_of_mem _ hw)⟩
  have hr := B.returns
  have hk := B.notSynchronized
  refine rl_start (R := nr_St_exchange) (Q := rl_QM below _ s E rl_rv r) (nL := 5) (av := [.ref (E.1 8), .int x1, .int x2]) (σ := σ) hP (Nat.le_of_ble_eq_true rfl) ?_
  unfold rf_St_exchange at h
  refine rl_aload_n (pc := 0) Γ nd_St_exchange_0 0 rfl ?_
  refine rl_iload_n (pc := 1) Γ nd_St_exchange_1 1 rfl ?_
  obtain ⟨q1, q1h, h⟩ := rl_bd h
  refine rl_callVi (As := [.int x1]) (pc := 2) Γ nd_St_exchange_2 hO (rw_St_nodeOf l E x1  σ q1 q1h) 1 nm_St_69 nm_im_St_nodeOf nm_se_St_nodeOf nm_ini_St nh_St_nodeOf (rl_o8 E) rfl ⟨rfl, rfl⟩ (by decide +kernel) (Nat.le_of_ble_eq_true rfl) (Nat.le_of_ble_eq_true rfl) ⟨Nat.zero_le _, Nat.zero_le _⟩ (Nat.le_of_ble_eq_true rfl) rfl rfl ?_
  refine rl_istore_n (L' := [(3, .int q1.1), (0, .ref (E.1 8)), (1, .int x1), (2, .int x2)]) (pc := 5) Γ nd_St_exchange_5 (by decide) rfl ?_
  refine rl_aload_n (pc := 6) Γ nd_St_exchange_6 1 rfl ?_
  refine rl_iload_n (pc := 7) Γ nd_St_exchange_7 3 rfl ?_
  obtain ⟨q2, q2h, h⟩ := rl_bd h
  refine rl_callVi (As := [.int x2]) (pc := 8) Γ nd_St_exchange_8 hO (rw_St_nodeOf l E x2  q1.2 q2 q2h) 1 nm_St_69 nm_im_St_nodeOf nm_se_St_nodeOf nm_ini_St nh_St_nodeOf (rl_o8 E) rfl ⟨rfl, rfl⟩ (by decide +kernel) (Nat.le_of_ble_eq_true rfl) (Nat.le_of_ble_eq_true rfl) ⟨Nat.zero_le _, Nat.zero_le _⟩ (Nat.le_of_ble_eq_true rfl) rfl rfl ?_
  refine rl_istore (L' := [(4, .int q2.1), (3, .int q1.1), (0, .ref (E.1 8)), (1, .int x1), (2, .int x2)]) (pc := 11) Γ nd_St_exchange_11 (by decide) rfl ?_
  refine rl_aload_n (pc := 13) Γ nd_St_exchange_13 2 rfl ?_
  refine rl_iload_n (pc := 14) Γ nd_St_exchange_14 3 rfl ?_
  refine rl_iload (pc := 15) Γ nd_St_exchange_15 0 rfl ?_
  obtain ⟨q3, q3h, h⟩ := rl_bd h
  refine rl_callVv (As := [.int x1, .int q2.1]) (pc := 17) Γ nd_St_exchange_17 hO (rw_St_giveNode l E x1 q2.1  q2.2 q3 q3h) 2 nm_St_72 nm_im_St_giveNode nm_se_St_giveNode nm_ini_St nh_St_giveNode (rl_o8 E) rfl ⟨rfl, rfl⟩ (by decide +kernel) (Nat.le_of_ble_eq_true rfl) (Nat.le_of_ble_eq_true rfl) ⟨Nat.zero_le _, Nat.zero_le _⟩ (Nat.le_of_ble_eq_true rfl) rfl rfl ?_
  refine rl_aload_n (pc := 20) Γ nd_St_exchange_20 2 rfl ?_
  refine rl_iload_n (pc := 21) Γ nd_St_exchange_21 4 rfl ?_
  refine rl_iload_n (pc := 22) Γ nd_St_exchange_22 1 rfl ?_
  obtain ⟨q4, q4h, h⟩ := rl_bd h
  refine rl_callVv (As := [.int x2, .int q1.1]) (pc := 23) Γ nd_St_exchange_23 hO (rw_St_giveNode l E x2 q1.1  q3.2 q4 q4h) 2 nm_St_72 nm_im_St_giveNode nm_se_St_giveNode nm_ini_St nh_St_giveNode (rl_o8 E) rfl ⟨rfl, rfl⟩ (by decide +kernel) (Nat.le_of_ble_eq_true rfl) (Nat.le_of_ble_eq_true rfl) ⟨Nat.zero_le _, Nat.zero_le _⟩ (Nat.le_of_ble_eq_true rfl) rfl rfl ?_
  exact rl_vret (pc := 26) Γ nd_St_exchange_26 hr hk h
def rf_Wl_add (x1 : Int32) (x2 : Int32) (x3 : Int32) (σ : rl_M) : Option (Int32 × rl_M) := (if (σ 19 0) < 10 then (if rl_ib (σ 19 0) 10 = true then (if rl_ib ((rl_su σ 20 (σ 19 0).toNatClampNeg x1) 19 0) 10 = true then (if rl_ib ((rl_su (rl_su σ 20 (σ 19 0).toNatClampNeg x1) 21 ((rl_su σ 20 (σ 19 0).toNatClampNeg x1) 19 0).toNatClampNeg x2) 19 0) 10 = true then some ((rl_su (rl_su (rl_su σ 20 (σ 19 0).toNatClampNeg x1) 21 ((rl_su σ 20 (σ 19 0).toNatClampNeg x1) 19 0).toNatClampNeg x2) 22 ((rl_su (rl_su σ 20 (σ 19 0).toNatClampNeg x1) 21 ((rl_su σ 20 (σ 19 0).toNatClampNeg x1) 19 0).toNatClampNeg x2) 19 0).toNatClampNeg x3) 19 0, rl_su (rl_su (rl_su (rl_su σ 20 (σ 19 0).toNatClampNeg x1) 21 ((rl_su σ 20 (σ 19 0).toNatClampNeg x1) 19 0).toNatClampNeg x2) 22 ((rl_su (rl_su σ 20 (σ 19 0).toNatClampNeg x1) 21 ((rl_su σ 20 (σ 19 0).toNatClampNeg x1) 19 0).toNatClampNeg x2) 19 0).toNatClampNeg x3) 19 0 (((rl_su (rl_su (rl_su σ 20 (σ 19 0).toNatClampNeg x1) 21 ((rl_su σ 20 (σ 19 0).toNatClampNeg x1) 19 0).toNatClampNeg x2) 22 ((rl_su (rl_su σ 20 (σ 19 0).toNatClampNeg x1) 21 ((rl_su σ 20 (σ 19 0).toNatClampNeg x1) 19 0).toNatClampNeg x2) 19 0).toNatClampNeg x3) 19 0) + 1)) else none) else none) else none) else some ((-1), σ))
set_option maxHeartbeats 4000000 in
set_option maxRecDepth 100000 in
theorem rw_Wl_add (l : Launch) (E : rl_E) (x1 : Int32) (x2 : Int32) (x3 : Int32)  (σ : rl_M) (r : Int32 × rl_M) (h : rf_Wl_add x1 x2 x3 σ = some r) : Met l ny_Wl_add nw_Wl_add nr_Wl_add (rl_P E [.ref (E.1 19), .int x1, .int x2, .int x3] σ) (rl_Q E (rl_ri r.1) r.2) 0 0 (rl_A E) := by
  refine Met.ofW (cc := nc_Wl_add) (maxL := 4) (ret := (some .int)) (by decide) rfl ?_
  intro p e s m args below meth c s₁ B hml hv
  obtain ⟨rfl, hP, hO⟩ := hv
  have Γ : CallFix p m c nc_Wl_add 4 s ([.ref (E.1 19), .int x1, .int x2, .int x3] : List Value).toArray rl_TT nR_Wl := ⟨B.exec, B.bytes, hml, findClass_of_methodNamed B.named, fun w hw => atoms_spec (ws := nw_Wl_add) B.pre w (List.mem_cons_of_mem _ hw)⟩
  have hr := B.returns
  have hk := B.notSynchronized
  refine rl_start (R := nr_Wl_add) (Q := rl_QM below _ s E rl_ri r) (nL := 4) (av := [.ref (E.1 19), .int x1, .int x2, .int x3]) (σ := σ) hP (Nat.le_of_ble_eq_true rfl) ?_
  unfold rf_Wl_add at h
  refine rl_aload_n (pc := 0) Γ nd_Wl_add_0 0 rfl ?_
  refine rl_get (pc := 1) Γ nd_Wl_add_1 hO (k := 0) (rl_o19 E) rfl (by decide) rfl ⟨ni_Wl, nf_Wl_9⟩ ?_
  refine rl_bipush (v := 10) (pc := 4) Γ nd_Wl_add_4 (by decide) ?_
  refine rl_icmp_lt (tgt := 11) (pc := 6) Γ nd_Wl_add_6 (by decide) (fun q1 => ?_) (fun q1 => ?_)
  · have h := rl_ift q1 h
    refine rl_aload_n (pc := 11) Γ nd_Wl_add_11 0 rfl ?_
    refine rl_get (pc := 12) Γ nd_Wl_add_12 hO (k := 1) (rl_o19 E) rfl (by decide) rfl ⟨ni_Wl, nf_Wl_15⟩ ?_
    refine rl_aload_n (pc := 15) Γ nd_Wl_add_15 0 rfl ?_
    refine rl_get (pc := 16) Γ nd_Wl_add_16 hO (k := 0) (rl_o19 E) rfl (by decide) rfl ⟨ni_Wl, nf_Wl_9⟩ ?_
    refine rl_iload_n (pc := 19) Γ nd_Wl_add_19 1 rfl ?_
    obtain ⟨q2, h⟩ := rl_if h
    refine rl_ist (pc := 20) Γ nd_Wl_add_20 hO (rl_a20 E) (rl_ib_in q2) ?_
    refine rl_aload_n (pc := 21) Γ nd_Wl_add_21 0 rfl ?_
    refine rl_get (pc := 22) Γ nd_Wl_add_22 hO (k := 2) (rl_o19 E) rfl (by decide) rfl ⟨ni_Wl, nf_Wl_19⟩ ?_
    refine rl_aload_n (pc := 25) Γ nd_Wl_add_25 0 rfl ?_
    refine rl_get (pc := 26) Γ nd_Wl_add_26 hO (k := 0) (rl_o19 E) rfl (by decide) rfl ⟨ni_Wl, nf_Wl_9⟩ ?_
    refine rl_iload_n (pc := 29) Γ nd_Wl_add_29 2 rfl ?_
    obtain ⟨q3, h⟩ := rl_if h
    refine rl_ist (pc := 30) Γ nd_Wl_add_30 hO (rl_a21 E) (rl_ib_in q3) ?_
    refine rl_aload_n (pc := 31) Γ nd_Wl_add_31 0 rfl ?_
    refine rl_get (pc := 32) Γ nd_Wl_add_32 hO (k := 3) (rl_o19 E) rfl (by decide) rfl ⟨ni_Wl, nf_Wl_22⟩ ?_
    refine rl_aload_n (pc := 35) Γ nd_Wl_add_35 0 rfl ?_
    refine rl_get (pc := 36) Γ nd_Wl_add_36 hO (k := 0) (rl_o19 E) rfl (by decide) rfl ⟨ni_Wl, nf_Wl_9⟩ ?_
    refine rl_iload_n (pc := 39) Γ nd_Wl_add_39 3 rfl ?_
    obtain ⟨q4, h⟩ := rl_if h
    refine rl_ist (pc := 40) Γ nd_Wl_add_40 hO (rl_a22 E) (rl_ib_in q4) ?_
    refine rl_aload_n (pc := 41) Γ nd_Wl_add_41 0 rfl ?_
    refine rl_dup (pc := 42) Γ nd_Wl_add_42 rfl ?_
    refine rl_get (pc := 43) Γ nd_Wl_add_43 hO (k := 0) (rl_o19 E) rfl (by decide) rfl ⟨ni_Wl, nf_Wl_9⟩ ?_
    refine rl_dup_x1 (pc := 46) Γ nd_Wl_add_46 rfl rfl ?_
    refine rl_iconst (v := 1) (pc := 47) Γ nd_Wl_add_47 (by decide) ?_
    refine rl_iadd (pc := 48) Γ nd_Wl_add_48 ?_
    refine rl_put (pc := 49) Γ nd_Wl_add_49 hO (k := 0) (rl_o19 E) rfl (by decide) (fun _ _ => rfl) ⟨ni_Wl, nf_Wl_9⟩ nt_Wl nto_Wl nn_Wl rfl (fun _ => Nat.le_of_ble_eq_true rfl) rl_ni ?_
    exact rl_iret (pc := 52) Γ nd_Wl_add_52 hr hk h
  · have h := rl_iff q1 h
    refine rl_iconst (v := (-1)) (pc := 9) Γ nd_Wl_add_9 (by decide) ?_
    exact rl_iret (pc := 10) Γ nd_Wl_add_10 hr hk h
def rf_Wl_isMetIn (x2 : Int32) (σ : rl_M) : Option (Int32 × rl_M) := (if x2 < 0 then some (0, σ) else (if (σ 19 0) ≤ x2 then some (0, σ) else (if rl_ib x2 10 = true then (if rl_ib x2 10 = true then ((rf_Pl_sharedWall (σ 20 x2.toNatClampNeg) (σ 21 x2.toNatClampNeg) σ).bind (fun q5 => (if rl_ib x2 10 = true then (if q5.1 < (q5.2 22 x2.toNatClampNeg) then some (0, q5.2) else some (1, q5.2)) else none))) else none) else none)))
set_option maxHeartbeats 4000000 in
set_option maxRecDepth 100000 in
theorem rw_Wl_isMetIn (l : Launch) (E : rl_E) (x2 : Int32)  (σ : rl_M) (r : Int32 × rl_M) (h : rf_Wl_isMetIn x2 σ = some r) : Met l ny_Wl_isMetIn nw_Wl_isMetIn nr_Wl_isMetIn (rl_P E [.ref (E.1 19), .ref (E.1 3), .int x2] σ) (rl_Q E (rl_ri r.1) r.2) 0 0 (rl_A E) := by
  refine Met.ofW (cc := nc_Wl_isMetIn) (maxL := 3) (ret := (some .boolean)) (by decide) rfl ?_
  intro p e s m args below meth c s₁ B hml hv
  obtain ⟨rfl, hP, hO⟩ := hv
  have Γ : CallFix p m c nc_Wl_isMetIn 3 s ([.ref (E.1 19), .ref (E.1 3), .int x2] : List Value).toArray rl_TT nR_Wl := ⟨B.exec, B.bytes, hml, findClass_of_methodNamed B.named, fun w hw => atoms_spec (ws := nw_Wl_isMetIn) B.pre w (List.mem_cons_of_mem _ hw)⟩
  have hr := B.returns
  have hk := B.notSynchronized
  refine rl_start (R := nr_Wl_isMetIn) (Q := rl_QM below _ s E rl_ri r) (nL := 3) (av := [.ref (E.1 19), .ref (E.1 3), .int x2]) (σ := σ) hP (Nat.le_of_ble_eq_true rfl) ?_
  unfold rf_Wl_isMetIn at h
  refine rl_iload_n (pc := 0) Γ nd_Wl_isMetIn_0 2 rfl ?_
  refine rl_if_lt (tgt := 41) (pc := 1) Γ nd_Wl_isMetIn_1 (by decide) (fun q1 => ?_) (fun q1 => ?_)
  · have h := rl_ift q1 h
    refine rl_iconst (v := 0) (pc := 41) Γ nd_Wl_isMetIn_41 (by decide) ?_
    exact rl_zret (pc := 42) Γ nd_Wl_isMetIn_42 hr hk (by decide) h
  · have h := rl_iff q1 h
    refine rl_iload_n (pc := 4) Γ nd_Wl_isMetIn_4 2 rfl ?_
    refine rl_aload_n (pc := 5) Γ nd_Wl_isMetIn_5 0 rfl ?_
    refine rl_get (pc := 6) Γ nd_Wl_isMetIn_6 hO (k := 0) (rl_o19 E) rfl (by decide) rfl ⟨ni_Wl, nf_Wl_9⟩ ?_
    refine rl_icmp_ge (tgt := 41) (pc := 9) Γ nd_Wl_isMetIn_9 (by decide) (fun q2 => ?_) (fun q2 => ?_)
    · have h := rl_ift q2 h
      refine rl_iconst (v := 0) (pc := 41) Γ nd_Wl_isMetIn_41 (by decide) ?_
      exact rl_zret (pc := 42) Γ nd_Wl_isMetIn_42 hr hk (by decide) h
    · have h := rl_iff q2 h
      refine rl_aload_n (pc := 12) Γ nd_Wl_isMetIn_12 1 rfl ?_
      refine rl_aload_n (pc := 13) Γ nd_Wl_isMetIn_13 0 rfl ?_
      refine rl_get (pc := 14) Γ nd_Wl_isMetIn_14 hO (k := 1) (rl_o19 E) rfl (by decide) rfl ⟨ni_Wl, nf_Wl_15⟩ ?_
      refine rl_iload_n (pc := 17) Γ nd_Wl_isMetIn_17 2 rfl ?_
      obtain ⟨q3, h⟩ := rl_if h
      refine rl_ild (pc := 18) Γ nd_Wl_isMetIn_18 hO (rl_a20 E) (rl_ib_in q3) ?_
      refine rl_aload_n (pc := 19) Γ nd_Wl_isMetIn_19 0 rfl ?_
      refine rl_get (pc := 20) Γ nd_Wl_isMetIn_20 hO (k := 2) (rl_o19 E) rfl (by decide) rfl ⟨ni_Wl, nf_Wl_19⟩ ?_
      refine rl_iload_n (pc := 23) Γ nd_Wl_isMetIn_23 2 rfl ?_
      obtain ⟨q4, h⟩ := rl_if h
      refine rl_ild (pc := 24) Γ nd_Wl_isMetIn_24 hO (rl_a21 E) (rl_ib_in q4) ?_
      obtain ⟨q5, q5h, h⟩ := rl_bd h
      refine rl_callVi (As := [.int (σ 20 x2.toNatClampNeg), .int (σ 21 x2.toNatClampNeg)]) (pc := 25) Γ nd_Wl_isMetIn_25 hO (rw_Pl_sharedWall l E (σ 20 x2.toNatClampNeg) (σ 21 x2.toNatClampNeg)  σ q5 q5h) 2 nm_Wl_25 nm_im_Pl_sharedWall nm_se_Pl_sharedWall nm_ini_Pl nh_Pl_sharedWall (rl_o3 E) rfl ⟨rfl, rfl⟩ (by decide +kernel) (Nat.le_of_ble_eq_true rfl) (Nat.le_of_ble_eq_true rfl) ⟨Nat.zero_le _, Nat.zero_le _⟩ (Nat.le_of_ble_eq_true rfl) rfl rfl ?_
      refine rl_aload_n (pc := 28) Γ nd_Wl_isMetIn_28 0 rfl ?_
      refine rl_get (pc := 29) Γ nd_Wl_isMetIn_29 hO (k := 3) (rl_o19 E) rfl (by decide) rfl ⟨ni_Wl, nf_Wl_22⟩ ?_
      refine rl_iload_n (pc := 32) Γ nd_Wl_isMetIn_32 2 rfl ?_
      obtain ⟨q6, h⟩ := rl_if h
      refine rl_ild (pc := 33) Γ nd_Wl_isMetIn_33 hO (rl_a22 E) (rl_ib_in q6) ?_
      refine rl_icmp_lt (tgt := 41) (pc := 34) Γ nd_Wl_isMetIn_34 (by decide) (fun q7 => ?_) (fun q7 => ?_)
      · have h := rl_ift q7 h
        refine rl_iconst (v := 0) (pc := 41) Γ nd_Wl_isMetIn_41 (by decide) ?_
        exact rl_zret (pc := 42) Γ nd_Wl_isMetIn_42 hr hk (by decide) h
      · have h := rl_iff q7 h
        refine rl_iconst (v := 1) (pc := 37) Γ nd_Wl_isMetIn_37 (by decide) ?_
        refine rl_goto (tgt := 42) (pc := 38) Γ nd_Wl_isMetIn_38 (by decide) ?_
        exact rl_zret (pc := 42) Γ nd_Wl_isMetIn_42 hr hk (by decide) h
def rf_Wl_countMetIn_L4   : Nat → Int32 → Int32 → rl_M → Option (Int32 × rl_M)
  | 0, _, _, _ => none
  | n + 1, x2, x3, σ => (if (σ 19 0) ≤ x3 then some (x2, σ) else ((rf_Wl_isMetIn x3 σ).bind (fun q2 => (if q2.1 = 0 then rf_Wl_countMetIn_L4   n x2 (x3 + 1) q2.2 else rf_Wl_countMetIn_L4   n (x2 + 1) (x3 + 1) q2.2))))
def rf_Wl_countMetIn  (σ : rl_M) : Option (Int32 × rl_M) := rf_Wl_countMetIn_L4   10000 0 0 σ
set_option maxHeartbeats 4000000 in
set_option maxRecDepth 100000 in
theorem rw_Wl_countMetIn_L4 {p : Program} {l : Launch} {e : Env} {s : State} {m : MethodId} {args : Array Value} {below : List Frame} {meth : Method} {c : Code} {E : rl_E} (Γ : CallFix p m c nc_Wl_countMetIn 4 s args rl_TT nR_Wl) (hO : rl_Ok E s) (hr : meth.sig.returnType = (some .int)) (hk : meth.locks = false)    {r : Int32 × rl_M}  : ∀ (n : Nat) (x2 : Int32) (x3 : Int32) (σ : rl_M), rf_Wl_countMetIn_L4   n x2 x3 σ = some r → rl_G p l e nr_Wl_countMetIn s m args below meth c 4 E 0 0 (rl_QM below args s E rl_ri r) σ 4 [(0, .ref (E.1 19)), (1, .ref (E.1 3)), (2, .int x2), (3, .int x3)] [] := by
  intro n
  induction n with
  | zero =>
    intro x2 x3 σ h
    exact (rl_ns (show none = some r from h)).elim
  | succ n ih =>
    intro x2 x3 σ h
    unfold rf_Wl_countMetIn_L4 at h
    refine rl_iload_n (pc := 4) Γ nd_Wl_countMetIn_4 3 rfl ?_
    refine rl_aload_n (pc := 5) Γ nd_Wl_countMetIn_5 0 rfl ?_
    refine rl_get (pc := 6) Γ nd_Wl_countMetIn_6 hO (k := 0) (rl_o19 E) rfl (by decide) rfl ⟨ni_Wl, nf_Wl_9⟩ ?_
    refine rl_icmp_ge (tgt := 30) (pc := 9) Γ nd_Wl_countMetIn_9 (by decide) (fun q1 => ?_) (fun q1 => ?_)
    · have h := rl_ift q1 h
      refine rl_iload_n (pc := 30) Γ nd_Wl_countMetIn_30 2 rfl ?_
      exact rl_iret (pc := 31) Γ nd_Wl_countMetIn_31 hr hk h
    · have h := rl_iff q1 h
      refine rl_aload_n (pc := 12) Γ nd_Wl_countMetIn_12 0 rfl ?_
      refine rl_aload_n (pc := 13) Γ nd_Wl_countMetIn_13 1 rfl ?_
      refine rl_iload_n (pc := 14) Γ nd_Wl_countMetIn_14 3 rfl ?_
      obtain ⟨q2, q2h, h⟩ := rl_bd h
      refine rl_callVi (As := [.ref (E.1 3), .int x3]) (pc := 15) Γ nd_Wl_countMetIn_15 hO (rw_Wl_isMetIn l E x3  σ q2 q2h) 2 nm_Wl_31 nm_im_Wl_isMetIn nm_se_Wl_isMetIn nm_ini_Wl nh_Wl_isMetIn (rl_o19 E) rfl ⟨rfl, rfl⟩ (by decide +kernel) (Nat.le_of_ble_eq_true rfl) (Nat.le_of_ble_eq_true rfl) ⟨Nat.zero_le _, Nat.zero_le _⟩ (Nat.le_of_ble_eq_true rfl) rfl rfl ?_
      refine rl_if_eq (tgt := 24) (pc := 18) Γ nd_Wl_countMetIn_18 (by decide) (fun q3 => ?_) (fun q3 => ?_)
      · have h := rl_ift q3 h
        refine rl_iinc (v := x3 + 1) (L' := [(3, .int (x3 + 1)), (0, .ref (E.1 19)), (1, .ref (E.1 3)), (2, .int x2)]) (pc := 24) Γ nd_Wl_countMetIn_24 3 rfl rfl (by decide) rfl ?_
        refine rl_goto (tgt := 4) (pc := 27) Γ nd_Wl_countMetIn_27 (by decide) ?_
        exact rl_Gsub [1, 2, 3, 0] rfl (ih x2 (x3 + 1) q2.2 h)
      · have h := rl_iff q3 h
        refine rl_iinc (v := x2 + 1) (L' := [(2, .int (x2 + 1)), (0, .ref (E.1 19)), (1, .ref (E.1 3)), (3, .int x3)]) (pc := 21) Γ nd_Wl_countMetIn_21 2 rfl rfl (by decide) rfl ?_
        refine rl_iinc (v := x3 + 1) (L' := [(3, .int (x3 + 1)), (2, .int (x2 + 1)), (0, .ref (E.1 19)), (1, .ref (E.1 3))]) (pc := 24) Γ nd_Wl_countMetIn_24 3 rfl rfl (by decide) rfl ?_
        refine rl_goto (tgt := 4) (pc := 27) Γ nd_Wl_countMetIn_27 (by decide) ?_
        exact rl_Gsub [2, 3, 1, 0] rfl (ih (x2 + 1) (x3 + 1) q2.2 h)
set_option maxHeartbeats 4000000 in
set_option maxRecDepth 100000 in
theorem rw_Wl_countMetIn (l : Launch) (E : rl_E)   (σ : rl_M) (r : Int32 × rl_M) (h : rf_Wl_countMetIn  σ = some r) : Met l ny_Wl_countMetIn nw_Wl_countMetIn nr_Wl_countMetIn (rl_P E [.ref (E.1 19), .ref (E.1 3)] σ) (rl_Q E (rl_ri r.1) r.2) 0 0 (rl_A E) := by
  refine Met.ofW (cc := nc_Wl_countMetIn) (maxL := 4) (ret := (some .int)) (by decide) rfl ?_
  intro p e s m args below meth c s₁ B hml hv
  obtain ⟨rfl, hP, hO⟩ := hv
  have Γ : CallFix p m c nc_Wl_countMetIn 4 s ([.ref (E.1 19), .ref (E.1 3)] : List Value).toArray rl_TT nR_Wl := ⟨B.exec, B.bytes, hml, findClass_of_methodNamed B.named, fun w hw => atoms_spec (ws := nw_Wl_countMetIn) B.pre w (List.mem_cons_of_mem _ hw)⟩
  have hr := B.returns
  have hk := B.notSynchronized
  refine rl_start (R := nr_Wl_countMetIn) (Q := rl_QM below _ s E rl_ri r) (nL := 4) (av := [.ref (E.1 19), .ref (E.1 3)]) (σ := σ) hP (Nat.le_of_ble_eq_true rfl) ?_
  unfold rf_Wl_countMetIn at h
  refine rl_iconst (v := 0) (pc := 0) Γ nd_Wl_countMetIn_0 (by decide) ?_
  refine rl_istore_n (L' := [(2, .int 0), (0, .ref (E.1 19)), (1, .ref (E.1 3))]) (pc := 1) Γ nd_Wl_countMetIn_1 (by decide) rfl ?_
  refine rl_iconst (v := 0) (pc := 2) Γ nd_Wl_countMetIn_2 (by decide) ?_
  refine rl_istore_n (L' := [(3, .int 0), (2, .int 0), (0, .ref (E.1 19)), (1, .ref (E.1 3))]) (pc := 3) Γ nd_Wl_countMetIn_3 (by decide) rfl ?_
  refine rl_Gsub [2, 3, 1, 0] rfl (rw_Wl_countMetIn_L4 Γ hO hr hk     10000 0 0 σ h)
def rf_Ro_order (l1 : Int64) (l3 : Int64) (σ : rl_M) : Option (Int32 × rl_M) := ((rf_Sr_clear  σ).bind (fun q1 => ((rf_Sr_addBytes l1 q1.2).bind (fun q2 => ((rf_Sr_addBytes l3 q2.2).bind (fun q3 => ((rf_Sr_firstFault  q3.2).bind (fun q4 => (if q4.1 = ((-1)) then ((rf_St_build  q4.2).bind (fun q6 => ((rf_Pl_forget  q6.2).bind (fun q7 => some (q4.1, q7.2))))) else some (q4.1, q4.2))))))))))
set_option maxHeartbeats 4000000 in
set_option maxRecDepth 100000 in
theorem rw_Ro_order (l : Launch) (E : rl_E) (l1 : Int64) (l3 : Int64)  (σ : rl_M) (r : Int32 × rl_M) (h : rf_Ro_order l1 l3 σ = some r) : Met l ny_Ro_order nw_Ro_order nr_Ro_order (rl_P E [.ref (E.1 0), .long l1, .long l3] σ) (rl_Q E (rl_ri r.1) r.2) 0 0 (rl_A E) := by
  refine Met.ofW (cc := nc_Ro_order) (maxL := 6) (ret := (some .int)) (by decide) rfl ?_
  intro p e s m args below meth c s₁ B hml hv
  obtain ⟨rfl, hP, hO⟩ := hv
  have Γ : CallFix p m c nc_Ro_order 6 s ([.ref (E.1 0), .long l1, .long l3] : List Value).toArray rl_TT nR_Ro := ⟨B.exec, B.bytes, hml, findClass_of_methodNamed B.named, fun w hw => atoms_spec (ws := nw_Ro_order) B.pre w (List.mem_cons_of_mem _ hw)⟩
  have hr := B.returns
  have hk := B.notSynchronized
  refine rl_start (R := nr_Ro_order) (Q := rl_QM below _ s E rl_ri r) (nL := 6) (av := [.ref (E.1 0), .long l1, .long l3]) (σ := σ) hP (Nat.le_of_ble_eq_true rfl) ?_
  unfold rf_Ro_order at h
  refine rl_aload_n (pc := 0) Γ nd_Ro_order_0 0 rfl ?_
  refine rl_get (pc := 1) Γ nd_Ro_order_1 hO (k := 0) (rl_o0 E) rfl (by decide) rfl ⟨ni_Ro, nf_Ro_12⟩ ?_
  obtain ⟨q1, q1h, h⟩ := rl_bd h
  refine rl_callVv (As := []) (pc := 4) Γ nd_Ro_order_4 hO (rw_Sr_clear l E   σ q1 q1h) 0 nm_Ro_76 nm_im_Sr_clear nm_se_Sr_clear nm_ini_Sr nh_Sr_clear (rl_o1 E) rfl ⟨rfl, rfl⟩ (by decide +kernel) (Nat.le_of_ble_eq_true rfl) (Nat.le_of_ble_eq_true rfl) ⟨Nat.zero_le _, Nat.zero_le _⟩ (Nat.le_of_ble_eq_true rfl) rfl rfl ?_
  refine rl_aload_n (pc := 7) Γ nd_Ro_order_7 0 rfl ?_
  refine rl_get (pc := 8) Γ nd_Ro_order_8 hO (k := 0) (rl_o0 E) rfl (by decide) rfl ⟨ni_Ro, nf_Ro_12⟩ ?_
  refine rl_lload_n (pc := 11) Γ nd_Ro_order_11 1 rfl ?_
  obtain ⟨q2, q2h, h⟩ := rl_bd h
  refine rl_callVv (As := [.long l1]) (pc := 12) Γ nd_Ro_order_12 hO (rw_Sr_addBytes l E l1  q1.2 q2 q2h) 1 nm_Ro_79 nm_im_Sr_addBytes nm_se_Sr_addBytes nm_ini_Sr nh_Sr_addBytes (rl_o1 E) rfl ⟨rfl, rfl⟩ (by decide +kernel) (Nat.le_of_ble_eq_true rfl) (Nat.le_of_ble_eq_true rfl) ⟨Nat.zero_le _, Nat.zero_le _⟩ (Nat.le_of_ble_eq_true rfl) rfl rfl ?_
  refine rl_aload_n (pc := 15) Γ nd_Ro_order_15 0 rfl ?_
  refine rl_get (pc := 16) Γ nd_Ro_order_16 hO (k := 0) (rl_o0 E) rfl (by decide) rfl ⟨ni_Ro, nf_Ro_12⟩ ?_
  refine rl_lload_n (pc := 19) Γ nd_Ro_order_19 2 rfl ?_
  obtain ⟨q3, q3h, h⟩ := rl_bd h
  refine rl_callVv (As := [.long l3]) (pc := 20) Γ nd_Ro_order_20 hO (rw_Sr_addBytes l E l3  q2.2 q3 q3h) 1 nm_Ro_79 nm_im_Sr_addBytes nm_se_Sr_addBytes nm_ini_Sr nh_Sr_addBytes (rl_o1 E) rfl ⟨rfl, rfl⟩ (by decide +kernel) (Nat.le_of_ble_eq_true rfl) (Nat.le_of_ble_eq_true rfl) ⟨Nat.zero_le _, Nat.zero_le _⟩ (Nat.le_of_ble_eq_true rfl) rfl rfl ?_
  refine rl_aload_n (pc := 23) Γ nd_Ro_order_23 0 rfl ?_
  refine rl_get (pc := 24) Γ nd_Ro_order_24 hO (k := 0) (rl_o0 E) rfl (by decide) rfl ⟨ni_Ro, nf_Ro_12⟩ ?_
  refine rl_aload_n (pc := 27) Γ nd_Ro_order_27 0 rfl ?_
  refine rl_get (pc := 28) Γ nd_Ro_order_28 hO (k := 1) (rl_o0 E) rfl (by decide) rfl ⟨ni_Ro, nf_Ro_19⟩ ?_
  refine rl_get (pc := 31) Γ nd_Ro_order_31 hO (k := 0) (rl_o3 E) rfl (by decide) rfl ⟨ni_Pl, nf_Ro_30⟩ ?_
  obtain ⟨q4, q4h, h⟩ := rl_bd h
  refine rl_callVi (As := [.ref (E.1 4)]) (pc := 34) Γ nd_Ro_order_34 hO (rw_Sr_firstFault l E   q3.2 q4 q4h) 1 nm_Ro_83 nm_im_Sr_firstFault nm_se_Sr_firstFault nm_ini_Sr nh_Sr_firstFault (rl_o1 E) rfl ⟨rfl, rfl⟩ (by decide +kernel) (Nat.le_of_ble_eq_true rfl) (Nat.le_of_ble_eq_true rfl) ⟨Nat.zero_le _, Nat.zero_le _⟩ (Nat.le_of_ble_eq_true rfl) rfl rfl ?_
  refine rl_istore (L' := [(5, .int q4.1), (0, .ref (E.1 0)), (1, .long l1), (3, .long l3)]) (pc := 37) Γ nd_Ro_order_37 (by decide) rfl ?_
  refine rl_iload (pc := 39) Γ nd_Ro_order_39 0 rfl ?_
  refine rl_iconst (v := (-1)) (pc := 41) Γ nd_Ro_order_41 (by decide) ?_
  refine rl_icmp_ne (tgt := 66) (pc := 42) Γ nd_Ro_order_42 (by decide) (fun q5 => ?_) (fun q5 => ?_)
  · have h := rl_iff q5 h
    refine rl_iload (pc := 66) Γ nd_Ro_order_66 0 rfl ?_
    exact rl_iret (pc := 68) Γ nd_Ro_order_68 hr hk h
  · have h := rl_ift q5 h
    refine rl_aload_n (pc := 45) Γ nd_Ro_order_45 1 rfl ?_
    refine rl_get (pc := 46) Γ nd_Ro_order_46 hO (k := 1) (rl_o0 E) rfl (by decide) rfl ⟨ni_Ro, nf_Ro_19⟩ ?_
    refine rl_get (pc := 49) Γ nd_Ro_order_49 hO (k := 1) (rl_o3 E) rfl (by decide) rfl ⟨ni_Pl, nf_Ro_87⟩ ?_
    refine rl_aload_n (pc := 52) Γ nd_Ro_order_52 1 rfl ?_
    refine rl_get (pc := 53) Γ nd_Ro_order_53 hO (k := 0) (rl_o0 E) rfl (by decide) rfl ⟨ni_Ro, nf_Ro_12⟩ ?_
    obtain ⟨q6, q6h, h⟩ := rl_bd h
    refine rl_callVv (As := [.ref (E.1 1)]) (pc := 56) Γ nd_Ro_order_56 hO (rw_St_build l E   q4.2 q6 q6h) 1 nm_Ro_91 nm_im_St_build nm_se_St_build nm_ini_St nh_St_build (rl_o8 E) rfl ⟨rfl, rfl⟩ (by decide +kernel) (Nat.le_of_ble_eq_true rfl) (Nat.le_of_ble_eq_true rfl) ⟨Nat.zero_le _, Nat.zero_le _⟩ (Nat.le_of_ble_eq_true rfl) rfl rfl ?_
    refine rl_aload_n (pc := 59) Γ nd_Ro_order_59 1 rfl ?_
    refine rl_get (pc := 60) Γ nd_Ro_order_60 hO (k := 1) (rl_o0 E) rfl (by decide) rfl ⟨ni_Ro, nf_Ro_19⟩ ?_
    obtain ⟨q7, q7h, h⟩ := rl_bd h
    refine rl_callVv (As := []) (pc := 63) Γ nd_Ro_order_63 hO (rw_Pl_forget l E   q6.2 q7 q7h) 0 nm_Ro_65 nm_im_Pl_forget nm_se_Pl_forget nm_ini_Pl nh_Pl_forget (rl_o3 E) rfl ⟨rfl, rfl⟩ (by decide +kernel) (Nat.le_of_ble_eq_true rfl) (Nat.le_of_ble_eq_true rfl) ⟨Nat.zero_le _, Nat.zero_le _⟩ (Nat.le_of_ble_eq_true rfl) rfl rfl ?_
    refine rl_iload (pc := 66) Γ nd_Ro_order_66 0 rfl ?_
    exact rl_iret (pc := 68) Γ nd_Ro_order_68 hr hk h
def rf_Ro_met1  (σ : rl_M) : Option (Int32 × rl_M) := ((rf_Pl_settle  σ).bind (fun q1 => ((rf_Wl_countMetIn  q1.2).bind (fun q2 => some (q2.1, q2.2)))))
set_option maxHeartbeats 4000000 in
set_option maxRecDepth 100000 in
theorem rw_Ro_met1 (l : Launch) (E : rl_E)   (σ : rl_M) (r : Int32 × rl_M) (h : rf_Ro_met1  σ = some r) : Met l ny_Ro_met1 nw_Ro_met1 nr_Ro_met1 (rl_P E [.ref (E.1 0)] σ) (rl_Q E (rl_ri r.1) r.2) 0 0 (rl_A E) := by
  refine Met.ofW (cc := nc_Ro_met1) (maxL := 1) (ret := (some .int)) (by decide) rfl ?_
  intro p e s m args below meth c s₁ B hml hv
  obtain ⟨rfl, hP, hO⟩ := hv
  have Γ : CallFix p m c nc_Ro_met1 1 s ([.ref (E.1 0)] : List Value).toArray rl_TT nR_Ro := ⟨B.exec, B.bytes, hml, findClass_of_methodNamed B.named, fun w hw => atoms_spec (ws := nw_Ro_met1) B.pre w (List.mem_cons_of_mem _ hw)⟩
  have hr := B.returns
  have hk := B.notSynchronized
  refine rl_start (R := nr_Ro_met1) (Q := rl_QM below _ s E rl_ri r) (nL := 1) (av := [.ref (E.1 0)]) (σ := σ) hP (Nat.le_of_ble_eq_true rfl) ?_
  unfold rf_Ro_met1 at h
  refine rl_aload_n (pc := 0) Γ nd_Ro_met1_0 0 rfl ?_
  refine rl_get (pc := 1) Γ nd_Ro_met1_1 hO (k := 1) (rl_o0 E) rfl (by decide) rfl ⟨ni_Ro, nf_Ro_19⟩ ?_
  obtain ⟨q1, q1h, h⟩ := rl_bd h
  refine rl_callVv (As := []) (pc := 4) Γ nd_Ro_met1_4 hO (rw_Pl_settle l E   σ q1 q1h) 0 nm_Ro_113 nm_im_Pl_settle nm_se_Pl_settle nm_ini_Pl nh_Pl_settle (rl_o3 E) rfl ⟨rfl, rfl⟩ (by decide +kernel) (Nat.le_of_ble_eq_true rfl) (Nat.le_of_ble_eq_true rfl) ⟨Nat.zero_le _, Nat.zero_le _⟩ (Nat.le_of_ble_eq_true rfl) rfl rfl ?_
  refine rl_aload_n (pc := 7) Γ nd_Ro_met1_7 0 rfl ?_
  refine rl_get (pc := 8) Γ nd_Ro_met1_8 hO (k := 2) (rl_o0 E) rfl (by decide) rfl ⟨ni_Ro, nf_Ro_26⟩ ?_
  refine rl_aload_n (pc := 11) Γ nd_Ro_met1_11 0 rfl ?_
  refine rl_get (pc := 12) Γ nd_Ro_met1_12 hO (k := 1) (rl_o0 E) rfl (by decide) rfl ⟨ni_Ro, nf_Ro_19⟩ ?_
  obtain ⟨q2, q2h, h⟩ := rl_bd h
  refine rl_callVi (As := [.ref (E.1 3)]) (pc := 15) Γ nd_Ro_met1_15 hO (rw_Wl_countMetIn l E   q1.2 q2 q2h) 1 nm_Ro_151 nm_im_Wl_countMetIn nm_se_Wl_countMetIn nm_ini_Wl nh_Wl_countMetIn (rl_o19 E) rfl ⟨rfl, rfl⟩ (by decide +kernel) (Nat.le_of_ble_eq_true rfl) (Nat.le_of_ble_eq_true rfl) ⟨Nat.zero_le _, Nat.zero_le _⟩ (Nat.le_of_ble_eq_true rfl) rfl rfl ?_
  exact rl_iret (pc := 18) Γ nd_Ro_met1_18 hr hk h
def rf_Ro_canExchange (x1 : Int32) (x2 : Int32) (σ : rl_M) : Option (Int32 × rl_M) := ((rf_Rl_sizesOf x1 σ).bind (fun q1 => (if q1.1 ≤ 0 then some (0, q1.2) else ((rf_Rl_sizesOf x2 q1.2).bind (fun q3 => (if q3.1 ≤ 0 then some (0, q3.2) else ((rf_St_nodeOf x1 q3.2).bind (fun q5 => (if q5.1 = ((-1)) then ((rf_St_nodeOf x2 q5.2).bind (fun q7 => (if q7.1 = ((-1)) then some (0, q7.2) else some (1, q7.2)))) else some (1, q5.2))))))))))
set_option maxHeartbeats 4000000 in
set_option maxRecDepth 100000 in
theorem rw_Ro_canExchange (l : Launch) (E : rl_E) (x1 : Int32) (x2 : Int32)  (σ : rl_M) (r : Int32 × rl_M) (h : rf_Ro_canExchange x1 x2 σ = some r) : Met l ny_Ro_canExchange nw_Ro_canExchange nr_Ro_canExchange (rl_P E [.ref (E.1 0), .int x1, .int x2] σ) (rl_Q E (rl_ri r.1) r.2) 0 0 (rl_A E) := by
  refine Met.ofW (cc := nc_Ro_canExchange) (maxL := 3) (ret := (some .boolean)) (by decide) rfl ?_
  intro p e s m args below meth c s₁ B hml hv
  obtain ⟨rfl, hP, hO⟩ := hv
  have Γ : CallFix p m c nc_Ro_canExchange 3 s ([.ref (E.1 0), .int x1, .int x2] : List Value).toArray rl_TT nR_Ro := ⟨B.exec, B.bytes, hml, findClass_of_methodNamed B.named, fun w hw => atoms_spec (ws := nw_Ro_canExchange) B.pre w (List.mem_cons_of_mem _ hw)⟩
  have hr := B.returns
  have hk := B.notSynchronized
  refine rl_start (R := nr_Ro_canExchange) (Q := rl_QM below _ s E rl_ri r) (nL := 3) (av := [.ref (E.1 0), .int x1, .int x2]) (σ := σ) hP (Nat.le_of_ble_eq_true rfl) ?_
  unfold rf_Ro_canExchange at h
  refine rl_aload_n (pc := 0) Γ nd_Ro_canExchange_0 0 rfl ?_
  refine rl_get (pc := 1) Γ nd_Ro_canExchange_1 hO (k := 1) (rl_o0 E) rfl (by decide) rfl ⟨ni_Ro, nf_Ro_19⟩ ?_
  refine rl_get (pc := 4) Γ nd_Ro_canExchange_4 hO (k := 0) (rl_o3 E) rfl (by decide) rfl ⟨ni_Pl, nf_Ro_30⟩ ?_
  refine rl_iload_n (pc := 7) Γ nd_Ro_canExchange_7 1 rfl ?_
  obtain ⟨q1, q1h, h⟩ := rl_bd h
  refine rl_callVi (As := [.int x1]) (pc := 8) Γ nd_Ro_canExchange_8 hO (rw_Rl_sizesOf l E x1  σ q1 q1h) 1 nm_Ro_59 nm_im_Rl_sizesOf nm_se_Rl_sizesOf nm_ini_Rl nh_Rl_sizesOf (rl_o4 E) rfl ⟨rfl, rfl⟩ (by decide +kernel) (Nat.le_of_ble_eq_true rfl) (Nat.le_of_ble_eq_true rfl) ⟨Nat.zero_le _, Nat.zero_le _⟩ (Nat.le_of_ble_eq_true rfl) rfl rfl ?_
  refine rl_if_le (tgt := 62) (pc := 11) Γ nd_Ro_canExchange_11 (by decide) (fun q2 => ?_) (fun q2 => ?_)
  · have h := rl_ift q2 h
    refine rl_iconst (v := 0) (pc := 62) Γ nd_Ro_canExchange_62 (by decide) ?_
    exact rl_zret (pc := 63) Γ nd_Ro_canExchange_63 hr hk (by decide) h
  · have h := rl_iff q2 h
    refine rl_aload_n (pc := 14) Γ nd_Ro_canExchange_14 0 rfl ?_
    refine rl_get (pc := 15) Γ nd_Ro_canExchange_15 hO (k := 1) (rl_o0 E) rfl (by decide) rfl ⟨ni_Ro, nf_Ro_19⟩ ?_
    refine rl_get (pc := 18) Γ nd_Ro_canExchange_18 hO (k := 0) (rl_o3 E) rfl (by decide) rfl ⟨ni_Pl, nf_Ro_30⟩ ?_
    refine rl_iload_n (pc := 21) Γ nd_Ro_canExchange_21 2 rfl ?_
    obtain ⟨q3, q3h, h⟩ := rl_bd h
    refine rl_callVi (As := [.int x2]) (pc := 22) Γ nd_Ro_canExchange_22 hO (rw_Rl_sizesOf l E x2  q1.2 q3 q3h) 1 nm_Ro_59 nm_im_Rl_sizesOf nm_se_Rl_sizesOf nm_ini_Rl nh_Rl_sizesOf (rl_o4 E) rfl ⟨rfl, rfl⟩ (by decide +kernel) (Nat.le_of_ble_eq_true rfl) (Nat.le_of_ble_eq_true rfl) ⟨Nat.zero_le _, Nat.zero_le _⟩ (Nat.le_of_ble_eq_true rfl) rfl rfl ?_
    refine rl_if_le (tgt := 62) (pc := 25) Γ nd_Ro_canExchange_25 (by decide) (fun q4 => ?_) (fun q4 => ?_)
    · have h := rl_ift q4 h
      refine rl_iconst (v := 0) (pc := 62) Γ nd_Ro_canExchange_62 (by decide) ?_
      exact rl_zret (pc := 63) Γ nd_Ro_canExchange_63 hr hk (by decide) h
    · have h := rl_iff q4 h
      refine rl_aload_n (pc := 28) Γ nd_Ro_canExchange_28 0 rfl ?_
      refine rl_get (pc := 29) Γ nd_Ro_canExchange_29 hO (k := 1) (rl_o0 E) rfl (by decide) rfl ⟨ni_Ro, nf_Ro_19⟩ ?_
      refine rl_get (pc := 32) Γ nd_Ro_canExchange_32 hO (k := 1) (rl_o3 E) rfl (by decide) rfl ⟨ni_Pl, nf_Ro_87⟩ ?_
      refine rl_iload_n (pc := 35) Γ nd_Ro_canExchange_35 1 rfl ?_
      obtain ⟨q5, q5h, h⟩ := rl_bd h
      refine rl_callVi (As := [.int x1]) (pc := 36) Γ nd_Ro_canExchange_36 hO (rw_St_nodeOf l E x1  q3.2 q5 q5h) 1 nm_Ro_165 nm_im_St_nodeOf nm_se_St_nodeOf nm_ini_St nh_St_nodeOf (rl_o8 E) rfl ⟨rfl, rfl⟩ (by decide +kernel) (Nat.le_of_ble_eq_true rfl) (Nat.le_of_ble_eq_true rfl) ⟨Nat.zero_le _, Nat.zero_le _⟩ (Nat.le_of_ble_eq_true rfl) rfl rfl ?_
      refine rl_iconst (v := (-1)) (pc := 39) Γ nd_Ro_canExchange_39 (by decide) ?_
      refine rl_icmp_ne (tgt := 58) (pc := 40) Γ nd_Ro_canExchange_40 (by decide) (fun q6 => ?_) (fun q6 => ?_)
      · have h := rl_iff q6 h
        refine rl_iconst (v := 1) (pc := 58) Γ nd_Ro_canExchange_58 (by decide) ?_
        refine rl_goto (tgt := 63) (pc := 59) Γ nd_Ro_canExchange_59 (by decide) ?_
        exact rl_zret (pc := 63) Γ nd_Ro_canExchange_63 hr hk (by decide) h
      · have h := rl_ift q6 h
        refine rl_aload_n (pc := 43) Γ nd_Ro_canExchange_43 0 rfl ?_
        refine rl_get (pc := 44) Γ nd_Ro_canExchange_44 hO (k := 1) (rl_o0 E) rfl (by decide) rfl ⟨ni_Ro, nf_Ro_19⟩ ?_
        refine rl_get (pc := 47) Γ nd_Ro_canExchange_47 hO (k := 1) (rl_o3 E) rfl (by decide) rfl ⟨ni_Pl, nf_Ro_87⟩ ?_
        refine rl_iload_n (pc := 50) Γ nd_Ro_canExchange_50 2 rfl ?_
        obtain ⟨q7, q7h, h⟩ := rl_bd h
        refine rl_callVi (As := [.int x2]) (pc := 51) Γ nd_Ro_canExchange_51 hO (rw_St_nodeOf l E x2  q5.2 q7 q7h) 1 nm_Ro_165 nm_im_St_nodeOf nm_se_St_nodeOf nm_ini_St nh_St_nodeOf (rl_o8 E) rfl ⟨rfl, rfl⟩ (by decide +kernel) (Nat.le_of_ble_eq_true rfl) (Nat.le_of_ble_eq_true rfl) ⟨Nat.zero_le _, Nat.zero_le _⟩ (Nat.le_of_ble_eq_true rfl) rfl rfl ?_
        refine rl_iconst (v := (-1)) (pc := 54) Γ nd_Ro_canExchange_54 (by decide) ?_
        refine rl_icmp_eq (tgt := 62) (pc := 55) Γ nd_Ro_canExchange_55 (by decide) (fun q8 => ?_) (fun q8 => ?_)
        · have h := rl_ift q8 h
          refine rl_iconst (v := 0) (pc := 62) Γ nd_Ro_canExchange_62 (by decide) ?_
          exact rl_zret (pc := 63) Γ nd_Ro_canExchange_63 hr hk (by decide) h
        · have h := rl_iff q8 h
          refine rl_iconst (v := 1) (pc := 58) Γ nd_Ro_canExchange_58 (by decide) ?_
          refine rl_goto (tgt := 63) (pc := 59) Γ nd_Ro_canExchange_59 (by decide) ?_
          exact rl_zret (pc := 63) Γ nd_Ro_canExchange_63 hr hk (by decide) h
def rf_Ro_changePlaces (x1 : Int32) (x2 : Int32) (σ : rl_M) : Option (Int32 × rl_M) := ((rf_St_exchange x1 x2 σ).bind (fun q1 => ((rf_Pl_forget  q1.2).bind (fun q2 => some (0, q2.2)))))
set_option maxHeartbeats 4000000 in
set_option maxRecDepth 100000 in
theorem rw_Ro_changePlaces (l : Launch) (E : rl_E) (x1 : Int32) (x2 : Int32)  (σ : rl_M) (r : Int32 × rl_M) (h : rf_Ro_changePlaces x1 x2 σ = some r) : Met l ny_Ro_changePlaces nw_Ro_changePlaces nr_Ro_changePlaces (rl_P E [.ref (E.1 0), .int x1, .int x2] σ) (rl_Q E (rl_rv r.1) r.2) 0 0 (rl_A E) := by
  refine Met.ofW (cc := nc_Ro_changePlaces) (maxL := 3) (ret := none) (by decide) rfl ?_
  intro p e s m args below meth c s₁ B hml hv
  obtain ⟨rfl, hP, hO⟩ := hv
  have Γ : CallFix p m c nc_Ro_changePlaces 3 s ([.ref (E.1 0), .int x1, .int x2] : List Value).toArray rl_TT nR_Ro := ⟨B.exec, B.bytes, hml, findClass_of_methodNamed B.named, fun w hw => atoms_spec (ws := nw_Ro_changePlaces) B.pre w (List.mem_cons_of_mem _ hw)⟩
  have hr := B.returns
  have hk := B.notSynchronized
  refine rl_start (R := nr_Ro_changePlaces) (Q := rl_QM below _ s E rl_rv r) (nL := 3) (av := [.ref (E.1 0), .int x1, .int x2]) (σ := σ) hP (Nat.le_of_ble_eq_true rfl) ?_
  unfold rf_Ro_changePlaces at h
  refine rl_aload_n (pc := 0) Γ nd_Ro_changePlaces_0 0 rfl ?_
  refine rl_get (pc := 1) Γ nd_Ro_changePlaces_1 hO (k := 1) (rl_o0 E) rfl (by decide) rfl ⟨ni_Ro, nf_Ro_19⟩ ?_
  refine rl_get (pc := 4) Γ nd_Ro_changePlaces_4 hO (k := 1) (rl_o3 E) rfl (by decide) rfl ⟨ni_Pl, nf_Ro_87⟩ ?_
  refine rl_iload_n (pc := 7) Γ nd_Ro_changePlaces_7 1 rfl ?_
  refine rl_iload_n (pc := 8) Γ nd_Ro_changePlaces_8 2 rfl ?_
  obtain ⟨q1, q1h, h⟩ := rl_bd h
  refine rl_callVv (As := [.int x1, .int x2]) (pc := 9) Γ nd_Ro_changePlaces_9 hO (rw_St_exchange l E x1 x2  σ q1 q1h) 2 nm_Ro_168 nm_im_St_exchange nm_se_St_exchange nm_ini_St nh_St_exchange (rl_o8 E) rfl ⟨rfl, rfl⟩ (by decide +kernel) (Nat.le_of_ble_eq_true rfl) (Nat.le_of_ble_eq_true rfl) ⟨Nat.zero_le _, Nat.zero_le _⟩ (Nat.le_of_ble_eq_true rfl) rfl rfl ?_
  refine rl_aload_n (pc := 12) Γ nd_Ro_changePlaces_12 0 rfl ?_
  refine rl_get (pc := 13) Γ nd_Ro_changePlaces_13 hO (k := 1) (rl_o0 E) rfl (by decide) rfl ⟨ni_Ro, nf_Ro_19⟩ ?_
  obtain ⟨q2, q2h, h⟩ := rl_bd h
  refine rl_callVv (As := []) (pc := 16) Γ nd_Ro_changePlaces_16 hO (rw_Pl_forget l E   q1.2 q2 q2h) 0 nm_Ro_65 nm_im_Pl_forget nm_se_Pl_forget nm_ini_Pl nh_Pl_forget (rl_o3 E) rfl ⟨rfl, rfl⟩ (by decide +kernel) (Nat.le_of_ble_eq_true rfl) (Nat.le_of_ble_eq_true rfl) ⟨Nat.zero_le _, Nat.zero_le _⟩ (Nat.le_of_ble_eq_true rfl) rfl rfl ?_
  exact rl_vret (pc := 19) Γ nd_Ro_changePlaces_19 hr hk h
def rf_Ro_improve_J139 (x1 : Int32) (x2 : Int32) (x3 : Int32) (x4 : Int32) (x5 : Int32) (x6 : Int32) (x7 : Int32) (RC : Int32 → Int32 → Int32 → Int32 → Int32 → rl_M → Option (Int32 × rl_M)) (K207 : Int32 → Int32 → Int32 → Int32 → rl_M → Option (Int32 × rl_M)) (σ : rl_M) : Option (Int32 × rl_M) := ((rf_Wl_countMetIn  σ).bind (fun q13 => ((rf_Pl_bestArea  q13.2).bind (fun q14 => ((rf_Ro_changePlaces x6 x7 q14.2).bind (fun q15 => (if x2 < q13.1 then RC q13.1 q14.1 x6 x7 (x7 + 1) q15.2 else (if q13.1 = x2 then (if x3 ≤ q14.1 then RC x2 x3 x4 x5 (x7 + 1) q15.2 else RC q13.1 q14.1 x6 x7 (x7 + 1) q15.2) else RC x2 x3 x4 x5 (x7 + 1) q15.2))))))))
def rf_Ro_improve_L84 (x1 : Int32) (x6 : Int32) (K207 : Int32 → Int32 → Int32 → Int32 → rl_M → Option (Int32 × rl_M)) : Nat → Int32 → Int32 → Int32 → Int32 → Int32 → rl_M → Option (Int32 × rl_M)
  | 0, _, _, _, _, _, _ => none
  | n + 1, x2, x3, x4, x5, x7, σ => (if (σ 4 0) ≤ x7 then K207 x2 x3 x4 x5 σ else ((rf_Ro_canExchange x6 x7 σ).bind (fun q8 => (if q8.1 = 0 then rf_Ro_improve_L84 x1 x6 K207 n x2 x3 x4 x5 (x7 + 1) q8.2 else ((rf_Ro_changePlaces x6 x7 q8.2).bind (fun q10 => ((rf_Pl_measure  q10.2).bind (fun q11 => (if x1 = 0 then rf_Ro_improve_J139 x1 x2 x3 x4 x5 x6 x7 (rf_Ro_improve_L84 x1 x6 K207 n) K207 q11.2 else ((rf_Pl_settle  q11.2).bind (fun q19 => rf_Ro_improve_J139 x1 x2 x3 x4 x5 x6 x7 (rf_Ro_improve_L84 x1 x6 K207 n) K207 q19.2)))))))))))
def rf_Ro_improve_L63 (x1 : Int32) (K213 : Int32 → Int32 → rl_M → Option (Int32 × rl_M)) : Nat → Int32 → Int32 → Int32 → Int32 → Int32 → rl_M → Option (Int32 × rl_M)
  | 0, _, _, _, _, _, _ => none
  | n + 1, x2, x3, x4, x5, x6, σ => (if (σ 4 0) ≤ x6 then K213 x4 x5 σ else rf_Ro_improve_L84 x1 x6 (fun (q20y2 : Int32) (q20y3 : Int32) (q20y4 : Int32) (q20y5 : Int32) (q20m : rl_M) => rf_Ro_improve_L63 x1 K213 n q20y2 q20y3 q20y4 q20y5 (x6 + 1) q20m) 10000 x2 x3 x4 x5 (x6 + 1) σ)
def rf_Ro_improve_J34 (x1 : Int32)  (σ : rl_M) : Option (Int32 × rl_M) := ((rf_Wl_countMetIn  σ).bind (fun q4 => ((rf_Pl_bestArea  q4.2).bind (fun q5 => rf_Ro_improve_L63 x1 (fun (q21y4 : Int32) (q21y5 : Int32) (q21m : rl_M) => (if q21y4 = ((-1)) then some (0, q21m) else ((rf_Ro_changePlaces q21y4 q21y5 q21m).bind (fun q23 => some (1, q23.2))))) 10000 q4.1 q5.1 ((-1)) ((-1)) 0 q5.2))))
def rf_Ro_improve_J15 (s0 : Int32)  (σ : rl_M) : Option (Int32 × rl_M) := ((rf_Pl_measure  σ).bind (fun q2 => (if s0 = 0 then rf_Ro_improve_J34 s0  q2.2 else ((rf_Pl_settle  q2.2).bind (fun q24 => rf_Ro_improve_J34 s0  q24.2)))))
def rf_Ro_improve  (σ : rl_M) : Option (Int32 × rl_M) := (if (σ 19 0) ≤ 0 then rf_Ro_improve_J15 0  σ else rf_Ro_improve_J15 1  σ)
set_option maxHeartbeats 4000000 in
set_option maxRecDepth 100000 in
theorem rw_Ro_improve_J139 {p : Program} {l : Launch} {e : Env} {s : State} {m : MethodId} {args : Array Value} {below : List Frame} {meth : Method} {c : Code} {E : rl_E} (Γ : CallFix p m c nc_Ro_improve 10 s args rl_TT nR_Ro) (hO : rl_Ok E s) (hr : meth.sig.returnType = (some .boolean)) (hk : meth.locks = false)  (x1 : Int32) (x2 : Int32) (x3 : Int32) (x4 : Int32) (x5 : Int32) (x6 : Int32) (x7 : Int32)  (RC : Int32 → Int32 → Int32 → Int32 → Int32 → rl_M → Option (Int32 × rl_M)) (K207 : Int32 → Int32 → Int32 → Int32 → rl_M → Option (Int32 × rl_M)) {r : Int32 × rl_M} (hRC : ∀ (x2 : Int32) (x3 : Int32) (x4 : Int32) (x5 : Int32) (x7 : Int32) (σ : rl_M), RC x2 x3 x4 x5 x7 σ = some r → rl_G p l e nr_Ro_improve s m args below meth c 10 E 0 0 (rl_QM below args s E rl_ri r) σ 84 [(0, .ref (E.1 0)), (1, .int x1), (2, .int x2), (3, .int x3), (4, .int x4), (5, .int x5), (6, .int x6), (7, .int x7)] []) (hK207 : ∀ (y2 : Int32) (y3 : Int32) (y4 : Int32) (y5 : Int32) (σ : rl_M), K207 y2 y3 y4 y5 σ = some r → rl_G p l e nr_Ro_improve s m args below meth c 10 E 0 0 (rl_QM below args s E rl_ri r) σ 207 [(0, .ref (E.1 0)), (1, .int x1), (2, .int y2), (3, .int y3), (4, .int y4), (5, .int y5), (6, .int x6)] []) (σ : rl_M) (h : rf_Ro_improve_J139 x1 x2 x3 x4 x5 x6 x7 RC K207 σ = some r) : rl_G p l e nr_Ro_improve s m args below meth c 10 E 0 0 (rl_QM below args s E rl_ri r) σ 139 [(0, .ref (E.1 0)), (1, .int x1), (2, .int x2), (3, .int x3), (4, .int x4), (5, .int x5), (6, .int x6), (7, .int x7)] [] := by
  unfold rf_Ro_improve_J139 at h
  refine rl_aload_n (pc := 139) Γ nd_Ro_improve_139 0 rfl ?_
  refine rl_get (pc := 140) Γ nd_Ro_improve_140 hO (k := 2) (rl_o0 E) rfl (by decide) rfl ⟨ni_Ro, nf_Ro_26⟩ ?_
  refine rl_aload_n (pc := 143) Γ nd_Ro_improve_143 0 rfl ?_
  refine rl_get (pc := 144) Γ nd_Ro_improve_144 hO (k := 1) (rl_o0 E) rfl (by decide) rfl ⟨ni_Ro, nf_Ro_19⟩ ?_
  obtain ⟨q13, q13h, h⟩ := rl_bd h
  refine rl_callVi (As := [.ref (E.1 3)]) (pc := 147) Γ nd_Ro_improve_147 hO (rw_Wl_countMetIn l E   σ q13 q13h) 1 nm_Ro_151 nm_im_Wl_countMetIn nm_se_Wl_countMetIn nm_ini_Wl nh_Wl_countMetIn (rl_o19 E) rfl ⟨rfl, rfl⟩ (by decide +kernel) (Nat.le_of_ble_eq_true rfl) (Nat.le_of_ble_eq_true rfl) ⟨Nat.zero_le _, Nat.zero_le _⟩ (Nat.le_of_ble_eq_true rfl) rfl rfl ?_
  refine rl_istore (L' := [(8, .int q13.1), (0, .ref (E.1 0)), (1, .int x1), (2, .int x2), (3, .int x3), (4, .int x4), (5, .int x5), (6, .int x6), (7, .int x7)]) (pc := 150) Γ nd_Ro_improve_150 (by decide) rfl ?_
  refine rl_aload_n (pc := 152) Γ nd_Ro_improve_152 1 rfl ?_
  refine rl_get (pc := 153) Γ nd_Ro_improve_153 hO (k := 1) (rl_o0 E) rfl (by decide) rfl ⟨ni_Ro, nf_Ro_19⟩ ?_
  obtain ⟨q14, q14h, h⟩ := rl_bd h
  refine rl_callVi (As := []) (pc := 156) Γ nd_Ro_improve_156 hO (rw_Pl_bestArea l E   q13.2 q14 q14h) 0 nm_Ro_104 nm_im_Pl_bestArea nm_se_Pl_bestArea nm_ini_Pl nh_Pl_bestArea (rl_o3 E) rfl ⟨rfl, rfl⟩ (by decide +kernel) (Nat.le_of_ble_eq_true rfl) (Nat.le_of_ble_eq_true rfl) ⟨Nat.zero_le _, Nat.zero_le _⟩ (Nat.le_of_ble_eq_true rfl) rfl rfl ?_
  refine rl_istore (L' := [(9, .int q14.1), (8, .int q13.1), (0, .ref (E.1 0)), (1, .int x1), (2, .int x2), (3, .int x3), (4, .int x4), (5, .int x5), (6, .int x6), (7, .int x7)]) (pc := 159) Γ nd_Ro_improve_159 (by decide) rfl ?_
  refine rl_aload_n (pc := 161) Γ nd_Ro_improve_161 2 rfl ?_
  refine rl_iload (pc := 162) Γ nd_Ro_improve_162 8 rfl ?_
  refine rl_iload (pc := 164) Γ nd_Ro_improve_164 9 rfl ?_
  obtain ⟨q15, q15h, h⟩ := rl_bd h
  refine rl_callVv (As := [.int x6, .int x7]) (pc := 166) Γ nd_Ro_improve_166 hO (rw_Ro_changePlaces l E x6 x7  q14.2 q15 q15h) 2 nm_Ro_159 nm_im_Ro_changePlaces nm_se_Ro_changePlaces nm_ini_Ro nh_Ro_changePlaces (rl_o0 E) rfl ⟨rfl, rfl⟩ (by decide +kernel) (Nat.le_of_ble_eq_true rfl) (Nat.le_of_ble_eq_true rfl) ⟨Nat.zero_le _, Nat.zero_le _⟩ (Nat.le_of_ble_eq_true rfl) rfl rfl ?_
  refine rl_iload (pc := 169) Γ nd_Ro_improve_169 1 rfl ?_
  refine rl_iload_n (pc := 171) Γ nd_Ro_improve_171 4 rfl ?_
  refine rl_icmp_gt (tgt := 187) (pc := 172) Γ nd_Ro_improve_172 (by decide) (fun q16 => ?_) (fun q16 => ?_)
  · have h := rl_ift q16 h
    refine rl_iload (pc := 187) Γ nd_Ro_improve_187 1 rfl ?_
    refine rl_istore_n (L' := [(2, .int q13.1), (9, .int q14.1), (8, .int q13.1), (0, .ref (E.1 0)), (1, .int x1), (3, .int x3), (4, .int x4), (5, .int x5), (6, .int x6), (7, .int x7)]) (pc := 189) Γ nd_Ro_improve_189 (by decide) rfl ?_
    refine rl_iload (pc := 190) Γ nd_Ro_improve_190 1 rfl ?_
    refine rl_istore_n (L' := [(3, .int q14.1), (2, .int q13.1), (9, .int q14.1), (8, .int q13.1), (0, .ref (E.1 0)), (1, .int x1), (4, .int x4), (5, .int x5), (6, .int x6), (7, .int x7)]) (pc := 192) Γ nd_Ro_improve_192 (by decide) rfl ?_
    refine rl_iload (pc := 193) Γ nd_Ro_improve_193 8 rfl ?_
    refine rl_istore (L' := [(4, .int x6), (3, .int q14.1), (2, .int q13.1), (9, .int q14.1), (8, .int q13.1), (0, .ref (E.1 0)), (1, .int x1), (5, .int x5), (6, .int x6), (7, .int x7)]) (pc := 195) Γ nd_Ro_improve_195 (by decide) rfl ?_
    refine rl_iload (pc := 197) Γ nd_Ro_improve_197 9 rfl ?_
    refine rl_istore (L' := [(5, .int x7), (4, .int x6), (3, .int q14.1), (2, .int q13.1), (9, .int q14.1), (8, .int q13.1), (0, .ref (E.1 0)), (1, .int x1), (6, .int x6), (7, .int x7)]) (pc := 199) Γ nd_Ro_improve_199 (by decide) rfl ?_
    refine rl_iinc (v := x7 + 1) (L' := [(7, .int (x7 + 1)), (5, .int x7), (4, .int x6), (3, .int q14.1), (2, .int q13.1), (9, .int q14.1), (8, .int q13.1), (0, .ref (E.1 0)), (1, .int x1), (6, .int x6)]) (pc := 201) Γ nd_Ro_improve_201 9 rfl rfl (by decide) rfl ?_
    refine rl_goto (tgt := 84) (pc := 204) Γ nd_Ro_improve_204 (by decide) ?_
    exact rl_Gsub [7, 8, 4, 3, 2, 1, 9, 0] rfl (hRC q13.1 q14.1 x6 x7 (x7 + 1) q15.2 h)
  · have h := rl_iff q16 h
    refine rl_iload (pc := 175) Γ nd_Ro_improve_175 1 rfl ?_
    refine rl_iload_n (pc := 177) Γ nd_Ro_improve_177 4 rfl ?_
    refine rl_icmp_ne (tgt := 201) (pc := 178) Γ nd_Ro_improve_178 (by decide) (fun q17 => ?_) (fun q17 => ?_)
    · have h := rl_iff q17 h
      refine rl_iinc (v := x7 + 1) (L' := [(7, .int (x7 + 1)), (9, .int q14.1), (8, .int q13.1), (0, .ref (E.1 0)), (1, .int x1), (2, .int x2), (3, .int x3), (4, .int x4), (5, .int x5), (6, .int x6)]) (pc := 201) Γ nd_Ro_improve_201 9 rfl rfl (by decide) rfl ?_
      refine rl_goto (tgt := 84) (pc := 204) Γ nd_Ro_improve_204 (by decide) ?_
      exact rl_Gsub [3, 4, 5, 6, 7, 8, 9, 0] rfl (hRC x2 x3 x4 x5 (x7 + 1) q15.2 h)
    · have h := rl_ift q17 h
      refine rl_iload (pc := 181) Γ nd_Ro_improve_181 0 rfl ?_
      refine rl_iload_n (pc := 183) Γ nd_Ro_improve_183 5 rfl ?_
      refine rl_icmp_ge (tgt := 201) (pc := 184) Γ nd_Ro_improve_184 (by decide) (fun q18 => ?_) (fun q18 => ?_)
      · have h := rl_ift q18 h
        refine rl_iinc (v := x7 + 1) (L' := [(7, .int (x7 + 1)), (9, .int q14.1), (8, .int q13.1), (0, .ref (E.1 0)), (1, .int x1), (2, .int x2), (3, .int x3), (4, .int x4), (5, .int x5), (6, .int x6)]) (pc := 201) Γ nd_Ro_improve_201 9 rfl rfl (by decide) rfl ?_
        refine rl_goto (tgt := 84) (pc := 204) Γ nd_Ro_improve_204 (by decide) ?_
        exact rl_Gsub [3, 4, 5, 6, 7, 8, 9, 0] rfl (hRC x2 x3 x4 x5 (x7 + 1) q15.2 h)
      · have h := rl_iff q18 h
        refine rl_iload (pc := 187) Γ nd_Ro_improve_187 1 rfl ?_
        refine rl_istore_n (L' := [(2, .int q13.1), (9, .int q14.1), (8, .int q13.1), (0, .ref (E.1 0)), (1, .int x1), (3, .int x3), (4, .int x4), (5, .int x5), (6, .int x6), (7, .int x7)]) (pc := 189) Γ nd_Ro_improve_189 (by decide) rfl ?_
        refine rl_iload (pc := 190) Γ nd_Ro_improve_190 1 rfl ?_
        refine rl_istore_n (L' := [(3, .int q14.1), (2, .int q13.1), (9, .int q14.1), (8, .int q13.1), (0, .ref (E.1 0)), (1, .int x1), (4, .int x4), (5, .int x5), (6, .int x6), (7, .int x7)]) (pc := 192) Γ nd_Ro_improve_192 (by decide) rfl ?_
        refine rl_iload (pc := 193) Γ nd_Ro_improve_193 8 rfl ?_
        refine rl_istore (L' := [(4, .int x6), (3, .int q14.1), (2, .int q13.1), (9, .int q14.1), (8, .int q13.1), (0, .ref (E.1 0)), (1, .int x1), (5, .int x5), (6, .int x6), (7, .int x7)]) (pc := 195) Γ nd_Ro_improve_195 (by decide) rfl ?_
        refine rl_iload (pc := 197) Γ nd_Ro_improve_197 9 rfl ?_
        refine rl_istore (L' := [(5, .int x7), (4, .int x6), (3, .int q14.1), (2, .int q13.1), (9, .int q14.1), (8, .int q13.1), (0, .ref (E.1 0)), (1, .int x1), (6, .int x6), (7, .int x7)]) (pc := 199) Γ nd_Ro_improve_199 (by decide) rfl ?_
        refine rl_iinc (v := x7 + 1) (L' := [(7, .int (x7 + 1)), (5, .int x7), (4, .int x6), (3, .int q14.1), (2, .int q13.1), (9, .int q14.1), (8, .int q13.1), (0, .ref (E.1 0)), (1, .int x1), (6, .int x6)]) (pc := 201) Γ nd_Ro_improve_201 9 rfl rfl (by decide) rfl ?_
        refine rl_goto (tgt := 84) (pc := 204) Γ nd_Ro_improve_204 (by decide) ?_
        exact rl_Gsub [7, 8, 4, 3, 2, 1, 9, 0] rfl (hRC q13.1 q14.1 x6 x7 (x7 + 1) q15.2 h)
set_option maxHeartbeats 4000000 in
set_option maxRecDepth 100000 in
theorem rw_Ro_improve_L84 {p : Program} {l : Launch} {e : Env} {s : State} {m : MethodId} {args : Array Value} {below : List Frame} {meth : Method} {c : Code} {E : rl_E} (Γ : CallFix p m c nc_Ro_improve 10 s args rl_TT nR_Ro) (hO : rl_Ok E s) (hr : meth.sig.returnType = (some .boolean)) (hk : meth.locks = false) (x1 : Int32) (x6 : Int32)  (K207 : Int32 → Int32 → Int32 → Int32 → rl_M → Option (Int32 × rl_M)) {r : Int32 × rl_M} (hK207 : ∀ (y2 : Int32) (y3 : Int32) (y4 : Int32) (y5 : Int32) (σ : rl_M), K207 y2 y3 y4 y5 σ = some r → rl_G p l e nr_Ro_improve s m args below meth c 10 E 0 0 (rl_QM below args s E rl_ri r) σ 207 [(0, .ref (E.1 0)), (1, .int x1), (2, .int y2), (3, .int y3), (4, .int y4), (5, .int y5), (6, .int x6)] []) : ∀ (n : Nat) (x2 : Int32) (x3 : Int32) (x4 : Int32) (x5 : Int32) (x7 : Int32) (σ : rl_M), rf_Ro_improve_L84 x1 x6 K207 n x2 x3 x4 x5 x7 σ = some r → rl_G p l e nr_Ro_improve s m args below meth c 10 E 0 0 (rl_QM below args s E rl_ri r) σ 84 [(0, .ref (E.1 0)), (1, .int x1), (2, .int x2), (3, .int x3), (4, .int x4), (5, .int x5), (6, .int x6), (7, .int x7)] [] := by
  intro n
  induction n with
  | zero =>
    intro x2 x3 x4 x5 x7 σ h
    exact (rl_ns (show none = some r from h)).elim
  | succ n ih =>
    intro x2 x3 x4 x5 x7 σ h
    unfold rf_Ro_improve_L84 at h
    refine rl_iload (pc := 84) Γ nd_Ro_improve_84 7 rfl ?_
    refine rl_aload_n (pc := 86) Γ nd_Ro_improve_86 0 rfl ?_
    refine rl_get (pc := 87) Γ nd_Ro_improve_87 hO (k := 1) (rl_o0 E) rfl (by decide) rfl ⟨ni_Ro, nf_Ro_19⟩ ?_
    refine rl_get (pc := 90) Γ nd_Ro_improve_90 hO (k := 0) (rl_o3 E) rfl (by decide) rfl ⟨ni_Pl, nf_Ro_30⟩ ?_
    refine rl_get (pc := 93) Γ nd_Ro_improve_93 hO (k := 0) (rl_o4 E) rfl (by decide) rfl ⟨ni_Rl, nf_Ro_34⟩ ?_
    refine rl_icmp_ge (tgt := 207) (pc := 96) Γ nd_Ro_improve_96 (by decide) (fun q7 => ?_) (fun q7 => ?_)
    · have h := rl_ift q7 h
      exact rl_Gsub [0, 1, 2, 3, 4, 5, 6] rfl (hK207 x2 x3 x4 x5 σ h)
    · have h := rl_iff q7 h
      refine rl_aload_n (pc := 99) Γ nd_Ro_improve_99 0 rfl ?_
      refine rl_iload (pc := 100) Γ nd_Ro_improve_100 6 rfl ?_
      refine rl_iload (pc := 102) Γ nd_Ro_improve_102 7 rfl ?_
      obtain ⟨q8, q8h, h⟩ := rl_bd h
      refine rl_callVi (As := [.int x6, .int x7]) (pc := 104) Γ nd_Ro_improve_104 hO (rw_Ro_canExchange l E x6 x7  σ q8 q8h) 2 nm_Ro_155 nm_im_Ro_canExchange nm_se_Ro_canExchange nm_ini_Ro nh_Ro_canExchange (rl_o0 E) rfl ⟨rfl, rfl⟩ (by decide +kernel) (Nat.le_of_ble_eq_true rfl) (Nat.le_of_ble_eq_true rfl) ⟨Nat.zero_le _, Nat.zero_le _⟩ (Nat.le_of_ble_eq_true rfl) rfl rfl ?_
      refine rl_if_ne (tgt := 113) (pc := 107) Γ nd_Ro_improve_107 (by decide) (fun q9 => ?_) (fun q9 => ?_)
      · have h := rl_iff q9 h
        refine rl_aload_n (pc := 113) Γ nd_Ro_improve_113 0 rfl ?_
        refine rl_iload (pc := 114) Γ nd_Ro_improve_114 6 rfl ?_
        refine rl_iload (pc := 116) Γ nd_Ro_improve_116 7 rfl ?_
        obtain ⟨q10, q10h, h⟩ := rl_bd h
        refine rl_callVv (As := [.int x6, .int x7]) (pc := 118) Γ nd_Ro_improve_118 hO (rw_Ro_changePlaces l E x6 x7  q8.2 q10 q10h) 2 nm_Ro_159 nm_im_Ro_changePlaces nm_se_Ro_changePlaces nm_ini_Ro nh_Ro_changePlaces (rl_o0 E) rfl ⟨rfl, rfl⟩ (by decide +kernel) (Nat.le_of_ble_eq_true rfl) (Nat.le_of_ble_eq_true rfl) ⟨Nat.zero_le _, Nat.zero_le _⟩ (Nat.le_of_ble_eq_true rfl) rfl rfl ?_
        refine rl_aload_n (pc := 121) Γ nd_Ro_improve_121 0 rfl ?_
        refine rl_get (pc := 122) Γ nd_Ro_improve_122 hO (k := 1) (rl_o0 E) rfl (by decide) rfl ⟨ni_Ro, nf_Ro_19⟩ ?_
        obtain ⟨q11, q11h, h⟩ := rl_bd h
        refine rl_callVv (As := []) (pc := 125) Γ nd_Ro_improve_125 hO (rw_Pl_measure l E   q10.2 q11 q11h) 0 nm_Ro_97 nm_im_Pl_measure nm_se_Pl_measure nm_ini_Pl nh_Pl_measure (rl_o3 E) rfl ⟨rfl, rfl⟩ (by decide +kernel) (Nat.le_of_ble_eq_true rfl) (Nat.le_of_ble_eq_true rfl) ⟨Nat.zero_le _, Nat.zero_le _⟩ (Nat.le_of_ble_eq_true rfl) rfl rfl ?_
        refine rl_iload_n (pc := 128) Γ nd_Ro_improve_128 1 rfl ?_
        refine rl_if_eq (tgt := 139) (pc := 129) Γ nd_Ro_improve_129 (by decide) (fun q12 => ?_) (fun q12 => ?_)
        · have h := rl_ift q12 h
          exact rl_Gsub [0, 1, 2, 3, 4, 5, 6, 7] rfl (rw_Ro_improve_J139 Γ hO hr hk x1 x2 x3 x4 x5 x6 x7  _ _ ih hK207 q11.2 h)
        · have h := rl_iff q12 h
          refine rl_aload_n (pc := 132) Γ nd_Ro_improve_132 0 rfl ?_
          refine rl_get (pc := 133) Γ nd_Ro_improve_133 hO (k := 1) (rl_o0 E) rfl (by decide) rfl ⟨ni_Ro, nf_Ro_19⟩ ?_
          obtain ⟨q19, q19h, h⟩ := rl_bd h
          refine rl_callVv (As := []) (pc := 136) Γ nd_Ro_improve_136 hO (rw_Pl_settle l E   q11.2 q19 q19h) 0 nm_Ro_113 nm_im_Pl_settle nm_se_Pl_settle nm_ini_Pl nh_Pl_settle (rl_o3 E) rfl ⟨rfl, rfl⟩ (by decide +kernel) (Nat.le_of_ble_eq_true rfl) (Nat.le_of_ble_eq_true rfl) ⟨Nat.zero_le _, Nat.zero_le _⟩ (Nat.le_of_ble_eq_true rfl) rfl rfl ?_
          exact rl_Gsub [0, 1, 2, 3, 4, 5, 6, 7] rfl (rw_Ro_improve_J139 Γ hO hr hk x1 x2 x3 x4 x5 x6 x7  _ _ ih hK207 q19.2 h)
      · have h := rl_ift q9 h
        refine rl_goto (tgt := 201) (pc := 110) Γ nd_Ro_improve_110 (by decide) ?_
        refine rl_iinc (v := x7 + 1) (L' := [(7, .int (x7 + 1)), (0, .ref (E.1 0)), (1, .int x1), (2, .int x2), (3, .int x3), (4, .int x4), (5, .int x5), (6, .int x6)]) (pc := 201) Γ nd_Ro_improve_201 7 rfl rfl (by decide) rfl ?_
        refine rl_goto (tgt := 84) (pc := 204) Γ nd_Ro_improve_204 (by decide) ?_
        exact rl_Gsub [1, 2, 3, 4, 5, 6, 7, 0] rfl (ih x2 x3 x4 x5 (x7 + 1) q8.2 h)
set_option maxHeartbeats 4000000 in
set_option maxRecDepth 100000 in
theorem rw_Ro_improve_L63 {p : Program} {l : Launch} {e : Env} {s : State} {m : MethodId} {args : Array Value} {below : List Frame} {meth : Method} {c : Code} {E : rl_E} (Γ : CallFix p m c nc_Ro_improve 10 s args rl_TT nR_Ro) (hO : rl_Ok E s) (hr : meth.sig.returnType = (some .boolean)) (hk : meth.locks = false) (x1 : Int32)  (K213 : Int32 → Int32 → rl_M → Option (Int32 × rl_M)) {r : Int32 × rl_M} (hK213 : ∀ (y4 : Int32) (y5 : Int32) (σ : rl_M), K213 y4 y5 σ = some r → rl_G p l e nr_Ro_improve s m args below meth c 10 E 0 0 (rl_QM below args s E rl_ri r) σ 213 [(0, .ref (E.1 0)), (4, .int y4), (5, .int y5)] []) : ∀ (n : Nat) (x2 : Int32) (x3 : Int32) (x4 : Int32) (x5 : Int32) (x6 : Int32) (σ : rl_M), rf_Ro_improve_L63 x1 K213 n x2 x3 x4 x5 x6 σ = some r → rl_G p l e nr_Ro_improve s m args below meth c 10 E 0 0 (rl_QM below args s E rl_ri r) σ 63 [(0, .ref (E.1 0)), (1, .int x1), (2, .int x2), (3, .int x3), (4, .int x4), (5, .int x5), (6, .int x6)] [] := by
  intro n
  induction n with
  | zero =>
    intro x2 x3 x4 x5 x6 σ h
    exact (rl_ns (show none = some r from h)).elim
  | succ n ih =>
    intro x2 x3 x4 x5 x6 σ h
    unfold rf_Ro_improve_L63 at h
    refine rl_iload (pc := 63) Γ nd_Ro_improve_63 6 rfl ?_
    refine rl_aload_n (pc := 65) Γ nd_Ro_improve_65 0 rfl ?_
    refine rl_get (pc := 66) Γ nd_Ro_improve_66 hO (k := 1) (rl_o0 E) rfl (by decide) rfl ⟨ni_Ro, nf_Ro_19⟩ ?_
    refine rl_get (pc := 69) Γ nd_Ro_improve_69 hO (k := 0) (rl_o3 E) rfl (by decide) rfl ⟨ni_Pl, nf_Ro_30⟩ ?_
    refine rl_get (pc := 72) Γ nd_Ro_improve_72 hO (k := 0) (rl_o4 E) rfl (by decide) rfl ⟨ni_Rl, nf_Ro_34⟩ ?_
    refine rl_icmp_ge (tgt := 213) (pc := 75) Γ nd_Ro_improve_75 (by decide) (fun q6 => ?_) (fun q6 => ?_)
    · have h := rl_ift q6 h
      exact rl_Gsub [0, 4, 5] rfl (hK213 x4 x5 σ h)
    · have h := rl_iff q6 h
      refine rl_iload (pc := 78) Γ nd_Ro_improve_78 6 rfl ?_
      refine rl_iconst (v := 1) (pc := 80) Γ nd_Ro_improve_80 (by decide) ?_
      refine rl_iadd (pc := 81) Γ nd_Ro_improve_81 ?_
      refine rl_istore (L' := [(7, .int (x6 + 1)), (0, .ref (E.1 0)), (1, .int x1), (2, .int x2), (3, .int x3), (4, .int x4), (5, .int x5), (6, .int x6)]) (pc := 82) Γ nd_Ro_improve_82 (by decide) rfl ?_
      refine rl_Gsub [1, 2, 3, 4, 5, 6, 7, 0] rfl (rw_Ro_improve_L84 Γ hO hr hk x1 x6  _ ?_ 10000 x2 x3 x4 x5 (x6 + 1) σ h)
      · intro q20y2 q20y3 q20y4 q20y5 q20m h
        refine rl_iinc (v := x6 + 1) (L' := [(6, .int (x6 + 1)), (0, .ref (E.1 0)), (1, .int x1), (2, .int q20y2), (3, .int q20y3), (4, .int q20y4), (5, .int q20y5)]) (pc := 207) Γ nd_Ro_improve_207 6 rfl rfl (by decide) rfl ?_
        refine rl_goto (tgt := 63) (pc := 210) Γ nd_Ro_improve_210 (by decide) ?_
        exact rl_Gsub [1, 2, 3, 4, 5, 6, 0] rfl (ih q20y2 q20y3 q20y4 q20y5 (x6 + 1) q20m h)
set_option maxHeartbeats 4000000 in
set_option maxRecDepth 100000 in
theorem rw_Ro_improve_J34 {p : Program} {l : Launch} {e : Env} {s : State} {m : MethodId} {args : Array Value} {below : List Frame} {meth : Method} {c : Code} {E : rl_E} (Γ : CallFix p m c nc_Ro_improve 10 s args rl_TT nR_Ro) (hO : rl_Ok E s) (hr : meth.sig.returnType = (some .boolean)) (hk : meth.locks = false)  (x1 : Int32)   {r : Int32 × rl_M}  (σ : rl_M) (h : rf_Ro_improve_J34 x1  σ = some r) : rl_G p l e nr_Ro_improve s m args below meth c 10 E 0 0 (rl_QM below args s E rl_ri r) σ 34 [(0, .ref (E.1 0)), (1, .int x1)] [] := by
  unfold rf_Ro_improve_J34 at h
  refine rl_aload_n (pc := 34) Γ nd_Ro_improve_34 0 rfl ?_
  refine rl_get (pc := 35) Γ nd_Ro_improve_35 hO (k := 2) (rl_o0 E) rfl (by decide) rfl ⟨ni_Ro, nf_Ro_26⟩ ?_
  refine rl_aload_n (pc := 38) Γ nd_Ro_improve_38 0 rfl ?_
  refine rl_get (pc := 39) Γ nd_Ro_improve_39 hO (k := 1) (rl_o0 E) rfl (by decide) rfl ⟨ni_Ro, nf_Ro_19⟩ ?_
  obtain ⟨q4, q4h, h⟩ := rl_bd h
  refine rl_callVi (As := [.ref (E.1 3)]) (pc := 42) Γ nd_Ro_improve_42 hO (rw_Wl_countMetIn l E   σ q4 q4h) 1 nm_Ro_151 nm_im_Wl_countMetIn nm_se_Wl_countMetIn nm_ini_Wl nh_Wl_countMetIn (rl_o19 E) rfl ⟨rfl, rfl⟩ (by decide +kernel) (Nat.le_of_ble_eq_true rfl) (Nat.le_of_ble_eq_true rfl) ⟨Nat.zero_le _, Nat.zero_le _⟩ (Nat.le_of_ble_eq_true rfl) rfl rfl ?_
  refine rl_istore_n (L' := [(2, .int q4.1), (0, .ref (E.1 0)), (1, .int x1)]) (pc := 45) Γ nd_Ro_improve_45 (by decide) rfl ?_
  refine rl_aload_n (pc := 46) Γ nd_Ro_improve_46 1 rfl ?_
  refine rl_get (pc := 47) Γ nd_Ro_improve_47 hO (k := 1) (rl_o0 E) rfl (by decide) rfl ⟨ni_Ro, nf_Ro_19⟩ ?_
  obtain ⟨q5, q5h, h⟩ := rl_bd h
  refine rl_callVi (As := []) (pc := 50) Γ nd_Ro_improve_50 hO (rw_Pl_bestArea l E   q4.2 q5 q5h) 0 nm_Ro_104 nm_im_Pl_bestArea nm_se_Pl_bestArea nm_ini_Pl nh_Pl_bestArea (rl_o3 E) rfl ⟨rfl, rfl⟩ (by decide +kernel) (Nat.le_of_ble_eq_true rfl) (Nat.le_of_ble_eq_true rfl) ⟨Nat.zero_le _, Nat.zero_le _⟩ (Nat.le_of_ble_eq_true rfl) rfl rfl ?_
  refine rl_istore_n (L' := [(3, .int q5.1), (2, .int q4.1), (0, .ref (E.1 0)), (1, .int x1)]) (pc := 53) Γ nd_Ro_improve_53 (by decide) rfl ?_
  refine rl_iconst (v := (-1)) (pc := 54) Γ nd_Ro_improve_54 (by decide) ?_
  refine rl_istore (L' := [(4, .int ((-1))), (3, .int q5.1), (2, .int q4.1), (0, .ref (E.1 0)), (1, .int x1)]) (pc := 55) Γ nd_Ro_improve_55 (by decide) rfl ?_
  refine rl_iconst (v := (-1)) (pc := 57) Γ nd_Ro_improve_57 (by decide) ?_
  refine rl_istore (L' := [(5, .int ((-1))), (4, .int ((-1))), (3, .int q5.1), (2, .int q4.1), (0, .ref (E.1 0)), (1, .int x1)]) (pc := 58) Γ nd_Ro_improve_58 (by decide) rfl ?_
  refine rl_iconst (v := 0) (pc := 60) Γ nd_Ro_improve_60 (by decide) ?_
  refine rl_istore (L' := [(6, .int 0), (5, .int ((-1))), (4, .int ((-1))), (3, .int q5.1), (2, .int q4.1), (0, .ref (E.1 0)), (1, .int x1)]) (pc := 61) Γ nd_Ro_improve_61 (by decide) rfl ?_
  refine rl_Gsub [5, 6, 4, 3, 2, 1, 0] rfl (rw_Ro_improve_L63 Γ hO hr hk x1  _ ?_ 10000 q4.1 q5.1 ((-1)) ((-1)) 0 q5.2 h)
  · intro q21y4 q21y5 q21m h
    refine rl_iload (pc := 213) Γ nd_Ro_improve_213 1 rfl ?_
    refine rl_iconst (v := (-1)) (pc := 215) Γ nd_Ro_improve_215 (by decide) ?_
    refine rl_icmp_ne (tgt := 221) (pc := 216) Γ nd_Ro_improve_216 (by decide) (fun q22 => ?_) (fun q22 => ?_)
    · have h := rl_iff q22 h
      refine rl_aload_n (pc := 221) Γ nd_Ro_improve_221 0 rfl ?_
      refine rl_iload (pc := 222) Γ nd_Ro_improve_222 1 rfl ?_
      refine rl_iload (pc := 224) Γ nd_Ro_improve_224 2 rfl ?_
      obtain ⟨q23, q23h, h⟩ := rl_bd h
      refine rl_callVv (As := [.int q21y4, .int q21y5]) (pc := 226) Γ nd_Ro_improve_226 hO (rw_Ro_changePlaces l E q21y4 q21y5  q21m q23 q23h) 2 nm_Ro_159 nm_im_Ro_changePlaces nm_se_Ro_changePlaces nm_ini_Ro nh_Ro_changePlaces (rl_o0 E) rfl ⟨rfl, rfl⟩ (by decide +kernel) (Nat.le_of_ble_eq_true rfl) (Nat.le_of_ble_eq_true rfl) ⟨Nat.zero_le _, Nat.zero_le _⟩ (Nat.le_of_ble_eq_true rfl) rfl rfl ?_
      refine rl_iconst (v := 1) (pc := 229) Γ nd_Ro_improve_229 (by decide) ?_
      exact rl_zret (pc := 230) Γ nd_Ro_improve_230 hr hk (by decide) h
    · have h := rl_ift q22 h
      refine rl_iconst (v := 0) (pc := 219) Γ nd_Ro_improve_219 (by decide) ?_
      exact rl_zret (pc := 220) Γ nd_Ro_improve_220 hr hk (by decide) h
set_option maxHeartbeats 4000000 in
set_option maxRecDepth 100000 in
theorem rw_Ro_improve_J15 {p : Program} {l : Launch} {e : Env} {s : State} {m : MethodId} {args : Array Value} {below : List Frame} {meth : Method} {c : Code} {E : rl_E} (Γ : CallFix p m c nc_Ro_improve 10 s args rl_TT nR_Ro) (hO : rl_Ok E s) (hr : meth.sig.returnType = (some .boolean)) (hk : meth.locks = false)  (s0 : Int32)   {r : Int32 × rl_M}  (σ : rl_M) (h : rf_Ro_improve_J15 s0  σ = some r) : rl_G p l e nr_Ro_improve s m args below meth c 10 E 0 0 (rl_QM below args s E rl_ri r) σ 15 [(0, .ref (E.1 0))] [.int s0] := by
  unfold rf_Ro_improve_J15 at h
  refine rl_istore_n (L' := [(1, .int s0), (0, .ref (E.1 0))]) (pc := 15) Γ nd_Ro_improve_15 (by decide) rfl ?_
  refine rl_aload_n (pc := 16) Γ nd_Ro_improve_16 1 rfl ?_
  refine rl_get (pc := 17) Γ nd_Ro_improve_17 hO (k := 1) (rl_o0 E) rfl (by decide) rfl ⟨ni_Ro, nf_Ro_19⟩ ?_
  obtain ⟨q2, q2h, h⟩ := rl_bd h
  refine rl_callVv (As := []) (pc := 20) Γ nd_Ro_improve_20 hO (rw_Pl_measure l E   σ q2 q2h) 0 nm_Ro_97 nm_im_Pl_measure nm_se_Pl_measure nm_ini_Pl nh_Pl_measure (rl_o3 E) rfl ⟨rfl, rfl⟩ (by decide +kernel) (Nat.le_of_ble_eq_true rfl) (Nat.le_of_ble_eq_true rfl) ⟨Nat.zero_le _, Nat.zero_le _⟩ (Nat.le_of_ble_eq_true rfl) rfl rfl ?_
  refine rl_iload_n (pc := 23) Γ nd_Ro_improve_23 0 rfl ?_
  refine rl_if_eq (tgt := 34) (pc := 24) Γ nd_Ro_improve_24 (by decide) (fun q3 => ?_) (fun q3 => ?_)
  · have h := rl_ift q3 h
    exact rl_Gsub [1, 0] rfl (rw_Ro_improve_J34 Γ hO hr hk s0   q2.2 h)
  · have h := rl_iff q3 h
    refine rl_aload_n (pc := 27) Γ nd_Ro_improve_27 1 rfl ?_
    refine rl_get (pc := 28) Γ nd_Ro_improve_28 hO (k := 1) (rl_o0 E) rfl (by decide) rfl ⟨ni_Ro, nf_Ro_19⟩ ?_
    obtain ⟨q24, q24h, h⟩ := rl_bd h
    refine rl_callVv (As := []) (pc := 31) Γ nd_Ro_improve_31 hO (rw_Pl_settle l E   q2.2 q24 q24h) 0 nm_Ro_113 nm_im_Pl_settle nm_se_Pl_settle nm_ini_Pl nh_Pl_settle (rl_o3 E) rfl ⟨rfl, rfl⟩ (by decide +kernel) (Nat.le_of_ble_eq_true rfl) (Nat.le_of_ble_eq_true rfl) ⟨Nat.zero_le _, Nat.zero_le _⟩ (Nat.le_of_ble_eq_true rfl) rfl rfl ?_
    exact rl_Gsub [1, 0] rfl (rw_Ro_improve_J34 Γ hO hr hk s0   q24.2 h)
set_option maxHeartbeats 4000000 in
set_option maxRecDepth 100000 in
theorem rw_Ro_improve (l : Launch) (E : rl_E)   (σ : rl_M) (r : Int32 × rl_M) (h : rf_Ro_improve  σ = some r) : Met l ny_Ro_improve nw_Ro_improve nr_Ro_improve (rl_P E [.ref (E.1 0)] σ) (rl_Q E (rl_ri r.1) r.2) 0 0 (rl_A E) := by
  refine Met.ofW (cc := nc_Ro_improve) (maxL := 10) (ret := (some .boolean)) (by decide) rfl ?_
  intro p e s m args below meth c s₁ B hml hv
  obtain ⟨rfl, hP, hO⟩ := hv
  have Γ : CallFix p m c nc_Ro_improve 10 s ([.ref (E.1 0)] : List Value).toArray rl_TT nR_Ro := ⟨B.exec, B.bytes, hml, findClass_of_methodNamed B.named, fun w hw => atoms_spec (ws := nw_Ro_improve) B.pre w (List.mem_cons_of_mem _ hw)⟩
  have hr := B.returns
  have hk := B.notSynchronized
  refine rl_start (R := nr_Ro_improve) (Q := rl_QM below _ s E rl_ri r) (nL := 10) (av := [.ref (E.1 0)]) (σ := σ) hP (Nat.le_of_ble_eq_true rfl) ?_
  unfold rf_Ro_improve at h
  refine rl_aload_n (pc := 0) Γ nd_Ro_improve_0 0 rfl ?_
  refine rl_get (pc := 1) Γ nd_Ro_improve_1 hO (k := 2) (rl_o0 E) rfl (by decide) rfl ⟨ni_Ro, nf_Ro_26⟩ ?_
  refine rl_get (pc := 4) Γ nd_Ro_improve_4 hO (k := 0) (rl_o19 E) rfl (by decide) rfl ⟨ni_Wl, nf_Ro_141⟩ ?_
  refine rl_if_le (tgt := 14) (pc := 7) Γ nd_Ro_improve_7 (by decide) (fun q1 => ?_) (fun q1 => ?_)
  · have h := rl_ift q1 h
    refine rl_iconst (v := 0) (pc := 14) Γ nd_Ro_improve_14 (by decide) ?_
    exact rl_Gsub [0] rfl (rw_Ro_improve_J15 Γ hO hr hk 0   σ h)
  · have h := rl_iff q1 h
    refine rl_iconst (v := 1) (pc := 10) Γ nd_Ro_improve_10 (by decide) ?_
    refine rl_goto (tgt := 15) (pc := 11) Γ nd_Ro_improve_11 (by decide) ?_
    exact rl_Gsub [0] rfl (rw_Ro_improve_J15 Γ hO hr hk 1   σ h)
