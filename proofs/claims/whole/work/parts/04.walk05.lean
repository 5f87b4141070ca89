def rf_Rl_addRoom  (σ : rl_M) : Option (Int32 × rl_M) := (if 6 ≤ (σ 4 0) then some ((-1), σ) else some (σ 4 0, rl_su σ 4 0 ((σ 4 0) + 1)))
set_option maxHeartbeats 4000000 in
set_option maxRecDepth 100000 in
theorem rw_Rl_addRoom (l : Launch) (E : rl_E)   (σ : rl_M) (r : Int32 × rl_M) (h : rf_Rl_addRoom  σ = some r) : Met l ny_Rl_addRoom nw_Rl_addRoom nr_Rl_addRoom (rl_P E [.ref (E.1 4)] σ) (rl_Q E (rl_ri r.1) r.2) 0 0 (rl_A E) := by
  refine Met.ofW (cc := nc_Rl_addRoom) (maxL := 1) (ret := (some .int)) (by decide) rfl ?_
  intro p e s m args below meth c s₁ B hml hv
  obtain ⟨rfl, hP, hO⟩ := hv
  have Γ : CallFix p m c nc_Rl_addRoom 1 s ([.ref (E.1 4)] : List Value).toArray rl_TT nR_Rl := ⟨B.exec, B.bytes, hml, findClass_of_methodNamed B.named, fun w hw => atoms_spec (ws := nw_Rl_addRoom) B.pre w (List.mem_cons_of_mem _ hw)⟩
  have hr := B.returns
  have hk := B.notSynchronized
  refine rl_start (R := nr_Rl_addRoom) (Q := rl_QM below _ s E rl_ri r) (nL := 1) (av := [.ref (E.1 4)]) (σ := σ) hP (Nat.le_of_ble_eq_true rfl) ?_
  unfold rf_Rl_addRoom at h
  refine rl_aload_n (pc := 0) Γ nd_Rl_addRoom_0 0 rfl ?_
  refine rl_get (pc := 1) Γ nd_Rl_addRoom_1 hO (k := 0) (rl_o4 E) rfl (by decide) rfl ⟨ni_Rl, nf_Rl_9⟩ ?_
  refine rl_bipush (v := 6) (pc := 4) Γ nd_Rl_addRoom_4 (by decide) ?_
  refine rl_icmp_ge (tgt := 23) (pc := 6) Γ nd_Rl_addRoom_6 (by decide) (fun q1 => ?_) (fun q1 => ?_)
  · have h := rl_ift q1 h
    refine rl_iconst (v := (-1)) (pc := 23) Γ nd_Rl_addRoom_23 (by decide) ?_
    exact rl_iret (pc := 24) Γ nd_Rl_addRoom_24 hr hk h
  · have h := rl_iff q1 h
    refine rl_aload_n (pc := 9) Γ nd_Rl_addRoom_9 0 rfl ?_
    refine rl_dup (pc := 10) Γ nd_Rl_addRoom_10 rfl ?_
    refine rl_get (pc := 11) Γ nd_Rl_addRoom_11 hO (k := 0) (rl_o4 E) rfl (by decide) rfl ⟨ni_Rl, nf_Rl_9⟩ ?_
    refine rl_dup_x1 (pc := 14) Γ nd_Rl_addRoom_14 rfl rfl ?_
    refine rl_iconst (v := 1) (pc := 15) Γ nd_Rl_addRoom_15 (by decide) ?_
    refine rl_iadd (pc := 16) Γ nd_Rl_addRoom_16 ?_
    refine rl_put (pc := 17) Γ nd_Rl_addRoom_17 hO (k := 0) (rl_o4 E) rfl (by decide) (fun _ _ => rfl) ⟨ni_Rl, nf_Rl_9⟩ nt_Rl nto_Rl nn_Rl rfl (fun _ => Nat.le_of_ble_eq_true rfl) rl_ni ?_
    refine rl_goto (tgt := 24) (pc := 20) Γ nd_Rl_addRoom_20 (by decide) ?_
    exact rl_iret (pc := 24) Γ nd_Rl_addRoom_24 hr hk h
def rf_Rl_addSize (x1 : Int32) (x2 : Int32) (x3 : Int32) (σ : rl_M) : Option (Int32 × rl_M) := ((rf_Rl_sizesOf x1 σ).bind (fun q1 => ((rf_Rl_slot x1 q1.1 q1.2).bind (fun q2 => (if q2.1 = ((-1)) then some ((-1), q2.2) else (if rl_ib q2.1 24 = true then (if rl_ib q2.1 24 = true then (if rl_ib x1 6 = true then some (q1.1, rl_su (rl_su (rl_su q2.2 6 q2.1.toNatClampNeg x2) 7 q2.1.toNatClampNeg x3) 5 x1.toNatClampNeg (q1.1 + 1)) else none) else none) else none))))))
set_option maxHeartbeats 4000000 in
set_option maxRecDepth 100000 in
theorem rw_Rl_addSize (l : Launch) (E : rl_E) (x1 : Int32) (x2 : Int32) (x3 : Int32)  (σ : rl_M) (r : Int32 × rl_M) (h : rf_Rl_addSize x1 x2 x3 σ = some r) : Met l ny_Rl_addSize nw_Rl_addSize nr_Rl_addSize (rl_P E [.ref (E.1 4), .int x1, .int x2, .int x3] σ) (rl_Q E (rl_ri r.1) r.2) 0 0 (rl_A E) := by
  refine Met.ofW (cc := nc_Rl_addSize) (maxL := 6) (ret := (some .int)) (by decide) rfl ?_
  intro p e s m args below meth c s₁ B hml hv
  obtain ⟨rfl, hP, hO⟩ := hv
  have Γ : CallFix p m c nc_Rl_addSize 6 s ([.ref (E.1 4), .int x1, .int x2, .int x3] : List Value).toArray rl_TT nR_Rl := ⟨B.exec, B.bytes, hml, findClass_of_methodNamed B.named, fun w hw => atoms_spec (ws := nw_Rl_addSize) B.pre w (List.mem_cons_of_mem _ hw)⟩
  have hr := B.returns
  have hk := B.notSynchronized
  refine rl_start (R := nr_Rl_addSize) (Q := rl_QM below _ s E rl_ri r) (nL := 6) (av := [.ref (E.1 4), .int x1, .int x2, .int x3]) (σ := σ) hP (Nat.le_of_ble_eq_true rfl) ?_
  unfold rf_Rl_addSize at h
  refine rl_aload_n (pc := 0) Γ nd_Rl_addSize_0 0 rfl ?_
  refine rl_iload_n (pc := 1) Γ nd_Rl_addSize_1 1 rfl ?_
  obtain ⟨q1, q1h, h⟩ := rl_bd h
  refine rl_callVi (As := [.int x1]) (pc := 2) Γ nd_Rl_addSize_2 hO (rw_Rl_sizesOf l E x1  σ q1 q1h) 1 nm_Rl_25 nm_im_Rl_sizesOf nm_se_Rl_sizesOf nm_ini_Rl nh_Rl_sizesOf (rl_o4 E) rfl ⟨rfl, rfl⟩ (by decide +kernel) (Nat.le_of_ble_eq_true rfl) (Nat.le_of_ble_eq_true rfl) ⟨Nat.zero_le _, Nat.zero_le _⟩ (Nat.le_of_ble_eq_true rfl) rfl rfl ?_
  refine rl_istore (L' := [(4, .int q1.1), (0, .ref (E.1 4)), (1, .int x1), (2, .int x2), (3, .int x3)]) (pc := 5) Γ nd_Rl_addSize_5 (by decide) rfl ?_
  refine rl_iload_n (pc := 7) Γ nd_Rl_addSize_7 2 rfl ?_
  refine rl_iload (pc := 8) Γ nd_Rl_addSize_8 0 rfl ?_
  obtain ⟨q2, q2h, h⟩ := rl_bd h
  refine rl_callSi (As := [.int x1, .int q1.1]) (pc := 10) Γ nd_Rl_addSize_10 hO (rw_Rl_slot l E x1 q1.1  q1.2 q2 q2h) 2 nm_Rl_29 nm_st_Rl_slot nm_ini_Rl nh_Rl_slot ⟨rfl, rfl⟩ (by decide +kernel) (Nat.le_of_ble_eq_true rfl) (Nat.le_of_ble_eq_true rfl) ⟨Nat.zero_le _, Nat.zero_le _⟩ (Nat.le_of_ble_eq_true rfl) rfl rfl ?_
  refine rl_istore (L' := [(5, .int q2.1), (4, .int q1.1), (0, .ref (E.1 4)), (1, .int x1), (2, .int x2), (3, .int x3)]) (pc := 13) Γ nd_Rl_addSize_13 (by decide) rfl ?_
  refine rl_iload (pc := 15) Γ nd_Rl_addSize_15 0 rfl ?_
  refine rl_iconst (v := (-1)) (pc := 17) Γ nd_Rl_addSize_17 (by decide) ?_
  refine rl_icmp_ne (tgt := 23) (pc := 18) Γ nd_Rl_addSize_18 (by decide) (fun q3 => ?_) (fun q3 => ?_)
  · have h := rl_iff q3 h
    refine rl_aload_n (pc := 23) Γ nd_Rl_addSize_23 2 rfl ?_
    refine rl_get (pc := 24) Γ nd_Rl_addSize_24 hO (k := 2) (rl_o4 E) rfl (by decide) rfl ⟨ni_Rl, nf_Rl_19⟩ ?_
    refine rl_iload (pc := 27) Γ nd_Rl_addSize_27 0 rfl ?_
    refine rl_iload_n (pc := 29) Γ nd_Rl_addSize_29 4 rfl ?_
    obtain ⟨q4, h⟩ := rl_if h
    refine rl_ist (pc := 30) Γ nd_Rl_addSize_30 hO (rl_a6 E) (rl_ib_in q4) ?_
    refine rl_aload_n (pc := 31) Γ nd_Rl_addSize_31 2 rfl ?_
    refine rl_get (pc := 32) Γ nd_Rl_addSize_32 hO (k := 3) (rl_o4 E) rfl (by decide) rfl ⟨ni_Rl, nf_Rl_22⟩ ?_
    refine rl_iload (pc := 35) Γ nd_Rl_addSize_35 0 rfl ?_
    refine rl_iload_n (pc := 37) Γ nd_Rl_addSize_37 5 rfl ?_
    obtain ⟨q5, h⟩ := rl_if h
    refine rl_ist (pc := 38) Γ nd_Rl_addSize_38 hO (rl_a7 E) (rl_ib_in q5) ?_
    refine rl_aload_n (pc := 39) Γ nd_Rl_addSize_39 2 rfl ?_
    refine rl_get (pc := 40) Γ nd_Rl_addSize_40 hO (k := 1) (rl_o4 E) rfl (by decide) rfl ⟨ni_Rl, nf_Rl_15⟩ ?_
    refine rl_iload_n (pc := 43) Γ nd_Rl_addSize_43 3 rfl ?_
    refine rl_iload (pc := 44) Γ nd_Rl_addSize_44 1 rfl ?_
    refine rl_iconst (v := 1) (pc := 46) Γ nd_Rl_addSize_46 (by decide) ?_
    refine rl_iadd (pc := 47) Γ nd_Rl_addSize_47 ?_
    obtain ⟨q6, h⟩ := rl_if h
    refine rl_ist (pc := 48) Γ nd_Rl_addSize_48 hO (rl_a5 E) (rl_ib_in q6) ?_
    refine rl_iload (pc := 49) Γ nd_Rl_addSize_49 1 rfl ?_
    exact rl_iret (pc := 51) Γ nd_Rl_addSize_51 hr hk h
  · have h := rl_ift q3 h
    refine rl_iconst (v := (-1)) (pc := 21) Γ nd_Rl_addSize_21 (by decide) ?_
    exact rl_iret (pc := 22) Γ nd_Rl_addSize_22 hr hk h
def rf_Sr_clear  (σ : rl_M) : Option (Int32 × rl_M) := some (0, rl_su σ 1 0 0)
set_option maxHeartbeats 4000000 in
set_option maxRecDepth 100000 in
theorem rw_Sr_clear (l : Launch) (E : rl_E)   (σ : rl_M) (r : Int32 × rl_M) (h : rf_Sr_clear  σ = some r) : Met l ny_Sr_clear nw_Sr_clear nr_Sr_clear (rl_P E [.ref (E.1 1)] σ) (rl_Q E (rl_rv r.1) r.2) 0 0 (rl_A E) := by
  refine Met.ofW (cc := nc_Sr_clear) (maxL := 1) (ret := none) (by decide) rfl ?_
  intro p e s m args below meth c s₁ B hml hv
  obtain ⟨rfl, hP, hO⟩ := hv
  have Γ : CallFix p m c nc_Sr_clear 1 s ([.ref (E.1 1)] : List Value).toArray rl_TT nR_Sr := ⟨B.exec, B.bytes, hml, findClass_of_methodNamed B.named, fun w hw => atoms_spec (ws := nw_Sr_clear) B.pre w (List.mem_cons_of_mem _ hw)⟩
  have hr := B.returns
  have hk := B.notSynchronized
  refine rl_start (R := nr_Sr_clear) (Q := rl_QM below _ s E rl_rv r) (nL := 1) (av := [.ref (E.1 1)]) (σ := σ) hP (Nat.le_of_ble_eq_true rfl) ?_
  unfold rf_Sr_clear at h
  refine rl_aload_n (pc := 0) Γ nd_Sr_clear_0 0 rfl ?_
  refine rl_iconst (v := 0) (pc := 1) Γ nd_Sr_clear_1 (by decide) ?_
  refine rl_put (pc := 2) Γ nd_Sr_clear_2 hO (k := 0) (rl_o1 E) rfl (by decide) (fun _ _ => rfl) ⟨ni_Sr, nf_Sr_9⟩ nt_Sr nto_Sr nn_Sr rfl (fun _ => Nat.le_of_ble_eq_true rfl) rl_ni ?_
  exact rl_vret (pc := 5) Γ nd_Sr_clear_5 hr hk h
def rf_Sr_addBytes_L3 (l1 : Int64)  : Nat → Int32 → rl_M → Option (Int32 × rl_M)
  | 0, _, _ => none
  | n + 1, x3, σ => (if x3 < 0 then some (0, σ) else (if ((((l1.toUInt64 >>> ((8 * x3).toInt64.toUInt64 &&& Int64.toUInt64 63)).toInt64).toInt32) &&& 255) = 0 then rf_Sr_addBytes_L3 l1  n (x3 + (-1)) σ else (if 16 ≤ (σ 1 0) then rf_Sr_addBytes_L3 l1  n (x3 + (-1)) σ else (if rl_ib (σ 1 0) 16 = true then rf_Sr_addBytes_L3 l1  n (x3 + (-1)) (rl_su (rl_su σ 2 (σ 1 0).toNatClampNeg ((((l1.toUInt64 >>> ((8 * x3).toInt64.toUInt64 &&& Int64.toUInt64 63)).toInt64).toInt32) &&& 255)) 1 0 (((rl_su σ 2 (σ 1 0).toNatClampNeg ((((l1.toUInt64 >>> ((8 * x3).toInt64.toUInt64 &&& Int64.toUInt64 63)).toInt64).toInt32) &&& 255)) 1 0) + 1)) else none))))
def rf_Sr_addBytes (l1 : Int64) (σ : rl_M) : Option (Int32 × rl_M) := rf_Sr_addBytes_L3 l1  10000 7 σ
set_option maxHeartbeats 4000000 in
set_option maxRecDepth 100000 in
theorem rw_Sr_addBytes_L3 {p : Program} {l : Launch} {e : Env} {s : State} {m : MethodId} {args : Array Value} {below : List Frame} {meth : Method} {c : Code} {E : rl_E} (Γ : CallFix p m c nc_Sr_addBytes 5 s args rl_TT nR_Sr) (hO : rl_Ok E s) (hr : meth.sig.returnType = none) (hk : meth.locks = false) (l1 : Int64)   {r : Int32 × rl_M}  : ∀ (n : Nat) (x3 : Int32) (σ : rl_M), rf_Sr_addBytes_L3 l1  n x3 σ = some r → rl_G p l e nr_Sr_addBytes s m args below meth c 5 E 0 0 (rl_QM below args s E rl_rv r) σ 3 [(0, .ref (E.1 1)), (1, .long l1), (3, .int x3)] [] := by
  intro n
  induction n with
  | zero =>
    intro x3 σ h
    exact (rl_ns (show none = some r from h)).elim
  | succ n ih =>
    intro x3 σ h
    unfold rf_Sr_addBytes_L3 at h
    refine rl_iload_n (pc := 3) Γ nd_Sr_addBytes_3 2 rfl ?_
    refine rl_if_lt (tgt := 61) (pc := 4) Γ nd_Sr_addBytes_4 (by decide) (fun q1 => ?_) (fun q1 => ?_)
    · have h := rl_ift q1 h
      exact rl_vret (pc := 61) Γ nd_Sr_addBytes_61 hr hk h
    · have h := rl_iff q1 h
      refine rl_lload_n (pc := 7) Γ nd_Sr_addBytes_7 1 rfl ?_
      refine rl_bipush (v := 8) (pc := 8) Γ nd_Sr_addBytes_8 (by decide) ?_
      refine rl_iload_n (pc := 10) Γ nd_Sr_addBytes_10 2 rfl ?_
      refine rl_imul (pc := 11) Γ nd_Sr_addBytes_11 ?_
      refine rl_lushr (pc := 12) Γ nd_Sr_addBytes_12 ?_
      refine rl_l2i (pc := 13) Γ nd_Sr_addBytes_13 ?_
      refine rl_sipush (v := 255) (pc := 14) Γ nd_Sr_addBytes_14 (by decide) ?_
      refine rl_iand (pc := 17) Γ nd_Sr_addBytes_17 ?_
      refine rl_istore (L' := [(4, .int ((((l1.toUInt64 >>> ((8 * x3).toInt64.toUInt64 &&& Int64.toUInt64 63)).toInt64).toInt32) &&& 255)), (0, .ref (E.1 1)), (1, .long l1), (3, .int x3)]) (pc := 18) Γ nd_Sr_addBytes_18 (by decide) rfl ?_
      refine rl_iload (pc := 20) Γ nd_Sr_addBytes_20 0 rfl ?_
      refine rl_if_eq (tgt := 55) (pc := 22) Γ nd_Sr_addBytes_22 (by decide) (fun q2 => ?_) (fun q2 => ?_)
      · have h := rl_ift q2 h
        refine rl_iinc (v := x3 + (-1)) (L' := [(3, .int (x3 + (-1))), (4, .int ((((l1.toUInt64 >>> ((8 * x3).toInt64.toUInt64 &&& Int64.toUInt64 63)).toInt64).toInt32) &&& 255)), (0, .ref (E.1 1)), (1, .long l1)]) (pc := 55) Γ nd_Sr_addBytes_55 3 rfl rfl (by decide) rfl ?_
        refine rl_goto (tgt := 3) (pc := 58) Γ nd_Sr_addBytes_58 (by decide) ?_
        exact rl_Gsub [2, 3, 0] rfl (ih (x3 + (-1)) σ h)
      · have h := rl_iff q2 h
        refine rl_aload_n (pc := 25) Γ nd_Sr_addBytes_25 1 rfl ?_
        refine rl_get (pc := 26) Γ nd_Sr_addBytes_26 hO (k := 0) (rl_o1 E) rfl (by decide) rfl ⟨ni_Sr, nf_Sr_9⟩ ?_
        refine rl_bipush (v := 16) (pc := 29) Γ nd_Sr_addBytes_29 (by decide) ?_
        refine rl_icmp_ge (tgt := 55) (pc := 31) Γ nd_Sr_addBytes_31 (by decide) (fun q3 => ?_) (fun q3 => ?_)
        · have h := rl_ift q3 h
          refine rl_iinc (v := x3 + (-1)) (L' := [(3, .int (x3 + (-1))), (4, .int ((((l1.toUInt64 >>> ((8 * x3).toInt64.toUInt64 &&& Int64.toUInt64 63)).toInt64).toInt32) &&& 255)), (0, .ref (E.1 1)), (1, .long l1)]) (pc := 55) Γ nd_Sr_addBytes_55 3 rfl rfl (by decide) rfl ?_
          refine rl_goto (tgt := 3) (pc := 58) Γ nd_Sr_addBytes_58 (by decide) ?_
          exact rl_Gsub [2, 3, 0] rfl (ih (x3 + (-1)) σ h)
        · have h := rl_iff q3 h
          refine rl_aload_n (pc := 34) Γ nd_Sr_addBytes_34 1 rfl ?_
          refine rl_get (pc := 35) Γ nd_Sr_addBytes_35 hO (k := 1) (rl_o1 E) rfl (by decide) rfl ⟨ni_Sr, nf_Sr_15⟩ ?_
          refine rl_aload_n (pc := 38) Γ nd_Sr_addBytes_38 1 rfl ?_
          refine rl_get (pc := 39) Γ nd_Sr_addBytes_39 hO (k := 0) (rl_o1 E) rfl (by decide) rfl ⟨ni_Sr, nf_Sr_9⟩ ?_
          refine rl_iload (pc := 42) Γ nd_Sr_addBytes_42 0 rfl ?_
          obtain ⟨q4, h⟩ := rl_if h
          refine rl_ist (pc := 44) Γ nd_Sr_addBytes_44 hO (rl_a2 E) (rl_ib_in q4) ?_
          refine rl_aload_n (pc := 45) Γ nd_Sr_addBytes_45 1 rfl ?_
          refine rl_dup (pc := 46) Γ nd_Sr_addBytes_46 rfl ?_
          refine rl_get (pc := 47) Γ nd_Sr_addBytes_47 hO (k := 0) (rl_o1 E) rfl (by decide) rfl ⟨ni_Sr, nf_Sr_9⟩ ?_
          refine rl_iconst (v := 1) (pc := 50) Γ nd_Sr_addBytes_50 (by decide) ?_
          refine rl_iadd (pc := 51) Γ nd_Sr_addBytes_51 ?_
          refine rl_put (pc := 52) Γ nd_Sr_addBytes_52 hO (k := 0) (rl_o1 E) rfl (by decide) (fun _ _ => rfl) ⟨ni_Sr, nf_Sr_9⟩ nt_Sr nto_Sr nn_Sr rfl (fun _ => Nat.le_of_ble_eq_true rfl) rl_ni ?_
          refine rl_iinc (v := x3 + (-1)) (L' := [(3, .int (x3 + (-1))), (4, .int ((((l1.toUInt64 >>> ((8 * x3).toInt64.toUInt64 &&& Int64.toUInt64 63)).toInt64).toInt32) &&& 255)), (0, .ref (E.1 1)), (1, .long l1)]) (pc := 55) Γ nd_Sr_addBytes_55 3 rfl rfl (by decide) rfl ?_
          refine rl_goto (tgt := 3) (pc := 58) Γ nd_Sr_addBytes_58 (by decide) ?_
          exact rl_Gsub [2, 3, 0] rfl (ih (x3 + (-1)) (rl_su (rl_su σ 2 (σ 1 0).toNatClampNeg ((((l1.toUInt64 >>> ((8 * x3).toInt64.toUInt64 &&& Int64.toUInt64 63)).toInt64).toInt32) &&& 255)) 1 0 (((rl_su σ 2 (σ 1 0).toNatClampNeg ((((l1.toUInt64 >>> ((8 * x3).toInt64.toUInt64 &&& Int64.toUInt64 63)).toInt64).toInt32) &&& 255)) 1 0) + 1)) h)
set_option maxHeartbeats 4000000 in
set_option maxRecDepth 100000 in
theorem rw_Sr_addBytes (l : Launch) (E : rl_E) (l1 : Int64)  (σ : rl_M) (r : Int32 × rl_M) (h : rf_Sr_addBytes l1 σ = some r) : Met l ny_Sr_addBytes nw_Sr_addBytes nr_Sr_addBytes (rl_P E [.ref (E.1 1), .long l1] σ) (rl_Q E (rl_rv r.1) r.2) 0 0 (rl_A E) := by
  refine Met.ofW (cc := nc_Sr_addBytes) (maxL := 5) (ret := none) (by decide) rfl ?_
  intro p e s m args below meth c s₁ B hml hv
  obtain ⟨rfl, hP, hO⟩ := hv
  have Γ : CallFix p m c nc_Sr_addBytes 5 s ([.ref (E.1 1), .long l1] : List Value).toArray rl_TT nR_Sr := ⟨B.exec, B.bytes, hml, findClass_of_methodNamed B.named, fun w hw => atoms_spec (ws := nw_Sr_addBytes) B.pre w (List.mem_cons_of_mem _ hw)⟩
  have hr := B.returns
  have hk := B.notSynchronized
  refine rl_start (R := nr_Sr_addBytes) (Q := rl_QM below _ s E rl_rv r) (nL := 5) (av := [.ref (E.1 1), .long l1]) (σ := σ) hP (Nat.le_of_ble_eq_true rfl) ?_
  unfold rf_Sr_addBytes at h
  refine rl_bipush (v := 7) (pc := 0) Γ nd_Sr_addBytes_0 (by decide) ?_
  refine rl_istore_n (L' := [(3, .int 7), (0, .ref (E.1 1)), (1, .long l1)]) (pc := 2) Γ nd_Sr_addBytes_2 (by decide) rfl ?_
  refine rl_Gsub [1, 2, 0] rfl (rw_Sr_addBytes_L3 Γ hO hr hk l1    10000 7 σ h)
def rf_Sr_signAt (x1 : Int32) (σ : rl_M) : Option (Int32 × rl_M) := (if x1 < 0 then some ((-1), σ) else (if (σ 1 0) ≤ x1 then some ((-1), σ) else (if 16 ≤ x1 then some ((-1), σ) else (if rl_ib x1 16 = true then some (σ 2 x1.toNatClampNeg, σ) else none))))
set_option maxHeartbeats 4000000 in
set_option maxRecDepth 100000 in
theorem rw_Sr_signAt (l : Launch) (E : rl_E) (x1 : Int32)  (σ : rl_M) (r : Int32 × rl_M) (h : rf_Sr_signAt x1 σ = some r) : Met l ny_Sr_signAt nw_Sr_signAt nr_Sr_signAt (rl_P E [.ref (E.1 1), .int x1] σ) (rl_Q E (rl_ri r.1) r.2) 0 0 (rl_A E) := by
  refine Met.ofW (cc := nc_Sr_signAt) (maxL := 2) (ret := (some .int)) (by decide) rfl ?_
  intro p e s m args below meth c s₁ B hml hv
  obtain ⟨rfl, hP, hO⟩ := hv
  have Γ : CallFix p m c nc_Sr_signAt 2 s ([.ref (E.1 1), .int x1] : List Value).toArray rl_TT nR_Sr := ⟨B.exec, B.bytes, hml, findClass_of_methodNamed B.named, fun w hw => atoms_spec (ws := nw_Sr_signAt) B.pre w (List.mem_cons_of_mem _ hw)⟩
  have hr := B.returns
  have hk := B.notSynchronized
  refine rl_start (R := nr_Sr_signAt) (Q := rl_QM below _ s E rl_ri r) (nL := 2) (av := [.ref (E.1 1), .int x1]) (σ := σ) hP (Nat.le_of_ble_eq_true rfl) ?_
  unfold rf_Sr_signAt at h
  refine rl_iload_n (pc := 0) Γ nd_Sr_signAt_0 1 rfl ?_
  refine rl_if_lt (tgt := 27) (pc := 1) Γ nd_Sr_signAt_1 (by decide) (fun q1 => ?_) (fun q1 => ?_)
  · have h := rl_ift q1 h
    refine rl_iconst (v := (-1)) (pc := 27) Γ nd_Sr_signAt_27 (by decide) ?_
    exact rl_iret (pc := 28) Γ nd_Sr_signAt_28 hr hk h
  · have h := rl_iff q1 h
    refine rl_iload_n (pc := 4) Γ nd_Sr_signAt_4 1 rfl ?_
    refine rl_aload_n (pc := 5) Γ nd_Sr_signAt_5 0 rfl ?_
    refine rl_get (pc := 6) Γ nd_Sr_signAt_6 hO (k := 0) (rl_o1 E) rfl (by decide) rfl ⟨ni_Sr, nf_Sr_9⟩ ?_
    refine rl_icmp_ge (tgt := 27) (pc := 9) Γ nd_Sr_signAt_9 (by decide) (fun q2 => ?_) (fun q2 => ?_)
    · have h := rl_ift q2 h
      refine rl_iconst (v := (-1)) (pc := 27) Γ nd_Sr_signAt_27 (by decide) ?_
      exact rl_iret (pc := 28) Γ nd_Sr_signAt_28 hr hk h
    · have h := rl_iff q2 h
      refine rl_iload_n (pc := 12) Γ nd_Sr_signAt_12 1 rfl ?_
      refine rl_bipush (v := 16) (pc := 13) Γ nd_Sr_signAt_13 (by decide) ?_
      refine rl_icmp_ge (tgt := 27) (pc := 15) Γ nd_Sr_signAt_15 (by decide) (fun q3 => ?_) (fun q3 => ?_)
      · have h := rl_ift q3 h
        refine rl_iconst (v := (-1)) (pc := 27) Γ nd_Sr_signAt_27 (by decide) ?_
        exact rl_iret (pc := 28) Γ nd_Sr_signAt_28 hr hk h
      · have h := rl_iff q3 h
        refine rl_aload_n (pc := 18) Γ nd_Sr_signAt_18 0 rfl ?_
        refine rl_get (pc := 19) Γ nd_Sr_signAt_19 hO (k := 1) (rl_o1 E) rfl (by decide) rfl ⟨ni_Sr, nf_Sr_15⟩ ?_
        refine rl_iload_n (pc := 22) Γ nd_Sr_signAt_22 1 rfl ?_
        obtain ⟨q4, h⟩ := rl_if h
        refine rl_ild (pc := 23) Γ nd_Sr_signAt_23 hO (rl_a2 E) (rl_ib_in q4) ?_
        refine rl_goto (tgt := 28) (pc := 24) Γ nd_Sr_signAt_24 (by decide) ?_
        exact rl_iret (pc := 28) Γ nd_Sr_signAt_28 hr hk h
def rf_Ro_joins (x0 : Int32) (σ : rl_M) : Option (Int32 × rl_M) := (if x0 = 124 then some (1, σ) else (if x0 = 45 then some (1, σ) else some (0, σ)))
set_option maxHeartbeats 4000000 in
set_option maxRecDepth 100000 in
theorem rw_Ro_joins (l : Launch) (E : rl_E) (x0 : Int32)  (σ : rl_M) (r : Int32 × rl_M) (h : rf_Ro_joins x0 σ = some r) : Met l ny_Ro_joins nw_Ro_joins nr_Ro_joins (rl_P E [.int x0] σ) (rl_Q E (rl_ri r.1) r.2) 0 0 (rl_A E) := by
  refine Met.ofW (cc := nc_Ro_joins) (maxL := 1) (ret := (some .boolean)) (by decide) rfl ?_
  intro p e s m args below meth c s₁ B hml hv
  obtain ⟨rfl, hP, hO⟩ := hv
  have Γ : CallFix p m c nc_Ro_joins 1 s ([.int x0] : List Value).toArray rl_TT nR_Ro := ⟨B.exec, B.bytes, hml, findClass_of_methodNamed B.named, fun w hw => atoms_spec (ws := nw_Ro_joins) B.pre w (List.mem_cons_of_mem _ hw)⟩
  have hr := B.returns
  have hk := B.notSynchronized
  refine rl_start (R := nr_Ro_joins) (Q := rl_QM below _ s E rl_ri r) (nL := 1) (av := [.int x0]) (σ := σ) hP (Nat.le_of_ble_eq_true rfl) ?_
  unfold rf_Ro_joins at h
  refine rl_iload_n (pc := 0) Γ nd_Ro_joins_0 0 rfl ?_
  refine rl_bipush (v := 124) (pc := 1) Γ nd_Ro_joins_1 (by decide) ?_
  refine rl_icmp_eq (tgt := 12) (pc := 3) Γ nd_Ro_joins_3 (by decide) (fun q1 => ?_) (fun q1 => ?_)
  · have h := rl_ift q1 h
    refine rl_iconst (v := 1) (pc := 12) Γ nd_Ro_joins_12 (by decide) ?_
    refine rl_goto (tgt := 17) (pc := 13) Γ nd_Ro_joins_13 (by decide) ?_
    exact rl_zret (pc := 17) Γ nd_Ro_joins_17 hr hk (by decide) h
  · have h := rl_iff q1 h
    refine rl_iload_n (pc := 6) Γ nd_Ro_joins_6 0 rfl ?_
    refine rl_bipush (v := 45) (pc := 7) Γ nd_Ro_joins_7 (by decide) ?_
    refine rl_icmp_ne (tgt := 16) (pc := 9) Γ nd_Ro_joins_9 (by decide) (fun q2 => ?_) (fun q2 => ?_)
    · have h := rl_iff q2 h
      refine rl_iconst (v := 0) (pc := 16) Γ nd_Ro_joins_16 (by decide) ?_
      exact rl_zret (pc := 17) Γ nd_Ro_joins_17 hr hk (by decide) h
    · have h := rl_ift q2 h
      refine rl_iconst (v := 1) (pc := 12) Γ nd_Ro_joins_12 (by decide) ?_
      refine rl_goto (tgt := 17) (pc := 13) Γ nd_Ro_joins_13 (by decide) ?_
      exact rl_zret (pc := 17) Γ nd_Ro_joins_17 hr hk (by decide) h
def rf_Sr_firstFault_L7  (K96 : Int32 → rl_M → Option (Int32 × rl_M)) : Nat → Int32 → Int32 → Int32 → rl_M → Option (Int32 × rl_M)
  | 0, _, _, _, _ => none
  | n + 1, x2, x3, x4, σ => (if (σ 1 0) ≤ x4 then K96 x3 σ else ((rf_Sr_signAt x4 σ).bind (fun q2 => ((rf_Ro_roomOfSign q2.1 q2.2).bind (fun q3 => (if q3.1 = ((-1)) then ((rf_Ro_joins q2.1 q3.2).bind (fun q5 => (if q5.1 = 0 then some (x4, q5.2) else (if 2 ≤ x3 then rf_Sr_firstFault_L7  K96 n x2 (x3 + (-1)) (x4 + 1) q5.2 else some (x4, q5.2))))) else ((rf_Rl_sizesOf q3.1 q3.2).bind (fun q8 => (if q8.1 = 0 then some (x4, q8.2) else (if (x2 &&& (1 <<< (q3.1 &&& 31))) = 0 then rf_Sr_firstFault_L7  K96 n (x2 ||| (1 <<< (q3.1 &&& 31))) (x3 + 1) (x4 + 1) q8.2 else some (x4, q8.2)))))))))))
def rf_Sr_firstFault  (σ : rl_M) : Option (Int32 × rl_M) := rf_Sr_firstFault_L7  (fun (q11y3 : Int32) (q11m : rl_M) => (if q11y3 = 1 then some ((-1), q11m) else some (q11m 1 0, q11m))) 10000 0 0 0 σ
set_option maxHeartbeats 4000000 in
set_option maxRecDepth 100000 in
theorem rw_Sr_firstFault_L7 {p : Program} {l : Launch} {e : Env} {s : State} {m : MethodId} {args : Array Value} {below : List Frame} {meth : Method} {c : Code} {E : rl_E} (Γ : CallFix p m c nc_Sr_firstFault 7 s args rl_TT nR_Sr) (hO : rl_Ok E s) (hr : meth.sig.returnType = (some .int)) (hk : meth.locks = false)   (K96 : Int32 → rl_M → Option (Int32 × rl_M)) {r : Int32 × rl_M} (hK96 : ∀ (y3 : Int32) (σ : rl_M), K96 y3 σ = some r → rl_G p l e nr_Sr_firstFault s m args below meth c 7 E 0 0 (rl_QM below args s E rl_ri r) σ 96 [(0, .ref (E.1 1)), (3, .int y3)] []) : ∀ (n : Nat) (x2 : Int32) (x3 : Int32) (x4 : Int32) (σ : rl_M), rf_Sr_firstFault_L7  K96 n x2 x3 x4 σ = some r → rl_G p l e nr_Sr_firstFault s m args below meth c 7 E 0 0 (rl_QM below args s E rl_ri r) σ 7 [(0, .ref (E.1 1)), (1, .ref (E.1 4)), (2, .int x2), (3, .int x3), (4, .int x4)] [] := by
  intro n
  induction n with
  | zero =>
    intro x2 x3 x4 σ h
    exact (rl_ns (show none = some r from h)).elim
  | succ n ih =>
    intro x2 x3 x4 σ h
    unfold rf_Sr_firstFault_L7 at h
    refine rl_iload (pc := 7) Γ nd_Sr_firstFault_7 4 rfl ?_
    refine rl_aload_n (pc := 9) Γ nd_Sr_firstFault_9 0 rfl ?_
    refine rl_get (pc := 10) Γ nd_Sr_firstFault_10 hO (k := 0) (rl_o1 E) rfl (by decide) rfl ⟨ni_Sr, nf_Sr_9⟩ ?_
    refine rl_icmp_ge (tgt := 96) (pc := 13) Γ nd_Sr_firstFault_13 (by decide) (fun q1 => ?_) (fun q1 => ?_)
    · have h := rl_ift q1 h
      exact rl_Gsub [0, 3] rfl (hK96 x3 σ h)
    · have h := rl_iff q1 h
      refine rl_aload_n (pc := 16) Γ nd_Sr_firstFault_16 0 rfl ?_
      refine rl_iload (pc := 17) Γ nd_Sr_firstFault_17 4 rfl ?_
      obtain ⟨q2, q2h, h⟩ := rl_bd h
      refine rl_callVi (As := [.int x4]) (pc := 19) Γ nd_Sr_firstFault_19 hO (rw_Sr_signAt l E x4  σ q2 q2h) 1 nm_Sr_19 nm_im_Sr_signAt nm_se_Sr_signAt nm_ini_Sr nh_Sr_signAt (rl_o1 E) rfl ⟨rfl, rfl⟩ (by decide +kernel) (Nat.le_of_ble_eq_true rfl) (Nat.le_of_ble_eq_true rfl) ⟨Nat.zero_le _, Nat.zero_le _⟩ (Nat.le_of_ble_eq_true rfl) rfl rfl ?_
      refine rl_istore (L' := [(5, .int q2.1), (0, .ref (E.1 1)), (1, .ref (E.1 4)), (2, .int x2), (3, .int x3), (4, .int x4)]) (pc := 22) Γ nd_Sr_firstFault_22 (by decide) rfl ?_
      refine rl_iload (pc := 24) Γ nd_Sr_firstFault_24 0 rfl ?_
      obtain ⟨q3, q3h, h⟩ := rl_bd h
      refine rl_callSNi (As := [.int q2.1]) (pc := 26) Γ nd_Sr_firstFault_26 hO (rw_Ro_roomOfSign l E q2.1  q2.2 q3 q3h) 1 (rl_n0 hO) nm_st_Ro_roomOfSign nm_ini_Ro nh_Ro_roomOfSign ⟨rfl, rfl⟩ (by decide +kernel) (Nat.le_of_ble_eq_true rfl) (Nat.le_of_ble_eq_true rfl) ⟨Nat.zero_le _, Nat.zero_le _⟩ (Nat.le_of_ble_eq_true rfl) rfl rfl ?_
      refine rl_istore (L' := [(6, .int q3.1), (5, .int q2.1), (0, .ref (E.1 1)), (1, .ref (E.1 4)), (2, .int x2), (3, .int x3), (4, .int x4)]) (pc := 29) Γ nd_Sr_firstFault_29 (by decide) rfl ?_
      refine rl_iload (pc := 31) Γ nd_Sr_firstFault_31 0 rfl ?_
      refine rl_iconst (v := (-1)) (pc := 33) Γ nd_Sr_firstFault_33 (by decide) ?_
      refine rl_icmp_eq (tgt := 71) (pc := 34) Γ nd_Sr_firstFault_34 (by decide) (fun q4 => ?_) (fun q4 => ?_)
      · have h := rl_ift q4 h
        refine rl_iload (pc := 71) Γ nd_Sr_firstFault_71 1 rfl ?_
        obtain ⟨q5, q5h, h⟩ := rl_bd h
        refine rl_callSNi (As := [.int q2.1]) (pc := 73) Γ nd_Sr_firstFault_73 hO (rw_Ro_joins l E q2.1  q3.2 q5 q5h) 1 (rl_n1 hO) nm_st_Ro_joins nm_ini_Ro nh_Ro_joins ⟨rfl, rfl⟩ (by decide +kernel) (Nat.le_of_ble_eq_true rfl) (Nat.le_of_ble_eq_true rfl) ⟨Nat.zero_le _, Nat.zero_le _⟩ (Nat.le_of_ble_eq_true rfl) rfl rfl ?_
        refine rl_if_eq (tgt := 84) (pc := 76) Γ nd_Sr_firstFault_76 (by decide) (fun q6 => ?_) (fun q6 => ?_)
        · have h := rl_ift q6 h
          refine rl_iload (pc := 84) Γ nd_Sr_firstFault_84 6 rfl ?_
          exact rl_iret (pc := 86) Γ nd_Sr_firstFault_86 hr hk h
        · have h := rl_iff q6 h
          refine rl_iload_n (pc := 79) Γ nd_Sr_firstFault_79 5 rfl ?_
          refine rl_iconst (v := 2) (pc := 80) Γ nd_Sr_firstFault_80 (by decide) ?_
          refine rl_icmp_ge (tgt := 87) (pc := 81) Γ nd_Sr_firstFault_81 (by decide) (fun q7 => ?_) (fun q7 => ?_)
          · have h := rl_ift q7 h
            refine rl_iinc (v := x3 + (-1)) (L' := [(3, .int (x3 + (-1))), (6, .int q3.1), (5, .int q2.1), (0, .ref (E.1 1)), (1, .ref (E.1 4)), (2, .int x2), (4, .int x4)]) (pc := 87) Γ nd_Sr_firstFault_87 5 rfl rfl (by decide) rfl ?_
            refine rl_iinc (v := x4 + 1) (L' := [(4, .int (x4 + 1)), (3, .int (x3 + (-1))), (6, .int q3.1), (5, .int q2.1), (0, .ref (E.1 1)), (1, .ref (E.1 4)), (2, .int x2)]) (pc := 90) Γ nd_Sr_firstFault_90 6 rfl rfl (by decide) rfl ?_
            refine rl_goto (tgt := 7) (pc := 93) Γ nd_Sr_firstFault_93 (by decide) ?_
            exact rl_Gsub [4, 5, 6, 1, 0] rfl (ih x2 (x3 + (-1)) (x4 + 1) q5.2 h)
          · have h := rl_iff q7 h
            refine rl_iload (pc := 84) Γ nd_Sr_firstFault_84 6 rfl ?_
            exact rl_iret (pc := 86) Γ nd_Sr_firstFault_86 hr hk h
      · have h := rl_iff q4 h
        refine rl_aload_n (pc := 37) Γ nd_Sr_firstFault_37 3 rfl ?_
        refine rl_iload (pc := 38) Γ nd_Sr_firstFault_38 0 rfl ?_
        obtain ⟨q8, q8h, h⟩ := rl_bd h
        refine rl_callVi (As := [.int q3.1]) (pc := 40) Γ nd_Sr_firstFault_40 hO (rw_Rl_sizesOf l E q3.1  q3.2 q8 q8h) 1 nm_Sr_26 nm_im_Rl_sizesOf nm_se_Rl_sizesOf nm_ini_Rl nh_Rl_sizesOf (rl_o4 E) rfl ⟨rfl, rfl⟩ (by decide +kernel) (Nat.le_of_ble_eq_true rfl) (Nat.le_of_ble_eq_true rfl) ⟨Nat.zero_le _, Nat.zero_le _⟩ (Nat.le_of_ble_eq_true rfl) rfl rfl ?_
        refine rl_if_eq (tgt := 55) (pc := 43) Γ nd_Sr_firstFault_43 (by decide) (fun q9 => ?_) (fun q9 => ?_)
        · have h := rl_ift q9 h
          refine rl_iload (pc := 55) Γ nd_Sr_firstFault_55 6 rfl ?_
          exact rl_iret (pc := 57) Γ nd_Sr_firstFault_57 hr hk h
        · have h := rl_iff q9 h
          refine rl_iload_n (pc := 46) Γ nd_Sr_firstFault_46 4 rfl ?_
          refine rl_iconst (v := 1) (pc := 47) Γ nd_Sr_firstFault_47 (by decide) ?_
          refine rl_iload (pc := 48) Γ nd_Sr_firstFault_48 0 rfl ?_
          refine rl_ishl (pc := 50) Γ nd_Sr_firstFault_50 ?_
          refine rl_iand (pc := 51) Γ nd_Sr_firstFault_51 ?_
          refine rl_if_eq (tgt := 58) (pc := 52) Γ nd_Sr_firstFault_52 (by decide) (fun q10 => ?_) (fun q10 => ?_)
          · have h := rl_ift q10 h
            refine rl_iload_n (pc := 58) Γ nd_Sr_firstFault_58 4 rfl ?_
            refine rl_iconst (v := 1) (pc := 59) Γ nd_Sr_firstFault_59 (by decide) ?_
            refine rl_iload (pc := 60) Γ nd_Sr_firstFault_60 0 rfl ?_
            refine rl_ishl (pc := 62) Γ nd_Sr_firstFault_62 ?_
            refine rl_ior (pc := 63) Γ nd_Sr_firstFault_63 ?_
            refine rl_istore_n (L' := [(2, .int (x2 ||| (1 <<< (q3.1 &&& 31)))), (6, .int q3.1), (5, .int q2.1), (0, .ref (E.1 1)), (1, .ref (E.1 4)), (3, .int x3), (4, .int x4)]) (pc := 64) Γ nd_Sr_firstFault_64 (by decide) rfl ?_
            refine rl_iinc (v := x3 + 1) (L' := [(3, .int (x3 + 1)), (2, .int (x2 ||| (1 <<< (q3.1 &&& 31)))), (6, .int q3.1), (5, .int q2.1), (0, .ref (E.1 1)), (1, .ref (E.1 4)), (4, .int x4)]) (pc := 65) Γ nd_Sr_firstFault_65 5 rfl rfl (by decide) rfl ?_
            refine rl_goto (tgt := 90) (pc := 68) Γ nd_Sr_firstFault_68 (by decide) ?_
            refine rl_iinc (v := x4 + 1) (L' := [(4, .int (x4 + 1)), (3, .int (x3 + 1)), (2, .int (x2 ||| (1 <<< (q3.1 &&& 31)))), (6, .int q3.1), (5, .int q2.1), (0, .ref (E.1 1)), (1, .ref (E.1 4))]) (pc := 90) Γ nd_Sr_firstFault_90 6 rfl rfl (by decide) rfl ?_
            refine rl_goto (tgt := 7) (pc := 93) Γ nd_Sr_firstFault_93 (by decide) ?_
            exact rl_Gsub [5, 6, 2, 1, 0] rfl (ih (x2 ||| (1 <<< (q3.1 &&& 31))) (x3 + 1) (x4 + 1) q8.2 h)
          · have h := rl_iff q10 h
            refine rl_iload (pc := 55) Γ nd_Sr_firstFault_55 6 rfl ?_
            exact rl_iret (pc := 57) Γ nd_Sr_firstFault_57 hr hk h
set_option maxHeartbeats 4000000 in
set_option maxRecDepth 100000 in
theorem rw_Sr_firstFault (l : Launch) (E : rl_E)   (σ : rl_M) (r : Int32 × rl_M) (h : rf_Sr_firstFault  σ = some r) : Met l ny_Sr_firstFault nw_Sr_firstFault nr_Sr_firstFault (rl_P E [.ref (E.1 1), .ref (E.1 4)] σ) (rl_Q E (rl_ri r.1) r.2) 0 0 (rl_A E) := by
  refine Met.ofW (cc := nc_Sr_firstFault) (maxL := 7) (ret := (some .int)) (by decide) rfl ?_
  intro p e s m args below meth c s₁ B hml hv
  obtain ⟨rfl, hP, hO⟩ := hv
  have Γ : CallFix p m c nc_Sr_firstFault 7 s ([.ref (E.1 1), .ref (E.1 4)] : List Value).toArray rl_TT nR_Sr := ⟨B.exec, B.bytes, hml, findClass_of_methodNamed B.named, fun w hw => atoms_spec (ws := nw_Sr_firstFault) B.pre w (List.mem_cons_of_mem _ hw)⟩
  have hr := B.returns
  have hk := B.notSynchronized
  refine rl_start (R := nr_Sr_firstFault) (Q := rl_QM below _ s E rl_ri r) (nL := 7) (av := [.ref (E.1 1), .ref (E.1 4)]) (σ := σ) hP (Nat.le_of_ble_eq_true rfl) ?_
  unfold rf_Sr_firstFault at h
  refine rl_iconst (v := 0) (pc := 0) Γ nd_Sr_firstFault_0 (by decide) ?_
  refine rl_istore_n (L' := [(2, .int 0), (0, .ref (E.1 1)), (1, .ref (E.1 4))]) (pc := 1) Γ nd_Sr_firstFault_1 (by decide) rfl ?_
  refine rl_iconst (v := 0) (pc := 2) Γ nd_Sr_firstFault_2 (by decide) ?_
  refine rl_istore_n (L' := [(3, .int 0), (2, .int 0), (0, .ref (E.1 1)), (1, .ref (E.1 4))]) (pc := 3) Γ nd_Sr_firstFault_3 (by decide) rfl ?_
  refine rl_iconst (v := 0) (pc := 4) Γ nd_Sr_firstFault_4 (by decide) ?_
  refine rl_istore (L' := [(4, .int 0), (3, .int 0), (2, .int 0), (0, .ref (E.1 1)), (1, .ref (E.1 4))]) (pc := 5) Γ nd_Sr_firstFault_5 (by decide) rfl ?_
  refine rl_Gsub [3, 4, 2, 1, 0] rfl (rw_Sr_firstFault_L7 Γ hO hr hk   _ ?_ 10000 0 0 0 σ h)
  · intro q11y3 q11m h
    refine rl_iload_n (pc := 96) Γ nd_Sr_firstFault_96 1 rfl ?_
    refine rl_iconst (v := 1) (pc := 97) Γ nd_Sr_firstFault_97 (by decide) ?_
    refine rl_icmp_ne (tgt := 105) (pc := 98) Γ nd_Sr_firstFault_98 (by decide) (fun q12 => ?_) (fun q12 => ?_)
    · have h := rl_iff q12 h
      refine rl_aload_n (pc := 105) Γ nd_Sr_firstFault_105 0 rfl ?_
      refine rl_get (pc := 106) Γ nd_Sr_firstFault_106 hO (k := 0) (rl_o1 E) rfl (by decide) rfl ⟨ni_Sr, nf_Sr_9⟩ ?_
      exact rl_iret (pc := 109) Γ nd_Sr_firstFault_109 hr hk h
    · have h := rl_ift q12 h
      refine rl_iconst (v := (-1)) (pc := 101) Γ nd_Sr_firstFault_101 (by decide) ?_
      refine rl_goto (tgt := 109) (pc := 102) Γ nd_Sr_firstFault_102 (by decide) ?_
      exact rl_iret (pc := 109) Γ nd_Sr_firstFault_109 hr hk h
def rf_St_forgetRooms_L2   : Nat → Int32 → rl_M → Option (Int32 × rl_M)
  | 0, _, _ => none
  | n + 1, x1, σ => (if 6 ≤ x1 then some (0, σ) else (if rl_ib x1 6 = true then rf_St_forgetRooms_L2   n (x1 + 1) (rl_su σ 14 x1.toNatClampNeg ((-1))) else none))
def rf_St_forgetRooms  (σ : rl_M) : Option (Int32 × rl_M) := rf_St_forgetRooms_L2   10000 0 σ
set_option maxHeartbeats 4000000 in
set_option maxRecDepth 100000 in
theorem rw_St_forgetRooms_L2 {p : Program} {l : Launch} {e : Env} {s : State} {m : MethodId} {args : Array Value} {below : List Frame} {meth : Method} {c : Code} {E : rl_E} (Γ : CallFix p m c nc_St_forgetRooms 2 s args rl_TT nR_St) (hO : rl_Ok E s) (hr : meth.sig.returnType = none) (hk : meth.locks = false)    {r : Int32 × rl_M}  : ∀ (n : Nat) (x1 : Int32) (σ : rl_M), rf_St_forgetRooms_L2   n x1 σ = some r → rl_G p l e nr_St_forgetRooms s m args below meth c 2 E 0 0 (rl_QM below args s E rl_rv r) σ 2 [(0, .ref (E.1 8)), (1, .int x1)] [] := by
  intro n
  induction n with
  | zero =>
    intro x1 σ h
    exact (rl_ns (show none = some r from h)).elim
  | succ n ih =>
    intro x1 σ h
    unfold rf_St_forgetRooms_L2 at h
    refine rl_iload_n (pc := 2) Γ nd_St_forgetRooms_2 1 rfl ?_
    refine rl_bipush (v := 6) (pc := 3) Γ nd_St_forgetRooms_3 (by decide) ?_
    refine rl_icmp_ge (tgt := 21) (pc := 5) Γ nd_St_forgetRooms_5 (by decide) (fun q1 => ?_) (fun q1 => ?_)
    · have h := rl_ift q1 h
      exact rl_vret (pc := 21) Γ nd_St_forgetRooms_21 hr hk h
    · have h := rl_iff q1 h
      refine rl_aload_n (pc := 8) Γ nd_St_forgetRooms_8 0 rfl ?_
      refine rl_get (pc := 9) Γ nd_St_forgetRooms_9 hO (k := 6) (rl_o8 E) rfl (by decide) rfl ⟨ni_St, nf_St_31⟩ ?_
      refine rl_iload_n (pc := 12) Γ nd_St_forgetRooms_12 1 rfl ?_
      refine rl_iconst (v := (-1)) (pc := 13) Γ nd_St_forgetRooms_13 (by decide) ?_
      obtain ⟨q2, h⟩ := rl_if h
      refine rl_ist (pc := 14) Γ nd_St_forgetRooms_14 hO (rl_a14 E) (rl_ib_in q2) ?_
      refine rl_iinc (v := x1 + 1) (L' := [(1, .int (x1 + 1)), (0, .ref (E.1 8))]) (pc := 15) Γ nd_St_forgetRooms_15 1 rfl rfl (by decide) rfl ?_
      refine rl_goto (tgt := 2) (pc := 18) Γ nd_St_forgetRooms_18 (by decide) ?_
      exact rl_Gsub [1, 0] rfl (ih (x1 + 1) (rl_su σ 14 x1.toNatClampNeg ((-1))) h)
set_option maxHeartbeats 4000000 in
set_option maxRecDepth 100000 in
theorem rw_St_forgetRooms (l : Launch) (E : rl_E)   (σ : rl_M) (r : Int32 × rl_M) (h : rf_St_forgetRooms  σ = some r) : Met l ny_St_forgetRooms nw_St_forgetRooms nr_St_forgetRooms (rl_P E [.ref (E.1 8)] σ) (rl_Q E (rl_rv r.1) r.2) 0 0 (rl_A E) := by
  refine Met.ofW (cc := nc_St_forgetRooms) (maxL := 2) (ret := none) (by decide) rfl ?_
  intro p e s m args below meth c s₁ B hml hv
  obtain ⟨rfl, hP, hO⟩ := hv
  have Γ : CallFix p m c nc_St_forgetRooms 2 s ([.ref (E.1 8)] : List Value).toArray rl_TT nR_St := ⟨B.exec, B.bytes, hml, findClass_of_methodNamed B.named, fun w hw => atoms_spec (ws := nw_St_forgetRooms) B.pre w (List.mem_cons_of_mem _ hw)⟩
  have hr := B.returns
  have hk := B.notSynchronized
  refine rl_start (R := nr_St_forgetRooms) (Q := rl_QM below _ s E rl_rv r) (nL := 2) (av := [.ref (E.1 8)]) (σ := σ) hP (Nat.le_of_ble_eq_true rfl) ?_
  unfold rf_St_forgetRooms at h
  refine rl_iconst (v := 0) (pc := 0) Γ nd_St_forgetRooms_0 (by decide) ?_
  refine rl_istore_n (L' := [(1, .int 0), (0, .ref (E.1 8))]) (pc := 1) Γ nd_St_forgetRooms_1 (by decide) rfl ?_
  refine rl_Gsub [1, 0] rfl (rw_St_forgetRooms_L2 Γ hO hr hk     10000 0 σ h)
def rf_St_setSign (x1 : Int32) (x2 : Int32) (σ : rl_M) : Option (Int32 × rl_M) := (if rl_ib x1 11 = true then ((rf_Ro_roomOfSign x2 (rl_su σ 9 x1.toNatClampNeg x2)).bind (fun q2 => (if q2.1 < 0 then some (0, q2.2) else (if 6 ≤ q2.1 then some (0, q2.2) else (if rl_ib q2.1 6 = true then some (0, rl_su q2.2 14 q2.1.toNatClampNeg x1) else none))))) else none)
set_option maxHeartbeats 4000000 in
set_option maxRecDepth 100000 in
theorem rw_St_setSign (l : Launch) (E : rl_E) (x1 : Int32) (x2 : Int32)  (σ : rl_M) (r : Int32 × rl_M) (h : rf_St_setSign x1 x2 σ = some r) : Met l ny_St_setSign nw_St_setSign nr_St_setSign (rl_P E [.ref (E.1 8), .int x1, .int x2] σ) (rl_Q E (rl_rv r.1) r.2) 0 0 (rl_A E) := by
  refine Met.ofW (cc := nc_St_setSign) (maxL := 4) (ret := none) (by decide) rfl ?_
  intro p e s m args below meth c s₁ B hml hv
  obtain ⟨rfl, hP, hO⟩ := hv
  have Γ : CallFix p m c nc_St_setSign 4 s ([.ref (E.1 8), .int x1, .int x2] : List Value).toArray rl_TT nR_St := ⟨B.exec, B.bytes, hml, findClass_of_methodNamed B.named, fun w hw => atoms_spec (ws := nw_St_setSign) B.pre w (List.mem_cons_of_mem _ hw)⟩
  have hr := B.returns
  have hk := B.notSynchronized
  refine rl_start (R := nr_St_setSign) (Q := rl_QM below _ s E rl_rv r) (nL := 4) (av := [.ref (E.1 8), .int x1, .int x2]) (σ := σ) hP (Nat.le_of_ble_eq_true rfl) ?_
  unfold rf_St_setSign at h
  refine rl_aload_n (pc := 0) Γ nd_St_setSign_0 0 rfl ?_
  refine rl_get (pc := 1) Γ nd_St_setSign_1 hO (k := 1) (rl_o8 E) rfl (by decide) rfl ⟨ni_St, nf_St_15⟩ ?_
  refine rl_iload_n (pc := 4) Γ nd_St_setSign_4 1 rfl ?_
  refine rl_iload_n (pc := 5) Γ nd_St_setSign_5 2 rfl ?_
  obtain ⟨q1, h⟩ := rl_if h
  refine rl_ist (pc := 6) Γ nd_St_setSign_6 hO (rl_a9 E) (rl_ib_in q1) ?_
  refine rl_iload_n (pc := 7) Γ nd_St_setSign_7 2 rfl ?_
  obtain ⟨q2, q2h, h⟩ := rl_bd h
  refine rl_callSNi (As := [.int x2]) (pc := 8) Γ nd_St_setSign_8 hO (rw_Ro_roomOfSign l E x2  (rl_su σ 9 x1.toNatClampNeg x2) q2 q2h) 1 (rl_n2 hO) nm_st_Ro_roomOfSign nm_ini_Ro nh_Ro_roomOfSign ⟨rfl, rfl⟩ (by decide +kernel) (Nat.le_of_ble_eq_true rfl) (Nat.le_of_ble_eq_true rfl) ⟨Nat.zero_le _, Nat.zero_le _⟩ (Nat.le_of_ble_eq_true rfl) rfl rfl ?_
  refine rl_istore_n (L' := [(3, .int q2.1), (0, .ref (E.1 8)), (1, .int x1), (2, .int x2)]) (pc := 11) Γ nd_St_setSign_11 (by decide) rfl ?_
  refine rl_iload_n (pc := 12) Γ nd_St_setSign_12 0 rfl ?_
  refine rl_if_lt (tgt := 29) (pc := 13) Γ nd_St_setSign_13 (by decide) (fun q3 => ?_) (fun q3 => ?_)
  · have h := rl_ift q3 h
    exact rl_vret (pc := 29) Γ nd_St_setSign_29 hr hk h
  · have h := rl_iff q3 h
    refine rl_iload_n (pc := 16) Γ nd_St_setSign_16 0 rfl ?_
    refine rl_bipush (v := 6) (pc := 17) Γ nd_St_setSign_17 (by decide) ?_
    refine rl_icmp_ge (tgt := 29) (pc := 19) Γ nd_St_setSign_19 (by decide) (fun q4 => ?_) (fun q4 => ?_)
    · have h := rl_ift q4 h
      exact rl_vret (pc := 29) Γ nd_St_setSign_29 hr hk h
    · have h := rl_iff q4 h
      refine rl_aload_n (pc := 22) Γ nd_St_setSign_22 1 rfl ?_
      refine rl_get (pc := 23) Γ nd_St_setSign_23 hO (k := 6) (rl_o8 E) rfl (by decide) rfl ⟨ni_St, nf_St_31⟩ ?_
      refine rl_iload_n (pc := 26) Γ nd_St_setSign_26 0 rfl ?_
      refine rl_iload_n (pc := 27) Γ nd_St_setSign_27 2 rfl ?_
      obtain ⟨q5, h⟩ := rl_if h
      refine rl_ist (pc := 28) Γ nd_St_setSign_28 hO (rl_a14 E) (rl_ib_in q5) ?_
      exact rl_vret (pc := 29) Γ nd_St_setSign_29 hr hk h
def rf_St_link (x1 : Int32) (x2 : Int32) (x3 : Int32) (σ : rl_M) : Option (Int32 × rl_M) := (if rl_ib x1 11 = true then (if rl_ib x1 11 = true then (if rl_ib x2 11 = true then (if rl_ib x3 11 = true then some (0, rl_su (rl_su (rl_su (rl_su σ 10 x1.toNatClampNeg x2) 11 x1.toNatClampNeg x3) 12 x2.toNatClampNeg x1) 12 x3.toNatClampNeg x1) else none) else none) else none) else none)
set_option maxHeartbeats 4000000 in
set_option maxRecDepth 100000 in
theorem rw_St_link (l : Launch) (E : rl_E) (x1 : Int32) (x2 : Int32) (x3 : Int32)  (σ : rl_M) (r : Int32 × rl_M) (h : rf_St_link x1 x2 x3 σ = some r) : Met l ny_St_link nw_St_link nr_St_link (rl_P E [.ref (E.1 8), .int x1, .int x2, .int x3] σ) (rl_Q E (rl_rv r.1) r.2) 0 0 (rl_A E) := by
  refine Met.ofW (cc := nc_St_link) (maxL := 4) (ret := none) (by decide) rfl ?_
  intro p e s m args below meth c s₁ B hml hv
  obtain ⟨rfl, hP, hO⟩ := hv
  have Γ : CallFix p m c nc_St_link 4 s ([.ref (E.1 8), .int x1, .int x2, .int x3] : List Value).toArray rl_TT nR_St := ⟨B.exec, B.bytes, hml, findClass_of_methodNamed B.named, fun w hw => atoms_spec (ws := nw_St_link) B.pre w (List.mem_cons_of_mem _ hw)⟩
  have hr := B.returns
  have hk := B.notSynchronized
  refine rl_start (R := nr_St_link) (Q := rl_QM below _ s E rl_rv r) (nL := 4) (av := [.ref (E.1 8), .int x1, .int x2, .int x3]) (σ := σ) hP (Nat.le_of_ble_eq_true rfl) ?_
  unfold rf_St_link at h
  refine rl_aload_n (pc := 0) Γ nd_St_link_0 0 rfl ?_
  refine rl_get (pc := 1) Γ nd_St_link_1 hO (k := 2) (rl_o8 E) rfl (by decide) rfl ⟨ni_St, nf_St_19⟩ ?_
  refine rl_iload_n (pc := 4) Γ nd_St_link_4 1 rfl ?_
  refine rl_iload_n (pc := 5) Γ nd_St_link_5 2 rfl ?_
  obtain ⟨q1, h⟩ := rl_if h
  refine rl_ist (pc := 6) Γ nd_St_link_6 hO (rl_a10 E) (rl_ib_in q1) ?_
  refine rl_aload_n (pc := 7) Γ nd_St_link_7 0 rfl ?_
  refine rl_get (pc := 8) Γ nd_St_link_8 hO (k := 3) (rl_o8 E) rfl (by decide) rfl ⟨ni_St, nf_St_22⟩ ?_
  refine rl_iload_n (pc := 11) Γ nd_St_link_11 1 rfl ?_
  refine rl_iload_n (pc := 12) Γ nd_St_link_12 3 rfl ?_
  obtain ⟨q2, h⟩ := rl_if h
  refine rl_ist (pc := 13) Γ nd_St_link_13 hO (rl_a11 E) (rl_ib_in q2) ?_
  refine rl_aload_n (pc := 14) Γ nd_St_link_14 0 rfl ?_
  refine rl_get (pc := 15) Γ nd_St_link_15 hO (k := 4) (rl_o8 E) rfl (by decide) rfl ⟨ni_St, nf_St_25⟩ ?_
  refine rl_iload_n (pc := 18) Γ nd_St_link_18 2 rfl ?_
  refine rl_iload_n (pc := 19) Γ nd_St_link_19 1 rfl ?_
  obtain ⟨q3, h⟩ := rl_if h
  refine rl_ist (pc := 20) Γ nd_St_link_20 hO (rl_a12 E) (rl_ib_in q3) ?_
  refine rl_aload_n (pc := 21) Γ nd_St_link_21 0 rfl ?_
  refine rl_get (pc := 22) Γ nd_St_link_22 hO (k := 4) (rl_o8 E) rfl (by decide) rfl ⟨ni_St, nf_St_25⟩ ?_
  refine rl_iload_n (pc := 25) Γ nd_St_link_25 3 rfl ?_
  refine rl_iload_n (pc := 26) Γ nd_St_link_26 1 rfl ?_
  obtain ⟨q4, h⟩ := rl_if h
  refine rl_ist (pc := 27) Γ nd_St_link_27 hO (rl_a12 E) (rl_ib_in q4) ?_
  exact rl_vret (pc := 28) Γ nd_St_link_28 hr hk h
def rf_St_build_L21   : Nat → Int32 → Int32 → rl_M → Option (Int32 × rl_M)
  | 0, _, _, _ => none
  | n + 1, x2, x3, σ => (if (σ 8 0) ≤ x3 then some (0, σ) else ((rf_Sr_signAt x3 σ).bind (fun q3 => ((rf_St_setSign x3 q3.1 q3.2).bind (fun q4 => (if rl_ib x3 11 = true then (if rl_ib x3 11 = true then ((rf_Ro_joins ((rl_su q4.2 12 x3.toNatClampNeg ((-1))) 9 x3.toNatClampNeg) (rl_su q4.2 12 x3.toNatClampNeg ((-1)))).bind (fun q7 => (if q7.1 = 0 then (if rl_ib x2 11 = true then rf_St_build_L21   n (x2 + 1) (x3 + 1) (rl_su q7.2 13 x2.toNatClampNeg x3) else none) else (if x2 < 2 then (if rl_ib x2 11 = true then rf_St_build_L21   n (x2 + 1) (x3 + 1) (rl_su q7.2 13 x2.toNatClampNeg x3) else none) else (if rl_ib (x2 - 2) 11 = true then (if rl_ib (x2 - 1) 11 = true then ((rf_St_link x3 (q7.2 13 (x2 - 2).toNatClampNeg) (q7.2 13 (x2 - 1).toNatClampNeg) q7.2).bind (fun q14 => (if rl_ib (x2 + (-2)) 11 = true then rf_St_build_L21   n ((x2 + (-2)) + 1) (x3 + 1) (rl_su q14.2 13 (x2 + (-2)).toNatClampNeg x3) else none))) else none) else none))))) else none) else none))))))
def rf_St_build  (σ : rl_M) : Option (Int32 × rl_M) := ((rf_St_forgetRooms  (rl_su σ 8 0 (if 11 < (σ 1 0) then 11 else (σ 1 0)))).bind (fun q1 => rf_St_build_L21   10000 0 0 q1.2))
set_option maxHeartbeats 4000000 in
set_option maxRecDepth 100000 in
theorem rw_St_build_L21 {p : Program} {l : Launch} {e : Env} {s : State} {m : MethodId} {args : Array Value} {below : List Frame} {meth : Method} {c : Code} {E : rl_E} (Γ : CallFix p m c nc_St_build 4 s args rl_TT nR_St) (hO : rl_Ok E s) (hr : meth.sig.returnType = none) (hk : meth.locks = false)    {r : Int32 × rl_M}  : ∀ (n : Nat) (x2 : Int32) (x3 : Int32) (σ : rl_M), rf_St_build_L21   n x2 x3 σ = some r → rl_G p l e nr_St_build s m args below meth c 4 E 0 0 (rl_QM below args s E rl_rv r) σ 21 [(0, .ref (E.1 8)), (1, .ref (E.1 1)), (2, .int x2), (3, .int x3)] [] := by
  intro n
  induction n with
  | zero =>
    intro x2 x3 σ h
    exact (rl_ns (show none = some r from h)).elim
  | succ n ih =>
    intro x2 x3 σ h
    unfold rf_St_build_L21 at h
    refine rl_iload_n (pc := 21) Γ nd_St_build_21 3 rfl ?_
    refine rl_aload_n (pc := 22) Γ nd_St_build_22 0 rfl ?_
    refine rl_get (pc := 23) Γ nd_St_build_23 hO (k := 0) (rl_o8 E) rfl (by decide) rfl ⟨ni_St, nf_St_9⟩ ?_
    refine rl_icmp_ge (tgt := 103) (pc := 26) Γ nd_St_build_26 (by decide) (fun q2 => ?_) (fun q2 => ?_)
    · have h := rl_ift q2 h
      exact rl_vret (pc := 103) Γ nd_St_build_103 hr hk h
    · have h := rl_iff q2 h
      refine rl_aload_n (pc := 29) Γ nd_St_build_29 0 rfl ?_
      refine rl_iload_n (pc := 30) Γ nd_St_build_30 3 rfl ?_
      refine rl_aload_n (pc := 31) Γ nd_St_build_31 1 rfl ?_
      refine rl_iload_n (pc := 32) Γ nd_St_build_32 3 rfl ?_
      obtain ⟨q3, q3h, h⟩ := rl_bd h
      refine rl_callVi (As := [.int x3]) (pc := 33) Γ nd_St_build_33 hO (rw_Sr_signAt l E x3  σ q3 q3h) 1 nm_St_46 nm_im_Sr_signAt nm_se_Sr_signAt nm_ini_Sr nh_Sr_signAt (rl_o1 E) rfl ⟨rfl, rfl⟩ (by decide +kernel) (Nat.le_of_ble_eq_true rfl) (Nat.le_of_ble_eq_true rfl) ⟨Nat.zero_le _, Nat.zero_le _⟩ (Nat.le_of_ble_eq_true rfl) rfl rfl ?_
      obtain ⟨q4, q4h, h⟩ := rl_bd h
      refine rl_callVv (As := [.int x3, .int q3.1]) (pc := 36) Γ nd_St_build_36 hO (rw_St_setSign l E x3 q3.1  q3.2 q4 q4h) 2 nm_St_50 nm_im_St_setSign nm_se_St_setSign nm_ini_St nh_St_setSign (rl_o8 E) rfl ⟨rfl, rfl⟩ (by decide +kernel) (Nat.le_of_ble_eq_true rfl) (Nat.le_of_ble_eq_true rfl) ⟨Nat.zero_le _, Nat.zero_le _⟩ (Nat.le_of_ble_eq_true rfl) rfl rfl ?_
      refine rl_aload_n (pc := 39) Γ nd_St_build_39 0 rfl ?_
      refine rl_get (pc := 40) Γ nd_St_build_40 hO (k := 4) (rl_o8 E) rfl (by decide) rfl ⟨ni_St, nf_St_25⟩ ?_
      refine rl_iload_n (pc := 43) Γ nd_St_build_43 3 rfl ?_
      refine rl_iconst (v := (-1)) (pc := 44) Γ nd_St_build_44 (by decide) ?_
      obtain ⟨q5, h⟩ := rl_if h
      refine rl_ist (pc := 45) Γ nd_St_build_45 hO (rl_a12 E) (rl_ib_in q5) ?_
      refine rl_aload_n (pc := 46) Γ nd_St_build_46 0 rfl ?_
      refine rl_get (pc := 47) Γ nd_St_build_47 hO (k := 1) (rl_o8 E) rfl (by decide) rfl ⟨ni_St, nf_St_15⟩ ?_
      refine rl_iload_n (pc := 50) Γ nd_St_build_50 3 rfl ?_
      obtain ⟨q6, h⟩ := rl_if h
      refine rl_ild (pc := 51) Γ nd_St_build_51 hO (rl_a9 E) (rl_ib_in q6) ?_
      obtain ⟨q7, q7h, h⟩ := rl_bd h
      refine rl_callSNi (As := [.int ((rl_su q4.2 12 x3.toNatClampNeg ((-1))) 9 x3.toNatClampNeg)]) (pc := 52) Γ nd_St_build_52 hO (rw_Ro_joins l E ((rl_su q4.2 12 x3.toNatClampNeg ((-1))) 9 x3.toNatClampNeg)  (rl_su q4.2 12 x3.toNatClampNeg ((-1))) q7 q7h) 1 (rl_n3 hO) nm_st_Ro_joins nm_ini_Ro nh_Ro_joins ⟨rfl, rfl⟩ (by decide +kernel) (Nat.le_of_ble_eq_true rfl) (Nat.le_of_ble_eq_true rfl) ⟨Nat.zero_le _, Nat.zero_le _⟩ (Nat.le_of_ble_eq_true rfl) rfl rfl ?_
      refine rl_if_eq (tgt := 87) (pc := 55) Γ nd_St_build_55 (by decide) (fun q8 => ?_) (fun q8 => ?_)
      · have h := rl_ift q8 h
        refine rl_aload_n (pc := 87) Γ nd_St_build_87 0 rfl ?_
        refine rl_get (pc := 88) Γ nd_St_build_88 hO (k := 5) (rl_o8 E) rfl (by decide) rfl ⟨ni_St, nf_St_28⟩ ?_
        refine rl_iload_n (pc := 91) Γ nd_St_build_91 2 rfl ?_
        refine rl_iload_n (pc := 92) Γ nd_St_build_92 3 rfl ?_
        obtain ⟨q9, h⟩ := rl_if h
        refine rl_ist (pc := 93) Γ nd_St_build_93 hO (rl_a13 E) (rl_ib_in q9) ?_
        refine rl_iinc (v := x2 + 1) (L' := [(2, .int (x2 + 1)), (0, .ref (E.1 8)), (1, .ref (E.1 1)), (3, .int x3)]) (pc := 94) Γ nd_St_build_94 2 rfl rfl (by decide) rfl ?_
        refine rl_iinc (v := x3 + 1) (L' := [(3, .int (x3 + 1)), (2, .int (x2 + 1)), (0, .ref (E.1 8)), (1, .ref (E.1 1))]) (pc := 97) Γ nd_St_build_97 3 rfl rfl (by decide) rfl ?_
        refine rl_goto (tgt := 21) (pc := 100) Γ nd_St_build_100 (by decide) ?_
        exact rl_Gsub [2, 3, 1, 0] rfl (ih (x2 + 1) (x3 + 1) (rl_su q7.2 13 x2.toNatClampNeg x3) h)
      · have h := rl_iff q8 h
        refine rl_iload_n (pc := 58) Γ nd_St_build_58 2 rfl ?_
        refine rl_iconst (v := 2) (pc := 59) Γ nd_St_build_59 (by decide) ?_
        refine rl_icmp_lt (tgt := 87) (pc := 60) Γ nd_St_build_60 (by decide) (fun q10 => ?_) (fun q10 => ?_)
        · have h := rl_ift q10 h
          refine rl_aload_n (pc := 87) Γ nd_St_build_87 0 rfl ?_
          refine rl_get (pc := 88) Γ nd_St_build_88 hO (k := 5) (rl_o8 E) rfl (by decide) rfl ⟨ni_St, nf_St_28⟩ ?_
          refine rl_iload_n (pc := 91) Γ nd_St_build_91 2 rfl ?_
          refine rl_iload_n (pc := 92) Γ nd_St_build_92 3 rfl ?_
          obtain ⟨q11, h⟩ := rl_if h
          refine rl_ist (pc := 93) Γ nd_St_build_93 hO (rl_a13 E) (rl_ib_in q11) ?_
          refine rl_iinc (v := x2 + 1) (L' := [(2, .int (x2 + 1)), (0, .ref (E.1 8)), (1, .ref (E.1 1)), (3, .int x3)]) (pc := 94) Γ nd_St_build_94 2 rfl rfl (by decide) rfl ?_
          refine rl_iinc (v := x3 + 1) (L' := [(3, .int (x3 + 1)), (2, .int (x2 + 1)), (0, .ref (E.1 8)), (1, .ref (E.1 1))]) (pc := 97) Γ nd_St_build_97 3 rfl rfl (by decide) rfl ?_
          refine rl_goto (tgt := 21) (pc := 100) Γ nd_St_build_100 (by decide) ?_
          exact rl_Gsub [2, 3, 1, 0] rfl (ih (x2 + 1) (x3 + 1) (rl_su q7.2 13 x2.toNatClampNeg x3) h)
        · have h := rl_iff q10 h
          refine rl_aload_n (pc := 63) Γ nd_St_build_63 0 rfl ?_
          refine rl_iload_n (pc := 64) Γ nd_St_build_64 3 rfl ?_
          refine rl_aload_n (pc := 65) Γ nd_St_build_65 0 rfl ?_
          refine rl_get (pc := 66) Γ nd_St_build_66 hO (k := 5) (rl_o8 E) rfl (by decide) rfl ⟨ni_St, nf_St_28⟩ ?_
          refine rl_iload_n (pc := 69) Γ nd_St_build_69 2 rfl ?_
          refine rl_iconst (v := 2) (pc := 70) Γ nd_St_build_70 (by decide) ?_
          refine rl_isub (pc := 71) Γ nd_St_build_71 ?_
          obtain ⟨q12, h⟩ := rl_if h
          refine rl_ild (pc := 72) Γ nd_St_build_72 hO (rl_a13 E) (rl_ib_in q12) ?_
          refine rl_aload_n (pc := 73) Γ nd_St_build_73 0 rfl ?_
          refine rl_get (pc := 74) Γ nd_St_build_74 hO (k := 5) (rl_o8 E) rfl (by decide) rfl ⟨ni_St, nf_St_28⟩ ?_
          refine rl_iload_n (pc := 77) Γ nd_St_build_77 2 rfl ?_
          refine rl_iconst (v := 1) (pc := 78) Γ nd_St_build_78 (by decide) ?_
          refine rl_isub (pc := 79) Γ nd_St_build_79 ?_
          obtain ⟨q13, h⟩ := rl_if h
          refine rl_ild (pc := 80) Γ nd_St_build_80 hO (rl_a13 E) (rl_ib_in q13) ?_
          obtain ⟨q14, q14h, h⟩ := rl_bd h
          refine rl_callVv (As := [.int x3, .int (q7.2 13 (x2 - 2).toNatClampNeg), .int (q7.2 13 (x2 - 1).toNatClampNeg)]) (pc := 81) Γ nd_St_build_81 hO (rw_St_link l E x3 (q7.2 13 (x2 - 2).toNatClampNeg) (q7.2 13 (x2 - 1).toNatClampNeg)  q7.2 q14 q14h) 3 nm_St_58 nm_im_St_link nm_se_St_link nm_ini_St nh_St_link (rl_o8 E) rfl ⟨rfl, rfl⟩ (by decide +kernel) (Nat.le_of_ble_eq_true rfl) (Nat.le_of_ble_eq_true rfl) ⟨Nat.zero_le _, Nat.zero_le _⟩ (Nat.le_of_ble_eq_true rfl) rfl rfl ?_
          refine rl_iinc (v := x2 + (-2)) (L' := [(2, .int (x2 + (-2))), (0, .ref (E.1 8)), (1, .ref (E.1 1)), (3, .int x3)]) (pc := 84) Γ nd_St_build_84 2 rfl rfl (by decide) rfl ?_
          refine rl_aload_n (pc := 87) Γ nd_St_build_87 1 rfl ?_
          refine rl_get (pc := 88) Γ nd_St_build_88 hO (k := 5) (rl_o8 E) rfl (by decide) rfl ⟨ni_St, nf_St_28⟩ ?_
          refine rl_iload_n (pc := 91) Γ nd_St_build_91 0 rfl ?_
          refine rl_iload_n (pc := 92) Γ nd_St_build_92 3 rfl ?_
          obtain ⟨q15, h⟩ := rl_if h
          refine rl_ist (pc := 93) Γ nd_St_build_93 hO (rl_a13 E) (rl_ib_in q15) ?_
          refine rl_iinc (v := (x2 + (-2)) + 1) (L' := [(2, .int ((x2 + (-2)) + 1)), (0, .ref (E.1 8)), (1, .ref (E.1 1)), (3, .int x3)]) (pc := 94) Γ nd_St_build_94 0 rfl rfl (by decide) rfl ?_
          refine rl_iinc (v := x3 + 1) (L' := [(3, .int (x3 + 1)), (2, .int ((x2 + (-2)) + 1)), (0, .ref (E.1 8)), (1, .ref (E.1 1))]) (pc := 97) Γ nd_St_build_97 3 rfl rfl (by decide) rfl ?_
          refine rl_goto (tgt := 21) (pc := 100) Γ nd_St_build_100 (by decide) ?_
          exact rl_Gsub [2, 3, 1, 0] rfl (ih ((x2 + (-2)) + 1) (x3 + 1) (rl_su q14.2 13 (x2 + (-2)).toNatClampNeg x3) h)
set_option maxHeartbeats 4000000 in
set_option maxRecDepth 100000 in
theorem rw_St_build (l : Launch) (E : rl_E)   (σ : rl_M) (r : Int32 × rl_M) (h : rf_St_build  σ = some r) : Met l ny_St_build nw_St_build nr_St_build (rl_P E [.ref (E.1 8), .ref (E.1 1)] σ) (rl_Q E (rl_rv r.1) r.2) 0 0 (rl_A E) := by
  refine Met.ofW (cc := nc_St_build) (maxL := 4) (ret := none) (by decide) rfl ?_
  intro p e s m args below meth c s₁ B hml hv
  obtain ⟨rfl, hP, hO⟩ := hv
  have Γ : CallFix p m c nc_St_build 4 s ([.ref (E.1 8), .ref (E.1 1)] : List Value).toArray rl_TT nR_St := ⟨B.exec, B.bytes, hml, findClass_of_methodNamed B.named, fun w hw => atoms_spec (ws := nw_St_build) B.pre w (List.mem_cons_of_mem _ hw)⟩
  have hr := B.returns
  have hk := B.notSynchronized
  refine rl_start (R := nr_St_build) (Q := rl_QM below _ s E rl_rv r) (nL := 4) (av := [.ref (E.1 8), .ref (E.1 1)]) (σ := σ) hP (Nat.le_of_ble_eq_true rfl) ?_
  unfold rf_St_build at h
  refine rl_aload_n (pc := 0) Γ nd_St_build_0 0 rfl ?_
  refine rl_aload_n (pc := 1) Γ nd_St_build_1 1 rfl ?_
  refine rl_get (pc := 2) Γ nd_St_build_2 hO (k := 0) (rl_o1 E) rfl (by decide) rfl ⟨ni_Sr, nf_St_37⟩ ?_
  refine rl_bipush (v := 11) (pc := 5) Γ nd_St_build_5 (by decide) ?_
  refine rl_mmin (pc := 7) Γ nd_St_build_7 (Γ.2.2.2.2 _ nm_St_40) (Γ.2.2.2.2 _ nm_static_min) (Γ.2.2.2.2 _ nm_ini_Math) (Γ.2.2.2.2 _ nm_code_min) (Nat.le_of_ble_eq_true rfl) (Nat.le_of_ble_eq_true rfl) ⟨Nat.zero_le _, Nat.zero_le _⟩ ?_
  refine rl_put (pc := 10) Γ nd_St_build_10 hO (k := 0) (rl_o8 E) rfl (by decide) (fun _ _ => rfl) ⟨ni_St, nf_St_9⟩ nt_St nto_St nn_St rfl (fun _ => Nat.le_of_ble_eq_true rfl) rl_ni ?_
  refine rl_aload_n (pc := 13) Γ nd_St_build_13 0 rfl ?_
  obtain ⟨q1, q1h, h⟩ := rl_bd h
  refine rl_callVv (As := []) (pc := 14) Γ nd_St_build_14 hO (rw_St_forgetRooms l E   (rl_su σ 8 0 (if 11 < (σ 1 0) then 11 else (σ 1 0))) q1 q1h) 0 nm_St_34 nm_im_St_forgetRooms nm_se_St_forgetRooms nm_ini_St nh_St_forgetRooms (rl_o8 E) rfl ⟨rfl, rfl⟩ (by decide +kernel) (Nat.le_of_ble_eq_true rfl) (Nat.le_of_ble_eq_true rfl) ⟨Nat.zero_le _, Nat.zero_le _⟩ (Nat.le_of_ble_eq_true rfl) rfl rfl ?_
  refine rl_iconst (v := 0) (pc := 17) Γ nd_St_build_17 (by decide) ?_
  refine rl_istore_n (L' := [(2, .int 0), (0, .ref (E.1 8)), (1, .ref (E.1 1))]) (pc := 18) Γ nd_St_build_18 (by decide) rfl ?_
  refine rl_iconst (v := 0) (pc := 19) Γ nd_St_build_19 (by decide) ?_
  refine rl_istore_n (L' := [(3, .int 0), (2, .int 0), (0, .ref (E.1 8)), (1, .ref (E.1 1))]) (pc := 20) Γ nd_St_build_20 (by decide) rfl ?_
  refine rl_Gsub [2, 3, 1, 0] rfl (rw_St_build_L21 Γ hO hr hk     10000 0 0 q1.2 h)
