theorem rp_Rl_sizesOf {x1 : Int32} {σ : rl_M} {z : Int32 × rl_M} (h : rf_Rl_sizesOf x1 σ = some z) : z.2 = σ := by
  unfold rf_Rl_sizesOf at h
  repeat' split at h
  all_goals cases h
  all_goals rfl
set_option maxHeartbeats 4000000 in
set_option maxRecDepth 100000 in
theorem rwp_Rl_sizesOf (l : Launch) (E : rl_E) (x1 : Int32) (σ : rl_M) (r : Int32 × rl_M) (h : rf_Rl_sizesOf x1 σ = some r) : Met l ny_Rl_sizesOf nw_Rl_sizesOf nr_Rl_sizesOf (rl_P E [.ref (E.1 4), .int x1] σ) (rl_QP (rl_ri r.1)) 0 0 (fun _ => False) := by
  refine Met.ofW (cc := nc_Rl_sizesOf) (maxL := 2) (ret := (some .int)) (by decide) rfl ?_
  intro p e s m args below meth c s₁ B hml hv
  obtain ⟨rfl, hP, hO⟩ := hv
  have Γ : CallFix p m c nc_Rl_sizesOf 2 s ([.ref (E.1 4), .int x1] : List Value).toArray rl_TT nR_Rl := ⟨B.exec, B.bytes, hml, findClass_of_methodNamed B.named, fun w hw => atoms_spec (ws := nw_Rl_sizesOf) B.pre w (List.mem_cons_of_mem _ hw)⟩
  have hr := B.returns
  have hk := B.notSynchronized
  have hno := BodyLoose.noHandlers B (atoms_spec (ws := nw_Rl_sizesOf) B.pre _ List.mem_cons_self)
  refine r0_start (R := nr_Rl_sizesOf) (nL := 2) (av := [.ref (E.1 4), .int x1]) (Nat.le_of_ble_eq_true rfl) ?_
  unfold rf_Rl_sizesOf at h
  refine r0_iload_n (pc := 0) Γ nd_Rl_sizesOf_0 1 rfl ?_
  refine r0_if_lt (tgt := 19) (pc := 1) Γ nd_Rl_sizesOf_1 (by decide) (fun q1 => ?_) (fun q1 => ?_)
  · have h := rl_ift q1 h
    refine r0_iconst (v := 0) (pc := 19) Γ nd_Rl_sizesOf_19 (by decide) ?_
    cases h
    exact r0_iret (pc := 20) Γ nd_Rl_sizesOf_20 hr hk
  · have h := rl_iff q1 h
    refine r0_iload_n (pc := 4) Γ nd_Rl_sizesOf_4 1 rfl ?_
    refine r0_bipush (v := 6) (pc := 5) Γ nd_Rl_sizesOf_5 (by decide) ?_
    refine r0_icmp_ge (tgt := 19) (pc := 7) Γ nd_Rl_sizesOf_7 (by decide) (fun q2 => ?_) (fun q2 => ?_)
    · have h := rl_ift q2 h
      refine r0_iconst (v := 0) (pc := 19) Γ nd_Rl_sizesOf_19 (by decide) ?_
      cases h
      exact r0_iret (pc := 20) Γ nd_Rl_sizesOf_20 hr hk
    · have h := rl_iff q2 h
      refine r0_aload_n (pc := 10) Γ nd_Rl_sizesOf_10 0 rfl ?_
      refine r0_get hP (pc := 11) Γ nd_Rl_sizesOf_11 hO (k := 1) (rl_o4 E) rfl (by decide) rfl ⟨ni_Rl, nf_Rl_15⟩ ?_
      refine r0_iload_n (pc := 14) Γ nd_Rl_sizesOf_14 1 rfl ?_
      obtain ⟨q3, h⟩ := rl_if h
      refine r0_ild hP (pc := 15) Γ nd_Rl_sizesOf_15 hO (rl_a5 E) (rl_ib_in q3) ?_
      refine r0_goto (tgt := 20) (pc := 16) Γ nd_Rl_sizesOf_16 (by decide) ?_
      cases h
      exact r0_iret (pc := 20) Γ nd_Rl_sizesOf_20 hr hk
def rf_Ro_room  (σ : rl_M) : Option (Nat × Int32 × rl_M) := (if (σ 4 0) < 6 then ((rf_Rl_addRoom  σ).bind (fun q2 => some (0, q2.1, q2.2))) else some (2, 0, σ))
set_option maxHeartbeats 4000000 in
set_option maxRecDepth 100000 in
theorem rwn_Ro_room (l : Launch) (E : rl_E)  (σ : rl_M) (r : Nat × Int32 × rl_M) (h : rf_Ro_room  σ = some r) (hr0 : r.1 = 0) : Met l ny_Ro_room nw_Ro_room nr_Ro_room (rl_P E [.ref (E.1 0)] σ) (rl_Q E (rl_ri r.2.1) r.2.2) 0 0 (rl_A E) := by
  refine Met.ofW (cc := nc_Ro_room) (maxL := 1) (ret := (some .int)) (by decide) rfl ?_
  intro p e s m args below meth c s₁ B hml hv
  obtain ⟨rfl, hP, hO⟩ := hv
  have Γ : CallFix p m c nc_Ro_room 1 s ([.ref (E.1 0)] : List Value).toArray rl_TT nR_Ro := ⟨B.exec, B.bytes, hml, findClass_of_methodNamed B.named, fun w hw => atoms_spec (ws := nw_Ro_room) B.pre w (List.mem_cons_of_mem _ hw)⟩
  have hr := B.returns
  have hk := B.notSynchronized
  have hno := BodyLoose.noHandlers B (atoms_spec (ws := nw_Ro_room) B.pre _ List.mem_cons_self)
  refine rl_start (R := nr_Ro_room) (Q := rl_QM below _ s E rl_ri r.2) (nL := 1) (av := [.ref (E.1 0)]) (σ := σ) hP (Nat.le_of_ble_eq_true rfl) ?_
  unfold rf_Ro_room at h
  refine rl_aload_n (pc := 0) Γ nd_Ro_room_0 0 rfl ?_
  refine rl_get (pc := 1) Γ nd_Ro_room_1 hO (k := 1) (rl_o0 E) rfl (by decide) rfl ⟨ni_Ro, nf_Ro_19⟩ ?_
  refine rl_get (pc := 4) Γ nd_Ro_room_4 hO (k := 0) (rl_o3 E) rfl (by decide) rfl ⟨ni_Pl, nf_Ro_30⟩ ?_
  refine rl_get (pc := 7) Γ nd_Ro_room_7 hO (k := 0) (rl_o4 E) rfl (by decide) rfl ⟨ni_Rl, nf_Ro_34⟩ ?_
  refine rl_bipush (v := 6) (pc := 10) Γ nd_Ro_room_10 (by decide) ?_
  refine rl_icmp_lt (tgt := 25) (pc := 12) Γ nd_Ro_room_12 (by decide) (fun q1 => ?_) (fun q1 => ?_)
  · have h := rl_ift q1 h
    refine rl_aload_n (pc := 25) Γ nd_Ro_room_25 0 rfl ?_
    refine rl_get (pc := 26) Γ nd_Ro_room_26 hO (k := 1) (rl_o0 E) rfl (by decide) rfl ⟨ni_Ro, nf_Ro_19⟩ ?_
    refine rl_get (pc := 29) Γ nd_Ro_room_29 hO (k := 0) (rl_o3 E) rfl (by decide) rfl ⟨ni_Pl, nf_Ro_30⟩ ?_
    obtain ⟨q2, q2h, h⟩ := rl_bd h
    refine rl_callVi (As := []) (pc := 32) Γ nd_Ro_room_32 hO (rw_Rl_addRoom l E   σ q2 q2h) 0 nm_Ro_47 nm_im_Rl_addRoom nm_se_Rl_addRoom nm_ini_Rl nh_Rl_addRoom (rl_o4 E) rfl ⟨rfl, rfl⟩ (by decide +kernel) (Nat.le_of_ble_eq_true rfl) (Nat.le_of_ble_eq_true rfl) ⟨Nat.zero_le _, Nat.zero_le _⟩ (Nat.le_of_ble_eq_true rfl) rfl rfl ?_
    exact rl_iret (pc := 35) Γ nd_Ro_room_35 hr hk (rl_x0 h)
  · have h := rl_iff q1 h
    exact (rl_xn hr0 (by decide) h).elim
set_option maxHeartbeats 4000000 in
set_option maxRecDepth 100000 in
theorem rwt_Ro_room (l : Launch) (hlq : rl_Lq l) (E : rl_E)  (σ : rl_M) (r : Nat × Int32 × rl_M) (h : rf_Ro_room  σ = some r) (hr1 : ¬ r.1 = 0) : rl_MT l ny_Ro_room nw_Ro_room nr_Ro_roomT E [.ref (E.1 0)] σ (rl_exc r.1) r.2.2 := by
  refine rl_MT.ofW (cc := nc_Ro_room) (maxL := 1) (ret := (some .int)) (by decide) rfl ?_
  intro p e s m args below meth c s₁ B hml hv
  obtain ⟨rfl, hP, hO⟩ := hv
  have Γ : CallFix p m c nc_Ro_room 1 s ([.ref (E.1 0)] : List Value).toArray rl_TT nR_Ro := ⟨B.exec, B.bytes, hml, findClass_of_methodNamed B.named, fun w hw => atoms_spec (ws := nw_Ro_room) B.pre w (List.mem_cons_of_mem _ hw)⟩
  have hr := B.returns
  have hk := B.notSynchronized
  have hno := BodyLoose.noHandlers B (atoms_spec (ws := nw_Ro_room) B.pre _ List.mem_cons_self)
  refine r0_start (R := nr_Ro_roomT) (nL := 1) (av := [.ref (E.1 0)]) (Nat.le_of_ble_eq_true rfl) ?_
  unfold rf_Ro_room at h
  refine r0_aload_n (pc := 0) Γ nd_Ro_room_0 0 rfl ?_
  refine r0_get hP (pc := 1) Γ nd_Ro_room_1 hO (k := 1) (rl_o0 E) rfl (by decide) rfl ⟨ni_Ro, nf_Ro_19⟩ ?_
  refine r0_get hP (pc := 4) Γ nd_Ro_room_4 hO (k := 0) (rl_o3 E) rfl (by decide) rfl ⟨ni_Pl, nf_Ro_30⟩ ?_
  refine r0_get hP (pc := 7) Γ nd_Ro_room_7 hO (k := 0) (rl_o4 E) rfl (by decide) rfl ⟨ni_Rl, nf_Ro_34⟩ ?_
  refine r0_bipush (v := 6) (pc := 10) Γ nd_Ro_room_10 (by decide) ?_
  refine r0_icmp_lt (tgt := 25) (pc := 12) Γ nd_Ro_room_12 (by decide) (fun q1 => ?_) (fun q1 => ?_)
  · have h := rl_ift q1 h
    obtain ⟨q2, q2h, h⟩ := rl_bd h
    exact (rl_x1 hr1 h).elim
  · have h := rl_iff q1 h
    cases h
    exact r0_throw (X := "java/lang/IllegalStateException") (pc := 15) hP Γ hlq hO hk hno nd_Ro_room_15 nd_Ro_room_18 nd_Ro_room_19 nd_Ro_room_21 nd_Ro_room_24 nx_cS nx_iS nx_nS hO.2.2.2.1.1 (by decide +kernel) (rl_own_S hO Γ.2.2.2.2) ⟨Nat.le_of_ble_eq_true rfl, Nat.le_of_ble_eq_true rfl, Nat.le_of_ble_eq_true rfl, Nat.le_of_ble_eq_true rfl⟩
def rf_Ro_needWithin (x0 : Int32) (x1 : Int32) (x2 : Int32) (σ : rl_M) : Option (Nat × Int32 × rl_M) := (if x0 < x1 then some (1, 0, σ) else (if x0 ≤ x2 then some (0, 0, σ) else some (1, 0, σ)))
theorem rp_Ro_needWithin {x0 x1 x2 : Int32} {σ : rl_M} {z : Nat × Int32 × rl_M} (h : rf_Ro_needWithin x0 x1 x2 σ = some z) (h0 : z.1 = 0) : z.2.2 = σ := by
  unfold rf_Ro_needWithin at h
  repeat' split at h
  all_goals cases h
  all_goals rfl
set_option maxHeartbeats 4000000 in
set_option maxRecDepth 100000 in
theorem rwn_Ro_needWithin (l : Launch) (E : rl_E) (x0 : Int32) (x1 : Int32) (x2 : Int32) (σ : rl_M) (r : Nat × Int32 × rl_M) (h : rf_Ro_needWithin x0 x1 x2 σ = some r) (hr0 : r.1 = 0) : Met l ny_Ro_needWithin nw_Ro_needWithin nr_Ro_needWithin (rl_P E [.int x0, .int x1, .int x2] σ) (rl_Q E (rl_rv r.2.1) r.2.2) 0 0 (rl_A E) := by
  refine Met.ofW (cc := nc_Ro_needWithin) (maxL := 3) (ret := none) (by decide) rfl ?_
  intro p e s m args below meth c s₁ B hml hv
  obtain ⟨rfl, hP, hO⟩ := hv
  have Γ : CallFix p m c nc_Ro_needWithin 3 s ([.int x0, .int x1, .int x2] : List Value).toArray rl_TT nR_Ro := ⟨B.exec, B.bytes, hml, findClass_of_methodNamed B.named, fun w hw => atoms_spec (ws := nw_Ro_needWithin) B.pre w (List.mem_cons_of_mem _ hw)⟩
  have hr := B.returns
  have hk := B.notSynchronized
  have hno := BodyLoose.noHandlers B (atoms_spec (ws := nw_Ro_needWithin) B.pre _ List.mem_cons_self)
  refine rl_start (R := nr_Ro_needWithin) (Q := rl_QM below _ s E rl_rv r.2) (nL := 3) (av := [.int x0, .int x1, .int x2]) (σ := σ) hP (Nat.le_of_ble_eq_true rfl) ?_
  unfold rf_Ro_needWithin at h
  refine rl_iload_n (pc := 0) Γ nd_Ro_needWithin_0 0 rfl ?_
  refine rl_iload_n (pc := 1) Γ nd_Ro_needWithin_1 1 rfl ?_
  refine rl_icmp_lt (tgt := 10) (pc := 2) Γ nd_Ro_needWithin_2 (by decide) (fun q1 => ?_) (fun q1 => ?_)
  · have h := rl_ift q1 h
    exact (rl_xn hr0 (by decide) h).elim
  · have h := rl_iff q1 h
    refine rl_iload_n (pc := 5) Γ nd_Ro_needWithin_5 0 rfl ?_
    refine rl_iload_n (pc := 6) Γ nd_Ro_needWithin_6 2 rfl ?_
    refine rl_icmp_le (tgt := 20) (pc := 7) Γ nd_Ro_needWithin_7 (by decide) (fun q2 => ?_) (fun q2 => ?_)
    · have h := rl_ift q2 h
      exact rl_vret (pc := 20) Γ nd_Ro_needWithin_20 hr hk (rl_x0 h)
    · have h := rl_iff q2 h
      exact (rl_xn hr0 (by decide) h).elim
set_option maxHeartbeats 4000000 in
set_option maxRecDepth 100000 in
theorem rwt_Ro_needWithin (l : Launch) (hlq : rl_Lq l) (E : rl_E) (x0 : Int32) (x1 : Int32) (x2 : Int32) (σ : rl_M) (r : Nat × Int32 × rl_M) (h : rf_Ro_needWithin x0 x1 x2 σ = some r) (hr1 : ¬ r.1 = 0) : rl_MT l ny_Ro_needWithin nw_Ro_needWithin nr_Ro_needWithinT E [.int x0, .int x1, .int x2] σ (rl_exc r.1) r.2.2 := by
  refine rl_MT.ofW (cc := nc_Ro_needWithin) (maxL := 3) (ret := none) (by decide) rfl ?_
  intro p e s m args below meth c s₁ B hml hv
  obtain ⟨rfl, hP, hO⟩ := hv
  have Γ : CallFix p m c nc_Ro_needWithin 3 s ([.int x0, .int x1, .int x2] : List Value).toArray rl_TT nR_Ro := ⟨B.exec, B.bytes, hml, findClass_of_methodNamed B.named, fun w hw => atoms_spec (ws := nw_Ro_needWithin) B.pre w (List.mem_cons_of_mem _ hw)⟩
  have hr := B.returns
  have hk := B.notSynchronized
  have hno := BodyLoose.noHandlers B (atoms_spec (ws := nw_Ro_needWithin) B.pre _ List.mem_cons_self)
  refine r0_start (R := nr_Ro_needWithinT) (nL := 3) (av := [.int x0, .int x1, .int x2]) (Nat.le_of_ble_eq_true rfl) ?_
  unfold rf_Ro_needWithin at h
  refine r0_iload_n (pc := 0) Γ nd_Ro_needWithin_0 0 rfl ?_
  refine r0_iload_n (pc := 1) Γ nd_Ro_needWithin_1 1 rfl ?_
  refine r0_icmp_lt (tgt := 10) (pc := 2) Γ nd_Ro_needWithin_2 (by decide) (fun q1 => ?_) (fun q1 => ?_)
  · have h := rl_ift q1 h
    cases h
    exact r0_throw (X := "java/lang/IllegalArgumentException") (pc := 10) hP Γ hlq hO hk hno nd_Ro_needWithin_10 nd_Ro_needWithin_13 nd_Ro_needWithin_14 nd_Ro_needWithin_16 nd_Ro_needWithin_19 nx_cA nx_iA nx_nA hO.2.2.2.1.2.1 (by decide +kernel) (rl_own_A hO Γ.2.2.2.2) ⟨Nat.le_of_ble_eq_true rfl, Nat.le_of_ble_eq_true rfl, Nat.le_of_ble_eq_true rfl, Nat.le_of_ble_eq_true rfl⟩
  · have h := rl_iff q1 h
    refine r0_iload_n (pc := 5) Γ nd_Ro_needWithin_5 0 rfl ?_
    refine r0_iload_n (pc := 6) Γ nd_Ro_needWithin_6 2 rfl ?_
    refine r0_icmp_le (tgt := 20) (pc := 7) Γ nd_Ro_needWithin_7 (by decide) (fun q2 => ?_) (fun q2 => ?_)
    · have h := rl_ift q2 h
      exact (rl_x1 hr1 h).elim
    · have h := rl_iff q2 h
      cases h
      exact r0_throw (X := "java/lang/IllegalArgumentException") (pc := 10) hP Γ hlq hO hk hno nd_Ro_needWithin_10 nd_Ro_needWithin_13 nd_Ro_needWithin_14 nd_Ro_needWithin_16 nd_Ro_needWithin_19 nx_cA nx_iA nx_nA hO.2.2.2.1.2.1 (by decide +kernel) (rl_own_A hO Γ.2.2.2.2) ⟨Nat.le_of_ble_eq_true rfl, Nat.le_of_ble_eq_true rfl, Nat.le_of_ble_eq_true rfl, Nat.le_of_ble_eq_true rfl⟩
set_option maxHeartbeats 4000000 in
set_option maxRecDepth 100000 in
theorem rwp_Ro_needWithin (l : Launch) (E : rl_E) (x0 : Int32) (x1 : Int32) (x2 : Int32) (σ : rl_M) (r : Nat × Int32 × rl_M) (h : rf_Ro_needWithin x0 x1 x2 σ = some r) (hr0 : r.1 = 0) : Met l ny_Ro_needWithin nw_Ro_needWithin nr_Ro_needWithin (rl_P E [.int x0, .int x1, .int x2] σ) (rl_QP (rl_rv r.2.1)) 0 0 (fun _ => False) := by
  refine Met.ofW (cc := nc_Ro_needWithin) (maxL := 3) (ret := none) (by decide) rfl ?_
  intro p e s m args below meth c s₁ B hml hv
  obtain ⟨rfl, hP, hO⟩ := hv
  have Γ : CallFix p m c nc_Ro_needWithin 3 s ([.int x0, .int x1, .int x2] : List Value).toArray rl_TT nR_Ro := ⟨B.exec, B.bytes, hml, findClass_of_methodNamed B.named, fun w hw => atoms_spec (ws := nw_Ro_needWithin) B.pre w (List.mem_cons_of_mem _ hw)⟩
  have hr := B.returns
  have hk := B.notSynchronized
  have hno := BodyLoose.noHandlers B (atoms_spec (ws := nw_Ro_needWithin) B.pre _ List.mem_cons_self)
  refine r0_start (R := nr_Ro_needWithin) (nL := 3) (av := [.int x0, .int x1, .int x2]) (Nat.le_of_ble_eq_true rfl) ?_
  unfold rf_Ro_needWithin at h
  refine r0_iload_n (pc := 0) Γ nd_Ro_needWithin_0 0 rfl ?_
  refine r0_iload_n (pc := 1) Γ nd_Ro_needWithin_1 1 rfl ?_
  refine r0_icmp_lt (tgt := 10) (pc := 2) Γ nd_Ro_needWithin_2 (by decide) (fun q1 => ?_) (fun q1 => ?_)
  · have h := rl_ift q1 h
    exact (rl_xn hr0 (by decide) h).elim
  · have h := rl_iff q1 h
    refine r0_iload_n (pc := 5) Γ nd_Ro_needWithin_5 0 rfl ?_
    refine r0_iload_n (pc := 6) Γ nd_Ro_needWithin_6 2 rfl ?_
    refine r0_icmp_le (tgt := 20) (pc := 7) Γ nd_Ro_needWithin_7 (by decide) (fun q2 => ?_) (fun q2 => ?_)
    · have h := rl_ift q2 h
      cases h
      exact r0_vret (pc := 20) Γ nd_Ro_needWithin_20 hr hk
    · have h := rl_iff q2 h
      exact (rl_xn hr0 (by decide) h).elim
def rf_Ro_needRoom (x1 : Int32) (σ : rl_M) : Option (Nat × Int32 × rl_M) := ((rf_Ro_needWithin x1 0 ((σ 4 0) - 1) σ).bind (fun q1 => (if q1.1 = 0 then some (0, 0, q1.2.2) else some (q1.1, 0, q1.2.2))))
theorem rp_Ro_needRoom {x1 : Int32} {σ : rl_M} {z : Nat × Int32 × rl_M} (h : rf_Ro_needRoom x1 σ = some z) (h0 : z.1 = 0) : z.2.2 = σ := by
  unfold rf_Ro_needRoom at h
  obtain ⟨q, qh, h⟩ := rl_bd h
  by_cases q0 : q.1 = 0
  · have h := rl_ift q0 h
    cases h
    show q.2.2 = σ
    exact rp_Ro_needWithin qh q0
  · exact (rl_xn h0 q0 (rl_iff q0 h)).elim
set_option maxHeartbeats 4000000 in
set_option maxRecDepth 100000 in
theorem rwn_Ro_needRoom (l : Launch) (E : rl_E) (x1 : Int32) (σ : rl_M) (r : Nat × Int32 × rl_M) (h : rf_Ro_needRoom x1 σ = some r) (hr0 : r.1 = 0) : Met l ny_Ro_needRoom nw_Ro_needRoom nr_Ro_needRoom (rl_P E [.ref (E.1 0), .int x1] σ) (rl_Q E (rl_rv r.2.1) r.2.2) 0 0 (rl_A E) := by
  refine Met.ofW (cc := nc_Ro_needRoom) (maxL := 2) (ret := none) (by decide) rfl ?_
  intro p e s m args below meth c s₁ B hml hv
  obtain ⟨rfl, hP, hO⟩ := hv
  have Γ : CallFix p m c nc_Ro_needRoom 2 s ([.ref (E.1 0), .int x1] : List Value).toArray rl_TT nR_Ro := ⟨B.exec, B.bytes, hml, findClass_of_methodNamed B.named, fun w hw => atoms_spec (ws := nw_Ro_needRoom) B.pre w (List.mem_cons_of_mem _ hw)⟩
  have hr := B.returns
  have hk := B.notSynchronized
  have hno := BodyLoose.noHandlers B (atoms_spec (ws := nw_Ro_needRoom) B.pre _ List.mem_cons_self)
  refine rl_start (R := nr_Ro_needRoom) (Q := rl_QM below _ s E rl_rv r.2) (nL := 2) (av := [.ref (E.1 0), .int x1]) (σ := σ) hP (Nat.le_of_ble_eq_true rfl) ?_
  unfold rf_Ro_needRoom at h
  refine rl_iload_n (pc := 0) Γ nd_Ro_needRoom_0 1 rfl ?_
  refine rl_iconst (v := 0) (pc := 1) Γ nd_Ro_needRoom_1 (by decide) ?_
  refine rl_aload_n (pc := 2) Γ nd_Ro_needRoom_2 0 rfl ?_
  refine rl_get (pc := 3) Γ nd_Ro_needRoom_3 hO (k := 1) (rl_o0 E) rfl (by decide) rfl ⟨ni_Ro, nf_Ro_19⟩ ?_
  refine rl_get (pc := 6) Γ nd_Ro_needRoom_6 hO (k := 0) (rl_o3 E) rfl (by decide) rfl ⟨ni_Pl, nf_Ro_30⟩ ?_
  refine rl_get (pc := 9) Γ nd_Ro_needRoom_9 hO (k := 0) (rl_o4 E) rfl (by decide) rfl ⟨ni_Rl, nf_Ro_34⟩ ?_
  refine rl_iconst (v := 1) (pc := 12) Γ nd_Ro_needRoom_12 (by decide) ?_
  refine rl_isub (pc := 13) Γ nd_Ro_needRoom_13 ?_
  obtain ⟨q1, q1h, h⟩ := rl_bd h
  by_cases q2 : q1.1 = 0
  case neg => exact (rl_xn hr0 q2 (rl_iff q2 h)).elim
  have h := rl_ift q2 h
  refine rl_callSv (As := [.int x1, .int 0, .int ((σ 4 0) - 1)]) (pc := 14) Γ nd_Ro_needRoom_14 hO (rwn_Ro_needWithin l E x1 0 ((σ 4 0) - 1) σ q1 q1h q2) 3 nm_Ro_55 nm_st_Ro_needWithin nm_ini_Ro nh_Ro_needWithin ⟨rfl, rfl⟩ (by decide +kernel) (Nat.le_of_ble_eq_true rfl) (Nat.le_of_ble_eq_true rfl) ⟨Nat.zero_le _, Nat.zero_le _⟩ (Nat.le_of_ble_eq_true rfl) rfl rfl ?_
  exact rl_vret (pc := 17) Γ nd_Ro_needRoom_17 hr hk (rl_x0 h)
set_option maxHeartbeats 4000000 in
set_option maxRecDepth 100000 in
theorem rwt_Ro_needRoom (l : Launch) (hlq : rl_Lq l) (E : rl_E) (x1 : Int32) (σ : rl_M) (r : Nat × Int32 × rl_M) (h : rf_Ro_needRoom x1 σ = some r) (hr1 : ¬ r.1 = 0) : rl_MT l ny_Ro_needRoom nw_Ro_needRoom nr_Ro_needRoomT E [.ref (E.1 0), .int x1] σ (rl_exc r.1) r.2.2 := by
  refine rl_MT.ofW (cc := nc_Ro_needRoom) (maxL := 2) (ret := none) (by decide) rfl ?_
  intro p e s m args below meth c s₁ B hml hv
  obtain ⟨rfl, hP, hO⟩ := hv
  have Γ : CallFix p m c nc_Ro_needRoom 2 s ([.ref (E.1 0), .int x1] : List Value).toArray rl_TT nR_Ro := ⟨B.exec, B.bytes, hml, findClass_of_methodNamed B.named, fun w hw => atoms_spec (ws := nw_Ro_needRoom) B.pre w (List.mem_cons_of_mem _ hw)⟩
  have hr := B.returns
  have hk := B.notSynchronized
  have hno := BodyLoose.noHandlers B (atoms_spec (ws := nw_Ro_needRoom) B.pre _ List.mem_cons_self)
  refine r0_start (R := nr_Ro_needRoomT) (nL := 2) (av := [.ref (E.1 0), .int x1]) (Nat.le_of_ble_eq_true rfl) ?_
  unfold rf_Ro_needRoom at h
  refine r0_iload_n (pc := 0) Γ nd_Ro_needRoom_0 1 rfl ?_
  refine r0_iconst (v := 0) (pc := 1) Γ nd_Ro_needRoom_1 (by decide) ?_
  refine r0_aload_n (pc := 2) Γ nd_Ro_needRoom_2 0 rfl ?_
  refine r0_get hP (pc := 3) Γ nd_Ro_needRoom_3 hO (k := 1) (rl_o0 E) rfl (by decide) rfl ⟨ni_Ro, nf_Ro_19⟩ ?_
  refine r0_get hP (pc := 6) Γ nd_Ro_needRoom_6 hO (k := 0) (rl_o3 E) rfl (by decide) rfl ⟨ni_Pl, nf_Ro_30⟩ ?_
  refine r0_get hP (pc := 9) Γ nd_Ro_needRoom_9 hO (k := 0) (rl_o4 E) rfl (by decide) rfl ⟨ni_Rl, nf_Ro_34⟩ ?_
  refine r0_iconst (v := 1) (pc := 12) Γ nd_Ro_needRoom_12 (by decide) ?_
  refine r0_isub (pc := 13) Γ nd_Ro_needRoom_13 ?_
  obtain ⟨q1, q1h, h⟩ := rl_bd h
  by_cases q2 : q1.1 = 0
  case neg =>
    have h := rl_iff q2 h
    cases h
    exact r0_callST (As := [.int x1, .int 0, .int ((σ 4 0) - 1)]) (st := []) hP (pc := 14) Γ nd_Ro_needRoom_14 hO hk hno (rwt_Ro_needWithin l hlq E x1 0 ((σ 4 0) - 1) σ q1 q1h q2) 3 nm_Ro_55 nm_st_Ro_needWithin nm_ini_Ro nh_Ro_needWithin ⟨rfl, rfl⟩ (by decide +kernel) (Nat.le_of_ble_eq_true rfl) (Nat.le_of_ble_eq_true rfl) ⟨Nat.le_of_ble_eq_true rfl, Nat.le_of_ble_eq_true rfl⟩ (Nat.le_of_ble_eq_true rfl) rfl rfl
  have h := rl_ift q2 h
  rw [rp_Ro_needWithin q1h q2] at h
  refine r0_callS (As := [.int x1, .int 0, .int ((σ 4 0) - 1)]) hP (pc := 14) Γ nd_Ro_needRoom_14 hO (rwp_Ro_needWithin l E x1 0 ((σ 4 0) - 1) σ q1 q1h q2) 3 nm_Ro_55 nm_st_Ro_needWithin nm_ini_Ro nh_Ro_needWithin ⟨rfl, rfl⟩ (by decide +kernel) (Nat.le_of_ble_eq_true rfl) (Nat.le_of_ble_eq_true rfl) (Nat.le_of_ble_eq_true rfl) rfl rfl ?_
  exact (rl_x1 hr1 h).elim
set_option maxHeartbeats 4000000 in
set_option maxRecDepth 100000 in
theorem rwp_Ro_needRoom (l : Launch) (E : rl_E) (x1 : Int32) (σ : rl_M) (r : Nat × Int32 × rl_M) (h : rf_Ro_needRoom x1 σ = some r) (hr0 : r.1 = 0) : Met l ny_Ro_needRoom nw_Ro_needRoom nr_Ro_needRoom (rl_P E [.ref (E.1 0), .int x1] σ) (rl_QP (rl_rv r.2.1)) 0 0 (fun _ => False) := by
  refine Met.ofW (cc := nc_Ro_needRoom) (maxL := 2) (ret := none) (by decide) rfl ?_
  intro p e s m args below meth c s₁ B hml hv
  obtain ⟨rfl, hP, hO⟩ := hv
  have Γ : CallFix p m c nc_Ro_needRoom 2 s ([.ref (E.1 0), .int x1] : List Value).toArray rl_TT nR_Ro := ⟨B.exec, B.bytes, hml, findClass_of_methodNamed B.named, fun w hw => atoms_spec (ws := nw_Ro_needRoom) B.pre w (List.mem_cons_of_mem _ hw)⟩
  have hr := B.returns
  have hk := B.notSynchronized
  have hno := BodyLoose.noHandlers B (atoms_spec (ws := nw_Ro_needRoom) B.pre _ List.mem_cons_self)
  refine r0_start (R := nr_Ro_needRoom) (nL := 2) (av := [.ref (E.1 0), .int x1]) (Nat.le_of_ble_eq_true rfl) ?_
  unfold rf_Ro_needRoom at h
  refine r0_iload_n (pc := 0) Γ nd_Ro_needRoom_0 1 rfl ?_
  refine r0_iconst (v := 0) (pc := 1) Γ nd_Ro_needRoom_1 (by decide) ?_
  refine r0_aload_n (pc := 2) Γ nd_Ro_needRoom_2 0 rfl ?_
  refine r0_get hP (pc := 3) Γ nd_Ro_needRoom_3 hO (k := 1) (rl_o0 E) rfl (by decide) rfl ⟨ni_Ro, nf_Ro_19⟩ ?_
  refine r0_get hP (pc := 6) Γ nd_Ro_needRoom_6 hO (k := 0) (rl_o3 E) rfl (by decide) rfl ⟨ni_Pl, nf_Ro_30⟩ ?_
  refine r0_get hP (pc := 9) Γ nd_Ro_needRoom_9 hO (k := 0) (rl_o4 E) rfl (by decide) rfl ⟨ni_Rl, nf_Ro_34⟩ ?_
  refine r0_iconst (v := 1) (pc := 12) Γ nd_Ro_needRoom_12 (by decide) ?_
  refine r0_isub (pc := 13) Γ nd_Ro_needRoom_13 ?_
  obtain ⟨q1, q1h, h⟩ := rl_bd h
  by_cases q2 : q1.1 = 0
  case neg => exact (rl_xn hr0 q2 (rl_iff q2 h)).elim
  have h := rl_ift q2 h
  rw [rp_Ro_needWithin q1h q2] at h
  refine r0_callS (As := [.int x1, .int 0, .int ((σ 4 0) - 1)]) hP (pc := 14) Γ nd_Ro_needRoom_14 hO (rwp_Ro_needWithin l E x1 0 ((σ 4 0) - 1) σ q1 q1h q2) 3 nm_Ro_55 nm_st_Ro_needWithin nm_ini_Ro nh_Ro_needWithin ⟨rfl, rfl⟩ (by decide +kernel) (Nat.le_of_ble_eq_true rfl) (Nat.le_of_ble_eq_true rfl) (Nat.le_of_ble_eq_true rfl) rfl rfl ?_
  cases h
  exact r0_vret (pc := 17) Γ nd_Ro_needRoom_17 hr hk
def rf_Ro_size (x1 : Int32) (x2 : Int32) (x3 : Int32) (σ : rl_M) : Option (Nat × Int32 × rl_M) := ((rf_Ro_needRoom x1 σ).bind (fun q1 => (if q1.1 = 0 then ((rf_Ro_needWithin x2 1 60 q1.2.2).bind (fun q3 => (if q3.1 = 0 then ((rf_Ro_needWithin x3 1 60 q3.2.2).bind (fun q5 => (if q5.1 = 0 then ((rf_Rl_sizesOf x1 q5.2.2).bind (fun q7 => (if q7.1 < 4 then ((rf_Pl_forget  q7.2).bind (fun q10 => ((rf_Rl_addSize x1 x2 x3 q10.2).bind (fun q12 => some (0, q12.1, q12.2))))) else some (2, 0, q7.2)))) else some (q5.1, 0, q5.2.2)))) else some (q3.1, 0, q3.2.2)))) else some (q1.1, 0, q1.2.2))))
set_option maxHeartbeats 4000000 in
set_option maxRecDepth 100000 in
theorem rwn_Ro_size (l : Launch) (E : rl_E) (x1 : Int32) (x2 : Int32) (x3 : Int32) (σ : rl_M) (r : Nat × Int32 × rl_M) (h : rf_Ro_size x1 x2 x3 σ = some r) (hr0 : r.1 = 0) : Met l ny_Ro_size nw_Ro_size nr_Ro_size (rl_P E [.ref (E.1 0), .int x1, .int x2, .int x3] σ) (rl_Q E (rl_ri r.2.1) r.2.2) 0 0 (rl_A E) := by
  refine Met.ofW (cc := nc_Ro_size) (maxL := 4) (ret := (some .int)) (by decide) rfl ?_
  intro p e s m args below meth c s₁ B hml hv
  obtain ⟨rfl, hP, hO⟩ := hv
  have Γ : CallFix p m c nc_Ro_size 4 s ([.ref (E.1 0), .int x1, .int x2, .int x3] : List Value).toArray rl_TT nR_Ro := ⟨B.exec, B.bytes, hml, findClass_of_methodNamed B.named, fun w hw => atoms_spec (ws := nw_Ro_size) B.pre w (List.mem_cons_of_mem _ hw)⟩
  have hr := B.returns
  have hk := B.notSynchronized
  have hno := BodyLoose.noHandlers B (atoms_spec (ws := nw_Ro_size) B.pre _ List.mem_cons_self)
  refine rl_start (R := nr_Ro_size) (Q := rl_QM below _ s E rl_ri r.2) (nL := 4) (av := [.ref (E.1 0), .int x1, .int x2, .int x3]) (σ := σ) hP (Nat.le_of_ble_eq_true rfl) ?_
  unfold rf_Ro_size at h
  refine rl_aload_n (pc := 0) Γ nd_Ro_size_0 0 rfl ?_
  refine rl_iload_n (pc := 1) Γ nd_Ro_size_1 1 rfl ?_
  obtain ⟨q1, q1h, h⟩ := rl_bd h
  by_cases q2 : q1.1 = 0
  case neg => exact (rl_xn hr0 q2 (rl_iff q2 h)).elim
  have h := rl_ift q2 h
  refine rl_callVv (As := [.int x1]) (pc := 2) Γ nd_Ro_size_2 hO (rwn_Ro_needRoom l E x1 σ q1 q1h q2) 1 nm_Ro_51 nm_im_Ro_needRoom nm_se_Ro_needRoom nm_ini_Ro nh_Ro_needRoom (rl_o0 E) rfl ⟨rfl, rfl⟩ (by decide +kernel) (Nat.le_of_ble_eq_true rfl) (Nat.le_of_ble_eq_true rfl) ⟨Nat.zero_le _, Nat.zero_le _⟩ (Nat.le_of_ble_eq_true rfl) rfl rfl ?_
  refine rl_iload_n (pc := 5) Γ nd_Ro_size_5 2 rfl ?_
  refine rl_iconst (v := 1) (pc := 6) Γ nd_Ro_size_6 (by decide) ?_
  refine rl_bipush (v := 60) (pc := 7) Γ nd_Ro_size_7 (by decide) ?_
  obtain ⟨q3, q3h, h⟩ := rl_bd h
  by_cases q4 : q3.1 = 0
  case neg => exact (rl_xn hr0 q4 (rl_iff q4 h)).elim
  have h := rl_ift q4 h
  refine rl_callSv (As := [.int x2, .int 1, .int 60]) (pc := 9) Γ nd_Ro_size_9 hO (rwn_Ro_needWithin l E x2 1 60 q1.2.2 q3 q3h q4) 3 nm_Ro_55 nm_st_Ro_needWithin nm_ini_Ro nh_Ro_needWithin ⟨rfl, rfl⟩ (by decide +kernel) (Nat.le_of_ble_eq_true rfl) (Nat.le_of_ble_eq_true rfl) ⟨Nat.zero_le _, Nat.zero_le _⟩ (Nat.le_of_ble_eq_true rfl) rfl rfl ?_
  refine rl_iload_n (pc := 12) Γ nd_Ro_size_12 3 rfl ?_
  refine rl_iconst (v := 1) (pc := 13) Γ nd_Ro_size_13 (by decide) ?_
  refine rl_bipush (v := 60) (pc := 14) Γ nd_Ro_size_14 (by decide) ?_
  obtain ⟨q5, q5h, h⟩ := rl_bd h
  by_cases q6 : q5.1 = 0
  case neg => exact (rl_xn hr0 q6 (rl_iff q6 h)).elim
  have h := rl_ift q6 h
  refine rl_callSv (As := [.int x3, .int 1, .int 60]) (pc := 16) Γ nd_Ro_size_16 hO (rwn_Ro_needWithin l E x3 1 60 q3.2.2 q5 q5h q6) 3 nm_Ro_55 nm_st_Ro_needWithin nm_ini_Ro nh_Ro_needWithin ⟨rfl, rfl⟩ (by decide +kernel) (Nat.le_of_ble_eq_true rfl) (Nat.le_of_ble_eq_true rfl) ⟨Nat.zero_le _, Nat.zero_le _⟩ (Nat.le_of_ble_eq_true rfl) rfl rfl ?_
  refine rl_aload_n (pc := 19) Γ nd_Ro_size_19 0 rfl ?_
  refine rl_get (pc := 20) Γ nd_Ro_size_20 hO (k := 1) (rl_o0 E) rfl (by decide) rfl ⟨ni_Ro, nf_Ro_19⟩ ?_
  refine rl_get (pc := 23) Γ nd_Ro_size_23 hO (k := 0) (rl_o3 E) rfl (by decide) rfl ⟨ni_Pl, nf_Ro_30⟩ ?_
  refine rl_iload_n (pc := 26) Γ nd_Ro_size_26 1 rfl ?_
  obtain ⟨q7, q7h, h⟩ := rl_bd h
  refine rl_callVi (As := [.int x1]) (pc := 27) Γ nd_Ro_size_27 hO (rw_Rl_sizesOf l E x1  q5.2.2 q7 q7h) 1 nm_Ro_59 nm_im_Rl_sizesOf nm_se_Rl_sizesOf nm_ini_Rl nh_Rl_sizesOf (rl_o4 E) rfl ⟨rfl, rfl⟩ (by decide +kernel) (Nat.le_of_ble_eq_true rfl) (Nat.le_of_ble_eq_true rfl) ⟨Nat.zero_le _, Nat.zero_le _⟩ (Nat.le_of_ble_eq_true rfl) rfl rfl ?_
  refine rl_iconst (v := 4) (pc := 30) Γ nd_Ro_size_30 (by decide) ?_
  refine rl_icmp_lt (tgt := 44) (pc := 31) Γ nd_Ro_size_31 (by decide) (fun q9 => ?_) (fun q9 => ?_)
  · have h := rl_ift q9 h
    refine rl_aload_n (pc := 44) Γ nd_Ro_size_44 0 rfl ?_
    refine rl_get (pc := 45) Γ nd_Ro_size_45 hO (k := 1) (rl_o0 E) rfl (by decide) rfl ⟨ni_Ro, nf_Ro_19⟩ ?_
    obtain ⟨q10, q10h, h⟩ := rl_bd h
    refine rl_callVv (As := []) (pc := 48) Γ nd_Ro_size_48 hO (rw_Pl_forget l E   q7.2 q10 q10h) 0 nm_Ro_65 nm_im_Pl_forget nm_se_Pl_forget nm_ini_Pl nh_Pl_forget (rl_o3 E) rfl ⟨rfl, rfl⟩ (by decide +kernel) (Nat.le_of_ble_eq_true rfl) (Nat.le_of_ble_eq_true rfl) ⟨Nat.zero_le _, Nat.zero_le _⟩ (Nat.le_of_ble_eq_true rfl) rfl rfl ?_
    refine rl_aload_n (pc := 51) Γ nd_Ro_size_51 0 rfl ?_
    refine rl_get (pc := 52) Γ nd_Ro_size_52 hO (k := 1) (rl_o0 E) rfl (by decide) rfl ⟨ni_Ro, nf_Ro_19⟩ ?_
    refine rl_get (pc := 55) Γ nd_Ro_size_55 hO (k := 0) (rl_o3 E) rfl (by decide) rfl ⟨ni_Pl, nf_Ro_30⟩ ?_
    refine rl_iload_n (pc := 58) Γ nd_Ro_size_58 1 rfl ?_
    refine rl_iload_n (pc := 59) Γ nd_Ro_size_59 2 rfl ?_
    refine rl_iload_n (pc := 60) Γ nd_Ro_size_60 3 rfl ?_
    obtain ⟨q12, q12h, h⟩ := rl_bd h
    refine rl_callVi (As := [.int x1, .int x2, .int x3]) (pc := 61) Γ nd_Ro_size_61 hO (rw_Rl_addSize l E x1 x2 x3  q10.2 q12 q12h) 3 nm_Ro_68 nm_im_Rl_addSize nm_se_Rl_addSize nm_ini_Rl nh_Rl_addSize (rl_o4 E) rfl ⟨rfl, rfl⟩ (by decide +kernel) (Nat.le_of_ble_eq_true rfl) (Nat.le_of_ble_eq_true rfl) ⟨Nat.zero_le _, Nat.zero_le _⟩ (Nat.le_of_ble_eq_true rfl) rfl rfl ?_
    exact rl_iret (pc := 64) Γ nd_Ro_size_64 hr hk (rl_x0 h)
  · have h := rl_iff q9 h
    exact (rl_xn hr0 (by decide) h).elim
set_option maxHeartbeats 4000000 in
set_option maxRecDepth 100000 in
theorem rwt_Ro_size (l : Launch) (hlq : rl_Lq l) (E : rl_E) (x1 : Int32) (x2 : Int32) (x3 : Int32) (σ : rl_M) (r : Nat × Int32 × rl_M) (h : rf_Ro_size x1 x2 x3 σ = some r) (hr1 : ¬ r.1 = 0) : rl_MT l ny_Ro_size nw_Ro_size nr_Ro_sizeT E [.ref (E.1 0), .int x1, .int x2, .int x3] σ (rl_exc r.1) r.2.2 := by
  refine rl_MT.ofW (cc := nc_Ro_size) (maxL := 4) (ret := (some .int)) (by decide) rfl ?_
  intro p e s m args below meth c s₁ B hml hv
  obtain ⟨rfl, hP, hO⟩ := hv
  have Γ : CallFix p m c nc_Ro_size 4 s ([.ref (E.1 0), .int x1, .int x2, .int x3] : List Value).toArray rl_TT nR_Ro := ⟨B.exec, B.bytes, hml, findClass_of_methodNamed B.named, fun w hw => atoms_spec (ws := nw_Ro_size) B.pre w (List.mem_cons_of_mem _ hw)⟩
  have hr := B.returns
  have hk := B.notSynchronized
  have hno := BodyLoose.noHandlers B (atoms_spec (ws := nw_Ro_size) B.pre _ List.mem_cons_self)
  refine r0_start (R := nr_Ro_sizeT) (nL := 4) (av := [.ref (E.1 0), .int x1, .int x2, .int x3]) (Nat.le_of_ble_eq_true rfl) ?_
  unfold rf_Ro_size at h
  refine r0_aload_n (pc := 0) Γ nd_Ro_size_0 0 rfl ?_
  refine r0_iload_n (pc := 1) Γ nd_Ro_size_1 1 rfl ?_
  obtain ⟨q1, q1h, h⟩ := rl_bd h
  by_cases q2 : q1.1 = 0
  case neg =>
    have h := rl_iff q2 h
    cases h
    exact r0_callVT (As := [.int x1]) (st := []) hP (pc := 2) Γ nd_Ro_size_2 hO hk hno (rwt_Ro_needRoom l hlq E x1 σ q1 q1h q2) 1 nm_Ro_51 nm_im_Ro_needRoom nm_se_Ro_needRoom nm_ini_Ro nh_Ro_needRoom (rl_o0 E) rfl ⟨rfl, rfl⟩ (by decide +kernel) (Nat.le_of_ble_eq_true rfl) (Nat.le_of_ble_eq_true rfl) ⟨Nat.le_of_ble_eq_true rfl, Nat.le_of_ble_eq_true rfl⟩ (Nat.le_of_ble_eq_true rfl) rfl rfl
  have h := rl_ift q2 h
  rw [rp_Ro_needRoom q1h q2] at h
  refine r0_callV (As := [.int x1]) hP (pc := 2) Γ nd_Ro_size_2 hO (rwp_Ro_needRoom l E x1 σ q1 q1h q2) 1 nm_Ro_51 nm_im_Ro_needRoom nm_se_Ro_needRoom nm_ini_Ro nh_Ro_needRoom (rl_o0 E) rfl ⟨rfl, rfl⟩ (by decide +kernel) (Nat.le_of_ble_eq_true rfl) (Nat.le_of_ble_eq_true rfl) (Nat.le_of_ble_eq_true rfl) rfl rfl ?_
  refine r0_iload_n (pc := 5) Γ nd_Ro_size_5 2 rfl ?_
  refine r0_iconst (v := 1) (pc := 6) Γ nd_Ro_size_6 (by decide) ?_
  refine r0_bipush (v := 60) (pc := 7) Γ nd_Ro_size_7 (by decide) ?_
  obtain ⟨q3, q3h, h⟩ := rl_bd h
  by_cases q4 : q3.1 = 0
  case neg =>
    have h := rl_iff q4 h
    cases h
    exact r0_callST (As := [.int x2, .int 1, .int 60]) (st := []) hP (pc := 9) Γ nd_Ro_size_9 hO hk hno (rwt_Ro_needWithin l hlq E x2 1 60 σ q3 q3h q4) 3 nm_Ro_55 nm_st_Ro_needWithin nm_ini_Ro nh_Ro_needWithin ⟨rfl, rfl⟩ (by decide +kernel) (Nat.le_of_ble_eq_true rfl) (Nat.le_of_ble_eq_true rfl) ⟨Nat.le_of_ble_eq_true rfl, Nat.le_of_ble_eq_true rfl⟩ (Nat.le_of_ble_eq_true rfl) rfl rfl
  have h := rl_ift q4 h
  rw [rp_Ro_needWithin q3h q4] at h
  refine r0_callS (As := [.int x2, .int 1, .int 60]) hP (pc := 9) Γ nd_Ro_size_9 hO (rwp_Ro_needWithin l E x2 1 60 σ q3 q3h q4) 3 nm_Ro_55 nm_st_Ro_needWithin nm_ini_Ro nh_Ro_needWithin ⟨rfl, rfl⟩ (by decide +kernel) (Nat.le_of_ble_eq_true rfl) (Nat.le_of_ble_eq_true rfl) (Nat.le_of_ble_eq_true rfl) rfl rfl ?_
  refine r0_iload_n (pc := 12) Γ nd_Ro_size_12 3 rfl ?_
  refine r0_iconst (v := 1) (pc := 13) Γ nd_Ro_size_13 (by decide) ?_
  refine r0_bipush (v := 60) (pc := 14) Γ nd_Ro_size_14 (by decide) ?_
  obtain ⟨q5, q5h, h⟩ := rl_bd h
  by_cases q6 : q5.1 = 0
  case neg =>
    have h := rl_iff q6 h
    cases h
    exact r0_callST (As := [.int x3, .int 1, .int 60]) (st := []) hP (pc := 16) Γ nd_Ro_size_16 hO hk hno (rwt_Ro_needWithin l hlq E x3 1 60 σ q5 q5h q6) 3 nm_Ro_55 nm_st_Ro_needWithin nm_ini_Ro nh_Ro_needWithin ⟨rfl, rfl⟩ (by decide +kernel) (Nat.le_of_ble_eq_true rfl) (Nat.le_of_ble_eq_true rfl) ⟨Nat.le_of_ble_eq_true rfl, Nat.le_of_ble_eq_true rfl⟩ (Nat.le_of_ble_eq_true rfl) rfl rfl
  have h := rl_ift q6 h
  rw [rp_Ro_needWithin q5h q6] at h
  refine r0_callS (As := [.int x3, .int 1, .int 60]) hP (pc := 16) Γ nd_Ro_size_16 hO (rwp_Ro_needWithin l E x3 1 60 σ q5 q5h q6) 3 nm_Ro_55 nm_st_Ro_needWithin nm_ini_Ro nh_Ro_needWithin ⟨rfl, rfl⟩ (by decide +kernel) (Nat.le_of_ble_eq_true rfl) (Nat.le_of_ble_eq_true rfl) (Nat.le_of_ble_eq_true rfl) rfl rfl ?_
  refine r0_aload_n (pc := 19) Γ nd_Ro_size_19 0 rfl ?_
  refine r0_get hP (pc := 20) Γ nd_Ro_size_20 hO (k := 1) (rl_o0 E) rfl (by decide) rfl ⟨ni_Ro, nf_Ro_19⟩ ?_
  refine r0_get hP (pc := 23) Γ nd_Ro_size_23 hO (k := 0) (rl_o3 E) rfl (by decide) rfl ⟨ni_Pl, nf_Ro_30⟩ ?_
  refine r0_iload_n (pc := 26) Γ nd_Ro_size_26 1 rfl ?_
  obtain ⟨q7, q7h, h⟩ := rl_bd h
  rw [rp_Rl_sizesOf q7h] at h
  refine r0_callV (As := [.int x1]) hP (pc := 27) Γ nd_Ro_size_27 hO (rwp_Rl_sizesOf l E x1 σ q7 q7h) 1 nm_Ro_59 nm_im_Rl_sizesOf nm_se_Rl_sizesOf nm_ini_Rl nh_Rl_sizesOf (rl_o4 E) rfl ⟨rfl, rfl⟩ (by decide +kernel) (Nat.le_of_ble_eq_true rfl) (Nat.le_of_ble_eq_true rfl) (Nat.le_of_ble_eq_true rfl) rfl rfl ?_
  refine r0_iconst (v := 4) (pc := 30) Γ nd_Ro_size_30 (by decide) ?_
  refine r0_icmp_lt (tgt := 44) (pc := 31) Γ nd_Ro_size_31 (by decide) (fun q9 => ?_) (fun q9 => ?_)
  · have h := rl_ift q9 h
    obtain ⟨q10, q10h, h⟩ := rl_bd h
    obtain ⟨q12, q12h, h⟩ := rl_bd h
    exact (rl_x1 hr1 h).elim
  · have h := rl_iff q9 h
    cases h
    exact r0_throw (X := "java/lang/IllegalStateException") (pc := 34) hP Γ hlq hO hk hno nd_Ro_size_34 nd_Ro_size_37 nd_Ro_size_38 nd_Ro_size_40 nd_Ro_size_43 nx_cS nx_iS nx_nS hO.2.2.2.1.2.2.1 (by decide +kernel) (rl_own_S hO Γ.2.2.2.2) ⟨Nat.le_of_ble_eq_true rfl, Nat.le_of_ble_eq_true rfl, Nat.le_of_ble_eq_true rfl, Nat.le_of_ble_eq_true rfl⟩
def rf_Ro_lot (x1 : Int32) (x2 : Int32) (σ : rl_M) : Option (Nat × Int32 × rl_M) := ((rf_Ro_needWithin x1 1 400 σ).bind (fun q1 => (if q1.1 = 0 then ((rf_Ro_needWithin x2 1 400 q1.2.2).bind (fun q3 => (if q3.1 = 0 then ((rf_Pl_setLot x1 x2 q3.2.2).bind (fun q5 => some (0, 0, q5.2))) else some (q3.1, 0, q3.2.2)))) else some (q1.1, 0, q1.2.2))))
set_option maxHeartbeats 4000000 in
set_option maxRecDepth 100000 in
theorem rwn_Ro_lot (l : Launch) (E : rl_E) (x1 : Int32) (x2 : Int32) (σ : rl_M) (r : Nat × Int32 × rl_M) (h : rf_Ro_lot x1 x2 σ = some r) (hr0 : r.1 = 0) : Met l ny_Ro_lot nw_Ro_lot nr_Ro_lot (rl_P E [.ref (E.1 0), .int x1, .int x2] σ) (rl_Q E (rl_rv r.2.1) r.2.2) 0 0 (rl_A E) := by
  refine Met.ofW (cc := nc_Ro_lot) (maxL := 3) (ret := none) (by decide) rfl ?_
  intro p e s m args below meth c s₁ B hml hv
  obtain ⟨rfl, hP, hO⟩ := hv
  have Γ : CallFix p m c nc_Ro_lot 3 s ([.ref (E.1 0), .int x1, .int x2] : List Value).toArray rl_TT nR_Ro := ⟨B.exec, B.bytes, hml, findClass_of_methodNamed B.named, fun w hw => atoms_spec (ws := nw_Ro_lot) B.pre w (List.mem_cons_of_mem _ hw)⟩
  have hr := B.returns
  have hk := B.notSynchronized
  have hno := BodyLoose.noHandlers B (atoms_spec (ws := nw_Ro_lot) B.pre _ List.mem_cons_self)
  refine rl_start (R := nr_Ro_lot) (Q := rl_QM below _ s E rl_rv r.2) (nL := 3) (av := [.ref (E.1 0), .int x1, .int x2]) (σ := σ) hP (Nat.le_of_ble_eq_true rfl) ?_
  unfold rf_Ro_lot at h
  refine rl_iload_n (pc := 0) Γ nd_Ro_lot_0 1 rfl ?_
  refine rl_iconst (v := 1) (pc := 1) Γ nd_Ro_lot_1 (by decide) ?_
  refine rl_sipush (v := 400) (pc := 2) Γ nd_Ro_lot_2 (by decide) ?_
  obtain ⟨q1, q1h, h⟩ := rl_bd h
  by_cases q2 : q1.1 = 0
  case neg => exact (rl_xn hr0 q2 (rl_iff q2 h)).elim
  have h := rl_ift q2 h
  refine rl_callSv (As := [.int x1, .int 1, .int 400]) (pc := 5) Γ nd_Ro_lot_5 hO (rwn_Ro_needWithin l E x1 1 400 σ q1 q1h q2) 3 nm_Ro_55 nm_st_Ro_needWithin nm_ini_Ro nh_Ro_needWithin ⟨rfl, rfl⟩ (by decide +kernel) (Nat.le_of_ble_eq_true rfl) (Nat.le_of_ble_eq_true rfl) ⟨Nat.zero_le _, Nat.zero_le _⟩ (Nat.le_of_ble_eq_true rfl) rfl rfl ?_
  refine rl_iload_n (pc := 8) Γ nd_Ro_lot_8 2 rfl ?_
  refine rl_iconst (v := 1) (pc := 9) Γ nd_Ro_lot_9 (by decide) ?_
  refine rl_sipush (v := 400) (pc := 10) Γ nd_Ro_lot_10 (by decide) ?_
  obtain ⟨q3, q3h, h⟩ := rl_bd h
  by_cases q4 : q3.1 = 0
  case neg => exact (rl_xn hr0 q4 (rl_iff q4 h)).elim
  have h := rl_ift q4 h
  refine rl_callSv (As := [.int x2, .int 1, .int 400]) (pc := 13) Γ nd_Ro_lot_13 hO (rwn_Ro_needWithin l E x2 1 400 q1.2.2 q3 q3h q4) 3 nm_Ro_55 nm_st_Ro_needWithin nm_ini_Ro nh_Ro_needWithin ⟨rfl, rfl⟩ (by decide +kernel) (Nat.le_of_ble_eq_true rfl) (Nat.le_of_ble_eq_true rfl) ⟨Nat.zero_le _, Nat.zero_le _⟩ (Nat.le_of_ble_eq_true rfl) rfl rfl ?_
  refine rl_aload_n (pc := 16) Γ nd_Ro_lot_16 0 rfl ?_
  refine rl_get (pc := 17) Γ nd_Ro_lot_17 hO (k := 1) (rl_o0 E) rfl (by decide) rfl ⟨ni_Ro, nf_Ro_19⟩ ?_
  refine rl_iload_n (pc := 20) Γ nd_Ro_lot_20 1 rfl ?_
  refine rl_iload_n (pc := 21) Γ nd_Ro_lot_21 2 rfl ?_
  obtain ⟨q5, q5h, h⟩ := rl_bd h
  refine rl_callVv (As := [.int x1, .int x2]) (pc := 22) Γ nd_Ro_lot_22 hO (rw_Pl_setLot l E x1 x2  q3.2.2 q5 q5h) 2 nm_Ro_72 nm_im_Pl_setLot nm_se_Pl_setLot nm_ini_Pl nh_Pl_setLot (rl_o3 E) rfl ⟨rfl, rfl⟩ (by decide +kernel) (Nat.le_of_ble_eq_true rfl) (Nat.le_of_ble_eq_true rfl) ⟨Nat.zero_le _, Nat.zero_le _⟩ (Nat.le_of_ble_eq_true rfl) rfl rfl ?_
  exact rl_vret (pc := 25) Γ nd_Ro_lot_25 hr hk (rl_x0 h)
set_option maxHeartbeats 4000000 in
set_option maxRecDepth 100000 in
theorem rwt_Ro_lot (l : Launch) (hlq : rl_Lq l) (E : rl_E) (x1 : Int32) (x2 : Int32) (σ : rl_M) (r : Nat × Int32 × rl_M) (h : rf_Ro_lot x1 x2 σ = some r) (hr1 : ¬ r.1 = 0) : rl_MT l ny_Ro_lot nw_Ro_lot nr_Ro_lotT E [.ref (E.1 0), .int x1, .int x2] σ (rl_exc r.1) r.2.2 := by
  refine rl_MT.ofW (cc := nc_Ro_lot) (maxL := 3) (ret := none) (by decide) rfl ?_
  intro p e s m args below meth c s₁ B hml hv
  obtain ⟨rfl, hP, hO⟩ := hv
  have Γ : CallFix p m c nc_Ro_lot 3 s ([.ref (E.1 0), .int x1, .int x2] : List Value).toArray rl_TT nR_Ro := ⟨B.exec, B.bytes, hml, findClass_of_methodNamed B.named, fun w hw => atoms_spec (ws := nw_Ro_lot) B.pre w (List.mem_cons_of_mem _ hw)⟩
  have hr := B.returns
  have hk := B.notSynchronized
  have hno := BodyLoose.noHandlers B (atoms_spec (ws := nw_Ro_lot) B.pre _ List.mem_cons_self)
  refine r0_start (R := nr_Ro_lotT) (nL := 3) (av := [.ref (E.1 0), .int x1, .int x2]) (Nat.le_of_ble_eq_true rfl) ?_
  unfold rf_Ro_lot at h
  refine r0_iload_n (pc := 0) Γ nd_Ro_lot_0 1 rfl ?_
  refine r0_iconst (v := 1) (pc := 1) Γ nd_Ro_lot_1 (by decide) ?_
  refine r0_sipush (v := 400) (pc := 2) Γ nd_Ro_lot_2 (by decide) ?_
  obtain ⟨q1, q1h, h⟩ := rl_bd h
  by_cases q2 : q1.1 = 0
  case neg =>
    have h := rl_iff q2 h
    cases h
    exact r0_callST (As := [.int x1, .int 1, .int 400]) (st := []) hP (pc := 5) Γ nd_Ro_lot_5 hO hk hno (rwt_Ro_needWithin l hlq E x1 1 400 σ q1 q1h q2) 3 nm_Ro_55 nm_st_Ro_needWithin nm_ini_Ro nh_Ro_needWithin ⟨rfl, rfl⟩ (by decide +kernel) (Nat.le_of_ble_eq_true rfl) (Nat.le_of_ble_eq_true rfl) ⟨Nat.le_of_ble_eq_true rfl, Nat.le_of_ble_eq_true rfl⟩ (Nat.le_of_ble_eq_true rfl) rfl rfl
  have h := rl_ift q2 h
  rw [rp_Ro_needWithin q1h q2] at h
  refine r0_callS (As := [.int x1, .int 1, .int 400]) hP (pc := 5) Γ nd_Ro_lot_5 hO (rwp_Ro_needWithin l E x1 1 400 σ q1 q1h q2) 3 nm_Ro_55 nm_st_Ro_needWithin nm_ini_Ro nh_Ro_needWithin ⟨rfl, rfl⟩ (by decide +kernel) (Nat.le_of_ble_eq_true rfl) (Nat.le_of_ble_eq_true rfl) (Nat.le_of_ble_eq_true rfl) rfl rfl ?_
  refine r0_iload_n (pc := 8) Γ nd_Ro_lot_8 2 rfl ?_
  refine r0_iconst (v := 1) (pc := 9) Γ nd_Ro_lot_9 (by decide) ?_
  refine r0_sipush (v := 400) (pc := 10) Γ nd_Ro_lot_10 (by decide) ?_
  obtain ⟨q3, q3h, h⟩ := rl_bd h
  by_cases q4 : q3.1 = 0
  case neg =>
    have h := rl_iff q4 h
    cases h
    exact r0_callST (As := [.int x2, .int 1, .int 400]) (st := []) hP (pc := 13) Γ nd_Ro_lot_13 hO hk hno (rwt_Ro_needWithin l hlq E x2 1 400 σ q3 q3h q4) 3 nm_Ro_55 nm_st_Ro_needWithin nm_ini_Ro nh_Ro_needWithin ⟨rfl, rfl⟩ (by decide +kernel) (Nat.le_of_ble_eq_true rfl) (Nat.le_of_ble_eq_true rfl) ⟨Nat.le_of_ble_eq_true rfl, Nat.le_of_ble_eq_true rfl⟩ (Nat.le_of_ble_eq_true rfl) rfl rfl
  have h := rl_ift q4 h
  rw [rp_Ro_needWithin q3h q4] at h
  refine r0_callS (As := [.int x2, .int 1, .int 400]) hP (pc := 13) Γ nd_Ro_lot_13 hO (rwp_Ro_needWithin l E x2 1 400 σ q3 q3h q4) 3 nm_Ro_55 nm_st_Ro_needWithin nm_ini_Ro nh_Ro_needWithin ⟨rfl, rfl⟩ (by decide +kernel) (Nat.le_of_ble_eq_true rfl) (Nat.le_of_ble_eq_true rfl) (Nat.le_of_ble_eq_true rfl) rfl rfl ?_
  obtain ⟨q5, q5h, h⟩ := rl_bd h
  exact (rl_x1 hr1 h).elim
def rf_Ro_best (x1 : Int32) (σ : rl_M) : Option (Nat × Int32 × rl_M) := ((rf_Ro_needWithin x1 0 2 σ).bind (fun q1 => (if q1.1 = 0 then ((rf_Pl_measure  q1.2.2).bind (fun q3 => ((rf_Pl_hasBest  q3.2).bind (fun q5 => (if q5.1 = 0 then some (0, (-1), q5.2) else (if x1 = 0 then ((rf_Pl_bestArea  q5.2).bind (fun q14 => some (0, q14.1, q14.2))) else (if x1 = 1 then ((rf_Pl_bestWidth  q5.2).bind (fun q12 => some (0, q12.1, q12.2))) else ((rf_Pl_bestHeight  q5.2).bind (fun q10 => some (0, q10.1, q10.2)))))))))) else some (q1.1, 0, q1.2.2))))
set_option maxHeartbeats 4000000 in
set_option maxRecDepth 100000 in
theorem rwn_Ro_best (l : Launch) (E : rl_E) (x1 : Int32) (σ : rl_M) (r : Nat × Int32 × rl_M) (h : rf_Ro_best x1 σ = some r) (hr0 : r.1 = 0) : Met l ny_Ro_best nw_Ro_best nr_Ro_best (rl_P E [.ref (E.1 0), .int x1] σ) (rl_Q E (rl_ri r.2.1) r.2.2) 0 0 (rl_A E) := by
  refine Met.ofW (cc := nc_Ro_best) (maxL := 2) (ret := (some .int)) (by decide) rfl ?_
  intro p e s m args below meth c s₁ B hml hv
  obtain ⟨rfl, hP, hO⟩ := hv
  have Γ : CallFix p m c nc_Ro_best 2 s ([.ref (E.1 0), .int x1] : List Value).toArray rl_TT nR_Ro := ⟨B.exec, B.bytes, hml, findClass_of_methodNamed B.named, fun w hw => atoms_spec (ws := nw_Ro_best) B.pre w (List.mem_cons_of_mem _ hw)⟩
  have hr := B.returns
  have hk := B.notSynchronized
  have hno := BodyLoose.noHandlers B (atoms_spec (ws := nw_Ro_best) B.pre _ List.mem_cons_self)
  refine rl_start (R := nr_Ro_best) (Q := rl_QM below _ s E rl_ri r.2) (nL := 2) (av := [.ref (E.1 0), .int x1]) (σ := σ) hP (Nat.le_of_ble_eq_true rfl) ?_
  unfold rf_Ro_best at h
  refine rl_iload_n (pc := 0) Γ nd_Ro_best_0 1 rfl ?_
  refine rl_iconst (v := 0) (pc := 1) Γ nd_Ro_best_1 (by decide) ?_
  refine rl_iconst (v := 2) (pc := 2) Γ nd_Ro_best_2 (by decide) ?_
  obtain ⟨q1, q1h, h⟩ := rl_bd h
  by_cases q2 : q1.1 = 0
  case neg => exact (rl_xn hr0 q2 (rl_iff q2 h)).elim
  have h := rl_ift q2 h
  refine rl_callSv (As := [.int x1, .int 0, .int 2]) (pc := 3) Γ nd_Ro_best_3 hO (rwn_Ro_needWithin l E x1 0 2 σ q1 q1h q2) 3 nm_Ro_55 nm_st_Ro_needWithin nm_ini_Ro nh_Ro_needWithin ⟨rfl, rfl⟩ (by decide +kernel) (Nat.le_of_ble_eq_true rfl) (Nat.le_of_ble_eq_true rfl) ⟨Nat.zero_le _, Nat.zero_le _⟩ (Nat.le_of_ble_eq_true rfl) rfl rfl ?_
  refine rl_aload_n (pc := 6) Γ nd_Ro_best_6 0 rfl ?_
  refine rl_get (pc := 7) Γ nd_Ro_best_7 hO (k := 1) (rl_o0 E) rfl (by decide) rfl ⟨ni_Ro, nf_Ro_19⟩ ?_
  obtain ⟨q3, q3h, h⟩ := rl_bd h
  refine rl_callVv (As := []) (pc := 10) Γ nd_Ro_best_10 hO (rw_Pl_measure l E   q1.2.2 q3 q3h) 0 nm_Ro_97 nm_im_Pl_measure nm_se_Pl_measure nm_ini_Pl nh_Pl_measure (rl_o3 E) rfl ⟨rfl, rfl⟩ (by decide +kernel) (Nat.le_of_ble_eq_true rfl) (Nat.le_of_ble_eq_true rfl) ⟨Nat.zero_le _, Nat.zero_le _⟩ (Nat.le_of_ble_eq_true rfl) rfl rfl ?_
  refine rl_aload_n (pc := 13) Γ nd_Ro_best_13 0 rfl ?_
  refine rl_get (pc := 14) Γ nd_Ro_best_14 hO (k := 1) (rl_o0 E) rfl (by decide) rfl ⟨ni_Ro, nf_Ro_19⟩ ?_
  obtain ⟨q5, q5h, h⟩ := rl_bd h
  refine rl_callVi (As := []) (pc := 17) Γ nd_Ro_best_17 hO (rw_Pl_hasBest l E   q3.2 q5 q5h) 0 nm_Ro_100 nm_im_Pl_hasBest nm_se_Pl_hasBest nm_ini_Pl nh_Pl_hasBest (rl_o3 E) rfl ⟨rfl, rfl⟩ (by decide +kernel) (Nat.le_of_ble_eq_true rfl) (Nat.le_of_ble_eq_true rfl) ⟨Nat.zero_le _, Nat.zero_le _⟩ (Nat.le_of_ble_eq_true rfl) rfl rfl ?_
  refine rl_if_ne (tgt := 25) (pc := 20) Γ nd_Ro_best_20 (by decide) (fun q7 => ?_) (fun q7 => ?_)
  · have h := rl_iff q7 h
    refine rl_iload_n (pc := 25) Γ nd_Ro_best_25 1 rfl ?_
    refine rl_if_ne (tgt := 37) (pc := 26) Γ nd_Ro_best_26 (by decide) (fun q8 => ?_) (fun q8 => ?_)
    · have h := rl_iff q8 h
      refine rl_iload_n (pc := 37) Γ nd_Ro_best_37 1 rfl ?_
      refine rl_iconst (v := 1) (pc := 38) Γ nd_Ro_best_38 (by decide) ?_
      refine rl_icmp_ne (tgt := 52) (pc := 39) Γ nd_Ro_best_39 (by decide) (fun q9 => ?_) (fun q9 => ?_)
      · have h := rl_iff q9 h
        refine rl_aload_n (pc := 52) Γ nd_Ro_best_52 0 rfl ?_
        refine rl_get (pc := 53) Γ nd_Ro_best_53 hO (k := 1) (rl_o0 E) rfl (by decide) rfl ⟨ni_Ro, nf_Ro_19⟩ ?_
        obtain ⟨q10, q10h, h⟩ := rl_bd h
        refine rl_callVi (As := []) (pc := 56) Γ nd_Ro_best_56 hO (rw_Pl_bestHeight l E   q5.2 q10 q10h) 0 nm_Ro_110 nm_im_Pl_bestHeight nm_se_Pl_bestHeight nm_ini_Pl nh_Pl_bestHeight (rl_o3 E) rfl ⟨rfl, rfl⟩ (by decide +kernel) (Nat.le_of_ble_eq_true rfl) (Nat.le_of_ble_eq_true rfl) ⟨Nat.zero_le _, Nat.zero_le _⟩ (Nat.le_of_ble_eq_true rfl) rfl rfl ?_
        exact rl_iret (pc := 59) Γ nd_Ro_best_59 hr hk (rl_x0 h)
      · have h := rl_ift q9 h
        refine rl_aload_n (pc := 42) Γ nd_Ro_best_42 0 rfl ?_
        refine rl_get (pc := 43) Γ nd_Ro_best_43 hO (k := 1) (rl_o0 E) rfl (by decide) rfl ⟨ni_Ro, nf_Ro_19⟩ ?_
        obtain ⟨q12, q12h, h⟩ := rl_bd h
        refine rl_callVi (As := []) (pc := 46) Γ nd_Ro_best_46 hO (rw_Pl_bestWidth l E   q5.2 q12 q12h) 0 nm_Ro_107 nm_im_Pl_bestWidth nm_se_Pl_bestWidth nm_ini_Pl nh_Pl_bestWidth (rl_o3 E) rfl ⟨rfl, rfl⟩ (by decide +kernel) (Nat.le_of_ble_eq_true rfl) (Nat.le_of_ble_eq_true rfl) ⟨Nat.zero_le _, Nat.zero_le _⟩ (Nat.le_of_ble_eq_true rfl) rfl rfl ?_
        refine rl_goto (tgt := 59) (pc := 49) Γ nd_Ro_best_49 (by decide) ?_
        exact rl_iret (pc := 59) Γ nd_Ro_best_59 hr hk (rl_x0 h)
    · have h := rl_ift q8 h
      refine rl_aload_n (pc := 29) Γ nd_Ro_best_29 0 rfl ?_
      refine rl_get (pc := 30) Γ nd_Ro_best_30 hO (k := 1) (rl_o0 E) rfl (by decide) rfl ⟨ni_Ro, nf_Ro_19⟩ ?_
      obtain ⟨q14, q14h, h⟩ := rl_bd h
      refine rl_callVi (As := []) (pc := 33) Γ nd_Ro_best_33 hO (rw_Pl_bestArea l E   q5.2 q14 q14h) 0 nm_Ro_104 nm_im_Pl_bestArea nm_se_Pl_bestArea nm_ini_Pl nh_Pl_bestArea (rl_o3 E) rfl ⟨rfl, rfl⟩ (by decide +kernel) (Nat.le_of_ble_eq_true rfl) (Nat.le_of_ble_eq_true rfl) ⟨Nat.zero_le _, Nat.zero_le _⟩ (Nat.le_of_ble_eq_true rfl) rfl rfl ?_
      exact rl_iret (pc := 36) Γ nd_Ro_best_36 hr hk (rl_x0 h)
  · have h := rl_ift q7 h
    refine rl_iconst (v := (-1)) (pc := 23) Γ nd_Ro_best_23 (by decide) ?_
    exact rl_iret (pc := 24) Γ nd_Ro_best_24 hr hk (rl_x0 h)
set_option maxHeartbeats 4000000 in
set_option maxRecDepth 100000 in
theorem rwt_Ro_best (l : Launch) (hlq : rl_Lq l) (E : rl_E) (x1 : Int32) (σ : rl_M) (r : Nat × Int32 × rl_M) (h : rf_Ro_best x1 σ = some r) (hr1 : ¬ r.1 = 0) : rl_MT l ny_Ro_best nw_Ro_best nr_Ro_bestT E [.ref (E.1 0), .int x1] σ (rl_exc r.1) r.2.2 := by
  refine rl_MT.ofW (cc := nc_Ro_best) (maxL := 2) (ret := (some .int)) (by decide) rfl ?_
  intro p e s m args below meth c s₁ B hml hv
  obtain ⟨rfl, hP, hO⟩ := hv
  have Γ : CallFix p m c nc_Ro_best 2 s ([.ref (E.1 0), .int x1] : List Value).toArray rl_TT nR_Ro := ⟨B.exec, B.bytes, hml, findClass_of_methodNamed B.named, fun w hw => atoms_spec (ws := nw_Ro_best) B.pre w (List.mem_cons_of_mem _ hw)⟩
  have hr := B.returns
  have hk := B.notSynchronized
  have hno := BodyLoose.noHandlers B (atoms_spec (ws := nw_Ro_best) B.pre _ List.mem_cons_self)
  refine r0_start (R := nr_Ro_bestT) (nL := 2) (av := [.ref (E.1 0), .int x1]) (Nat.le_of_ble_eq_true rfl) ?_
  unfold rf_Ro_best at h
  refine r0_iload_n (pc := 0) Γ nd_Ro_best_0 1 rfl ?_
  refine r0_iconst (v := 0) (pc := 1) Γ nd_Ro_best_1 (by decide) ?_
  refine r0_iconst (v := 2) (pc := 2) Γ nd_Ro_best_2 (by decide) ?_
  obtain ⟨q1, q1h, h⟩ := rl_bd h
  by_cases q2 : q1.1 = 0
  case neg =>
    have h := rl_iff q2 h
    cases h
    exact r0_callST (As := [.int x1, .int 0, .int 2]) (st := []) hP (pc := 3) Γ nd_Ro_best_3 hO hk hno (rwt_Ro_needWithin l hlq E x1 0 2 σ q1 q1h q2) 3 nm_Ro_55 nm_st_Ro_needWithin nm_ini_Ro nh_Ro_needWithin ⟨rfl, rfl⟩ (by decide +kernel) (Nat.le_of_ble_eq_true rfl) (Nat.le_of_ble_eq_true rfl) ⟨Nat.le_of_ble_eq_true rfl, Nat.le_of_ble_eq_true rfl⟩ (Nat.le_of_ble_eq_true rfl) rfl rfl
  have h := rl_ift q2 h
  rw [rp_Ro_needWithin q1h q2] at h
  refine r0_callS (As := [.int x1, .int 0, .int 2]) hP (pc := 3) Γ nd_Ro_best_3 hO (rwp_Ro_needWithin l E x1 0 2 σ q1 q1h q2) 3 nm_Ro_55 nm_st_Ro_needWithin nm_ini_Ro nh_Ro_needWithin ⟨rfl, rfl⟩ (by decide +kernel) (Nat.le_of_ble_eq_true rfl) (Nat.le_of_ble_eq_true rfl) (Nat.le_of_ble_eq_true rfl) rfl rfl ?_
  obtain ⟨q3, q3h, h⟩ := rl_bd h
  obtain ⟨q5, q5h, h⟩ := rl_bd h
  by_cases q7 : q5.1 = 0
  · have h := rl_ift q7 h
    exact (rl_x1 hr1 h).elim
  · have h := rl_iff q7 h
    by_cases q8 : x1 = 0
    · have h := rl_ift q8 h
      obtain ⟨q14, q14h, h⟩ := rl_bd h
      exact (rl_x1 hr1 h).elim
    · have h := rl_iff q8 h
      by_cases q9 : x1 = 1
      · have h := rl_ift q9 h
        obtain ⟨q12, q12h, h⟩ := rl_bd h
        exact (rl_x1 hr1 h).elim
      · have h := rl_iff q9 h
        obtain ⟨q10, q10h, h⟩ := rl_bd h
        exact (rl_x1 hr1 h).elim
def rf_Ro_place (x1 : Int32) (x2 : Int32) (σ : rl_M) : Option (Nat × Int32 × rl_M) := ((rf_Ro_needRoom x1 σ).bind (fun q1 => (if q1.1 = 0 then ((rf_Ro_needWithin x2 0 4 q1.2.2).bind (fun q3 => (if q3.1 = 0 then ((rf_Pl_settle  q3.2.2).bind (fun q5 => ((rf_Pl_readPlace x1 x2 q5.2).bind (fun q7 => some (0, q7.1, q7.2))))) else some (q3.1, 0, q3.2.2)))) else some (q1.1, 0, q1.2.2))))
set_option maxHeartbeats 4000000 in
set_option maxRecDepth 100000 in
theorem rwn_Ro_place (l : Launch) (E : rl_E) (x1 : Int32) (x2 : Int32) (σ : rl_M) (r : Nat × Int32 × rl_M) (h : rf_Ro_place x1 x2 σ = some r) (hr0 : r.1 = 0) : Met l ny_Ro_place nw_Ro_place nr_Ro_place (rl_P E [.ref (E.1 0), .int x1, .int x2] σ) (rl_Q E (rl_ri r.2.1) r.2.2) 0 0 (rl_A E) := by
  refine Met.ofW (cc := nc_Ro_place) (maxL := 3) (ret := (some .int)) (by decide) rfl ?_
  intro p e s m args below meth c s₁ B hml hv
  obtain ⟨rfl, hP, hO⟩ := hv
  have Γ : CallFix p m c nc_Ro_place 3 s ([.ref (E.1 0), .int x1, .int x2] : List Value).toArray rl_TT nR_Ro := ⟨B.exec, B.bytes, hml, findClass_of_methodNamed B.named, fun w hw => atoms_spec (ws := nw_Ro_place) B.pre w (List.mem_cons_of_mem _ hw)⟩
  have hr := B.returns
  have hk := B.notSynchronized
  have hno := BodyLoose.noHandlers B (atoms_spec (ws := nw_Ro_place) B.pre _ List.mem_cons_self)
  refine rl_start (R := nr_Ro_place) (Q := rl_QM below _ s E rl_ri r.2) (nL := 3) (av := [.ref (E.1 0), .int x1, .int x2]) (σ := σ) hP (Nat.le_of_ble_eq_true rfl) ?_
  unfold rf_Ro_place at h
  refine rl_aload_n (pc := 0) Γ nd_Ro_place_0 0 rfl ?_
  refine rl_iload_n (pc := 1) Γ nd_Ro_place_1 1 rfl ?_
  obtain ⟨q1, q1h, h⟩ := rl_bd h
  by_cases q2 : q1.1 = 0
  case neg => exact (rl_xn hr0 q2 (rl_iff q2 h)).elim
  have h := rl_ift q2 h
  refine rl_callVv (As := [.int x1]) (pc := 2) Γ nd_Ro_place_2 hO (rwn_Ro_needRoom l E x1 σ q1 q1h q2) 1 nm_Ro_51 nm_im_Ro_needRoom nm_se_Ro_needRoom nm_ini_Ro nh_Ro_needRoom (rl_o0 E) rfl ⟨rfl, rfl⟩ (by decide +kernel) (Nat.le_of_ble_eq_true rfl) (Nat.le_of_ble_eq_true rfl) ⟨Nat.zero_le _, Nat.zero_le _⟩ (Nat.le_of_ble_eq_true rfl) rfl rfl ?_
  refine rl_iload_n (pc := 5) Γ nd_Ro_place_5 2 rfl ?_
  refine rl_iconst (v := 0) (pc := 6) Γ nd_Ro_place_6 (by decide) ?_
  refine rl_iconst (v := 4) (pc := 7) Γ nd_Ro_place_7 (by decide) ?_
  obtain ⟨q3, q3h, h⟩ := rl_bd h
  by_cases q4 : q3.1 = 0
  case neg => exact (rl_xn hr0 q4 (rl_iff q4 h)).elim
  have h := rl_ift q4 h
  refine rl_callSv (As := [.int x2, .int 0, .int 4]) (pc := 8) Γ nd_Ro_place_8 hO (rwn_Ro_needWithin l E x2 0 4 q1.2.2 q3 q3h q4) 3 nm_Ro_55 nm_st_Ro_needWithin nm_ini_Ro nh_Ro_needWithin ⟨rfl, rfl⟩ (by decide +kernel) (Nat.le_of_ble_eq_true rfl) (Nat.le_of_ble_eq_true rfl) ⟨Nat.zero_le _, Nat.zero_le _⟩ (Nat.le_of_ble_eq_true rfl) rfl rfl ?_
  refine rl_aload_n (pc := 11) Γ nd_Ro_place_11 0 rfl ?_
  refine rl_get (pc := 12) Γ nd_Ro_place_12 hO (k := 1) (rl_o0 E) rfl (by decide) rfl ⟨ni_Ro, nf_Ro_19⟩ ?_
  obtain ⟨q5, q5h, h⟩ := rl_bd h
  refine rl_callVv (As := []) (pc := 15) Γ nd_Ro_place_15 hO (rw_Pl_settle l E   q3.2.2 q5 q5h) 0 nm_Ro_113 nm_im_Pl_settle nm_se_Pl_settle nm_ini_Pl nh_Pl_settle (rl_o3 E) rfl ⟨rfl, rfl⟩ (by decide +kernel) (Nat.le_of_ble_eq_true rfl) (Nat.le_of_ble_eq_true rfl) ⟨Nat.zero_le _, Nat.zero_le _⟩ (Nat.le_of_ble_eq_true rfl) rfl rfl ?_
  refine rl_aload_n (pc := 18) Γ nd_Ro_place_18 0 rfl ?_
  refine rl_get (pc := 19) Γ nd_Ro_place_19 hO (k := 1) (rl_o0 E) rfl (by decide) rfl ⟨ni_Ro, nf_Ro_19⟩ ?_
  refine rl_iload_n (pc := 22) Γ nd_Ro_place_22 1 rfl ?_
  refine rl_iload_n (pc := 23) Γ nd_Ro_place_23 2 rfl ?_
  obtain ⟨q7, q7h, h⟩ := rl_bd h
  refine rl_callVi (As := [.int x1, .int x2]) (pc := 24) Γ nd_Ro_place_24 hO (rw_Pl_readPlace l E x1 x2  q5.2 q7 q7h) 2 nm_Ro_116 nm_im_Pl_readPlace nm_se_Pl_readPlace nm_ini_Pl nh_Pl_readPlace (rl_o3 E) rfl ⟨rfl, rfl⟩ (by decide +kernel) (Nat.le_of_ble_eq_true rfl) (Nat.le_of_ble_eq_true rfl) ⟨Nat.zero_le _, Nat.zero_le _⟩ (Nat.le_of_ble_eq_true rfl) rfl rfl ?_
  exact rl_iret (pc := 27) Γ nd_Ro_place_27 hr hk (rl_x0 h)
set_option maxHeartbeats 4000000 in
set_option maxRecDepth 100000 in
theorem rwt_Ro_place (l : Launch) (hlq : rl_Lq l) (E : rl_E) (x1 : Int32) (x2 : Int32) (σ : rl_M) (r : Nat × Int32 × rl_M) (h : rf_Ro_place x1 x2 σ = some r) (hr1 : ¬ r.1 = 0) : rl_MT l ny_Ro_place nw_Ro_place nr_Ro_placeT E [.ref (E.1 0), .int x1, .int x2] σ (rl_exc r.1) r.2.2 := by
  refine rl_MT.ofW (cc := nc_Ro_place) (maxL := 3) (ret := (some .int)) (by decide) rfl ?_
  intro p e s m args below meth c s₁ B hml hv
  obtain ⟨rfl, hP, hO⟩ := hv
  have Γ : CallFix p m c nc_Ro_place 3 s ([.ref (E.1 0), .int x1, .int x2] : List Value).toArray rl_TT nR_Ro := ⟨B.exec, B.bytes, hml, findClass_of_methodNamed B.named, fun w hw => atoms_spec (ws := nw_Ro_place) B.pre w (List.mem_cons_of_mem _ hw)⟩
  have hr := B.returns
  have hk := B.notSynchronized
  have hno := BodyLoose.noHandlers B (atoms_spec (ws := nw_Ro_place) B.pre _ List.mem_cons_self)
  refine r0_start (R := nr_Ro_placeT) (nL := 3) (av := [.ref (E.1 0), .int x1, .int x2]) (Nat.le_of_ble_eq_true rfl) ?_
  unfold rf_Ro_place at h
  refine r0_aload_n (pc := 0) Γ nd_Ro_place_0 0 rfl ?_
  refine r0_iload_n (pc := 1) Γ nd_Ro_place_1 1 rfl ?_
  obtain ⟨q1, q1h, h⟩ := rl_bd h
  by_cases q2 : q1.1 = 0
  case neg =>
    have h := rl_iff q2 h
    cases h
    exact r0_callVT (As := [.int x1]) (st := []) hP (pc := 2) Γ nd_Ro_place_2 hO hk hno (rwt_Ro_needRoom l hlq E x1 σ q1 q1h q2) 1 nm_Ro_51 nm_im_Ro_needRoom nm_se_Ro_needRoom nm_ini_Ro nh_Ro_needRoom (rl_o0 E) rfl ⟨rfl, rfl⟩ (by decide +kernel) (Nat.le_of_ble_eq_true rfl) (Nat.le_of_ble_eq_true rfl) ⟨Nat.le_of_ble_eq_true rfl, Nat.le_of_ble_eq_true rfl⟩ (Nat.le_of_ble_eq_true rfl) rfl rfl
  have h := rl_ift q2 h
  rw [rp_Ro_needRoom q1h q2] at h
  refine r0_callV (As := [.int x1]) hP (pc := 2) Γ nd_Ro_place_2 hO (rwp_Ro_needRoom l E x1 σ q1 q1h q2) 1 nm_Ro_51 nm_im_Ro_needRoom nm_se_Ro_needRoom nm_ini_Ro nh_Ro_needRoom (rl_o0 E) rfl ⟨rfl, rfl⟩ (by decide +kernel) (Nat.le_of_ble_eq_true rfl) (Nat.le_of_ble_eq_true rfl) (Nat.le_of_ble_eq_true rfl) rfl rfl ?_
  refine r0_iload_n (pc := 5) Γ nd_Ro_place_5 2 rfl ?_
  refine r0_iconst (v := 0) (pc := 6) Γ nd_Ro_place_6 (by decide) ?_
  refine r0_iconst (v := 4) (pc := 7) Γ nd_Ro_place_7 (by decide) ?_
  obtain ⟨q3, q3h, h⟩ := rl_bd h
  by_cases q4 : q3.1 = 0
  case neg =>
    have h := rl_iff q4 h
    cases h
    exact r0_callST (As := [.int x2, .int 0, .int 4]) (st := []) hP (pc := 8) Γ nd_Ro_place_8 hO hk hno (rwt_Ro_needWithin l hlq E x2 0 4 σ q3 q3h q4) 3 nm_Ro_55 nm_st_Ro_needWithin nm_ini_Ro nh_Ro_needWithin ⟨rfl, rfl⟩ (by decide +kernel) (Nat.le_of_ble_eq_true rfl) (Nat.le_of_ble_eq_true rfl) ⟨Nat.le_of_ble_eq_true rfl, Nat.le_of_ble_eq_true rfl⟩ (Nat.le_of_ble_eq_true rfl) rfl rfl
  have h := rl_ift q4 h
  rw [rp_Ro_needWithin q3h q4] at h
  refine r0_callS (As := [.int x2, .int 0, .int 4]) hP (pc := 8) Γ nd_Ro_place_8 hO (rwp_Ro_needWithin l E x2 0 4 σ q3 q3h q4) 3 nm_Ro_55 nm_st_Ro_needWithin nm_ini_Ro nh_Ro_needWithin ⟨rfl, rfl⟩ (by decide +kernel) (Nat.le_of_ble_eq_true rfl) (Nat.le_of_ble_eq_true rfl) (Nat.le_of_ble_eq_true rfl) rfl rfl ?_
  obtain ⟨q5, q5h, h⟩ := rl_bd h
  obtain ⟨q7, q7h, h⟩ := rl_bd h
  exact (rl_x1 hr1 h).elim
def rf_Ro_needNotBelowZero (x0 : Int32) (σ : rl_M) : Option (Nat × Int32 × rl_M) := (if 0 ≤ x0 then some (0, 0, σ) else some (1, 0, σ))
theorem rp_Ro_needNotBelowZero {x0 : Int32} {σ : rl_M} {z : Nat × Int32 × rl_M} (h : rf_Ro_needNotBelowZero x0 σ = some z) (h0 : z.1 = 0) : z.2.2 = σ := by
  unfold rf_Ro_needNotBelowZero at h
  repeat' split at h
  all_goals cases h
  all_goals rfl
set_option maxHeartbeats 4000000 in
set_option maxRecDepth 100000 in
theorem rwn_Ro_needNotBelowZero (l : Launch) (E : rl_E) (x0 : Int32) (σ : rl_M) (r : Nat × Int32 × rl_M) (h : rf_Ro_needNotBelowZero x0 σ = some r) (hr0 : r.1 = 0) : Met l ny_Ro_needNotBelowZero nw_Ro_needNotBelowZero nr_Ro_needNotBelowZero (rl_P E [.int x0] σ) (rl_Q E (rl_rv r.2.1) r.2.2) 0 0 (rl_A E) := by
  refine Met.ofW (cc := nc_Ro_needNotBelowZero) (maxL := 1) (ret := none) (by decide) rfl ?_
  intro p e s m args below meth c s₁ B hml hv
  obtain ⟨rfl, hP, hO⟩ := hv
  have Γ : CallFix p m c nc_Ro_needNotBelowZero 1 s ([.int x0] : List Value).toArray rl_TT nR_Ro := ⟨B.exec, B.bytes, hml, findClass_of_methodNamed B.named, fun w hw => atoms_spec (ws := nw_Ro_needNotBelowZero) B.pre w (List.mem_cons_of_mem _ hw)⟩
  have hr := B.returns
  have hk := B.notSynchronized
  have hno := BodyLoose.noHandlers B (atoms_spec (ws := nw_Ro_needNotBelowZero) B.pre _ List.mem_cons_self)
  refine rl_start (R := nr_Ro_needNotBelowZero) (Q := rl_QM below _ s E rl_rv r.2) (nL := 1) (av := [.int x0]) (σ := σ) hP (Nat.le_of_ble_eq_true rfl) ?_
  unfold rf_Ro_needNotBelowZero at h
  refine rl_iload_n (pc := 0) Γ nd_Ro_needNotBelowZero_0 0 rfl ?_
  refine rl_if_ge (tgt := 14) (pc := 1) Γ nd_Ro_needNotBelowZero_1 (by decide) (fun q1 => ?_) (fun q1 => ?_)
  · have h := rl_ift q1 h
    exact rl_vret (pc := 14) Γ nd_Ro_needNotBelowZero_14 hr hk (rl_x0 h)
  · have h := rl_iff q1 h
    exact (rl_xn hr0 (by decide) h).elim
set_option maxHeartbeats 4000000 in
set_option maxRecDepth 100000 in
theorem rwt_Ro_needNotBelowZero (l : Launch) (hlq : rl_Lq l) (E : rl_E) (x0 : Int32) (σ : rl_M) (r : Nat × Int32 × rl_M) (h : rf_Ro_needNotBelowZero x0 σ = some r) (hr1 : ¬ r.1 = 0) : rl_MT l ny_Ro_needNotBelowZero nw_Ro_needNotBelowZero nr_Ro_needNotBelowZeroT E [.int x0] σ (rl_exc r.1) r.2.2 := by
  refine rl_MT.ofW (cc := nc_Ro_needNotBelowZero) (maxL := 1) (ret := none) (by decide) rfl ?_
  intro p e s m args below meth c s₁ B hml hv
  obtain ⟨rfl, hP, hO⟩ := hv
  have Γ : CallFix p m c nc_Ro_needNotBelowZero 1 s ([.int x0] : List Value).toArray rl_TT nR_Ro := ⟨B.exec, B.bytes, hml, findClass_of_methodNamed B.named, fun w hw => atoms_spec (ws := nw_Ro_needNotBelowZero) B.pre w (List.mem_cons_of_mem _ hw)⟩
  have hr := B.returns
  have hk := B.notSynchronized
  have hno := BodyLoose.noHandlers B (atoms_spec (ws := nw_Ro_needNotBelowZero) B.pre _ List.mem_cons_self)
  refine r0_start (R := nr_Ro_needNotBelowZeroT) (nL := 1) (av := [.int x0]) (Nat.le_of_ble_eq_true rfl) ?_
  unfold rf_Ro_needNotBelowZero at h
  refine r0_iload_n (pc := 0) Γ nd_Ro_needNotBelowZero_0 0 rfl ?_
  refine r0_if_ge (tgt := 14) (pc := 1) Γ nd_Ro_needNotBelowZero_1 (by decide) (fun q1 => ?_) (fun q1 => ?_)
  · have h := rl_ift q1 h
    exact (rl_x1 hr1 h).elim
  · have h := rl_iff q1 h
    cases h
    exact r0_throw (X := "java/lang/IllegalArgumentException") (pc := 4) hP Γ hlq hO hk hno nd_Ro_needNotBelowZero_4 nd_Ro_needNotBelowZero_7 nd_Ro_needNotBelowZero_8 nd_Ro_needNotBelowZero_10 nd_Ro_needNotBelowZero_13 nx_cA nx_iA nx_nA hO.2.2.2.1.2.2.2.1 (by decide +kernel) (rl_own_A hO Γ.2.2.2.2) ⟨Nat.le_of_ble_eq_true rfl, Nat.le_of_ble_eq_true rfl, Nat.le_of_ble_eq_true rfl, Nat.le_of_ble_eq_true rfl⟩
set_option maxHeartbeats 4000000 in
set_option maxRecDepth 100000 in
theorem rwp_Ro_needNotBelowZero (l : Launch) (E : rl_E) (x0 : Int32) (σ : rl_M) (r : Nat × Int32 × rl_M) (h : rf_Ro_needNotBelowZero x0 σ = some r) (hr0 : r.1 = 0) : Met l ny_Ro_needNotBelowZero nw_Ro_needNotBelowZero nr_Ro_needNotBelowZero (rl_P E [.int x0] σ) (rl_QP (rl_rv r.2.1)) 0 0 (fun _ => False) := by
  refine Met.ofW (cc := nc_Ro_needNotBelowZero) (maxL := 1) (ret := none) (by decide) rfl ?_
  intro p e s m args below meth c s₁ B hml hv
  obtain ⟨rfl, hP, hO⟩ := hv
  have Γ : CallFix p m c nc_Ro_needNotBelowZero 1 s ([.int x0] : List Value).toArray rl_TT nR_Ro := ⟨B.exec, B.bytes, hml, findClass_of_methodNamed B.named, fun w hw => atoms_spec (ws := nw_Ro_needNotBelowZero) B.pre w (List.mem_cons_of_mem _ hw)⟩
  have hr := B.returns
  have hk := B.notSynchronized
  have hno := BodyLoose.noHandlers B (atoms_spec (ws := nw_Ro_needNotBelowZero) B.pre _ List.mem_cons_self)
  refine r0_start (R := nr_Ro_needNotBelowZero) (nL := 1) (av := [.int x0]) (Nat.le_of_ble_eq_true rfl) ?_
  unfold rf_Ro_needNotBelowZero at h
  refine r0_iload_n (pc := 0) Γ nd_Ro_needNotBelowZero_0 0 rfl ?_
  refine r0_if_ge (tgt := 14) (pc := 1) Γ nd_Ro_needNotBelowZero_1 (by decide) (fun q1 => ?_) (fun q1 => ?_)
  · have h := rl_ift q1 h
    cases h
    exact r0_vret (pc := 14) Γ nd_Ro_needNotBelowZero_14 hr hk
  · have h := rl_iff q1 h
    exact (rl_xn hr0 (by decide) h).elim
def rf_Ro_outline (x1 : Int32) (x2 : Int32) (σ : rl_M) : Option (Nat × Int32 × rl_M) := ((rf_Ro_needNotBelowZero x1 σ).bind (fun q1 => (if q1.1 = 0 then ((rf_Ro_needWithin x2 0 1 q1.2.2).bind (fun q3 => (if q3.1 = 0 then ((rf_Pl_measure  q3.2.2).bind (fun q5 => (if x2 = 0 then ((rf_Cu_widthAt 56 x1 q5.2).bind (fun q10 => some (0, q10.1, q10.2))) else ((rf_Cu_heightAt 56 x1 q5.2).bind (fun q8 => some (0, q8.1, q8.2)))))) else some (q3.1, 0, q3.2.2)))) else some (q1.1, 0, q1.2.2))))
set_option maxHeartbeats 4000000 in
set_option maxRecDepth 100000 in
theorem rwn_Ro_outline (l : Launch) (E : rl_E) (x1 : Int32) (x2 : Int32) (σ : rl_M) (r : Nat × Int32 × rl_M) (h : rf_Ro_outline x1 x2 σ = some r) (hr0 : r.1 = 0) : Met l ny_Ro_outline nw_Ro_outline nr_Ro_outline (rl_P E [.ref (E.1 0), .int x1, .int x2] σ) (rl_Q E (rl_ri r.2.1) r.2.2) 0 0 (rl_A E) := by
  refine Met.ofW (cc := nc_Ro_outline) (maxL := 3) (ret := (some .int)) (by decide) rfl ?_
  intro p e s m args below meth c s₁ B hml hv
  obtain ⟨rfl, hP, hO⟩ := hv
  have Γ : CallFix p m c nc_Ro_outline 3 s ([.ref (E.1 0), .int x1, .int x2] : List Value).toArray rl_TT nR_Ro := ⟨B.exec, B.bytes, hml, findClass_of_methodNamed B.named, fun w hw => atoms_spec (ws := nw_Ro_outline) B.pre w (List.mem_cons_of_mem _ hw)⟩
  have hr := B.returns
  have hk := B.notSynchronized
  have hno := BodyLoose.noHandlers B (atoms_spec (ws := nw_Ro_outline) B.pre _ List.mem_cons_self)
  refine rl_start (R := nr_Ro_outline) (Q := rl_QM below _ s E rl_ri r.2) (nL := 3) (av := [.ref (E.1 0), .int x1, .int x2]) (σ := σ) hP (Nat.le_of_ble_eq_true rfl) ?_
  unfold rf_Ro_outline at h
  refine rl_iload_n (pc := 0) Γ nd_Ro_outline_0 1 rfl ?_
  obtain ⟨q1, q1h, h⟩ := rl_bd h
  by_cases q2 : q1.1 = 0
  case neg => exact (rl_xn hr0 q2 (rl_iff q2 h)).elim
  have h := rl_ift q2 h
  refine rl_callSv (As := [.int x1]) (pc := 1) Γ nd_Ro_outline_1 hO (rwn_Ro_needNotBelowZero l E x1 σ q1 q1h q2) 1 nm_Ro_120 nm_st_Ro_needNotBelowZero nm_ini_Ro nh_Ro_needNotBelowZero ⟨rfl, rfl⟩ (by decide +kernel) (Nat.le_of_ble_eq_true rfl) (Nat.le_of_ble_eq_true rfl) ⟨Nat.zero_le _, Nat.zero_le _⟩ (Nat.le_of_ble_eq_true rfl) rfl rfl ?_
  refine rl_iload_n (pc := 4) Γ nd_Ro_outline_4 2 rfl ?_
  refine rl_iconst (v := 0) (pc := 5) Γ nd_Ro_outline_5 (by decide) ?_
  refine rl_iconst (v := 1) (pc := 6) Γ nd_Ro_outline_6 (by decide) ?_
  obtain ⟨q3, q3h, h⟩ := rl_bd h
  by_cases q4 : q3.1 = 0
  case neg => exact (rl_xn hr0 q4 (rl_iff q4 h)).elim
  have h := rl_ift q4 h
  refine rl_callSv (As := [.int x2, .int 0, .int 1]) (pc := 7) Γ nd_Ro_outline_7 hO (rwn_Ro_needWithin l E x2 0 1 q1.2.2 q3 q3h q4) 3 nm_Ro_55 nm_st_Ro_needWithin nm_ini_Ro nh_Ro_needWithin ⟨rfl, rfl⟩ (by decide +kernel) (Nat.le_of_ble_eq_true rfl) (Nat.le_of_ble_eq_true rfl) ⟨Nat.zero_le _, Nat.zero_le _⟩ (Nat.le_of_ble_eq_true rfl) rfl rfl ?_
  refine rl_aload_n (pc := 10) Γ nd_Ro_outline_10 0 rfl ?_
  refine rl_get (pc := 11) Γ nd_Ro_outline_11 hO (k := 1) (rl_o0 E) rfl (by decide) rfl ⟨ni_Ro, nf_Ro_19⟩ ?_
  obtain ⟨q5, q5h, h⟩ := rl_bd h
  refine rl_callVv (As := []) (pc := 14) Γ nd_Ro_outline_14 hO (rw_Pl_measure l E   q3.2.2 q5 q5h) 0 nm_Ro_97 nm_im_Pl_measure nm_se_Pl_measure nm_ini_Pl nh_Pl_measure (rl_o3 E) rfl ⟨rfl, rfl⟩ (by decide +kernel) (Nat.le_of_ble_eq_true rfl) (Nat.le_of_ble_eq_true rfl) ⟨Nat.zero_le _, Nat.zero_le _⟩ (Nat.le_of_ble_eq_true rfl) rfl rfl ?_
  refine rl_iload_n (pc := 17) Γ nd_Ro_outline_17 2 rfl ?_
  refine rl_if_ne (tgt := 35) (pc := 18) Γ nd_Ro_outline_18 (by decide) (fun q7 => ?_) (fun q7 => ?_)
  · have h := rl_iff q7 h
    refine rl_aload_n (pc := 35) Γ nd_Ro_outline_35 0 rfl ?_
    refine rl_get (pc := 36) Γ nd_Ro_outline_36 hO (k := 1) (rl_o0 E) rfl (by decide) rfl ⟨ni_Ro, nf_Ro_19⟩ ?_
    refine rl_get (pc := 39) Γ nd_Ro_outline_39 hO (k := 7) (rl_o3 E) rfl (by decide) rfl ⟨ni_Pl, nf_Ro_123⟩ ?_
    refine rl_iload_n (pc := 42) Γ nd_Ro_outline_42 1 rfl ?_
    obtain ⟨q8, q8h, h⟩ := rl_bd h
    refine rl_callVi (As := [.int x1]) (pc := 43) Γ nd_Ro_outline_43 hO (rw_Cu_heightAt l E 56 x1 rl_cv56 q5.2 q8 q8h) 1 nm_Ro_132 nm_im_Cu_heightAt nm_se_Cu_heightAt nm_ini_Cu nh_Cu_heightAt (rl_oC rl_cv56) rfl ⟨rfl, rfl⟩ (by decide +kernel) (Nat.le_of_ble_eq_true rfl) (Nat.le_of_ble_eq_true rfl) ⟨Nat.zero_le _, Nat.zero_le _⟩ (Nat.le_of_ble_eq_true rfl) rfl rfl ?_
    exact rl_iret (pc := 46) Γ nd_Ro_outline_46 hr hk (rl_x0 h)
  · have h := rl_ift q7 h
    refine rl_aload_n (pc := 21) Γ nd_Ro_outline_21 0 rfl ?_
    refine rl_get (pc := 22) Γ nd_Ro_outline_22 hO (k := 1) (rl_o0 E) rfl (by decide) rfl ⟨ni_Ro, nf_Ro_19⟩ ?_
    refine rl_get (pc := 25) Γ nd_Ro_outline_25 hO (k := 7) (rl_o3 E) rfl (by decide) rfl ⟨ni_Pl, nf_Ro_123⟩ ?_
    refine rl_iload_n (pc := 28) Γ nd_Ro_outline_28 1 rfl ?_
    obtain ⟨q10, q10h, h⟩ := rl_bd h
    refine rl_callVi (As := [.int x1]) (pc := 29) Γ nd_Ro_outline_29 hO (rw_Cu_widthAt l E 56 x1 rl_cv56 q5.2 q10 q10h) 1 nm_Ro_127 nm_im_Cu_widthAt nm_se_Cu_widthAt nm_ini_Cu nh_Cu_widthAt (rl_oC rl_cv56) rfl ⟨rfl, rfl⟩ (by decide +kernel) (Nat.le_of_ble_eq_true rfl) (Nat.le_of_ble_eq_true rfl) ⟨Nat.zero_le _, Nat.zero_le _⟩ (Nat.le_of_ble_eq_true rfl) rfl rfl ?_
    refine rl_goto (tgt := 46) (pc := 32) Γ nd_Ro_outline_32 (by decide) ?_
    exact rl_iret (pc := 46) Γ nd_Ro_outline_46 hr hk (rl_x0 h)
set_option maxHeartbeats 4000000 in
set_option maxRecDepth 100000 in
theorem rwt_Ro_outline (l : Launch) (hlq : rl_Lq l) (E : rl_E) (x1 : Int32) (x2 : Int32) (σ : rl_M) (r : Nat × Int32 × rl_M) (h : rf_Ro_outline x1 x2 σ = some r) (hr1 : ¬ r.1 = 0) : rl_MT l ny_Ro_outline nw_Ro_outline nr_Ro_outlineT E [.ref (E.1 0), .int x1, .int x2] σ (rl_exc r.1) r.2.2 := by
  refine rl_MT.ofW (cc := nc_Ro_outline) (maxL := 3) (ret := (some .int)) (by decide) rfl ?_
  intro p e s m args below meth c s₁ B hml hv
  obtain ⟨rfl, hP, hO⟩ := hv
  have Γ : CallFix p m c nc_Ro_outline 3 s ([.ref (E.1 0), .int x1, .int x2] : List Value).toArray rl_TT nR_Ro := ⟨B.exec, B.bytes, hml, findClass_of_methodNamed B.named, fun w hw => atoms_spec (ws := nw_Ro_outline) B.pre w (List.mem_cons_of_mem _ hw)⟩
  have hr := B.returns
  have hk := B.notSynchronized
  have hno := BodyLoose.noHandlers B (atoms_spec (ws := nw_Ro_outline) B.pre _ List.mem_cons_self)
  refine r0_start (R := nr_Ro_outlineT) (nL := 3) (av := [.ref (E.1 0), .int x1, .int x2]) (Nat.le_of_ble_eq_true rfl) ?_
  unfold rf_Ro_outline at h
  refine r0_iload_n (pc := 0) Γ nd_Ro_outline_0 1 rfl ?_
  obtain ⟨q1, q1h, h⟩ := rl_bd h
  by_cases q2 : q1.1 = 0
  case neg =>
    have h := rl_iff q2 h
    cases h
    exact r0_callST (As := [.int x1]) (st := []) hP (pc := 1) Γ nd_Ro_outline_1 hO hk hno (rwt_Ro_needNotBelowZero l hlq E x1 σ q1 q1h q2) 1 nm_Ro_120 nm_st_Ro_needNotBelowZero nm_ini_Ro nh_Ro_needNotBelowZero ⟨rfl, rfl⟩ (by decide +kernel) (Nat.le_of_ble_eq_true rfl) (Nat.le_of_ble_eq_true rfl) ⟨Nat.le_of_ble_eq_true rfl, Nat.le_of_ble_eq_true rfl⟩ (Nat.le_of_ble_eq_true rfl) rfl rfl
  have h := rl_ift q2 h
  rw [rp_Ro_needNotBelowZero q1h q2] at h
  refine r0_callS (As := [.int x1]) hP (pc := 1) Γ nd_Ro_outline_1 hO (rwp_Ro_needNotBelowZero l E x1 σ q1 q1h q2) 1 nm_Ro_120 nm_st_Ro_needNotBelowZero nm_ini_Ro nh_Ro_needNotBelowZero ⟨rfl, rfl⟩ (by decide +kernel) (Nat.le_of_ble_eq_true rfl) (Nat.le_of_ble_eq_true rfl) (Nat.le_of_ble_eq_true rfl) rfl rfl ?_
  refine r0_iload_n (pc := 4) Γ nd_Ro_outline_4 2 rfl ?_
  refine r0_iconst (v := 0) (pc := 5) Γ nd_Ro_outline_5 (by decide) ?_
  refine r0_iconst (v := 1) (pc := 6) Γ nd_Ro_outline_6 (by decide) ?_
  obtain ⟨q3, q3h, h⟩ := rl_bd h
  by_cases q4 : q3.1 = 0
  case neg =>
    have h := rl_iff q4 h
    cases h
    exact r0_callST (As := [.int x2, .int 0, .int 1]) (st := []) hP (pc := 7) Γ nd_Ro_outline_7 hO hk hno (rwt_Ro_needWithin l hlq E x2 0 1 σ q3 q3h q4) 3 nm_Ro_55 nm_st_Ro_needWithin nm_ini_Ro nh_Ro_needWithin ⟨rfl, rfl⟩ (by decide +kernel) (Nat.le_of_ble_eq_true rfl) (Nat.le_of_ble_eq_true rfl) ⟨Nat.le_of_ble_eq_true rfl, Nat.le_of_ble_eq_true rfl⟩ (Nat.le_of_ble_eq_true rfl) rfl rfl
  have h := rl_ift q4 h
  rw [rp_Ro_needWithin q3h q4] at h
  refine r0_callS (As := [.int x2, .int 0, .int 1]) hP (pc := 7) Γ nd_Ro_outline_7 hO (rwp_Ro_needWithin l E x2 0 1 σ q3 q3h q4) 3 nm_Ro_55 nm_st_Ro_needWithin nm_ini_Ro nh_Ro_needWithin ⟨rfl, rfl⟩ (by decide +kernel) (Nat.le_of_ble_eq_true rfl) (Nat.le_of_ble_eq_true rfl) (Nat.le_of_ble_eq_true rfl) rfl rfl ?_
  obtain ⟨q5, q5h, h⟩ := rl_bd h
  by_cases q7 : x2 = 0
  · have h := rl_ift q7 h
    obtain ⟨q10, q10h, h⟩ := rl_bd h
    exact (rl_x1 hr1 h).elim
  · have h := rl_iff q7 h
    obtain ⟨q8, q8h, h⟩ := rl_bd h
    exact (rl_x1 hr1 h).elim
def rf_Ro_needTwoRooms (x1 : Int32) (x2 : Int32) (σ : rl_M) : Option (Nat × Int32 × rl_M) := ((rf_Ro_needRoom x1 σ).bind (fun q1 => (if q1.1 = 0 then ((rf_Ro_needRoom x2 q1.2.2).bind (fun q3 => (if q3.1 = 0 then (if x1 = x2 then some (1, 0, q3.2.2) else some (0, 0, q3.2.2)) else some (q3.1, 0, q3.2.2)))) else some (q1.1, 0, q1.2.2))))
theorem rp_Ro_needTwoRooms {x1 x2 : Int32} {σ : rl_M} {z : Nat × Int32 × rl_M} (h : rf_Ro_needTwoRooms x1 x2 σ = some z) (h0 : z.1 = 0) : z.2.2 = σ := by
  unfold rf_Ro_needTwoRooms at h
  obtain ⟨q, qh, h⟩ := rl_bd h
  by_cases q0 : q.1 = 0
  · have h := rl_ift q0 h
    obtain ⟨w, wh, h⟩ := rl_bd h
    by_cases w0 : w.1 = 0
    · have h := rl_ift w0 h
      by_cases e : x1 = x2
      · have h := rl_ift e h
        exact (rl_xn h0 (by decide) h).elim
      · have h := rl_iff e h
        cases h
        show w.2.2 = σ
        rw [rp_Ro_needRoom wh w0]
        exact rp_Ro_needRoom qh q0
    · exact (rl_xn h0 w0 (rl_iff w0 h)).elim
  · exact (rl_xn h0 q0 (rl_iff q0 h)).elim
set_option maxHeartbeats 4000000 in
set_option maxRecDepth 100000 in
theorem rwn_Ro_needTwoRooms (l : Launch) (E : rl_E) (x1 : Int32) (x2 : Int32) (σ : rl_M) (r : Nat × Int32 × rl_M) (h : rf_Ro_needTwoRooms x1 x2 σ = some r) (hr0 : r.1 = 0) : Met l ny_Ro_needTwoRooms nw_Ro_needTwoRooms nr_Ro_needTwoRooms (rl_P E [.ref (E.1 0), .int x1, .int x2] σ) (rl_Q E (rl_rv r.2.1) r.2.2) 0 0 (rl_A E) := by
  refine Met.ofW (cc := nc_Ro_needTwoRooms) (maxL := 3) (ret := none) (by decide) rfl ?_
  intro p e s m args below meth c s₁ B hml hv
  obtain ⟨rfl, hP, hO⟩ := hv
  have Γ : CallFix p m c nc_Ro_needTwoRooms 3 s ([.ref (E.1 0), .int x1, .int x2] : List Value).toArray rl_TT nR_Ro := ⟨B.exec, B.bytes, hml, findClass_of_methodNamed B.named, fun w hw => atoms_spec (ws := nw_Ro_needTwoRooms) B.pre w (List.mem_cons_of_mem _ hw)⟩
  have hr := B.returns
  have hk := B.notSynchronized
  have hno := BodyLoose.noHandlers B (atoms_spec (ws := nw_Ro_needTwoRooms) B.pre _ List.mem_cons_self)
  refine rl_start (R := nr_Ro_needTwoRooms) (Q := rl_QM below _ s E rl_rv r.2) (nL := 3) (av := [.ref (E.1 0), .int x1, .int x2]) (σ := σ) hP (Nat.le_of_ble_eq_true rfl) ?_
  unfold rf_Ro_needTwoRooms at h
  refine rl_aload_n (pc := 0) Γ nd_Ro_needTwoRooms_0 0 rfl ?_
  refine rl_iload_n (pc := 1) Γ nd_Ro_needTwoRooms_1 1 rfl ?_
  obtain ⟨q1, q1h, h⟩ := rl_bd h
  by_cases q2 : q1.1 = 0
  case neg => exact (rl_xn hr0 q2 (rl_iff q2 h)).elim
  have h := rl_ift q2 h
  refine rl_callVv (As := [.int x1]) (pc := 2) Γ nd_Ro_needTwoRooms_2 hO (rwn_Ro_needRoom l E x1 σ q1 q1h q2) 1 nm_Ro_51 nm_im_Ro_needRoom nm_se_Ro_needRoom nm_ini_Ro nh_Ro_needRoom (rl_o0 E) rfl ⟨rfl, rfl⟩ (by decide +kernel) (Nat.le_of_ble_eq_true rfl) (Nat.le_of_ble_eq_true rfl) ⟨Nat.zero_le _, Nat.zero_le _⟩ (Nat.le_of_ble_eq_true rfl) rfl rfl ?_
  refine rl_aload_n (pc := 5) Γ nd_Ro_needTwoRooms_5 0 rfl ?_
  refine rl_iload_n (pc := 6) Γ nd_Ro_needTwoRooms_6 2 rfl ?_
  obtain ⟨q3, q3h, h⟩ := rl_bd h
  by_cases q4 : q3.1 = 0
  case neg => exact (rl_xn hr0 q4 (rl_iff q4 h)).elim
  have h := rl_ift q4 h
  refine rl_callVv (As := [.int x2]) (pc := 7) Γ nd_Ro_needTwoRooms_7 hO (rwn_Ro_needRoom l E x2 q1.2.2 q3 q3h q4) 1 nm_Ro_51 nm_im_Ro_needRoom nm_se_Ro_needRoom nm_ini_Ro nh_Ro_needRoom (rl_o0 E) rfl ⟨rfl, rfl⟩ (by decide +kernel) (Nat.le_of_ble_eq_true rfl) (Nat.le_of_ble_eq_true rfl) ⟨Nat.zero_le _, Nat.zero_le _⟩ (Nat.le_of_ble_eq_true rfl) rfl rfl ?_
  refine rl_iload_n (pc := 10) Γ nd_Ro_needTwoRooms_10 1 rfl ?_
  refine rl_iload_n (pc := 11) Γ nd_Ro_needTwoRooms_11 2 rfl ?_
  refine rl_icmp_ne (tgt := 25) (pc := 12) Γ nd_Ro_needTwoRooms_12 (by decide) (fun q5 => ?_) (fun q5 => ?_)
  · have h := rl_iff q5 h
    exact rl_vret (pc := 25) Γ nd_Ro_needTwoRooms_25 hr hk (rl_x0 h)
  · have h := rl_ift q5 h
    exact (rl_xn hr0 (by decide) h).elim
set_option maxHeartbeats 4000000 in
set_option maxRecDepth 100000 in
theorem rwt_Ro_needTwoRooms (l : Launch) (hlq : rl_Lq l) (E : rl_E) (x1 : Int32) (x2 : Int32) (σ : rl_M) (r : Nat × Int32 × rl_M) (h : rf_Ro_needTwoRooms x1 x2 σ = some r) (hr1 : ¬ r.1 = 0) : rl_MT l ny_Ro_needTwoRooms nw_Ro_needTwoRooms nr_Ro_needTwoRoomsT E [.ref (E.1 0), .int x1, .int x2] σ (rl_exc r.1) r.2.2 := by
  refine rl_MT.ofW (cc := nc_Ro_needTwoRooms) (maxL := 3) (ret := none) (by decide) rfl ?_
  intro p e s m args below meth c s₁ B hml hv
  obtain ⟨rfl, hP, hO⟩ := hv
  have Γ : CallFix p m c nc_Ro_needTwoRooms 3 s ([.ref (E.1 0), .int x1, .int x2] : List Value).toArray rl_TT nR_Ro := ⟨B.exec, B.bytes, hml, findClass_of_methodNamed B.named, fun w hw => atoms_spec (ws := nw_Ro_needTwoRooms) B.pre w (List.mem_cons_of_mem _ hw)⟩
  have hr := B.returns
  have hk := B.notSynchronized
  have hno := BodyLoose.noHandlers B (atoms_spec (ws := nw_Ro_needTwoRooms) B.pre _ List.mem_cons_self)
  refine r0_start (R := nr_Ro_needTwoRoomsT) (nL := 3) (av := [.ref (E.1 0), .int x1, .int x2]) (Nat.le_of_ble_eq_true rfl) ?_
  unfold rf_Ro_needTwoRooms at h
  refine r0_aload_n (pc := 0) Γ nd_Ro_needTwoRooms_0 0 rfl ?_
  refine r0_iload_n (pc := 1) Γ nd_Ro_needTwoRooms_1 1 rfl ?_
  obtain ⟨q1, q1h, h⟩ := rl_bd h
  by_cases q2 : q1.1 = 0
  case neg =>
    have h := rl_iff q2 h
    cases h
    exact r0_callVT (As := [.int x1]) (st := []) hP (pc := 2) Γ nd_Ro_needTwoRooms_2 hO hk hno (rwt_Ro_needRoom l hlq E x1 σ q1 q1h q2) 1 nm_Ro_51 nm_im_Ro_needRoom nm_se_Ro_needRoom nm_ini_Ro nh_Ro_needRoom (rl_o0 E) rfl ⟨rfl, rfl⟩ (by decide +kernel) (Nat.le_of_ble_eq_true rfl) (Nat.le_of_ble_eq_true rfl) ⟨Nat.le_of_ble_eq_true rfl, Nat.le_of_ble_eq_true rfl⟩ (Nat.le_of_ble_eq_true rfl) rfl rfl
  have h := rl_ift q2 h
  rw [rp_Ro_needRoom q1h q2] at h
  refine r0_callV (As := [.int x1]) hP (pc := 2) Γ nd_Ro_needTwoRooms_2 hO (rwp_Ro_needRoom l E x1 σ q1 q1h q2) 1 nm_Ro_51 nm_im_Ro_needRoom nm_se_Ro_needRoom nm_ini_Ro nh_Ro_needRoom (rl_o0 E) rfl ⟨rfl, rfl⟩ (by decide +kernel) (Nat.le_of_ble_eq_true rfl) (Nat.le_of_ble_eq_true rfl) (Nat.le_of_ble_eq_true rfl) rfl rfl ?_
  refine r0_aload_n (pc := 5) Γ nd_Ro_needTwoRooms_5 0 rfl ?_
  refine r0_iload_n (pc := 6) Γ nd_Ro_needTwoRooms_6 2 rfl ?_
  obtain ⟨q3, q3h, h⟩ := rl_bd h
  by_cases q4 : q3.1 = 0
  case neg =>
    have h := rl_iff q4 h
    cases h
    exact r0_callVT (As := [.int x2]) (st := []) hP (pc := 7) Γ nd_Ro_needTwoRooms_7 hO hk hno (rwt_Ro_needRoom l hlq E x2 σ q3 q3h q4) 1 nm_Ro_51 nm_im_Ro_needRoom nm_se_Ro_needRoom nm_ini_Ro nh_Ro_needRoom (rl_o0 E) rfl ⟨rfl, rfl⟩ (by decide +kernel) (Nat.le_of_ble_eq_true rfl) (Nat.le_of_ble_eq_true rfl) ⟨Nat.le_of_ble_eq_true rfl, Nat.le_of_ble_eq_true rfl⟩ (Nat.le_of_ble_eq_true rfl) rfl rfl
  have h := rl_ift q4 h
  rw [rp_Ro_needRoom q3h q4] at h
  refine r0_callV (As := [.int x2]) hP (pc := 7) Γ nd_Ro_needTwoRooms_7 hO (rwp_Ro_needRoom l E x2 σ q3 q3h q4) 1 nm_Ro_51 nm_im_Ro_needRoom nm_se_Ro_needRoom nm_ini_Ro nh_Ro_needRoom (rl_o0 E) rfl ⟨rfl, rfl⟩ (by decide +kernel) (Nat.le_of_ble_eq_true rfl) (Nat.le_of_ble_eq_true rfl) (Nat.le_of_ble_eq_true rfl) rfl rfl ?_
  refine r0_iload_n (pc := 10) Γ nd_Ro_needTwoRooms_10 1 rfl ?_
  refine r0_iload_n (pc := 11) Γ nd_Ro_needTwoRooms_11 2 rfl ?_
  refine r0_icmp_ne (tgt := 25) (pc := 12) Γ nd_Ro_needTwoRooms_12 (by decide) (fun q5 => ?_) (fun q5 => ?_)
  · have h := rl_iff q5 h
    exact (rl_x1 hr1 h).elim
  · have h := rl_ift q5 h
    cases h
    exact r0_throw (X := "java/lang/IllegalArgumentException") (pc := 15) hP Γ hlq hO hk hno nd_Ro_needTwoRooms_15 nd_Ro_needTwoRooms_18 nd_Ro_needTwoRooms_19 nd_Ro_needTwoRooms_21 nd_Ro_needTwoRooms_24 nx_cA nx_iA nx_nA hO.2.2.2.1.2.2.2.2.1 (by decide +kernel) (rl_own_A hO Γ.2.2.2.2) ⟨Nat.le_of_ble_eq_true rfl, Nat.le_of_ble_eq_true rfl, Nat.le_of_ble_eq_true rfl, Nat.le_of_ble_eq_true rfl⟩
set_option maxHeartbeats 4000000 in
set_option maxRecDepth 100000 in
theorem rwp_Ro_needTwoRooms (l : Launch) (E : rl_E) (x1 : Int32) (x2 : Int32) (σ : rl_M) (r : Nat × Int32 × rl_M) (h : rf_Ro_needTwoRooms x1 x2 σ = some r) (hr0 : r.1 = 0) : Met l ny_Ro_needTwoRooms nw_Ro_needTwoRooms nr_Ro_needTwoRooms (rl_P E [.ref (E.1 0), .int x1, .int x2] σ) (rl_QP (rl_rv r.2.1)) 0 0 (fun _ => False) := by
  refine Met.ofW (cc := nc_Ro_needTwoRooms) (maxL := 3) (ret := none) (by decide) rfl ?_
  intro p e s m args below meth c s₁ B hml hv
  obtain ⟨rfl, hP, hO⟩ := hv
  have Γ : CallFix p m c nc_Ro_needTwoRooms 3 s ([.ref (E.1 0), .int x1, .int x2] : List Value).toArray rl_TT nR_Ro := ⟨B.exec, B.bytes, hml, findClass_of_methodNamed B.named, fun w hw => atoms_spec (ws := nw_Ro_needTwoRooms) B.pre w (List.mem_cons_of_mem _ hw)⟩
  have hr := B.returns
  have hk := B.notSynchronized
  have hno := BodyLoose.noHandlers B (atoms_spec (ws := nw_Ro_needTwoRooms) B.pre _ List.mem_cons_self)
  refine r0_start (R := nr_Ro_needTwoRooms) (nL := 3) (av := [.ref (E.1 0), .int x1, .int x2]) (Nat.le_of_ble_eq_true rfl) ?_
  unfold rf_Ro_needTwoRooms at h
  refine r0_aload_n (pc := 0) Γ nd_Ro_needTwoRooms_0 0 rfl ?_
  refine r0_iload_n (pc := 1) Γ nd_Ro_needTwoRooms_1 1 rfl ?_
  obtain ⟨q1, q1h, h⟩ := rl_bd h
  by_cases q2 : q1.1 = 0
  case neg => exact (rl_xn hr0 q2 (rl_iff q2 h)).elim
  have h := rl_ift q2 h
  rw [rp_Ro_needRoom q1h q2] at h
  refine r0_callV (As := [.int x1]) hP (pc := 2) Γ nd_Ro_needTwoRooms_2 hO (rwp_Ro_needRoom l E x1 σ q1 q1h q2) 1 nm_Ro_51 nm_im_Ro_needRoom nm_se_Ro_needRoom nm_ini_Ro nh_Ro_needRoom (rl_o0 E) rfl ⟨rfl, rfl⟩ (by decide +kernel) (Nat.le_of_ble_eq_true rfl) (Nat.le_of_ble_eq_true rfl) (Nat.le_of_ble_eq_true rfl) rfl rfl ?_
  refine r0_aload_n (pc := 5) Γ nd_Ro_needTwoRooms_5 0 rfl ?_
  refine r0_iload_n (pc := 6) Γ nd_Ro_needTwoRooms_6 2 rfl ?_
  obtain ⟨q3, q3h, h⟩ := rl_bd h
  by_cases q4 : q3.1 = 0
  case neg => exact (rl_xn hr0 q4 (rl_iff q4 h)).elim
  have h := rl_ift q4 h
  rw [rp_Ro_needRoom q3h q4] at h
  refine r0_callV (As := [.int x2]) hP (pc := 7) Γ nd_Ro_needTwoRooms_7 hO (rwp_Ro_needRoom l E x2 σ q3 q3h q4) 1 nm_Ro_51 nm_im_Ro_needRoom nm_se_Ro_needRoom nm_ini_Ro nh_Ro_needRoom (rl_o0 E) rfl ⟨rfl, rfl⟩ (by decide +kernel) (Nat.le_of_ble_eq_true rfl) (Nat.le_of_ble_eq_true rfl) (Nat.le_of_ble_eq_true rfl) rfl rfl ?_
  refine r0_iload_n (pc := 10) Γ nd_Ro_needTwoRooms_10 1 rfl ?_
  refine r0_iload_n (pc := 11) Γ nd_Ro_needTwoRooms_11 2 rfl ?_
  refine r0_icmp_ne (tgt := 25) (pc := 12) Γ nd_Ro_needTwoRooms_12 (by decide) (fun q5 => ?_) (fun q5 => ?_)
  · have h := rl_iff q5 h
    cases h
    exact r0_vret (pc := 25) Γ nd_Ro_needTwoRooms_25 hr hk
  · have h := rl_ift q5 h
    exact (rl_xn hr0 (by decide) h).elim
def rf_Ro_wall (x1 : Int32) (x2 : Int32) (σ : rl_M) : Option (Nat × Int32 × rl_M) := ((rf_Ro_needTwoRooms x1 x2 σ).bind (fun q1 => (if q1.1 = 0 then ((rf_Pl_settle  q1.2.2).bind (fun q3 => ((rf_Pl_sharedWall x1 x2 q3.2).bind (fun q5 => some (0, q5.1, q5.2))))) else some (q1.1, 0, q1.2.2))))
set_option maxHeartbeats 4000000 in
set_option maxRecDepth 100000 in
theorem rwn_Ro_wall (l : Launch) (E : rl_E) (x1 : Int32) (x2 : Int32) (σ : rl_M) (r : Nat × Int32 × rl_M) (h : rf_Ro_wall x1 x2 σ = some r) (hr0 : r.1 = 0) : Met l ny_Ro_wall nw_Ro_wall nr_Ro_wall (rl_P E [.ref (E.1 0), .int x1, .int x2] σ) (rl_Q E (rl_ri r.2.1) r.2.2) 0 0 (rl_A E) := by
  refine Met.ofW (cc := nc_Ro_wall) (maxL := 3) (ret := (some .int)) (by decide) rfl ?_
  intro p e s m args below meth c s₁ B hml hv
  obtain ⟨rfl, hP, hO⟩ := hv
  have Γ : CallFix p m c nc_Ro_wall 3 s ([.ref (E.1 0), .int x1, .int x2] : List Value).toArray rl_TT nR_Ro := ⟨B.exec, B.bytes, hml, findClass_of_methodNamed B.named, fun w hw => atoms_spec (ws := nw_Ro_wall) B.pre w (List.mem_cons_of_mem _ hw)⟩
  have hr := B.returns
  have hk := B.notSynchronized
  have hno := BodyLoose.noHandlers B (atoms_spec (ws := nw_Ro_wall) B.pre _ List.mem_cons_self)
  refine rl_start (R := nr_Ro_wall) (Q := rl_QM below _ s E rl_ri r.2) (nL := 3) (av := [.ref (E.1 0), .int x1, .int x2]) (σ := σ) hP (Nat.le_of_ble_eq_true rfl) ?_
  unfold rf_Ro_wall at h
  refine rl_aload_n (pc := 0) Γ nd_Ro_wall_0 0 rfl ?_
  refine rl_iload_n (pc := 1) Γ nd_Ro_wall_1 1 rfl ?_
  refine rl_iload_n (pc := 2) Γ nd_Ro_wall_2 2 rfl ?_
  obtain ⟨q1, q1h, h⟩ := rl_bd h
  by_cases q2 : q1.1 = 0
  case neg => exact (rl_xn hr0 q2 (rl_iff q2 h)).elim
  have h := rl_ift q2 h
  refine rl_callVv (As := [.int x1, .int x2]) (pc := 3) Γ nd_Ro_wall_3 hO (rwn_Ro_needTwoRooms l E x1 x2 σ q1 q1h q2) 2 nm_Ro_135 nm_im_Ro_needTwoRooms nm_se_Ro_needTwoRooms nm_ini_Ro nh_Ro_needTwoRooms (rl_o0 E) rfl ⟨rfl, rfl⟩ (by decide +kernel) (Nat.le_of_ble_eq_true rfl) (Nat.le_of_ble_eq_true rfl) ⟨Nat.zero_le _, Nat.zero_le _⟩ (Nat.le_of_ble_eq_true rfl) rfl rfl ?_
  refine rl_aload_n (pc := 6) Γ nd_Ro_wall_6 0 rfl ?_
  refine rl_get (pc := 7) Γ nd_Ro_wall_7 hO (k := 1) (rl_o0 E) rfl (by decide) rfl ⟨ni_Ro, nf_Ro_19⟩ ?_
  obtain ⟨q3, q3h, h⟩ := rl_bd h
  refine rl_callVv (As := []) (pc := 10) Γ nd_Ro_wall_10 hO (rw_Pl_settle l E   q1.2.2 q3 q3h) 0 nm_Ro_113 nm_im_Pl_settle nm_se_Pl_settle nm_ini_Pl nh_Pl_settle (rl_o3 E) rfl ⟨rfl, rfl⟩ (by decide +kernel) (Nat.le_of_ble_eq_true rfl) (Nat.le_of_ble_eq_true rfl) ⟨Nat.zero_le _, Nat.zero_le _⟩ (Nat.le_of_ble_eq_true rfl) rfl rfl ?_
  refine rl_aload_n (pc := 13) Γ nd_Ro_wall_13 0 rfl ?_
  refine rl_get (pc := 14) Γ nd_Ro_wall_14 hO (k := 1) (rl_o0 E) rfl (by decide) rfl ⟨ni_Ro, nf_Ro_19⟩ ?_
  refine rl_iload_n (pc := 17) Γ nd_Ro_wall_17 1 rfl ?_
  refine rl_iload_n (pc := 18) Γ nd_Ro_wall_18 2 rfl ?_
  obtain ⟨q5, q5h, h⟩ := rl_bd h
  refine rl_callVi (As := [.int x1, .int x2]) (pc := 19) Γ nd_Ro_wall_19 hO (rw_Pl_sharedWall l E x1 x2  q3.2 q5 q5h) 2 nm_Ro_138 nm_im_Pl_sharedWall nm_se_Pl_sharedWall nm_ini_Pl nh_Pl_sharedWall (rl_o3 E) rfl ⟨rfl, rfl⟩ (by decide +kernel) (Nat.le_of_ble_eq_true rfl) (Nat.le_of_ble_eq_true rfl) ⟨Nat.zero_le _, Nat.zero_le _⟩ (Nat.le_of_ble_eq_true rfl) rfl rfl ?_
  exact rl_iret (pc := 22) Γ nd_Ro_wall_22 hr hk (rl_x0 h)
set_option maxHeartbeats 4000000 in
set_option maxRecDepth 100000 in
theorem rwt_Ro_wall (l : Launch) (hlq : rl_Lq l) (E : rl_E) (x1 : Int32) (x2 : Int32) (σ : rl_M) (r : Nat × Int32 × rl_M) (h : rf_Ro_wall x1 x2 σ = some r) (hr1 : ¬ r.1 = 0) : rl_MT l ny_Ro_wall nw_Ro_wall nr_Ro_wallT E [.ref (E.1 0), .int x1, .int x2] σ (rl_exc r.1) r.2.2 := by
  refine rl_MT.ofW (cc := nc_Ro_wall) (maxL := 3) (ret := (some .int)) (by decide) rfl ?_
  intro p e s m args below meth c s₁ B hml hv
  obtain ⟨rfl, hP, hO⟩ := hv
  have Γ : CallFix p m c nc_Ro_wall 3 s ([.ref (E.1 0), .int x1, .int x2] : List Value).toArray rl_TT nR_Ro := ⟨B.exec, B.bytes, hml, findClass_of_methodNamed B.named, fun w hw => atoms_spec (ws := nw_Ro_wall) B.pre w (List.mem_cons_of_mem _ hw)⟩
  have hr := B.returns
  have hk := B.notSynchronized
  have hno := BodyLoose.noHandlers B (atoms_spec (ws := nw_Ro_wall) B.pre _ List.mem_cons_self)
  refine r0_start (R := nr_Ro_wallT) (nL := 3) (av := [.ref (E.1 0), .int x1, .int x2]) (Nat.le_of_ble_eq_true rfl) ?_
  unfold rf_Ro_wall at h
  refine r0_aload_n (pc := 0) Γ nd_Ro_wall_0 0 rfl ?_
  refine r0_iload_n (pc := 1) Γ nd_Ro_wall_1 1 rfl ?_
  refine r0_iload_n (pc := 2) Γ nd_Ro_wall_2 2 rfl ?_
  obtain ⟨q1, q1h, h⟩ := rl_bd h
  by_cases q2 : q1.1 = 0
  case neg =>
    have h := rl_iff q2 h
    cases h
    exact r0_callVT (As := [.int x1, .int x2]) (st := []) hP (pc := 3) Γ nd_Ro_wall_3 hO hk hno (rwt_Ro_needTwoRooms l hlq E x1 x2 σ q1 q1h q2) 2 nm_Ro_135 nm_im_Ro_needTwoRooms nm_se_Ro_needTwoRooms nm_ini_Ro nh_Ro_needTwoRooms (rl_o0 E) rfl ⟨rfl, rfl⟩ (by decide +kernel) (Nat.le_of_ble_eq_true rfl) (Nat.le_of_ble_eq_true rfl) ⟨Nat.le_of_ble_eq_true rfl, Nat.le_of_ble_eq_true rfl⟩ (Nat.le_of_ble_eq_true rfl) rfl rfl
  have h := rl_ift q2 h
  rw [rp_Ro_needTwoRooms q1h q2] at h
  refine r0_callV (As := [.int x1, .int x2]) hP (pc := 3) Γ nd_Ro_wall_3 hO (rwp_Ro_needTwoRooms l E x1 x2 σ q1 q1h q2) 2 nm_Ro_135 nm_im_Ro_needTwoRooms nm_se_Ro_needTwoRooms nm_ini_Ro nh_Ro_needTwoRooms (rl_o0 E) rfl ⟨rfl, rfl⟩ (by decide +kernel) (Nat.le_of_ble_eq_true rfl) (Nat.le_of_ble_eq_true rfl) (Nat.le_of_ble_eq_true rfl) rfl rfl ?_
  obtain ⟨q3, q3h, h⟩ := rl_bd h
  obtain ⟨q5, q5h, h⟩ := rl_bd h
  exact (rl_x1 hr1 h).elim
def rf_Ro_wish (x1 : Int32) (x2 : Int32) (x3 : Int32) (σ : rl_M) : Option (Nat × Int32 × rl_M) := ((rf_Ro_needTwoRooms x1 x2 σ).bind (fun q1 => (if q1.1 = 0 then ((rf_Ro_needWithin x3 1 60 q1.2.2).bind (fun q3 => (if q3.1 = 0 then (if (q3.2.2 19 0) < 10 then ((rf_Wl_add x1 x2 x3 q3.2.2).bind (fun q6 => some (0, q6.1, q6.2))) else some (2, 0, q3.2.2)) else some (q3.1, 0, q3.2.2)))) else some (q1.1, 0, q1.2.2))))
set_option maxHeartbeats 4000000 in
set_option maxRecDepth 100000 in
theorem rwn_Ro_wish (l : Launch) (E : rl_E) (x1 : Int32) (x2 : Int32) (x3 : Int32) (σ : rl_M) (r : Nat × Int32 × rl_M) (h : rf_Ro_wish x1 x2 x3 σ = some r) (hr0 : r.1 = 0) : Met l ny_Ro_wish nw_Ro_wish nr_Ro_wish (rl_P E [.ref (E.1 0), .int x1, .int x2, .int x3] σ) (rl_Q E (rl_ri r.2.1) r.2.2) 0 0 (rl_A E) := by
  refine Met.ofW (cc := nc_Ro_wish) (maxL := 4) (ret := (some .int)) (by decide) rfl ?_
  intro p e s m args below meth c s₁ B hml hv
  obtain ⟨rfl, hP, hO⟩ := hv
  have Γ : CallFix p m c nc_Ro_wish 4 s ([.ref (E.1 0), .int x1, .int x2, .int x3] : List Value).toArray rl_TT nR_Ro := ⟨B.exec, B.bytes, hml, findClass_of_methodNamed B.named, fun w hw => atoms_spec (ws := nw_Ro_wish) B.pre w (List.mem_cons_of_mem _ hw)⟩
  have hr := B.returns
  have hk := B.notSynchronized
  have hno := BodyLoose.noHandlers B (atoms_spec (ws := nw_Ro_wish) B.pre _ List.mem_cons_self)
  refine rl_start (R := nr_Ro_wish) (Q := rl_QM below _ s E rl_ri r.2) (nL := 4) (av := [.ref (E.1 0), .int x1, .int x2, .int x3]) (σ := σ) hP (Nat.le_of_ble_eq_true rfl) ?_
  unfold rf_Ro_wish at h
  refine rl_aload_n (pc := 0) Γ nd_Ro_wish_0 0 rfl ?_
  refine rl_iload_n (pc := 1) Γ nd_Ro_wish_1 1 rfl ?_
  refine rl_iload_n (pc := 2) Γ nd_Ro_wish_2 2 rfl ?_
  obtain ⟨q1, q1h, h⟩ := rl_bd h
  by_cases q2 : q1.1 = 0
  case neg => exact (rl_xn hr0 q2 (rl_iff q2 h)).elim
  have h := rl_ift q2 h
  refine rl_callVv (As := [.int x1, .int x2]) (pc := 3) Γ nd_Ro_wish_3 hO (rwn_Ro_needTwoRooms l E x1 x2 σ q1 q1h q2) 2 nm_Ro_135 nm_im_Ro_needTwoRooms nm_se_Ro_needTwoRooms nm_ini_Ro nh_Ro_needTwoRooms (rl_o0 E) rfl ⟨rfl, rfl⟩ (by decide +kernel) (Nat.le_of_ble_eq_true rfl) (Nat.le_of_ble_eq_true rfl) ⟨Nat.zero_le _, Nat.zero_le _⟩ (Nat.le_of_ble_eq_true rfl) rfl rfl ?_
  refine rl_iload_n (pc := 6) Γ nd_Ro_wish_6 3 rfl ?_
  refine rl_iconst (v := 1) (pc := 7) Γ nd_Ro_wish_7 (by decide) ?_
  refine rl_bipush (v := 60) (pc := 8) Γ nd_Ro_wish_8 (by decide) ?_
  obtain ⟨q3, q3h, h⟩ := rl_bd h
  by_cases q4 : q3.1 = 0
  case neg => exact (rl_xn hr0 q4 (rl_iff q4 h)).elim
  have h := rl_ift q4 h
  refine rl_callSv (As := [.int x3, .int 1, .int 60]) (pc := 10) Γ nd_Ro_wish_10 hO (rwn_Ro_needWithin l E x3 1 60 q1.2.2 q3 q3h q4) 3 nm_Ro_55 nm_st_Ro_needWithin nm_ini_Ro nh_Ro_needWithin ⟨rfl, rfl⟩ (by decide +kernel) (Nat.le_of_ble_eq_true rfl) (Nat.le_of_ble_eq_true rfl) ⟨Nat.zero_le _, Nat.zero_le _⟩ (Nat.le_of_ble_eq_true rfl) rfl rfl ?_
  refine rl_aload_n (pc := 13) Γ nd_Ro_wish_13 0 rfl ?_
  refine rl_get (pc := 14) Γ nd_Ro_wish_14 hO (k := 2) (rl_o0 E) rfl (by decide) rfl ⟨ni_Ro, nf_Ro_26⟩ ?_
  refine rl_get (pc := 17) Γ nd_Ro_wish_17 hO (k := 0) (rl_o19 E) rfl (by decide) rfl ⟨ni_Wl, nf_Ro_141⟩ ?_
  refine rl_bipush (v := 10) (pc := 20) Γ nd_Ro_wish_20 (by decide) ?_
  refine rl_icmp_lt (tgt := 35) (pc := 22) Γ nd_Ro_wish_22 (by decide) (fun q5 => ?_) (fun q5 => ?_)
  · have h := rl_ift q5 h
    refine rl_aload_n (pc := 35) Γ nd_Ro_wish_35 0 rfl ?_
    refine rl_get (pc := 36) Γ nd_Ro_wish_36 hO (k := 2) (rl_o0 E) rfl (by decide) rfl ⟨ni_Ro, nf_Ro_26⟩ ?_
    refine rl_iload_n (pc := 39) Γ nd_Ro_wish_39 1 rfl ?_
    refine rl_iload_n (pc := 40) Γ nd_Ro_wish_40 2 rfl ?_
    refine rl_iload_n (pc := 41) Γ nd_Ro_wish_41 3 rfl ?_
    obtain ⟨q6, q6h, h⟩ := rl_bd h
    refine rl_callVi (As := [.int x1, .int x2, .int x3]) (pc := 42) Γ nd_Ro_wish_42 hO (rw_Wl_add l E x1 x2 x3  q3.2.2 q6 q6h) 3 nm_Ro_144 nm_im_Wl_add nm_se_Wl_add nm_ini_Wl nh_Wl_add (rl_o19 E) rfl ⟨rfl, rfl⟩ (by decide +kernel) (Nat.le_of_ble_eq_true rfl) (Nat.le_of_ble_eq_true rfl) ⟨Nat.zero_le _, Nat.zero_le _⟩ (Nat.le_of_ble_eq_true rfl) rfl rfl ?_
    exact rl_iret (pc := 45) Γ nd_Ro_wish_45 hr hk (rl_x0 h)
  · have h := rl_iff q5 h
    exact (rl_xn hr0 (by decide) h).elim
set_option maxHeartbeats 4000000 in
set_option maxRecDepth 100000 in
theorem rwt_Ro_wish (l : Launch) (hlq : rl_Lq l) (E : rl_E) (x1 : Int32) (x2 : Int32) (x3 : Int32) (σ : rl_M) (r : Nat × Int32 × rl_M) (h : rf_Ro_wish x1 x2 x3 σ = some r) (hr1 : ¬ r.1 = 0) : rl_MT l ny_Ro_wish nw_Ro_wish nr_Ro_wishT E [.ref (E.1 0), .int x1, .int x2, .int x3] σ (rl_exc r.1) r.2.2 := by
  refine rl_MT.ofW (cc := nc_Ro_wish) (maxL := 4) (ret := (some .int)) (by decide) rfl ?_
  intro p e s m args below meth c s₁ B hml hv
  obtain ⟨rfl, hP, hO⟩ := hv
  have Γ : CallFix p m c nc_Ro_wish 4 s ([.ref (E.1 0), .int x1, .int x2, .int x3] : List Value).toArray rl_TT nR_Ro := ⟨B.exec, B.bytes, hml, findClass_of_methodNamed B.named, fun w hw => atoms_spec (ws := nw_Ro_wish) B.pre w (List.mem_cons_of_mem _ hw)⟩
  have hr := B.returns
  have hk := B.notSynchronized
  have hno := BodyLoose.noHandlers B (atoms_spec (ws := nw_Ro_wish) B.pre _ List.mem_cons_self)
  refine r0_start (R := nr_Ro_wishT) (nL := 4) (av := [.ref (E.1 0), .int x1, .int x2, .int x3]) (Nat.le_of_ble_eq_true rfl) ?_
  unfold rf_Ro_wish at h
  refine r0_aload_n (pc := 0) Γ nd_Ro_wish_0 0 rfl ?_
  refine r0_iload_n (pc := 1) Γ nd_Ro_wish_1 1 rfl ?_
  refine r0_iload_n (pc := 2) Γ nd_Ro_wish_2 2 rfl ?_
  obtain ⟨q1, q1h, h⟩ := rl_bd h
  by_cases q2 : q1.1 = 0
  case neg =>
    have h := rl_iff q2 h
    cases h
    exact r0_callVT (As := [.int x1, .int x2]) (st := []) hP (pc := 3) Γ nd_Ro_wish_3 hO hk hno (rwt_Ro_needTwoRooms l hlq E x1 x2 σ q1 q1h q2) 2 nm_Ro_135 nm_im_Ro_needTwoRooms nm_se_Ro_needTwoRooms nm_ini_Ro nh_Ro_needTwoRooms (rl_o0 E) rfl ⟨rfl, rfl⟩ (by decide +kernel) (Nat.le_of_ble_eq_true rfl) (Nat.le_of_ble_eq_true rfl) ⟨Nat.le_of_ble_eq_true rfl, Nat.le_of_ble_eq_true rfl⟩ (Nat.le_of_ble_eq_true rfl) rfl rfl
  have h := rl_ift q2 h
  rw [rp_Ro_needTwoRooms q1h q2] at h
  refine r0_callV (As := [.int x1, .int x2]) hP (pc := 3) Γ nd_Ro_wish_3 hO (rwp_Ro_needTwoRooms l E x1 x2 σ q1 q1h q2) 2 nm_Ro_135 nm_im_Ro_needTwoRooms nm_se_Ro_needTwoRooms nm_ini_Ro nh_Ro_needTwoRooms (rl_o0 E) rfl ⟨rfl, rfl⟩ (by decide +kernel) (Nat.le_of_ble_eq_true rfl) (Nat.le_of_ble_eq_true rfl) (Nat.le_of_ble_eq_true rfl) rfl rfl ?_
  refine r0_iload_n (pc := 6) Γ nd_Ro_wish_6 3 rfl ?_
  refine r0_iconst (v := 1) (pc := 7) Γ nd_Ro_wish_7 (by decide) ?_
  refine r0_bipush (v := 60) (pc := 8) Γ nd_Ro_wish_8 (by decide) ?_
  obtain ⟨q3, q3h, h⟩ := rl_bd h
  by_cases q4 : q3.1 = 0
  case neg =>
    have h := rl_iff q4 h
    cases h
    exact r0_callST (As := [.int x3, .int 1, .int 60]) (st := []) hP (pc := 10) Γ nd_Ro_wish_10 hO hk hno (rwt_Ro_needWithin l hlq E x3 1 60 σ q3 q3h q4) 3 nm_Ro_55 nm_st_Ro_needWithin nm_ini_Ro nh_Ro_needWithin ⟨rfl, rfl⟩ (by decide +kernel) (Nat.le_of_ble_eq_true rfl) (Nat.le_of_ble_eq_true rfl) ⟨Nat.le_of_ble_eq_true rfl, Nat.le_of_ble_eq_true rfl⟩ (Nat.le_of_ble_eq_true rfl) rfl rfl
  have h := rl_ift q4 h
  rw [rp_Ro_needWithin q3h q4] at h
  refine r0_callS (As := [.int x3, .int 1, .int 60]) hP (pc := 10) Γ nd_Ro_wish_10 hO (rwp_Ro_needWithin l E x3 1 60 σ q3 q3h q4) 3 nm_Ro_55 nm_st_Ro_needWithin nm_ini_Ro nh_Ro_needWithin ⟨rfl, rfl⟩ (by decide +kernel) (Nat.le_of_ble_eq_true rfl) (Nat.le_of_ble_eq_true rfl) (Nat.le_of_ble_eq_true rfl) rfl rfl ?_
  refine r0_aload_n (pc := 13) Γ nd_Ro_wish_13 0 rfl ?_
  refine r0_get hP (pc := 14) Γ nd_Ro_wish_14 hO (k := 2) (rl_o0 E) rfl (by decide) rfl ⟨ni_Ro, nf_Ro_26⟩ ?_
  refine r0_get hP (pc := 17) Γ nd_Ro_wish_17 hO (k := 0) (rl_o19 E) rfl (by decide) rfl ⟨ni_Wl, nf_Ro_141⟩ ?_
  refine r0_bipush (v := 10) (pc := 20) Γ nd_Ro_wish_20 (by decide) ?_
  refine r0_icmp_lt (tgt := 35) (pc := 22) Γ nd_Ro_wish_22 (by decide) (fun q5 => ?_) (fun q5 => ?_)
  · have h := rl_ift q5 h
    obtain ⟨q6, q6h, h⟩ := rl_bd h
    exact (rl_x1 hr1 h).elim
  · have h := rl_iff q5 h
    cases h
    exact r0_throw (X := "java/lang/IllegalStateException") (pc := 25) hP Γ hlq hO hk hno nd_Ro_wish_25 nd_Ro_wish_28 nd_Ro_wish_29 nd_Ro_wish_31 nd_Ro_wish_34 nx_cS nx_iS nx_nS hO.2.2.2.1.2.2.2.2.2 (by decide +kernel) (rl_own_S hO Γ.2.2.2.2) ⟨Nat.le_of_ble_eq_true rfl, Nat.le_of_ble_eq_true rfl, Nat.le_of_ble_eq_true rfl, Nat.le_of_ble_eq_true rfl⟩
def rf_Ro_met0 (x1 : Int32) (σ : rl_M) : Option (Nat × Int32 × rl_M) := ((rf_Ro_needWithin x1 0 ((σ 19 0) - 1) σ).bind (fun q1 => (if q1.1 = 0 then ((rf_Pl_settle  q1.2.2).bind (fun q3 => ((rf_Wl_isMetIn x1 q3.2).bind (fun q5 => (if rl_zb q5.1 = true then some (0, q5.1, q5.2) else none))))) else some (q1.1, 0, q1.2.2))))
set_option maxHeartbeats 4000000 in
set_option maxRecDepth 100000 in
theorem rwn_Ro_met0 (l : Launch) (E : rl_E) (x1 : Int32) (σ : rl_M) (r : Nat × Int32 × rl_M) (h : rf_Ro_met0 x1 σ = some r) (hr0 : r.1 = 0) : Met l ny_Ro_met0 nw_Ro_met0 nr_Ro_met0 (rl_P E [.ref (E.1 0), .int x1] σ) (rl_Q E (rl_ri r.2.1) r.2.2) 0 0 (rl_A E) := by
  refine Met.ofW (cc := nc_Ro_met0) (maxL := 2) (ret := (some .boolean)) (by decide) rfl ?_
  intro p e s m args below meth c s₁ B hml hv
  obtain ⟨rfl, hP, hO⟩ := hv
  have Γ : CallFix p m c nc_Ro_met0 2 s ([.ref (E.1 0), .int x1] : List Value).toArray rl_TT nR_Ro := ⟨B.exec, B.bytes, hml, findClass_of_methodNamed B.named, fun w hw => atoms_spec (ws := nw_Ro_met0) B.pre w (List.mem_cons_of_mem _ hw)⟩
  have hr := B.returns
  have hk := B.notSynchronized
  have hno := BodyLoose.noHandlers B (atoms_spec (ws := nw_Ro_met0) B.pre _ List.mem_cons_self)
  refine rl_start (R := nr_Ro_met0) (Q := rl_QM below _ s E rl_ri r.2) (nL := 2) (av := [.ref (E.1 0), .int x1]) (σ := σ) hP (Nat.le_of_ble_eq_true rfl) ?_
  unfold rf_Ro_met0 at h
  refine rl_iload_n (pc := 0) Γ nd_Ro_met0_0 1 rfl ?_
  refine rl_iconst (v := 0) (pc := 1) Γ nd_Ro_met0_1 (by decide) ?_
  refine rl_aload_n (pc := 2) Γ nd_Ro_met0_2 0 rfl ?_
  refine rl_get (pc := 3) Γ nd_Ro_met0_3 hO (k := 2) (rl_o0 E) rfl (by decide) rfl ⟨ni_Ro, nf_Ro_26⟩ ?_
  refine rl_get (pc := 6) Γ nd_Ro_met0_6 hO (k := 0) (rl_o19 E) rfl (by decide) rfl ⟨ni_Wl, nf_Ro_141⟩ ?_
  refine rl_iconst (v := 1) (pc := 9) Γ nd_Ro_met0_9 (by decide) ?_
  refine rl_isub (pc := 10) Γ nd_Ro_met0_10 ?_
  obtain ⟨q1, q1h, h⟩ := rl_bd h
  by_cases q2 : q1.1 = 0
  case neg => exact (rl_xn hr0 q2 (rl_iff q2 h)).elim
  have h := rl_ift q2 h
  refine rl_callSv (As := [.int x1, .int 0, .int ((σ 19 0) - 1)]) (pc := 11) Γ nd_Ro_met0_11 hO (rwn_Ro_needWithin l E x1 0 ((σ 19 0) - 1) σ q1 q1h q2) 3 nm_Ro_55 nm_st_Ro_needWithin nm_ini_Ro nh_Ro_needWithin ⟨rfl, rfl⟩ (by decide +kernel) (Nat.le_of_ble_eq_true rfl) (Nat.le_of_ble_eq_true rfl) ⟨Nat.zero_le _, Nat.zero_le _⟩ (Nat.le_of_ble_eq_true rfl) rfl rfl ?_
  refine rl_aload_n (pc := 14) Γ nd_Ro_met0_14 0 rfl ?_
  refine rl_get (pc := 15) Γ nd_Ro_met0_15 hO (k := 1) (rl_o0 E) rfl (by decide) rfl ⟨ni_Ro, nf_Ro_19⟩ ?_
  obtain ⟨q3, q3h, h⟩ := rl_bd h
  refine rl_callVv (As := []) (pc := 18) Γ nd_Ro_met0_18 hO (rw_Pl_settle l E   q1.2.2 q3 q3h) 0 nm_Ro_113 nm_im_Pl_settle nm_se_Pl_settle nm_ini_Pl nh_Pl_settle (rl_o3 E) rfl ⟨rfl, rfl⟩ (by decide +kernel) (Nat.le_of_ble_eq_true rfl) (Nat.le_of_ble_eq_true rfl) ⟨Nat.zero_le _, Nat.zero_le _⟩ (Nat.le_of_ble_eq_true rfl) rfl rfl ?_
  refine rl_aload_n (pc := 21) Γ nd_Ro_met0_21 0 rfl ?_
  refine rl_get (pc := 22) Γ nd_Ro_met0_22 hO (k := 2) (rl_o0 E) rfl (by decide) rfl ⟨ni_Ro, nf_Ro_26⟩ ?_
  refine rl_aload_n (pc := 25) Γ nd_Ro_met0_25 0 rfl ?_
  refine rl_get (pc := 26) Γ nd_Ro_met0_26 hO (k := 1) (rl_o0 E) rfl (by decide) rfl ⟨ni_Ro, nf_Ro_19⟩ ?_
  refine rl_iload_n (pc := 29) Γ nd_Ro_met0_29 1 rfl ?_
  obtain ⟨q5, q5h, h⟩ := rl_bd h
  refine rl_callVi (As := [.ref (E.1 3), .int x1]) (pc := 30) Γ nd_Ro_met0_30 hO (rw_Wl_isMetIn l E x1  q3.2 q5 q5h) 2 nm_Ro_147 nm_im_Wl_isMetIn nm_se_Wl_isMetIn nm_ini_Wl nh_Wl_isMetIn (rl_o19 E) rfl ⟨rfl, rfl⟩ (by decide +kernel) (Nat.le_of_ble_eq_true rfl) (Nat.le_of_ble_eq_true rfl) ⟨Nat.zero_le _, Nat.zero_le _⟩ (Nat.le_of_ble_eq_true rfl) rfl rfl ?_
  obtain ⟨q7, h⟩ := rl_if h
  exact rl_zret (pc := 33) Γ nd_Ro_met0_33 hr hk q7 (rl_x0 h)
set_option maxHeartbeats 4000000 in
set_option maxRecDepth 100000 in
theorem rwt_Ro_met0 (l : Launch) (hlq : rl_Lq l) (E : rl_E) (x1 : Int32) (σ : rl_M) (r : Nat × Int32 × rl_M) (h : rf_Ro_met0 x1 σ = some r) (hr1 : ¬ r.1 = 0) : rl_MT l ny_Ro_met0 nw_Ro_met0 nr_Ro_met0T E [.ref (E.1 0), .int x1] σ (rl_exc r.1) r.2.2 := by
  refine rl_MT.ofW (cc := nc_Ro_met0) (maxL := 2) (ret := (some .boolean)) (by decide) rfl ?_
  intro p e s m args below meth c s₁ B hml hv
  obtain ⟨rfl, hP, hO⟩ := hv
  have Γ : CallFix p m c nc_Ro_met0 2 s ([.ref (E.1 0), .int x1] : List Value).toArray rl_TT nR_Ro := ⟨B.exec, B.bytes, hml, findClass_of_methodNamed B.named, fun w hw => atoms_spec (ws := nw_Ro_met0) B.pre w (List.mem_cons_of_mem _ hw)⟩
  have hr := B.returns
  have hk := B.notSynchronized
  have hno := BodyLoose.noHandlers B (atoms_spec (ws := nw_Ro_met0) B.pre _ List.mem_cons_self)
  refine r0_start (R := nr_Ro_met0T) (nL := 2) (av := [.ref (E.1 0), .int x1]) (Nat.le_of_ble_eq_true rfl) ?_
  unfold rf_Ro_met0 at h
  refine r0_iload_n (pc := 0) Γ nd_Ro_met0_0 1 rfl ?_
  refine r0_iconst (v := 0) (pc := 1) Γ nd_Ro_met0_1 (by decide) ?_
  refine r0_aload_n (pc := 2) Γ nd_Ro_met0_2 0 rfl ?_
  refine r0_get hP (pc := 3) Γ nd_Ro_met0_3 hO (k := 2) (rl_o0 E) rfl (by decide) rfl ⟨ni_Ro, nf_Ro_26⟩ ?_
  refine r0_get hP (pc := 6) Γ nd_Ro_met0_6 hO (k := 0) (rl_o19 E) rfl (by decide) rfl ⟨ni_Wl, nf_Ro_141⟩ ?_
  refine r0_iconst (v := 1) (pc := 9) Γ nd_Ro_met0_9 (by decide) ?_
  refine r0_isub (pc := 10) Γ nd_Ro_met0_10 ?_
  obtain ⟨q1, q1h, h⟩ := rl_bd h
  by_cases q2 : q1.1 = 0
  case neg =>
    have h := rl_iff q2 h
    cases h
    exact r0_callST (As := [.int x1, .int 0, .int ((σ 19 0) - 1)]) (st := []) hP (pc := 11) Γ nd_Ro_met0_11 hO hk hno (rwt_Ro_needWithin l hlq E x1 0 ((σ 19 0) - 1) σ q1 q1h q2) 3 nm_Ro_55 nm_st_Ro_needWithin nm_ini_Ro nh_Ro_needWithin ⟨rfl, rfl⟩ (by decide +kernel) (Nat.le_of_ble_eq_true rfl) (Nat.le_of_ble_eq_true rfl) ⟨Nat.le_of_ble_eq_true rfl, Nat.le_of_ble_eq_true rfl⟩ (Nat.le_of_ble_eq_true rfl) rfl rfl
  have h := rl_ift q2 h
  rw [rp_Ro_needWithin q1h q2] at h
  refine r0_callS (As := [.int x1, .int 0, .int ((σ 19 0) - 1)]) hP (pc := 11) Γ nd_Ro_met0_11 hO (rwp_Ro_needWithin l E x1 0 ((σ 19 0) - 1) σ q1 q1h q2) 3 nm_Ro_55 nm_st_Ro_needWithin nm_ini_Ro nh_Ro_needWithin ⟨rfl, rfl⟩ (by decide +kernel) (Nat.le_of_ble_eq_true rfl) (Nat.le_of_ble_eq_true rfl) (Nat.le_of_ble_eq_true rfl) rfl rfl ?_
  obtain ⟨q3, q3h, h⟩ := rl_bd h
  obtain ⟨q5, q5h, h⟩ := rl_bd h
  obtain ⟨q7, h⟩ := rl_if h
  exact (rl_x1 hr1 h).elim
def rf_Ro_swap (x1 : Int32) (x2 : Int32) (σ : rl_M) : Option (Nat × Int32 × rl_M) := ((rf_Ro_needTwoRooms x1 x2 σ).bind (fun q1 => (if q1.1 = 0 then ((rf_Ro_canExchange x1 x2 q1.2.2).bind (fun q3 => (if q3.1 = 0 then some (0, 0, q3.2) else ((rf_Ro_changePlaces x1 x2 q3.2).bind (fun q6 => some (0, 1, q6.2)))))) else some (q1.1, 0, q1.2.2))))
set_option maxHeartbeats 4000000 in
set_option maxRecDepth 100000 in
theorem rwn_Ro_swap (l : Launch) (E : rl_E) (x1 : Int32) (x2 : Int32) (σ : rl_M) (r : Nat × Int32 × rl_M) (h : rf_Ro_swap x1 x2 σ = some r) (hr0 : r.1 = 0) : Met l ny_Ro_swap nw_Ro_swap nr_Ro_swap (rl_P E [.ref (E.1 0), .int x1, .int x2] σ) (rl_Q E (rl_ri r.2.1) r.2.2) 0 0 (rl_A E) := by
  refine Met.ofW (cc := nc_Ro_swap) (maxL := 3) (ret := (some .boolean)) (by decide) rfl ?_
  intro p e s m args below meth c s₁ B hml hv
  obtain ⟨rfl, hP, hO⟩ := hv
  have Γ : CallFix p m c nc_Ro_swap 3 s ([.ref (E.1 0), .int x1, .int x2] : List Value).toArray rl_TT nR_Ro := ⟨B.exec, B.bytes, hml, findClass_of_methodNamed B.named, fun w hw => atoms_spec (ws := nw_Ro_swap) B.pre w (List.mem_cons_of_mem _ hw)⟩
  have hr := B.returns
  have hk := B.notSynchronized
  have hno := BodyLoose.noHandlers B (atoms_spec (ws := nw_Ro_swap) B.pre _ List.mem_cons_self)
  refine rl_start (R := nr_Ro_swap) (Q := rl_QM below _ s E rl_ri r.2) (nL := 3) (av := [.ref (E.1 0), .int x1, .int x2]) (σ := σ) hP (Nat.le_of_ble_eq_true rfl) ?_
  unfold rf_Ro_swap at h
  refine rl_aload_n (pc := 0) Γ nd_Ro_swap_0 0 rfl ?_
  refine rl_iload_n (pc := 1) Γ nd_Ro_swap_1 1 rfl ?_
  refine rl_iload_n (pc := 2) Γ nd_Ro_swap_2 2 rfl ?_
  obtain ⟨q1, q1h, h⟩ := rl_bd h
  by_cases q2 : q1.1 = 0
  case neg => exact (rl_xn hr0 q2 (rl_iff q2 h)).elim
  have h := rl_ift q2 h
  refine rl_callVv (As := [.int x1, .int x2]) (pc := 3) Γ nd_Ro_swap_3 hO (rwn_Ro_needTwoRooms l E x1 x2 σ q1 q1h q2) 2 nm_Ro_135 nm_im_Ro_needTwoRooms nm_se_Ro_needTwoRooms nm_ini_Ro nh_Ro_needTwoRooms (rl_o0 E) rfl ⟨rfl, rfl⟩ (by decide +kernel) (Nat.le_of_ble_eq_true rfl) (Nat.le_of_ble_eq_true rfl) ⟨Nat.zero_le _, Nat.zero_le _⟩ (Nat.le_of_ble_eq_true rfl) rfl rfl ?_
  refine rl_aload_n (pc := 6) Γ nd_Ro_swap_6 0 rfl ?_
  refine rl_iload_n (pc := 7) Γ nd_Ro_swap_7 1 rfl ?_
  refine rl_iload_n (pc := 8) Γ nd_Ro_swap_8 2 rfl ?_
  obtain ⟨q3, q3h, h⟩ := rl_bd h
  refine rl_callVi (As := [.int x1, .int x2]) (pc := 9) Γ nd_Ro_swap_9 hO (rw_Ro_canExchange l E x1 x2  q1.2.2 q3 q3h) 2 nm_Ro_155 nm_im_Ro_canExchange nm_se_Ro_canExchange nm_ini_Ro nh_Ro_canExchange (rl_o0 E) rfl ⟨rfl, rfl⟩ (by decide +kernel) (Nat.le_of_ble_eq_true rfl) (Nat.le_of_ble_eq_true rfl) ⟨Nat.zero_le _, Nat.zero_le _⟩ (Nat.le_of_ble_eq_true rfl) rfl rfl ?_
  refine rl_if_ne (tgt := 17) (pc := 12) Γ nd_Ro_swap_12 (by decide) (fun q5 => ?_) (fun q5 => ?_)
  · have h := rl_iff q5 h
    refine rl_aload_n (pc := 17) Γ nd_Ro_swap_17 0 rfl ?_
    refine rl_iload_n (pc := 18) Γ nd_Ro_swap_18 1 rfl ?_
    refine rl_iload_n (pc := 19) Γ nd_Ro_swap_19 2 rfl ?_
    obtain ⟨q6, q6h, h⟩ := rl_bd h
    refine rl_callVv (As := [.int x1, .int x2]) (pc := 20) Γ nd_Ro_swap_20 hO (rw_Ro_changePlaces l E x1 x2  q3.2 q6 q6h) 2 nm_Ro_159 nm_im_Ro_changePlaces nm_se_Ro_changePlaces nm_ini_Ro nh_Ro_changePlaces (rl_o0 E) rfl ⟨rfl, rfl⟩ (by decide +kernel) (Nat.le_of_ble_eq_true rfl) (Nat.le_of_ble_eq_true rfl) ⟨Nat.zero_le _, Nat.zero_le _⟩ (Nat.le_of_ble_eq_true rfl) rfl rfl ?_
    refine rl_iconst (v := 1) (pc := 23) Γ nd_Ro_swap_23 (by decide) ?_
    exact rl_zret (pc := 24) Γ nd_Ro_swap_24 hr hk (by decide) (rl_x0 h)
  · have h := rl_ift q5 h
    refine rl_iconst (v := 0) (pc := 15) Γ nd_Ro_swap_15 (by decide) ?_
    exact rl_zret (pc := 16) Γ nd_Ro_swap_16 hr hk (by decide) (rl_x0 h)
set_option maxHeartbeats 4000000 in
set_option maxRecDepth 100000 in
theorem rwt_Ro_swap (l : Launch) (hlq : rl_Lq l) (E : rl_E) (x1 : Int32) (x2 : Int32) (σ : rl_M) (r : Nat × Int32 × rl_M) (h : rf_Ro_swap x1 x2 σ = some r) (hr1 : ¬ r.1 = 0) : rl_MT l ny_Ro_swap nw_Ro_swap nr_Ro_swapT E [.ref (E.1 0), .int x1, .int x2] σ (rl_exc r.1) r.2.2 := by
  refine rl_MT.ofW (cc := nc_Ro_swap) (maxL := 3) (ret := (some .boolean)) (by decide) rfl ?_
  intro p e s m args below meth c s₁ B hml hv
  obtain ⟨rfl, hP, hO⟩ := hv
  have Γ : CallFix p m c nc_Ro_swap 3 s ([.ref (E.1 0), .int x1, .int x2] : List Value).toArray rl_TT nR_Ro := ⟨B.exec, B.bytes, hml, findClass_of_methodNamed B.named, fun w hw => atoms_spec (ws := nw_Ro_swap) B.pre w (List.mem_cons_of_mem _ hw)⟩
  have hr := B.returns
  have hk := B.notSynchronized
  have hno := BodyLoose.noHandlers B (atoms_spec (ws := nw_Ro_swap) B.pre _ List.mem_cons_self)
  refine r0_start (R := nr_Ro_swapT) (nL := 3) (av := [.ref (E.1 0), .int x1, .int x2]) (Nat.le_of_ble_eq_true rfl) ?_
  unfold rf_Ro_swap at h
  refine r0_aload_n (pc := 0) Γ nd_Ro_swap_0 0 rfl ?_
  refine r0_iload_n (pc := 1) Γ nd_Ro_swap_1 1 rfl ?_
  refine r0_iload_n (pc := 2) Γ nd_Ro_swap_2 2 rfl ?_
  obtain ⟨q1, q1h, h⟩ := rl_bd h
  by_cases q2 : q1.1 = 0
  case neg =>
    have h := rl_iff q2 h
    cases h
    exact r0_callVT (As := [.int x1, .int x2]) (st := []) hP (pc := 3) Γ nd_Ro_swap_3 hO hk hno (rwt_Ro_needTwoRooms l hlq E x1 x2 σ q1 q1h q2) 2 nm_Ro_135 nm_im_Ro_needTwoRooms nm_se_Ro_needTwoRooms nm_ini_Ro nh_Ro_needTwoRooms (rl_o0 E) rfl ⟨rfl, rfl⟩ (by decide +kernel) (Nat.le_of_ble_eq_true rfl) (Nat.le_of_ble_eq_true rfl) ⟨Nat.le_of_ble_eq_true rfl, Nat.le_of_ble_eq_true rfl⟩ (Nat.le_of_ble_eq_true rfl) rfl rfl
  have h := rl_ift q2 h
  rw [rp_Ro_needTwoRooms q1h q2] at h
  refine r0_callV (As := [.int x1, .int x2]) hP (pc := 3) Γ nd_Ro_swap_3 hO (rwp_Ro_needTwoRooms l E x1 x2 σ q1 q1h q2) 2 nm_Ro_135 nm_im_Ro_needTwoRooms nm_se_Ro_needTwoRooms nm_ini_Ro nh_Ro_needTwoRooms (rl_o0 E) rfl ⟨rfl, rfl⟩ (by decide +kernel) (Nat.le_of_ble_eq_true rfl) (Nat.le_of_ble_eq_true rfl) (Nat.le_of_ble_eq_true rfl) rfl rfl ?_
  obtain ⟨q3, q3h, h⟩ := rl_bd h
  by_cases q5 : q3.1 = 0
  · have h := rl_ift q5 h
    exact (rl_x1 hr1 h).elim
  · have h := rl_iff q5 h
    obtain ⟨q6, q6h, h⟩ := rl_bd h
    exact (rl_x1 hr1 h).elim
def rf_Ro_sign (x1 : Int32) (σ : rl_M) : Option (Nat × Int32 × rl_M) := ((rf_Ro_needNotBelowZero x1 σ).bind (fun q1 => (if q1.1 = 0 then ((rf_St_signAt x1 q1.2.2).bind (fun q3 => some (0, q3.1, q3.2))) else some (q1.1, 0, q1.2.2))))
set_option maxHeartbeats 4000000 in
set_option maxRecDepth 100000 in
theorem rwn_Ro_sign (l : Launch) (E : rl_E) (x1 : Int32) (σ : rl_M) (r : Nat × Int32 × rl_M) (h : rf_Ro_sign x1 σ = some r) (hr0 : r.1 = 0) : Met l ny_Ro_sign nw_Ro_sign nr_Ro_sign (rl_P E [.ref (E.1 0), .int x1] σ) (rl_Q E (rl_ri r.2.1) r.2.2) 0 0 (rl_A E) := by
  refine Met.ofW (cc := nc_Ro_sign) (maxL := 2) (ret := (some .int)) (by decide) rfl ?_
  intro p e s m args below meth c s₁ B hml hv
  obtain ⟨rfl, hP, hO⟩ := hv
  have Γ : CallFix p m c nc_Ro_sign 2 s ([.ref (E.1 0), .int x1] : List Value).toArray rl_TT nR_Ro := ⟨B.exec, B.bytes, hml, findClass_of_methodNamed B.named, fun w hw => atoms_spec (ws := nw_Ro_sign) B.pre w (List.mem_cons_of_mem _ hw)⟩
  have hr := B.returns
  have hk := B.notSynchronized
  have hno := BodyLoose.noHandlers B (atoms_spec (ws := nw_Ro_sign) B.pre _ List.mem_cons_self)
  refine rl_start (R := nr_Ro_sign) (Q := rl_QM below _ s E rl_ri r.2) (nL := 2) (av := [.ref (E.1 0), .int x1]) (σ := σ) hP (Nat.le_of_ble_eq_true rfl) ?_
  unfold rf_Ro_sign at h
  refine rl_iload_n (pc := 0) Γ nd_Ro_sign_0 1 rfl ?_
  obtain ⟨q1, q1h, h⟩ := rl_bd h
  by_cases q2 : q1.1 = 0
  case neg => exact (rl_xn hr0 q2 (rl_iff q2 h)).elim
  have h := rl_ift q2 h
  refine rl_callSv (As := [.int x1]) (pc := 1) Γ nd_Ro_sign_1 hO (rwn_Ro_needNotBelowZero l E x1 σ q1 q1h q2) 1 nm_Ro_120 nm_st_Ro_needNotBelowZero nm_ini_Ro nh_Ro_needNotBelowZero ⟨rfl, rfl⟩ (by decide +kernel) (Nat.le_of_ble_eq_true rfl) (Nat.le_of_ble_eq_true rfl) ⟨Nat.zero_le _, Nat.zero_le _⟩ (Nat.le_of_ble_eq_true rfl) rfl rfl ?_
  refine rl_aload_n (pc := 4) Γ nd_Ro_sign_4 0 rfl ?_
  refine rl_get (pc := 5) Γ nd_Ro_sign_5 hO (k := 1) (rl_o0 E) rfl (by decide) rfl ⟨ni_Ro, nf_Ro_19⟩ ?_
  refine rl_get (pc := 8) Γ nd_Ro_sign_8 hO (k := 1) (rl_o3 E) rfl (by decide) rfl ⟨ni_Pl, nf_Ro_87⟩ ?_
  refine rl_iload_n (pc := 11) Γ nd_Ro_sign_11 1 rfl ?_
  obtain ⟨q3, q3h, h⟩ := rl_bd h
  refine rl_callVi (As := [.int x1]) (pc := 12) Γ nd_Ro_sign_12 hO (rw_St_signAt l E x1  q1.2.2 q3 q3h) 1 nm_Ro_162 nm_im_St_signAt nm_se_St_signAt nm_ini_St nh_St_signAt (rl_o8 E) rfl ⟨rfl, rfl⟩ (by decide +kernel) (Nat.le_of_ble_eq_true rfl) (Nat.le_of_ble_eq_true rfl) ⟨Nat.zero_le _, Nat.zero_le _⟩ (Nat.le_of_ble_eq_true rfl) rfl rfl ?_
  exact rl_iret (pc := 15) Γ nd_Ro_sign_15 hr hk (rl_x0 h)
set_option maxHeartbeats 4000000 in
set_option maxRecDepth 100000 in
theorem rwt_Ro_sign (l : Launch) (hlq : rl_Lq l) (E : rl_E) (x1 : Int32) (σ : rl_M) (r : Nat × Int32 × rl_M) (h : rf_Ro_sign x1 σ = some r) (hr1 : ¬ r.1 = 0) : rl_MT l ny_Ro_sign nw_Ro_sign nr_Ro_signT E [.ref (E.1 0), .int x1] σ (rl_exc r.1) r.2.2 := by
  refine rl_MT.ofW (cc := nc_Ro_sign) (maxL := 2) (ret := (some .int)) (by decide) rfl ?_
  intro p e s m args below meth c s₁ B hml hv
  obtain ⟨rfl, hP, hO⟩ := hv
  have Γ : CallFix p m c nc_Ro_sign 2 s ([.ref (E.1 0), .int x1] : List Value).toArray rl_TT nR_Ro := ⟨B.exec, B.bytes, hml, findClass_of_methodNamed B.named, fun w hw => atoms_spec (ws := nw_Ro_sign) B.pre w (List.mem_cons_of_mem _ hw)⟩
  have hr := B.returns
  have hk := B.notSynchronized
  have hno := BodyLoose.noHandlers B (atoms_spec (ws := nw_Ro_sign) B.pre _ List.mem_cons_self)
  refine r0_start (R := nr_Ro_signT) (nL := 2) (av := [.ref (E.1 0), .int x1]) (Nat.le_of_ble_eq_true rfl) ?_
  unfold rf_Ro_sign at h
  refine r0_iload_n (pc := 0) Γ nd_Ro_sign_0 1 rfl ?_
  obtain ⟨q1, q1h, h⟩ := rl_bd h
  by_cases q2 : q1.1 = 0
  case neg =>
    have h := rl_iff q2 h
    cases h
    exact r0_callST (As := [.int x1]) (st := []) hP (pc := 1) Γ nd_Ro_sign_1 hO hk hno (rwt_Ro_needNotBelowZero l hlq E x1 σ q1 q1h q2) 1 nm_Ro_120 nm_st_Ro_needNotBelowZero nm_ini_Ro nh_Ro_needNotBelowZero ⟨rfl, rfl⟩ (by decide +kernel) (Nat.le_of_ble_eq_true rfl) (Nat.le_of_ble_eq_true rfl) ⟨Nat.le_of_ble_eq_true rfl, Nat.le_of_ble_eq_true rfl⟩ (Nat.le_of_ble_eq_true rfl) rfl rfl
  have h := rl_ift q2 h
  rw [rp_Ro_needNotBelowZero q1h q2] at h
  refine r0_callS (As := [.int x1]) hP (pc := 1) Γ nd_Ro_sign_1 hO (rwp_Ro_needNotBelowZero l E x1 σ q1 q1h q2) 1 nm_Ro_120 nm_st_Ro_needNotBelowZero nm_ini_Ro nh_Ro_needNotBelowZero ⟨rfl, rfl⟩ (by decide +kernel) (Nat.le_of_ble_eq_true rfl) (Nat.le_of_ble_eq_true rfl) (Nat.le_of_ble_eq_true rfl) rfl rfl ?_
  obtain ⟨q3, q3h, h⟩ := rl_bd h
  exact (rl_x1 hr1 h).elim
