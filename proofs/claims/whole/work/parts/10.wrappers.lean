def wf_room  (σ : rl_M) : Option (Int32 × rl_M) := (rf_Ro_room  σ).bind (fun z => if z.1 = 0 then some (0, rl_su z.2.2 78 0 z.2.1) else (if z.1 = 2 then some (1, z.2.2) else none))
set_option maxHeartbeats 4000000 in
set_option maxRecDepth 100000 in
theorem ww_room (l : Launch) (hlq : rl_Lq l) (E : rl_E)  (σ : rl_M) (r : Int32 × rl_M) (h : wf_room  σ = some r) : Met l ny_La_room nw_La_room nr_La_room (rl_P E [.ref (E.1 0), .ref (E.1 78)] σ) (rl_Q E (rl_ri r.1) r.2) 1 6 (rl_A E) := by
  refine va_MetW (cc := nc_La_room) (maxL := 3) (ret := some .int) (hh := [(0, 8, 11, 13)]) (by decide) rfl ?_
  intro p e s m args below meth c s₁ B hml hv
  obtain ⟨rfl, hP, hO⟩ := hv
  have Γ : CallFix p m c nc_La_room 3 s ([.ref (E.1 0), .ref (E.1 78)] : List Value).toArray rl_TT nR_La := ⟨B.exec, B.bytes, hml, findClass_of_methodNamed B.named, fun w hw => atoms_spec (ws := nw_La_room) B.pre w (List.mem_cons_of_mem _ hw)⟩
  have hr := B.returns
  have hk := B.notSynchronized
  have htab : c.exceptionTable.toList = tableOf [(0, 8, 11, 13)] := rl_tab B (atoms_spec (ws := nw_La_room) B.pre _ List.mem_cons_self)
  refine rl_start (R := nr_La_room) (Q := MQ below (rl_Q E (rl_ri r.1) r.2) _ s 1 6 (rl_A E)) (nL := 3) (av := [.ref (E.1 0), .ref (E.1 78)]) (σ := σ) hP (Nat.le_of_ble_eq_true rfl) ?_
  unfold wf_room at h
  refine rl_aload_n (pc := 0) Γ nd_La_room_0 1 rfl ?_
  refine rl_iconst (v := 0) (pc := 1) Γ nd_La_room_1 (by decide) ?_
  refine rl_aload_n (pc := 2) Γ nd_La_room_2 0 rfl ?_
  obtain ⟨z, zh, h⟩ := rl_bd h
  by_cases z0 : z.1 = 0
  · have h := rl_ift z0 h
    refine rl_callVi (As := []) (pc := 3) Γ nd_La_room_3 hO (rwn_Ro_room l E  σ z zh z0) 0 nm_La_7 nm_im_Ro_room nm_se_Ro_room nm_ini_Ro nh_Ro_room (rl_o0 E) rfl ⟨rfl, rfl⟩ (by decide +kernel) (Nat.le_of_ble_eq_true rfl) (Nat.le_of_ble_eq_true rfl) ⟨Nat.zero_le _, Nat.zero_le _⟩ (Nat.le_of_ble_eq_true rfl) rfl rfl ?_
    refine rl_i2l (pc := 6) Γ nd_La_room_6 ?_
    refine rl_lst (x := z.2.1) (pc := 7) Γ nd_La_room_7 hO rfl ?_
    refine rl_goto (tgt := 14) (pc := 8) Γ nd_La_room_8 (by decide) ?_
    refine rl_iconst (v := 0) (pc := 14) Γ nd_La_room_14 (by decide) ?_
    exact rl_wret (pc := 15) Γ nd_La_room_15 hr hk ⟨Nat.zero_le _, Nat.zero_le _⟩ h
  · have h := rl_iff z0 h
    by_cases z2 : z.1 = 2
    · have h := rl_ift z2 h
      have hM := rwt_Ro_room l hlq E  σ z zh z0
      rw [z2] at hM
      refine rl_callVC (X := "java/lang/IllegalStateException") (hpc := 11) (As := []) (pc := 3) Γ nd_La_room_3 hO hM 0 nm_La_7 nm_im_Ro_room nm_se_Ro_room nm_ini_Ro nh_Ro_room (rl_o0 E) rfl ⟨rfl, rfl⟩ (by decide +kernel) (Nat.le_of_ble_eq_true rfl) (Nat.le_of_ble_eq_true rfl) ⟨Nat.le_of_ble_eq_true rfl, Nat.le_of_ble_eq_true rfl⟩ (Nat.le_of_ble_eq_true rfl) rfl rfl (fun T2 locs x cell ls X2 hcell hvm hcls => rl_find1 (own := nR_La) (X := "java/lang/IllegalStateException") X2 rfl (t := tableOf []) htab rfl (by decide) Γ.2.2.2.1 (Γ.2.2.2.2 _ nx_lS) hO.2.2.2.2.2.1.2.1 hcell hvm hcls) (fun x => ?_)
      refine rl_astore_n (L' := [(2, .ref x), (0, .ref (E.1 0)), (1, .ref (E.1 78))]) (pc := 11) Γ nd_La_room_11 (by decide) rfl ?_
      refine rl_iconst (v := 1) (pc := 12) Γ nd_La_room_12 (by decide) ?_
      exact rl_wret (pc := 13) Γ nd_La_room_13 hr hk ⟨Nat.le_of_ble_eq_true rfl, Nat.le_of_ble_eq_true rfl⟩ h
    · have h := rl_iff z2 h
      exact (rl_ns h).elim
def wf_size (x1 : Int32) (x2 : Int32) (x3 : Int32) (σ : rl_M) : Option (Int32 × rl_M) := (rf_Ro_size x1 x2 x3 σ).bind (fun z => if z.1 = 0 then some (0, rl_su z.2.2 78 0 z.2.1) else (if z.1 = 1 then some (1, z.2.2) else (if z.1 = 2 then some (2, z.2.2) else none)))
set_option maxHeartbeats 4000000 in
set_option maxRecDepth 100000 in
theorem ww_size (l : Launch) (hlq : rl_Lq l) (E : rl_E) (x1 : Int32) (x2 : Int32) (x3 : Int32) (σ : rl_M) (r : Int32 × rl_M) (h : wf_size x1 x2 x3 σ = some r) : Met l ny_La_size nw_La_size nr_La_size (rl_P E [.ref (E.1 0), .int x1, .int x2, .int x3, .ref (E.1 78)] σ) (rl_Q E (rl_ri r.1) r.2) 1 6 (rl_A E) := by
  refine va_MetW (cc := nc_La_size) (maxL := 6) (ret := some .int) (hh := [(0, 12, 15, 19), (0, 12, 19, 13)]) (by decide) rfl ?_
  intro p e s m args below meth c s₁ B hml hv
  obtain ⟨rfl, hP, hO⟩ := hv
  have Γ : CallFix p m c nc_La_size 6 s ([.ref (E.1 0), .int x1, .int x2, .int x3, .ref (E.1 78)] : List Value).toArray rl_TT nR_La := ⟨B.exec, B.bytes, hml, findClass_of_methodNamed B.named, fun w hw => atoms_spec (ws := nw_La_size) B.pre w (List.mem_cons_of_mem _ hw)⟩
  have hr := B.returns
  have hk := B.notSynchronized
  have htab : c.exceptionTable.toList = tableOf [(0, 12, 15, 19), (0, 12, 19, 13)] := rl_tab B (atoms_spec (ws := nw_La_size) B.pre _ List.mem_cons_self)
  refine rl_start (R := nr_La_size) (Q := MQ below (rl_Q E (rl_ri r.1) r.2) _ s 1 6 (rl_A E)) (nL := 6) (av := [.ref (E.1 0), .int x1, .int x2, .int x3, .ref (E.1 78)]) (σ := σ) hP (Nat.le_of_ble_eq_true rfl) ?_
  unfold wf_size at h
  refine rl_aload (pc := 0) Γ nd_La_size_0 4 rfl ?_
  refine rl_iconst (v := 0) (pc := 2) Γ nd_La_size_2 (by decide) ?_
  refine rl_aload_n (pc := 3) Γ nd_La_size_3 0 rfl ?_
  refine rl_iload_n (pc := 4) Γ nd_La_size_4 1 rfl ?_
  refine rl_iload_n (pc := 5) Γ nd_La_size_5 2 rfl ?_
  refine rl_iload_n (pc := 6) Γ nd_La_size_6 3 rfl ?_
  obtain ⟨z, zh, h⟩ := rl_bd h
  by_cases z0 : z.1 = 0
  · have h := rl_ift z0 h
    refine rl_callVi (As := [.int x1, .int x2, .int x3]) (pc := 7) Γ nd_La_size_7 hO (rwn_Ro_size l E x1 x2 x3 σ z zh z0) 3 nm_La_15 nm_im_Ro_size nm_se_Ro_size nm_ini_Ro nh_Ro_size (rl_o0 E) rfl ⟨rfl, rfl⟩ (by decide +kernel) (Nat.le_of_ble_eq_true rfl) (Nat.le_of_ble_eq_true rfl) ⟨Nat.zero_le _, Nat.zero_le _⟩ (Nat.le_of_ble_eq_true rfl) rfl rfl ?_
    refine rl_i2l (pc := 10) Γ nd_La_size_10 ?_
    refine rl_lst (x := z.2.1) (pc := 11) Γ nd_La_size_11 hO rfl ?_
    refine rl_goto (tgt := 23) (pc := 12) Γ nd_La_size_12 (by decide) ?_
    refine rl_iconst (v := 0) (pc := 23) Γ nd_La_size_23 (by decide) ?_
    exact rl_wret (pc := 24) Γ nd_La_size_24 hr hk ⟨Nat.zero_le _, Nat.zero_le _⟩ h
  · have h := rl_iff z0 h
    by_cases z1 : z.1 = 1
    · have h := rl_ift z1 h
      have hM := rwt_Ro_size l hlq E x1 x2 x3 σ z zh z0
      rw [z1] at hM
      refine rl_callVC (X := "java/lang/IllegalArgumentException") (hpc := 15) (As := [.int x1, .int x2, .int x3]) (pc := 7) Γ nd_La_size_7 hO hM 3 nm_La_15 nm_im_Ro_size nm_se_Ro_size nm_ini_Ro nh_Ro_size (rl_o0 E) rfl ⟨rfl, rfl⟩ (by decide +kernel) (Nat.le_of_ble_eq_true rfl) (Nat.le_of_ble_eq_true rfl) ⟨Nat.le_of_ble_eq_true rfl, Nat.le_of_ble_eq_true rfl⟩ (Nat.le_of_ble_eq_true rfl) rfl rfl (fun T2 locs x cell ls X2 hcell hvm hcls => rl_find1 (own := nR_La) (X := "java/lang/IllegalArgumentException") X2 rfl (t := tableOf [(0, 12, 19, 13)]) htab rfl (by decide) Γ.2.2.2.1 (Γ.2.2.2.2 _ nx_lA) hO.2.2.2.2.2.1.1 hcell hvm hcls) (fun x => ?_)
      refine rl_astore (L' := [(5, .ref x), (0, .ref (E.1 0)), (1, .int x1), (2, .int x2), (3, .int x3), (4, .ref (E.1 78))]) (pc := 15) Γ nd_La_size_15 (by decide) rfl ?_
      refine rl_iconst (v := 1) (pc := 17) Γ nd_La_size_17 (by decide) ?_
      exact rl_wret (pc := 18) Γ nd_La_size_18 hr hk ⟨Nat.le_of_ble_eq_true rfl, Nat.le_of_ble_eq_true rfl⟩ h
    · have h := rl_iff z1 h
      by_cases z2 : z.1 = 2
      · have h := rl_ift z2 h
        have hM := rwt_Ro_size l hlq E x1 x2 x3 σ z zh z0
        rw [z2] at hM
        refine rl_callVC (X := "java/lang/IllegalStateException") (hpc := 19) (As := [.int x1, .int x2, .int x3]) (pc := 7) Γ nd_La_size_7 hO hM 3 nm_La_15 nm_im_Ro_size nm_se_Ro_size nm_ini_Ro nh_Ro_size (rl_o0 E) rfl ⟨rfl, rfl⟩ (by decide +kernel) (Nat.le_of_ble_eq_true rfl) (Nat.le_of_ble_eq_true rfl) ⟨Nat.le_of_ble_eq_true rfl, Nat.le_of_ble_eq_true rfl⟩ (Nat.le_of_ble_eq_true rfl) rfl rfl (fun T2 locs x cell ls X2 hcell hvm hcls => rl_find2 (own := nR_La) (X := "java/lang/IllegalStateException") (Y := "java/lang/IllegalArgumentException") X2 rfl (t := []) htab rfl (by decide) rfl (by decide) Γ.2.2.2.1 (Γ.2.2.2.2 _ nx_lA) (Γ.2.2.2.2 _ nx_lS) hO.2.2.2.2.2.1.2.2 hO.2.2.2.2.2.1.2.1 hcell hvm hcls) (fun x => ?_)
        refine rl_astore (L' := [(5, .ref x), (0, .ref (E.1 0)), (1, .int x1), (2, .int x2), (3, .int x3), (4, .ref (E.1 78))]) (pc := 19) Γ nd_La_size_19 (by decide) rfl ?_
        refine rl_iconst (v := 2) (pc := 21) Γ nd_La_size_21 (by decide) ?_
        exact rl_wret (pc := 22) Γ nd_La_size_22 hr hk ⟨Nat.le_of_ble_eq_true rfl, Nat.le_of_ble_eq_true rfl⟩ h
      · have h := rl_iff z2 h
        exact (rl_ns h).elim
def wf_lot (x1 : Int32) (x2 : Int32) (σ : rl_M) : Option (Int32 × rl_M) := (rf_Ro_lot x1 x2 σ).bind (fun z => if z.1 = 0 then some (0, z.2.2) else (if z.1 = 1 then some (1, z.2.2) else none))
set_option maxHeartbeats 4000000 in
set_option maxRecDepth 100000 in
theorem ww_lot (l : Launch) (hlq : rl_Lq l) (E : rl_E) (x1 : Int32) (x2 : Int32) (σ : rl_M) (r : Int32 × rl_M) (h : wf_lot x1 x2 σ = some r) : Met l ny_La_lot nw_La_lot nr_La_lot (rl_P E [.ref (E.1 0), .int x1, .int x2] σ) (rl_Q E (rl_ri r.1) r.2) 1 6 (rl_A E) := by
  refine va_MetW (cc := nc_La_lot) (maxL := 4) (ret := some .int) (hh := [(0, 6, 9, 19)]) (by decide) rfl ?_
  intro p e s m args below meth c s₁ B hml hv
  obtain ⟨rfl, hP, hO⟩ := hv
  have Γ : CallFix p m c nc_La_lot 4 s ([.ref (E.1 0), .int x1, .int x2] : List Value).toArray rl_TT nR_La := ⟨B.exec, B.bytes, hml, findClass_of_methodNamed B.named, fun w hw => atoms_spec (ws := nw_La_lot) B.pre w (List.mem_cons_of_mem _ hw)⟩
  have hr := B.returns
  have hk := B.notSynchronized
  have htab : c.exceptionTable.toList = tableOf [(0, 6, 9, 19)] := rl_tab B (atoms_spec (ws := nw_La_lot) B.pre _ List.mem_cons_self)
  refine rl_start (R := nr_La_lot) (Q := MQ below (rl_Q E (rl_ri r.1) r.2) _ s 1 6 (rl_A E)) (nL := 4) (av := [.ref (E.1 0), .int x1, .int x2]) (σ := σ) hP (Nat.le_of_ble_eq_true rfl) ?_
  unfold wf_lot at h
  refine rl_aload_n (pc := 0) Γ nd_La_lot_0 0 rfl ?_
  refine rl_iload_n (pc := 1) Γ nd_La_lot_1 1 rfl ?_
  refine rl_iload_n (pc := 2) Γ nd_La_lot_2 2 rfl ?_
  obtain ⟨z, zh, h⟩ := rl_bd h
  by_cases z0 : z.1 = 0
  · have h := rl_ift z0 h
    refine rl_callVv (As := [.int x1, .int x2]) (pc := 3) Γ nd_La_lot_3 hO (rwn_Ro_lot l E x1 x2 σ z zh z0) 2 nm_La_21 nm_im_Ro_lot nm_se_Ro_lot nm_ini_Ro nh_Ro_lot (rl_o0 E) rfl ⟨rfl, rfl⟩ (by decide +kernel) (Nat.le_of_ble_eq_true rfl) (Nat.le_of_ble_eq_true rfl) ⟨Nat.zero_le _, Nat.zero_le _⟩ (Nat.le_of_ble_eq_true rfl) rfl rfl ?_
    refine rl_goto (tgt := 12) (pc := 6) Γ nd_La_lot_6 (by decide) ?_
    refine rl_iconst (v := 0) (pc := 12) Γ nd_La_lot_12 (by decide) ?_
    exact rl_wret (pc := 13) Γ nd_La_lot_13 hr hk ⟨Nat.zero_le _, Nat.zero_le _⟩ h
  · have h := rl_iff z0 h
    by_cases z1 : z.1 = 1
    · have h := rl_ift z1 h
      have hM := rwt_Ro_lot l hlq E x1 x2 σ z zh z0
      rw [z1] at hM
      refine rl_callVC (X := "java/lang/IllegalArgumentException") (hpc := 9) (As := [.int x1, .int x2]) (pc := 3) Γ nd_La_lot_3 hO hM 2 nm_La_21 nm_im_Ro_lot nm_se_Ro_lot nm_ini_Ro nh_Ro_lot (rl_o0 E) rfl ⟨rfl, rfl⟩ (by decide +kernel) (Nat.le_of_ble_eq_true rfl) (Nat.le_of_ble_eq_true rfl) ⟨Nat.le_of_ble_eq_true rfl, Nat.le_of_ble_eq_true rfl⟩ (Nat.le_of_ble_eq_true rfl) rfl rfl (fun T2 locs x cell ls X2 hcell hvm hcls => rl_find1 (own := nR_La) (X := "java/lang/IllegalArgumentException") X2 rfl (t := tableOf []) htab rfl (by decide) Γ.2.2.2.1 (Γ.2.2.2.2 _ nx_lA) hO.2.2.2.2.2.1.1 hcell hvm hcls) (fun x => ?_)
      refine rl_astore_n (L' := [(3, .ref x), (0, .ref (E.1 0)), (1, .int x1), (2, .int x2)]) (pc := 9) Γ nd_La_lot_9 (by decide) rfl ?_
      refine rl_iconst (v := 1) (pc := 10) Γ nd_La_lot_10 (by decide) ?_
      exact rl_wret (pc := 11) Γ nd_La_lot_11 hr hk ⟨Nat.le_of_ble_eq_true rfl, Nat.le_of_ble_eq_true rfl⟩ h
    · have h := rl_iff z1 h
      exact (rl_ns h).elim
def wf_best (x1 : Int32) (σ : rl_M) : Option (Int32 × rl_M) := (rf_Ro_best x1 σ).bind (fun z => if z.1 = 0 then some (0, rl_su z.2.2 78 0 z.2.1) else (if z.1 = 1 then some (1, z.2.2) else none))
set_option maxHeartbeats 4000000 in
set_option maxRecDepth 100000 in
theorem ww_best (l : Launch) (hlq : rl_Lq l) (E : rl_E) (x1 : Int32) (σ : rl_M) (r : Int32 × rl_M) (h : wf_best x1 σ = some r) : Met l ny_La_best nw_La_best nr_La_best (rl_P E [.ref (E.1 0), .int x1, .ref (E.1 78)] σ) (rl_Q E (rl_ri r.1) r.2) 1 6 (rl_A E) := by
  refine va_MetW (cc := nc_La_best) (maxL := 4) (ret := some .int) (hh := [(0, 9, 12, 19)]) (by decide) rfl ?_
  intro p e s m args below meth c s₁ B hml hv
  obtain ⟨rfl, hP, hO⟩ := hv
  have Γ : CallFix p m c nc_La_best 4 s ([.ref (E.1 0), .int x1, .ref (E.1 78)] : List Value).toArray rl_TT nR_La := ⟨B.exec, B.bytes, hml, findClass_of_methodNamed B.named, fun w hw => atoms_spec (ws := nw_La_best) B.pre w (List.mem_cons_of_mem _ hw)⟩
  have hr := B.returns
  have hk := B.notSynchronized
  have htab : c.exceptionTable.toList = tableOf [(0, 9, 12, 19)] := rl_tab B (atoms_spec (ws := nw_La_best) B.pre _ List.mem_cons_self)
  refine rl_start (R := nr_La_best) (Q := MQ below (rl_Q E (rl_ri r.1) r.2) _ s 1 6 (rl_A E)) (nL := 4) (av := [.ref (E.1 0), .int x1, .ref (E.1 78)]) (σ := σ) hP (Nat.le_of_ble_eq_true rfl) ?_
  unfold wf_best at h
  refine rl_aload_n (pc := 0) Γ nd_La_best_0 2 rfl ?_
  refine rl_iconst (v := 0) (pc := 1) Γ nd_La_best_1 (by decide) ?_
  refine rl_aload_n (pc := 2) Γ nd_La_best_2 0 rfl ?_
  refine rl_iload_n (pc := 3) Γ nd_La_best_3 1 rfl ?_
  obtain ⟨z, zh, h⟩ := rl_bd h
  by_cases z0 : z.1 = 0
  · have h := rl_ift z0 h
    refine rl_callVi (As := [.int x1]) (pc := 4) Γ nd_La_best_4 hO (rwn_Ro_best l E x1 σ z zh z0) 1 nm_La_25 nm_im_Ro_best nm_se_Ro_best nm_ini_Ro nh_Ro_best (rl_o0 E) rfl ⟨rfl, rfl⟩ (by decide +kernel) (Nat.le_of_ble_eq_true rfl) (Nat.le_of_ble_eq_true rfl) ⟨Nat.zero_le _, Nat.zero_le _⟩ (Nat.le_of_ble_eq_true rfl) rfl rfl ?_
    refine rl_i2l (pc := 7) Γ nd_La_best_7 ?_
    refine rl_lst (x := z.2.1) (pc := 8) Γ nd_La_best_8 hO rfl ?_
    refine rl_goto (tgt := 15) (pc := 9) Γ nd_La_best_9 (by decide) ?_
    refine rl_iconst (v := 0) (pc := 15) Γ nd_La_best_15 (by decide) ?_
    exact rl_wret (pc := 16) Γ nd_La_best_16 hr hk ⟨Nat.zero_le _, Nat.zero_le _⟩ h
  · have h := rl_iff z0 h
    by_cases z1 : z.1 = 1
    · have h := rl_ift z1 h
      have hM := rwt_Ro_best l hlq E x1 σ z zh z0
      rw [z1] at hM
      refine rl_callVC (X := "java/lang/IllegalArgumentException") (hpc := 12) (As := [.int x1]) (pc := 4) Γ nd_La_best_4 hO hM 1 nm_La_25 nm_im_Ro_best nm_se_Ro_best nm_ini_Ro nh_Ro_best (rl_o0 E) rfl ⟨rfl, rfl⟩ (by decide +kernel) (Nat.le_of_ble_eq_true rfl) (Nat.le_of_ble_eq_true rfl) ⟨Nat.le_of_ble_eq_true rfl, Nat.le_of_ble_eq_true rfl⟩ (Nat.le_of_ble_eq_true rfl) rfl rfl (fun T2 locs x cell ls X2 hcell hvm hcls => rl_find1 (own := nR_La) (X := "java/lang/IllegalArgumentException") X2 rfl (t := tableOf []) htab rfl (by decide) Γ.2.2.2.1 (Γ.2.2.2.2 _ nx_lA) hO.2.2.2.2.2.1.1 hcell hvm hcls) (fun x => ?_)
      refine rl_astore_n (L' := [(3, .ref x), (0, .ref (E.1 0)), (1, .int x1), (2, .ref (E.1 78))]) (pc := 12) Γ nd_La_best_12 (by decide) rfl ?_
      refine rl_iconst (v := 1) (pc := 13) Γ nd_La_best_13 (by decide) ?_
      exact rl_wret (pc := 14) Γ nd_La_best_14 hr hk ⟨Nat.le_of_ble_eq_true rfl, Nat.le_of_ble_eq_true rfl⟩ h
    · have h := rl_iff z1 h
      exact (rl_ns h).elim
def wf_place (x1 : Int32) (x2 : Int32) (σ : rl_M) : Option (Int32 × rl_M) := (rf_Ro_place x1 x2 σ).bind (fun z => if z.1 = 0 then some (0, rl_su z.2.2 78 0 z.2.1) else (if z.1 = 1 then some (1, z.2.2) else none))
set_option maxHeartbeats 4000000 in
set_option maxRecDepth 100000 in
theorem ww_place (l : Launch) (hlq : rl_Lq l) (E : rl_E) (x1 : Int32) (x2 : Int32) (σ : rl_M) (r : Int32 × rl_M) (h : wf_place x1 x2 σ = some r) : Met l ny_La_place nw_La_place nr_La_place (rl_P E [.ref (E.1 0), .int x1, .int x2, .ref (E.1 78)] σ) (rl_Q E (rl_ri r.1) r.2) 1 6 (rl_A E) := by
  refine va_MetW (cc := nc_La_place) (maxL := 5) (ret := some .int) (hh := [(0, 10, 13, 19)]) (by decide) rfl ?_
  intro p e s m args below meth c s₁ B hml hv
  obtain ⟨rfl, hP, hO⟩ := hv
  have Γ : CallFix p m c nc_La_place 5 s ([.ref (E.1 0), .int x1, .int x2, .ref (E.1 78)] : List Value).toArray rl_TT nR_La := ⟨B.exec, B.bytes, hml, findClass_of_methodNamed B.named, fun w hw => atoms_spec (ws := nw_La_place) B.pre w (List.mem_cons_of_mem _ hw)⟩
  have hr := B.returns
  have hk := B.notSynchronized
  have htab : c.exceptionTable.toList = tableOf [(0, 10, 13, 19)] := rl_tab B (atoms_spec (ws := nw_La_place) B.pre _ List.mem_cons_self)
  refine rl_start (R := nr_La_place) (Q := MQ below (rl_Q E (rl_ri r.1) r.2) _ s 1 6 (rl_A E)) (nL := 5) (av := [.ref (E.1 0), .int x1, .int x2, .ref (E.1 78)]) (σ := σ) hP (Nat.le_of_ble_eq_true rfl) ?_
  unfold wf_place at h
  refine rl_aload_n (pc := 0) Γ nd_La_place_0 3 rfl ?_
  refine rl_iconst (v := 0) (pc := 1) Γ nd_La_place_1 (by decide) ?_
  refine rl_aload_n (pc := 2) Γ nd_La_place_2 0 rfl ?_
  refine rl_iload_n (pc := 3) Γ nd_La_place_3 1 rfl ?_
  refine rl_iload_n (pc := 4) Γ nd_La_place_4 2 rfl ?_
  obtain ⟨z, zh, h⟩ := rl_bd h
  by_cases z0 : z.1 = 0
  · have h := rl_ift z0 h
    refine rl_callVi (As := [.int x1, .int x2]) (pc := 5) Γ nd_La_place_5 hO (rwn_Ro_place l E x1 x2 σ z zh z0) 2 nm_La_29 nm_im_Ro_place nm_se_Ro_place nm_ini_Ro nh_Ro_place (rl_o0 E) rfl ⟨rfl, rfl⟩ (by decide +kernel) (Nat.le_of_ble_eq_true rfl) (Nat.le_of_ble_eq_true rfl) ⟨Nat.zero_le _, Nat.zero_le _⟩ (Nat.le_of_ble_eq_true rfl) rfl rfl ?_
    refine rl_i2l (pc := 8) Γ nd_La_place_8 ?_
    refine rl_lst (x := z.2.1) (pc := 9) Γ nd_La_place_9 hO rfl ?_
    refine rl_goto (tgt := 17) (pc := 10) Γ nd_La_place_10 (by decide) ?_
    refine rl_iconst (v := 0) (pc := 17) Γ nd_La_place_17 (by decide) ?_
    exact rl_wret (pc := 18) Γ nd_La_place_18 hr hk ⟨Nat.zero_le _, Nat.zero_le _⟩ h
  · have h := rl_iff z0 h
    by_cases z1 : z.1 = 1
    · have h := rl_ift z1 h
      have hM := rwt_Ro_place l hlq E x1 x2 σ z zh z0
      rw [z1] at hM
      refine rl_callVC (X := "java/lang/IllegalArgumentException") (hpc := 13) (As := [.int x1, .int x2]) (pc := 5) Γ nd_La_place_5 hO hM 2 nm_La_29 nm_im_Ro_place nm_se_Ro_place nm_ini_Ro nh_Ro_place (rl_o0 E) rfl ⟨rfl, rfl⟩ (by decide +kernel) (Nat.le_of_ble_eq_true rfl) (Nat.le_of_ble_eq_true rfl) ⟨Nat.le_of_ble_eq_true rfl, Nat.le_of_ble_eq_true rfl⟩ (Nat.le_of_ble_eq_true rfl) rfl rfl (fun T2 locs x cell ls X2 hcell hvm hcls => rl_find1 (own := nR_La) (X := "java/lang/IllegalArgumentException") X2 rfl (t := tableOf []) htab rfl (by decide) Γ.2.2.2.1 (Γ.2.2.2.2 _ nx_lA) hO.2.2.2.2.2.1.1 hcell hvm hcls) (fun x => ?_)
      refine rl_astore (L' := [(4, .ref x), (0, .ref (E.1 0)), (1, .int x1), (2, .int x2), (3, .ref (E.1 78))]) (pc := 13) Γ nd_La_place_13 (by decide) rfl ?_
      refine rl_iconst (v := 1) (pc := 15) Γ nd_La_place_15 (by decide) ?_
      exact rl_wret (pc := 16) Γ nd_La_place_16 hr hk ⟨Nat.le_of_ble_eq_true rfl, Nat.le_of_ble_eq_true rfl⟩ h
    · have h := rl_iff z1 h
      exact (rl_ns h).elim
def wf_outline (x1 : Int32) (x2 : Int32) (σ : rl_M) : Option (Int32 × rl_M) := (rf_Ro_outline x1 x2 σ).bind (fun z => if z.1 = 0 then some (0, rl_su z.2.2 78 0 z.2.1) else (if z.1 = 1 then some (1, z.2.2) else none))
set_option maxHeartbeats 4000000 in
set_option maxRecDepth 100000 in
theorem ww_outline (l : Launch) (hlq : rl_Lq l) (E : rl_E) (x1 : Int32) (x2 : Int32) (σ : rl_M) (r : Int32 × rl_M) (h : wf_outline x1 x2 σ = some r) : Met l ny_La_outline nw_La_outline nr_La_outline (rl_P E [.ref (E.1 0), .int x1, .int x2, .ref (E.1 78)] σ) (rl_Q E (rl_ri r.1) r.2) 1 6 (rl_A E) := by
  refine va_MetW (cc := nc_La_outline) (maxL := 5) (ret := some .int) (hh := [(0, 10, 13, 19)]) (by decide) rfl ?_
  intro p e s m args below meth c s₁ B hml hv
  obtain ⟨rfl, hP, hO⟩ := hv
  have Γ : CallFix p m c nc_La_outline 5 s ([.ref (E.1 0), .int x1, .int x2, .ref (E.1 78)] : List Value).toArray rl_TT nR_La := ⟨B.exec, B.bytes, hml, findClass_of_methodNamed B.named, fun w hw => atoms_spec (ws := nw_La_outline) B.pre w (List.mem_cons_of_mem _ hw)⟩
  have hr := B.returns
  have hk := B.notSynchronized
  have htab : c.exceptionTable.toList = tableOf [(0, 10, 13, 19)] := rl_tab B (atoms_spec (ws := nw_La_outline) B.pre _ List.mem_cons_self)
  refine rl_start (R := nr_La_outline) (Q := MQ below (rl_Q E (rl_ri r.1) r.2) _ s 1 6 (rl_A E)) (nL := 5) (av := [.ref (E.1 0), .int x1, .int x2, .ref (E.1 78)]) (σ := σ) hP (Nat.le_of_ble_eq_true rfl) ?_
  unfold wf_outline at h
  refine rl_aload_n (pc := 0) Γ nd_La_outline_0 3 rfl ?_
  refine rl_iconst (v := 0) (pc := 1) Γ nd_La_outline_1 (by decide) ?_
  refine rl_aload_n (pc := 2) Γ nd_La_outline_2 0 rfl ?_
  refine rl_iload_n (pc := 3) Γ nd_La_outline_3 1 rfl ?_
  refine rl_iload_n (pc := 4) Γ nd_La_outline_4 2 rfl ?_
  obtain ⟨z, zh, h⟩ := rl_bd h
  by_cases z0 : z.1 = 0
  · have h := rl_ift z0 h
    refine rl_callVi (As := [.int x1, .int x2]) (pc := 5) Γ nd_La_outline_5 hO (rwn_Ro_outline l E x1 x2 σ z zh z0) 2 nm_La_33 nm_im_Ro_outline nm_se_Ro_outline nm_ini_Ro nh_Ro_outline (rl_o0 E) rfl ⟨rfl, rfl⟩ (by decide +kernel) (Nat.le_of_ble_eq_true rfl) (Nat.le_of_ble_eq_true rfl) ⟨Nat.zero_le _, Nat.zero_le _⟩ (Nat.le_of_ble_eq_true rfl) rfl rfl ?_
    refine rl_i2l (pc := 8) Γ nd_La_outline_8 ?_
    refine rl_lst (x := z.2.1) (pc := 9) Γ nd_La_outline_9 hO rfl ?_
    refine rl_goto (tgt := 17) (pc := 10) Γ nd_La_outline_10 (by decide) ?_
    refine rl_iconst (v := 0) (pc := 17) Γ nd_La_outline_17 (by decide) ?_
    exact rl_wret (pc := 18) Γ nd_La_outline_18 hr hk ⟨Nat.zero_le _, Nat.zero_le _⟩ h
  · have h := rl_iff z0 h
    by_cases z1 : z.1 = 1
    · have h := rl_ift z1 h
      have hM := rwt_Ro_outline l hlq E x1 x2 σ z zh z0
      rw [z1] at hM
      refine rl_callVC (X := "java/lang/IllegalArgumentException") (hpc := 13) (As := [.int x1, .int x2]) (pc := 5) Γ nd_La_outline_5 hO hM 2 nm_La_33 nm_im_Ro_outline nm_se_Ro_outline nm_ini_Ro nh_Ro_outline (rl_o0 E) rfl ⟨rfl, rfl⟩ (by decide +kernel) (Nat.le_of_ble_eq_true rfl) (Nat.le_of_ble_eq_true rfl) ⟨Nat.le_of_ble_eq_true rfl, Nat.le_of_ble_eq_true rfl⟩ (Nat.le_of_ble_eq_true rfl) rfl rfl (fun T2 locs x cell ls X2 hcell hvm hcls => rl_find1 (own := nR_La) (X := "java/lang/IllegalArgumentException") X2 rfl (t := tableOf []) htab rfl (by decide) Γ.2.2.2.1 (Γ.2.2.2.2 _ nx_lA) hO.2.2.2.2.2.1.1 hcell hvm hcls) (fun x => ?_)
      refine rl_astore (L' := [(4, .ref x), (0, .ref (E.1 0)), (1, .int x1), (2, .int x2), (3, .ref (E.1 78))]) (pc := 13) Γ nd_La_outline_13 (by decide) rfl ?_
      refine rl_iconst (v := 1) (pc := 15) Γ nd_La_outline_15 (by decide) ?_
      exact rl_wret (pc := 16) Γ nd_La_outline_16 hr hk ⟨Nat.le_of_ble_eq_true rfl, Nat.le_of_ble_eq_true rfl⟩ h
    · have h := rl_iff z1 h
      exact (rl_ns h).elim
def wf_wall (x1 : Int32) (x2 : Int32) (σ : rl_M) : Option (Int32 × rl_M) := (rf_Ro_wall x1 x2 σ).bind (fun z => if z.1 = 0 then some (0, rl_su z.2.2 78 0 z.2.1) else (if z.1 = 1 then some (1, z.2.2) else none))
set_option maxHeartbeats 4000000 in
set_option maxRecDepth 100000 in
theorem ww_wall (l : Launch) (hlq : rl_Lq l) (E : rl_E) (x1 : Int32) (x2 : Int32) (σ : rl_M) (r : Int32 × rl_M) (h : wf_wall x1 x2 σ = some r) : Met l ny_La_wall nw_La_wall nr_La_wall (rl_P E [.ref (E.1 0), .int x1, .int x2, .ref (E.1 78)] σ) (rl_Q E (rl_ri r.1) r.2) 1 6 (rl_A E) := by
  refine va_MetW (cc := nc_La_wall) (maxL := 5) (ret := some .int) (hh := [(0, 10, 13, 19)]) (by decide) rfl ?_
  intro p e s m args below meth c s₁ B hml hv
  obtain ⟨rfl, hP, hO⟩ := hv
  have Γ : CallFix p m c nc_La_wall 5 s ([.ref (E.1 0), .int x1, .int x2, .ref (E.1 78)] : List Value).toArray rl_TT nR_La := ⟨B.exec, B.bytes, hml, findClass_of_methodNamed B.named, fun w hw => atoms_spec (ws := nw_La_wall) B.pre w (List.mem_cons_of_mem _ hw)⟩
  have hr := B.returns
  have hk := B.notSynchronized
  have htab : c.exceptionTable.toList = tableOf [(0, 10, 13, 19)] := rl_tab B (atoms_spec (ws := nw_La_wall) B.pre _ List.mem_cons_self)
  refine rl_start (R := nr_La_wall) (Q := MQ below (rl_Q E (rl_ri r.1) r.2) _ s 1 6 (rl_A E)) (nL := 5) (av := [.ref (E.1 0), .int x1, .int x2, .ref (E.1 78)]) (σ := σ) hP (Nat.le_of_ble_eq_true rfl) ?_
  unfold wf_wall at h
  refine rl_aload_n (pc := 0) Γ nd_La_wall_0 3 rfl ?_
  refine rl_iconst (v := 0) (pc := 1) Γ nd_La_wall_1 (by decide) ?_
  refine rl_aload_n (pc := 2) Γ nd_La_wall_2 0 rfl ?_
  refine rl_iload_n (pc := 3) Γ nd_La_wall_3 1 rfl ?_
  refine rl_iload_n (pc := 4) Γ nd_La_wall_4 2 rfl ?_
  obtain ⟨z, zh, h⟩ := rl_bd h
  by_cases z0 : z.1 = 0
  · have h := rl_ift z0 h
    refine rl_callVi (As := [.int x1, .int x2]) (pc := 5) Γ nd_La_wall_5 hO (rwn_Ro_wall l E x1 x2 σ z zh z0) 2 nm_La_36 nm_im_Ro_wall nm_se_Ro_wall nm_ini_Ro nh_Ro_wall (rl_o0 E) rfl ⟨rfl, rfl⟩ (by decide +kernel) (Nat.le_of_ble_eq_true rfl) (Nat.le_of_ble_eq_true rfl) ⟨Nat.zero_le _, Nat.zero_le _⟩ (Nat.le_of_ble_eq_true rfl) rfl rfl ?_
    refine rl_i2l (pc := 8) Γ nd_La_wall_8 ?_
    refine rl_lst (x := z.2.1) (pc := 9) Γ nd_La_wall_9 hO rfl ?_
    refine rl_goto (tgt := 17) (pc := 10) Γ nd_La_wall_10 (by decide) ?_
    refine rl_iconst (v := 0) (pc := 17) Γ nd_La_wall_17 (by decide) ?_
    exact rl_wret (pc := 18) Γ nd_La_wall_18 hr hk ⟨Nat.zero_le _, Nat.zero_le _⟩ h
  · have h := rl_iff z0 h
    by_cases z1 : z.1 = 1
    · have h := rl_ift z1 h
      have hM := rwt_Ro_wall l hlq E x1 x2 σ z zh z0
      rw [z1] at hM
      refine rl_callVC (X := "java/lang/IllegalArgumentException") (hpc := 13) (As := [.int x1, .int x2]) (pc := 5) Γ nd_La_wall_5 hO hM 2 nm_La_36 nm_im_Ro_wall nm_se_Ro_wall nm_ini_Ro nh_Ro_wall (rl_o0 E) rfl ⟨rfl, rfl⟩ (by decide +kernel) (Nat.le_of_ble_eq_true rfl) (Nat.le_of_ble_eq_true rfl) ⟨Nat.le_of_ble_eq_true rfl, Nat.le_of_ble_eq_true rfl⟩ (Nat.le_of_ble_eq_true rfl) rfl rfl (fun T2 locs x cell ls X2 hcell hvm hcls => rl_find1 (own := nR_La) (X := "java/lang/IllegalArgumentException") X2 rfl (t := tableOf []) htab rfl (by decide) Γ.2.2.2.1 (Γ.2.2.2.2 _ nx_lA) hO.2.2.2.2.2.1.1 hcell hvm hcls) (fun x => ?_)
      refine rl_astore (L' := [(4, .ref x), (0, .ref (E.1 0)), (1, .int x1), (2, .int x2), (3, .ref (E.1 78))]) (pc := 13) Γ nd_La_wall_13 (by decide) rfl ?_
      refine rl_iconst (v := 1) (pc := 15) Γ nd_La_wall_15 (by decide) ?_
      exact rl_wret (pc := 16) Γ nd_La_wall_16 hr hk ⟨Nat.le_of_ble_eq_true rfl, Nat.le_of_ble_eq_true rfl⟩ h
    · have h := rl_iff z1 h
      exact (rl_ns h).elim
def wf_wish (x1 : Int32) (x2 : Int32) (x3 : Int32) (σ : rl_M) : Option (Int32 × rl_M) := (rf_Ro_wish x1 x2 x3 σ).bind (fun z => if z.1 = 0 then some (0, rl_su z.2.2 78 0 z.2.1) else (if z.1 = 1 then some (1, z.2.2) else (if z.1 = 2 then some (2, z.2.2) else none)))
set_option maxHeartbeats 4000000 in
set_option maxRecDepth 100000 in
theorem ww_wish (l : Launch) (hlq : rl_Lq l) (E : rl_E) (x1 : Int32) (x2 : Int32) (x3 : Int32) (σ : rl_M) (r : Int32 × rl_M) (h : wf_wish x1 x2 x3 σ = some r) : Met l ny_La_wish nw_La_wish nr_La_wish (rl_P E [.ref (E.1 0), .int x1, .int x2, .int x3, .ref (E.1 78)] σ) (rl_Q E (rl_ri r.1) r.2) 1 6 (rl_A E) := by
  refine va_MetW (cc := nc_La_wish) (maxL := 6) (ret := some .int) (hh := [(0, 12, 15, 19), (0, 12, 19, 13)]) (by decide) rfl ?_
  intro p e s m args below meth c s₁ B hml hv
  obtain ⟨rfl, hP, hO⟩ := hv
  have Γ : CallFix p m c nc_La_wish 6 s ([.ref (E.1 0), .int x1, .int x2, .int x3, .ref (E.1 78)] : List Value).toArray rl_TT nR_La := ⟨B.exec, B.bytes, hml, findClass_of_methodNamed B.named, fun w hw => atoms_spec (ws := nw_La_wish) B.pre w (List.mem_cons_of_mem _ hw)⟩
  have hr := B.returns
  have hk := B.notSynchronized
  have htab : c.exceptionTable.toList = tableOf [(0, 12, 15, 19), (0, 12, 19, 13)] := rl_tab B (atoms_spec (ws := nw_La_wish) B.pre _ List.mem_cons_self)
  refine rl_start (R := nr_La_wish) (Q := MQ below (rl_Q E (rl_ri r.1) r.2) _ s 1 6 (rl_A E)) (nL := 6) (av := [.ref (E.1 0), .int x1, .int x2, .int x3, .ref (E.1 78)]) (σ := σ) hP (Nat.le_of_ble_eq_true rfl) ?_
  unfold wf_wish at h
  refine rl_aload (pc := 0) Γ nd_La_wish_0 4 rfl ?_
  refine rl_iconst (v := 0) (pc := 2) Γ nd_La_wish_2 (by decide) ?_
  refine rl_aload_n (pc := 3) Γ nd_La_wish_3 0 rfl ?_
  refine rl_iload_n (pc := 4) Γ nd_La_wish_4 1 rfl ?_
  refine rl_iload_n (pc := 5) Γ nd_La_wish_5 2 rfl ?_
  refine rl_iload_n (pc := 6) Γ nd_La_wish_6 3 rfl ?_
  obtain ⟨z, zh, h⟩ := rl_bd h
  by_cases z0 : z.1 = 0
  · have h := rl_ift z0 h
    refine rl_callVi (As := [.int x1, .int x2, .int x3]) (pc := 7) Γ nd_La_wish_7 hO (rwn_Ro_wish l E x1 x2 x3 σ z zh z0) 3 nm_La_39 nm_im_Ro_wish nm_se_Ro_wish nm_ini_Ro nh_Ro_wish (rl_o0 E) rfl ⟨rfl, rfl⟩ (by decide +kernel) (Nat.le_of_ble_eq_true rfl) (Nat.le_of_ble_eq_true rfl) ⟨Nat.zero_le _, Nat.zero_le _⟩ (Nat.le_of_ble_eq_true rfl) rfl rfl ?_
    refine rl_i2l (pc := 10) Γ nd_La_wish_10 ?_
    refine rl_lst (x := z.2.1) (pc := 11) Γ nd_La_wish_11 hO rfl ?_
    refine rl_goto (tgt := 23) (pc := 12) Γ nd_La_wish_12 (by decide) ?_
    refine rl_iconst (v := 0) (pc := 23) Γ nd_La_wish_23 (by decide) ?_
    exact rl_wret (pc := 24) Γ nd_La_wish_24 hr hk ⟨Nat.zero_le _, Nat.zero_le _⟩ h
  · have h := rl_iff z0 h
    by_cases z1 : z.1 = 1
    · have h := rl_ift z1 h
      have hM := rwt_Ro_wish l hlq E x1 x2 x3 σ z zh z0
      rw [z1] at hM
      refine rl_callVC (X := "java/lang/IllegalArgumentException") (hpc := 15) (As := [.int x1, .int x2, .int x3]) (pc := 7) Γ nd_La_wish_7 hO hM 3 nm_La_39 nm_im_Ro_wish nm_se_Ro_wish nm_ini_Ro nh_Ro_wish (rl_o0 E) rfl ⟨rfl, rfl⟩ (by decide +kernel) (Nat.le_of_ble_eq_true rfl) (Nat.le_of_ble_eq_true rfl) ⟨Nat.le_of_ble_eq_true rfl, Nat.le_of_ble_eq_true rfl⟩ (Nat.le_of_ble_eq_true rfl) rfl rfl (fun T2 locs x cell ls X2 hcell hvm hcls => rl_find1 (own := nR_La) (X := "java/lang/IllegalArgumentException") X2 rfl (t := tableOf [(0, 12, 19, 13)]) htab rfl (by decide) Γ.2.2.2.1 (Γ.2.2.2.2 _ nx_lA) hO.2.2.2.2.2.1.1 hcell hvm hcls) (fun x => ?_)
      refine rl_astore (L' := [(5, .ref x), (0, .ref (E.1 0)), (1, .int x1), (2, .int x2), (3, .int x3), (4, .ref (E.1 78))]) (pc := 15) Γ nd_La_wish_15 (by decide) rfl ?_
      refine rl_iconst (v := 1) (pc := 17) Γ nd_La_wish_17 (by decide) ?_
      exact rl_wret (pc := 18) Γ nd_La_wish_18 hr hk ⟨Nat.le_of_ble_eq_true rfl, Nat.le_of_ble_eq_true rfl⟩ h
    · have h := rl_iff z1 h
      by_cases z2 : z.1 = 2
      · have h := rl_ift z2 h
        have hM := rwt_Ro_wish l hlq E x1 x2 x3 σ z zh z0
        rw [z2] at hM
        refine rl_callVC (X := "java/lang/IllegalStateException") (hpc := 19) (As := [.int x1, .int x2, .int x3]) (pc := 7) Γ nd_La_wish_7 hO hM 3 nm_La_39 nm_im_Ro_wish nm_se_Ro_wish nm_ini_Ro nh_Ro_wish (rl_o0 E) rfl ⟨rfl, rfl⟩ (by decide +kernel) (Nat.le_of_ble_eq_true rfl) (Nat.le_of_ble_eq_true rfl) ⟨Nat.le_of_ble_eq_true rfl, Nat.le_of_ble_eq_true rfl⟩ (Nat.le_of_ble_eq_true rfl) rfl rfl (fun T2 locs x cell ls X2 hcell hvm hcls => rl_find2 (own := nR_La) (X := "java/lang/IllegalStateException") (Y := "java/lang/IllegalArgumentException") X2 rfl (t := []) htab rfl (by decide) rfl (by decide) Γ.2.2.2.1 (Γ.2.2.2.2 _ nx_lA) (Γ.2.2.2.2 _ nx_lS) hO.2.2.2.2.2.1.2.2 hO.2.2.2.2.2.1.2.1 hcell hvm hcls) (fun x => ?_)
        refine rl_astore (L' := [(5, .ref x), (0, .ref (E.1 0)), (1, .int x1), (2, .int x2), (3, .int x3), (4, .ref (E.1 78))]) (pc := 19) Γ nd_La_wish_19 (by decide) rfl ?_
        refine rl_iconst (v := 2) (pc := 21) Γ nd_La_wish_21 (by decide) ?_
        exact rl_wret (pc := 22) Γ nd_La_wish_22 hr hk ⟨Nat.le_of_ble_eq_true rfl, Nat.le_of_ble_eq_true rfl⟩ h
      · have h := rl_iff z2 h
        exact (rl_ns h).elim
def wf_met (x1 : Int32) (σ : rl_M) : Option (Int32 × rl_M) := (rf_Ro_met0 x1 σ).bind (fun z => if z.1 = 0 then (if z.2.1 = 0 then some (0, rl_su z.2.2 78 0 0) else some (0, rl_su z.2.2 78 0 1)) else (if z.1 = 1 then some (1, z.2.2) else none))
set_option maxHeartbeats 4000000 in
set_option maxRecDepth 100000 in
theorem ww_met (l : Launch) (hlq : rl_Lq l) (E : rl_E) (x1 : Int32) (σ : rl_M) (r : Int32 × rl_M) (h : wf_met x1 σ = some r) : Met l ny_La_met nw_La_met nr_La_met (rl_P E [.ref (E.1 0), .int x1, .ref (E.1 78)] σ) (rl_Q E (rl_ri r.1) r.2) 1 6 (rl_A E) := by
  refine va_MetW (cc := nc_La_met) (maxL := 4) (ret := some .int) (hh := [(0, 16, 19, 19)]) (by decide) rfl ?_
  intro p e s m args below meth c s₁ B hml hv
  obtain ⟨rfl, hP, hO⟩ := hv
  have Γ : CallFix p m c nc_La_met 4 s ([.ref (E.1 0), .int x1, .ref (E.1 78)] : List Value).toArray rl_TT nR_La := ⟨B.exec, B.bytes, hml, findClass_of_methodNamed B.named, fun w hw => atoms_spec (ws := nw_La_met) B.pre w (List.mem_cons_of_mem _ hw)⟩
  have hr := B.returns
  have hk := B.notSynchronized
  have htab : c.exceptionTable.toList = tableOf [(0, 16, 19, 19)] := rl_tab B (atoms_spec (ws := nw_La_met) B.pre _ List.mem_cons_self)
  refine rl_start (R := nr_La_met) (Q := MQ below (rl_Q E (rl_ri r.1) r.2) _ s 1 6 (rl_A E)) (nL := 4) (av := [.ref (E.1 0), .int x1, .ref (E.1 78)]) (σ := σ) hP (Nat.le_of_ble_eq_true rfl) ?_
  unfold wf_met at h
  refine rl_aload_n (pc := 0) Γ nd_La_met_0 2 rfl ?_
  refine rl_iconst (v := 0) (pc := 1) Γ nd_La_met_1 (by decide) ?_
  refine rl_aload_n (pc := 2) Γ nd_La_met_2 0 rfl ?_
  refine rl_iload_n (pc := 3) Γ nd_La_met_3 1 rfl ?_
  obtain ⟨z, zh, h⟩ := rl_bd h
  by_cases z0 : z.1 = 0
  · have h := rl_ift z0 h
    refine rl_callVi (As := [.int x1]) (pc := 4) Γ nd_La_met_4 hO (rwn_Ro_met0 l E x1 σ z zh z0) 1 nm_La_42 nm_im_Ro_met0 nm_se_Ro_met0 nm_ini_Ro nh_Ro_met0 (rl_o0 E) rfl ⟨rfl, rfl⟩ (by decide +kernel) (Nat.le_of_ble_eq_true rfl) (Nat.le_of_ble_eq_true rfl) ⟨Nat.zero_le _, Nat.zero_le _⟩ (Nat.le_of_ble_eq_true rfl) rfl rfl ?_
    refine rl_if_eq (tgt := 14) (pc := 7) Γ nd_La_met_7 (by decide) (fun q1 => ?_) (fun q1 => ?_)
    · have h := rl_ift q1 h
      refine rl_lconst (v := 0) (pc := 14) Γ nd_La_met_14 (by decide) ?_
      refine rl_lst (x := 0) (pc := 15) Γ nd_La_met_15 hO (by decide) ?_
      refine rl_goto (tgt := 22) (pc := 16) Γ nd_La_met_16 (by decide) ?_
      refine rl_iconst (v := 0) (pc := 22) Γ nd_La_met_22 (by decide) ?_
      exact rl_wret (pc := 23) Γ nd_La_met_23 hr hk ⟨Nat.zero_le _, Nat.zero_le _⟩ h
    · have h := rl_iff q1 h
      refine rl_lconst (v := 1) (pc := 10) Γ nd_La_met_10 (by decide) ?_
      refine rl_goto (tgt := 15) (pc := 11) Γ nd_La_met_11 (by decide) ?_
      refine rl_lst (x := 1) (pc := 15) Γ nd_La_met_15 hO (by decide) ?_
      refine rl_goto (tgt := 22) (pc := 16) Γ nd_La_met_16 (by decide) ?_
      refine rl_iconst (v := 0) (pc := 22) Γ nd_La_met_22 (by decide) ?_
      exact rl_wret (pc := 23) Γ nd_La_met_23 hr hk ⟨Nat.zero_le _, Nat.zero_le _⟩ h
  · have h := rl_iff z0 h
    by_cases z1 : z.1 = 1
    · have h := rl_ift z1 h
      have hM := rwt_Ro_met0 l hlq E x1 σ z zh z0
      rw [z1] at hM
      refine rl_callVC (X := "java/lang/IllegalArgumentException") (hpc := 19) (As := [.int x1]) (pc := 4) Γ nd_La_met_4 hO hM 1 nm_La_42 nm_im_Ro_met0 nm_se_Ro_met0 nm_ini_Ro nh_Ro_met0 (rl_o0 E) rfl ⟨rfl, rfl⟩ (by decide +kernel) (Nat.le_of_ble_eq_true rfl) (Nat.le_of_ble_eq_true rfl) ⟨Nat.le_of_ble_eq_true rfl, Nat.le_of_ble_eq_true rfl⟩ (Nat.le_of_ble_eq_true rfl) rfl rfl (fun T2 locs x cell ls X2 hcell hvm hcls => rl_find1 (own := nR_La) (X := "java/lang/IllegalArgumentException") X2 rfl (t := tableOf []) htab rfl (by decide) Γ.2.2.2.1 (Γ.2.2.2.2 _ nx_lA) hO.2.2.2.2.2.1.1 hcell hvm hcls) (fun x => ?_)
      refine rl_astore_n (L' := [(3, .ref x), (0, .ref (E.1 0)), (1, .int x1), (2, .ref (E.1 78))]) (pc := 19) Γ nd_La_met_19 (by decide) rfl ?_
      refine rl_iconst (v := 1) (pc := 20) Γ nd_La_met_20 (by decide) ?_
      exact rl_wret (pc := 21) Γ nd_La_met_21 hr hk ⟨Nat.le_of_ble_eq_true rfl, Nat.le_of_ble_eq_true rfl⟩ h
    · have h := rl_iff z1 h
      exact (rl_ns h).elim
def wf_swap (x1 : Int32) (x2 : Int32) (σ : rl_M) : Option (Int32 × rl_M) := (rf_Ro_swap x1 x2 σ).bind (fun z => if z.1 = 0 then (if z.2.1 = 0 then some (0, rl_su z.2.2 78 0 0) else some (0, rl_su z.2.2 78 0 1)) else (if z.1 = 1 then some (1, z.2.2) else none))
set_option maxHeartbeats 4000000 in
set_option maxRecDepth 100000 in
theorem ww_swap (l : Launch) (hlq : rl_Lq l) (E : rl_E) (x1 : Int32) (x2 : Int32) (σ : rl_M) (r : Int32 × rl_M) (h : wf_swap x1 x2 σ = some r) : Met l ny_La_swap nw_La_swap nr_La_swap (rl_P E [.ref (E.1 0), .int x1, .int x2, .ref (E.1 78)] σ) (rl_Q E (rl_ri r.1) r.2) 1 6 (rl_A E) := by
  refine va_MetW (cc := nc_La_swap) (maxL := 5) (ret := some .int) (hh := [(0, 17, 20, 19)]) (by decide) rfl ?_
  intro p e s m args below meth c s₁ B hml hv
  obtain ⟨rfl, hP, hO⟩ := hv
  have Γ : CallFix p m c nc_La_swap 5 s ([.ref (E.1 0), .int x1, .int x2, .ref (E.1 78)] : List Value).toArray rl_TT nR_La := ⟨B.exec, B.bytes, hml, findClass_of_methodNamed B.named, fun w hw => atoms_spec (ws := nw_La_swap) B.pre w (List.mem_cons_of_mem _ hw)⟩
  have hr := B.returns
  have hk := B.notSynchronized
  have htab : c.exceptionTable.toList = tableOf [(0, 17, 20, 19)] := rl_tab B (atoms_spec (ws := nw_La_swap) B.pre _ List.mem_cons_self)
  refine rl_start (R := nr_La_swap) (Q := MQ below (rl_Q E (rl_ri r.1) r.2) _ s 1 6 (rl_A E)) (nL := 5) (av := [.ref (E.1 0), .int x1, .int x2, .ref (E.1 78)]) (σ := σ) hP (Nat.le_of_ble_eq_true rfl) ?_
  unfold wf_swap at h
  refine rl_aload_n (pc := 0) Γ nd_La_swap_0 3 rfl ?_
  refine rl_iconst (v := 0) (pc := 1) Γ nd_La_swap_1 (by decide) ?_
  refine rl_aload_n (pc := 2) Γ nd_La_swap_2 0 rfl ?_
  refine rl_iload_n (pc := 3) Γ nd_La_swap_3 1 rfl ?_
  refine rl_iload_n (pc := 4) Γ nd_La_swap_4 2 rfl ?_
  obtain ⟨z, zh, h⟩ := rl_bd h
  by_cases z0 : z.1 = 0
  · have h := rl_ift z0 h
    refine rl_callVi (As := [.int x1, .int x2]) (pc := 5) Γ nd_La_swap_5 hO (rwn_Ro_swap l E x1 x2 σ z zh z0) 2 nm_La_46 nm_im_Ro_swap nm_se_Ro_swap nm_ini_Ro nh_Ro_swap (rl_o0 E) rfl ⟨rfl, rfl⟩ (by decide +kernel) (Nat.le_of_ble_eq_true rfl) (Nat.le_of_ble_eq_true rfl) ⟨Nat.zero_le _, Nat.zero_le _⟩ (Nat.le_of_ble_eq_true rfl) rfl rfl ?_
    refine rl_if_eq (tgt := 15) (pc := 8) Γ nd_La_swap_8 (by decide) (fun q1 => ?_) (fun q1 => ?_)
    · have h := rl_ift q1 h
      refine rl_lconst (v := 0) (pc := 15) Γ nd_La_swap_15 (by decide) ?_
      refine rl_lst (x := 0) (pc := 16) Γ nd_La_swap_16 hO (by decide) ?_
      refine rl_goto (tgt := 24) (pc := 17) Γ nd_La_swap_17 (by decide) ?_
      refine rl_iconst (v := 0) (pc := 24) Γ nd_La_swap_24 (by decide) ?_
      exact rl_wret (pc := 25) Γ nd_La_swap_25 hr hk ⟨Nat.zero_le _, Nat.zero_le _⟩ h
    · have h := rl_iff q1 h
      refine rl_lconst (v := 1) (pc := 11) Γ nd_La_swap_11 (by decide) ?_
      refine rl_goto (tgt := 16) (pc := 12) Γ nd_La_swap_12 (by decide) ?_
      refine rl_lst (x := 1) (pc := 16) Γ nd_La_swap_16 hO (by decide) ?_
      refine rl_goto (tgt := 24) (pc := 17) Γ nd_La_swap_17 (by decide) ?_
      refine rl_iconst (v := 0) (pc := 24) Γ nd_La_swap_24 (by decide) ?_
      exact rl_wret (pc := 25) Γ nd_La_swap_25 hr hk ⟨Nat.zero_le _, Nat.zero_le _⟩ h
  · have h := rl_iff z0 h
    by_cases z1 : z.1 = 1
    · have h := rl_ift z1 h
      have hM := rwt_Ro_swap l hlq E x1 x2 σ z zh z0
      rw [z1] at hM
      refine rl_callVC (X := "java/lang/IllegalArgumentException") (hpc := 20) (As := [.int x1, .int x2]) (pc := 5) Γ nd_La_swap_5 hO hM 2 nm_La_46 nm_im_Ro_swap nm_se_Ro_swap nm_ini_Ro nh_Ro_swap (rl_o0 E) rfl ⟨rfl, rfl⟩ (by decide +kernel) (Nat.le_of_ble_eq_true rfl) (Nat.le_of_ble_eq_true rfl) ⟨Nat.le_of_ble_eq_true rfl, Nat.le_of_ble_eq_true rfl⟩ (Nat.le_of_ble_eq_true rfl) rfl rfl (fun T2 locs x cell ls X2 hcell hvm hcls => rl_find1 (own := nR_La) (X := "java/lang/IllegalArgumentException") X2 rfl (t := tableOf []) htab rfl (by decide) Γ.2.2.2.1 (Γ.2.2.2.2 _ nx_lA) hO.2.2.2.2.2.1.1 hcell hvm hcls) (fun x => ?_)
      refine rl_astore (L' := [(4, .ref x), (0, .ref (E.1 0)), (1, .int x1), (2, .int x2), (3, .ref (E.1 78))]) (pc := 20) Γ nd_La_swap_20 (by decide) rfl ?_
      refine rl_iconst (v := 1) (pc := 22) Γ nd_La_swap_22 (by decide) ?_
      exact rl_wret (pc := 23) Γ nd_La_swap_23 hr hk ⟨Nat.le_of_ble_eq_true rfl, Nat.le_of_ble_eq_true rfl⟩ h
    · have h := rl_iff z1 h
      exact (rl_ns h).elim
def wf_sign (x1 : Int32) (σ : rl_M) : Option (Int32 × rl_M) := (rf_Ro_sign x1 σ).bind (fun z => if z.1 = 0 then some (0, rl_su z.2.2 78 0 z.2.1) else (if z.1 = 1 then some (1, z.2.2) else none))
set_option maxHeartbeats 4000000 in
set_option maxRecDepth 100000 in
theorem ww_sign (l : Launch) (hlq : rl_Lq l) (E : rl_E) (x1 : Int32) (σ : rl_M) (r : Int32 × rl_M) (h : wf_sign x1 σ = some r) : Met l ny_La_sign nw_La_sign nr_La_sign (rl_P E [.ref (E.1 0), .int x1, .ref (E.1 78)] σ) (rl_Q E (rl_ri r.1) r.2) 1 6 (rl_A E) := by
  refine va_MetW (cc := nc_La_sign) (maxL := 4) (ret := some .int) (hh := [(0, 9, 12, 19)]) (by decide) rfl ?_
  intro p e s m args below meth c s₁ B hml hv
  obtain ⟨rfl, hP, hO⟩ := hv
  have Γ : CallFix p m c nc_La_sign 4 s ([.ref (E.1 0), .int x1, .ref (E.1 78)] : List Value).toArray rl_TT nR_La := ⟨B.exec, B.bytes, hml, findClass_of_methodNamed B.named, fun w hw => atoms_spec (ws := nw_La_sign) B.pre w (List.mem_cons_of_mem _ hw)⟩
  have hr := B.returns
  have hk := B.notSynchronized
  have htab : c.exceptionTable.toList = tableOf [(0, 9, 12, 19)] := rl_tab B (atoms_spec (ws := nw_La_sign) B.pre _ List.mem_cons_self)
  refine rl_start (R := nr_La_sign) (Q := MQ below (rl_Q E (rl_ri r.1) r.2) _ s 1 6 (rl_A E)) (nL := 4) (av := [.ref (E.1 0), .int x1, .ref (E.1 78)]) (σ := σ) hP (Nat.le_of_ble_eq_true rfl) ?_
  unfold wf_sign at h
  refine rl_aload_n (pc := 0) Γ nd_La_sign_0 2 rfl ?_
  refine rl_iconst (v := 0) (pc := 1) Γ nd_La_sign_1 (by decide) ?_
  refine rl_aload_n (pc := 2) Γ nd_La_sign_2 0 rfl ?_
  refine rl_iload_n (pc := 3) Γ nd_La_sign_3 1 rfl ?_
  obtain ⟨z, zh, h⟩ := rl_bd h
  by_cases z0 : z.1 = 0
  · have h := rl_ift z0 h
    refine rl_callVi (As := [.int x1]) (pc := 4) Γ nd_La_sign_4 hO (rwn_Ro_sign l E x1 σ z zh z0) 1 nm_La_50 nm_im_Ro_sign nm_se_Ro_sign nm_ini_Ro nh_Ro_sign (rl_o0 E) rfl ⟨rfl, rfl⟩ (by decide +kernel) (Nat.le_of_ble_eq_true rfl) (Nat.le_of_ble_eq_true rfl) ⟨Nat.zero_le _, Nat.zero_le _⟩ (Nat.le_of_ble_eq_true rfl) rfl rfl ?_
    refine rl_i2l (pc := 7) Γ nd_La_sign_7 ?_
    refine rl_lst (x := z.2.1) (pc := 8) Γ nd_La_sign_8 hO rfl ?_
    refine rl_goto (tgt := 15) (pc := 9) Γ nd_La_sign_9 (by decide) ?_
    refine rl_iconst (v := 0) (pc := 15) Γ nd_La_sign_15 (by decide) ?_
    exact rl_wret (pc := 16) Γ nd_La_sign_16 hr hk ⟨Nat.zero_le _, Nat.zero_le _⟩ h
  · have h := rl_iff z0 h
    by_cases z1 : z.1 = 1
    · have h := rl_ift z1 h
      have hM := rwt_Ro_sign l hlq E x1 σ z zh z0
      rw [z1] at hM
      refine rl_callVC (X := "java/lang/IllegalArgumentException") (hpc := 12) (As := [.int x1]) (pc := 4) Γ nd_La_sign_4 hO hM 1 nm_La_50 nm_im_Ro_sign nm_se_Ro_sign nm_ini_Ro nh_Ro_sign (rl_o0 E) rfl ⟨rfl, rfl⟩ (by decide +kernel) (Nat.le_of_ble_eq_true rfl) (Nat.le_of_ble_eq_true rfl) ⟨Nat.le_of_ble_eq_true rfl, Nat.le_of_ble_eq_true rfl⟩ (Nat.le_of_ble_eq_true rfl) rfl rfl (fun T2 locs x cell ls X2 hcell hvm hcls => rl_find1 (own := nR_La) (X := "java/lang/IllegalArgumentException") X2 rfl (t := tableOf []) htab rfl (by decide) Γ.2.2.2.1 (Γ.2.2.2.2 _ nx_lA) hO.2.2.2.2.2.1.1 hcell hvm hcls) (fun x => ?_)
      refine rl_astore_n (L' := [(3, .ref x), (0, .ref (E.1 0)), (1, .int x1), (2, .ref (E.1 78))]) (pc := 12) Γ nd_La_sign_12 (by decide) rfl ?_
      refine rl_iconst (v := 1) (pc := 13) Γ nd_La_sign_13 (by decide) ?_
      exact rl_wret (pc := 14) Γ nd_La_sign_14 hr hk ⟨Nat.le_of_ble_eq_true rfl, Nat.le_of_ble_eq_true rfl⟩ h
    · have h := rl_iff z1 h
      exact (rl_ns h).elim
