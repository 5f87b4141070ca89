def rf_St_has (x1 : Int32) (σ : rl_M) : Option (Int32 × rl_M) := (if x1 < 0 then some (0, σ) else (if (σ 8 0) ≤ x1 then some (0, σ) else (if 11 ≤ x1 then some (0, σ) else some (1, σ))))
set_option maxHeartbeats 4000000 in
set_option maxRecDepth 100000 in
theorem rw_St_has (l : Launch) (E : rl_E) (x1 : Int32)  (σ : rl_M) (r : Int32 × rl_M) (h : rf_St_has x1 σ = some r) : Met l ny_St_has nw_St_has nr_St_has (rl_P E [.ref (E.1 8), .int x1] σ) (rl_Q E (rl_ri r.1) r.2) 0 0 (rl_A E) := by
  refine Met.ofW (cc := nc_St_has) (maxL := 2) (ret := (some .boolean)) (by decide) rfl ?_
  intro p e s m args below meth c s₁ B hml hv
  obtain ⟨rfl, hP, hO⟩ := hv
  have Γ : CallFix p m c nc_St_has 2 s ([.ref (E.1 8), .int x1] : List Value).toArray rl_TT nR_St := ⟨B.exec, B.bytes, hml, findClass_of_methodNamed B.named, fun w hw => atoms_spec (ws := nw_St_has) B.pre w (List.mem_cons_of_mem _ hw)⟩
  have hr := B.returns
  have hk := B.notSynchronized
  refine rl_start (R := nr_St_has) (Q := rl_QM below _ s E rl_ri r) (nL := 2) (av := [.ref (E.1 8), .int x1]) (σ := σ) hP (Nat.le_of_ble_eq_true rfl) ?_
  unfold rf_St_has at h
  refine rl_iload_n (pc := 0) Γ nd_St_has_0 1 rfl ?_
  refine rl_if_lt (tgt := 22) (pc := 1) Γ nd_St_has_1 (by decide) (fun q1 => ?_) (fun q1 => ?_)
  · have h := rl_ift q1 h
    refine rl_iconst (v := 0) (pc := 22) Γ nd_St_has_22 (by decide) ?_
    exact rl_zret (pc := 23) Γ nd_St_has_23 hr hk (by decide) h
  · have h := rl_iff q1 h
    refine rl_iload_n (pc := 4) Γ nd_St_has_4 1 rfl ?_
    refine rl_aload_n (pc := 5) Γ nd_St_has_5 0 rfl ?_
    refine rl_get (pc := 6) Γ nd_St_has_6 hO (k := 0) (rl_o8 E) rfl (by decide) rfl ⟨ni_St, nf_St_9⟩ ?_
    refine rl_icmp_ge (tgt := 22) (pc := 9) Γ nd_St_has_9 (by decide) (fun q2 => ?_) (fun q2 => ?_)
    · have h := rl_ift q2 h
      refine rl_iconst (v := 0) (pc := 22) Γ nd_St_has_22 (by decide) ?_
      exact rl_zret (pc := 23) Γ nd_St_has_23 hr hk (by decide) h
    · have h := rl_iff q2 h
      refine rl_iload_n (pc := 12) Γ nd_St_has_12 1 rfl ?_
      refine rl_bipush (v := 11) (pc := 13) Γ nd_St_has_13 (by decide) ?_
      refine rl_icmp_ge (tgt := 22) (pc := 15) Γ nd_St_has_15 (by decide) (fun q3 => ?_) (fun q3 => ?_)
      · have h := rl_ift q3 h
        refine rl_iconst (v := 0) (pc := 22) Γ nd_St_has_22 (by decide) ?_
        exact rl_zret (pc := 23) Γ nd_St_has_23 hr hk (by decide) h
      · have h := rl_iff q3 h
        refine rl_iconst (v := 1) (pc := 18) Γ nd_St_has_18 (by decide) ?_
        refine rl_goto (tgt := 23) (pc := 19) Γ nd_St_has_19 (by decide) ?_
        exact rl_zret (pc := 23) Γ nd_St_has_23 hr hk (by decide) h
def rf_Pl_nodeWidth (x1 : Int32) (σ : rl_M) : Option (Int32 × rl_M) := ((rf_St_has x1 σ).bind (fun q1 => (if q1.1 = 0 then some ((-1), q1.2) else (if rl_ib x1 11 = true then ((rf_Cu_widthAt (rl_cv x1) 0 q1.2).bind (fun q4 => some (q4.1, q4.2))) else none))))
set_option maxHeartbeats 4000000 in
set_option maxRecDepth 100000 in
theorem rw_Pl_nodeWidth (l : Launch) (E : rl_E) (x1 : Int32)  (σ : rl_M) (r : Int32 × rl_M) (h : rf_Pl_nodeWidth x1 σ = some r) : Met l ny_Pl_nodeWidth nw_Pl_nodeWidth nr_Pl_nodeWidth (rl_P E [.ref (E.1 3), .int x1] σ) (rl_Q E (rl_ri r.1) r.2) 0 0 (rl_A E) := by
  refine Met.ofW (cc := nc_Pl_nodeWidth) (maxL := 2) (ret := (some .int)) (by decide) rfl ?_
  intro p e s m args below meth c s₁ B hml hv
  obtain ⟨rfl, hP, hO⟩ := hv
  have Γ : CallFix p m c nc_Pl_nodeWidth 2 s ([.ref (E.1 3), .int x1] : List Value).toArray rl_TT nR_Pl := ⟨B.exec, B.bytes, hml, findClass_of_methodNamed B.named, fun w hw => atoms_spec (ws := nw_Pl_nodeWidth) B.pre w (List.mem_cons_of_mem _ hw)⟩
  have hr := B.returns
  have hk := B.notSynchronized
  refine rl_start (R := nr_Pl_nodeWidth) (Q := rl_QM below _ s E rl_ri r) (nL := 2) (av := [.ref (E.1 3), .int x1]) (σ := σ) hP (Nat.le_of_ble_eq_true rfl) ?_
  unfold rf_Pl_nodeWidth at h
  refine rl_aload_n (pc := 0) Γ nd_Pl_nodeWidth_0 0 rfl ?_
  refine rl_get (pc := 1) Γ nd_Pl_nodeWidth_1 hO (k := 1) (rl_o3 E) rfl (by decide) rfl ⟨ni_Pl, nf_Pl_21⟩ ?_
  refine rl_iload_n (pc := 4) Γ nd_Pl_nodeWidth_4 1 rfl ?_
  obtain ⟨q1, q1h, h⟩ := rl_bd h
  refine rl_callVi (As := [.int x1]) (pc := 5) Γ nd_Pl_nodeWidth_5 hO (rw_St_has l E x1  σ q1 q1h) 1 nm_Pl_91 nm_im_St_has nm_se_St_has nm_ini_St nh_St_has (rl_o8 E) rfl ⟨rfl, rfl⟩ (by decide +kernel) (Nat.le_of_ble_eq_true rfl) (Nat.le_of_ble_eq_true rfl) ⟨Nat.zero_le _, Nat.zero_le _⟩ (Nat.le_of_ble_eq_true rfl) rfl rfl ?_
  refine rl_if_eq (tgt := 24) (pc := 8) Γ nd_Pl_nodeWidth_8 (by decide) (fun q2 => ?_) (fun q2 => ?_)
  · have h := rl_ift q2 h
    refine rl_iconst (v := (-1)) (pc := 24) Γ nd_Pl_nodeWidth_24 (by decide) ?_
    exact rl_iret (pc := 25) Γ nd_Pl_nodeWidth_25 hr hk h
  · have h := rl_iff q2 h
    refine rl_aload_n (pc := 11) Γ nd_Pl_nodeWidth_11 0 rfl ?_
    refine rl_get (pc := 12) Γ nd_Pl_nodeWidth_12 hO (k := 6) (rl_o3 E) rfl (by decide) rfl ⟨ni_Pl, nf_Pl_41⟩ ?_
    refine rl_iload_n (pc := 15) Γ nd_Pl_nodeWidth_15 1 rfl ?_
    obtain ⟨q3, h⟩ := rl_if h
    refine rl_ald (pc := 16) Γ nd_Pl_nodeWidth_16 hO (rl_a15 E) (rl_ib_in q3) ?_
    refine rl_iconst (v := 0) (pc := 17) Γ nd_Pl_nodeWidth_17 (by decide) ?_
    obtain ⟨q4, q4h, h⟩ := rl_bd h
    refine rl_callVi (As := [.int 0]) (pc := 18) Γ nd_Pl_nodeWidth_18 hO (rw_Cu_widthAt l E (rl_cv x1) 0 (rl_cv_ok q3) q1.2 q4 q4h) 1 nm_Pl_66 nm_im_Cu_widthAt nm_se_Cu_widthAt nm_ini_Cu nh_Cu_widthAt (rl_oC (rl_cv_ok q3)) rfl ⟨rfl, rfl⟩ (by decide +kernel) (Nat.le_of_ble_eq_true rfl) (Nat.le_of_ble_eq_true rfl) ⟨Nat.zero_le _, Nat.zero_le _⟩ (Nat.le_of_ble_eq_true rfl) rfl rfl ?_
    refine rl_goto (tgt := 25) (pc := 21) Γ nd_Pl_nodeWidth_21 (by decide) ?_
    exact rl_iret (pc := 25) Γ nd_Pl_nodeWidth_25 hr hk h
def rf_Pl_nodeHeight (x1 : Int32) (σ : rl_M) : Option (Int32 × rl_M) := ((rf_St_has x1 σ).bind (fun q1 => (if q1.1 = 0 then some ((-1), q1.2) else (if rl_ib x1 11 = true then ((rf_Cu_heightAt (rl_cv x1) 0 q1.2).bind (fun q4 => some (q4.1, q4.2))) else none))))
set_option maxHeartbeats 4000000 in
set_option maxRecDepth 100000 in
theorem rw_Pl_nodeHeight (l : Launch) (E : rl_E) (x1 : Int32)  (σ : rl_M) (r : Int32 × rl_M) (h : rf_Pl_nodeHeight x1 σ = some r) : Met l ny_Pl_nodeHeight nw_Pl_nodeHeight nr_Pl_nodeHeight (rl_P E [.ref (E.1 3), .int x1] σ) (rl_Q E (rl_ri r.1) r.2) 0 0 (rl_A E) := by
  refine Met.ofW (cc := nc_Pl_nodeHeight) (maxL := 2) (ret := (some .int)) (by decide) rfl ?_
  intro p e s m args below meth c s₁ B hml hv
  obtain ⟨rfl, hP, hO⟩ := hv
  have Γ : CallFix p m c nc_Pl_nodeHeight 2 s ([.ref (E.1 3), .int x1] : List Value).toArray rl_TT nR_Pl := ⟨B.exec, B.bytes, hml, findClass_of_methodNamed B.named, fun w hw => atoms_spec (ws := nw_Pl_nodeHeight) B.pre w (List.mem_cons_of_mem _ hw)⟩
  have hr := B.returns
  have hk := B.notSynchronized
  refine rl_start (R := nr_Pl_nodeHeight) (Q := rl_QM below _ s E rl_ri r) (nL := 2) (av := [.ref (E.1 3), .int x1]) (σ := σ) hP (Nat.le_of_ble_eq_true rfl) ?_
  unfold rf_Pl_nodeHeight at h
  refine rl_aload_n (pc := 0) Γ nd_Pl_nodeHeight_0 0 rfl ?_
  refine rl_get (pc := 1) Γ nd_Pl_nodeHeight_1 hO (k := 1) (rl_o3 E) rfl (by decide) rfl ⟨ni_Pl, nf_Pl_21⟩ ?_
  refine rl_iload_n (pc := 4) Γ nd_Pl_nodeHeight_4 1 rfl ?_
  obtain ⟨q1, q1h, h⟩ := rl_bd h
  refine rl_callVi (As := [.int x1]) (pc := 5) Γ nd_Pl_nodeHeight_5 hO (rw_St_has l E x1  σ q1 q1h) 1 nm_Pl_91 nm_im_St_has nm_se_St_has nm_ini_St nh_St_has (rl_o8 E) rfl ⟨rfl, rfl⟩ (by decide +kernel) (Nat.le_of_ble_eq_true rfl) (Nat.le_of_ble_eq_true rfl) ⟨Nat.zero_le _, Nat.zero_le _⟩ (Nat.le_of_ble_eq_true rfl) rfl rfl ?_
  refine rl_if_eq (tgt := 24) (pc := 8) Γ nd_Pl_nodeHeight_8 (by decide) (fun q2 => ?_) (fun q2 => ?_)
  · have h := rl_ift q2 h
    refine rl_iconst (v := (-1)) (pc := 24) Γ nd_Pl_nodeHeight_24 (by decide) ?_
    exact rl_iret (pc := 25) Γ nd_Pl_nodeHeight_25 hr hk h
  · have h := rl_iff q2 h
    refine rl_aload_n (pc := 11) Γ nd_Pl_nodeHeight_11 0 rfl ?_
    refine rl_get (pc := 12) Γ nd_Pl_nodeHeight_12 hO (k := 6) (rl_o3 E) rfl (by decide) rfl ⟨ni_Pl, nf_Pl_41⟩ ?_
    refine rl_iload_n (pc := 15) Γ nd_Pl_nodeHeight_15 1 rfl ?_
    obtain ⟨q3, h⟩ := rl_if h
    refine rl_ald (pc := 16) Γ nd_Pl_nodeHeight_16 hO (rl_a15 E) (rl_ib_in q3) ?_
    refine rl_iconst (v := 0) (pc := 17) Γ nd_Pl_nodeHeight_17 (by decide) ?_
    obtain ⟨q4, q4h, h⟩ := rl_bd h
    refine rl_callVi (As := [.int 0]) (pc := 18) Γ nd_Pl_nodeHeight_18 hO (rw_Cu_heightAt l E (rl_cv x1) 0 (rl_cv_ok q3) q1.2 q4 q4h) 1 nm_Pl_70 nm_im_Cu_heightAt nm_se_Cu_heightAt nm_ini_Cu nh_Cu_heightAt (rl_oC (rl_cv_ok q3)) rfl ⟨rfl, rfl⟩ (by decide +kernel) (Nat.le_of_ble_eq_true rfl) (Nat.le_of_ble_eq_true rfl) ⟨Nat.zero_le _, Nat.zero_le _⟩ (Nat.le_of_ble_eq_true rfl) rfl rfl ?_
    refine rl_goto (tgt := 25) (pc := 21) Γ nd_Pl_nodeHeight_21 (by decide) ?_
    exact rl_iret (pc := 25) Γ nd_Pl_nodeHeight_25 hr hk h
def rf_Pl_readPlace (x1 : Int32) (x2 : Int32) (σ : rl_M) : Option (Int32 × rl_M) := ((rf_Pl_nodeOfPlaced x1 σ).bind (fun q1 => ((rf_St_has q1.1 q1.2).bind (fun q2 => (if q2.1 = 0 then some ((-1), q2.2) else (if x2 = 0 then (if rl_ib q1.1 11 = true then some (q2.2 16 q1.1.toNatClampNeg, q2.2) else none) else (if x2 = 1 then (if rl_ib q1.1 11 = true then some (q2.2 17 q1.1.toNatClampNeg, q2.2) else none) else (if x2 = 2 then (if rl_ib q1.1 11 = true then some (q2.2 18 q1.1.toNatClampNeg, q2.2) else none) else (if x2 = 3 then ((rf_Pl_nodeWidth q1.1 q2.2).bind (fun q12 => some (q12.1, q12.2))) else ((rf_Pl_nodeHeight q1.1 q2.2).bind (fun q13 => some (q13.1, q13.2))))))))))))
set_option maxHeartbeats 4000000 in
set_option maxRecDepth 100000 in
theorem rw_Pl_readPlace (l : Launch) (E : rl_E) (x1 : Int32) (x2 : Int32)  (σ : rl_M) (r : Int32 × rl_M) (h : rf_Pl_readPlace x1 x2 σ = some r) : Met l ny_Pl_readPlace nw_Pl_readPlace nr_Pl_readPlace (rl_P E [.ref (E.1 3), .int x1, .int x2] σ) (rl_Q E (rl_ri r.1) r.2) 0 0 (rl_A E) := by
  refine Met.ofW (cc := nc_Pl_readPlace) (maxL := 4) (ret := (some .int)) (by decide) rfl ?_
  intro p e s m args below meth c s₁ B hml hv
  obtain ⟨rfl, hP, hO⟩ := hv
  have Γ : CallFix p m c nc_Pl_readPlace 4 s ([.ref (E.1 3), .int x1, .int x2] : List Value).toArray rl_TT nR_Pl := ⟨B.exec, B.bytes, hml, findClass_of_methodNamed B.named, fun w hw => atoms_spec (ws := nw_Pl_readPlace) B.pre w (List.mem_cons_of_mem _ hw)⟩
  have hr := B.returns
  have hk := B.notSynchronized
  refine rl_start (R := nr_Pl_readPlace) (Q := rl_QM below _ s E rl_ri r) (nL := 4) (av := [.ref (E.1 3), .int x1, .int x2]) (σ := σ) hP (Nat.le_of_ble_eq_true rfl) ?_
  unfold rf_Pl_readPlace at h
  refine rl_aload_n (pc := 0) Γ nd_Pl_readPlace_0 0 rfl ?_
  refine rl_iload_n (pc := 1) Γ nd_Pl_readPlace_1 1 rfl ?_
  obtain ⟨q1, q1h, h⟩ := rl_bd h
  refine rl_callVi (As := [.int x1]) (pc := 2) Γ nd_Pl_readPlace_2 hO (rw_Pl_nodeOfPlaced l E x1  σ q1 q1h) 1 nm_Pl_88 nm_im_Pl_nodeOfPlaced nm_se_Pl_nodeOfPlaced nm_ini_Pl nh_Pl_nodeOfPlaced (rl_o3 E) rfl ⟨rfl, rfl⟩ (by decide +kernel) (Nat.le_of_ble_eq_true rfl) (Nat.le_of_ble_eq_true rfl) ⟨Nat.zero_le _, Nat.zero_le _⟩ (Nat.le_of_ble_eq_true rfl) rfl rfl ?_
  refine rl_istore_n (L' := [(3, .int q1.1), (0, .ref (E.1 3)), (1, .int x1), (2, .int x2)]) (pc := 5) Γ nd_Pl_readPlace_5 (by decide) rfl ?_
  refine rl_aload_n (pc := 6) Γ nd_Pl_readPlace_6 1 rfl ?_
  refine rl_get (pc := 7) Γ nd_Pl_readPlace_7 hO (k := 1) (rl_o3 E) rfl (by decide) rfl ⟨ni_Pl, nf_Pl_21⟩ ?_
  refine rl_iload_n (pc := 10) Γ nd_Pl_readPlace_10 0 rfl ?_
  obtain ⟨q2, q2h, h⟩ := rl_bd h
  refine rl_callVi (As := [.int q1.1]) (pc := 11) Γ nd_Pl_readPlace_11 hO (rw_St_has l E q1.1  q1.2 q2 q2h) 1 nm_Pl_91 nm_im_St_has nm_se_St_has nm_ini_St nh_St_has (rl_o8 E) rfl ⟨rfl, rfl⟩ (by decide +kernel) (Nat.le_of_ble_eq_true rfl) (Nat.le_of_ble_eq_true rfl) ⟨Nat.zero_le _, Nat.zero_le _⟩ (Nat.le_of_ble_eq_true rfl) rfl rfl ?_
  refine rl_if_ne (tgt := 19) (pc := 14) Γ nd_Pl_readPlace_14 (by decide) (fun q3 => ?_) (fun q3 => ?_)
  · have h := rl_iff q3 h
    refine rl_iload_n (pc := 19) Γ nd_Pl_readPlace_19 3 rfl ?_
    by_cases q5 : x2 = 0
    · have h := rl_ift q5 h
      refine rl_swIn (tgt := 52) (off := 32) (k := 0) (pc := 20) Γ nd_Pl_readPlace_20 q5 (by decide) (by decide) (by decide) (by decide) ?_
      refine rl_aload_n (pc := 52) Γ nd_Pl_readPlace_52 1 rfl ?_
      refine rl_get (pc := 53) Γ nd_Pl_readPlace_53 hO (k := 9) (rl_o3 E) rfl (by decide) rfl ⟨ni_Pl, nf_Pl_53⟩ ?_
      refine rl_iload_n (pc := 56) Γ nd_Pl_readPlace_56 0 rfl ?_
      obtain ⟨q6, h⟩ := rl_if h
      refine rl_ild (pc := 57) Γ nd_Pl_readPlace_57 hO (rl_a16 E) (rl_ib_in q6) ?_
      exact rl_iret (pc := 58) Γ nd_Pl_readPlace_58 hr hk h
    · have h := rl_iff q5 h
      by_cases q7 : x2 = 1
      · have h := rl_ift q7 h
        refine rl_swIn (tgt := 59) (off := 39) (k := 1) (pc := 20) Γ nd_Pl_readPlace_20 q7 (by decide) (by decide) (by decide) (by decide) ?_
        refine rl_aload_n (pc := 59) Γ nd_Pl_readPlace_59 1 rfl ?_
        refine rl_get (pc := 60) Γ nd_Pl_readPlace_60 hO (k := 10) (rl_o3 E) rfl (by decide) rfl ⟨ni_Pl, nf_Pl_57⟩ ?_
        refine rl_iload_n (pc := 63) Γ nd_Pl_readPlace_63 0 rfl ?_
        obtain ⟨q8, h⟩ := rl_if h
        refine rl_ild (pc := 64) Γ nd_Pl_readPlace_64 hO (rl_a17 E) (rl_ib_in q8) ?_
        exact rl_iret (pc := 65) Γ nd_Pl_readPlace_65 hr hk h
      · have h := rl_iff q7 h
        by_cases q9 : x2 = 2
        · have h := rl_ift q9 h
          refine rl_swIn (tgt := 66) (off := 46) (k := 2) (pc := 20) Γ nd_Pl_readPlace_20 q9 (by decide) (by decide) (by decide) (by decide) ?_
          refine rl_aload_n (pc := 66) Γ nd_Pl_readPlace_66 1 rfl ?_
          refine rl_get (pc := 67) Γ nd_Pl_readPlace_67 hO (k := 11) (rl_o3 E) rfl (by decide) rfl ⟨ni_Pl, nf_Pl_60⟩ ?_
          refine rl_iload_n (pc := 70) Γ nd_Pl_readPlace_70 0 rfl ?_
          obtain ⟨q10, h⟩ := rl_if h
          refine rl_ild (pc := 71) Γ nd_Pl_readPlace_71 hO (rl_a18 E) (rl_ib_in q10) ?_
          exact rl_iret (pc := 72) Γ nd_Pl_readPlace_72 hr hk h
        · have h := rl_iff q9 h
          by_cases q11 : x2 = 3
          · have h := rl_ift q11 h
            refine rl_swIn (tgt := 73) (off := 53) (k := 3) (pc := 20) Γ nd_Pl_readPlace_20 q11 (by decide) (by decide) (by decide) (by decide) ?_
            refine rl_aload_n (pc := 73) Γ nd_Pl_readPlace_73 1 rfl ?_
            refine rl_iload_n (pc := 74) Γ nd_Pl_readPlace_74 0 rfl ?_
            obtain ⟨q12, q12h, h⟩ := rl_bd h
            refine rl_callVi (As := [.int q1.1]) (pc := 75) Γ nd_Pl_readPlace_75 hO (rw_Pl_nodeWidth l E q1.1  q2.2 q12 q12h) 1 nm_Pl_95 nm_im_Pl_nodeWidth nm_se_Pl_nodeWidth nm_ini_Pl nh_Pl_nodeWidth (rl_o3 E) rfl ⟨rfl, rfl⟩ (by decide +kernel) (Nat.le_of_ble_eq_true rfl) (Nat.le_of_ble_eq_true rfl) ⟨Nat.zero_le _, Nat.zero_le _⟩ (Nat.le_of_ble_eq_true rfl) rfl rfl ?_
            exact rl_iret (pc := 78) Γ nd_Pl_readPlace_78 hr hk h
          · have h := rl_iff q11 h
            refine rl_swOut (tgt := 79) (pc := 20) Γ nd_Pl_readPlace_20 (rl_out4 q5 q7 q9 q11) (by decide) ?_
            refine rl_aload_n (pc := 79) Γ nd_Pl_readPlace_79 1 rfl ?_
            refine rl_iload_n (pc := 80) Γ nd_Pl_readPlace_80 0 rfl ?_
            obtain ⟨q13, q13h, h⟩ := rl_bd h
            refine rl_callVi (As := [.int q1.1]) (pc := 81) Γ nd_Pl_readPlace_81 hO (rw_Pl_nodeHeight l E q1.1  q2.2 q13 q13h) 1 nm_Pl_98 nm_im_Pl_nodeHeight nm_se_Pl_nodeHeight nm_ini_Pl nh_Pl_nodeHeight (rl_o3 E) rfl ⟨rfl, rfl⟩ (by decide +kernel) (Nat.le_of_ble_eq_true rfl) (Nat.le_of_ble_eq_true rfl) ⟨Nat.zero_le _, Nat.zero_le _⟩ (Nat.le_of_ble_eq_true rfl) rfl rfl ?_
            exact rl_iret (pc := 84) Γ nd_Pl_readPlace_84 hr hk h
  · have h := rl_ift q3 h
    refine rl_iconst (v := (-1)) (pc := 17) Γ nd_Pl_readPlace_17 (by decide) ?_
    exact rl_iret (pc := 18) Γ nd_Pl_readPlace_18 hr hk h
def rf_Pl_sharedWall_J124 (x3 : Int32) (x4 : Int32) (x7 : Int32) (x8 : Int32)  (σ : rl_M) : Option (Int32 × rl_M) := (if rl_ib x3 11 = true then (if rl_ib x4 11 = true then some (if ((if x8 < x7 then x8 else x7) - (if (σ 18 x3.toNatClampNeg) < (σ 18 x4.toNatClampNeg) then (σ 18 x4.toNatClampNeg) else (σ 18 x3.toNatClampNeg))) < 0 then 0 else ((if x8 < x7 then x8 else x7) - (if (σ 18 x3.toNatClampNeg) < (σ 18 x4.toNatClampNeg) then (σ 18 x4.toNatClampNeg) else (σ 18 x3.toNatClampNeg))), σ) else none) else none)
def rf_Pl_sharedWall_J176 (x3 : Int32) (x4 : Int32) (x5 : Int32) (x6 : Int32)  (σ : rl_M) : Option (Int32 × rl_M) := (if rl_ib x3 11 = true then (if rl_ib x4 11 = true then some (if ((if x6 < x5 then x6 else x5) - (if (σ 17 x3.toNatClampNeg) < (σ 17 x4.toNatClampNeg) then (σ 17 x4.toNatClampNeg) else (σ 17 x3.toNatClampNeg))) < 0 then 0 else ((if x6 < x5 then x6 else x5) - (if (σ 17 x3.toNatClampNeg) < (σ 17 x4.toNatClampNeg) then (σ 17 x4.toNatClampNeg) else (σ 17 x3.toNatClampNeg))), σ) else none) else none)
def rf_Pl_sharedWall (x1 : Int32) (x2 : Int32) (σ : rl_M) : Option (Int32 × rl_M) := ((rf_Pl_nodeOfPlaced x1 σ).bind (fun q1 => ((rf_Pl_nodeOfPlaced x2 q1.2).bind (fun q2 => ((rf_St_has q1.1 q2.2).bind (fun q3 => (if q3.1 = 0 then some ((-1), q3.2) else ((rf_St_has q2.1 q3.2).bind (fun q5 => (if q5.1 = 0 then some ((-1), q5.2) else (if rl_ib q1.1 11 = true then ((rf_Pl_nodeWidth q1.1 q5.2).bind (fun q8 => (if rl_ib q2.1 11 = true then ((rf_Pl_nodeWidth q2.1 q8.2).bind (fun q10 => (if rl_ib q1.1 11 = true then ((rf_Pl_nodeHeight q1.1 q10.2).bind (fun q12 => (if rl_ib q2.1 11 = true then ((rf_Pl_nodeHeight q2.1 q12.2).bind (fun q14 => (if rl_ib q2.1 11 = true then (if ((q5.2 17 q1.1.toNatClampNeg) + q8.1) = (q14.2 17 q2.1.toNatClampNeg) then rf_Pl_sharedWall_J124 q1.1 q2.1 ((q10.2 18 q1.1.toNatClampNeg) + q12.1) ((q12.2 18 q2.1.toNatClampNeg) + q14.1)  q14.2 else (if rl_ib q1.1 11 = true then (if ((q8.2 17 q2.1.toNatClampNeg) + q10.1) = (q14.2 17 q1.1.toNatClampNeg) then rf_Pl_sharedWall_J124 q1.1 q2.1 ((q10.2 18 q1.1.toNatClampNeg) + q12.1) ((q12.2 18 q2.1.toNatClampNeg) + q14.1)  q14.2 else (if rl_ib q2.1 11 = true then (if ((q10.2 18 q1.1.toNatClampNeg) + q12.1) = (q14.2 18 q2.1.toNatClampNeg) then rf_Pl_sharedWall_J176 q1.1 q2.1 ((q5.2 17 q1.1.toNatClampNeg) + q8.1) ((q8.2 17 q2.1.toNatClampNeg) + q10.1)  q14.2 else (if rl_ib q1.1 11 = true then (if ((q12.2 18 q2.1.toNatClampNeg) + q14.1) = (q14.2 18 q1.1.toNatClampNeg) then rf_Pl_sharedWall_J176 q1.1 q2.1 ((q5.2 17 q1.1.toNatClampNeg) + q8.1) ((q8.2 17 q2.1.toNatClampNeg) + q10.1)  q14.2 else some (if 0 < 0 then 0 else 0, q14.2)) else none)) else none)) else none)) else none))) else none))) else none))) else none))) else none)))))))))))
set_option maxHeartbeats 4000000 in
set_option maxRecDepth 100000 in
theorem rw_Pl_sharedWall_J124 {p : Program} {l : Launch} {e : Env} {s : State} {m : MethodId} {args : Array Value} {below : List Frame} {meth : Method} {c : Code} {E : rl_E} (Γ : CallFix p m c nc_Pl_sharedWall 10 s args rl_TT nR_Pl) (hO : rl_Ok E s) (hr : meth.sig.returnType = (some .int)) (hk : meth.locks = false)  (x3 : Int32) (x4 : Int32) (x7 : Int32) (x8 : Int32)   {r : Int32 × rl_M}  (σ : rl_M) (h : rf_Pl_sharedWall_J124 x3 x4 x7 x8  σ = some r) : rl_G p l e nr_Pl_sharedWall s m args below meth c 10 E 0 0 (rl_QM below args s E rl_ri r) σ 124 [(0, .ref (E.1 3)), (3, .int x3), (4, .int x4), (7, .int x7), (8, .int x8)] [] := by
  unfold rf_Pl_sharedWall_J124 at h
  refine rl_iload (pc := 124) Γ nd_Pl_sharedWall_124 3 rfl ?_
  refine rl_iload (pc := 126) Γ nd_Pl_sharedWall_126 4 rfl ?_
  refine rl_mmin (pc := 128) Γ nd_Pl_sharedWall_128 (Γ.2.2.2.2 _ nm_Pl_101) (Γ.2.2.2.2 _ nm_static_min) (Γ.2.2.2.2 _ nm_ini_Math) (Γ.2.2.2.2 _ nm_code_min) (Nat.le_of_ble_eq_true rfl) (Nat.le_of_ble_eq_true rfl) ⟨Nat.zero_le _, Nat.zero_le _⟩ ?_
  refine rl_aload_n (pc := 131) Γ nd_Pl_sharedWall_131 0 rfl ?_
  refine rl_get (pc := 132) Γ nd_Pl_sharedWall_132 hO (k := 11) (rl_o3 E) rfl (by decide) rfl ⟨ni_Pl, nf_Pl_60⟩ ?_
  refine rl_iload_n (pc := 135) Γ nd_Pl_sharedWall_135 1 rfl ?_
  obtain ⟨q17, h⟩ := rl_if h
  refine rl_ild (pc := 136) Γ nd_Pl_sharedWall_136 hO (rl_a18 E) (rl_ib_in q17) ?_
  refine rl_aload_n (pc := 137) Γ nd_Pl_sharedWall_137 0 rfl ?_
  refine rl_get (pc := 138) Γ nd_Pl_sharedWall_138 hO (k := 11) (rl_o3 E) rfl (by decide) rfl ⟨ni_Pl, nf_Pl_60⟩ ?_
  refine rl_iload (pc := 141) Γ nd_Pl_sharedWall_141 2 rfl ?_
  obtain ⟨q18, h⟩ := rl_if h
  refine rl_ild (pc := 143) Γ nd_Pl_sharedWall_143 hO (rl_a18 E) (rl_ib_in q18) ?_
  refine rl_mmax (pc := 144) Γ nd_Pl_sharedWall_144 (Γ.2.2.2.2 _ nm_Pl_107) (Γ.2.2.2.2 _ nm_static_max) (Γ.2.2.2.2 _ nm_ini_Math) (Γ.2.2.2.2 _ nm_code_max) (Nat.le_of_ble_eq_true rfl) (Nat.le_of_ble_eq_true rfl) ⟨Nat.zero_le _, Nat.zero_le _⟩ ?_
  refine rl_isub (pc := 147) Γ nd_Pl_sharedWall_147 ?_
  refine rl_istore (L' := [(9, .int ((if x8 < x7 then x8 else x7) - (if (σ 18 x3.toNatClampNeg) < (σ 18 x4.toNatClampNeg) then (σ 18 x4.toNatClampNeg) else (σ 18 x3.toNatClampNeg)))), (0, .ref (E.1 3)), (3, .int x3), (4, .int x4), (7, .int x7), (8, .int x8)]) (pc := 148) Γ nd_Pl_sharedWall_148 (by decide) rfl ?_
  refine rl_goto (tgt := 202) (pc := 150) Γ nd_Pl_sharedWall_150 (by decide) ?_
  refine rl_iload (pc := 202) Γ nd_Pl_sharedWall_202 0 rfl ?_
  refine rl_iconst (v := 0) (pc := 204) Γ nd_Pl_sharedWall_204 (by decide) ?_
  refine rl_mmax (pc := 205) Γ nd_Pl_sharedWall_205 (Γ.2.2.2.2 _ nm_Pl_107) (Γ.2.2.2.2 _ nm_static_max) (Γ.2.2.2.2 _ nm_ini_Math) (Γ.2.2.2.2 _ nm_code_max) (Nat.le_of_ble_eq_true rfl) (Nat.le_of_ble_eq_true rfl) ⟨Nat.zero_le _, Nat.zero_le _⟩ ?_
  exact rl_iret (pc := 208) Γ nd_Pl_sharedWall_208 hr hk h
set_option maxHeartbeats 4000000 in
set_option maxRecDepth 100000 in
theorem rw_Pl_sharedWall_J176 {p : Program} {l : Launch} {e : Env} {s : State} {m : MethodId} {args : Array Value} {below : List Frame} {meth : Method} {c : Code} {E : rl_E} (Γ : CallFix p m c nc_Pl_sharedWall 10 s args rl_TT nR_Pl) (hO : rl_Ok E s) (hr : meth.sig.returnType = (some .int)) (hk : meth.locks = false)  (x3 : Int32) (x4 : Int32) (x5 : Int32) (x6 : Int32)   {r : Int32 × rl_M}  (σ : rl_M) (h : rf_Pl_sharedWall_J176 x3 x4 x5 x6  σ = some r) : rl_G p l e nr_Pl_sharedWall s m args below meth c 10 E 0 0 (rl_QM below args s E rl_ri r) σ 176 [(0, .ref (E.1 3)), (3, .int x3), (4, .int x4), (5, .int x5), (6, .int x6)] [] := by
  unfold rf_Pl_sharedWall_J176 at h
  refine rl_iload (pc := 176) Γ nd_Pl_sharedWall_176 3 rfl ?_
  refine rl_iload (pc := 178) Γ nd_Pl_sharedWall_178 4 rfl ?_
  refine rl_mmin (pc := 180) Γ nd_Pl_sharedWall_180 (Γ.2.2.2.2 _ nm_Pl_101) (Γ.2.2.2.2 _ nm_static_min) (Γ.2.2.2.2 _ nm_ini_Math) (Γ.2.2.2.2 _ nm_code_min) (Nat.le_of_ble_eq_true rfl) (Nat.le_of_ble_eq_true rfl) ⟨Nat.zero_le _, Nat.zero_le _⟩ ?_
  refine rl_aload_n (pc := 183) Γ nd_Pl_sharedWall_183 0 rfl ?_
  refine rl_get (pc := 184) Γ nd_Pl_sharedWall_184 hO (k := 10) (rl_o3 E) rfl (by decide) rfl ⟨ni_Pl, nf_Pl_57⟩ ?_
  refine rl_iload_n (pc := 187) Γ nd_Pl_sharedWall_187 1 rfl ?_
  obtain ⟨q23, h⟩ := rl_if h
  refine rl_ild (pc := 188) Γ nd_Pl_sharedWall_188 hO (rl_a17 E) (rl_ib_in q23) ?_
  refine rl_aload_n (pc := 189) Γ nd_Pl_sharedWall_189 0 rfl ?_
  refine rl_get (pc := 190) Γ nd_Pl_sharedWall_190 hO (k := 10) (rl_o3 E) rfl (by decide) rfl ⟨ni_Pl, nf_Pl_57⟩ ?_
  refine rl_iload (pc := 193) Γ nd_Pl_sharedWall_193 2 rfl ?_
  obtain ⟨q24, h⟩ := rl_if h
  refine rl_ild (pc := 195) Γ nd_Pl_sharedWall_195 hO (rl_a17 E) (rl_ib_in q24) ?_
  refine rl_mmax (pc := 196) Γ nd_Pl_sharedWall_196 (Γ.2.2.2.2 _ nm_Pl_107) (Γ.2.2.2.2 _ nm_static_max) (Γ.2.2.2.2 _ nm_ini_Math) (Γ.2.2.2.2 _ nm_code_max) (Nat.le_of_ble_eq_true rfl) (Nat.le_of_ble_eq_true rfl) ⟨Nat.zero_le _, Nat.zero_le _⟩ ?_
  refine rl_isub (pc := 199) Γ nd_Pl_sharedWall_199 ?_
  refine rl_istore (L' := [(9, .int ((if x6 < x5 then x6 else x5) - (if (σ 17 x3.toNatClampNeg) < (σ 17 x4.toNatClampNeg) then (σ 17 x4.toNatClampNeg) else (σ 17 x3.toNatClampNeg)))), (0, .ref (E.1 3)), (3, .int x3), (4, .int x4), (5, .int x5), (6, .int x6)]) (pc := 200) Γ nd_Pl_sharedWall_200 (by decide) rfl ?_
  refine rl_iload (pc := 202) Γ nd_Pl_sharedWall_202 0 rfl ?_
  refine rl_iconst (v := 0) (pc := 204) Γ nd_Pl_sharedWall_204 (by decide) ?_
  refine rl_mmax (pc := 205) Γ nd_Pl_sharedWall_205 (Γ.2.2.2.2 _ nm_Pl_107) (Γ.2.2.2.2 _ nm_static_max) (Γ.2.2.2.2 _ nm_ini_Math) (Γ.2.2.2.2 _ nm_code_max) (Nat.le_of_ble_eq_true rfl) (Nat.le_of_ble_eq_true rfl) ⟨Nat.zero_le _, Nat.zero_le _⟩ ?_
  exact rl_iret (pc := 208) Γ nd_Pl_sharedWall_208 hr hk h
set_option maxHeartbeats 4000000 in
set_option maxRecDepth 100000 in
theorem rw_Pl_sharedWall (l : Launch) (E : rl_E) (x1 : Int32) (x2 : Int32)  (σ : rl_M) (r : Int32 × rl_M) (h : rf_Pl_sharedWall x1 x2 σ = some r) : Met l ny_Pl_sharedWall nw_Pl_sharedWall nr_Pl_sharedWall (rl_P E [.ref (E.1 3), .int x1, .int x2] σ) (rl_Q E (rl_ri r.1) r.2) 0 0 (rl_A E) := by
  refine Met.ofW (cc := nc_Pl_sharedWall) (maxL := 10) (ret := (some .int)) (by decide) rfl ?_
  intro p e s m args below meth c s₁ B hml hv
  obtain ⟨rfl, hP, hO⟩ := hv
  have Γ : CallFix p m c nc_Pl_sharedWall 10 s ([.ref (E.1 3), .int x1, .int x2] : List Value).toArray rl_TT nR_Pl := ⟨B.exec, B.bytes, hml, findClass_of_methodNamed B.named, fun w hw => atoms_spec (ws := nw_Pl_sharedWall) B.pre w (List.mem_cons_of_mem _ hw)⟩
  have hr := B.returns
  have hk := B.notSynchronized
  refine rl_start (R := nr_Pl_sharedWall) (Q := rl_QM below _ s E rl_ri r) (nL := 10) (av := [.ref (E.1 3), .int x1, .int x2]) (σ := σ) hP (Nat.le_of_ble_eq_true rfl) ?_
  unfold rf_Pl_sharedWall at h
  refine rl_aload_n (pc := 0) Γ nd_Pl_sharedWall_0 0 rfl ?_
  refine rl_iload_n (pc := 1) Γ nd_Pl_sharedWall_1 1 rfl ?_
  obtain ⟨q1, q1h, h⟩ := rl_bd h
  refine rl_callVi (As := [.int x1]) (pc := 2) Γ nd_Pl_sharedWall_2 hO (rw_Pl_nodeOfPlaced l E x1  σ q1 q1h) 1 nm_Pl_88 nm_im_Pl_nodeOfPlaced nm_se_Pl_nodeOfPlaced nm_ini_Pl nh_Pl_nodeOfPlaced (rl_o3 E) rfl ⟨rfl, rfl⟩ (by decide +kernel) (Nat.le_of_ble_eq_true rfl) (Nat.le_of_ble_eq_true rfl) ⟨Nat.zero_le _, Nat.zero_le _⟩ (Nat.le_of_ble_eq_true rfl) rfl rfl ?_
  refine rl_istore_n (L' := [(3, .int q1.1), (0, .ref (E.1 3)), (1, .int x1), (2, .int x2)]) (pc := 5) Γ nd_Pl_sharedWall_5 (by decide) rfl ?_
  refine rl_aload_n (pc := 6) Γ nd_Pl_sharedWall_6 1 rfl ?_
  refine rl_iload_n (pc := 7) Γ nd_Pl_sharedWall_7 3 rfl ?_
  obtain ⟨q2, q2h, h⟩ := rl_bd h
  refine rl_callVi (As := [.int x2]) (pc := 8) Γ nd_Pl_sharedWall_8 hO (rw_Pl_nodeOfPlaced l E x2  q1.2 q2 q2h) 1 nm_Pl_88 nm_im_Pl_nodeOfPlaced nm_se_Pl_nodeOfPlaced nm_ini_Pl nh_Pl_nodeOfPlaced (rl_o3 E) rfl ⟨rfl, rfl⟩ (by decide +kernel) (Nat.le_of_ble_eq_true rfl) (Nat.le_of_ble_eq_true rfl) ⟨Nat.zero_le _, Nat.zero_le _⟩ (Nat.le_of_ble_eq_true rfl) rfl rfl ?_
  refine rl_istore (L' := [(4, .int q2.1), (3, .int q1.1), (0, .ref (E.1 3)), (1, .int x1), (2, .int x2)]) (pc := 11) Γ nd_Pl_sharedWall_11 (by decide) rfl ?_
  refine rl_aload_n (pc := 13) Γ nd_Pl_sharedWall_13 2 rfl ?_
  refine rl_get (pc := 14) Γ nd_Pl_sharedWall_14 hO (k := 1) (rl_o3 E) rfl (by decide) rfl ⟨ni_Pl, nf_Pl_21⟩ ?_
  refine rl_iload_n (pc := 17) Γ nd_Pl_sharedWall_17 1 rfl ?_
  obtain ⟨q3, q3h, h⟩ := rl_bd h
  refine rl_callVi (As := [.int q1.1]) (pc := 18) Γ nd_Pl_sharedWall_18 hO (rw_St_has l E q1.1  q2.2 q3 q3h) 1 nm_Pl_91 nm_im_St_has nm_se_St_has nm_ini_St nh_St_has (rl_o8 E) rfl ⟨rfl, rfl⟩ (by decide +kernel) (Nat.le_of_ble_eq_true rfl) (Nat.le_of_ble_eq_true rfl) ⟨Nat.zero_le _, Nat.zero_le _⟩ (Nat.le_of_ble_eq_true rfl) rfl rfl ?_
  refine rl_if_eq (tgt := 36) (pc := 21) Γ nd_Pl_sharedWall_21 (by decide) (fun q4 => ?_) (fun q4 => ?_)
  · have h := rl_ift q4 h
    refine rl_iconst (v := (-1)) (pc := 36) Γ nd_Pl_sharedWall_36 (by decide) ?_
    exact rl_iret (pc := 37) Γ nd_Pl_sharedWall_37 hr hk h
  · have h := rl_iff q4 h
    refine rl_aload_n (pc := 24) Γ nd_Pl_sharedWall_24 2 rfl ?_
    refine rl_get (pc := 25) Γ nd_Pl_sharedWall_25 hO (k := 1) (rl_o3 E) rfl (by decide) rfl ⟨ni_Pl, nf_Pl_21⟩ ?_
    refine rl_iload (pc := 28) Γ nd_Pl_sharedWall_28 0 rfl ?_
    obtain ⟨q5, q5h, h⟩ := rl_bd h
    refine rl_callVi (As := [.int q2.1]) (pc := 30) Γ nd_Pl_sharedWall_30 hO (rw_St_has l E q2.1  q3.2 q5 q5h) 1 nm_Pl_91 nm_im_St_has nm_se_St_has nm_ini_St nh_St_has (rl_o8 E) rfl ⟨rfl, rfl⟩ (by decide +kernel) (Nat.le_of_ble_eq_true rfl) (Nat.le_of_ble_eq_true rfl) ⟨Nat.zero_le _, Nat.zero_le _⟩ (Nat.le_of_ble_eq_true rfl) rfl rfl ?_
    refine rl_if_ne (tgt := 38) (pc := 33) Γ nd_Pl_sharedWall_33 (by decide) (fun q6 => ?_) (fun q6 => ?_)
    · have h := rl_iff q6 h
      refine rl_aload_n (pc := 38) Γ nd_Pl_sharedWall_38 2 rfl ?_
      refine rl_get (pc := 39) Γ nd_Pl_sharedWall_39 hO (k := 10) (rl_o3 E) rfl (by decide) rfl ⟨ni_Pl, nf_Pl_57⟩ ?_
      refine rl_iload_n (pc := 42) Γ nd_Pl_sharedWall_42 1 rfl ?_
      obtain ⟨q7, h⟩ := rl_if h
      refine rl_ild (pc := 43) Γ nd_Pl_sharedWall_43 hO (rl_a17 E) (rl_ib_in q7) ?_
      refine rl_aload_n (pc := 44) Γ nd_Pl_sharedWall_44 2 rfl ?_
      refine rl_iload_n (pc := 45) Γ nd_Pl_sharedWall_45 1 rfl ?_
      obtain ⟨q8, q8h, h⟩ := rl_bd h
      refine rl_callVi (As := [.int q1.1]) (pc := 46) Γ nd_Pl_sharedWall_46 hO (rw_Pl_nodeWidth l E q1.1  q5.2 q8 q8h) 1 nm_Pl_95 nm_im_Pl_nodeWidth nm_se_Pl_nodeWidth nm_ini_Pl nh_Pl_nodeWidth (rl_o3 E) rfl ⟨rfl, rfl⟩ (by decide +kernel) (Nat.le_of_ble_eq_true rfl) (Nat.le_of_ble_eq_true rfl) ⟨Nat.zero_le _, Nat.zero_le _⟩ (Nat.le_of_ble_eq_true rfl) rfl rfl ?_
      refine rl_iadd (pc := 49) Γ nd_Pl_sharedWall_49 ?_
      refine rl_istore (L' := [(5, .int ((q5.2 17 q1.1.toNatClampNeg) + q8.1)), (4, .int q2.1), (3, .int q1.1), (0, .ref (E.1 3)), (1, .int x1), (2, .int x2)]) (pc := 50) Γ nd_Pl_sharedWall_50 (by decide) rfl ?_
      refine rl_aload_n (pc := 52) Γ nd_Pl_sharedWall_52 3 rfl ?_
      refine rl_get (pc := 53) Γ nd_Pl_sharedWall_53 hO (k := 10) (rl_o3 E) rfl (by decide) rfl ⟨ni_Pl, nf_Pl_57⟩ ?_
      refine rl_iload (pc := 56) Γ nd_Pl_sharedWall_56 1 rfl ?_
      obtain ⟨q9, h⟩ := rl_if h
      refine rl_ild (pc := 58) Γ nd_Pl_sharedWall_58 hO (rl_a17 E) (rl_ib_in q9) ?_
      refine rl_aload_n (pc := 59) Γ nd_Pl_sharedWall_59 3 rfl ?_
      refine rl_iload (pc := 60) Γ nd_Pl_sharedWall_60 1 rfl ?_
      obtain ⟨q10, q10h, h⟩ := rl_bd h
      refine rl_callVi (As := [.int q2.1]) (pc := 62) Γ nd_Pl_sharedWall_62 hO (rw_Pl_nodeWidth l E q2.1  q8.2 q10 q10h) 1 nm_Pl_95 nm_im_Pl_nodeWidth nm_se_Pl_nodeWidth nm_ini_Pl nh_Pl_nodeWidth (rl_o3 E) rfl ⟨rfl, rfl⟩ (by decide +kernel) (Nat.le_of_ble_eq_true rfl) (Nat.le_of_ble_eq_true rfl) ⟨Nat.zero_le _, Nat.zero_le _⟩ (Nat.le_of_ble_eq_true rfl) rfl rfl ?_
      refine rl_iadd (pc := 65) Γ nd_Pl_sharedWall_65 ?_
      refine rl_istore (L' := [(6, .int ((q8.2 17 q2.1.toNatClampNeg) + q10.1)), (5, .int ((q5.2 17 q1.1.toNatClampNeg) + q8.1)), (4, .int q2.1), (3, .int q1.1), (0, .ref (E.1 3)), (1, .int x1), (2, .int x2)]) (pc := 66) Γ nd_Pl_sharedWall_66 (by decide) rfl ?_
      refine rl_aload_n (pc := 68) Γ nd_Pl_sharedWall_68 4 rfl ?_
      refine rl_get (pc := 69) Γ nd_Pl_sharedWall_69 hO (k := 11) (rl_o3 E) rfl (by decide) rfl ⟨ni_Pl, nf_Pl_60⟩ ?_
      refine rl_iload_n (pc := 72) Γ nd_Pl_sharedWall_72 3 rfl ?_
      obtain ⟨q11, h⟩ := rl_if h
      refine rl_ild (pc := 73) Γ nd_Pl_sharedWall_73 hO (rl_a18 E) (rl_ib_in q11) ?_
      refine rl_aload_n (pc := 74) Γ nd_Pl_sharedWall_74 4 rfl ?_
      refine rl_iload_n (pc := 75) Γ nd_Pl_sharedWall_75 3 rfl ?_
      obtain ⟨q12, q12h, h⟩ := rl_bd h
      refine rl_callVi (As := [.int q1.1]) (pc := 76) Γ nd_Pl_sharedWall_76 hO (rw_Pl_nodeHeight l E q1.1  q10.2 q12 q12h) 1 nm_Pl_98 nm_im_Pl_nodeHeight nm_se_Pl_nodeHeight nm_ini_Pl nh_Pl_nodeHeight (rl_o3 E) rfl ⟨rfl, rfl⟩ (by decide +kernel) (Nat.le_of_ble_eq_true rfl) (Nat.le_of_ble_eq_true rfl) ⟨Nat.zero_le _, Nat.zero_le _⟩ (Nat.le_of_ble_eq_true rfl) rfl rfl ?_
      refine rl_iadd (pc := 79) Γ nd_Pl_sharedWall_79 ?_
      refine rl_istore (L' := [(7, .int ((q10.2 18 q1.1.toNatClampNeg) + q12.1)), (6, .int ((q8.2 17 q2.1.toNatClampNeg) + q10.1)), (5, .int ((q5.2 17 q1.1.toNatClampNeg) + q8.1)), (4, .int q2.1), (3, .int q1.1), (0, .ref (E.1 3)), (1, .int x1), (2, .int x2)]) (pc := 80) Γ nd_Pl_sharedWall_80 (by decide) rfl ?_
      refine rl_aload_n (pc := 82) Γ nd_Pl_sharedWall_82 5 rfl ?_
      refine rl_get (pc := 83) Γ nd_Pl_sharedWall_83 hO (k := 11) (rl_o3 E) rfl (by decide) rfl ⟨ni_Pl, nf_Pl_60⟩ ?_
      refine rl_iload (pc := 86) Γ nd_Pl_sharedWall_86 3 rfl ?_
      obtain ⟨q13, h⟩ := rl_if h
      refine rl_ild (pc := 88) Γ nd_Pl_sharedWall_88 hO (rl_a18 E) (rl_ib_in q13) ?_
      refine rl_aload_n (pc := 89) Γ nd_Pl_sharedWall_89 5 rfl ?_
      refine rl_iload (pc := 90) Γ nd_Pl_sharedWall_90 3 rfl ?_
      obtain ⟨q14, q14h, h⟩ := rl_bd h
      refine rl_callVi (As := [.int q2.1]) (pc := 92) Γ nd_Pl_sharedWall_92 hO (rw_Pl_nodeHeight l E q2.1  q12.2 q14 q14h) 1 nm_Pl_98 nm_im_Pl_nodeHeight nm_se_Pl_nodeHeight nm_ini_Pl nh_Pl_nodeHeight (rl_o3 E) rfl ⟨rfl, rfl⟩ (by decide +kernel) (Nat.le_of_ble_eq_true rfl) (Nat.le_of_ble_eq_true rfl) ⟨Nat.zero_le _, Nat.zero_le _⟩ (Nat.le_of_ble_eq_true rfl) rfl rfl ?_
      refine rl_iadd (pc := 95) Γ nd_Pl_sharedWall_95 ?_
      refine rl_istore (L' := [(8, .int ((q12.2 18 q2.1.toNatClampNeg) + q14.1)), (7, .int ((q10.2 18 q1.1.toNatClampNeg) + q12.1)), (6, .int ((q8.2 17 q2.1.toNatClampNeg) + q10.1)), (5, .int ((q5.2 17 q1.1.toNatClampNeg) + q8.1)), (4, .int q2.1), (3, .int q1.1), (0, .ref (E.1 3)), (1, .int x1), (2, .int x2)]) (pc := 96) Γ nd_Pl_sharedWall_96 (by decide) rfl ?_
      refine rl_iconst (v := 0) (pc := 98) Γ nd_Pl_sharedWall_98 (by decide) ?_
      refine rl_istore (L' := [(9, .int 0), (8, .int ((q12.2 18 q2.1.toNatClampNeg) + q14.1)), (7, .int ((q10.2 18 q1.1.toNatClampNeg) + q12.1)), (6, .int ((q8.2 17 q2.1.toNatClampNeg) + q10.1)), (5, .int ((q5.2 17 q1.1.toNatClampNeg) + q8.1)), (4, .int q2.1), (3, .int q1.1), (0, .ref (E.1 3)), (1, .int x1), (2, .int x2)]) (pc := 99) Γ nd_Pl_sharedWall_99 (by decide) rfl ?_
      refine rl_iload (pc := 101) Γ nd_Pl_sharedWall_101 4 rfl ?_
      refine rl_aload_n (pc := 103) Γ nd_Pl_sharedWall_103 7 rfl ?_
      refine rl_get (pc := 104) Γ nd_Pl_sharedWall_104 hO (k := 10) (rl_o3 E) rfl (by decide) rfl ⟨ni_Pl, nf_Pl_57⟩ ?_
      refine rl_iload (pc := 107) Γ nd_Pl_sharedWall_107 5 rfl ?_
      obtain ⟨q15, h⟩ := rl_if h
      refine rl_ild (pc := 109) Γ nd_Pl_sharedWall_109 hO (rl_a17 E) (rl_ib_in q15) ?_
      refine rl_icmp_eq (tgt := 124) (pc := 110) Γ nd_Pl_sharedWall_110 (by decide) (fun q16 => ?_) (fun q16 => ?_)
      · have h := rl_ift q16 h
        exact rl_Gsub [7, 6, 5, 2, 1] rfl (rw_Pl_sharedWall_J124 Γ hO hr hk q1.1 q2.1 ((q10.2 18 q1.1.toNatClampNeg) + q12.1) ((q12.2 18 q2.1.toNatClampNeg) + q14.1)   q14.2 h)
      · have h := rl_iff q16 h
        refine rl_iload (pc := 113) Γ nd_Pl_sharedWall_113 3 rfl ?_
        refine rl_aload_n (pc := 115) Γ nd_Pl_sharedWall_115 7 rfl ?_
        refine rl_get (pc := 116) Γ nd_Pl_sharedWall_116 hO (k := 10) (rl_o3 E) rfl (by decide) rfl ⟨ni_Pl, nf_Pl_57⟩ ?_
        refine rl_iload_n (pc := 119) Γ nd_Pl_sharedWall_119 6 rfl ?_
        obtain ⟨q19, h⟩ := rl_if h
        refine rl_ild (pc := 120) Γ nd_Pl_sharedWall_120 hO (rl_a17 E) (rl_ib_in q19) ?_
        refine rl_icmp_ne (tgt := 153) (pc := 121) Γ nd_Pl_sharedWall_121 (by decide) (fun q20 => ?_) (fun q20 => ?_)
        · have h := rl_iff q20 h
          refine rl_iload (pc := 153) Γ nd_Pl_sharedWall_153 2 rfl ?_
          refine rl_aload_n (pc := 155) Γ nd_Pl_sharedWall_155 7 rfl ?_
          refine rl_get (pc := 156) Γ nd_Pl_sharedWall_156 hO (k := 11) (rl_o3 E) rfl (by decide) rfl ⟨ni_Pl, nf_Pl_60⟩ ?_
          refine rl_iload (pc := 159) Γ nd_Pl_sharedWall_159 5 rfl ?_
          obtain ⟨q21, h⟩ := rl_if h
          refine rl_ild (pc := 161) Γ nd_Pl_sharedWall_161 hO (rl_a18 E) (rl_ib_in q21) ?_
          refine rl_icmp_eq (tgt := 176) (pc := 162) Γ nd_Pl_sharedWall_162 (by decide) (fun q22 => ?_) (fun q22 => ?_)
          · have h := rl_ift q22 h
            exact rl_Gsub [7, 6, 5, 4, 3] rfl (rw_Pl_sharedWall_J176 Γ hO hr hk q1.1 q2.1 ((q5.2 17 q1.1.toNatClampNeg) + q8.1) ((q8.2 17 q2.1.toNatClampNeg) + q10.1)   q14.2 h)
          · have h := rl_iff q22 h
            refine rl_iload (pc := 165) Γ nd_Pl_sharedWall_165 1 rfl ?_
            refine rl_aload_n (pc := 167) Γ nd_Pl_sharedWall_167 7 rfl ?_
            refine rl_get (pc := 168) Γ nd_Pl_sharedWall_168 hO (k := 11) (rl_o3 E) rfl (by decide) rfl ⟨ni_Pl, nf_Pl_60⟩ ?_
            refine rl_iload_n (pc := 171) Γ nd_Pl_sharedWall_171 6 rfl ?_
            obtain ⟨q25, h⟩ := rl_if h
            refine rl_ild (pc := 172) Γ nd_Pl_sharedWall_172 hO (rl_a18 E) (rl_ib_in q25) ?_
            refine rl_icmp_ne (tgt := 202) (pc := 173) Γ nd_Pl_sharedWall_173 (by decide) (fun q26 => ?_) (fun q26 => ?_)
            · have h := rl_iff q26 h
              refine rl_iload (pc := 202) Γ nd_Pl_sharedWall_202 0 rfl ?_
              refine rl_iconst (v := 0) (pc := 204) Γ nd_Pl_sharedWall_204 (by decide) ?_
              refine rl_mmax (pc := 205) Γ nd_Pl_sharedWall_205 (Γ.2.2.2.2 _ nm_Pl_107) (Γ.2.2.2.2 _ nm_static_max) (Γ.2.2.2.2 _ nm_ini_Math) (Γ.2.2.2.2 _ nm_code_max) (Nat.le_of_ble_eq_true rfl) (Nat.le_of_ble_eq_true rfl) ⟨Nat.zero_le _, Nat.zero_le _⟩ ?_
              exact rl_iret (pc := 208) Γ nd_Pl_sharedWall_208 hr hk h
            · have h := rl_ift q26 h
              exact rl_Gsub [7, 6, 5, 4, 3] rfl (rw_Pl_sharedWall_J176 Γ hO hr hk q1.1 q2.1 ((q5.2 17 q1.1.toNatClampNeg) + q8.1) ((q8.2 17 q2.1.toNatClampNeg) + q10.1)   q14.2 h)
        · have h := rl_ift q20 h
          exact rl_Gsub [7, 6, 5, 2, 1] rfl (rw_Pl_sharedWall_J124 Γ hO hr hk q1.1 q2.1 ((q10.2 18 q1.1.toNatClampNeg) + q12.1) ((q12.2 18 q2.1.toNatClampNeg) + q14.1)   q14.2 h)
    · have h := rl_ift q6 h
      refine rl_iconst (v := (-1)) (pc := 36) Γ nd_Pl_sharedWall_36 (by decide) ?_
      exact rl_iret (pc := 37) Γ nd_Pl_sharedWall_37 hr hk h
def rf_St_signAt (x1 : Int32) (σ : rl_M) : Option (Int32 × rl_M) := ((rf_St_has x1 σ).bind (fun q1 => (if q1.1 = 0 then some ((-1), q1.2) else (if rl_ib x1 11 = true then some (q1.2 9 x1.toNatClampNeg, q1.2) else none))))
set_option maxHeartbeats 4000000 in
set_option maxRecDepth 100000 in
theorem rw_St_signAt (l : Launch) (E : rl_E) (x1 : Int32)  (σ : rl_M) (r : Int32 × rl_M) (h : rf_St_signAt x1 σ = some r) : Met l ny_St_signAt nw_St_signAt nr_St_signAt (rl_P E [.ref (E.1 8), .int x1] σ) (rl_Q E (rl_ri r.1) r.2) 0 0 (rl_A E) := by
  refine Met.ofW (cc := nc_St_signAt) (maxL := 2) (ret := (some .int)) (by decide) rfl ?_
  intro p e s m args below meth c s₁ B hml hv
  obtain ⟨rfl, hP, hO⟩ := hv
  have Γ : CallFix p m c nc_St_signAt 2 s ([.ref (E.1 8), .int x1] : List Value).toArray rl_TT nR_St := ⟨B.exec, B.bytes, hml, findClass_of_methodNamed B.named, fun w hw => atoms_spec (ws := nw_St_signAt) B.pre w (List.mem_cons_of_mem _ hw)⟩
  have hr := B.returns
  have hk := B.notSynchronized
  refine rl_start (R := nr_St_signAt) (Q := rl_QM below _ s E rl_ri r) (nL := 2) (av := [.ref (E.1 8), .int x1]) (σ := σ) hP (Nat.le_of_ble_eq_true rfl) ?_
  unfold rf_St_signAt at h
  refine rl_aload_n (pc := 0) Γ nd_St_signAt_0 0 rfl ?_
  refine rl_iload_n (pc := 1) Γ nd_St_signAt_1 1 rfl ?_
  obtain ⟨q1, q1h, h⟩ := rl_bd h
  refine rl_callVi (As := [.int x1]) (pc := 2) Γ nd_St_signAt_2 hO (rw_St_has l E x1  σ q1 q1h) 1 nm_St_65 nm_im_St_has nm_se_St_has nm_ini_St nh_St_has (rl_o8 E) rfl ⟨rfl, rfl⟩ (by decide +kernel) (Nat.le_of_ble_eq_true rfl) (Nat.le_of_ble_eq_true rfl) ⟨Nat.zero_le _, Nat.zero_le _⟩ (Nat.le_of_ble_eq_true rfl) rfl rfl ?_
  refine rl_if_eq (tgt := 17) (pc := 5) Γ nd_St_signAt_5 (by decide) (fun q2 => ?_) (fun q2 => ?_)
  · have h := rl_ift q2 h
    refine rl_iconst (v := (-1)) (pc := 17) Γ nd_St_signAt_17 (by decide) ?_
    exact rl_iret (pc := 18) Γ nd_St_signAt_18 hr hk h
  · have h := rl_iff q2 h
    refine rl_aload_n (pc := 8) Γ nd_St_signAt_8 0 rfl ?_
    refine rl_get (pc := 9) Γ nd_St_signAt_9 hO (k := 1) (rl_o8 E) rfl (by decide) rfl ⟨ni_St, nf_St_15⟩ ?_
    refine rl_iload_n (pc := 12) Γ nd_St_signAt_12 1 rfl ?_
    obtain ⟨q3, h⟩ := rl_if h
    refine rl_ild (pc := 13) Γ nd_St_signAt_13 hO (rl_a9 E) (rl_ib_in q3) ?_
    refine rl_goto (tgt := 18) (pc := 14) Γ nd_St_signAt_14 (by decide) ?_
    exact rl_iret (pc := 18) Γ nd_St_signAt_18 hr hk h
def rf_Ro_roomOfSign (x0 : Int32) (σ : rl_M) : Option (Int32 × rl_M) := (if x0 < 48 then some ((-1), σ) else (if 57 < x0 then some ((-1), σ) else some (x0 - 48, σ)))
set_option maxHeartbeats 4000000 in
set_option maxRecDepth 100000 in
theorem rw_Ro_roomOfSign (l : Launch) (E : rl_E) (x0 : Int32)  (σ : rl_M) (r : Int32 × rl_M) (h : rf_Ro_roomOfSign x0 σ = some r) : Met l ny_Ro_roomOfSign nw_Ro_roomOfSign nr_Ro_roomOfSign (rl_P E [.int x0] σ) (rl_Q E (rl_ri r.1) r.2) 0 0 (rl_A E) := by
  refine Met.ofW (cc := nc_Ro_roomOfSign) (maxL := 1) (ret := (some .int)) (by decide) rfl ?_
  intro p e s m args below meth c s₁ B hml hv
  obtain ⟨rfl, hP, hO⟩ := hv
  have Γ : CallFix p m c nc_Ro_roomOfSign 1 s ([.int x0] : List Value).toArray rl_TT nR_Ro := ⟨B.exec, B.bytes, hml, findClass_of_methodNamed B.named, fun w hw => atoms_spec (ws := nw_Ro_roomOfSign) B.pre w (List.mem_cons_of_mem _ hw)⟩
  have hr := B.returns
  have hk := B.notSynchronized
  refine rl_start (R := nr_Ro_roomOfSign) (Q := rl_QM below _ s E rl_ri r) (nL := 1) (av := [.int x0]) (σ := σ) hP (Nat.le_of_ble_eq_true rfl) ?_
  unfold rf_Ro_roomOfSign at h
  refine rl_iload_n (pc := 0) Γ nd_Ro_roomOfSign_0 0 rfl ?_
  refine rl_bipush (v := 48) (pc := 1) Γ nd_Ro_roomOfSign_1 (by decide) ?_
  refine rl_icmp_lt (tgt := 19) (pc := 3) Γ nd_Ro_roomOfSign_3 (by decide) (fun q1 => ?_) (fun q1 => ?_)
  · have h := rl_ift q1 h
    refine rl_iconst (v := (-1)) (pc := 19) Γ nd_Ro_roomOfSign_19 (by decide) ?_
    exact rl_iret (pc := 20) Γ nd_Ro_roomOfSign_20 hr hk h
  · have h := rl_iff q1 h
    refine rl_iload_n (pc := 6) Γ nd_Ro_roomOfSign_6 0 rfl ?_
    refine rl_bipush (v := 57) (pc := 7) Γ nd_Ro_roomOfSign_7 (by decide) ?_
    refine rl_icmp_gt (tgt := 19) (pc := 9) Γ nd_Ro_roomOfSign_9 (by decide) (fun q2 => ?_) (fun q2 => ?_)
    · have h := rl_ift q2 h
      refine rl_iconst (v := (-1)) (pc := 19) Γ nd_Ro_roomOfSign_19 (by decide) ?_
      exact rl_iret (pc := 20) Γ nd_Ro_roomOfSign_20 hr hk h
    · have h := rl_iff q2 h
      refine rl_iload_n (pc := 12) Γ nd_Ro_roomOfSign_12 0 rfl ?_
      refine rl_bipush (v := 48) (pc := 13) Γ nd_Ro_roomOfSign_13 (by decide) ?_
      refine rl_isub (pc := 15) Γ nd_Ro_roomOfSign_15 ?_
      refine rl_goto (tgt := 20) (pc := 16) Γ nd_Ro_roomOfSign_16 (by decide) ?_
      exact rl_iret (pc := 20) Γ nd_Ro_roomOfSign_20 hr hk h
def rf_St_roomAt (x1 : Int32) (σ : rl_M) : Option (Int32 × rl_M) := ((rf_St_signAt x1 σ).bind (fun q1 => ((rf_Ro_roomOfSign q1.1 q1.2).bind (fun q2 => some (q2.1, q2.2)))))
set_option maxHeartbeats 4000000 in
set_option maxRecDepth 100000 in
theorem rw_St_roomAt (l : Launch) (E : rl_E) (x1 : Int32)  (σ : rl_M) (r : Int32 × rl_M) (h : rf_St_roomAt x1 σ = some r) : Met l ny_St_roomAt nw_St_roomAt nr_St_roomAt (rl_P E [.ref (E.1 8), .int x1] σ) (rl_Q E (rl_ri r.1) r.2) 0 0 (rl_A E) := by
  refine Met.ofW (cc := nc_St_roomAt) (maxL := 2) (ret := (some .int)) (by decide) rfl ?_
  intro p e s m args below meth c s₁ B hml hv
  obtain ⟨rfl, hP, hO⟩ := hv
  have Γ : CallFix p m c nc_St_roomAt 2 s ([.ref (E.1 8), .int x1] : List Value).toArray rl_TT nR_St := ⟨B.exec, B.bytes, hml, findClass_of_methodNamed B.named, fun w hw => atoms_spec (ws := nw_St_roomAt) B.pre w (List.mem_cons_of_mem _ hw)⟩
  have hr := B.returns
  have hk := B.notSynchronized
  refine rl_start (R := nr_St_roomAt) (Q := rl_QM below _ s E rl_ri r) (nL := 2) (av := [.ref (E.1 8), .int x1]) (σ := σ) hP (Nat.le_of_ble_eq_true rfl) ?_
  unfold rf_St_roomAt at h
  refine rl_aload_n (pc := 0) Γ nd_St_roomAt_0 0 rfl ?_
  refine rl_iload_n (pc := 1) Γ nd_St_roomAt_1 1 rfl ?_
  obtain ⟨q1, q1h, h⟩ := rl_bd h
  refine rl_callVi (As := [.int x1]) (pc := 2) Γ nd_St_roomAt_2 hO (rw_St_signAt l E x1  σ q1 q1h) 1 nm_St_68 nm_im_St_signAt nm_se_St_signAt nm_ini_St nh_St_signAt (rl_o8 E) rfl ⟨rfl, rfl⟩ (by decide +kernel) (Nat.le_of_ble_eq_true rfl) (Nat.le_of_ble_eq_true rfl) ⟨Nat.zero_le _, Nat.zero_le _⟩ (Nat.le_of_ble_eq_true rfl) rfl rfl ?_
  obtain ⟨q2, q2h, h⟩ := rl_bd h
  refine rl_callSNi (As := [.int q1.1]) (pc := 5) Γ nd_St_roomAt_5 hO (rw_Ro_roomOfSign l E q1.1  q1.2 q2 q2h) 1 (rl_n2 hO) nm_st_Ro_roomOfSign nm_ini_Ro nh_Ro_roomOfSign ⟨rfl, rfl⟩ (by decide +kernel) (Nat.le_of_ble_eq_true rfl) (Nat.le_of_ble_eq_true rfl) ⟨Nat.zero_le _, Nat.zero_le _⟩ (Nat.le_of_ble_eq_true rfl) rfl rfl ?_
  exact rl_iret (pc := 8) Γ nd_St_roomAt_8 hr hk h
def rf_St_firstOf (x1 : Int32) (σ : rl_M) : Option (Int32 × rl_M) := ((rf_St_has x1 σ).bind (fun q1 => (if q1.1 = 0 then some ((-1), q1.2) else (if rl_ib x1 11 = true then some (q1.2 10 x1.toNatClampNeg, q1.2) else none))))
set_option maxHeartbeats 4000000 in
set_option maxRecDepth 100000 in
theorem rw_St_firstOf (l : Launch) (E : rl_E) (x1 : Int32)  (σ : rl_M) (r : Int32 × rl_M) (h : rf_St_firstOf x1 σ = some r) : Met l ny_St_firstOf nw_St_firstOf nr_St_firstOf (rl_P E [.ref (E.1 8), .int x1] σ) (rl_Q E (rl_ri r.1) r.2) 0 0 (rl_A E) := by
  refine Met.ofW (cc := nc_St_firstOf) (maxL := 2) (ret := (some .int)) (by decide) rfl ?_
  intro p e s m args below meth c s₁ B hml hv
  obtain ⟨rfl, hP, hO⟩ := hv
  have Γ : CallFix p m c nc_St_firstOf 2 s ([.ref (E.1 8), .int x1] : List Value).toArray rl_TT nR_St := ⟨B.exec, B.bytes, hml, findClass_of_methodNamed B.named, fun w hw => atoms_spec (ws := nw_St_firstOf) B.pre w (List.mem_cons_of_mem _ hw)⟩
  have hr := B.returns
  have hk := B.notSynchronized
  refine rl_start (R := nr_St_firstOf) (Q := rl_QM below _ s E rl_ri r) (nL := 2) (av := [.ref (E.1 8), .int x1]) (σ := σ) hP (Nat.le_of_ble_eq_true rfl) ?_
  unfold rf_St_firstOf at h
  refine rl_aload_n (pc := 0) Γ nd_St_firstOf_0 0 rfl ?_
  refine rl_iload_n (pc := 1) Γ nd_St_firstOf_1 1 rfl ?_
  obtain ⟨q1, q1h, h⟩ := rl_bd h
  refine rl_callVi (As := [.int x1]) (pc := 2) Γ nd_St_firstOf_2 hO (rw_St_has l E x1  σ q1 q1h) 1 nm_St_65 nm_im_St_has nm_se_St_has nm_ini_St nh_St_has (rl_o8 E) rfl ⟨rfl, rfl⟩ (by decide +kernel) (Nat.le_of_ble_eq_true rfl) (Nat.le_of_ble_eq_true rfl) ⟨Nat.zero_le _, Nat.zero_le _⟩ (Nat.le_of_ble_eq_true rfl) rfl rfl ?_
  refine rl_if_eq (tgt := 17) (pc := 5) Γ nd_St_firstOf_5 (by decide) (fun q2 => ?_) (fun q2 => ?_)
  · have h := rl_ift q2 h
    refine rl_iconst (v := (-1)) (pc := 17) Γ nd_St_firstOf_17 (by decide) ?_
    exact rl_iret (pc := 18) Γ nd_St_firstOf_18 hr hk h
  · have h := rl_iff q2 h
    refine rl_aload_n (pc := 8) Γ nd_St_firstOf_8 0 rfl ?_
    refine rl_get (pc := 9) Γ nd_St_firstOf_9 hO (k := 2) (rl_o8 E) rfl (by decide) rfl ⟨ni_St, nf_St_19⟩ ?_
    refine rl_iload_n (pc := 12) Γ nd_St_firstOf_12 1 rfl ?_
    obtain ⟨q3, h⟩ := rl_if h
    refine rl_ild (pc := 13) Γ nd_St_firstOf_13 hO (rl_a10 E) (rl_ib_in q3) ?_
    refine rl_goto (tgt := 18) (pc := 14) Γ nd_St_firstOf_14 (by decide) ?_
    exact rl_iret (pc := 18) Γ nd_St_firstOf_18 hr hk h
def rf_St_secondOf (x1 : Int32) (σ : rl_M) : Option (Int32 × rl_M) := ((rf_St_has x1 σ).bind (fun q1 => (if q1.1 = 0 then some ((-1), q1.2) else (if rl_ib x1 11 = true then some (q1.2 11 x1.toNatClampNeg, q1.2) else none))))
set_option maxHeartbeats 4000000 in
set_option maxRecDepth 100000 in
theorem rw_St_secondOf (l : Launch) (E : rl_E) (x1 : Int32)  (σ : rl_M) (r : Int32 × rl_M) (h : rf_St_secondOf x1 σ = some r) : Met l ny_St_secondOf nw_St_secondOf nr_St_secondOf (rl_P E [.ref (E.1 8), .int x1] σ) (rl_Q E (rl_ri r.1) r.2) 0 0 (rl_A E) := by
  refine Met.ofW (cc := nc_St_secondOf) (maxL := 2) (ret := (some .int)) (by decide) rfl ?_
  intro p e s m args below meth c s₁ B hml hv
  obtain ⟨rfl, hP, hO⟩ := hv
  have Γ : CallFix p m c nc_St_secondOf 2 s ([.ref (E.1 8), .int x1] : List Value).toArray rl_TT nR_St := ⟨B.exec, B.bytes, hml, findClass_of_methodNamed B.named, fun w hw => atoms_spec (ws := nw_St_secondOf) B.pre w (List.mem_cons_of_mem _ hw)⟩
  have hr := B.returns
  have hk := B.notSynchronized
  refine rl_start (R := nr_St_secondOf) (Q := rl_QM below _ s E rl_ri r) (nL := 2) (av := [.ref (E.1 8), .int x1]) (σ := σ) hP (Nat.le_of_ble_eq_true rfl) ?_
  unfold rf_St_secondOf at h
  refine rl_aload_n (pc := 0) Γ nd_St_secondOf_0 0 rfl ?_
  refine rl_iload_n (pc := 1) Γ nd_St_secondOf_1 1 rfl ?_
  obtain ⟨q1, q1h, h⟩ := rl_bd h
  refine rl_callVi (As := [.int x1]) (pc := 2) Γ nd_St_secondOf_2 hO (rw_St_has l E x1  σ q1 q1h) 1 nm_St_65 nm_im_St_has nm_se_St_has nm_ini_St nh_St_has (rl_o8 E) rfl ⟨rfl, rfl⟩ (by decide +kernel) (Nat.le_of_ble_eq_true rfl) (Nat.le_of_ble_eq_true rfl) ⟨Nat.zero_le _, Nat.zero_le _⟩ (Nat.le_of_ble_eq_true rfl) rfl rfl ?_
  refine rl_if_eq (tgt := 17) (pc := 5) Γ nd_St_secondOf_5 (by decide) (fun q2 => ?_) (fun q2 => ?_)
  · have h := rl_ift q2 h
    refine rl_iconst (v := (-1)) (pc := 17) Γ nd_St_secondOf_17 (by decide) ?_
    exact rl_iret (pc := 18) Γ nd_St_secondOf_18 hr hk h
  · have h := rl_iff q2 h
    refine rl_aload_n (pc := 8) Γ nd_St_secondOf_8 0 rfl ?_
    refine rl_get (pc := 9) Γ nd_St_secondOf_9 hO (k := 3) (rl_o8 E) rfl (by decide) rfl ⟨ni_St, nf_St_22⟩ ?_
    refine rl_iload_n (pc := 12) Γ nd_St_secondOf_12 1 rfl ?_
    obtain ⟨q3, h⟩ := rl_if h
    refine rl_ild (pc := 13) Γ nd_St_secondOf_13 hO (rl_a11 E) (rl_ib_in q3) ?_
    refine rl_goto (tgt := 18) (pc := 14) Γ nd_St_secondOf_14 (by decide) ?_
    exact rl_iret (pc := 18) Γ nd_St_secondOf_18 hr hk h
