def rf_Pl_join (x1 : Int32) (σ : rl_M) : Option (Int32 × rl_M) := ((rf_St_firstOf x1 σ).bind (fun q1 => ((rf_St_secondOf x1 q1.2).bind (fun q2 => ((rf_St_has x1 q2.2).bind (fun q3 => (if q3.1 = 0 then some (0, q3.2) else ((rf_St_has q1.1 q3.2).bind (fun q5 => (if q5.1 = 0 then some (0, q5.2) else ((rf_St_has q2.1 q5.2).bind (fun q7 => (if q7.1 = 0 then some (0, q7.2) else ((rf_St_signAt x1 q7.2).bind (fun q9 => (if q9.1 = 124 then (if rl_ib x1 11 = true then (if rl_ib q1.1 11 = true then (if rl_ib q2.1 11 = true then ((rf_Cu_joinBeside (rl_cv x1) (rl_cv q1.1) (rl_cv q2.1) q9.2).bind (fun q18 => some (0, q18.2))) else none) else none) else none) else (if rl_ib x1 11 = true then (if rl_ib q1.1 11 = true then (if rl_ib q2.1 11 = true then ((rf_Cu_joinAbove (rl_cv x1) (rl_cv q1.1) (rl_cv q2.1) q9.2).bind (fun q14 => some (0, q14.2))) else none) else none) else none)))))))))))))))))
set_option maxHeartbeats 4000000 in
set_option maxRecDepth 100000 in
theorem rw_Pl_join (l : Launch) (E : rl_E) (x1 : Int32)  (σ : rl_M) (r : Int32 × rl_M) (h : rf_Pl_join x1 σ = some r) : Met l ny_Pl_join nw_Pl_join nr_Pl_join (rl_P E [.ref (E.1 3), .int x1] σ) (rl_Q E (rl_rv r.1) r.2) 0 0 (rl_A E) := by
  refine Met.ofW (cc := nc_Pl_join) (maxL := 4) (ret := none) (by decide) rfl ?_
  intro p e s m args below meth c s₁ B hml hv
  obtain ⟨rfl, hP, hO⟩ := hv
  have Γ : CallFix p m c nc_Pl_join 4 s ([.ref (E.1 3), .int x1] : List Value).toArray rl_TT nR_Pl := ⟨B.exec, B.bytes, hml, findClass_of_methodNamed B.named, fun w hw => atoms_spec (ws := nw_Pl_join) B.pre w (List.mem_cons_of_mem _ hw)⟩
  have hr := B.returns
  have hk := B.notSynchronized
  refine rl_start (R := nr_Pl_join) (Q := rl_QM below _ s E rl_rv r) (nL := 4) (av := [.ref (E.1 3), .int x1]) (σ := σ) hP (Nat.le_of_ble_eq_true rfl) ?_
  unfold rf_Pl_join at h
  refine rl_aload_n (pc := 0) Γ nd_Pl_join_0 0 rfl ?_
  refine rl_get (pc := 1) Γ nd_Pl_join_1 hO (k := 1) (rl_o3 E) rfl (by decide) rfl ⟨ni_Pl, nf_Pl_21⟩ ?_
  refine rl_iload_n (pc := 4) Γ nd_Pl_join_4 1 rfl ?_
  obtain ⟨q1, q1h, h⟩ := rl_bd h
  refine rl_callVi (As := [.int x1]) (pc := 5) Γ nd_Pl_join_5 hO (rw_St_firstOf l E x1  σ q1 q1h) 1 nm_Pl_146 nm_im_St_firstOf nm_se_St_firstOf nm_ini_St nh_St_firstOf (rl_o8 E) rfl ⟨rfl, rfl⟩ (by decide +kernel) (Nat.le_of_ble_eq_true rfl) (Nat.le_of_ble_eq_true rfl) ⟨Nat.zero_le _, Nat.zero_le _⟩ (Nat.le_of_ble_eq_true rfl) rfl rfl ?_
  refine rl_istore_n (L' := [(2, .int q1.1), (0, .ref (E.1 3)), (1, .int x1)]) (pc := 8) Γ nd_Pl_join_8 (by decide) rfl ?_
  refine rl_aload_n (pc := 9) Γ nd_Pl_join_9 1 rfl ?_
  refine rl_get (pc := 10) Γ nd_Pl_join_10 hO (k := 1) (rl_o3 E) rfl (by decide) rfl ⟨ni_Pl, nf_Pl_21⟩ ?_
  refine rl_iload_n (pc := 13) Γ nd_Pl_join_13 2 rfl ?_
  obtain ⟨q2, q2h, h⟩ := rl_bd h
  refine rl_callVi (As := [.int x1]) (pc := 14) Γ nd_Pl_join_14 hO (rw_St_secondOf l E x1  q1.2 q2 q2h) 1 nm_Pl_149 nm_im_St_secondOf nm_se_St_secondOf nm_ini_St nh_St_secondOf (rl_o8 E) rfl ⟨rfl, rfl⟩ (by decide +kernel) (Nat.le_of_ble_eq_true rfl) (Nat.le_of_ble_eq_true rfl) ⟨Nat.zero_le _, Nat.zero_le _⟩ (Nat.le_of_ble_eq_true rfl) rfl rfl ?_
  refine rl_istore_n (L' := [(3, .int q2.1), (2, .int q1.1), (0, .ref (E.1 3)), (1, .int x1)]) (pc := 17) Γ nd_Pl_join_17 (by decide) rfl ?_
  refine rl_aload_n (pc := 18) Γ nd_Pl_join_18 2 rfl ?_
  refine rl_get (pc := 19) Γ nd_Pl_join_19 hO (k := 1) (rl_o3 E) rfl (by decide) rfl ⟨ni_Pl, nf_Pl_21⟩ ?_
  refine rl_iload_n (pc := 22) Γ nd_Pl_join_22 3 rfl ?_
  obtain ⟨q3, q3h, h⟩ := rl_bd h
  refine rl_callVi (As := [.int x1]) (pc := 23) Γ nd_Pl_join_23 hO (rw_St_has l E x1  q2.2 q3 q3h) 1 nm_Pl_91 nm_im_St_has nm_se_St_has nm_ini_St nh_St_has (rl_o8 E) rfl ⟨rfl, rfl⟩ (by decide +kernel) (Nat.le_of_ble_eq_true rfl) (Nat.le_of_ble_eq_true rfl) ⟨Nat.zero_le _, Nat.zero_le _⟩ (Nat.le_of_ble_eq_true rfl) rfl rfl ?_
  refine rl_if_eq (tgt := 51) (pc := 26) Γ nd_Pl_join_26 (by decide) (fun q4 => ?_) (fun q4 => ?_)
  · have h := rl_ift q4 h
    exact rl_vret (pc := 51) Γ nd_Pl_join_51 hr hk h
  · have h := rl_iff q4 h
    refine rl_aload_n (pc := 29) Γ nd_Pl_join_29 2 rfl ?_
    refine rl_get (pc := 30) Γ nd_Pl_join_30 hO (k := 1) (rl_o3 E) rfl (by decide) rfl ⟨ni_Pl, nf_Pl_21⟩ ?_
    refine rl_iload_n (pc := 33) Γ nd_Pl_join_33 1 rfl ?_
    obtain ⟨q5, q5h, h⟩ := rl_bd h
    refine rl_callVi (As := [.int q1.1]) (pc := 34) Γ nd_Pl_join_34 hO (rw_St_has l E q1.1  q3.2 q5 q5h) 1 nm_Pl_91 nm_im_St_has nm_se_St_has nm_ini_St nh_St_has (rl_o8 E) rfl ⟨rfl, rfl⟩ (by decide +kernel) (Nat.le_of_ble_eq_true rfl) (Nat.le_of_ble_eq_true rfl) ⟨Nat.zero_le _, Nat.zero_le _⟩ (Nat.le_of_ble_eq_true rfl) rfl rfl ?_
    refine rl_if_eq (tgt := 51) (pc := 37) Γ nd_Pl_join_37 (by decide) (fun q6 => ?_) (fun q6 => ?_)
    · have h := rl_ift q6 h
      exact rl_vret (pc := 51) Γ nd_Pl_join_51 hr hk h
    · have h := rl_iff q6 h
      refine rl_aload_n (pc := 40) Γ nd_Pl_join_40 2 rfl ?_
      refine rl_get (pc := 41) Γ nd_Pl_join_41 hO (k := 1) (rl_o3 E) rfl (by decide) rfl ⟨ni_Pl, nf_Pl_21⟩ ?_
      refine rl_iload_n (pc := 44) Γ nd_Pl_join_44 0 rfl ?_
      obtain ⟨q7, q7h, h⟩ := rl_bd h
      refine rl_callVi (As := [.int q2.1]) (pc := 45) Γ nd_Pl_join_45 hO (rw_St_has l E q2.1  q5.2 q7 q7h) 1 nm_Pl_91 nm_im_St_has nm_se_St_has nm_ini_St nh_St_has (rl_o8 E) rfl ⟨rfl, rfl⟩ (by decide +kernel) (Nat.le_of_ble_eq_true rfl) (Nat.le_of_ble_eq_true rfl) ⟨Nat.zero_le _, Nat.zero_le _⟩ (Nat.le_of_ble_eq_true rfl) rfl rfl ?_
      refine rl_if_ne (tgt := 52) (pc := 48) Γ nd_Pl_join_48 (by decide) (fun q8 => ?_) (fun q8 => ?_)
      · have h := rl_iff q8 h
        refine rl_aload_n (pc := 52) Γ nd_Pl_join_52 2 rfl ?_
        refine rl_get (pc := 53) Γ nd_Pl_join_53 hO (k := 1) (rl_o3 E) rfl (by decide) rfl ⟨ni_Pl, nf_Pl_21⟩ ?_
        refine rl_iload_n (pc := 56) Γ nd_Pl_join_56 3 rfl ?_
        obtain ⟨q9, q9h, h⟩ := rl_bd h
        refine rl_callVi (As := [.int x1]) (pc := 57) Γ nd_Pl_join_57 hO (rw_St_signAt l E x1  q7.2 q9 q9h) 1 nm_Pl_152 nm_im_St_signAt nm_se_St_signAt nm_ini_St nh_St_signAt (rl_o8 E) rfl ⟨rfl, rfl⟩ (by decide +kernel) (Nat.le_of_ble_eq_true rfl) (Nat.le_of_ble_eq_true rfl) ⟨Nat.zero_le _, Nat.zero_le _⟩ (Nat.le_of_ble_eq_true rfl) rfl rfl ?_
        refine rl_bipush (v := 124) (pc := 60) Γ nd_Pl_join_60 (by decide) ?_
        refine rl_icmp_ne (tgt := 89) (pc := 62) Γ nd_Pl_join_62 (by decide) (fun q10 => ?_) (fun q10 => ?_)
        · have h := rl_iff q10 h
          refine rl_aload_n (pc := 89) Γ nd_Pl_join_89 2 rfl ?_
          refine rl_get (pc := 90) Γ nd_Pl_join_90 hO (k := 6) (rl_o3 E) rfl (by decide) rfl ⟨ni_Pl, nf_Pl_41⟩ ?_
          refine rl_iload_n (pc := 93) Γ nd_Pl_join_93 3 rfl ?_
          obtain ⟨q11, h⟩ := rl_if h
          refine rl_ald (pc := 94) Γ nd_Pl_join_94 hO (rl_a15 E) (rl_ib_in q11) ?_
          refine rl_aload_n (pc := 95) Γ nd_Pl_join_95 2 rfl ?_
          refine rl_get (pc := 96) Γ nd_Pl_join_96 hO (k := 6) (rl_o3 E) rfl (by decide) rfl ⟨ni_Pl, nf_Pl_41⟩ ?_
          refine rl_iload_n (pc := 99) Γ nd_Pl_join_99 1 rfl ?_
          obtain ⟨q12, h⟩ := rl_if h
          refine rl_ald (pc := 100) Γ nd_Pl_join_100 hO (rl_a15 E) (rl_ib_in q12) ?_
          refine rl_aload_n (pc := 101) Γ nd_Pl_join_101 2 rfl ?_
          refine rl_get (pc := 102) Γ nd_Pl_join_102 hO (k := 6) (rl_o3 E) rfl (by decide) rfl ⟨ni_Pl, nf_Pl_41⟩ ?_
          refine rl_iload_n (pc := 105) Γ nd_Pl_join_105 0 rfl ?_
          obtain ⟨q13, h⟩ := rl_if h
          refine rl_ald (pc := 106) Γ nd_Pl_join_106 hO (rl_a15 E) (rl_ib_in q13) ?_
          obtain ⟨q14, q14h, h⟩ := rl_bd h
          refine rl_callVv (As := [.ref (E.1 (rl_cv q1.1)), .ref (E.1 (rl_cv q2.1))]) (pc := 107) Γ nd_Pl_join_107 hO (rw_Cu_joinAbove l E (rl_cv x1) (rl_cv q1.1) (rl_cv q2.1) (rl_cv_ok q11) (rl_cv_ok q12) (rl_cv_ok q13) q9.2 q14 q14h) 2 nm_Pl_159 nm_im_Cu_joinAbove nm_se_Cu_joinAbove nm_ini_Cu nh_Cu_joinAbove (rl_oC (rl_cv_ok q11)) rfl ⟨rfl, rfl⟩ (by decide +kernel) (Nat.le_of_ble_eq_true rfl) (Nat.le_of_ble_eq_true rfl) ⟨Nat.zero_le _, Nat.zero_le _⟩ (Nat.le_of_ble_eq_true rfl) rfl rfl ?_
          exact rl_vret (pc := 110) Γ nd_Pl_join_110 hr hk h
        · have h := rl_ift q10 h
          refine rl_aload_n (pc := 65) Γ nd_Pl_join_65 2 rfl ?_
          refine rl_get (pc := 66) Γ nd_Pl_join_66 hO (k := 6) (rl_o3 E) rfl (by decide) rfl ⟨ni_Pl, nf_Pl_41⟩ ?_
          refine rl_iload_n (pc := 69) Γ nd_Pl_join_69 3 rfl ?_
          obtain ⟨q15, h⟩ := rl_if h
          refine rl_ald (pc := 70) Γ nd_Pl_join_70 hO (rl_a15 E) (rl_ib_in q15) ?_
          refine rl_aload_n (pc := 71) Γ nd_Pl_join_71 2 rfl ?_
          refine rl_get (pc := 72) Γ nd_Pl_join_72 hO (k := 6) (rl_o3 E) rfl (by decide) rfl ⟨ni_Pl, nf_Pl_41⟩ ?_
          refine rl_iload_n (pc := 75) Γ nd_Pl_join_75 1 rfl ?_
          obtain ⟨q16, h⟩ := rl_if h
          refine rl_ald (pc := 76) Γ nd_Pl_join_76 hO (rl_a15 E) (rl_ib_in q16) ?_
          refine rl_aload_n (pc := 77) Γ nd_Pl_join_77 2 rfl ?_
          refine rl_get (pc := 78) Γ nd_Pl_join_78 hO (k := 6) (rl_o3 E) rfl (by decide) rfl ⟨ni_Pl, nf_Pl_41⟩ ?_
          refine rl_iload_n (pc := 81) Γ nd_Pl_join_81 0 rfl ?_
          obtain ⟨q17, h⟩ := rl_if h
          refine rl_ald (pc := 82) Γ nd_Pl_join_82 hO (rl_a15 E) (rl_ib_in q17) ?_
          obtain ⟨q18, q18h, h⟩ := rl_bd h
          refine rl_callVv (As := [.ref (E.1 (rl_cv q1.1)), .ref (E.1 (rl_cv q2.1))]) (pc := 83) Γ nd_Pl_join_83 hO (rw_Cu_joinBeside l E (rl_cv x1) (rl_cv q1.1) (rl_cv q2.1) (rl_cv_ok q15) (rl_cv_ok q16) (rl_cv_ok q17) q9.2 q18 q18h) 2 nm_Pl_155 nm_im_Cu_joinBeside nm_se_Cu_joinBeside nm_ini_Cu nh_Cu_joinBeside (rl_oC (rl_cv_ok q15)) rfl ⟨rfl, rfl⟩ (by decide +kernel) (Nat.le_of_ble_eq_true rfl) (Nat.le_of_ble_eq_true rfl) ⟨Nat.zero_le _, Nat.zero_le _⟩ (Nat.le_of_ble_eq_true rfl) rfl rfl ?_
          refine rl_goto (tgt := 110) (pc := 86) Γ nd_Pl_join_86 (by decide) ?_
          exact rl_vret (pc := 110) Γ nd_Pl_join_110 hr hk h
      · have h := rl_ift q8 h
        exact rl_vret (pc := 51) Γ nd_Pl_join_51 hr hk h
def rf_Rl_sizesOf (x1 : Int32) (σ : rl_M) : Option (Int32 × rl_M) := (if x1 < 0 then some (0, σ) else (if 6 ≤ x1 then some (0, σ) else (if rl_ib x1 6 = true then some (σ 5 x1.toNatClampNeg, σ) else none)))
set_option maxHeartbeats 4000000 in
set_option maxRecDepth 100000 in
theorem rw_Rl_sizesOf (l : Launch) (E : rl_E) (x1 : Int32)  (σ : rl_M) (r : Int32 × rl_M) (h : rf_Rl_sizesOf x1 σ = some r) : Met l ny_Rl_sizesOf nw_Rl_sizesOf nr_Rl_sizesOf (rl_P E [.ref (E.1 4), .int x1] σ) (rl_Q E (rl_ri r.1) r.2) 0 0 (rl_A E) := by
  refine Met.ofW (cc := nc_Rl_sizesOf) (maxL := 2) (ret := (some .int)) (by decide) rfl ?_
  intro p e s m args below meth c s₁ B hml hv
  obtain ⟨rfl, hP, hO⟩ := hv
  have Γ : CallFix p m c nc_Rl_sizesOf 2 s ([.ref (E.1 4), .int x1] : List Value).toArray rl_TT nR_Rl := ⟨B.exec, B.bytes, hml, findClass_of_methodNamed B.named, fun w hw => atoms_spec (ws := nw_Rl_sizesOf) B.pre w (List.mem_cons_of_mem _ hw)⟩
  have hr := B.returns
  have hk := B.notSynchronized
  refine rl_start (R := nr_Rl_sizesOf) (Q := rl_QM below _ s E rl_ri r) (nL := 2) (av := [.ref (E.1 4), .int x1]) (σ := σ) hP (Nat.le_of_ble_eq_true rfl) ?_
  unfold rf_Rl_sizesOf at h
  refine rl_iload_n (pc := 0) Γ nd_Rl_sizesOf_0 1 rfl ?_
  refine rl_if_lt (tgt := 19) (pc := 1) Γ nd_Rl_sizesOf_1 (by decide) (fun q1 => ?_) (fun q1 => ?_)
  · have h := rl_ift q1 h
    refine rl_iconst (v := 0) (pc := 19) Γ nd_Rl_sizesOf_19 (by decide) ?_
    exact rl_iret (pc := 20) Γ nd_Rl_sizesOf_20 hr hk h
  · have h := rl_iff q1 h
    refine rl_iload_n (pc := 4) Γ nd_Rl_sizesOf_4 1 rfl ?_
    refine rl_bipush (v := 6) (pc := 5) Γ nd_Rl_sizesOf_5 (by decide) ?_
    refine rl_icmp_ge (tgt := 19) (pc := 7) Γ nd_Rl_sizesOf_7 (by decide) (fun q2 => ?_) (fun q2 => ?_)
    · have h := rl_ift q2 h
      refine rl_iconst (v := 0) (pc := 19) Γ nd_Rl_sizesOf_19 (by decide) ?_
      exact rl_iret (pc := 20) Γ nd_Rl_sizesOf_20 hr hk h
    · have h := rl_iff q2 h
      refine rl_aload_n (pc := 10) Γ nd_Rl_sizesOf_10 0 rfl ?_
      refine rl_get (pc := 11) Γ nd_Rl_sizesOf_11 hO (k := 1) (rl_o4 E) rfl (by decide) rfl ⟨ni_Rl, nf_Rl_15⟩ ?_
      refine rl_iload_n (pc := 14) Γ nd_Rl_sizesOf_14 1 rfl ?_
      obtain ⟨q3, h⟩ := rl_if h
      refine rl_ild (pc := 15) Γ nd_Rl_sizesOf_15 hO (rl_a5 E) (rl_ib_in q3) ?_
      refine rl_goto (tgt := 20) (pc := 16) Γ nd_Rl_sizesOf_16 (by decide) ?_
      exact rl_iret (pc := 20) Γ nd_Rl_sizesOf_20 hr hk h
def rf_Rl_slot_J24 (x0 : Int32) (x1 : Int32) (s0 : Int32)  (σ : rl_M) : Option (Int32 × rl_M) := (if s0 = 0 then some ((-1), σ) else some ((x0 * 4) + x1, σ))
def rf_Rl_slot_J23 (x0 : Int32) (x1 : Int32)  (σ : rl_M) : Option (Int32 × rl_M) := rf_Rl_slot_J24 x0 x1 0  σ
def rf_Rl_slot (x0 : Int32) (x1 : Int32) (σ : rl_M) : Option (Int32 × rl_M) := (if x0 < 0 then rf_Rl_slot_J23 x0 x1  σ else (if 6 ≤ x0 then rf_Rl_slot_J23 x0 x1  σ else (if x1 < 0 then rf_Rl_slot_J23 x0 x1  σ else (if 4 ≤ x1 then rf_Rl_slot_J23 x0 x1  σ else rf_Rl_slot_J24 x0 x1 1  σ))))
set_option maxHeartbeats 4000000 in
set_option maxRecDepth 100000 in
theorem rw_Rl_slot_J24 {p : Program} {l : Launch} {e : Env} {s : State} {m : MethodId} {args : Array Value} {below : List Frame} {meth : Method} {c : Code} {E : rl_E} (Γ : CallFix p m c nc_Rl_slot 3 s args rl_TT nR_Rl) (hO : rl_Ok E s) (hr : meth.sig.returnType = (some .int)) (hk : meth.locks = false)  (x0 : Int32) (x1 : Int32) (s0 : Int32)   {r : Int32 × rl_M}  (σ : rl_M) (h : rf_Rl_slot_J24 x0 x1 s0  σ = some r) : rl_G p l e nr_Rl_slot s m args below meth c 3 E 0 0 (rl_QM below args s E rl_ri r) σ 24 [(0, .int x0), (1, .int x1)] [.int s0] := by
  unfold rf_Rl_slot_J24 at h
  refine rl_istore_n (L' := [(2, .int s0), (0, .int x0), (1, .int x1)]) (pc := 24) Γ nd_Rl_slot_24 (by decide) rfl ?_
  refine rl_iload_n (pc := 25) Γ nd_Rl_slot_25 0 rfl ?_
  refine rl_if_eq (tgt := 37) (pc := 26) Γ nd_Rl_slot_26 (by decide) (fun q2 => ?_) (fun q2 => ?_)
  · have h := rl_ift q2 h
    refine rl_iconst (v := (-1)) (pc := 37) Γ nd_Rl_slot_37 (by decide) ?_
    exact rl_iret (pc := 38) Γ nd_Rl_slot_38 hr hk h
  · have h := rl_iff q2 h
    refine rl_iload_n (pc := 29) Γ nd_Rl_slot_29 1 rfl ?_
    refine rl_iconst (v := 4) (pc := 30) Γ nd_Rl_slot_30 (by decide) ?_
    refine rl_imul (pc := 31) Γ nd_Rl_slot_31 ?_
    refine rl_iload_n (pc := 32) Γ nd_Rl_slot_32 2 rfl ?_
    refine rl_iadd (pc := 33) Γ nd_Rl_slot_33 ?_
    refine rl_goto (tgt := 38) (pc := 34) Γ nd_Rl_slot_34 (by decide) ?_
    exact rl_iret (pc := 38) Γ nd_Rl_slot_38 hr hk h
set_option maxHeartbeats 4000000 in
set_option maxRecDepth 100000 in
theorem rw_Rl_slot_J23 {p : Program} {l : Launch} {e : Env} {s : State} {m : MethodId} {args : Array Value} {below : List Frame} {meth : Method} {c : Code} {E : rl_E} (Γ : CallFix p m c nc_Rl_slot 3 s args rl_TT nR_Rl) (hO : rl_Ok E s) (hr : meth.sig.returnType = (some .int)) (hk : meth.locks = false)  (x0 : Int32) (x1 : Int32)   {r : Int32 × rl_M}  (σ : rl_M) (h : rf_Rl_slot_J23 x0 x1  σ = some r) : rl_G p l e nr_Rl_slot s m args below meth c 3 E 0 0 (rl_QM below args s E rl_ri r) σ 23 [(0, .int x0), (1, .int x1)] [] := by
  unfold rf_Rl_slot_J23 at h
  refine rl_iconst (v := 0) (pc := 23) Γ nd_Rl_slot_23 (by decide) ?_
  exact rl_Gsub [0, 1] rfl (rw_Rl_slot_J24 Γ hO hr hk x0 x1 0   σ h)
set_option maxHeartbeats 4000000 in
set_option maxRecDepth 100000 in
theorem rw_Rl_slot (l : Launch) (E : rl_E) (x0 : Int32) (x1 : Int32)  (σ : rl_M) (r : Int32 × rl_M) (h : rf_Rl_slot x0 x1 σ = some r) : Met l ny_Rl_slot nw_Rl_slot nr_Rl_slot (rl_P E [.int x0, .int x1] σ) (rl_Q E (rl_ri r.1) r.2) 0 0 (rl_A E) := by
  refine Met.ofW (cc := nc_Rl_slot) (maxL := 3) (ret := (some .int)) (by decide) rfl ?_
  intro p e s m args below meth c s₁ B hml hv
  obtain ⟨rfl, hP, hO⟩ := hv
  have Γ : CallFix p m c nc_Rl_slot 3 s ([.int x0, .int x1] : List Value).toArray rl_TT nR_Rl := ⟨B.exec, B.bytes, hml, findClass_of_methodNamed B.named, fun w hw => atoms_spec (ws := nw_Rl_slot) B.pre w (List.mem_cons_of_mem _ hw)⟩
  have hr := B.returns
  have hk := B.notSynchronized
  refine rl_start (R := nr_Rl_slot) (Q := rl_QM below _ s E rl_ri r) (nL := 3) (av := [.int x0, .int x1]) (σ := σ) hP (Nat.le_of_ble_eq_true rfl) ?_
  unfold rf_Rl_slot at h
  refine rl_iload_n (pc := 0) Γ nd_Rl_slot_0 0 rfl ?_
  refine rl_if_lt (tgt := 23) (pc := 1) Γ nd_Rl_slot_1 (by decide) (fun q1 => ?_) (fun q1 => ?_)
  · have h := rl_ift q1 h
    exact rl_Gsub [0, 1] rfl (rw_Rl_slot_J23 Γ hO hr hk x0 x1   σ h)
  · have h := rl_iff q1 h
    refine rl_iload_n (pc := 4) Γ nd_Rl_slot_4 0 rfl ?_
    refine rl_bipush (v := 6) (pc := 5) Γ nd_Rl_slot_5 (by decide) ?_
    refine rl_icmp_ge (tgt := 23) (pc := 7) Γ nd_Rl_slot_7 (by decide) (fun q3 => ?_) (fun q3 => ?_)
    · have h := rl_ift q3 h
      exact rl_Gsub [0, 1] rfl (rw_Rl_slot_J23 Γ hO hr hk x0 x1   σ h)
    · have h := rl_iff q3 h
      refine rl_iload_n (pc := 10) Γ nd_Rl_slot_10 1 rfl ?_
      refine rl_if_lt (tgt := 23) (pc := 11) Γ nd_Rl_slot_11 (by decide) (fun q4 => ?_) (fun q4 => ?_)
      · have h := rl_ift q4 h
        exact rl_Gsub [0, 1] rfl (rw_Rl_slot_J23 Γ hO hr hk x0 x1   σ h)
      · have h := rl_iff q4 h
        refine rl_iload_n (pc := 14) Γ nd_Rl_slot_14 1 rfl ?_
        refine rl_iconst (v := 4) (pc := 15) Γ nd_Rl_slot_15 (by decide) ?_
        refine rl_icmp_ge (tgt := 23) (pc := 16) Γ nd_Rl_slot_16 (by decide) (fun q5 => ?_) (fun q5 => ?_)
        · have h := rl_ift q5 h
          exact rl_Gsub [0, 1] rfl (rw_Rl_slot_J23 Γ hO hr hk x0 x1   σ h)
        · have h := rl_iff q5 h
          refine rl_iconst (v := 1) (pc := 19) Γ nd_Rl_slot_19 (by decide) ?_
          refine rl_goto (tgt := 24) (pc := 20) Γ nd_Rl_slot_20 (by decide) ?_
          exact rl_Gsub [0, 1] rfl (rw_Rl_slot_J24 Γ hO hr hk x0 x1 1   σ h)
def rf_Rl_widthOf (x1 : Int32) (x2 : Int32) (σ : rl_M) : Option (Int32 × rl_M) := ((rf_Rl_slot x1 x2 σ).bind (fun q1 => (if q1.1 = ((-1)) then some (0, q1.2) else (if rl_ib q1.1 24 = true then some (q1.2 6 q1.1.toNatClampNeg, q1.2) else none))))
set_option maxHeartbeats 4000000 in
set_option maxRecDepth 100000 in
theorem rw_Rl_widthOf (l : Launch) (E : rl_E) (x1 : Int32) (x2 : Int32)  (σ : rl_M) (r : Int32 × rl_M) (h : rf_Rl_widthOf x1 x2 σ = some r) : Met l ny_Rl_widthOf nw_Rl_widthOf nr_Rl_widthOf (rl_P E [.ref (E.1 4), .int x1, .int x2] σ) (rl_Q E (rl_ri r.1) r.2) 0 0 (rl_A E) := by
  refine Met.ofW (cc := nc_Rl_widthOf) (maxL := 4) (ret := (some .int)) (by decide) rfl ?_
  intro p e s m args below meth c s₁ B hml hv
  obtain ⟨rfl, hP, hO⟩ := hv
  have Γ : CallFix p m c nc_Rl_widthOf 4 s ([.ref (E.1 4), .int x1, .int x2] : List Value).toArray rl_TT nR_Rl := ⟨B.exec, B.bytes, hml, findClass_of_methodNamed B.named, fun w hw => atoms_spec (ws := nw_Rl_widthOf) B.pre w (List.mem_cons_of_mem _ hw)⟩
  have hr := B.returns
  have hk := B.notSynchronized
  refine rl_start (R := nr_Rl_widthOf) (Q := rl_QM below _ s E rl_ri r) (nL := 4) (av := [.ref (E.1 4), .int x1, .int x2]) (σ := σ) hP (Nat.le_of_ble_eq_true rfl) ?_
  unfold rf_Rl_widthOf at h
  refine rl_iload_n (pc := 0) Γ nd_Rl_widthOf_0 1 rfl ?_
  refine rl_iload_n (pc := 1) Γ nd_Rl_widthOf_1 2 rfl ?_
  obtain ⟨q1, q1h, h⟩ := rl_bd h
  refine rl_callSi (As := [.int x1, .int x2]) (pc := 2) Γ nd_Rl_widthOf_2 hO (rw_Rl_slot l E x1 x2  σ q1 q1h) 2 nm_Rl_29 nm_st_Rl_slot nm_ini_Rl nh_Rl_slot ⟨rfl, rfl⟩ (by decide +kernel) (Nat.le_of_ble_eq_true rfl) (Nat.le_of_ble_eq_true rfl) ⟨Nat.zero_le _, Nat.zero_le _⟩ (Nat.le_of_ble_eq_true rfl) rfl rfl ?_
  refine rl_istore_n (L' := [(3, .int q1.1), (0, .ref (E.1 4)), (1, .int x1), (2, .int x2)]) (pc := 5) Γ nd_Rl_widthOf_5 (by decide) rfl ?_
  refine rl_iload_n (pc := 6) Γ nd_Rl_widthOf_6 0 rfl ?_
  refine rl_iconst (v := (-1)) (pc := 7) Γ nd_Rl_widthOf_7 (by decide) ?_
  refine rl_icmp_ne (tgt := 15) (pc := 8) Γ nd_Rl_widthOf_8 (by decide) (fun q2 => ?_) (fun q2 => ?_)
  · have h := rl_iff q2 h
    refine rl_aload_n (pc := 15) Γ nd_Rl_widthOf_15 1 rfl ?_
    refine rl_get (pc := 16) Γ nd_Rl_widthOf_16 hO (k := 2) (rl_o4 E) rfl (by decide) rfl ⟨ni_Rl, nf_Rl_19⟩ ?_
    refine rl_iload_n (pc := 19) Γ nd_Rl_widthOf_19 0 rfl ?_
    obtain ⟨q3, h⟩ := rl_if h
    refine rl_ild (pc := 20) Γ nd_Rl_widthOf_20 hO (rl_a6 E) (rl_ib_in q3) ?_
    exact rl_iret (pc := 21) Γ nd_Rl_widthOf_21 hr hk h
  · have h := rl_ift q2 h
    refine rl_iconst (v := 0) (pc := 11) Γ nd_Rl_widthOf_11 (by decide) ?_
    refine rl_goto (tgt := 21) (pc := 12) Γ nd_Rl_widthOf_12 (by decide) ?_
    exact rl_iret (pc := 21) Γ nd_Rl_widthOf_21 hr hk h
def rf_Rl_heightOf (x1 : Int32) (x2 : Int32) (σ : rl_M) : Option (Int32 × rl_M) := ((rf_Rl_slot x1 x2 σ).bind (fun q1 => (if q1.1 = ((-1)) then some (0, q1.2) else (if rl_ib q1.1 24 = true then some (q1.2 7 q1.1.toNatClampNeg, q1.2) else none))))
set_option maxHeartbeats 4000000 in
set_option maxRecDepth 100000 in
theorem rw_Rl_heightOf (l : Launch) (E : rl_E) (x1 : Int32) (x2 : Int32)  (σ : rl_M) (r : Int32 × rl_M) (h : rf_Rl_heightOf x1 x2 σ = some r) : Met l ny_Rl_heightOf nw_Rl_heightOf nr_Rl_heightOf (rl_P E [.ref (E.1 4), .int x1, .int x2] σ) (rl_Q E (rl_ri r.1) r.2) 0 0 (rl_A E) := by
  refine Met.ofW (cc := nc_Rl_heightOf) (maxL := 4) (ret := (some .int)) (by decide) rfl ?_
  intro p e s m args below meth c s₁ B hml hv
  obtain ⟨rfl, hP, hO⟩ := hv
  have Γ : CallFix p m c nc_Rl_heightOf 4 s ([.ref (E.1 4), .int x1, .int x2] : List Value).toArray rl_TT nR_Rl := ⟨B.exec, B.bytes, hml, findClass_of_methodNamed B.named, fun w hw => atoms_spec (ws := nw_Rl_heightOf) B.pre w (List.mem_cons_of_mem _ hw)⟩
  have hr := B.returns
  have hk := B.notSynchronized
  refine rl_start (R := nr_Rl_heightOf) (Q := rl_QM below _ s E rl_ri r) (nL := 4) (av := [.ref (E.1 4), .int x1, .int x2]) (σ := σ) hP (Nat.le_of_ble_eq_true rfl) ?_
  unfold rf_Rl_heightOf at h
  refine rl_iload_n (pc := 0) Γ nd_Rl_heightOf_0 1 rfl ?_
  refine rl_iload_n (pc := 1) Γ nd_Rl_heightOf_1 2 rfl ?_
  obtain ⟨q1, q1h, h⟩ := rl_bd h
  refine rl_callSi (As := [.int x1, .int x2]) (pc := 2) Γ nd_Rl_heightOf_2 hO (rw_Rl_slot l E x1 x2  σ q1 q1h) 2 nm_Rl_29 nm_st_Rl_slot nm_ini_Rl nh_Rl_slot ⟨rfl, rfl⟩ (by decide +kernel) (Nat.le_of_ble_eq_true rfl) (Nat.le_of_ble_eq_true rfl) ⟨Nat.zero_le _, Nat.zero_le _⟩ (Nat.le_of_ble_eq_true rfl) rfl rfl ?_
  refine rl_istore_n (L' := [(3, .int q1.1), (0, .ref (E.1 4)), (1, .int x1), (2, .int x2)]) (pc := 5) Γ nd_Rl_heightOf_5 (by decide) rfl ?_
  refine rl_iload_n (pc := 6) Γ nd_Rl_heightOf_6 0 rfl ?_
  refine rl_iconst (v := (-1)) (pc := 7) Γ nd_Rl_heightOf_7 (by decide) ?_
  refine rl_icmp_ne (tgt := 15) (pc := 8) Γ nd_Rl_heightOf_8 (by decide) (fun q2 => ?_) (fun q2 => ?_)
  · have h := rl_iff q2 h
    refine rl_aload_n (pc := 15) Γ nd_Rl_heightOf_15 1 rfl ?_
    refine rl_get (pc := 16) Γ nd_Rl_heightOf_16 hO (k := 3) (rl_o4 E) rfl (by decide) rfl ⟨ni_Rl, nf_Rl_22⟩ ?_
    refine rl_iload_n (pc := 19) Γ nd_Rl_heightOf_19 0 rfl ?_
    obtain ⟨q3, h⟩ := rl_if h
    refine rl_ild (pc := 20) Γ nd_Rl_heightOf_20 hO (rl_a7 E) (rl_ib_in q3) ?_
    exact rl_iret (pc := 21) Γ nd_Rl_heightOf_21 hr hk h
  · have h := rl_ift q2 h
    refine rl_iconst (v := 0) (pc := 11) Γ nd_Rl_heightOf_11 (by decide) ?_
    refine rl_goto (tgt := 21) (pc := 12) Γ nd_Rl_heightOf_12 (by decide) ?_
    exact rl_iret (pc := 21) Γ nd_Rl_heightOf_21 hr hk h
def rf_Pl_takeSizes_L23 (x1 : Int32) (x2 : Int32)  : Nat → Int32 → rl_M → Option (Int32 × rl_M)
  | 0, _, _ => none
  | n + 1, x3, σ => ((rf_Rl_sizesOf x2 σ).bind (fun q5 => (if q5.1 ≤ x3 then some (0, q5.2) else (if rl_ib x1 11 = true then ((rf_Rl_widthOf x2 x3 q5.2).bind (fun q8 => ((rf_Rl_heightOf x2 x3 q8.2).bind (fun q9 => ((rf_Cu_offer (rl_cv x1) q8.1 q9.1 q9.2).bind (fun q10 => rf_Pl_takeSizes_L23 x1 x2  n (x3 + 1) q10.2)))))) else none))))
def rf_Pl_takeSizes (x1 : Int32) (x2 : Int32) (σ : rl_M) : Option (Int32 × rl_M) := ((rf_St_has x1 σ).bind (fun q1 => (if q1.1 = 0 then some (0, q1.2) else (if rl_ib x1 11 = true then ((rf_Cu_clear (rl_cv x1) q1.2).bind (fun q4 => rf_Pl_takeSizes_L23 x1 x2  10000 0 q4.2)) else none))))
set_option maxHeartbeats 4000000 in
set_option maxRecDepth 100000 in
theorem rw_Pl_takeSizes_L23 {p : Program} {l : Launch} {e : Env} {s : State} {m : MethodId} {args : Array Value} {below : List Frame} {meth : Method} {c : Code} {E : rl_E} (Γ : CallFix p m c nc_Pl_takeSizes 4 s args rl_TT nR_Pl) (hO : rl_Ok E s) (hr : meth.sig.returnType = none) (hk : meth.locks = false) (x1 : Int32) (x2 : Int32)   {r : Int32 × rl_M}  : ∀ (n : Nat) (x3 : Int32) (σ : rl_M), rf_Pl_takeSizes_L23 x1 x2  n x3 σ = some r → rl_G p l e nr_Pl_takeSizes s m args below meth c 4 E 0 0 (rl_QM below args s E rl_rv r) σ 23 [(0, .ref (E.1 3)), (1, .int x1), (2, .int x2), (3, .int x3)] [] := by
  intro n
  induction n with
  | zero =>
    intro x3 σ h
    exact (rl_ns (show none = some r from h)).elim
  | succ n ih =>
    intro x3 σ h
    unfold rf_Pl_takeSizes_L23 at h
    refine rl_iload_n (pc := 23) Γ nd_Pl_takeSizes_23 3 rfl ?_
    refine rl_aload_n (pc := 24) Γ nd_Pl_takeSizes_24 0 rfl ?_
    refine rl_get (pc := 25) Γ nd_Pl_takeSizes_25 hO (k := 0) (rl_o3 E) rfl (by decide) rfl ⟨ni_Pl, nf_Pl_12⟩ ?_
    refine rl_iload_n (pc := 28) Γ nd_Pl_takeSizes_28 2 rfl ?_
    obtain ⟨q5, q5h, h⟩ := rl_bd h
    refine rl_callVi (As := [.int x2]) (pc := 29) Γ nd_Pl_takeSizes_29 hO (rw_Rl_sizesOf l E x2  σ q5 q5h) 1 nm_Pl_134 nm_im_Rl_sizesOf nm_se_Rl_sizesOf nm_ini_Rl nh_Rl_sizesOf (rl_o4 E) rfl ⟨rfl, rfl⟩ (by decide +kernel) (Nat.le_of_ble_eq_true rfl) (Nat.le_of_ble_eq_true rfl) ⟨Nat.zero_le _, Nat.zero_le _⟩ (Nat.le_of_ble_eq_true rfl) rfl rfl ?_
    refine rl_icmp_ge (tgt := 68) (pc := 32) Γ nd_Pl_takeSizes_32 (by decide) (fun q6 => ?_) (fun q6 => ?_)
    · have h := rl_ift q6 h
      exact rl_vret (pc := 68) Γ nd_Pl_takeSizes_68 hr hk h
    · have h := rl_iff q6 h
      refine rl_aload_n (pc := 35) Γ nd_Pl_takeSizes_35 0 rfl ?_
      refine rl_get (pc := 36) Γ nd_Pl_takeSizes_36 hO (k := 6) (rl_o3 E) rfl (by decide) rfl ⟨ni_Pl, nf_Pl_41⟩ ?_
      refine rl_iload_n (pc := 39) Γ nd_Pl_takeSizes_39 1 rfl ?_
      obtain ⟨q7, h⟩ := rl_if h
      refine rl_ald (pc := 40) Γ nd_Pl_takeSizes_40 hO (rl_a15 E) (rl_ib_in q7) ?_
      refine rl_aload_n (pc := 41) Γ nd_Pl_takeSizes_41 0 rfl ?_
      refine rl_get (pc := 42) Γ nd_Pl_takeSizes_42 hO (k := 0) (rl_o3 E) rfl (by decide) rfl ⟨ni_Pl, nf_Pl_12⟩ ?_
      refine rl_iload_n (pc := 45) Γ nd_Pl_takeSizes_45 2 rfl ?_
      refine rl_iload_n (pc := 46) Γ nd_Pl_takeSizes_46 3 rfl ?_
      obtain ⟨q8, q8h, h⟩ := rl_bd h
      refine rl_callVi (As := [.int x2, .int x3]) (pc := 47) Γ nd_Pl_takeSizes_47 hO (rw_Rl_widthOf l E x2 x3  q5.2 q8 q8h) 2 nm_Pl_137 nm_im_Rl_widthOf nm_se_Rl_widthOf nm_ini_Rl nh_Rl_widthOf (rl_o4 E) rfl ⟨rfl, rfl⟩ (by decide +kernel) (Nat.le_of_ble_eq_true rfl) (Nat.le_of_ble_eq_true rfl) ⟨Nat.zero_le _, Nat.zero_le _⟩ (Nat.le_of_ble_eq_true rfl) rfl rfl ?_
      refine rl_aload_n (pc := 50) Γ nd_Pl_takeSizes_50 0 rfl ?_
      refine rl_get (pc := 51) Γ nd_Pl_takeSizes_51 hO (k := 0) (rl_o3 E) rfl (by decide) rfl ⟨ni_Pl, nf_Pl_12⟩ ?_
      refine rl_iload_n (pc := 54) Γ nd_Pl_takeSizes_54 2 rfl ?_
      refine rl_iload_n (pc := 55) Γ nd_Pl_takeSizes_55 3 rfl ?_
      obtain ⟨q9, q9h, h⟩ := rl_bd h
      refine rl_callVi (As := [.int x2, .int x3]) (pc := 56) Γ nd_Pl_takeSizes_56 hO (rw_Rl_heightOf l E x2 x3  q8.2 q9 q9h) 2 nm_Pl_140 nm_im_Rl_heightOf nm_se_Rl_heightOf nm_ini_Rl nh_Rl_heightOf (rl_o4 E) rfl ⟨rfl, rfl⟩ (by decide +kernel) (Nat.le_of_ble_eq_true rfl) (Nat.le_of_ble_eq_true rfl) ⟨Nat.zero_le _, Nat.zero_le _⟩ (Nat.le_of_ble_eq_true rfl) rfl rfl ?_
      obtain ⟨q10, q10h, h⟩ := rl_bd h
      refine rl_callVv (As := [.int q8.1, .int q9.1]) (pc := 59) Γ nd_Pl_takeSizes_59 hO (rw_Cu_offer l E (rl_cv x1) q8.1 q9.1 (rl_cv_ok q7) q9.2 q10 q10h) 2 nm_Pl_143 nm_im_Cu_offer nm_se_Cu_offer nm_ini_Cu nh_Cu_offer (rl_oC (rl_cv_ok q7)) rfl ⟨rfl, rfl⟩ (by decide +kernel) (Nat.le_of_ble_eq_true rfl) (Nat.le_of_ble_eq_true rfl) ⟨Nat.zero_le _, Nat.zero_le _⟩ (Nat.le_of_ble_eq_true rfl) rfl rfl ?_
      refine rl_iinc (v := x3 + 1) (L' := [(3, .int (x3 + 1)), (0, .ref (E.1 3)), (1, .int x1), (2, .int x2)]) (pc := 62) Γ nd_Pl_takeSizes_62 3 rfl rfl (by decide) rfl ?_
      refine rl_goto (tgt := 23) (pc := 65) Γ nd_Pl_takeSizes_65 (by decide) ?_
      exact rl_Gsub [1, 2, 3, 0] rfl (ih (x3 + 1) q10.2 h)
set_option maxHeartbeats 4000000 in
set_option maxRecDepth 100000 in
theorem rw_Pl_takeSizes (l : Launch) (E : rl_E) (x1 : Int32) (x2 : Int32)  (σ : rl_M) (r : Int32 × rl_M) (h : rf_Pl_takeSizes x1 x2 σ = some r) : Met l ny_Pl_takeSizes nw_Pl_takeSizes nr_Pl_takeSizes (rl_P E [.ref (E.1 3), .int x1, .int x2] σ) (rl_Q E (rl_rv r.1) r.2) 0 0 (rl_A E) := by
  refine Met.ofW (cc := nc_Pl_takeSizes) (maxL := 4) (ret := none) (by decide) rfl ?_
  intro p e s m args below meth c s₁ B hml hv
  obtain ⟨rfl, hP, hO⟩ := hv
  have Γ : CallFix p m c nc_Pl_takeSizes 4 s ([.ref (E.1 3), .int x1, .int x2] : List Value).toArray rl_TT nR_Pl := ⟨B.exec, B.bytes, hml, findClass_of_methodNamed B.named, fun w hw => atoms_spec (ws := nw_Pl_takeSizes) B.pre w (List.mem_cons_of_mem _ hw)⟩
  have hr := B.returns
  have hk := B.notSynchronized
  refine rl_start (R := nr_Pl_takeSizes) (Q := rl_QM below _ s E rl_rv r) (nL := 4) (av := [.ref (E.1 3), .int x1, .int x2]) (σ := σ) hP (Nat.le_of_ble_eq_true rfl) ?_
  unfold rf_Pl_takeSizes at h
  refine rl_aload_n (pc := 0) Γ nd_Pl_takeSizes_0 0 rfl ?_
  refine rl_get (pc := 1) Γ nd_Pl_takeSizes_1 hO (k := 1) (rl_o3 E) rfl (by decide) rfl ⟨ni_Pl, nf_Pl_21⟩ ?_
  refine rl_iload_n (pc := 4) Γ nd_Pl_takeSizes_4 1 rfl ?_
  obtain ⟨q1, q1h, h⟩ := rl_bd h
  refine rl_callVi (As := [.int x1]) (pc := 5) Γ nd_Pl_takeSizes_5 hO (rw_St_has l E x1  σ q1 q1h) 1 nm_Pl_91 nm_im_St_has nm_se_St_has nm_ini_St nh_St_has (rl_o8 E) rfl ⟨rfl, rfl⟩ (by decide +kernel) (Nat.le_of_ble_eq_true rfl) (Nat.le_of_ble_eq_true rfl) ⟨Nat.zero_le _, Nat.zero_le _⟩ (Nat.le_of_ble_eq_true rfl) rfl rfl ?_
  refine rl_if_ne (tgt := 12) (pc := 8) Γ nd_Pl_takeSizes_8 (by decide) (fun q2 => ?_) (fun q2 => ?_)
  · have h := rl_iff q2 h
    refine rl_aload_n (pc := 12) Γ nd_Pl_takeSizes_12 0 rfl ?_
    refine rl_get (pc := 13) Γ nd_Pl_takeSizes_13 hO (k := 6) (rl_o3 E) rfl (by decide) rfl ⟨ni_Pl, nf_Pl_41⟩ ?_
    refine rl_iload_n (pc := 16) Γ nd_Pl_takeSizes_16 1 rfl ?_
    obtain ⟨q3, h⟩ := rl_if h
    refine rl_ald (pc := 17) Γ nd_Pl_takeSizes_17 hO (rl_a15 E) (rl_ib_in q3) ?_
    obtain ⟨q4, q4h, h⟩ := rl_bd h
    refine rl_callVv (As := []) (pc := 18) Γ nd_Pl_takeSizes_18 hO (rw_Cu_clear l E (rl_cv x1) (rl_cv_ok q3) q1.2 q4 q4h) 0 nm_Pl_124 nm_im_Cu_clear nm_se_Cu_clear nm_ini_Cu nh_Cu_clear (rl_oC (rl_cv_ok q3)) rfl ⟨rfl, rfl⟩ (by decide +kernel) (Nat.le_of_ble_eq_true rfl) (Nat.le_of_ble_eq_true rfl) ⟨Nat.zero_le _, Nat.zero_le _⟩ (Nat.le_of_ble_eq_true rfl) rfl rfl ?_
    refine rl_iconst (v := 0) (pc := 21) Γ nd_Pl_takeSizes_21 (by decide) ?_
    refine rl_istore_n (L' := [(3, .int 0), (0, .ref (E.1 3)), (1, .int x1), (2, .int x2)]) (pc := 22) Γ nd_Pl_takeSizes_22 (by decide) rfl ?_
    refine rl_Gsub [1, 2, 3, 0] rfl (rw_Pl_takeSizes_L23 Γ hO hr hk x1 x2    10000 0 q4.2 h)
  · have h := rl_ift q2 h
    exact rl_vret (pc := 11) Γ nd_Pl_takeSizes_11 hr hk h
def rf_Pl_measure_L10  (K55 : rl_M → Option (Int32 × rl_M)) : Nat → Int32 → rl_M → Option (Int32 × rl_M)
  | 0, _, _ => none
  | n + 1, x1, σ => (if (σ 8 0) ≤ x1 then K55  σ else ((rf_St_roomAt x1 σ).bind (fun q3 => (if q3.1 = ((-1)) then ((rf_Pl_join x1 q3.2).bind (fun q6 => rf_Pl_measure_L10  K55 n (x1 + 1) q6.2)) else ((rf_Pl_takeSizes x1 q3.1 q3.2).bind (fun q5 => rf_Pl_measure_L10  K55 n (x1 + 1) q5.2))))))
def rf_Pl_measure  (σ : rl_M) : Option (Int32 × rl_M) := (if (σ 3 4) = 0 then rf_Pl_measure_L10  (fun (q7m : rl_M) => ((rf_Cu_clear 56 q7m).bind (fun q8 => ((rf_St_has ((q7m 8 0) - 1) q8.2).bind (fun q9 => (if q9.1 = 0 then ((rf_Cu_leastArea 56 q9.2).bind (fun q11 => some (0, rl_su (rl_su q11.2 3 8 q11.1) 3 4 1))) else (if rl_ib ((q7m 8 0) - 1) 11 = true then ((rf_Cu_takeFitting 56 (rl_cv ((q7m 8 0) - 1)) (q9.2 3 2) (q9.2 3 3) q9.2).bind (fun q13 => ((rf_Cu_leastArea 56 q13.2).bind (fun q14 => some (0, rl_su (rl_su q14.2 3 8 q14.1) 3 4 1))))) else none))))))) 10000 0 σ else some (0, σ))
set_option maxHeartbeats 4000000 in
set_option maxRecDepth 100000 in
theorem rw_Pl_measure_L10 {p : Program} {l : Launch} {e : Env} {s : State} {m : MethodId} {args : Array Value} {below : List Frame} {meth : Method} {c : Code} {E : rl_E} (Γ : CallFix p m c nc_Pl_measure 3 s args rl_TT nR_Pl) (hO : rl_Ok E s) (hr : meth.sig.returnType = none) (hk : meth.locks = false)   (K55 : rl_M → Option (Int32 × rl_M)) {r : Int32 × rl_M} (hK55 : ∀ (σ : rl_M), K55  σ = some r → rl_G p l e nr_Pl_measure s m args below meth c 3 E 0 0 (rl_QM below args s E rl_rv r) σ 55 [(0, .ref (E.1 3))] []) : ∀ (n : Nat) (x1 : Int32) (σ : rl_M), rf_Pl_measure_L10  K55 n x1 σ = some r → rl_G p l e nr_Pl_measure s m args below meth c 3 E 0 0 (rl_QM below args s E rl_rv r) σ 10 [(0, .ref (E.1 3)), (1, .int x1)] [] := by
  intro n
  induction n with
  | zero =>
    intro x1 σ h
    exact (rl_ns (show none = some r from h)).elim
  | succ n ih =>
    intro x1 σ h
    unfold rf_Pl_measure_L10 at h
    refine rl_iload_n (pc := 10) Γ nd_Pl_measure_10 1 rfl ?_
    refine rl_aload_n (pc := 11) Γ nd_Pl_measure_11 0 rfl ?_
    refine rl_get (pc := 12) Γ nd_Pl_measure_12 hO (k := 1) (rl_o3 E) rfl (by decide) rfl ⟨ni_Pl, nf_Pl_21⟩ ?_
    refine rl_get (pc := 15) Γ nd_Pl_measure_15 hO (k := 0) (rl_o8 E) rfl (by decide) rfl ⟨ni_St, nf_Pl_110⟩ ?_
    refine rl_icmp_ge (tgt := 55) (pc := 18) Γ nd_Pl_measure_18 (by decide) (fun q2 => ?_) (fun q2 => ?_)
    · have h := rl_ift q2 h
      exact rl_Gsub [0] rfl (hK55  σ h)
    · have h := rl_iff q2 h
      refine rl_aload_n (pc := 21) Γ nd_Pl_measure_21 0 rfl ?_
      refine rl_get (pc := 22) Γ nd_Pl_measure_22 hO (k := 1) (rl_o3 E) rfl (by decide) rfl ⟨ni_Pl, nf_Pl_21⟩ ?_
      refine rl_iload_n (pc := 25) Γ nd_Pl_measure_25 1 rfl ?_
      obtain ⟨q3, q3h, h⟩ := rl_bd h
      refine rl_callVi (As := [.int x1]) (pc := 26) Γ nd_Pl_measure_26 hO (rw_St_roomAt l E x1  σ q3 q3h) 1 nm_Pl_113 nm_im_St_roomAt nm_se_St_roomAt nm_ini_St nh_St_roomAt (rl_o8 E) rfl ⟨rfl, rfl⟩ (by decide +kernel) (Nat.le_of_ble_eq_true rfl) (Nat.le_of_ble_eq_true rfl) ⟨Nat.zero_le _, Nat.zero_le _⟩ (Nat.le_of_ble_eq_true rfl) rfl rfl ?_
      refine rl_istore_n (L' := [(2, .int q3.1), (0, .ref (E.1 3)), (1, .int x1)]) (pc := 29) Γ nd_Pl_measure_29 (by decide) rfl ?_
      refine rl_iload_n (pc := 30) Γ nd_Pl_measure_30 0 rfl ?_
      refine rl_iconst (v := (-1)) (pc := 31) Γ nd_Pl_measure_31 (by decide) ?_
      refine rl_icmp_ne (tgt := 43) (pc := 32) Γ nd_Pl_measure_32 (by decide) (fun q4 => ?_) (fun q4 => ?_)
      · have h := rl_iff q4 h
        refine rl_aload_n (pc := 43) Γ nd_Pl_measure_43 1 rfl ?_
        refine rl_iload_n (pc := 44) Γ nd_Pl_measure_44 2 rfl ?_
        refine rl_iload_n (pc := 45) Γ nd_Pl_measure_45 0 rfl ?_
        obtain ⟨q5, q5h, h⟩ := rl_bd h
        refine rl_callVv (As := [.int x1, .int q3.1]) (pc := 46) Γ nd_Pl_measure_46 hO (rw_Pl_takeSizes l E x1 q3.1  q3.2 q5 q5h) 2 nm_Pl_120 nm_im_Pl_takeSizes nm_se_Pl_takeSizes nm_ini_Pl nh_Pl_takeSizes (rl_o3 E) rfl ⟨rfl, rfl⟩ (by decide +kernel) (Nat.le_of_ble_eq_true rfl) (Nat.le_of_ble_eq_true rfl) ⟨Nat.zero_le _, Nat.zero_le _⟩ (Nat.le_of_ble_eq_true rfl) rfl rfl ?_
        refine rl_iinc (v := x1 + 1) (L' := [(1, .int (x1 + 1)), (2, .int q3.1), (0, .ref (E.1 3))]) (pc := 49) Γ nd_Pl_measure_49 2 rfl rfl (by decide) rfl ?_
        refine rl_goto (tgt := 10) (pc := 52) Γ nd_Pl_measure_52 (by decide) ?_
        exact rl_Gsub [2, 0] rfl (ih (x1 + 1) q5.2 h)
      · have h := rl_ift q4 h
        refine rl_aload_n (pc := 35) Γ nd_Pl_measure_35 1 rfl ?_
        refine rl_iload_n (pc := 36) Γ nd_Pl_measure_36 2 rfl ?_
        obtain ⟨q6, q6h, h⟩ := rl_bd h
        refine rl_callVv (As := [.int x1]) (pc := 37) Γ nd_Pl_measure_37 hO (rw_Pl_join l E x1  q3.2 q6 q6h) 1 nm_Pl_116 nm_im_Pl_join nm_se_Pl_join nm_ini_Pl nh_Pl_join (rl_o3 E) rfl ⟨rfl, rfl⟩ (by decide +kernel) (Nat.le_of_ble_eq_true rfl) (Nat.le_of_ble_eq_true rfl) ⟨Nat.zero_le _, Nat.zero_le _⟩ (Nat.le_of_ble_eq_true rfl) rfl rfl ?_
        refine rl_goto (tgt := 49) (pc := 40) Γ nd_Pl_measure_40 (by decide) ?_
        refine rl_iinc (v := x1 + 1) (L' := [(1, .int (x1 + 1)), (2, .int q3.1), (0, .ref (E.1 3))]) (pc := 49) Γ nd_Pl_measure_49 2 rfl rfl (by decide) rfl ?_
        refine rl_goto (tgt := 10) (pc := 52) Γ nd_Pl_measure_52 (by decide) ?_
        exact rl_Gsub [2, 0] rfl (ih (x1 + 1) q6.2 h)
set_option maxHeartbeats 4000000 in
set_option maxRecDepth 100000 in
theorem rw_Pl_measure (l : Launch) (E : rl_E)   (σ : rl_M) (r : Int32 × rl_M) (h : rf_Pl_measure  σ = some r) : Met l ny_Pl_measure nw_Pl_measure nr_Pl_measure (rl_P E [.ref (E.1 3)] σ) (rl_Q E (rl_rv r.1) r.2) 0 0 (rl_A E) := by
  refine Met.ofW (cc := nc_Pl_measure) (maxL := 3) (ret := none) (by decide) rfl ?_
  intro p e s m args below meth c s₁ B hml hv
  obtain ⟨rfl, hP, hO⟩ := hv
  have Γ : CallFix p m c nc_Pl_measure 3 s ([.ref (E.1 3)] : List Value).toArray rl_TT nR_Pl := ⟨B.exec, B.bytes, hml, findClass_of_methodNamed B.named, fun w hw => atoms_spec (ws := nw_Pl_measure) B.pre w (List.mem_cons_of_mem _ hw)⟩
  have hr := B.returns
  have hk := B.notSynchronized
  refine rl_start (R := nr_Pl_measure) (Q := rl_QM below _ s E rl_rv r) (nL := 3) (av := [.ref (E.1 3)]) (σ := σ) hP (Nat.le_of_ble_eq_true rfl) ?_
  unfold rf_Pl_measure at h
  refine rl_aload_n (pc := 0) Γ nd_Pl_measure_0 0 rfl ?_
  refine rl_get (pc := 1) Γ nd_Pl_measure_1 hO (k := 4) (rl_o3 E) rfl (by decide) rfl ⟨ni_Pl, nf_Pl_32⟩ ?_
  refine rl_if_eq (tgt := 8) (pc := 4) Γ nd_Pl_measure_4 (by decide) (fun q1 => ?_) (fun q1 => ?_)
  · have h := rl_ift q1 h
    refine rl_iconst (v := 0) (pc := 8) Γ nd_Pl_measure_8 (by decide) ?_
    refine rl_istore_n (L' := [(1, .int 0), (0, .ref (E.1 3))]) (pc := 9) Γ nd_Pl_measure_9 (by decide) rfl ?_
    refine rl_Gsub [1, 0] rfl (rw_Pl_measure_L10 Γ hO hr hk   _ ?_ 10000 0 σ h)
    · intro q7m h
      refine rl_aload_n (pc := 55) Γ nd_Pl_measure_55 0 rfl ?_
      refine rl_get (pc := 56) Γ nd_Pl_measure_56 hO (k := 1) (rl_o3 E) rfl (by decide) rfl ⟨ni_Pl, nf_Pl_21⟩ ?_
      refine rl_get (pc := 59) Γ nd_Pl_measure_59 hO (k := 0) (rl_o8 E) rfl (by decide) rfl ⟨ni_St, nf_Pl_110⟩ ?_
      refine rl_iconst (v := 1) (pc := 62) Γ nd_Pl_measure_62 (by decide) ?_
      refine rl_isub (pc := 63) Γ nd_Pl_measure_63 ?_
      refine rl_istore_n (L' := [(1, .int ((q7m 8 0) - 1)), (0, .ref (E.1 3))]) (pc := 64) Γ nd_Pl_measure_64 (by decide) rfl ?_
      refine rl_aload_n (pc := 65) Γ nd_Pl_measure_65 1 rfl ?_
      refine rl_get (pc := 66) Γ nd_Pl_measure_66 hO (k := 7) (rl_o3 E) rfl (by decide) rfl ⟨ni_Pl, nf_Pl_46⟩ ?_
      obtain ⟨q8, q8h, h⟩ := rl_bd h
      refine rl_callVv (As := []) (pc := 69) Γ nd_Pl_measure_69 hO (rw_Cu_clear l E 56 rl_cv56 q7m q8 q8h) 0 nm_Pl_124 nm_im_Cu_clear nm_se_Cu_clear nm_ini_Cu nh_Cu_clear (rl_oC rl_cv56) rfl ⟨rfl, rfl⟩ (by decide +kernel) (Nat.le_of_ble_eq_true rfl) (Nat.le_of_ble_eq_true rfl) ⟨Nat.zero_le _, Nat.zero_le _⟩ (Nat.le_of_ble_eq_true rfl) rfl rfl ?_
      refine rl_aload_n (pc := 72) Γ nd_Pl_measure_72 1 rfl ?_
      refine rl_get (pc := 73) Γ nd_Pl_measure_73 hO (k := 1) (rl_o3 E) rfl (by decide) rfl ⟨ni_Pl, nf_Pl_21⟩ ?_
      refine rl_iload_n (pc := 76) Γ nd_Pl_measure_76 0 rfl ?_
      obtain ⟨q9, q9h, h⟩ := rl_bd h
      refine rl_callVi (As := [.int ((q7m 8 0) - 1)]) (pc := 77) Γ nd_Pl_measure_77 hO (rw_St_has l E ((q7m 8 0) - 1)  q8.2 q9 q9h) 1 nm_Pl_91 nm_im_St_has nm_se_St_has nm_ini_St nh_St_has (rl_o8 E) rfl ⟨rfl, rfl⟩ (by decide +kernel) (Nat.le_of_ble_eq_true rfl) (Nat.le_of_ble_eq_true rfl) ⟨Nat.zero_le _, Nat.zero_le _⟩ (Nat.le_of_ble_eq_true rfl) rfl rfl ?_
      refine rl_if_eq (tgt := 104) (pc := 80) Γ nd_Pl_measure_80 (by decide) (fun q10 => ?_) (fun q10 => ?_)
      · have h := rl_ift q10 h
        refine rl_aload_n (pc := 104) Γ nd_Pl_measure_104 1 rfl ?_
        refine rl_aload_n (pc := 105) Γ nd_Pl_measure_105 1 rfl ?_
        refine rl_get (pc := 106) Γ nd_Pl_measure_106 hO (k := 7) (rl_o3 E) rfl (by decide) rfl ⟨ni_Pl, nf_Pl_46⟩ ?_
        obtain ⟨q11, q11h, h⟩ := rl_bd h
        refine rl_callVi (As := []) (pc := 109) Γ nd_Pl_measure_109 hO (rw_Cu_leastArea l E 56 rl_cv56 q9.2 q11 q11h) 0 nm_Pl_131 nm_im_Cu_leastArea nm_se_Cu_leastArea nm_ini_Cu nh_Cu_leastArea (rl_oC rl_cv56) rfl ⟨rfl, rfl⟩ (by decide +kernel) (Nat.le_of_ble_eq_true rfl) (Nat.le_of_ble_eq_true rfl) ⟨Nat.zero_le _, Nat.zero_le _⟩ (Nat.le_of_ble_eq_true rfl) rfl rfl ?_
        refine rl_put (pc := 112) Γ nd_Pl_measure_112 hO (k := 8) (rl_o3 E) rfl (by decide) (fun _ _ => rfl) ⟨ni_Pl, nf_Pl_50⟩ nt_Pl nto_Pl nn_Pl rfl (fun _ => Nat.le_of_ble_eq_true rfl) rl_ni ?_
        refine rl_aload_n (pc := 115) Γ nd_Pl_measure_115 1 rfl ?_
        refine rl_iconst (v := 1) (pc := 116) Γ nd_Pl_measure_116 (by decide) ?_
        refine rl_put (pc := 117) Γ nd_Pl_measure_117 hO (k := 4) (rl_o3 E) rfl (by decide) (fun _ _ => rfl) ⟨ni_Pl, nf_Pl_32⟩ nt_Pl nto_Pl nn_Pl rfl (fun _ => Nat.le_of_ble_eq_true rfl) (rl_nz (by decide)) ?_
        exact rl_vret (pc := 120) Γ nd_Pl_measure_120 hr hk h
      · have h := rl_iff q10 h
        refine rl_aload_n (pc := 83) Γ nd_Pl_measure_83 1 rfl ?_
        refine rl_get (pc := 84) Γ nd_Pl_measure_84 hO (k := 7) (rl_o3 E) rfl (by decide) rfl ⟨ni_Pl, nf_Pl_46⟩ ?_
        refine rl_aload_n (pc := 87) Γ nd_Pl_measure_87 1 rfl ?_
        refine rl_get (pc := 88) Γ nd_Pl_measure_88 hO (k := 6) (rl_o3 E) rfl (by decide) rfl ⟨ni_Pl, nf_Pl_41⟩ ?_
        refine rl_iload_n (pc := 91) Γ nd_Pl_measure_91 0 rfl ?_
        obtain ⟨q12, h⟩ := rl_if h
        refine rl_ald (pc := 92) Γ nd_Pl_measure_92 hO (rl_a15 E) (rl_ib_in q12) ?_
        refine rl_aload_n (pc := 93) Γ nd_Pl_measure_93 1 rfl ?_
        refine rl_get (pc := 94) Γ nd_Pl_measure_94 hO (k := 2) (rl_o3 E) rfl (by decide) rfl ⟨ni_Pl, nf_Pl_25⟩ ?_
        refine rl_aload_n (pc := 97) Γ nd_Pl_measure_97 1 rfl ?_
        refine rl_get (pc := 98) Γ nd_Pl_measure_98 hO (k := 3) (rl_o3 E) rfl (by decide) rfl ⟨ni_Pl, nf_Pl_29⟩ ?_
        obtain ⟨q13, q13h, h⟩ := rl_bd h
        refine rl_callVv (As := [.ref (E.1 (rl_cv ((q7m 8 0) - 1))), .int (q9.2 3 2), .int (q9.2 3 3)]) (pc := 101) Γ nd_Pl_measure_101 hO (rw_Cu_takeFitting l E 56 (rl_cv ((q7m 8 0) - 1)) (q9.2 3 2) (q9.2 3 3) rl_cv56 (rl_cv_ok q12) q9.2 q13 q13h) 3 nm_Pl_127 nm_im_Cu_takeFitting nm_se_Cu_takeFitting nm_ini_Cu nh_Cu_takeFitting (rl_oC rl_cv56) rfl ⟨rfl, rfl⟩ (by decide +kernel) (Nat.le_of_ble_eq_true rfl) (Nat.le_of_ble_eq_true rfl) ⟨Nat.zero_le _, Nat.zero_le _⟩ (Nat.le_of_ble_eq_true rfl) rfl rfl ?_
        refine rl_aload_n (pc := 104) Γ nd_Pl_measure_104 1 rfl ?_
        refine rl_aload_n (pc := 105) Γ nd_Pl_measure_105 1 rfl ?_
        refine rl_get (pc := 106) Γ nd_Pl_measure_106 hO (k := 7) (rl_o3 E) rfl (by decide) rfl ⟨ni_Pl, nf_Pl_46⟩ ?_
        obtain ⟨q14, q14h, h⟩ := rl_bd h
        refine rl_callVi (As := []) (pc := 109) Γ nd_Pl_measure_109 hO (rw_Cu_leastArea l E 56 rl_cv56 q13.2 q14 q14h) 0 nm_Pl_131 nm_im_Cu_leastArea nm_se_Cu_leastArea nm_ini_Cu nh_Cu_leastArea (rl_oC rl_cv56) rfl ⟨rfl, rfl⟩ (by decide +kernel) (Nat.le_of_ble_eq_true rfl) (Nat.le_of_ble_eq_true rfl) ⟨Nat.zero_le _, Nat.zero_le _⟩ (Nat.le_of_ble_eq_true rfl) rfl rfl ?_
        refine rl_put (pc := 112) Γ nd_Pl_measure_112 hO (k := 8) (rl_o3 E) rfl (by decide) (fun _ _ => rfl) ⟨ni_Pl, nf_Pl_50⟩ nt_Pl nto_Pl nn_Pl rfl (fun _ => Nat.le_of_ble_eq_true rfl) rl_ni ?_
        refine rl_aload_n (pc := 115) Γ nd_Pl_measure_115 1 rfl ?_
        refine rl_iconst (v := 1) (pc := 116) Γ nd_Pl_measure_116 (by decide) ?_
        refine rl_put (pc := 117) Γ nd_Pl_measure_117 hO (k := 4) (rl_o3 E) rfl (by decide) (fun _ _ => rfl) ⟨ni_Pl, nf_Pl_32⟩ nt_Pl nto_Pl nn_Pl rfl (fun _ => Nat.le_of_ble_eq_true rfl) (rl_nz (by decide)) ?_
        exact rl_vret (pc := 120) Γ nd_Pl_measure_120 hr hk h
  · have h := rl_iff q1 h
    exact rl_vret (pc := 7) Γ nd_Pl_measure_7 hr hk h
def rf_St_parentOf (x1 : Int32) (σ : rl_M) : Option (Int32 × rl_M) := ((rf_St_has x1 σ).bind (fun q1 => (if q1.1 = 0 then some ((-1), q1.2) else (if rl_ib x1 11 = true then some (q1.2 12 x1.toNatClampNeg, q1.2) else none))))
set_option maxHeartbeats 4000000 in
set_option maxRecDepth 100000 in
theorem rw_St_parentOf (l : Launch) (E : rl_E) (x1 : Int32)  (σ : rl_M) (r : Int32 × rl_M) (h : rf_St_parentOf x1 σ = some r) : Met l ny_St_parentOf nw_St_parentOf nr_St_parentOf (rl_P E [.ref (E.1 8), .int x1] σ) (rl_Q E (rl_ri r.1) r.2) 0 0 (rl_A E) := by
  refine Met.ofW (cc := nc_St_parentOf) (maxL := 2) (ret := (some .int)) (by decide) rfl ?_
  intro p e s m args below meth c s₁ B hml hv
  obtain ⟨rfl, hP, hO⟩ := hv
  have Γ : CallFix p m c nc_St_parentOf 2 s ([.ref (E.1 8), .int x1] : List Value).toArray rl_TT nR_St := ⟨B.exec, B.bytes, hml, findClass_of_methodNamed B.named, fun w hw => atoms_spec (ws := nw_St_parentOf) B.pre w (List.mem_cons_of_mem _ hw)⟩
  have hr := B.returns
  have hk := B.notSynchronized
  refine rl_start (R := nr_St_parentOf) (Q := rl_QM below _ s E rl_ri r) (nL := 2) (av := [.ref (E.1 8), .int x1]) (σ := σ) hP (Nat.le_of_ble_eq_true rfl) ?_
  unfold rf_St_parentOf at h
  refine rl_aload_n (pc := 0) Γ nd_St_parentOf_0 0 rfl ?_
  refine rl_iload_n (pc := 1) Γ nd_St_parentOf_1 1 rfl ?_
  obtain ⟨q1, q1h, h⟩ := rl_bd h
  refine rl_callVi (As := [.int x1]) (pc := 2) Γ nd_St_parentOf_2 hO (rw_St_has l E x1  σ q1 q1h) 1 nm_St_65 nm_im_St_has nm_se_St_has nm_ini_St nh_St_has (rl_o8 E) rfl ⟨rfl, rfl⟩ (by decide +kernel) (Nat.le_of_ble_eq_true rfl) (Nat.le_of_ble_eq_true rfl) ⟨Nat.zero_le _, Nat.zero_le _⟩ (Nat.le_of_ble_eq_true rfl) rfl rfl ?_
  refine rl_if_eq (tgt := 17) (pc := 5) Γ nd_St_parentOf_5 (by decide) (fun q2 => ?_) (fun q2 => ?_)
  · have h := rl_ift q2 h
    refine rl_iconst (v := (-1)) (pc := 17) Γ nd_St_parentOf_17 (by decide) ?_
    exact rl_iret (pc := 18) Γ nd_St_parentOf_18 hr hk h
  · have h := rl_iff q2 h
    refine rl_aload_n (pc := 8) Γ nd_St_parentOf_8 0 rfl ?_
    refine rl_get (pc := 9) Γ nd_St_parentOf_9 hO (k := 4) (rl_o8 E) rfl (by decide) rfl ⟨ni_St, nf_St_25⟩ ?_
    refine rl_iload_n (pc := 12) Γ nd_St_parentOf_12 1 rfl ?_
    obtain ⟨q3, h⟩ := rl_if h
    refine rl_ild (pc := 13) Γ nd_St_parentOf_13 hO (rl_a12 E) (rl_ib_in q3) ?_
    refine rl_goto (tgt := 18) (pc := 14) Γ nd_St_parentOf_14 (by decide) ?_
    exact rl_iret (pc := 18) Γ nd_St_parentOf_18 hr hk h
