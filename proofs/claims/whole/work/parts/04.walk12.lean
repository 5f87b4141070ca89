def rf_Mo_isMet (x1 : Int32) (σ : rl_M) : Option (Int32 × rl_M) := (if rl_ib x1 10 = true then ((rf_Mo_placeOf (σ 64 x1.toNatClampNeg) σ).bind (fun q2 => (if rl_ib x1 10 = true then ((rf_Mo_placeOf (q2.2 65 x1.toNatClampNeg) q2.2).bind (fun q4 => (if (q4.2 59 15) = 0 then some (0, q4.2) else (if q2.1 < 0 then some (0, q4.2) else (if q4.1 < 0 then some (0, q4.2) else ((rf_Mo_shared q2.1 q4.1 q4.2).bind (fun q8 => (if rl_ib x1 10 = true then (if q8.1 < (q8.2 66 x1.toNatClampNeg) then some (0, q8.2) else some (1, q8.2)) else none)))))))) else none))) else none)
set_option maxHeartbeats 4000000 in
set_option maxRecDepth 100000 in
theorem rw_Mo_isMet (l : Launch) (E : rl_E) (x1 : Int32)  (σ : rl_M) (r : Int32 × rl_M) (h : rf_Mo_isMet x1 σ = some r) : Met l ny_Mo_isMet nw_Mo_isMet nr_Mo_isMet (rl_P E [.ref (E.1 59), .int x1] σ) (rl_Q E (rl_ri r.1) r.2) 0 0 (rl_A E) := by
  refine Met.ofW (cc := nc_Mo_isMet) (maxL := 4) (ret := (some .boolean)) (by decide) rfl ?_
  intro p e s m args below meth c s₁ B hml hv
  obtain ⟨rfl, hP, hO⟩ := hv
  have Γ : CallFix p m c nc_Mo_isMet 4 s ([.ref (E.1 59), .int x1] : List Value).toArray rl_TT nR_Mo := ⟨B.exec, B.bytes, hml, findClass_of_methodNamed B.named, fun w hw => atoms_spec (ws := nw_Mo_isMet) B.pre w (List.mem_cons_of_mem _ hw)⟩
  have hr := B.returns
  have hk := B.notSynchronized
  refine rl_start (R := nr_Mo_isMet) (Q := rl_QM below _ s E rl_ri r) (nL := 4) (av := [.ref (E.1 59), .int x1]) (σ := σ) hP (Nat.le_of_ble_eq_true rfl) ?_
  unfold rf_Mo_isMet at h
  refine rl_aload_n (pc := 0) Γ nd_Mo_isMet_0 0 rfl ?_
  refine rl_aload_n (pc := 1) Γ nd_Mo_isMet_1 0 rfl ?_
  refine rl_get (pc := 2) Γ nd_Mo_isMet_2 hO (k := 10) (rl_o59 E) rfl (by decide) rfl ⟨ni_Mo, nf_Mo_29⟩ ?_
  refine rl_iload_n (pc := 5) Γ nd_Mo_isMet_5 1 rfl ?_
  obtain ⟨q1, h⟩ := rl_if h
  refine rl_ild (pc := 6) Γ nd_Mo_isMet_6 hO (rl_a64 E) (rl_ib_in q1) ?_
  obtain ⟨q2, q2h, h⟩ := rl_bd h
  refine rl_callVi (As := [.int (σ 64 x1.toNatClampNeg)]) (pc := 7) Γ nd_Mo_isMet_7 hO (rw_Mo_placeOf l E (σ 64 x1.toNatClampNeg)  σ q2 q2h) 1 nm_Mo_94 nm_im_Mo_placeOf nm_se_Mo_placeOf nm_ini_Mo nh_Mo_placeOf (rl_o59 E) rfl ⟨rfl, rfl⟩ (by decide +kernel) (Nat.le_of_ble_eq_true rfl) (Nat.le_of_ble_eq_true rfl) ⟨Nat.zero_le _, Nat.zero_le _⟩ (Nat.le_of_ble_eq_true rfl) rfl rfl ?_
  refine rl_istore_n (L' := [(2, .int q2.1), (0, .ref (E.1 59)), (1, .int x1)]) (pc := 10) Γ nd_Mo_isMet_10 (by decide) rfl ?_
  refine rl_aload_n (pc := 11) Γ nd_Mo_isMet_11 1 rfl ?_
  refine rl_aload_n (pc := 12) Γ nd_Mo_isMet_12 1 rfl ?_
  refine rl_get (pc := 13) Γ nd_Mo_isMet_13 hO (k := 11) (rl_o59 E) rfl (by decide) rfl ⟨ni_Mo, nf_Mo_32⟩ ?_
  refine rl_iload_n (pc := 16) Γ nd_Mo_isMet_16 2 rfl ?_
  obtain ⟨q3, h⟩ := rl_if h
  refine rl_ild (pc := 17) Γ nd_Mo_isMet_17 hO (rl_a65 E) (rl_ib_in q3) ?_
  obtain ⟨q4, q4h, h⟩ := rl_bd h
  refine rl_callVi (As := [.int (q2.2 65 x1.toNatClampNeg)]) (pc := 18) Γ nd_Mo_isMet_18 hO (rw_Mo_placeOf l E (q2.2 65 x1.toNatClampNeg)  q2.2 q4 q4h) 1 nm_Mo_94 nm_im_Mo_placeOf nm_se_Mo_placeOf nm_ini_Mo nh_Mo_placeOf (rl_o59 E) rfl ⟨rfl, rfl⟩ (by decide +kernel) (Nat.le_of_ble_eq_true rfl) (Nat.le_of_ble_eq_true rfl) ⟨Nat.zero_le _, Nat.zero_le _⟩ (Nat.le_of_ble_eq_true rfl) rfl rfl ?_
  refine rl_istore_n (L' := [(3, .int q4.1), (2, .int q2.1), (0, .ref (E.1 59)), (1, .int x1)]) (pc := 21) Γ nd_Mo_isMet_21 (by decide) rfl ?_
  refine rl_aload_n (pc := 22) Γ nd_Mo_isMet_22 2 rfl ?_
  refine rl_get (pc := 23) Γ nd_Mo_isMet_23 hO (k := 15) (rl_o59 E) rfl (by decide) rfl ⟨ni_Mo, nf_Mo_98⟩ ?_
  refine rl_if_eq (tgt := 56) (pc := 26) Γ nd_Mo_isMet_26 (by decide) (fun q5 => ?_) (fun q5 => ?_)
  · have h := rl_ift q5 h
    refine rl_iconst (v := 0) (pc := 56) Γ nd_Mo_isMet_56 (by decide) ?_
    exact rl_zret (pc := 57) Γ nd_Mo_isMet_57 hr hk (by decide) h
  · have h := rl_iff q5 h
    refine rl_iload_n (pc := 29) Γ nd_Mo_isMet_29 1 rfl ?_
    refine rl_if_lt (tgt := 56) (pc := 30) Γ nd_Mo_isMet_30 (by decide) (fun q6 => ?_) (fun q6 => ?_)
    · have h := rl_ift q6 h
      refine rl_iconst (v := 0) (pc := 56) Γ nd_Mo_isMet_56 (by decide) ?_
      exact rl_zret (pc := 57) Γ nd_Mo_isMet_57 hr hk (by decide) h
    · have h := rl_iff q6 h
      refine rl_iload_n (pc := 33) Γ nd_Mo_isMet_33 0 rfl ?_
      refine rl_if_lt (tgt := 56) (pc := 34) Γ nd_Mo_isMet_34 (by decide) (fun q7 => ?_) (fun q7 => ?_)
      · have h := rl_ift q7 h
        refine rl_iconst (v := 0) (pc := 56) Γ nd_Mo_isMet_56 (by decide) ?_
        exact rl_zret (pc := 57) Γ nd_Mo_isMet_57 hr hk (by decide) h
      · have h := rl_iff q7 h
        refine rl_aload_n (pc := 37) Γ nd_Mo_isMet_37 2 rfl ?_
        refine rl_iload_n (pc := 38) Γ nd_Mo_isMet_38 1 rfl ?_
        refine rl_iload_n (pc := 39) Γ nd_Mo_isMet_39 0 rfl ?_
        obtain ⟨q8, q8h, h⟩ := rl_bd h
        refine rl_callVi (As := [.int q2.1, .int q4.1]) (pc := 40) Γ nd_Mo_isMet_40 hO (rw_Mo_shared l E q2.1 q4.1  q4.2 q8 q8h) 2 nm_Mo_131 nm_im_Mo_shared nm_se_Mo_shared nm_ini_Mo nh_Mo_shared (rl_o59 E) rfl ⟨rfl, rfl⟩ (by decide +kernel) (Nat.le_of_ble_eq_true rfl) (Nat.le_of_ble_eq_true rfl) ⟨Nat.zero_le _, Nat.zero_le _⟩ (Nat.le_of_ble_eq_true rfl) rfl rfl ?_
        refine rl_aload_n (pc := 43) Γ nd_Mo_isMet_43 2 rfl ?_
        refine rl_get (pc := 44) Γ nd_Mo_isMet_44 hO (k := 12) (rl_o59 E) rfl (by decide) rfl ⟨ni_Mo, nf_Mo_35⟩ ?_
        refine rl_iload_n (pc := 47) Γ nd_Mo_isMet_47 3 rfl ?_
        obtain ⟨q9, h⟩ := rl_if h
        refine rl_ild (pc := 48) Γ nd_Mo_isMet_48 hO (rl_a66 E) (rl_ib_in q9) ?_
        refine rl_icmp_lt (tgt := 56) (pc := 49) Γ nd_Mo_isMet_49 (by decide) (fun q10 => ?_) (fun q10 => ?_)
        · have h := rl_ift q10 h
          refine rl_iconst (v := 0) (pc := 56) Γ nd_Mo_isMet_56 (by decide) ?_
          exact rl_zret (pc := 57) Γ nd_Mo_isMet_57 hr hk (by decide) h
        · have h := rl_iff q10 h
          refine rl_iconst (v := 1) (pc := 52) Γ nd_Mo_isMet_52 (by decide) ?_
          refine rl_goto (tgt := 57) (pc := 53) Γ nd_Mo_isMet_53 (by decide) ?_
          exact rl_zret (pc := 57) Γ nd_Mo_isMet_57 hr hk (by decide) h
def rf_Mo_met0_J20 (x1 : Int32) (s0 : Int32)  (σ : rl_M) : Option (Int32 × rl_M) := (if ((rl_su σ 59 0 s0) 59 0) ≤ 0 then ((rf_Mo_findBest  (rl_su σ 59 0 s0)).bind (fun q4 => ((rf_Mo_isMet x1 q4.2).bind (fun q5 => (if rl_zb q5.1 = true then some (q5.1, q5.2) else none))))) else some (0, rl_su σ 59 0 s0))
def rf_Mo_met0 (x1 : Int32) (σ : rl_M) : Option (Int32 × rl_M) := ((rf_Mo_isIn x1 0 ((σ 59 9) - 1) σ).bind (fun q1 => (if q1.1 = 0 then rf_Mo_met0_J20 x1 1  q1.2 else rf_Mo_met0_J20 x1 0  q1.2)))
set_option maxHeartbeats 4000000 in
set_option maxRecDepth 100000 in
theorem rw_Mo_met0_J20 {p : Program} {l : Launch} {e : Env} {s : State} {m : MethodId} {args : Array Value} {below : List Frame} {meth : Method} {c : Code} {E : rl_E} (Γ : CallFix p m c nc_Mo_met0 2 s args rl_TT nR_Mo) (hO : rl_Ok E s) (hr : meth.sig.returnType = (some .boolean)) (hk : meth.locks = false)  (x1 : Int32) (s0 : Int32)   {r : Int32 × rl_M}  (σ : rl_M) (h : rf_Mo_met0_J20 x1 s0  σ = some r) : rl_G p l e nr_Mo_met0 s m args below meth c 2 E 0 0 (rl_QM below args s E rl_ri r) σ 20 [(0, .ref (E.1 59)), (1, .int x1)] [.int s0, .ref (E.1 59)] := by
  unfold rf_Mo_met0_J20 at h
  refine rl_put (pc := 20) Γ nd_Mo_met0_20 hO (k := 0) (rl_o59 E) rfl (by decide) (fun _ _ => rfl) ⟨ni_Mo, nf_Mo_71⟩ nt_Mo nto_Mo nn_Mo rfl (fun _ => Nat.le_of_ble_eq_true rfl) rl_ni ?_
  refine rl_aload_n (pc := 23) Γ nd_Mo_met0_23 0 rfl ?_
  refine rl_get (pc := 24) Γ nd_Mo_met0_24 hO (k := 0) (rl_o59 E) rfl (by decide) rfl ⟨ni_Mo, nf_Mo_71⟩ ?_
  refine rl_if_le (tgt := 32) (pc := 27) Γ nd_Mo_met0_27 (by decide) (fun q3 => ?_) (fun q3 => ?_)
  · have h := rl_ift q3 h
    refine rl_aload_n (pc := 32) Γ nd_Mo_met0_32 0 rfl ?_
    obtain ⟨q4, q4h, h⟩ := rl_bd h
    refine rl_callVv (As := []) (pc := 33) Γ nd_Mo_met0_33 hO (rw_Mo_findBest l E   (rl_su σ 59 0 s0) q4 q4h) 0 nm_Mo_124 nm_im_Mo_findBest nm_se_Mo_findBest nm_ini_Mo nh_Mo_findBest (rl_o59 E) rfl ⟨rfl, rfl⟩ (by decide +kernel) (Nat.le_of_ble_eq_true rfl) (Nat.le_of_ble_eq_true rfl) ⟨Nat.zero_le _, Nat.zero_le _⟩ (Nat.le_of_ble_eq_true rfl) rfl rfl ?_
    refine rl_aload_n (pc := 36) Γ nd_Mo_met0_36 0 rfl ?_
    refine rl_iload_n (pc := 37) Γ nd_Mo_met0_37 1 rfl ?_
    obtain ⟨q5, q5h, h⟩ := rl_bd h
    refine rl_callVi (As := [.int x1]) (pc := 38) Γ nd_Mo_met0_38 hO (rw_Mo_isMet l E x1  q4.2 q5 q5h) 1 nm_Mo_138 nm_im_Mo_isMet nm_se_Mo_isMet nm_ini_Mo nh_Mo_isMet (rl_o59 E) rfl ⟨rfl, rfl⟩ (by decide +kernel) (Nat.le_of_ble_eq_true rfl) (Nat.le_of_ble_eq_true rfl) ⟨Nat.zero_le _, Nat.zero_le _⟩ (Nat.le_of_ble_eq_true rfl) rfl rfl ?_
    obtain ⟨q6, h⟩ := rl_if h
    exact rl_zret (pc := 41) Γ nd_Mo_met0_41 hr hk q6 h
  · have h := rl_iff q3 h
    refine rl_iconst (v := 0) (pc := 30) Γ nd_Mo_met0_30 (by decide) ?_
    exact rl_zret (pc := 31) Γ nd_Mo_met0_31 hr hk (by decide) h
set_option maxHeartbeats 4000000 in
set_option maxRecDepth 100000 in
theorem rw_Mo_met0 (l : Launch) (E : rl_E) (x1 : Int32)  (σ : rl_M) (r : Int32 × rl_M) (h : rf_Mo_met0 x1 σ = some r) : Met l ny_Mo_met0 nw_Mo_met0 nr_Mo_met0 (rl_P E [.ref (E.1 59), .int x1] σ) (rl_Q E (rl_ri r.1) r.2) 0 0 (rl_A E) := by
  refine Met.ofW (cc := nc_Mo_met0) (maxL := 2) (ret := (some .boolean)) (by decide) rfl ?_
  intro p e s m args below meth c s₁ B hml hv
  obtain ⟨rfl, hP, hO⟩ := hv
  have Γ : CallFix p m c nc_Mo_met0 2 s ([.ref (E.1 59), .int x1] : List Value).toArray rl_TT nR_Mo := ⟨B.exec, B.bytes, hml, findClass_of_methodNamed B.named, fun w hw => atoms_spec (ws := nw_Mo_met0) B.pre w (List.mem_cons_of_mem _ hw)⟩
  have hr := B.returns
  have hk := B.notSynchronized
  refine rl_start (R := nr_Mo_met0) (Q := rl_QM below _ s E rl_ri r) (nL := 2) (av := [.ref (E.1 59), .int x1]) (σ := σ) hP (Nat.le_of_ble_eq_true rfl) ?_
  unfold rf_Mo_met0 at h
  refine rl_aload_n (pc := 0) Γ nd_Mo_met0_0 0 rfl ?_
  refine rl_iload_n (pc := 1) Γ nd_Mo_met0_1 1 rfl ?_
  refine rl_iconst (v := 0) (pc := 2) Γ nd_Mo_met0_2 (by decide) ?_
  refine rl_aload_n (pc := 3) Γ nd_Mo_met0_3 0 rfl ?_
  refine rl_get (pc := 4) Γ nd_Mo_met0_4 hO (k := 9) (rl_o59 E) rfl (by decide) rfl ⟨ni_Mo, nf_Mo_135⟩ ?_
  refine rl_iconst (v := 1) (pc := 7) Γ nd_Mo_met0_7 (by decide) ?_
  refine rl_isub (pc := 8) Γ nd_Mo_met0_8 ?_
  obtain ⟨q1, q1h, h⟩ := rl_bd h
  refine rl_callSi (As := [.int x1, .int 0, .int ((σ 59 9) - 1)]) (pc := 9) Γ nd_Mo_met0_9 hO (rw_Mo_isIn l E x1 0 ((σ 59 9) - 1)  σ q1 q1h) 3 nm_Mo_81 nm_st_Mo_isIn nm_ini_Mo nh_Mo_isIn ⟨rfl, rfl⟩ (by decide +kernel) (Nat.le_of_ble_eq_true rfl) (Nat.le_of_ble_eq_true rfl) ⟨Nat.zero_le _, Nat.zero_le _⟩ (Nat.le_of_ble_eq_true rfl) rfl rfl ?_
  refine rl_if_eq (tgt := 19) (pc := 12) Γ nd_Mo_met0_12 (by decide) (fun q2 => ?_) (fun q2 => ?_)
  · have h := rl_ift q2 h
    refine rl_iconst (v := 1) (pc := 19) Γ nd_Mo_met0_19 (by decide) ?_
    exact rl_Gsub [0, 1] rfl (rw_Mo_met0_J20 Γ hO hr hk x1 1   q1.2 h)
  · have h := rl_iff q2 h
    refine rl_iconst (v := 0) (pc := 15) Γ nd_Mo_met0_15 (by decide) ?_
    refine rl_goto (tgt := 20) (pc := 16) Γ nd_Mo_met0_16 (by decide) ?_
    exact rl_Gsub [0, 1] rfl (rw_Mo_met0_J20 Γ hO hr hk x1 0   q1.2 h)
def rf_Mo_allMet_L8   : Nat → Int32 → Int32 → rl_M → Option (Int32 × rl_M)
  | 0, _, _, _ => none
  | n + 1, x1, x2, σ => (if (σ 59 9) ≤ x2 then some (x1, σ) else ((rf_Mo_isMet x2 σ).bind (fun q3 => (if q3.1 = 0 then rf_Mo_allMet_L8   n (x1 + 0) (x2 + 1) q3.2 else rf_Mo_allMet_L8   n (x1 + 1) (x2 + 1) q3.2))))
def rf_Mo_allMet  (σ : rl_M) : Option (Int32 × rl_M) := ((rf_Mo_findBest  σ).bind (fun q1 => rf_Mo_allMet_L8   10000 0 0 q1.2))
set_option maxHeartbeats 4000000 in
set_option maxRecDepth 100000 in
theorem rw_Mo_allMet_L8 {p : Program} {l : Launch} {e : Env} {s : State} {m : MethodId} {args : Array Value} {below : List Frame} {meth : Method} {c : Code} {E : rl_E} (Γ : CallFix p m c nc_Mo_allMet 3 s args rl_TT nR_Mo) (hO : rl_Ok E s) (hr : meth.sig.returnType = (some .int)) (hk : meth.locks = false)    {r : Int32 × rl_M}  : ∀ (n : Nat) (x1 : Int32) (x2 : Int32) (σ : rl_M), rf_Mo_allMet_L8   n x1 x2 σ = some r → rl_G p l e nr_Mo_allMet s m args below meth c 3 E 0 0 (rl_QM below args s E rl_ri r) σ 8 [(0, .ref (E.1 59)), (1, .int x1), (2, .int x2)] [] := by
  intro n
  induction n with
  | zero =>
    intro x1 x2 σ h
    exact (rl_ns (show none = some r from h)).elim
  | succ n ih =>
    intro x1 x2 σ h
    unfold rf_Mo_allMet_L8 at h
    refine rl_iload_n (pc := 8) Γ nd_Mo_allMet_8 2 rfl ?_
    refine rl_aload_n (pc := 9) Γ nd_Mo_allMet_9 0 rfl ?_
    refine rl_get (pc := 10) Γ nd_Mo_allMet_10 hO (k := 9) (rl_o59 E) rfl (by decide) rfl ⟨ni_Mo, nf_Mo_135⟩ ?_
    refine rl_icmp_ge (tgt := 38) (pc := 13) Γ nd_Mo_allMet_13 (by decide) (fun q2 => ?_) (fun q2 => ?_)
    · have h := rl_ift q2 h
      refine rl_iload_n (pc := 38) Γ nd_Mo_allMet_38 1 rfl ?_
      exact rl_iret (pc := 39) Γ nd_Mo_allMet_39 hr hk h
    · have h := rl_iff q2 h
      refine rl_iload_n (pc := 16) Γ nd_Mo_allMet_16 1 rfl ?_
      refine rl_aload_n (pc := 17) Γ nd_Mo_allMet_17 0 rfl ?_
      refine rl_iload_n (pc := 18) Γ nd_Mo_allMet_18 2 rfl ?_
      obtain ⟨q3, q3h, h⟩ := rl_bd h
      refine rl_callVi (As := [.int x2]) (pc := 19) Γ nd_Mo_allMet_19 hO (rw_Mo_isMet l E x2  σ q3 q3h) 1 nm_Mo_138 nm_im_Mo_isMet nm_se_Mo_isMet nm_ini_Mo nh_Mo_isMet (rl_o59 E) rfl ⟨rfl, rfl⟩ (by decide +kernel) (Nat.le_of_ble_eq_true rfl) (Nat.le_of_ble_eq_true rfl) ⟨Nat.zero_le _, Nat.zero_le _⟩ (Nat.le_of_ble_eq_true rfl) rfl rfl ?_
      refine rl_if_eq (tgt := 29) (pc := 22) Γ nd_Mo_allMet_22 (by decide) (fun q4 => ?_) (fun q4 => ?_)
      · have h := rl_ift q4 h
        refine rl_iconst (v := 0) (pc := 29) Γ nd_Mo_allMet_29 (by decide) ?_
        refine rl_iadd (pc := 30) Γ nd_Mo_allMet_30 ?_
        refine rl_istore_n (L' := [(1, .int (x1 + 0)), (0, .ref (E.1 59)), (2, .int x2)]) (pc := 31) Γ nd_Mo_allMet_31 (by decide) rfl ?_
        refine rl_iinc (v := x2 + 1) (L' := [(2, .int (x2 + 1)), (1, .int (x1 + 0)), (0, .ref (E.1 59))]) (pc := 32) Γ nd_Mo_allMet_32 2 rfl rfl (by decide) rfl ?_
        refine rl_goto (tgt := 8) (pc := 35) Γ nd_Mo_allMet_35 (by decide) ?_
        exact rl_Gsub [2, 1, 0] rfl (ih (x1 + 0) (x2 + 1) q3.2 h)
      · have h := rl_iff q4 h
        refine rl_iconst (v := 1) (pc := 25) Γ nd_Mo_allMet_25 (by decide) ?_
        refine rl_goto (tgt := 30) (pc := 26) Γ nd_Mo_allMet_26 (by decide) ?_
        refine rl_iadd (pc := 30) Γ nd_Mo_allMet_30 ?_
        refine rl_istore_n (L' := [(1, .int (x1 + 1)), (0, .ref (E.1 59)), (2, .int x2)]) (pc := 31) Γ nd_Mo_allMet_31 (by decide) rfl ?_
        refine rl_iinc (v := x2 + 1) (L' := [(2, .int (x2 + 1)), (1, .int (x1 + 1)), (0, .ref (E.1 59))]) (pc := 32) Γ nd_Mo_allMet_32 2 rfl rfl (by decide) rfl ?_
        refine rl_goto (tgt := 8) (pc := 35) Γ nd_Mo_allMet_35 (by decide) ?_
        exact rl_Gsub [2, 1, 0] rfl (ih (x1 + 1) (x2 + 1) q3.2 h)
set_option maxHeartbeats 4000000 in
set_option maxRecDepth 100000 in
theorem rw_Mo_allMet (l : Launch) (E : rl_E)   (σ : rl_M) (r : Int32 × rl_M) (h : rf_Mo_allMet  σ = some r) : Met l ny_Mo_allMet nw_Mo_allMet nr_Mo_allMet (rl_P E [.ref (E.1 59)] σ) (rl_Q E (rl_ri r.1) r.2) 0 0 (rl_A E) := by
  refine Met.ofW (cc := nc_Mo_allMet) (maxL := 3) (ret := (some .int)) (by decide) rfl ?_
  intro p e s m args below meth c s₁ B hml hv
  obtain ⟨rfl, hP, hO⟩ := hv
  have Γ : CallFix p m c nc_Mo_allMet 3 s ([.ref (E.1 59)] : List Value).toArray rl_TT nR_Mo := ⟨B.exec, B.bytes, hml, findClass_of_methodNamed B.named, fun w hw => atoms_spec (ws := nw_Mo_allMet) B.pre w (List.mem_cons_of_mem _ hw)⟩
  have hr := B.returns
  have hk := B.notSynchronized
  refine rl_start (R := nr_Mo_allMet) (Q := rl_QM below _ s E rl_ri r) (nL := 3) (av := [.ref (E.1 59)]) (σ := σ) hP (Nat.le_of_ble_eq_true rfl) ?_
  unfold rf_Mo_allMet at h
  refine rl_aload_n (pc := 0) Γ nd_Mo_allMet_0 0 rfl ?_
  obtain ⟨q1, q1h, h⟩ := rl_bd h
  refine rl_callVv (As := []) (pc := 1) Γ nd_Mo_allMet_1 hO (rw_Mo_findBest l E   σ q1 q1h) 0 nm_Mo_124 nm_im_Mo_findBest nm_se_Mo_findBest nm_ini_Mo nh_Mo_findBest (rl_o59 E) rfl ⟨rfl, rfl⟩ (by decide +kernel) (Nat.le_of_ble_eq_true rfl) (Nat.le_of_ble_eq_true rfl) ⟨Nat.zero_le _, Nat.zero_le _⟩ (Nat.le_of_ble_eq_true rfl) rfl rfl ?_
  refine rl_iconst (v := 0) (pc := 4) Γ nd_Mo_allMet_4 (by decide) ?_
  refine rl_istore_n (L' := [(1, .int 0), (0, .ref (E.1 59))]) (pc := 5) Γ nd_Mo_allMet_5 (by decide) rfl ?_
  refine rl_iconst (v := 0) (pc := 6) Γ nd_Mo_allMet_6 (by decide) ?_
  refine rl_istore_n (L' := [(2, .int 0), (1, .int 0), (0, .ref (E.1 59))]) (pc := 7) Γ nd_Mo_allMet_7 (by decide) rfl ?_
  refine rl_Gsub [2, 1, 0] rfl (rw_Mo_allMet_L8 Γ hO hr hk     10000 0 0 q1.2 h)
def rf_Mo_met1  (σ : rl_M) : Option (Int32 × rl_M) := ((rf_Mo_allMet  (rl_su σ 59 0 0)).bind (fun q1 => some (q1.1, q1.2)))
set_option maxHeartbeats 4000000 in
set_option maxRecDepth 100000 in
theorem rw_Mo_met1 (l : Launch) (E : rl_E)   (σ : rl_M) (r : Int32 × rl_M) (h : rf_Mo_met1  σ = some r) : Met l ny_Mo_met1 nw_Mo_met1 nr_Mo_met1 (rl_P E [.ref (E.1 59)] σ) (rl_Q E (rl_ri r.1) r.2) 0 0 (rl_A E) := by
  refine Met.ofW (cc := nc_Mo_met1) (maxL := 1) (ret := (some .int)) (by decide) rfl ?_
  intro p e s m args below meth c s₁ B hml hv
  obtain ⟨rfl, hP, hO⟩ := hv
  have Γ : CallFix p m c nc_Mo_met1 1 s ([.ref (E.1 59)] : List Value).toArray rl_TT nR_Mo := ⟨B.exec, B.bytes, hml, findClass_of_methodNamed B.named, fun w hw => atoms_spec (ws := nw_Mo_met1) B.pre w (List.mem_cons_of_mem _ hw)⟩
  have hr := B.returns
  have hk := B.notSynchronized
  refine rl_start (R := nr_Mo_met1) (Q := rl_QM below _ s E rl_ri r) (nL := 1) (av := [.ref (E.1 59)]) (σ := σ) hP (Nat.le_of_ble_eq_true rfl) ?_
  unfold rf_Mo_met1 at h
  refine rl_aload_n (pc := 0) Γ nd_Mo_met1_0 0 rfl ?_
  refine rl_iconst (v := 0) (pc := 1) Γ nd_Mo_met1_1 (by decide) ?_
  refine rl_put (pc := 2) Γ nd_Mo_met1_2 hO (k := 0) (rl_o59 E) rfl (by decide) (fun _ _ => rfl) ⟨ni_Mo, nf_Mo_71⟩ nt_Mo nto_Mo nn_Mo rfl (fun _ => Nat.le_of_ble_eq_true rfl) rl_ni ?_
  refine rl_aload_n (pc := 5) Γ nd_Mo_met1_5 0 rfl ?_
  obtain ⟨q1, q1h, h⟩ := rl_bd h
  refine rl_callVi (As := []) (pc := 6) Γ nd_Mo_met1_6 hO (rw_Mo_allMet l E   (rl_su σ 59 0 0) q1 q1h) 0 nm_Mo_141 nm_im_Mo_allMet nm_se_Mo_allMet nm_ini_Mo nh_Mo_allMet (rl_o59 E) rfl ⟨rfl, rfl⟩ (by decide +kernel) (Nat.le_of_ble_eq_true rfl) (Nat.le_of_ble_eq_true rfl) ⟨Nat.zero_le _, Nat.zero_le _⟩ (Nat.le_of_ble_eq_true rfl) rfl rfl ?_
  exact rl_iret (pc := 9) Γ nd_Mo_met1_9 hr hk h
def rf_Mo_canChange_J16 (x1 : Int32) (x2 : Int32)  (σ : rl_M) : Option (Int32 × rl_M) := (if rl_ib x1 6 = true then (if (σ 60 x1.toNatClampNeg) ≤ 0 then some (0, σ) else (if rl_ib x2 6 = true then (if (σ 60 x2.toNatClampNeg) ≤ 0 then some (0, σ) else some (1, σ)) else none)) else none)
def rf_Mo_canChange (x1 : Int32) (x2 : Int32) (σ : rl_M) : Option (Int32 × rl_M) := ((rf_Mo_placeOf x1 σ).bind (fun q1 => (if 0 ≤ q1.1 then rf_Mo_canChange_J16 x1 x2  q1.2 else ((rf_Mo_placeOf x2 q1.2).bind (fun q7 => (if q7.1 < 0 then some (0, q7.2) else rf_Mo_canChange_J16 x1 x2  q7.2))))))
set_option maxHeartbeats 4000000 in
set_option maxRecDepth 100000 in
theorem rw_Mo_canChange_J16 {p : Program} {l : Launch} {e : Env} {s : State} {m : MethodId} {args : Array Value} {below : List Frame} {meth : Method} {c : Code} {E : rl_E} (Γ : CallFix p m c nc_Mo_canChange 3 s args rl_TT nR_Mo) (hO : rl_Ok E s) (hr : meth.sig.returnType = (some .boolean)) (hk : meth.locks = false)  (x1 : Int32) (x2 : Int32)   {r : Int32 × rl_M}  (σ : rl_M) (h : rf_Mo_canChange_J16 x1 x2  σ = some r) : rl_G p l e nr_Mo_canChange s m args below meth c 3 E 0 0 (rl_QM below args s E rl_ri r) σ 16 [(0, .ref (E.1 59)), (1, .int x1), (2, .int x2)] [] := by
  unfold rf_Mo_canChange_J16 at h
  refine rl_aload_n (pc := 16) Γ nd_Mo_canChange_16 0 rfl ?_
  refine rl_get (pc := 17) Γ nd_Mo_canChange_17 hO (k := 2) (rl_o59 E) rfl (by decide) rfl ⟨ni_Mo, nf_Mo_7⟩ ?_
  refine rl_iload_n (pc := 20) Γ nd_Mo_canChange_20 1 rfl ?_
  obtain ⟨q3, h⟩ := rl_if h
  refine rl_ild (pc := 21) Γ nd_Mo_canChange_21 hO (rl_a60 E) (rl_ib_in q3) ?_
  refine rl_if_le (tgt := 38) (pc := 22) Γ nd_Mo_canChange_22 (by decide) (fun q4 => ?_) (fun q4 => ?_)
  · have h := rl_ift q4 h
    refine rl_iconst (v := 0) (pc := 38) Γ nd_Mo_canChange_38 (by decide) ?_
    exact rl_zret (pc := 39) Γ nd_Mo_canChange_39 hr hk (by decide) h
  · have h := rl_iff q4 h
    refine rl_aload_n (pc := 25) Γ nd_Mo_canChange_25 0 rfl ?_
    refine rl_get (pc := 26) Γ nd_Mo_canChange_26 hO (k := 2) (rl_o59 E) rfl (by decide) rfl ⟨ni_Mo, nf_Mo_7⟩ ?_
    refine rl_iload_n (pc := 29) Γ nd_Mo_canChange_29 2 rfl ?_
    obtain ⟨q5, h⟩ := rl_if h
    refine rl_ild (pc := 30) Γ nd_Mo_canChange_30 hO (rl_a60 E) (rl_ib_in q5) ?_
    refine rl_if_le (tgt := 38) (pc := 31) Γ nd_Mo_canChange_31 (by decide) (fun q6 => ?_) (fun q6 => ?_)
    · have h := rl_ift q6 h
      refine rl_iconst (v := 0) (pc := 38) Γ nd_Mo_canChange_38 (by decide) ?_
      exact rl_zret (pc := 39) Γ nd_Mo_canChange_39 hr hk (by decide) h
    · have h := rl_iff q6 h
      refine rl_iconst (v := 1) (pc := 34) Γ nd_Mo_canChange_34 (by decide) ?_
      refine rl_goto (tgt := 39) (pc := 35) Γ nd_Mo_canChange_35 (by decide) ?_
      exact rl_zret (pc := 39) Γ nd_Mo_canChange_39 hr hk (by decide) h
set_option maxHeartbeats 4000000 in
set_option maxRecDepth 100000 in
theorem rw_Mo_canChange (l : Launch) (E : rl_E) (x1 : Int32) (x2 : Int32)  (σ : rl_M) (r : Int32 × rl_M) (h : rf_Mo_canChange x1 x2 σ = some r) : Met l ny_Mo_canChange nw_Mo_canChange nr_Mo_canChange (rl_P E [.ref (E.1 59), .int x1, .int x2] σ) (rl_Q E (rl_ri r.1) r.2) 0 0 (rl_A E) := by
  refine Met.ofW (cc := nc_Mo_canChange) (maxL := 3) (ret := (some .boolean)) (by decide) rfl ?_
  intro p e s m args below meth c s₁ B hml hv
  obtain ⟨rfl, hP, hO⟩ := hv
  have Γ : CallFix p m c nc_Mo_canChange 3 s ([.ref (E.1 59), .int x1, .int x2] : List Value).toArray rl_TT nR_Mo := ⟨B.exec, B.bytes, hml, findClass_of_methodNamed B.named, fun w hw => atoms_spec (ws := nw_Mo_canChange) B.pre w (List.mem_cons_of_mem _ hw)⟩
  have hr := B.returns
  have hk := B.notSynchronized
  refine rl_start (R := nr_Mo_canChange) (Q := rl_QM below _ s E rl_ri r) (nL := 3) (av := [.ref (E.1 59), .int x1, .int x2]) (σ := σ) hP (Nat.le_of_ble_eq_true rfl) ?_
  unfold rf_Mo_canChange at h
  refine rl_aload_n (pc := 0) Γ nd_Mo_canChange_0 0 rfl ?_
  refine rl_iload_n (pc := 1) Γ nd_Mo_canChange_1 1 rfl ?_
  obtain ⟨q1, q1h, h⟩ := rl_bd h
  refine rl_callVi (As := [.int x1]) (pc := 2) Γ nd_Mo_canChange_2 hO (rw_Mo_placeOf l E x1  σ q1 q1h) 1 nm_Mo_94 nm_im_Mo_placeOf nm_se_Mo_placeOf nm_ini_Mo nh_Mo_placeOf (rl_o59 E) rfl ⟨rfl, rfl⟩ (by decide +kernel) (Nat.le_of_ble_eq_true rfl) (Nat.le_of_ble_eq_true rfl) ⟨Nat.zero_le _, Nat.zero_le _⟩ (Nat.le_of_ble_eq_true rfl) rfl rfl ?_
  refine rl_if_ge (tgt := 16) (pc := 5) Γ nd_Mo_canChange_5 (by decide) (fun q2 => ?_) (fun q2 => ?_)
  · have h := rl_ift q2 h
    exact rl_Gsub [0, 1, 2] rfl (rw_Mo_canChange_J16 Γ hO hr hk x1 x2   q1.2 h)
  · have h := rl_iff q2 h
    refine rl_aload_n (pc := 8) Γ nd_Mo_canChange_8 0 rfl ?_
    refine rl_iload_n (pc := 9) Γ nd_Mo_canChange_9 2 rfl ?_
    obtain ⟨q7, q7h, h⟩ := rl_bd h
    refine rl_callVi (As := [.int x2]) (pc := 10) Γ nd_Mo_canChange_10 hO (rw_Mo_placeOf l E x2  q1.2 q7 q7h) 1 nm_Mo_94 nm_im_Mo_placeOf nm_se_Mo_placeOf nm_ini_Mo nh_Mo_placeOf (rl_o59 E) rfl ⟨rfl, rfl⟩ (by decide +kernel) (Nat.le_of_ble_eq_true rfl) (Nat.le_of_ble_eq_true rfl) ⟨Nat.zero_le _, Nat.zero_le _⟩ (Nat.le_of_ble_eq_true rfl) rfl rfl ?_
    refine rl_if_lt (tgt := 38) (pc := 13) Γ nd_Mo_canChange_13 (by decide) (fun q8 => ?_) (fun q8 => ?_)
    · have h := rl_ift q8 h
      refine rl_iconst (v := 0) (pc := 38) Γ nd_Mo_canChange_38 (by decide) ?_
      exact rl_zret (pc := 39) Γ nd_Mo_canChange_39 hr hk (by decide) h
    · have h := rl_iff q8 h
      exact rl_Gsub [0, 1, 2] rfl (rw_Mo_canChange_J16 Γ hO hr hk x1 x2   q7.2 h)
def rf_Mo_change_J27 (x1 : Int32) (x4 : Int32)  (σ : rl_M) : Option (Int32 × rl_M) := (if x4 < 0 then some (0, σ) else (if rl_ib x4 16 = true then some (0, rl_su σ 63 x4.toNatClampNeg (48 + x1)) else none))
def rf_Mo_change (x1 : Int32) (x2 : Int32) (σ : rl_M) : Option (Int32 × rl_M) := ((rf_Mo_placeOf x1 σ).bind (fun q1 => ((rf_Mo_placeOf x2 q1.2).bind (fun q2 => (if q1.1 < 0 then rf_Mo_change_J27 x1 q2.1  q2.2 else (if rl_ib q1.1 16 = true then rf_Mo_change_J27 x1 q2.1  (rl_su q2.2 63 q1.1.toNatClampNeg (48 + x2)) else none))))))
set_option maxHeartbeats 4000000 in
set_option maxRecDepth 100000 in
theorem rw_Mo_change_J27 {p : Program} {l : Launch} {e : Env} {s : State} {m : MethodId} {args : Array Value} {below : List Frame} {meth : Method} {c : Code} {E : rl_E} (Γ : CallFix p m c nc_Mo_change 5 s args rl_TT nR_Mo) (hO : rl_Ok E s) (hr : meth.sig.returnType = none) (hk : meth.locks = false)  (x1 : Int32) (x4 : Int32)   {r : Int32 × rl_M}  (σ : rl_M) (h : rf_Mo_change_J27 x1 x4  σ = some r) : rl_G p l e nr_Mo_change s m args below meth c 5 E 0 0 (rl_QM below args s E rl_rv r) σ 27 [(0, .ref (E.1 59)), (1, .int x1), (4, .int x4)] [] := by
  unfold rf_Mo_change_J27 at h
  refine rl_iload (pc := 27) Γ nd_Mo_change_27 2 rfl ?_
  refine rl_if_lt (tgt := 43) (pc := 29) Γ nd_Mo_change_29 (by decide) (fun q4 => ?_) (fun q4 => ?_)
  · have h := rl_ift q4 h
    exact rl_vret (pc := 43) Γ nd_Mo_change_43 hr hk h
  · have h := rl_iff q4 h
    refine rl_aload_n (pc := 32) Γ nd_Mo_change_32 0 rfl ?_
    refine rl_get (pc := 33) Γ nd_Mo_change_33 hO (k := 8) (rl_o59 E) rfl (by decide) rfl ⟨ni_Mo, nf_Mo_26⟩ ?_
    refine rl_iload (pc := 36) Γ nd_Mo_change_36 2 rfl ?_
    refine rl_bipush (v := 48) (pc := 38) Γ nd_Mo_change_38 (by decide) ?_
    refine rl_iload_n (pc := 40) Γ nd_Mo_change_40 1 rfl ?_
    refine rl_iadd (pc := 41) Γ nd_Mo_change_41 ?_
    obtain ⟨q5, h⟩ := rl_if h
    refine rl_ist (pc := 42) Γ nd_Mo_change_42 hO (rl_a63 E) (rl_ib_in q5) ?_
    exact rl_vret (pc := 43) Γ nd_Mo_change_43 hr hk h
set_option maxHeartbeats 4000000 in
set_option maxRecDepth 100000 in
theorem rw_Mo_change (l : Launch) (E : rl_E) (x1 : Int32) (x2 : Int32)  (σ : rl_M) (r : Int32 × rl_M) (h : rf_Mo_change x1 x2 σ = some r) : Met l ny_Mo_change nw_Mo_change nr_Mo_change (rl_P E [.ref (E.1 59), .int x1, .int x2] σ) (rl_Q E (rl_rv r.1) r.2) 0 0 (rl_A E) := by
  refine Met.ofW (cc := nc_Mo_change) (maxL := 5) (ret := none) (by decide) rfl ?_
  intro p e s m args below meth c s₁ B hml hv
  obtain ⟨rfl, hP, hO⟩ := hv
  have Γ : CallFix p m c nc_Mo_change 5 s ([.ref (E.1 59), .int x1, .int x2] : List Value).toArray rl_TT nR_Mo := ⟨B.exec, B.bytes, hml, findClass_of_methodNamed B.named, fun w hw => atoms_spec (ws := nw_Mo_change) B.pre w (List.mem_cons_of_mem _ hw)⟩
  have hr := B.returns
  have hk := B.notSynchronized
  refine rl_start (R := nr_Mo_change) (Q := rl_QM below _ s E rl_rv r) (nL := 5) (av := [.ref (E.1 59), .int x1, .int x2]) (σ := σ) hP (Nat.le_of_ble_eq_true rfl) ?_
  unfold rf_Mo_change at h
  refine rl_aload_n (pc := 0) Γ nd_Mo_change_0 0 rfl ?_
  refine rl_iload_n (pc := 1) Γ nd_Mo_change_1 1 rfl ?_
  obtain ⟨q1, q1h, h⟩ := rl_bd h
  refine rl_callVi (As := [.int x1]) (pc := 2) Γ nd_Mo_change_2 hO (rw_Mo_placeOf l E x1  σ q1 q1h) 1 nm_Mo_94 nm_im_Mo_placeOf nm_se_Mo_placeOf nm_ini_Mo nh_Mo_placeOf (rl_o59 E) rfl ⟨rfl, rfl⟩ (by decide +kernel) (Nat.le_of_ble_eq_true rfl) (Nat.le_of_ble_eq_true rfl) ⟨Nat.zero_le _, Nat.zero_le _⟩ (Nat.le_of_ble_eq_true rfl) rfl rfl ?_
  refine rl_istore_n (L' := [(3, .int q1.1), (0, .ref (E.1 59)), (1, .int x1), (2, .int x2)]) (pc := 5) Γ nd_Mo_change_5 (by decide) rfl ?_
  refine rl_aload_n (pc := 6) Γ nd_Mo_change_6 1 rfl ?_
  refine rl_iload_n (pc := 7) Γ nd_Mo_change_7 3 rfl ?_
  obtain ⟨q2, q2h, h⟩ := rl_bd h
  refine rl_callVi (As := [.int x2]) (pc := 8) Γ nd_Mo_change_8 hO (rw_Mo_placeOf l E x2  q1.2 q2 q2h) 1 nm_Mo_94 nm_im_Mo_placeOf nm_se_Mo_placeOf nm_ini_Mo nh_Mo_placeOf (rl_o59 E) rfl ⟨rfl, rfl⟩ (by decide +kernel) (Nat.le_of_ble_eq_true rfl) (Nat.le_of_ble_eq_true rfl) ⟨Nat.zero_le _, Nat.zero_le _⟩ (Nat.le_of_ble_eq_true rfl) rfl rfl ?_
  refine rl_istore (L' := [(4, .int q2.1), (3, .int q1.1), (0, .ref (E.1 59)), (1, .int x1), (2, .int x2)]) (pc := 11) Γ nd_Mo_change_11 (by decide) rfl ?_
  refine rl_iload_n (pc := 13) Γ nd_Mo_change_13 1 rfl ?_
  refine rl_if_lt (tgt := 27) (pc := 14) Γ nd_Mo_change_14 (by decide) (fun q3 => ?_) (fun q3 => ?_)
  · have h := rl_ift q3 h
    exact rl_Gsub [2, 3, 0] rfl (rw_Mo_change_J27 Γ hO hr hk x1 q2.1   q2.2 h)
  · have h := rl_iff q3 h
    refine rl_aload_n (pc := 17) Γ nd_Mo_change_17 2 rfl ?_
    refine rl_get (pc := 18) Γ nd_Mo_change_18 hO (k := 8) (rl_o59 E) rfl (by decide) rfl ⟨ni_Mo, nf_Mo_26⟩ ?_
    refine rl_iload_n (pc := 21) Γ nd_Mo_change_21 1 rfl ?_
    refine rl_bipush (v := 48) (pc := 22) Γ nd_Mo_change_22 (by decide) ?_
    refine rl_iload_n (pc := 24) Γ nd_Mo_change_24 4 rfl ?_
    refine rl_iadd (pc := 25) Γ nd_Mo_change_25 ?_
    obtain ⟨q6, h⟩ := rl_if h
    refine rl_ist (pc := 26) Γ nd_Mo_change_26 hO (rl_a63 E) (rl_ib_in q6) ?_
    exact rl_Gsub [2, 3, 0] rfl (rw_Mo_change_J27 Γ hO hr hk x1 q2.1   (rl_su q2.2 63 q1.1.toNatClampNeg (48 + x2)) h)
def rf_Mo_swap_J27 (x1 : Int32) (x2 : Int32) (s0 : Int32)  (σ : rl_M) : Option (Int32 × rl_M) := (if 0 < ((rl_su σ 59 0 s0) 59 0) then some (0, rl_su σ 59 0 s0) else ((rf_Mo_canChange x1 x2 (rl_su σ 59 0 s0)).bind (fun q4 => (if q4.1 = 0 then some (0, q4.2) else ((rf_Mo_change x1 x2 q4.2).bind (fun q6 => some (1, q6.2)))))))
def rf_Mo_swap_J26 (x1 : Int32) (x2 : Int32)  (σ : rl_M) : Option (Int32 × rl_M) := rf_Mo_swap_J27 x1 x2 1  σ
def rf_Mo_swap (x1 : Int32) (x2 : Int32) (σ : rl_M) : Option (Int32 × rl_M) := ((rf_Mo_isRoom x1 σ).bind (fun q1 => (if q1.1 = 0 then rf_Mo_swap_J26 x1 x2  q1.2 else ((rf_Mo_isRoom x2 q1.2).bind (fun q7 => (if q7.1 = 0 then rf_Mo_swap_J26 x1 x2  q7.2 else (if x1 = x2 then rf_Mo_swap_J26 x1 x2  q7.2 else rf_Mo_swap_J27 x1 x2 0  q7.2)))))))
set_option maxHeartbeats 4000000 in
set_option maxRecDepth 100000 in
theorem rw_Mo_swap_J27 {p : Program} {l : Launch} {e : Env} {s : State} {m : MethodId} {args : Array Value} {below : List Frame} {meth : Method} {c : Code} {E : rl_E} (Γ : CallFix p m c nc_Mo_swap 3 s args rl_TT nR_Mo) (hO : rl_Ok E s) (hr : meth.sig.returnType = (some .boolean)) (hk : meth.locks = false)  (x1 : Int32) (x2 : Int32) (s0 : Int32)   {r : Int32 × rl_M}  (σ : rl_M) (h : rf_Mo_swap_J27 x1 x2 s0  σ = some r) : rl_G p l e nr_Mo_swap s m args below meth c 3 E 0 0 (rl_QM below args s E rl_ri r) σ 27 [(0, .ref (E.1 59)), (1, .int x1), (2, .int x2)] [.int s0, .ref (E.1 59)] := by
  unfold rf_Mo_swap_J27 at h
  refine rl_put (pc := 27) Γ nd_Mo_swap_27 hO (k := 0) (rl_o59 E) rfl (by decide) (fun _ _ => rfl) ⟨ni_Mo, nf_Mo_71⟩ nt_Mo nto_Mo nn_Mo rfl (fun _ => Nat.le_of_ble_eq_true rfl) rl_ni ?_
  refine rl_aload_n (pc := 30) Γ nd_Mo_swap_30 0 rfl ?_
  refine rl_get (pc := 31) Γ nd_Mo_swap_31 hO (k := 0) (rl_o59 E) rfl (by decide) rfl ⟨ni_Mo, nf_Mo_71⟩ ?_
  refine rl_if_gt (tgt := 46) (pc := 34) Γ nd_Mo_swap_34 (by decide) (fun q3 => ?_) (fun q3 => ?_)
  · have h := rl_ift q3 h
    refine rl_iconst (v := 0) (pc := 46) Γ nd_Mo_swap_46 (by decide) ?_
    exact rl_zret (pc := 47) Γ nd_Mo_swap_47 hr hk (by decide) h
  · have h := rl_iff q3 h
    refine rl_aload_n (pc := 37) Γ nd_Mo_swap_37 0 rfl ?_
    refine rl_iload_n (pc := 38) Γ nd_Mo_swap_38 1 rfl ?_
    refine rl_iload_n (pc := 39) Γ nd_Mo_swap_39 2 rfl ?_
    obtain ⟨q4, q4h, h⟩ := rl_bd h
    refine rl_callVi (As := [.int x1, .int x2]) (pc := 40) Γ nd_Mo_swap_40 hO (rw_Mo_canChange l E x1 x2  (rl_su σ 59 0 s0) q4 q4h) 2 nm_Mo_145 nm_im_Mo_canChange nm_se_Mo_canChange nm_ini_Mo nh_Mo_canChange (rl_o59 E) rfl ⟨rfl, rfl⟩ (by decide +kernel) (Nat.le_of_ble_eq_true rfl) (Nat.le_of_ble_eq_true rfl) ⟨Nat.zero_le _, Nat.zero_le _⟩ (Nat.le_of_ble_eq_true rfl) rfl rfl ?_
    refine rl_if_ne (tgt := 48) (pc := 43) Γ nd_Mo_swap_43 (by decide) (fun q5 => ?_) (fun q5 => ?_)
    · have h := rl_iff q5 h
      refine rl_aload_n (pc := 48) Γ nd_Mo_swap_48 0 rfl ?_
      refine rl_iload_n (pc := 49) Γ nd_Mo_swap_49 1 rfl ?_
      refine rl_iload_n (pc := 50) Γ nd_Mo_swap_50 2 rfl ?_
      obtain ⟨q6, q6h, h⟩ := rl_bd h
      refine rl_callVv (As := [.int x1, .int x2]) (pc := 51) Γ nd_Mo_swap_51 hO (rw_Mo_change l E x1 x2  q4.2 q6 q6h) 2 nm_Mo_149 nm_im_Mo_change nm_se_Mo_change nm_ini_Mo nh_Mo_change (rl_o59 E) rfl ⟨rfl, rfl⟩ (by decide +kernel) (Nat.le_of_ble_eq_true rfl) (Nat.le_of_ble_eq_true rfl) ⟨Nat.zero_le _, Nat.zero_le _⟩ (Nat.le_of_ble_eq_true rfl) rfl rfl ?_
      refine rl_iconst (v := 1) (pc := 54) Γ nd_Mo_swap_54 (by decide) ?_
      exact rl_zret (pc := 55) Γ nd_Mo_swap_55 hr hk (by decide) h
    · have h := rl_ift q5 h
      refine rl_iconst (v := 0) (pc := 46) Γ nd_Mo_swap_46 (by decide) ?_
      exact rl_zret (pc := 47) Γ nd_Mo_swap_47 hr hk (by decide) h
set_option maxHeartbeats 4000000 in
set_option maxRecDepth 100000 in
theorem rw_Mo_swap_J26 {p : Program} {l : Launch} {e : Env} {s : State} {m : MethodId} {args : Array Value} {below : List Frame} {meth : Method} {c : Code} {E : rl_E} (Γ : CallFix p m c nc_Mo_swap 3 s args rl_TT nR_Mo) (hO : rl_Ok E s) (hr : meth.sig.returnType = (some .boolean)) (hk : meth.locks = false)  (x1 : Int32) (x2 : Int32)   {r : Int32 × rl_M}  (σ : rl_M) (h : rf_Mo_swap_J26 x1 x2  σ = some r) : rl_G p l e nr_Mo_swap s m args below meth c 3 E 0 0 (rl_QM below args s E rl_ri r) σ 26 [(0, .ref (E.1 59)), (1, .int x1), (2, .int x2)] [.ref (E.1 59)] := by
  unfold rf_Mo_swap_J26 at h
  refine rl_iconst (v := 1) (pc := 26) Γ nd_Mo_swap_26 (by decide) ?_
  exact rl_Gsub [0, 1, 2] rfl (rw_Mo_swap_J27 Γ hO hr hk x1 x2 1   σ h)
set_option maxHeartbeats 4000000 in
set_option maxRecDepth 100000 in
theorem rw_Mo_swap (l : Launch) (E : rl_E) (x1 : Int32) (x2 : Int32)  (σ : rl_M) (r : Int32 × rl_M) (h : rf_Mo_swap x1 x2 σ = some r) : Met l ny_Mo_swap nw_Mo_swap nr_Mo_swap (rl_P E [.ref (E.1 59), .int x1, .int x2] σ) (rl_Q E (rl_ri r.1) r.2) 0 0 (rl_A E) := by
  refine Met.ofW (cc := nc_Mo_swap) (maxL := 3) (ret := (some .boolean)) (by decide) rfl ?_
  intro p e s m args below meth c s₁ B hml hv
  obtain ⟨rfl, hP, hO⟩ := hv
  have Γ : CallFix p m c nc_Mo_swap 3 s ([.ref (E.1 59), .int x1, .int x2] : List Value).toArray rl_TT nR_Mo := ⟨B.exec, B.bytes, hml, findClass_of_methodNamed B.named, fun w hw => atoms_spec (ws := nw_Mo_swap) B.pre w (List.mem_cons_of_mem _ hw)⟩
  have hr := B.returns
  have hk := B.notSynchronized
  refine rl_start (R := nr_Mo_swap) (Q := rl_QM below _ s E rl_ri r) (nL := 3) (av := [.ref (E.1 59), .int x1, .int x2]) (σ := σ) hP (Nat.le_of_ble_eq_true rfl) ?_
  unfold rf_Mo_swap at h
  refine rl_aload_n (pc := 0) Γ nd_Mo_swap_0 0 rfl ?_
  refine rl_aload_n (pc := 1) Γ nd_Mo_swap_1 0 rfl ?_
  refine rl_iload_n (pc := 2) Γ nd_Mo_swap_2 1 rfl ?_
  obtain ⟨q1, q1h, h⟩ := rl_bd h
  refine rl_callVi (As := [.int x1]) (pc := 3) Γ nd_Mo_swap_3 hO (rw_Mo_isRoom l E x1  σ q1 q1h) 1 nm_Mo_77 nm_im_Mo_isRoom nm_se_Mo_isRoom nm_ini_Mo nh_Mo_isRoom (rl_o59 E) rfl ⟨rfl, rfl⟩ (by decide +kernel) (Nat.le_of_ble_eq_true rfl) (Nat.le_of_ble_eq_true rfl) ⟨Nat.zero_le _, Nat.zero_le _⟩ (Nat.le_of_ble_eq_true rfl) rfl rfl ?_
  refine rl_if_eq (tgt := 26) (pc := 6) Γ nd_Mo_swap_6 (by decide) (fun q2 => ?_) (fun q2 => ?_)
  · have h := rl_ift q2 h
    exact rl_Gsub [0, 1, 2] rfl (rw_Mo_swap_J26 Γ hO hr hk x1 x2   q1.2 h)
  · have h := rl_iff q2 h
    refine rl_aload_n (pc := 9) Γ nd_Mo_swap_9 0 rfl ?_
    refine rl_iload_n (pc := 10) Γ nd_Mo_swap_10 2 rfl ?_
    obtain ⟨q7, q7h, h⟩ := rl_bd h
    refine rl_callVi (As := [.int x2]) (pc := 11) Γ nd_Mo_swap_11 hO (rw_Mo_isRoom l E x2  q1.2 q7 q7h) 1 nm_Mo_77 nm_im_Mo_isRoom nm_se_Mo_isRoom nm_ini_Mo nh_Mo_isRoom (rl_o59 E) rfl ⟨rfl, rfl⟩ (by decide +kernel) (Nat.le_of_ble_eq_true rfl) (Nat.le_of_ble_eq_true rfl) ⟨Nat.zero_le _, Nat.zero_le _⟩ (Nat.le_of_ble_eq_true rfl) rfl rfl ?_
    refine rl_if_eq (tgt := 26) (pc := 14) Γ nd_Mo_swap_14 (by decide) (fun q8 => ?_) (fun q8 => ?_)
    · have h := rl_ift q8 h
      exact rl_Gsub [0, 1, 2] rfl (rw_Mo_swap_J26 Γ hO hr hk x1 x2   q7.2 h)
    · have h := rl_iff q8 h
      refine rl_iload_n (pc := 17) Γ nd_Mo_swap_17 1 rfl ?_
      refine rl_iload_n (pc := 18) Γ nd_Mo_swap_18 2 rfl ?_
      refine rl_icmp_eq (tgt := 26) (pc := 19) Γ nd_Mo_swap_19 (by decide) (fun q9 => ?_) (fun q9 => ?_)
      · have h := rl_ift q9 h
        exact rl_Gsub [0, 1, 2] rfl (rw_Mo_swap_J26 Γ hO hr hk x1 x2   q7.2 h)
      · have h := rl_iff q9 h
        refine rl_iconst (v := 0) (pc := 22) Γ nd_Mo_swap_22 (by decide) ?_
        refine rl_goto (tgt := 27) (pc := 23) Γ nd_Mo_swap_23 (by decide) ?_
        exact rl_Gsub [0, 1, 2] rfl (rw_Mo_swap_J27 Γ hO hr hk x1 x2 0   q7.2 h)
def rf_Mo_improve_J134 (x6 : Int32) (x7 : Int32) (x8 : Int32) (x9 : Int32) (RC : Int32 → Int32 → Int32 → Int32 → Int32 → Int32 → rl_M → Option (Int32 × rl_M)) (K164 : Int32 → Int32 → Int32 → Int32 → Int32 → rl_M → Option (Int32 × rl_M)) (σ : rl_M) : Option (Int32 × rl_M) := ((rf_Mo_change x6 x7 σ).bind (fun q12 => RC x8 1 x9 x6 x7 (x7 + 1) q12.2))
def rf_Mo_improve_L60 (x6 : Int32) (K164 : Int32 → Int32 → Int32 → Int32 → Int32 → rl_M → Option (Int32 × rl_M)) : Nat → Int32 → Int32 → Int32 → Int32 → Int32 → Int32 → rl_M → Option (Int32 × rl_M)
  | 0, _, _, _, _, _, _, _ => none
  | n + 1, x1, x2, x3, x4, x5, x7, σ => (if (σ 59 1) ≤ x7 then K164 x1 x2 x3 x4 x5 σ else ((rf_Mo_canChange x6 x7 σ).bind (fun q5 => (if q5.1 = 0 then rf_Mo_improve_L60 x6 K164 n x1 x2 x3 x4 x5 (x7 + 1) q5.2 else ((rf_Mo_change x6 x7 q5.2).bind (fun q7 => ((rf_Mo_allMet  q7.2).bind (fun q8 => (if (q8.2 59 15) = 0 then ((rf_Mo_change x6 x7 q8.2).bind (fun q10 => rf_Mo_improve_L60 x6 K164 n x1 x2 x3 x4 x5 (x7 + 1) q10.2)) else (if x2 = 0 then rf_Mo_improve_J134 x6 x7 q8.1 ((q8.2 59 16) * (q8.2 59 17)) (rf_Mo_improve_L60 x6 K164 n) K164 q8.2 else (if x1 < q8.1 then rf_Mo_improve_J134 x6 x7 q8.1 ((q8.2 59 16) * (q8.2 59 17)) (rf_Mo_improve_L60 x6 K164 n) K164 q8.2 else (if q8.1 = x1 then (if x3 ≤ ((q8.2 59 16) * (q8.2 59 17)) then ((rf_Mo_change x6 x7 q8.2).bind (fun q17 => rf_Mo_improve_L60 x6 K164 n x1 x2 x3 x4 x5 (x7 + 1) q17.2)) else rf_Mo_improve_J134 x6 x7 q8.1 ((q8.2 59 16) * (q8.2 59 17)) (rf_Mo_improve_L60 x6 K164 n) K164 q8.2) else ((rf_Mo_change x6 x7 q8.2).bind (fun q15 => rf_Mo_improve_L60 x6 K164 n x1 x2 x3 x4 x5 (x7 + 1) q15.2))))))))))))))
def rf_Mo_improve_L45  (K170 : Int32 → Int32 → rl_M → Option (Int32 × rl_M)) : Nat → Int32 → Int32 → Int32 → Int32 → Int32 → Int32 → rl_M → Option (Int32 × rl_M)
  | 0, _, _, _, _, _, _, _ => none
  | n + 1, x1, x2, x3, x4, x5, x6, σ => (if (σ 59 1) ≤ x6 then K170 x4 x5 σ else rf_Mo_improve_L60 x6 (fun (q18y1 : Int32) (q18y2 : Int32) (q18y3 : Int32) (q18y4 : Int32) (q18y5 : Int32) (q18m : rl_M) => rf_Mo_improve_L45  K170 n q18y1 q18y2 q18y3 q18y4 q18y5 (x6 + 1) q18m) 10000 x1 x2 x3 x4 x5 (x6 + 1) σ)
def rf_Mo_improve  (σ : rl_M) : Option (Int32 × rl_M) := ((rf_Mo_allMet  (rl_su σ 59 0 0)).bind (fun q1 => (if (q1.2 59 15) = 0 then rf_Mo_improve_L45  (fun (q19y4 : Int32) (q19y5 : Int32) (q19m : rl_M) => (if q19y4 < 0 then (if q19y4 < 0 then some (0, q19m) else some (1, q19m)) else ((rf_Mo_change q19y4 q19y5 q19m).bind (fun q22 => (if q19y4 < 0 then some (0, q22.2) else some (1, q22.2)))))) 10000 q1.1 (q1.2 59 15) 0 ((-1)) ((-1)) 0 q1.2 else rf_Mo_improve_L45  (fun (q24y4 : Int32) (q24y5 : Int32) (q24m : rl_M) => (if q24y4 < 0 then (if q24y4 < 0 then some (0, q24m) else some (1, q24m)) else ((rf_Mo_change q24y4 q24y5 q24m).bind (fun q27 => (if q24y4 < 0 then some (0, q27.2) else some (1, q27.2)))))) 10000 q1.1 (q1.2 59 15) ((q1.2 59 16) * (q1.2 59 17)) ((-1)) ((-1)) 0 q1.2)))
set_option maxHeartbeats 4000000 in
set_option maxRecDepth 100000 in
theorem rw_Mo_improve_J134 {p : Program} {l : Launch} {e : Env} {s : State} {m : MethodId} {args : Array Value} {below : List Frame} {meth : Method} {c : Code} {E : rl_E} (Γ : CallFix p m c nc_Mo_improve 10 s args rl_TT nR_Mo) (hO : rl_Ok E s) (hr : meth.sig.returnType = (some .boolean)) (hk : meth.locks = false)  (x6 : Int32) (x7 : Int32) (x8 : Int32) (x9 : Int32)  (RC : Int32 → Int32 → Int32 → Int32 → Int32 → Int32 → rl_M → Option (Int32 × rl_M)) (K164 : Int32 → Int32 → Int32 → Int32 → Int32 → rl_M → Option (Int32 × rl_M)) {r : Int32 × rl_M} (hRC : ∀ (x1 : Int32) (x2 : Int32) (x3 : Int32) (x4 : Int32) (x5 : Int32) (x7 : Int32) (σ : rl_M), RC x1 x2 x3 x4 x5 x7 σ = some r → rl_G p l e nr_Mo_improve s m args below meth c 10 E 0 0 (rl_QM below args s E rl_ri r) σ 60 [(0, .ref (E.1 59)), (1, .int x1), (2, .int x2), (3, .int x3), (4, .int x4), (5, .int x5), (6, .int x6), (7, .int x7)] []) (hK164 : ∀ (y1 : Int32) (y2 : Int32) (y3 : Int32) (y4 : Int32) (y5 : Int32) (σ : rl_M), K164 y1 y2 y3 y4 y5 σ = some r → rl_G p l e nr_Mo_improve s m args below meth c 10 E 0 0 (rl_QM below args s E rl_ri r) σ 164 [(0, .ref (E.1 59)), (1, .int y1), (2, .int y2), (3, .int y3), (4, .int y4), (5, .int y5), (6, .int x6)] []) (σ : rl_M) (h : rf_Mo_improve_J134 x6 x7 x8 x9 RC K164 σ = some r) : rl_G p l e nr_Mo_improve s m args below meth c 10 E 0 0 (rl_QM below args s E rl_ri r) σ 134 [(0, .ref (E.1 59)), (6, .int x6), (7, .int x7), (8, .int x8), (9, .int x9)] [] := by
  unfold rf_Mo_improve_J134 at h
  refine rl_iconst (v := 1) (pc := 134) Γ nd_Mo_improve_134 (by decide) ?_
  refine rl_istore_n (L' := [(2, .int 1), (0, .ref (E.1 59)), (6, .int x6), (7, .int x7), (8, .int x8), (9, .int x9)]) (pc := 135) Γ nd_Mo_improve_135 (by decide) rfl ?_
  refine rl_iload (pc := 136) Γ nd_Mo_improve_136 4 rfl ?_
  refine rl_istore_n (L' := [(1, .int x8), (2, .int 1), (0, .ref (E.1 59)), (6, .int x6), (7, .int x7), (8, .int x8), (9, .int x9)]) (pc := 138) Γ nd_Mo_improve_138 (by decide) rfl ?_
  refine rl_iload (pc := 139) Γ nd_Mo_improve_139 6 rfl ?_
  refine rl_istore_n (L' := [(3, .int x9), (1, .int x8), (2, .int 1), (0, .ref (E.1 59)), (6, .int x6), (7, .int x7), (8, .int x8), (9, .int x9)]) (pc := 141) Γ nd_Mo_improve_141 (by decide) rfl ?_
  refine rl_iload (pc := 142) Γ nd_Mo_improve_142 4 rfl ?_
  refine rl_istore (L' := [(4, .int x6), (3, .int x9), (1, .int x8), (2, .int 1), (0, .ref (E.1 59)), (6, .int x6), (7, .int x7), (8, .int x8), (9, .int x9)]) (pc := 144) Γ nd_Mo_improve_144 (by decide) rfl ?_
  refine rl_iload (pc := 146) Γ nd_Mo_improve_146 6 rfl ?_
  refine rl_istore (L' := [(5, .int x7), (4, .int x6), (3, .int x9), (1, .int x8), (2, .int 1), (0, .ref (E.1 59)), (6, .int x6), (7, .int x7), (8, .int x8), (9, .int x9)]) (pc := 148) Γ nd_Mo_improve_148 (by decide) rfl ?_
  refine rl_aload_n (pc := 150) Γ nd_Mo_improve_150 5 rfl ?_
  refine rl_iload (pc := 151) Γ nd_Mo_improve_151 6 rfl ?_
  refine rl_iload (pc := 153) Γ nd_Mo_improve_153 7 rfl ?_
  obtain ⟨q12, q12h, h⟩ := rl_bd h
  refine rl_callVv (As := [.int x6, .int x7]) (pc := 155) Γ nd_Mo_improve_155 hO (rw_Mo_change l E x6 x7  σ q12 q12h) 2 nm_Mo_149 nm_im_Mo_change nm_se_Mo_change nm_ini_Mo nh_Mo_change (rl_o59 E) rfl ⟨rfl, rfl⟩ (by decide +kernel) (Nat.le_of_ble_eq_true rfl) (Nat.le_of_ble_eq_true rfl) ⟨Nat.zero_le _, Nat.zero_le _⟩ (Nat.le_of_ble_eq_true rfl) rfl rfl ?_
  refine rl_iinc (v := x7 + 1) (L' := [(7, .int (x7 + 1)), (5, .int x7), (4, .int x6), (3, .int x9), (1, .int x8), (2, .int 1), (0, .ref (E.1 59)), (6, .int x6), (8, .int x8), (9, .int x9)]) (pc := 158) Γ nd_Mo_improve_158 7 rfl rfl (by decide) rfl ?_
  refine rl_goto (tgt := 60) (pc := 161) Γ nd_Mo_improve_161 (by decide) ?_
  exact rl_Gsub [6, 4, 5, 3, 2, 1, 7, 0] rfl (hRC x8 1 x9 x6 x7 (x7 + 1) q12.2 h)
set_option maxHeartbeats 4000000 in
set_option maxRecDepth 100000 in
theorem rw_Mo_improve_L60 {p : Program} {l : Launch} {e : Env} {s : State} {m : MethodId} {args : Array Value} {below : List Frame} {meth : Method} {c : Code} {E : rl_E} (Γ : CallFix p m c nc_Mo_improve 10 s args rl_TT nR_Mo) (hO : rl_Ok E s) (hr : meth.sig.returnType = (some .boolean)) (hk : meth.locks = false) (x6 : Int32)  (K164 : Int32 → Int32 → Int32 → Int32 → Int32 → rl_M → Option (Int32 × rl_M)) {r : Int32 × rl_M} (hK164 : ∀ (y1 : Int32) (y2 : Int32) (y3 : Int32) (y4 : Int32) (y5 : Int32) (σ : rl_M), K164 y1 y2 y3 y4 y5 σ = some r → rl_G p l e nr_Mo_improve s m args below meth c 10 E 0 0 (rl_QM below args s E rl_ri r) σ 164 [(0, .ref (E.1 59)), (1, .int y1), (2, .int y2), (3, .int y3), (4, .int y4), (5, .int y5), (6, .int x6)] []) : ∀ (n : Nat) (x1 : Int32) (x2 : Int32) (x3 : Int32) (x4 : Int32) (x5 : Int32) (x7 : Int32) (σ : rl_M), rf_Mo_improve_L60 x6 K164 n x1 x2 x3 x4 x5 x7 σ = some r → rl_G p l e nr_Mo_improve s m args below meth c 10 E 0 0 (rl_QM below args s E rl_ri r) σ 60 [(0, .ref (E.1 59)), (1, .int x1), (2, .int x2), (3, .int x3), (4, .int x4), (5, .int x5), (6, .int x6), (7, .int x7)] [] := by
  intro n
  induction n with
  | zero =>
    intro x1 x2 x3 x4 x5 x7 σ h
    exact (rl_ns (show none = some r from h)).elim
  | succ n ih =>
    intro x1 x2 x3 x4 x5 x7 σ h
    unfold rf_Mo_improve_L60 at h
    refine rl_iload (pc := 60) Γ nd_Mo_improve_60 7 rfl ?_
    refine rl_aload_n (pc := 62) Γ nd_Mo_improve_62 0 rfl ?_
    refine rl_get (pc := 63) Γ nd_Mo_improve_63 hO (k := 1) (rl_o59 E) rfl (by decide) rfl ⟨ni_Mo, nf_Mo_74⟩ ?_
    refine rl_icmp_ge (tgt := 164) (pc := 66) Γ nd_Mo_improve_66 (by decide) (fun q4 => ?_) (fun q4 => ?_)
    · have h := rl_ift q4 h
      exact rl_Gsub [0, 1, 2, 3, 4, 5, 6] rfl (hK164 x1 x2 x3 x4 x5 σ h)
    · have h := rl_iff q4 h
      refine rl_aload_n (pc := 69) Γ nd_Mo_improve_69 0 rfl ?_
      refine rl_iload (pc := 70) Γ nd_Mo_improve_70 6 rfl ?_
      refine rl_iload (pc := 72) Γ nd_Mo_improve_72 7 rfl ?_
      obtain ⟨q5, q5h, h⟩ := rl_bd h
      refine rl_callVi (As := [.int x6, .int x7]) (pc := 74) Γ nd_Mo_improve_74 hO (rw_Mo_canChange l E x6 x7  σ q5 q5h) 2 nm_Mo_145 nm_im_Mo_canChange nm_se_Mo_canChange nm_ini_Mo nh_Mo_canChange (rl_o59 E) rfl ⟨rfl, rfl⟩ (by decide +kernel) (Nat.le_of_ble_eq_true rfl) (Nat.le_of_ble_eq_true rfl) ⟨Nat.zero_le _, Nat.zero_le _⟩ (Nat.le_of_ble_eq_true rfl) rfl rfl ?_
      refine rl_if_eq (tgt := 158) (pc := 77) Γ nd_Mo_improve_77 (by decide) (fun q6 => ?_) (fun q6 => ?_)
      · have h := rl_ift q6 h
        refine rl_iinc (v := x7 + 1) (L' := [(7, .int (x7 + 1)), (0, .ref (E.1 59)), (1, .int x1), (2, .int x2), (3, .int x3), (4, .int x4), (5, .int x5), (6, .int x6)]) (pc := 158) Γ nd_Mo_improve_158 7 rfl rfl (by decide) rfl ?_
        refine rl_goto (tgt := 60) (pc := 161) Γ nd_Mo_improve_161 (by decide) ?_
        exact rl_Gsub [1, 2, 3, 4, 5, 6, 7, 0] rfl (ih x1 x2 x3 x4 x5 (x7 + 1) q5.2 h)
      · have h := rl_iff q6 h
        refine rl_aload_n (pc := 80) Γ nd_Mo_improve_80 0 rfl ?_
        refine rl_iload (pc := 81) Γ nd_Mo_improve_81 6 rfl ?_
        refine rl_iload (pc := 83) Γ nd_Mo_improve_83 7 rfl ?_
        obtain ⟨q7, q7h, h⟩ := rl_bd h
        refine rl_callVv (As := [.int x6, .int x7]) (pc := 85) Γ nd_Mo_improve_85 hO (rw_Mo_change l E x6 x7  q5.2 q7 q7h) 2 nm_Mo_149 nm_im_Mo_change nm_se_Mo_change nm_ini_Mo nh_Mo_change (rl_o59 E) rfl ⟨rfl, rfl⟩ (by decide +kernel) (Nat.le_of_ble_eq_true rfl) (Nat.le_of_ble_eq_true rfl) ⟨Nat.zero_le _, Nat.zero_le _⟩ (Nat.le_of_ble_eq_true rfl) rfl rfl ?_
        refine rl_aload_n (pc := 88) Γ nd_Mo_improve_88 0 rfl ?_
        obtain ⟨q8, q8h, h⟩ := rl_bd h
        refine rl_callVi (As := []) (pc := 89) Γ nd_Mo_improve_89 hO (rw_Mo_allMet l E   q7.2 q8 q8h) 0 nm_Mo_141 nm_im_Mo_allMet nm_se_Mo_allMet nm_ini_Mo nh_Mo_allMet (rl_o59 E) rfl ⟨rfl, rfl⟩ (by decide +kernel) (Nat.le_of_ble_eq_true rfl) (Nat.le_of_ble_eq_true rfl) ⟨Nat.zero_le _, Nat.zero_le _⟩ (Nat.le_of_ble_eq_true rfl) rfl rfl ?_
        refine rl_istore (L' := [(8, .int q8.1), (0, .ref (E.1 59)), (1, .int x1), (2, .int x2), (3, .int x3), (4, .int x4), (5, .int x5), (6, .int x6), (7, .int x7)]) (pc := 92) Γ nd_Mo_improve_92 (by decide) rfl ?_
        refine rl_aload_n (pc := 94) Γ nd_Mo_improve_94 1 rfl ?_
        refine rl_get (pc := 95) Γ nd_Mo_improve_95 hO (k := 16) (rl_o59 E) rfl (by decide) rfl ⟨ni_Mo, nf_Mo_108⟩ ?_
        refine rl_aload_n (pc := 98) Γ nd_Mo_improve_98 1 rfl ?_
        refine rl_get (pc := 99) Γ nd_Mo_improve_99 hO (k := 17) (rl_o59 E) rfl (by decide) rfl ⟨ni_Mo, nf_Mo_111⟩ ?_
        refine rl_imul (pc := 102) Γ nd_Mo_improve_102 ?_
        refine rl_istore (L' := [(9, .int ((q8.2 59 16) * (q8.2 59 17))), (8, .int q8.1), (0, .ref (E.1 59)), (1, .int x1), (2, .int x2), (3, .int x3), (4, .int x4), (5, .int x5), (6, .int x6), (7, .int x7)]) (pc := 103) Γ nd_Mo_improve_103 (by decide) rfl ?_
        refine rl_aload_n (pc := 105) Γ nd_Mo_improve_105 2 rfl ?_
        refine rl_get (pc := 106) Γ nd_Mo_improve_106 hO (k := 15) (rl_o59 E) rfl (by decide) rfl ⟨ni_Mo, nf_Mo_98⟩ ?_
        refine rl_if_eq (tgt := 150) (pc := 109) Γ nd_Mo_improve_109 (by decide) (fun q9 => ?_) (fun q9 => ?_)
        · have h := rl_ift q9 h
          refine rl_aload_n (pc := 150) Γ nd_Mo_improve_150 2 rfl ?_
          refine rl_iload (pc := 151) Γ nd_Mo_improve_151 8 rfl ?_
          refine rl_iload (pc := 153) Γ nd_Mo_improve_153 9 rfl ?_
          obtain ⟨q10, q10h, h⟩ := rl_bd h
          refine rl_callVv (As := [.int x6, .int x7]) (pc := 155) Γ nd_Mo_improve_155 hO (rw_Mo_change l E x6 x7  q8.2 q10 q10h) 2 nm_Mo_149 nm_im_Mo_change nm_se_Mo_change nm_ini_Mo nh_Mo_change (rl_o59 E) rfl ⟨rfl, rfl⟩ (by decide +kernel) (Nat.le_of_ble_eq_true rfl) (Nat.le_of_ble_eq_true rfl) ⟨Nat.zero_le _, Nat.zero_le _⟩ (Nat.le_of_ble_eq_true rfl) rfl rfl ?_
          refine rl_iinc (v := x7 + 1) (L' := [(7, .int (x7 + 1)), (9, .int ((q8.2 59 16) * (q8.2 59 17))), (8, .int q8.1), (0, .ref (E.1 59)), (1, .int x1), (2, .int x2), (3, .int x3), (4, .int x4), (5, .int x5), (6, .int x6)]) (pc := 158) Γ nd_Mo_improve_158 9 rfl rfl (by decide) rfl ?_
          refine rl_goto (tgt := 60) (pc := 161) Γ nd_Mo_improve_161 (by decide) ?_
          exact rl_Gsub [3, 4, 5, 6, 7, 8, 9, 0] rfl (ih x1 x2 x3 x4 x5 (x7 + 1) q10.2 h)
        · have h := rl_iff q9 h
          refine rl_iload_n (pc := 112) Γ nd_Mo_improve_112 4 rfl ?_
          refine rl_if_eq (tgt := 134) (pc := 113) Γ nd_Mo_improve_113 (by decide) (fun q11 => ?_) (fun q11 => ?_)
          · have h := rl_ift q11 h
            exact rl_Gsub [2, 8, 9, 1, 0] rfl (rw_Mo_improve_J134 Γ hO hr hk x6 x7 q8.1 ((q8.2 59 16) * (q8.2 59 17))  _ _ ih hK164 q8.2 h)
          · have h := rl_iff q11 h
            refine rl_iload (pc := 116) Γ nd_Mo_improve_116 1 rfl ?_
            refine rl_iload_n (pc := 118) Γ nd_Mo_improve_118 3 rfl ?_
            refine rl_icmp_gt (tgt := 134) (pc := 119) Γ nd_Mo_improve_119 (by decide) (fun q13 => ?_) (fun q13 => ?_)
            · have h := rl_ift q13 h
              exact rl_Gsub [2, 8, 9, 1, 0] rfl (rw_Mo_improve_J134 Γ hO hr hk x6 x7 q8.1 ((q8.2 59 16) * (q8.2 59 17))  _ _ ih hK164 q8.2 h)
            · have h := rl_iff q13 h
              refine rl_iload (pc := 122) Γ nd_Mo_improve_122 1 rfl ?_
              refine rl_iload_n (pc := 124) Γ nd_Mo_improve_124 3 rfl ?_
              refine rl_icmp_ne (tgt := 150) (pc := 125) Γ nd_Mo_improve_125 (by decide) (fun q14 => ?_) (fun q14 => ?_)
              · have h := rl_iff q14 h
                refine rl_aload_n (pc := 150) Γ nd_Mo_improve_150 2 rfl ?_
                refine rl_iload (pc := 151) Γ nd_Mo_improve_151 8 rfl ?_
                refine rl_iload (pc := 153) Γ nd_Mo_improve_153 9 rfl ?_
                obtain ⟨q15, q15h, h⟩ := rl_bd h
                refine rl_callVv (As := [.int x6, .int x7]) (pc := 155) Γ nd_Mo_improve_155 hO (rw_Mo_change l E x6 x7  q8.2 q15 q15h) 2 nm_Mo_149 nm_im_Mo_change nm_se_Mo_change nm_ini_Mo nh_Mo_change (rl_o59 E) rfl ⟨rfl, rfl⟩ (by decide +kernel) (Nat.le_of_ble_eq_true rfl) (Nat.le_of_ble_eq_true rfl) ⟨Nat.zero_le _, Nat.zero_le _⟩ (Nat.le_of_ble_eq_true rfl) rfl rfl ?_
                refine rl_iinc (v := x7 + 1) (L' := [(7, .int (x7 + 1)), (9, .int ((q8.2 59 16) * (q8.2 59 17))), (8, .int q8.1), (0, .ref (E.1 59)), (1, .int x1), (2, .int x2), (3, .int x3), (4, .int x4), (5, .int x5), (6, .int x6)]) (pc := 158) Γ nd_Mo_improve_158 9 rfl rfl (by decide) rfl ?_
                refine rl_goto (tgt := 60) (pc := 161) Γ nd_Mo_improve_161 (by decide) ?_
                exact rl_Gsub [3, 4, 5, 6, 7, 8, 9, 0] rfl (ih x1 x2 x3 x4 x5 (x7 + 1) q15.2 h)
              · have h := rl_ift q14 h
                refine rl_iload (pc := 128) Γ nd_Mo_improve_128 0 rfl ?_
                refine rl_iload_n (pc := 130) Γ nd_Mo_improve_130 5 rfl ?_
                refine rl_icmp_ge (tgt := 150) (pc := 131) Γ nd_Mo_improve_131 (by decide) (fun q16 => ?_) (fun q16 => ?_)
                · have h := rl_ift q16 h
                  refine rl_aload_n (pc := 150) Γ nd_Mo_improve_150 2 rfl ?_
                  refine rl_iload (pc := 151) Γ nd_Mo_improve_151 8 rfl ?_
                  refine rl_iload (pc := 153) Γ nd_Mo_improve_153 9 rfl ?_
                  obtain ⟨q17, q17h, h⟩ := rl_bd h
                  refine rl_callVv (As := [.int x6, .int x7]) (pc := 155) Γ nd_Mo_improve_155 hO (rw_Mo_change l E x6 x7  q8.2 q17 q17h) 2 nm_Mo_149 nm_im_Mo_change nm_se_Mo_change nm_ini_Mo nh_Mo_change (rl_o59 E) rfl ⟨rfl, rfl⟩ (by decide +kernel) (Nat.le_of_ble_eq_true rfl) (Nat.le_of_ble_eq_true rfl) ⟨Nat.zero_le _, Nat.zero_le _⟩ (Nat.le_of_ble_eq_true rfl) rfl rfl ?_
                  refine rl_iinc (v := x7 + 1) (L' := [(7, .int (x7 + 1)), (9, .int ((q8.2 59 16) * (q8.2 59 17))), (8, .int q8.1), (0, .ref (E.1 59)), (1, .int x1), (2, .int x2), (3, .int x3), (4, .int x4), (5, .int x5), (6, .int x6)]) (pc := 158) Γ nd_Mo_improve_158 9 rfl rfl (by decide) rfl ?_
                  refine rl_goto (tgt := 60) (pc := 161) Γ nd_Mo_improve_161 (by decide) ?_
                  exact rl_Gsub [3, 4, 5, 6, 7, 8, 9, 0] rfl (ih x1 x2 x3 x4 x5 (x7 + 1) q17.2 h)
                · have h := rl_iff q16 h
                  exact rl_Gsub [2, 8, 9, 1, 0] rfl (rw_Mo_improve_J134 Γ hO hr hk x6 x7 q8.1 ((q8.2 59 16) * (q8.2 59 17))  _ _ ih hK164 q8.2 h)
set_option maxHeartbeats 4000000 in
set_option maxRecDepth 100000 in
theorem rw_Mo_improve_L45 {p : Program} {l : Launch} {e : Env} {s : State} {m : MethodId} {args : Array Value} {below : List Frame} {meth : Method} {c : Code} {E : rl_E} (Γ : CallFix p m c nc_Mo_improve 10 s args rl_TT nR_Mo) (hO : rl_Ok E s) (hr : meth.sig.returnType = (some .boolean)) (hk : meth.locks = false)   (K170 : Int32 → Int32 → rl_M → Option (Int32 × rl_M)) {r : Int32 × rl_M} (hK170 : ∀ (y4 : Int32) (y5 : Int32) (σ : rl_M), K170 y4 y5 σ = some r → rl_G p l e nr_Mo_improve s m args below meth c 10 E 0 0 (rl_QM below args s E rl_ri r) σ 170 [(0, .ref (E.1 59)), (4, .int y4), (5, .int y5)] []) : ∀ (n : Nat) (x1 : Int32) (x2 : Int32) (x3 : Int32) (x4 : Int32) (x5 : Int32) (x6 : Int32) (σ : rl_M), rf_Mo_improve_L45  K170 n x1 x2 x3 x4 x5 x6 σ = some r → rl_G p l e nr_Mo_improve s m args below meth c 10 E 0 0 (rl_QM below args s E rl_ri r) σ 45 [(0, .ref (E.1 59)), (1, .int x1), (2, .int x2), (3, .int x3), (4, .int x4), (5, .int x5), (6, .int x6)] [] := by
  intro n
  induction n with
  | zero =>
    intro x1 x2 x3 x4 x5 x6 σ h
    exact (rl_ns (show none = some r from h)).elim
  | succ n ih =>
    intro x1 x2 x3 x4 x5 x6 σ h
    unfold rf_Mo_improve_L45 at h
    refine rl_iload (pc := 45) Γ nd_Mo_improve_45 6 rfl ?_
    refine rl_aload_n (pc := 47) Γ nd_Mo_improve_47 0 rfl ?_
    refine rl_get (pc := 48) Γ nd_Mo_improve_48 hO (k := 1) (rl_o59 E) rfl (by decide) rfl ⟨ni_Mo, nf_Mo_74⟩ ?_
    refine rl_icmp_ge (tgt := 170) (pc := 51) Γ nd_Mo_improve_51 (by decide) (fun q3 => ?_) (fun q3 => ?_)
    · have h := rl_ift q3 h
      exact rl_Gsub [0, 4, 5] rfl (hK170 x4 x5 σ h)
    · have h := rl_iff q3 h
      refine rl_iload (pc := 54) Γ nd_Mo_improve_54 6 rfl ?_
      refine rl_iconst (v := 1) (pc := 56) Γ nd_Mo_improve_56 (by decide) ?_
      refine rl_iadd (pc := 57) Γ nd_Mo_improve_57 ?_
      refine rl_istore (L' := [(7, .int (x6 + 1)), (0, .ref (E.1 59)), (1, .int x1), (2, .int x2), (3, .int x3), (4, .int x4), (5, .int x5), (6, .int x6)]) (pc := 58) Γ nd_Mo_improve_58 (by decide) rfl ?_
      refine rl_Gsub [1, 2, 3, 4, 5, 6, 7, 0] rfl (rw_Mo_improve_L60 Γ hO hr hk x6  _ ?_ 10000 x1 x2 x3 x4 x5 (x6 + 1) σ h)
      · intro q18y1 q18y2 q18y3 q18y4 q18y5 q18m h
        refine rl_iinc (v := x6 + 1) (L' := [(6, .int (x6 + 1)), (0, .ref (E.1 59)), (1, .int q18y1), (2, .int q18y2), (3, .int q18y3), (4, .int q18y4), (5, .int q18y5)]) (pc := 164) Γ nd_Mo_improve_164 6 rfl rfl (by decide) rfl ?_
        refine rl_goto (tgt := 45) (pc := 167) Γ nd_Mo_improve_167 (by decide) ?_
        exact rl_Gsub [1, 2, 3, 4, 5, 6, 0] rfl (ih q18y1 q18y2 q18y3 q18y4 q18y5 (x6 + 1) q18m h)
set_option maxHeartbeats 4000000 in
set_option maxRecDepth 100000 in
theorem rw_Mo_improve (l : Launch) (E : rl_E)   (σ : rl_M) (r : Int32 × rl_M) (h : rf_Mo_improve  σ = some r) : Met l ny_Mo_improve nw_Mo_improve nr_Mo_improve (rl_P E [.ref (E.1 59)] σ) (rl_Q E (rl_ri r.1) r.2) 0 0 (rl_A E) := by
  refine Met.ofW (cc := nc_Mo_improve) (maxL := 10) (ret := (some .boolean)) (by decide) rfl ?_
  intro p e s m args below meth c s₁ B hml hv
  obtain ⟨rfl, hP, hO⟩ := hv
  have Γ : CallFix p m c nc_Mo_improve 10 s ([.ref (E.1 59)] : List Value).toArray rl_TT nR_Mo := ⟨B.exec, B.bytes, hml, findClass_of_methodNamed B.named, fun w hw => atoms_spec (ws := nw_Mo_improve) B.pre w (List.mem_cons_of_mem _ hw)⟩
  have hr := B.returns
  have hk := B.notSynchronized
  refine rl_start (R := nr_Mo_improve) (Q := rl_QM below _ s E rl_ri r) (nL := 10) (av := [.ref (E.1 59)]) (σ := σ) hP (Nat.le_of_ble_eq_true rfl) ?_
  unfold rf_Mo_improve at h
  refine rl_aload_n (pc := 0) Γ nd_Mo_improve_0 0 rfl ?_
  refine rl_iconst (v := 0) (pc := 1) Γ nd_Mo_improve_1 (by decide) ?_
  refine rl_put (pc := 2) Γ nd_Mo_improve_2 hO (k := 0) (rl_o59 E) rfl (by decide) (fun _ _ => rfl) ⟨ni_Mo, nf_Mo_71⟩ nt_Mo nto_Mo nn_Mo rfl (fun _ => Nat.le_of_ble_eq_true rfl) rl_ni ?_
  refine rl_aload_n (pc := 5) Γ nd_Mo_improve_5 0 rfl ?_
  obtain ⟨q1, q1h, h⟩ := rl_bd h
  refine rl_callVi (As := []) (pc := 6) Γ nd_Mo_improve_6 hO (rw_Mo_allMet l E   (rl_su σ 59 0 0) q1 q1h) 0 nm_Mo_141 nm_im_Mo_allMet nm_se_Mo_allMet nm_ini_Mo nh_Mo_allMet (rl_o59 E) rfl ⟨rfl, rfl⟩ (by decide +kernel) (Nat.le_of_ble_eq_true rfl) (Nat.le_of_ble_eq_true rfl) ⟨Nat.zero_le _, Nat.zero_le _⟩ (Nat.le_of_ble_eq_true rfl) rfl rfl ?_
  refine rl_istore_n (L' := [(1, .int q1.1), (0, .ref (E.1 59))]) (pc := 9) Γ nd_Mo_improve_9 (by decide) rfl ?_
  refine rl_aload_n (pc := 10) Γ nd_Mo_improve_10 1 rfl ?_
  refine rl_get (pc := 11) Γ nd_Mo_improve_11 hO (k := 15) (rl_o59 E) rfl (by decide) rfl ⟨ni_Mo, nf_Mo_98⟩ ?_
  refine rl_istore_n (L' := [(2, .int (q1.2 59 15)), (1, .int q1.1), (0, .ref (E.1 59))]) (pc := 14) Γ nd_Mo_improve_14 (by decide) rfl ?_
  refine rl_aload_n (pc := 15) Γ nd_Mo_improve_15 2 rfl ?_
  refine rl_get (pc := 16) Γ nd_Mo_improve_16 hO (k := 15) (rl_o59 E) rfl (by decide) rfl ⟨ni_Mo, nf_Mo_98⟩ ?_
  refine rl_if_eq (tgt := 34) (pc := 19) Γ nd_Mo_improve_19 (by decide) (fun q2 => ?_) (fun q2 => ?_)
  · have h := rl_ift q2 h
    refine rl_iconst (v := 0) (pc := 34) Γ nd_Mo_improve_34 (by decide) ?_
    refine rl_istore_n (L' := [(3, .int 0), (2, .int (q1.2 59 15)), (1, .int q1.1), (0, .ref (E.1 59))]) (pc := 35) Γ nd_Mo_improve_35 (by decide) rfl ?_
    refine rl_iconst (v := (-1)) (pc := 36) Γ nd_Mo_improve_36 (by decide) ?_
    refine rl_istore (L' := [(4, .int ((-1))), (3, .int 0), (2, .int (q1.2 59 15)), (1, .int q1.1), (0, .ref (E.1 59))]) (pc := 37) Γ nd_Mo_improve_37 (by decide) rfl ?_
    refine rl_iconst (v := (-1)) (pc := 39) Γ nd_Mo_improve_39 (by decide) ?_
    refine rl_istore (L' := [(5, .int ((-1))), (4, .int ((-1))), (3, .int 0), (2, .int (q1.2 59 15)), (1, .int q1.1), (0, .ref (E.1 59))]) (pc := 40) Γ nd_Mo_improve_40 (by decide) rfl ?_
    refine rl_iconst (v := 0) (pc := 42) Γ nd_Mo_improve_42 (by decide) ?_
    refine rl_istore (L' := [(6, .int 0), (5, .int ((-1))), (4, .int ((-1))), (3, .int 0), (2, .int (q1.2 59 15)), (1, .int q1.1), (0, .ref (E.1 59))]) (pc := 43) Γ nd_Mo_improve_43 (by decide) rfl ?_
    refine rl_Gsub [6, 5, 4, 3, 2, 1, 0] rfl (rw_Mo_improve_L45 Γ hO hr hk   _ ?_ 10000 q1.1 (q1.2 59 15) 0 ((-1)) ((-1)) 0 q1.2 h)
    · intro q19y4 q19y5 q19m h
      refine rl_iload (pc := 170) Γ nd_Mo_improve_170 1 rfl ?_
      refine rl_if_lt (tgt := 183) (pc := 172) Γ nd_Mo_improve_172 (by decide) (fun q20 => ?_) (fun q20 => ?_)
      · have h := rl_ift q20 h
        refine rl_iload (pc := 183) Γ nd_Mo_improve_183 1 rfl ?_
        refine rl_if_lt (tgt := 192) (pc := 185) Γ nd_Mo_improve_185 (by decide) (fun q21 => ?_) (fun q21 => ?_)
        · have h := rl_ift q21 h
          refine rl_iconst (v := 0) (pc := 192) Γ nd_Mo_improve_192 (by decide) ?_
          exact rl_zret (pc := 193) Γ nd_Mo_improve_193 hr hk (by decide) h
        · have h := rl_iff q21 h
          refine rl_iconst (v := 1) (pc := 188) Γ nd_Mo_improve_188 (by decide) ?_
          refine rl_goto (tgt := 193) (pc := 189) Γ nd_Mo_improve_189 (by decide) ?_
          exact rl_zret (pc := 193) Γ nd_Mo_improve_193 hr hk (by decide) h
      · have h := rl_iff q20 h
        refine rl_aload_n (pc := 175) Γ nd_Mo_improve_175 0 rfl ?_
        refine rl_iload (pc := 176) Γ nd_Mo_improve_176 1 rfl ?_
        refine rl_iload (pc := 178) Γ nd_Mo_improve_178 2 rfl ?_
        obtain ⟨q22, q22h, h⟩ := rl_bd h
        refine rl_callVv (As := [.int q19y4, .int q19y5]) (pc := 180) Γ nd_Mo_improve_180 hO (rw_Mo_change l E q19y4 q19y5  q19m q22 q22h) 2 nm_Mo_149 nm_im_Mo_change nm_se_Mo_change nm_ini_Mo nh_Mo_change (rl_o59 E) rfl ⟨rfl, rfl⟩ (by decide +kernel) (Nat.le_of_ble_eq_true rfl) (Nat.le_of_ble_eq_true rfl) ⟨Nat.zero_le _, Nat.zero_le _⟩ (Nat.le_of_ble_eq_true rfl) rfl rfl ?_
        refine rl_iload (pc := 183) Γ nd_Mo_improve_183 1 rfl ?_
        refine rl_if_lt (tgt := 192) (pc := 185) Γ nd_Mo_improve_185 (by decide) (fun q23 => ?_) (fun q23 => ?_)
        · have h := rl_ift q23 h
          refine rl_iconst (v := 0) (pc := 192) Γ nd_Mo_improve_192 (by decide) ?_
          exact rl_zret (pc := 193) Γ nd_Mo_improve_193 hr hk (by decide) h
        · have h := rl_iff q23 h
          refine rl_iconst (v := 1) (pc := 188) Γ nd_Mo_improve_188 (by decide) ?_
          refine rl_goto (tgt := 193) (pc := 189) Γ nd_Mo_improve_189 (by decide) ?_
          exact rl_zret (pc := 193) Γ nd_Mo_improve_193 hr hk (by decide) h
  · have h := rl_iff q2 h
    refine rl_aload_n (pc := 22) Γ nd_Mo_improve_22 2 rfl ?_
    refine rl_get (pc := 23) Γ nd_Mo_improve_23 hO (k := 16) (rl_o59 E) rfl (by decide) rfl ⟨ni_Mo, nf_Mo_108⟩ ?_
    refine rl_aload_n (pc := 26) Γ nd_Mo_improve_26 2 rfl ?_
    refine rl_get (pc := 27) Γ nd_Mo_improve_27 hO (k := 17) (rl_o59 E) rfl (by decide) rfl ⟨ni_Mo, nf_Mo_111⟩ ?_
    refine rl_imul (pc := 30) Γ nd_Mo_improve_30 ?_
    refine rl_goto (tgt := 35) (pc := 31) Γ nd_Mo_improve_31 (by decide) ?_
    refine rl_istore_n (L' := [(3, .int ((q1.2 59 16) * (q1.2 59 17))), (2, .int (q1.2 59 15)), (1, .int q1.1), (0, .ref (E.1 59))]) (pc := 35) Γ nd_Mo_improve_35 (by decide) rfl ?_
    refine rl_iconst (v := (-1)) (pc := 36) Γ nd_Mo_improve_36 (by decide) ?_
    refine rl_istore (L' := [(4, .int ((-1))), (3, .int ((q1.2 59 16) * (q1.2 59 17))), (2, .int (q1.2 59 15)), (1, .int q1.1), (0, .ref (E.1 59))]) (pc := 37) Γ nd_Mo_improve_37 (by decide) rfl ?_
    refine rl_iconst (v := (-1)) (pc := 39) Γ nd_Mo_improve_39 (by decide) ?_
    refine rl_istore (L' := [(5, .int ((-1))), (4, .int ((-1))), (3, .int ((q1.2 59 16) * (q1.2 59 17))), (2, .int (q1.2 59 15)), (1, .int q1.1), (0, .ref (E.1 59))]) (pc := 40) Γ nd_Mo_improve_40 (by decide) rfl ?_
    refine rl_iconst (v := 0) (pc := 42) Γ nd_Mo_improve_42 (by decide) ?_
    refine rl_istore (L' := [(6, .int 0), (5, .int ((-1))), (4, .int ((-1))), (3, .int ((q1.2 59 16) * (q1.2 59 17))), (2, .int (q1.2 59 15)), (1, .int q1.1), (0, .ref (E.1 59))]) (pc := 43) Γ nd_Mo_improve_43 (by decide) rfl ?_
    refine rl_Gsub [6, 5, 4, 3, 2, 1, 0] rfl (rw_Mo_improve_L45 Γ hO hr hk   _ ?_ 10000 q1.1 (q1.2 59 15) ((q1.2 59 16) * (q1.2 59 17)) ((-1)) ((-1)) 0 q1.2 h)
    · intro q24y4 q24y5 q24m h
      refine rl_iload (pc := 170) Γ nd_Mo_improve_170 1 rfl ?_
      refine rl_if_lt (tgt := 183) (pc := 172) Γ nd_Mo_improve_172 (by decide) (fun q25 => ?_) (fun q25 => ?_)
      · have h := rl_ift q25 h
        refine rl_iload (pc := 183) Γ nd_Mo_improve_183 1 rfl ?_
        refine rl_if_lt (tgt := 192) (pc := 185) Γ nd_Mo_improve_185 (by decide) (fun q26 => ?_) (fun q26 => ?_)
        · have h := rl_ift q26 h
          refine rl_iconst (v := 0) (pc := 192) Γ nd_Mo_improve_192 (by decide) ?_
          exact rl_zret (pc := 193) Γ nd_Mo_improve_193 hr hk (by decide) h
        · have h := rl_iff q26 h
          refine rl_iconst (v := 1) (pc := 188) Γ nd_Mo_improve_188 (by decide) ?_
          refine rl_goto (tgt := 193) (pc := 189) Γ nd_Mo_improve_189 (by decide) ?_
          exact rl_zret (pc := 193) Γ nd_Mo_improve_193 hr hk (by decide) h
      · have h := rl_iff q25 h
        refine rl_aload_n (pc := 175) Γ nd_Mo_improve_175 0 rfl ?_
        refine rl_iload (pc := 176) Γ nd_Mo_improve_176 1 rfl ?_
        refine rl_iload (pc := 178) Γ nd_Mo_improve_178 2 rfl ?_
        obtain ⟨q27, q27h, h⟩ := rl_bd h
        refine rl_callVv (As := [.int q24y4, .int q24y5]) (pc := 180) Γ nd_Mo_improve_180 hO (rw_Mo_change l E q24y4 q24y5  q24m q27 q27h) 2 nm_Mo_149 nm_im_Mo_change nm_se_Mo_change nm_ini_Mo nh_Mo_change (rl_o59 E) rfl ⟨rfl, rfl⟩ (by decide +kernel) (Nat.le_of_ble_eq_true rfl) (Nat.le_of_ble_eq_true rfl) ⟨Nat.zero_le _, Nat.zero_le _⟩ (Nat.le_of_ble_eq_true rfl) rfl rfl ?_
        refine rl_iload (pc := 183) Γ nd_Mo_improve_183 1 rfl ?_
        refine rl_if_lt (tgt := 192) (pc := 185) Γ nd_Mo_improve_185 (by decide) (fun q28 => ?_) (fun q28 => ?_)
        · have h := rl_ift q28 h
          refine rl_iconst (v := 0) (pc := 192) Γ nd_Mo_improve_192 (by decide) ?_
          exact rl_zret (pc := 193) Γ nd_Mo_improve_193 hr hk (by decide) h
        · have h := rl_iff q28 h
          refine rl_iconst (v := 1) (pc := 188) Γ nd_Mo_improve_188 (by decide) ?_
          refine rl_goto (tgt := 193) (pc := 189) Γ nd_Mo_improve_189 (by decide) ?_
          exact rl_zret (pc := 193) Γ nd_Mo_improve_193 hr hk (by decide) h
