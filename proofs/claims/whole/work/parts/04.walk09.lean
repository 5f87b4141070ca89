def rf_Mo_firstChoice_L2   : Nat → Int32 → rl_M → Option (Int32 × rl_M)
  | 0, _, _ => none
  | n + 1, x1, σ => (if 6 ≤ x1 then some (0, σ) else (if rl_ib x1 6 = true then rf_Mo_firstChoice_L2   n (x1 + 1) (rl_su σ 67 x1.toNatClampNeg 0) else none))
def rf_Mo_firstChoice  (σ : rl_M) : Option (Int32 × rl_M) := rf_Mo_firstChoice_L2   10000 0 σ
set_option maxHeartbeats 4000000 in
set_option maxRecDepth 100000 in
theorem rw_Mo_firstChoice_L2 {p : Program} {l : Launch} {e : Env} {s : State} {m : MethodId} {args : Array Value} {below : List Frame} {meth : Method} {c : Code} {E : rl_E} (Γ : CallFix p m c nc_Mo_firstChoice 2 s args rl_TT nR_Mo) (hO : rl_Ok E s) (hr : meth.sig.returnType = none) (hk : meth.locks = false)    {r : Int32 × rl_M}  : ∀ (n : Nat) (x1 : Int32) (σ : rl_M), rf_Mo_firstChoice_L2   n x1 σ = some r → rl_G p l e nr_Mo_firstChoice s m args below meth c 2 E 0 0 (rl_QM below args s E rl_rv r) σ 2 [(0, .ref (E.1 59)), (1, .int x1)] [] := by
  intro n
  induction n with
  | zero =>
    intro x1 σ h
    exact (rl_ns (show none = some r from h)).elim
  | succ n ih =>
    intro x1 σ h
    unfold rf_Mo_firstChoice_L2 at h
    refine rl_iload_n (pc := 2) Γ nd_Mo_firstChoice_2 1 rfl ?_
    refine rl_bipush (v := 6) (pc := 3) Γ nd_Mo_firstChoice_3 (by decide) ?_
    refine rl_icmp_ge (tgt := 21) (pc := 5) Γ nd_Mo_firstChoice_5 (by decide) (fun q1 => ?_) (fun q1 => ?_)
    · have h := rl_ift q1 h
      exact rl_vret (pc := 21) Γ nd_Mo_firstChoice_21 hr hk h
    · have h := rl_iff q1 h
      refine rl_aload_n (pc := 8) Γ nd_Mo_firstChoice_8 0 rfl ?_
      refine rl_get (pc := 9) Γ nd_Mo_firstChoice_9 hO (k := 13) (rl_o59 E) rfl (by decide) rfl ⟨ni_Mo, nf_Mo_38⟩ ?_
      refine rl_iload_n (pc := 12) Γ nd_Mo_firstChoice_12 1 rfl ?_
      refine rl_iconst (v := 0) (pc := 13) Γ nd_Mo_firstChoice_13 (by decide) ?_
      obtain ⟨q2, h⟩ := rl_if h
      refine rl_ist (pc := 14) Γ nd_Mo_firstChoice_14 hO (rl_a67 E) (rl_ib_in q2) ?_
      refine rl_iinc (v := x1 + 1) (L' := [(1, .int (x1 + 1)), (0, .ref (E.1 59))]) (pc := 15) Γ nd_Mo_firstChoice_15 1 rfl rfl (by decide) rfl ?_
      refine rl_goto (tgt := 2) (pc := 18) Γ nd_Mo_firstChoice_18 (by decide) ?_
      exact rl_Gsub [1, 0] rfl (ih (x1 + 1) (rl_su σ 67 x1.toNatClampNeg 0) h)
set_option maxHeartbeats 4000000 in
set_option maxRecDepth 100000 in
theorem rw_Mo_firstChoice (l : Launch) (E : rl_E)   (σ : rl_M) (r : Int32 × rl_M) (h : rf_Mo_firstChoice  σ = some r) : Met l ny_Mo_firstChoice nw_Mo_firstChoice nr_Mo_firstChoice (rl_P E [.ref (E.1 59)] σ) (rl_Q E (rl_rv r.1) r.2) 0 0 (rl_A E) := by
  refine Met.ofW (cc := nc_Mo_firstChoice) (maxL := 2) (ret := none) (by decide) rfl ?_
  intro p e s m args below meth c s₁ B hml hv
  obtain ⟨rfl, hP, hO⟩ := hv
  have Γ : CallFix p m c nc_Mo_firstChoice 2 s ([.ref (E.1 59)] : List Value).toArray rl_TT nR_Mo := ⟨B.exec, B.bytes, hml, findClass_of_methodNamed B.named, fun w hw => atoms_spec (ws := nw_Mo_firstChoice) B.pre w (List.mem_cons_of_mem _ hw)⟩
  have hr := B.returns
  have hk := B.notSynchronized
  refine rl_start (R := nr_Mo_firstChoice) (Q := rl_QM below _ s E rl_rv r) (nL := 2) (av := [.ref (E.1 59)]) (σ := σ) hP (Nat.le_of_ble_eq_true rfl) ?_
  unfold rf_Mo_firstChoice at h
  refine rl_iconst (v := 0) (pc := 0) Γ nd_Mo_firstChoice_0 (by decide) ?_
  refine rl_istore_n (L' := [(1, .int 0), (0, .ref (E.1 59))]) (pc := 1) Γ nd_Mo_firstChoice_1 (by decide) rfl ?_
  refine rl_Gsub [1, 0] rfl (rw_Mo_firstChoice_L2 Γ hO hr hk     10000 0 σ h)
def rf_Mo_nextChoice_L2   : Nat → Int32 → rl_M → Option (Int32 × rl_M)
  | 0, _, _ => none
  | n + 1, x1, σ => (if x1 < 0 then some (0, σ) else ((rf_Mo_placeOf x1 σ).bind (fun q2 => (if q2.1 < 0 then rf_Mo_nextChoice_L2   n (x1 + (-1)) q2.2 else (if rl_ib x1 6 = true then (if rl_ib x1 6 = true then (if rl_ib x1 6 = true then (if rl_ib x1 6 = true then (if ((rl_su q2.2 67 x1.toNatClampNeg ((q2.2 67 x1.toNatClampNeg) + 1)) 60 x1.toNatClampNeg) ≤ ((rl_su q2.2 67 x1.toNatClampNeg ((q2.2 67 x1.toNatClampNeg) + 1)) 67 x1.toNatClampNeg) then (if rl_ib x1 6 = true then rf_Mo_nextChoice_L2   n (x1 + (-1)) (rl_su (rl_su q2.2 67 x1.toNatClampNeg ((q2.2 67 x1.toNatClampNeg) + 1)) 67 x1.toNatClampNeg 0) else none) else some (1, rl_su q2.2 67 x1.toNatClampNeg ((q2.2 67 x1.toNatClampNeg) + 1))) else none) else none) else none) else none)))))
def rf_Mo_nextChoice  (σ : rl_M) : Option (Int32 × rl_M) := rf_Mo_nextChoice_L2   10000 5 σ
set_option maxHeartbeats 4000000 in
set_option maxRecDepth 100000 in
theorem rw_Mo_nextChoice_L2 {p : Program} {l : Launch} {e : Env} {s : State} {m : MethodId} {args : Array Value} {below : List Frame} {meth : Method} {c : Code} {E : rl_E} (Γ : CallFix p m c nc_Mo_nextChoice 2 s args rl_TT nR_Mo) (hO : rl_Ok E s) (hr : meth.sig.returnType = (some .boolean)) (hk : meth.locks = false)    {r : Int32 × rl_M}  : ∀ (n : Nat) (x1 : Int32) (σ : rl_M), rf_Mo_nextChoice_L2   n x1 σ = some r → rl_G p l e nr_Mo_nextChoice s m args below meth c 2 E 0 0 (rl_QM below args s E rl_ri r) σ 2 [(0, .ref (E.1 59)), (1, .int x1)] [] := by
  intro n
  induction n with
  | zero =>
    intro x1 σ h
    exact (rl_ns (show none = some r from h)).elim
  | succ n ih =>
    intro x1 σ h
    unfold rf_Mo_nextChoice_L2 at h
    refine rl_iload_n (pc := 2) Γ nd_Mo_nextChoice_2 1 rfl ?_
    refine rl_if_lt (tgt := 54) (pc := 3) Γ nd_Mo_nextChoice_3 (by decide) (fun q1 => ?_) (fun q1 => ?_)
    · have h := rl_ift q1 h
      refine rl_iconst (v := 0) (pc := 54) Γ nd_Mo_nextChoice_54 (by decide) ?_
      exact rl_zret (pc := 55) Γ nd_Mo_nextChoice_55 hr hk (by decide) h
    · have h := rl_iff q1 h
      refine rl_aload_n (pc := 6) Γ nd_Mo_nextChoice_6 0 rfl ?_
      refine rl_iload_n (pc := 7) Γ nd_Mo_nextChoice_7 1 rfl ?_
      obtain ⟨q2, q2h, h⟩ := rl_bd h
      refine rl_callVi (As := [.int x1]) (pc := 8) Γ nd_Mo_nextChoice_8 hO (rw_Mo_placeOf l E x1  σ q2 q2h) 1 nm_Mo_94 nm_im_Mo_placeOf nm_se_Mo_placeOf nm_ini_Mo nh_Mo_placeOf (rl_o59 E) rfl ⟨rfl, rfl⟩ (by decide +kernel) (Nat.le_of_ble_eq_true rfl) (Nat.le_of_ble_eq_true rfl) ⟨Nat.zero_le _, Nat.zero_le _⟩ (Nat.le_of_ble_eq_true rfl) rfl rfl ?_
      refine rl_if_lt (tgt := 48) (pc := 11) Γ nd_Mo_nextChoice_11 (by decide) (fun q3 => ?_) (fun q3 => ?_)
      · have h := rl_ift q3 h
        refine rl_iinc (v := x1 + (-1)) (L' := [(1, .int (x1 + (-1))), (0, .ref (E.1 59))]) (pc := 48) Γ nd_Mo_nextChoice_48 1 rfl rfl (by decide) rfl ?_
        refine rl_goto (tgt := 2) (pc := 51) Γ nd_Mo_nextChoice_51 (by decide) ?_
        exact rl_Gsub [1, 0] rfl (ih (x1 + (-1)) q2.2 h)
      · have h := rl_iff q3 h
        refine rl_aload_n (pc := 14) Γ nd_Mo_nextChoice_14 0 rfl ?_
        refine rl_get (pc := 15) Γ nd_Mo_nextChoice_15 hO (k := 13) (rl_o59 E) rfl (by decide) rfl ⟨ni_Mo, nf_Mo_38⟩ ?_
        refine rl_iload_n (pc := 18) Γ nd_Mo_nextChoice_18 1 rfl ?_
        refine rl_dup2 (pc := 19) Γ nd_Mo_nextChoice_19 rfl rfl ?_
        obtain ⟨q4, h⟩ := rl_if h
        refine rl_ild (pc := 20) Γ nd_Mo_nextChoice_20 hO (rl_a67 E) (rl_ib_in q4) ?_
        refine rl_iconst (v := 1) (pc := 21) Γ nd_Mo_nextChoice_21 (by decide) ?_
        refine rl_iadd (pc := 22) Γ nd_Mo_nextChoice_22 ?_
        obtain ⟨q5, h⟩ := rl_if h
        refine rl_ist (pc := 23) Γ nd_Mo_nextChoice_23 hO (rl_a67 E) (rl_ib_in q5) ?_
        refine rl_aload_n (pc := 24) Γ nd_Mo_nextChoice_24 0 rfl ?_
        refine rl_get (pc := 25) Γ nd_Mo_nextChoice_25 hO (k := 13) (rl_o59 E) rfl (by decide) rfl ⟨ni_Mo, nf_Mo_38⟩ ?_
        refine rl_iload_n (pc := 28) Γ nd_Mo_nextChoice_28 1 rfl ?_
        obtain ⟨q6, h⟩ := rl_if h
        refine rl_ild (pc := 29) Γ nd_Mo_nextChoice_29 hO (rl_a67 E) (rl_ib_in q6) ?_
        refine rl_aload_n (pc := 30) Γ nd_Mo_nextChoice_30 0 rfl ?_
        refine rl_get (pc := 31) Γ nd_Mo_nextChoice_31 hO (k := 2) (rl_o59 E) rfl (by decide) rfl ⟨ni_Mo, nf_Mo_7⟩ ?_
        refine rl_iload_n (pc := 34) Γ nd_Mo_nextChoice_34 1 rfl ?_
        obtain ⟨q7, h⟩ := rl_if h
        refine rl_ild (pc := 35) Γ nd_Mo_nextChoice_35 hO (rl_a60 E) (rl_ib_in q7) ?_
        refine rl_icmp_ge (tgt := 41) (pc := 36) Γ nd_Mo_nextChoice_36 (by decide) (fun q8 => ?_) (fun q8 => ?_)
        · have h := rl_ift q8 h
          refine rl_aload_n (pc := 41) Γ nd_Mo_nextChoice_41 0 rfl ?_
          refine rl_get (pc := 42) Γ nd_Mo_nextChoice_42 hO (k := 13) (rl_o59 E) rfl (by decide) rfl ⟨ni_Mo, nf_Mo_38⟩ ?_
          refine rl_iload_n (pc := 45) Γ nd_Mo_nextChoice_45 1 rfl ?_
          refine rl_iconst (v := 0) (pc := 46) Γ nd_Mo_nextChoice_46 (by decide) ?_
          obtain ⟨q9, h⟩ := rl_if h
          refine rl_ist (pc := 47) Γ nd_Mo_nextChoice_47 hO (rl_a67 E) (rl_ib_in q9) ?_
          refine rl_iinc (v := x1 + (-1)) (L' := [(1, .int (x1 + (-1))), (0, .ref (E.1 59))]) (pc := 48) Γ nd_Mo_nextChoice_48 1 rfl rfl (by decide) rfl ?_
          refine rl_goto (tgt := 2) (pc := 51) Γ nd_Mo_nextChoice_51 (by decide) ?_
          exact rl_Gsub [1, 0] rfl (ih (x1 + (-1)) (rl_su (rl_su q2.2 67 x1.toNatClampNeg ((q2.2 67 x1.toNatClampNeg) + 1)) 67 x1.toNatClampNeg 0) h)
        · have h := rl_iff q8 h
          refine rl_iconst (v := 1) (pc := 39) Γ nd_Mo_nextChoice_39 (by decide) ?_
          exact rl_zret (pc := 40) Γ nd_Mo_nextChoice_40 hr hk (by decide) h
set_option maxHeartbeats 4000000 in
set_option maxRecDepth 100000 in
theorem rw_Mo_nextChoice (l : Launch) (E : rl_E)   (σ : rl_M) (r : Int32 × rl_M) (h : rf_Mo_nextChoice  σ = some r) : Met l ny_Mo_nextChoice nw_Mo_nextChoice nr_Mo_nextChoice (rl_P E [.ref (E.1 59)] σ) (rl_Q E (rl_ri r.1) r.2) 0 0 (rl_A E) := by
  refine Met.ofW (cc := nc_Mo_nextChoice) (maxL := 2) (ret := (some .boolean)) (by decide) rfl ?_
  intro p e s m args below meth c s₁ B hml hv
  obtain ⟨rfl, hP, hO⟩ := hv
  have Γ : CallFix p m c nc_Mo_nextChoice 2 s ([.ref (E.1 59)] : List Value).toArray rl_TT nR_Mo := ⟨B.exec, B.bytes, hml, findClass_of_methodNamed B.named, fun w hw => atoms_spec (ws := nw_Mo_nextChoice) B.pre w (List.mem_cons_of_mem _ hw)⟩
  have hr := B.returns
  have hk := B.notSynchronized
  refine rl_start (R := nr_Mo_nextChoice) (Q := rl_QM below _ s E rl_ri r) (nL := 2) (av := [.ref (E.1 59)]) (σ := σ) hP (Nat.le_of_ble_eq_true rfl) ?_
  unfold rf_Mo_nextChoice at h
  refine rl_iconst (v := 5) (pc := 0) Γ nd_Mo_nextChoice_0 (by decide) ?_
  refine rl_istore_n (L' := [(1, .int 5), (0, .ref (E.1 59))]) (pc := 1) Γ nd_Mo_nextChoice_1 (by decide) rfl ?_
  refine rl_Gsub [1, 0] rfl (rw_Mo_nextChoice_L2 Γ hO hr hk     10000 5 σ h)
def rf_Mo_fits  (σ : rl_M) : Option (Int32 × rl_M) := (if rl_ib ((σ 59 7) - 1) 16 = true then (if (σ 59 5) < (σ 69 ((σ 59 7) - 1).toNatClampNeg) then some (0, σ) else (if rl_ib ((σ 59 7) - 1) 16 = true then (if (σ 59 6) < (σ 70 ((σ 59 7) - 1).toNatClampNeg) then some (0, σ) else some (1, σ)) else none)) else none)
set_option maxHeartbeats 4000000 in
set_option maxRecDepth 100000 in
theorem rw_Mo_fits (l : Launch) (E : rl_E)   (σ : rl_M) (r : Int32 × rl_M) (h : rf_Mo_fits  σ = some r) : Met l ny_Mo_fits nw_Mo_fits nr_Mo_fits (rl_P E [.ref (E.1 59)] σ) (rl_Q E (rl_ri r.1) r.2) 0 0 (rl_A E) := by
  refine Met.ofW (cc := nc_Mo_fits) (maxL := 1) (ret := (some .boolean)) (by decide) rfl ?_
  intro p e s m args below meth c s₁ B hml hv
  obtain ⟨rfl, hP, hO⟩ := hv
  have Γ : CallFix p m c nc_Mo_fits 1 s ([.ref (E.1 59)] : List Value).toArray rl_TT nR_Mo := ⟨B.exec, B.bytes, hml, findClass_of_methodNamed B.named, fun w hw => atoms_spec (ws := nw_Mo_fits) B.pre w (List.mem_cons_of_mem _ hw)⟩
  have hr := B.returns
  have hk := B.notSynchronized
  refine rl_start (R := nr_Mo_fits) (Q := rl_QM below _ s E rl_ri r) (nL := 1) (av := [.ref (E.1 59)]) (σ := σ) hP (Nat.le_of_ble_eq_true rfl) ?_
  unfold rf_Mo_fits at h
  refine rl_aload_n (pc := 0) Γ nd_Mo_fits_0 0 rfl ?_
  refine rl_get (pc := 1) Γ nd_Mo_fits_1 hO (k := 18) (rl_o59 E) rfl (by decide) rfl ⟨ni_Mo, nf_Mo_44⟩ ?_
  refine rl_aload_n (pc := 4) Γ nd_Mo_fits_4 0 rfl ?_
  refine rl_get (pc := 5) Γ nd_Mo_fits_5 hO (k := 7) (rl_o59 E) rfl (by decide) rfl ⟨ni_Mo, nf_Mo_91⟩ ?_
  refine rl_iconst (v := 1) (pc := 8) Γ nd_Mo_fits_8 (by decide) ?_
  refine rl_isub (pc := 9) Γ nd_Mo_fits_9 ?_
  obtain ⟨q1, h⟩ := rl_if h
  refine rl_ild (pc := 10) Γ nd_Mo_fits_10 hO (rl_a69 E) (rl_ib_in q1) ?_
  refine rl_aload_n (pc := 11) Γ nd_Mo_fits_11 0 rfl ?_
  refine rl_get (pc := 12) Γ nd_Mo_fits_12 hO (k := 5) (rl_o59 E) rfl (by decide) rfl ⟨ni_Mo, nf_Mo_19⟩ ?_
  refine rl_icmp_gt (tgt := 40) (pc := 15) Γ nd_Mo_fits_15 (by decide) (fun q2 => ?_) (fun q2 => ?_)
  · have h := rl_ift q2 h
    refine rl_iconst (v := 0) (pc := 40) Γ nd_Mo_fits_40 (by decide) ?_
    exact rl_zret (pc := 41) Γ nd_Mo_fits_41 hr hk (by decide) h
  · have h := rl_iff q2 h
    refine rl_aload_n (pc := 18) Γ nd_Mo_fits_18 0 rfl ?_
    refine rl_get (pc := 19) Γ nd_Mo_fits_19 hO (k := 19) (rl_o59 E) rfl (by decide) rfl ⟨ni_Mo, nf_Mo_47⟩ ?_
    refine rl_aload_n (pc := 22) Γ nd_Mo_fits_22 0 rfl ?_
    refine rl_get (pc := 23) Γ nd_Mo_fits_23 hO (k := 7) (rl_o59 E) rfl (by decide) rfl ⟨ni_Mo, nf_Mo_91⟩ ?_
    refine rl_iconst (v := 1) (pc := 26) Γ nd_Mo_fits_26 (by decide) ?_
    refine rl_isub (pc := 27) Γ nd_Mo_fits_27 ?_
    obtain ⟨q3, h⟩ := rl_if h
    refine rl_ild (pc := 28) Γ nd_Mo_fits_28 hO (rl_a70 E) (rl_ib_in q3) ?_
    refine rl_aload_n (pc := 29) Γ nd_Mo_fits_29 0 rfl ?_
    refine rl_get (pc := 30) Γ nd_Mo_fits_30 hO (k := 6) (rl_o59 E) rfl (by decide) rfl ⟨ni_Mo, nf_Mo_23⟩ ?_
    refine rl_icmp_gt (tgt := 40) (pc := 33) Γ nd_Mo_fits_33 (by decide) (fun q4 => ?_) (fun q4 => ?_)
    · have h := rl_ift q4 h
      refine rl_iconst (v := 0) (pc := 40) Γ nd_Mo_fits_40 (by decide) ?_
      exact rl_zret (pc := 41) Γ nd_Mo_fits_41 hr hk (by decide) h
    · have h := rl_iff q4 h
      refine rl_iconst (v := 1) (pc := 36) Γ nd_Mo_fits_36 (by decide) ?_
      refine rl_goto (tgt := 41) (pc := 37) Γ nd_Mo_fits_37 (by decide) ?_
      exact rl_zret (pc := 41) Γ nd_Mo_fits_41 hr hk (by decide) h
def rf_Mo_findBest_L136  (K163 : rl_M → Option (Int32 × rl_M)) : Nat → Int32 → rl_M → Option (Int32 × rl_M)
  | 0, _, _ => none
  | n + 1, x5, σ => (if 6 ≤ x5 then K163  σ else (if rl_ib x5 6 = true then (if rl_ib x5 6 = true then rf_Mo_findBest_L136  K163 n (x5 + 1) (rl_su σ 68 x5.toNatClampNeg (σ 67 x5.toNatClampNeg)) else none) else none))
def rf_Mo_findBest_J104 (x2 : Int32) (x3 : Int32) (s0 : Int32) (RC : Int32 → rl_M → Option (Int32 × rl_M)) (K171 : rl_M → Option (Int32 × rl_M)) (σ : rl_M) : Option (Int32 × rl_M) := ((rf_Mo_fits  σ).bind (fun q8 => (if q8.1 = 0 then ((rf_Mo_nextChoice  q8.2).bind (fun q10 => RC q10.1 q10.2)) else (if s0 = 0 then ((rf_Mo_nextChoice  q8.2).bind (fun q12 => RC q12.1 q12.2)) else rf_Mo_findBest_L136  (fun (q16m : rl_M) => ((rf_Mo_nextChoice  q16m).bind (fun q17 => RC q17.1 q17.2))) 10000 0 (rl_su (rl_su (rl_su q8.2 59 15 1) 59 16 x2) 59 17 x3)))))
def rf_Mo_findBest_J99 (x2 : Int32) (x3 : Int32) (RC : Int32 → rl_M → Option (Int32 × rl_M)) (K171 : rl_M → Option (Int32 × rl_M)) (σ : rl_M) : Option (Int32 × rl_M) := rf_Mo_findBest_J104 x2 x3 1 RC K171 σ
def rf_Mo_findBest_J103 (x2 : Int32) (x3 : Int32) (RC : Int32 → rl_M → Option (Int32 × rl_M)) (K171 : rl_M → Option (Int32 × rl_M)) (σ : rl_M) : Option (Int32 × rl_M) := rf_Mo_findBest_J104 x2 x3 0 RC K171 σ
def rf_Mo_findBest_L22  (K171 : rl_M → Option (Int32 × rl_M)) : Nat → Int32 → rl_M → Option (Int32 × rl_M)
  | 0, _, _ => none
  | n + 1, x1, σ => (if x1 = 0 then K171  σ else ((rf_Mo_layOut  σ).bind (fun q4 => (if rl_ib ((q4.2 59 7) - 1) 16 = true then (if rl_ib ((q4.2 59 7) - 1) 16 = true then (if (q4.2 59 15) = 0 then rf_Mo_findBest_J99 (q4.2 69 ((q4.2 59 7) - 1).toNatClampNeg) (q4.2 70 ((q4.2 59 7) - 1).toNatClampNeg) (rf_Mo_findBest_L22  K171 n) K171 q4.2 else (if ((q4.2 69 ((q4.2 59 7) - 1).toNatClampNeg) * (q4.2 70 ((q4.2 59 7) - 1).toNatClampNeg)) < ((q4.2 59 16) * (q4.2 59 17)) then rf_Mo_findBest_J99 (q4.2 69 ((q4.2 59 7) - 1).toNatClampNeg) (q4.2 70 ((q4.2 59 7) - 1).toNatClampNeg) (rf_Mo_findBest_L22  K171 n) K171 q4.2 else (if ((q4.2 69 ((q4.2 59 7) - 1).toNatClampNeg) * (q4.2 70 ((q4.2 59 7) - 1).toNatClampNeg)) = ((q4.2 59 16) * (q4.2 59 17)) then (if (q4.2 59 16) ≤ (q4.2 69 ((q4.2 59 7) - 1).toNatClampNeg) then rf_Mo_findBest_J103 (q4.2 69 ((q4.2 59 7) - 1).toNatClampNeg) (q4.2 70 ((q4.2 59 7) - 1).toNatClampNeg) (rf_Mo_findBest_L22  K171 n) K171 q4.2 else rf_Mo_findBest_J99 (q4.2 69 ((q4.2 59 7) - 1).toNatClampNeg) (q4.2 70 ((q4.2 59 7) - 1).toNatClampNeg) (rf_Mo_findBest_L22  K171 n) K171 q4.2) else rf_Mo_findBest_J103 (q4.2 69 ((q4.2 59 7) - 1).toNatClampNeg) (q4.2 70 ((q4.2 59 7) - 1).toNatClampNeg) (rf_Mo_findBest_L22  K171 n) K171 q4.2))) else none) else none))))
def rf_Mo_findBest_L180  (K204 : rl_M → Option (Int32 × rl_M)) : Nat → Int32 → rl_M → Option (Int32 × rl_M)
  | 0, _, _ => none
  | n + 1, x2, σ => (if 6 ≤ x2 then K204  σ else (if rl_ib x2 6 = true then (if rl_ib x2 6 = true then rf_Mo_findBest_L180  K204 n (x2 + 1) (rl_su σ 67 x2.toNatClampNeg (σ 68 x2.toNatClampNeg)) else none) else none))
def rf_Mo_findBest  (σ : rl_M) : Option (Int32 × rl_M) := ((rf_Mo_firstChoice  (rl_su σ 59 15 0)).bind (fun q1 => (if (q1.2 59 7) ≤ 0 then rf_Mo_findBest_L22  (fun (q21m : rl_M) => (if (q21m 59 15) = 0 then some (0, q21m) else rf_Mo_findBest_L180  (fun (q26m : rl_M) => ((rf_Mo_layOut  q26m).bind (fun q27 => ((rf_Mo_findCorners  q27.2).bind (fun q28 => some (0, q28.2)))))) 10000 0 q21m)) 10000 0 q1.2 else rf_Mo_findBest_L22  (fun (q29m : rl_M) => (if (q29m 59 15) = 0 then some (0, q29m) else rf_Mo_findBest_L180  (fun (q31m : rl_M) => ((rf_Mo_layOut  q31m).bind (fun q32 => ((rf_Mo_findCorners  q32.2).bind (fun q33 => some (0, q33.2)))))) 10000 0 q29m)) 10000 1 q1.2)))
set_option maxHeartbeats 4000000 in
set_option maxRecDepth 100000 in
theorem rw_Mo_findBest_L136 {p : Program} {l : Launch} {e : Env} {s : State} {m : MethodId} {args : Array Value} {below : List Frame} {meth : Method} {c : Code} {E : rl_E} (Γ : CallFix p m c nc_Mo_findBest 6 s args rl_TT nR_Mo) (hO : rl_Ok E s) (hr : meth.sig.returnType = none) (hk : meth.locks = false)   (K163 : rl_M → Option (Int32 × rl_M)) {r : Int32 × rl_M} (hK163 : ∀ (σ : rl_M), K163  σ = some r → rl_G p l e nr_Mo_findBest s m args below meth c 6 E 0 0 (rl_QM below args s E rl_rv r) σ 163 [(0, .ref (E.1 59))] []) : ∀ (n : Nat) (x5 : Int32) (σ : rl_M), rf_Mo_findBest_L136  K163 n x5 σ = some r → rl_G p l e nr_Mo_findBest s m args below meth c 6 E 0 0 (rl_QM below args s E rl_rv r) σ 136 [(0, .ref (E.1 59)), (5, .int x5)] [] := by
  intro n
  induction n with
  | zero =>
    intro x5 σ h
    exact (rl_ns (show none = some r from h)).elim
  | succ n ih =>
    intro x5 σ h
    unfold rf_Mo_findBest_L136 at h
    refine rl_iload (pc := 136) Γ nd_Mo_findBest_136 1 rfl ?_
    refine rl_bipush (v := 6) (pc := 138) Γ nd_Mo_findBest_138 (by decide) ?_
    refine rl_icmp_ge (tgt := 163) (pc := 140) Γ nd_Mo_findBest_140 (by decide) (fun q13 => ?_) (fun q13 => ?_)
    · have h := rl_ift q13 h
      exact rl_Gsub [0] rfl (hK163  σ h)
    · have h := rl_iff q13 h
      refine rl_aload_n (pc := 143) Γ nd_Mo_findBest_143 0 rfl ?_
      refine rl_get (pc := 144) Γ nd_Mo_findBest_144 hO (k := 14) (rl_o59 E) rfl (by decide) rfl ⟨ni_Mo, nf_Mo_41⟩ ?_
      refine rl_iload (pc := 147) Γ nd_Mo_findBest_147 1 rfl ?_
      refine rl_aload_n (pc := 149) Γ nd_Mo_findBest_149 0 rfl ?_
      refine rl_get (pc := 150) Γ nd_Mo_findBest_150 hO (k := 13) (rl_o59 E) rfl (by decide) rfl ⟨ni_Mo, nf_Mo_38⟩ ?_
      refine rl_iload (pc := 153) Γ nd_Mo_findBest_153 1 rfl ?_
      obtain ⟨q14, h⟩ := rl_if h
      refine rl_ild (pc := 155) Γ nd_Mo_findBest_155 hO (rl_a67 E) (rl_ib_in q14) ?_
      obtain ⟨q15, h⟩ := rl_if h
      refine rl_ist (pc := 156) Γ nd_Mo_findBest_156 hO (rl_a68 E) (rl_ib_in q15) ?_
      refine rl_iinc (v := x5 + 1) (L' := [(5, .int (x5 + 1)), (0, .ref (E.1 59))]) (pc := 157) Γ nd_Mo_findBest_157 1 rfl rfl (by decide) rfl ?_
      refine rl_goto (tgt := 136) (pc := 160) Γ nd_Mo_findBest_160 (by decide) ?_
      exact rl_Gsub [1, 0] rfl (ih (x5 + 1) (rl_su σ 68 x5.toNatClampNeg (σ 67 x5.toNatClampNeg)) h)
set_option maxHeartbeats 4000000 in
set_option maxRecDepth 100000 in
theorem rw_Mo_findBest_J104 {p : Program} {l : Launch} {e : Env} {s : State} {m : MethodId} {args : Array Value} {below : List Frame} {meth : Method} {c : Code} {E : rl_E} (Γ : CallFix p m c nc_Mo_findBest 6 s args rl_TT nR_Mo) (hO : rl_Ok E s) (hr : meth.sig.returnType = none) (hk : meth.locks = false)  (x2 : Int32) (x3 : Int32) (s0 : Int32)  (RC : Int32 → rl_M → Option (Int32 × rl_M)) (K171 : rl_M → Option (Int32 × rl_M)) {r : Int32 × rl_M} (hRC : ∀ (x1 : Int32) (σ : rl_M), RC x1 σ = some r → rl_G p l e nr_Mo_findBest s m args below meth c 6 E 0 0 (rl_QM below args s E rl_rv r) σ 22 [(0, .ref (E.1 59)), (1, .int x1)] []) (hK171 : ∀ (σ : rl_M), K171  σ = some r → rl_G p l e nr_Mo_findBest s m args below meth c 6 E 0 0 (rl_QM below args s E rl_rv r) σ 171 [(0, .ref (E.1 59))] []) (σ : rl_M) (h : rf_Mo_findBest_J104 x2 x3 s0 RC K171 σ = some r) : rl_G p l e nr_Mo_findBest s m args below meth c 6 E 0 0 (rl_QM below args s E rl_rv r) σ 104 [(0, .ref (E.1 59)), (2, .int x2), (3, .int x3)] [.int s0] := by
  unfold rf_Mo_findBest_J104 at h
  refine rl_istore (L' := [(4, .int s0), (0, .ref (E.1 59)), (2, .int x2), (3, .int x3)]) (pc := 104) Γ nd_Mo_findBest_104 (by decide) rfl ?_
  refine rl_aload_n (pc := 106) Γ nd_Mo_findBest_106 1 rfl ?_
  obtain ⟨q8, q8h, h⟩ := rl_bd h
  refine rl_callVi (As := []) (pc := 107) Γ nd_Mo_findBest_107 hO (rw_Mo_fits l E   σ q8 q8h) 0 nm_Mo_114 nm_im_Mo_fits nm_se_Mo_fits nm_ini_Mo nh_Mo_fits (rl_o59 E) rfl ⟨rfl, rfl⟩ (by decide +kernel) (Nat.le_of_ble_eq_true rfl) (Nat.le_of_ble_eq_true rfl) ⟨Nat.zero_le _, Nat.zero_le _⟩ (Nat.le_of_ble_eq_true rfl) rfl rfl ?_
  refine rl_if_eq (tgt := 163) (pc := 110) Γ nd_Mo_findBest_110 (by decide) (fun q9 => ?_) (fun q9 => ?_)
  · have h := rl_ift q9 h
    refine rl_aload_n (pc := 163) Γ nd_Mo_findBest_163 1 rfl ?_
    obtain ⟨q10, q10h, h⟩ := rl_bd h
    refine rl_callVi (As := []) (pc := 164) Γ nd_Mo_findBest_164 hO (rw_Mo_nextChoice l E   q8.2 q10 q10h) 0 nm_Mo_118 nm_im_Mo_nextChoice nm_se_Mo_nextChoice nm_ini_Mo nh_Mo_nextChoice (rl_o59 E) rfl ⟨rfl, rfl⟩ (by decide +kernel) (Nat.le_of_ble_eq_true rfl) (Nat.le_of_ble_eq_true rfl) ⟨Nat.zero_le _, Nat.zero_le _⟩ (Nat.le_of_ble_eq_true rfl) rfl rfl ?_
    refine rl_istore_n (L' := [(1, .int q10.1), (4, .int s0), (0, .ref (E.1 59)), (2, .int x2), (3, .int x3)]) (pc := 167) Γ nd_Mo_findBest_167 (by decide) rfl ?_
    refine rl_goto (tgt := 22) (pc := 168) Γ nd_Mo_findBest_168 (by decide) ?_
    exact rl_Gsub [2, 0] rfl (hRC q10.1 q10.2 h)
  · have h := rl_iff q9 h
    refine rl_iload (pc := 113) Γ nd_Mo_findBest_113 0 rfl ?_
    refine rl_if_eq (tgt := 163) (pc := 115) Γ nd_Mo_findBest_115 (by decide) (fun q11 => ?_) (fun q11 => ?_)
    · have h := rl_ift q11 h
      refine rl_aload_n (pc := 163) Γ nd_Mo_findBest_163 1 rfl ?_
      obtain ⟨q12, q12h, h⟩ := rl_bd h
      refine rl_callVi (As := []) (pc := 164) Γ nd_Mo_findBest_164 hO (rw_Mo_nextChoice l E   q8.2 q12 q12h) 0 nm_Mo_118 nm_im_Mo_nextChoice nm_se_Mo_nextChoice nm_ini_Mo nh_Mo_nextChoice (rl_o59 E) rfl ⟨rfl, rfl⟩ (by decide +kernel) (Nat.le_of_ble_eq_true rfl) (Nat.le_of_ble_eq_true rfl) ⟨Nat.zero_le _, Nat.zero_le _⟩ (Nat.le_of_ble_eq_true rfl) rfl rfl ?_
      refine rl_istore_n (L' := [(1, .int q12.1), (4, .int s0), (0, .ref (E.1 59)), (2, .int x2), (3, .int x3)]) (pc := 167) Γ nd_Mo_findBest_167 (by decide) rfl ?_
      refine rl_goto (tgt := 22) (pc := 168) Γ nd_Mo_findBest_168 (by decide) ?_
      exact rl_Gsub [2, 0] rfl (hRC q12.1 q12.2 h)
    · have h := rl_iff q11 h
      refine rl_aload_n (pc := 118) Γ nd_Mo_findBest_118 1 rfl ?_
      refine rl_iconst (v := 1) (pc := 119) Γ nd_Mo_findBest_119 (by decide) ?_
      refine rl_put (pc := 120) Γ nd_Mo_findBest_120 hO (k := 15) (rl_o59 E) rfl (by decide) (fun _ _ => rfl) ⟨ni_Mo, nf_Mo_98⟩ nt_Mo nto_Mo nn_Mo rfl (fun _ => Nat.le_of_ble_eq_true rfl) (rl_nz (by decide)) ?_
      refine rl_aload_n (pc := 123) Γ nd_Mo_findBest_123 1 rfl ?_
      refine rl_iload_n (pc := 124) Γ nd_Mo_findBest_124 2 rfl ?_
      refine rl_put (pc := 125) Γ nd_Mo_findBest_125 hO (k := 16) (rl_o59 E) rfl (by decide) (fun _ _ => rfl) ⟨ni_Mo, nf_Mo_108⟩ nt_Mo nto_Mo nn_Mo rfl (fun _ => Nat.le_of_ble_eq_true rfl) rl_ni ?_
      refine rl_aload_n (pc := 128) Γ nd_Mo_findBest_128 1 rfl ?_
      refine rl_iload_n (pc := 129) Γ nd_Mo_findBest_129 3 rfl ?_
      refine rl_put (pc := 130) Γ nd_Mo_findBest_130 hO (k := 17) (rl_o59 E) rfl (by decide) (fun _ _ => rfl) ⟨ni_Mo, nf_Mo_111⟩ nt_Mo nto_Mo nn_Mo rfl (fun _ => Nat.le_of_ble_eq_true rfl) rl_ni ?_
      refine rl_iconst (v := 0) (pc := 133) Γ nd_Mo_findBest_133 (by decide) ?_
      refine rl_istore (L' := [(5, .int 0), (4, .int s0), (0, .ref (E.1 59)), (2, .int x2), (3, .int x3)]) (pc := 134) Γ nd_Mo_findBest_134 (by decide) rfl ?_
      refine rl_Gsub [2, 0] rfl (rw_Mo_findBest_L136 Γ hO hr hk   _ ?_ 10000 0 (rl_su (rl_su (rl_su q8.2 59 15 1) 59 16 x2) 59 17 x3) h)
      · intro q16m h
        refine rl_aload_n (pc := 163) Γ nd_Mo_findBest_163 0 rfl ?_
        obtain ⟨q17, q17h, h⟩ := rl_bd h
        refine rl_callVi (As := []) (pc := 164) Γ nd_Mo_findBest_164 hO (rw_Mo_nextChoice l E   q16m q17 q17h) 0 nm_Mo_118 nm_im_Mo_nextChoice nm_se_Mo_nextChoice nm_ini_Mo nh_Mo_nextChoice (rl_o59 E) rfl ⟨rfl, rfl⟩ (by decide +kernel) (Nat.le_of_ble_eq_true rfl) (Nat.le_of_ble_eq_true rfl) ⟨Nat.zero_le _, Nat.zero_le _⟩ (Nat.le_of_ble_eq_true rfl) rfl rfl ?_
        refine rl_istore_n (L' := [(1, .int q17.1), (0, .ref (E.1 59))]) (pc := 167) Γ nd_Mo_findBest_167 (by decide) rfl ?_
        refine rl_goto (tgt := 22) (pc := 168) Γ nd_Mo_findBest_168 (by decide) ?_
        exact rl_Gsub [1, 0] rfl (hRC q17.1 q17.2 h)
set_option maxHeartbeats 4000000 in
set_option maxRecDepth 100000 in
theorem rw_Mo_findBest_J99 {p : Program} {l : Launch} {e : Env} {s : State} {m : MethodId} {args : Array Value} {below : List Frame} {meth : Method} {c : Code} {E : rl_E} (Γ : CallFix p m c nc_Mo_findBest 6 s args rl_TT nR_Mo) (hO : rl_Ok E s) (hr : meth.sig.returnType = none) (hk : meth.locks = false)  (x2 : Int32) (x3 : Int32)  (RC : Int32 → rl_M → Option (Int32 × rl_M)) (K171 : rl_M → Option (Int32 × rl_M)) {r : Int32 × rl_M} (hRC : ∀ (x1 : Int32) (σ : rl_M), RC x1 σ = some r → rl_G p l e nr_Mo_findBest s m args below meth c 6 E 0 0 (rl_QM below args s E rl_rv r) σ 22 [(0, .ref (E.1 59)), (1, .int x1)] []) (hK171 : ∀ (σ : rl_M), K171  σ = some r → rl_G p l e nr_Mo_findBest s m args below meth c 6 E 0 0 (rl_QM below args s E rl_rv r) σ 171 [(0, .ref (E.1 59))] []) (σ : rl_M) (h : rf_Mo_findBest_J99 x2 x3 RC K171 σ = some r) : rl_G p l e nr_Mo_findBest s m args below meth c 6 E 0 0 (rl_QM below args s E rl_rv r) σ 99 [(0, .ref (E.1 59)), (2, .int x2), (3, .int x3)] [] := by
  unfold rf_Mo_findBest_J99 at h
  refine rl_iconst (v := 1) (pc := 99) Γ nd_Mo_findBest_99 (by decide) ?_
  refine rl_goto (tgt := 104) (pc := 100) Γ nd_Mo_findBest_100 (by decide) ?_
  exact rl_Gsub [0, 1, 2] rfl (rw_Mo_findBest_J104 Γ hO hr hk x2 x3 1  _ _ hRC hK171 σ h)
set_option maxHeartbeats 4000000 in
set_option maxRecDepth 100000 in
theorem rw_Mo_findBest_J103 {p : Program} {l : Launch} {e : Env} {s : State} {m : MethodId} {args : Array Value} {below : List Frame} {meth : Method} {c : Code} {E : rl_E} (Γ : CallFix p m c nc_Mo_findBest 6 s args rl_TT nR_Mo) (hO : rl_Ok E s) (hr : meth.sig.returnType = none) (hk : meth.locks = false)  (x2 : Int32) (x3 : Int32)  (RC : Int32 → rl_M → Option (Int32 × rl_M)) (K171 : rl_M → Option (Int32 × rl_M)) {r : Int32 × rl_M} (hRC : ∀ (x1 : Int32) (σ : rl_M), RC x1 σ = some r → rl_G p l e nr_Mo_findBest s m args below meth c 6 E 0 0 (rl_QM below args s E rl_rv r) σ 22 [(0, .ref (E.1 59)), (1, .int x1)] []) (hK171 : ∀ (σ : rl_M), K171  σ = some r → rl_G p l e nr_Mo_findBest s m args below meth c 6 E 0 0 (rl_QM below args s E rl_rv r) σ 171 [(0, .ref (E.1 59))] []) (σ : rl_M) (h : rf_Mo_findBest_J103 x2 x3 RC K171 σ = some r) : rl_G p l e nr_Mo_findBest s m args below meth c 6 E 0 0 (rl_QM below args s E rl_rv r) σ 103 [(0, .ref (E.1 59)), (2, .int x2), (3, .int x3)] [] := by
  unfold rf_Mo_findBest_J103 at h
  refine rl_iconst (v := 0) (pc := 103) Γ nd_Mo_findBest_103 (by decide) ?_
  exact rl_Gsub [0, 1, 2] rfl (rw_Mo_findBest_J104 Γ hO hr hk x2 x3 0  _ _ hRC hK171 σ h)
set_option maxHeartbeats 4000000 in
set_option maxRecDepth 100000 in
theorem rw_Mo_findBest_L22 {p : Program} {l : Launch} {e : Env} {s : State} {m : MethodId} {args : Array Value} {below : List Frame} {meth : Method} {c : Code} {E : rl_E} (Γ : CallFix p m c nc_Mo_findBest 6 s args rl_TT nR_Mo) (hO : rl_Ok E s) (hr : meth.sig.returnType = none) (hk : meth.locks = false)   (K171 : rl_M → Option (Int32 × rl_M)) {r : Int32 × rl_M} (hK171 : ∀ (σ : rl_M), K171  σ = some r → rl_G p l e nr_Mo_findBest s m args below meth c 6 E 0 0 (rl_QM below args s E rl_rv r) σ 171 [(0, .ref (E.1 59))] []) : ∀ (n : Nat) (x1 : Int32) (σ : rl_M), rf_Mo_findBest_L22  K171 n x1 σ = some r → rl_G p l e nr_Mo_findBest s m args below meth c 6 E 0 0 (rl_QM below args s E rl_rv r) σ 22 [(0, .ref (E.1 59)), (1, .int x1)] [] := by
  intro n
  induction n with
  | zero =>
    intro x1 σ h
    exact (rl_ns (show none = some r from h)).elim
  | succ n ih =>
    intro x1 σ h
    unfold rf_Mo_findBest_L22 at h
    refine rl_iload_n (pc := 22) Γ nd_Mo_findBest_22 1 rfl ?_
    refine rl_if_eq (tgt := 171) (pc := 23) Γ nd_Mo_findBest_23 (by decide) (fun q3 => ?_) (fun q3 => ?_)
    · have h := rl_ift q3 h
      exact rl_Gsub [0] rfl (hK171  σ h)
    · have h := rl_iff q3 h
      refine rl_aload_n (pc := 26) Γ nd_Mo_findBest_26 0 rfl ?_
      obtain ⟨q4, q4h, h⟩ := rl_bd h
      refine rl_callVv (As := []) (pc := 27) Γ nd_Mo_findBest_27 hO (rw_Mo_layOut l E   σ q4 q4h) 0 nm_Mo_105 nm_im_Mo_layOut nm_se_Mo_layOut nm_ini_Mo nh_Mo_layOut (rl_o59 E) rfl ⟨rfl, rfl⟩ (by decide +kernel) (Nat.le_of_ble_eq_true rfl) (Nat.le_of_ble_eq_true rfl) ⟨Nat.zero_le _, Nat.zero_le _⟩ (Nat.le_of_ble_eq_true rfl) rfl rfl ?_
      refine rl_aload_n (pc := 30) Γ nd_Mo_findBest_30 0 rfl ?_
      refine rl_get (pc := 31) Γ nd_Mo_findBest_31 hO (k := 18) (rl_o59 E) rfl (by decide) rfl ⟨ni_Mo, nf_Mo_44⟩ ?_
      refine rl_aload_n (pc := 34) Γ nd_Mo_findBest_34 0 rfl ?_
      refine rl_get (pc := 35) Γ nd_Mo_findBest_35 hO (k := 7) (rl_o59 E) rfl (by decide) rfl ⟨ni_Mo, nf_Mo_91⟩ ?_
      refine rl_iconst (v := 1) (pc := 38) Γ nd_Mo_findBest_38 (by decide) ?_
      refine rl_isub (pc := 39) Γ nd_Mo_findBest_39 ?_
      obtain ⟨q5, h⟩ := rl_if h
      refine rl_ild (pc := 40) Γ nd_Mo_findBest_40 hO (rl_a69 E) (rl_ib_in q5) ?_
      refine rl_istore_n (L' := [(2, .int (q4.2 69 ((q4.2 59 7) - 1).toNatClampNeg)), (0, .ref (E.1 59)), (1, .int x1)]) (pc := 41) Γ nd_Mo_findBest_41 (by decide) rfl ?_
      refine rl_aload_n (pc := 42) Γ nd_Mo_findBest_42 1 rfl ?_
      refine rl_get (pc := 43) Γ nd_Mo_findBest_43 hO (k := 19) (rl_o59 E) rfl (by decide) rfl ⟨ni_Mo, nf_Mo_47⟩ ?_
      refine rl_aload_n (pc := 46) Γ nd_Mo_findBest_46 1 rfl ?_
      refine rl_get (pc := 47) Γ nd_Mo_findBest_47 hO (k := 7) (rl_o59 E) rfl (by decide) rfl ⟨ni_Mo, nf_Mo_91⟩ ?_
      refine rl_iconst (v := 1) (pc := 50) Γ nd_Mo_findBest_50 (by decide) ?_
      refine rl_isub (pc := 51) Γ nd_Mo_findBest_51 ?_
      obtain ⟨q6, h⟩ := rl_if h
      refine rl_ild (pc := 52) Γ nd_Mo_findBest_52 hO (rl_a70 E) (rl_ib_in q6) ?_
      refine rl_istore_n (L' := [(3, .int (q4.2 70 ((q4.2 59 7) - 1).toNatClampNeg)), (2, .int (q4.2 69 ((q4.2 59 7) - 1).toNatClampNeg)), (0, .ref (E.1 59)), (1, .int x1)]) (pc := 53) Γ nd_Mo_findBest_53 (by decide) rfl ?_
      refine rl_aload_n (pc := 54) Γ nd_Mo_findBest_54 2 rfl ?_
      refine rl_get (pc := 55) Γ nd_Mo_findBest_55 hO (k := 15) (rl_o59 E) rfl (by decide) rfl ⟨ni_Mo, nf_Mo_98⟩ ?_
      refine rl_if_eq (tgt := 99) (pc := 58) Γ nd_Mo_findBest_58 (by decide) (fun q7 => ?_) (fun q7 => ?_)
      · have h := rl_ift q7 h
        exact rl_Gsub [2, 1, 0] rfl (rw_Mo_findBest_J99 Γ hO hr hk (q4.2 69 ((q4.2 59 7) - 1).toNatClampNeg) (q4.2 70 ((q4.2 59 7) - 1).toNatClampNeg)  _ _ ih hK171 q4.2 h)
      · have h := rl_iff q7 h
        refine rl_iload_n (pc := 61) Γ nd_Mo_findBest_61 1 rfl ?_
        refine rl_iload_n (pc := 62) Γ nd_Mo_findBest_62 0 rfl ?_
        refine rl_imul (pc := 63) Γ nd_Mo_findBest_63 ?_
        refine rl_aload_n (pc := 64) Γ nd_Mo_findBest_64 2 rfl ?_
        refine rl_get (pc := 65) Γ nd_Mo_findBest_65 hO (k := 16) (rl_o59 E) rfl (by decide) rfl ⟨ni_Mo, nf_Mo_108⟩ ?_
        refine rl_aload_n (pc := 68) Γ nd_Mo_findBest_68 2 rfl ?_
        refine rl_get (pc := 69) Γ nd_Mo_findBest_69 hO (k := 17) (rl_o59 E) rfl (by decide) rfl ⟨ni_Mo, nf_Mo_111⟩ ?_
        refine rl_imul (pc := 72) Γ nd_Mo_findBest_72 ?_
        refine rl_icmp_lt (tgt := 99) (pc := 73) Γ nd_Mo_findBest_73 (by decide) (fun q18 => ?_) (fun q18 => ?_)
        · have h := rl_ift q18 h
          exact rl_Gsub [2, 1, 0] rfl (rw_Mo_findBest_J99 Γ hO hr hk (q4.2 69 ((q4.2 59 7) - 1).toNatClampNeg) (q4.2 70 ((q4.2 59 7) - 1).toNatClampNeg)  _ _ ih hK171 q4.2 h)
        · have h := rl_iff q18 h
          refine rl_iload_n (pc := 76) Γ nd_Mo_findBest_76 1 rfl ?_
          refine rl_iload_n (pc := 77) Γ nd_Mo_findBest_77 0 rfl ?_
          refine rl_imul (pc := 78) Γ nd_Mo_findBest_78 ?_
          refine rl_aload_n (pc := 79) Γ nd_Mo_findBest_79 2 rfl ?_
          refine rl_get (pc := 80) Γ nd_Mo_findBest_80 hO (k := 16) (rl_o59 E) rfl (by decide) rfl ⟨ni_Mo, nf_Mo_108⟩ ?_
          refine rl_aload_n (pc := 83) Γ nd_Mo_findBest_83 2 rfl ?_
          refine rl_get (pc := 84) Γ nd_Mo_findBest_84 hO (k := 17) (rl_o59 E) rfl (by decide) rfl ⟨ni_Mo, nf_Mo_111⟩ ?_
          refine rl_imul (pc := 87) Γ nd_Mo_findBest_87 ?_
          refine rl_icmp_ne (tgt := 103) (pc := 88) Γ nd_Mo_findBest_88 (by decide) (fun q19 => ?_) (fun q19 => ?_)
          · have h := rl_iff q19 h
            exact rl_Gsub [2, 1, 0] rfl (rw_Mo_findBest_J103 Γ hO hr hk (q4.2 69 ((q4.2 59 7) - 1).toNatClampNeg) (q4.2 70 ((q4.2 59 7) - 1).toNatClampNeg)  _ _ ih hK171 q4.2 h)
          · have h := rl_ift q19 h
            refine rl_iload_n (pc := 91) Γ nd_Mo_findBest_91 1 rfl ?_
            refine rl_aload_n (pc := 92) Γ nd_Mo_findBest_92 2 rfl ?_
            refine rl_get (pc := 93) Γ nd_Mo_findBest_93 hO (k := 16) (rl_o59 E) rfl (by decide) rfl ⟨ni_Mo, nf_Mo_108⟩ ?_
            refine rl_icmp_ge (tgt := 103) (pc := 96) Γ nd_Mo_findBest_96 (by decide) (fun q20 => ?_) (fun q20 => ?_)
            · have h := rl_ift q20 h
              exact rl_Gsub [2, 1, 0] rfl (rw_Mo_findBest_J103 Γ hO hr hk (q4.2 69 ((q4.2 59 7) - 1).toNatClampNeg) (q4.2 70 ((q4.2 59 7) - 1).toNatClampNeg)  _ _ ih hK171 q4.2 h)
            · have h := rl_iff q20 h
              exact rl_Gsub [2, 1, 0] rfl (rw_Mo_findBest_J99 Γ hO hr hk (q4.2 69 ((q4.2 59 7) - 1).toNatClampNeg) (q4.2 70 ((q4.2 59 7) - 1).toNatClampNeg)  _ _ ih hK171 q4.2 h)
set_option maxHeartbeats 4000000 in
set_option maxRecDepth 100000 in
theorem rw_Mo_findBest_L180 {p : Program} {l : Launch} {e : Env} {s : State} {m : MethodId} {args : Array Value} {below : List Frame} {meth : Method} {c : Code} {E : rl_E} (Γ : CallFix p m c nc_Mo_findBest 6 s args rl_TT nR_Mo) (hO : rl_Ok E s) (hr : meth.sig.returnType = none) (hk : meth.locks = false)   (K204 : rl_M → Option (Int32 × rl_M)) {r : Int32 × rl_M} (hK204 : ∀ (σ : rl_M), K204  σ = some r → rl_G p l e nr_Mo_findBest s m args below meth c 6 E 0 0 (rl_QM below args s E rl_rv r) σ 204 [(0, .ref (E.1 59))] []) : ∀ (n : Nat) (x2 : Int32) (σ : rl_M), rf_Mo_findBest_L180  K204 n x2 σ = some r → rl_G p l e nr_Mo_findBest s m args below meth c 6 E 0 0 (rl_QM below args s E rl_rv r) σ 180 [(0, .ref (E.1 59)), (2, .int x2)] [] := by
  intro n
  induction n with
  | zero =>
    intro x2 σ h
    exact (rl_ns (show none = some r from h)).elim
  | succ n ih =>
    intro x2 σ h
    unfold rf_Mo_findBest_L180 at h
    refine rl_iload_n (pc := 180) Γ nd_Mo_findBest_180 1 rfl ?_
    refine rl_bipush (v := 6) (pc := 181) Γ nd_Mo_findBest_181 (by decide) ?_
    refine rl_icmp_ge (tgt := 204) (pc := 183) Γ nd_Mo_findBest_183 (by decide) (fun q23 => ?_) (fun q23 => ?_)
    · have h := rl_ift q23 h
      exact rl_Gsub [0] rfl (hK204  σ h)
    · have h := rl_iff q23 h
      refine rl_aload_n (pc := 186) Γ nd_Mo_findBest_186 0 rfl ?_
      refine rl_get (pc := 187) Γ nd_Mo_findBest_187 hO (k := 13) (rl_o59 E) rfl (by decide) rfl ⟨ni_Mo, nf_Mo_38⟩ ?_
      refine rl_iload_n (pc := 190) Γ nd_Mo_findBest_190 1 rfl ?_
      refine rl_aload_n (pc := 191) Γ nd_Mo_findBest_191 0 rfl ?_
      refine rl_get (pc := 192) Γ nd_Mo_findBest_192 hO (k := 14) (rl_o59 E) rfl (by decide) rfl ⟨ni_Mo, nf_Mo_41⟩ ?_
      refine rl_iload_n (pc := 195) Γ nd_Mo_findBest_195 1 rfl ?_
      obtain ⟨q24, h⟩ := rl_if h
      refine rl_ild (pc := 196) Γ nd_Mo_findBest_196 hO (rl_a68 E) (rl_ib_in q24) ?_
      obtain ⟨q25, h⟩ := rl_if h
      refine rl_ist (pc := 197) Γ nd_Mo_findBest_197 hO (rl_a67 E) (rl_ib_in q25) ?_
      refine rl_iinc (v := x2 + 1) (L' := [(2, .int (x2 + 1)), (0, .ref (E.1 59))]) (pc := 198) Γ nd_Mo_findBest_198 1 rfl rfl (by decide) rfl ?_
      refine rl_goto (tgt := 180) (pc := 201) Γ nd_Mo_findBest_201 (by decide) ?_
      exact rl_Gsub [1, 0] rfl (ih (x2 + 1) (rl_su σ 67 x2.toNatClampNeg (σ 68 x2.toNatClampNeg)) h)
set_option maxHeartbeats 4000000 in
set_option maxRecDepth 100000 in
theorem rw_Mo_findBest (l : Launch) (E : rl_E)   (σ : rl_M) (r : Int32 × rl_M) (h : rf_Mo_findBest  σ = some r) : Met l ny_Mo_findBest nw_Mo_findBest nr_Mo_findBest (rl_P E [.ref (E.1 59)] σ) (rl_Q E (rl_rv r.1) r.2) 0 0 (rl_A E) := by
  refine Met.ofW (cc := nc_Mo_findBest) (maxL := 6) (ret := none) (by decide) rfl ?_
  intro p e s m args below meth c s₁ B hml hv
  obtain ⟨rfl, hP, hO⟩ := hv
  have Γ : CallFix p m c nc_Mo_findBest 6 s ([.ref (E.1 59)] : List Value).toArray rl_TT nR_Mo := ⟨B.exec, B.bytes, hml, findClass_of_methodNamed B.named, fun w hw => atoms_spec (ws := nw_Mo_findBest) B.pre w (List.mem_cons_of_mem _ hw)⟩
  have hr := B.returns
  have hk := B.notSynchronized
  refine rl_start (R := nr_Mo_findBest) (Q := rl_QM below _ s E rl_rv r) (nL := 6) (av := [.ref (E.1 59)]) (σ := σ) hP (Nat.le_of_ble_eq_true rfl) ?_
  unfold rf_Mo_findBest at h
  refine rl_aload_n (pc := 0) Γ nd_Mo_findBest_0 0 rfl ?_
  refine rl_iconst (v := 0) (pc := 1) Γ nd_Mo_findBest_1 (by decide) ?_
  refine rl_put (pc := 2) Γ nd_Mo_findBest_2 hO (k := 15) (rl_o59 E) rfl (by decide) (fun _ _ => rfl) ⟨ni_Mo, nf_Mo_98⟩ nt_Mo nto_Mo nn_Mo rfl (fun _ => Nat.le_of_ble_eq_true rfl) (rl_nz (by decide)) ?_
  refine rl_aload_n (pc := 5) Γ nd_Mo_findBest_5 0 rfl ?_
  obtain ⟨q1, q1h, h⟩ := rl_bd h
  refine rl_callVv (As := []) (pc := 6) Γ nd_Mo_findBest_6 hO (rw_Mo_firstChoice l E   (rl_su σ 59 15 0) q1 q1h) 0 nm_Mo_102 nm_im_Mo_firstChoice nm_se_Mo_firstChoice nm_ini_Mo nh_Mo_firstChoice (rl_o59 E) rfl ⟨rfl, rfl⟩ (by decide +kernel) (Nat.le_of_ble_eq_true rfl) (Nat.le_of_ble_eq_true rfl) ⟨Nat.zero_le _, Nat.zero_le _⟩ (Nat.le_of_ble_eq_true rfl) rfl rfl ?_
  refine rl_aload_n (pc := 9) Γ nd_Mo_findBest_9 0 rfl ?_
  refine rl_get (pc := 10) Γ nd_Mo_findBest_10 hO (k := 7) (rl_o59 E) rfl (by decide) rfl ⟨ni_Mo, nf_Mo_91⟩ ?_
  refine rl_if_le (tgt := 20) (pc := 13) Γ nd_Mo_findBest_13 (by decide) (fun q2 => ?_) (fun q2 => ?_)
  · have h := rl_ift q2 h
    refine rl_iconst (v := 0) (pc := 20) Γ nd_Mo_findBest_20 (by decide) ?_
    refine rl_istore_n (L' := [(1, .int 0), (0, .ref (E.1 59))]) (pc := 21) Γ nd_Mo_findBest_21 (by decide) rfl ?_
    refine rl_Gsub [1, 0] rfl (rw_Mo_findBest_L22 Γ hO hr hk   _ ?_ 10000 0 q1.2 h)
    · intro q21m h
      refine rl_aload_n (pc := 171) Γ nd_Mo_findBest_171 0 rfl ?_
      refine rl_get (pc := 172) Γ nd_Mo_findBest_172 hO (k := 15) (rl_o59 E) rfl (by decide) rfl ⟨ni_Mo, nf_Mo_98⟩ ?_
      refine rl_if_eq (tgt := 212) (pc := 175) Γ nd_Mo_findBest_175 (by decide) (fun q22 => ?_) (fun q22 => ?_)
      · have h := rl_ift q22 h
        exact rl_vret (pc := 212) Γ nd_Mo_findBest_212 hr hk h
      · have h := rl_iff q22 h
        refine rl_iconst (v := 0) (pc := 178) Γ nd_Mo_findBest_178 (by decide) ?_
        refine rl_istore_n (L' := [(2, .int 0), (0, .ref (E.1 59))]) (pc := 179) Γ nd_Mo_findBest_179 (by decide) rfl ?_
        refine rl_Gsub [1, 0] rfl (rw_Mo_findBest_L180 Γ hO hr hk   _ ?_ 10000 0 q21m h)
        · intro q26m h
          refine rl_aload_n (pc := 204) Γ nd_Mo_findBest_204 0 rfl ?_
          obtain ⟨q27, q27h, h⟩ := rl_bd h
          refine rl_callVv (As := []) (pc := 205) Γ nd_Mo_findBest_205 hO (rw_Mo_layOut l E   q26m q27 q27h) 0 nm_Mo_105 nm_im_Mo_layOut nm_se_Mo_layOut nm_ini_Mo nh_Mo_layOut (rl_o59 E) rfl ⟨rfl, rfl⟩ (by decide +kernel) (Nat.le_of_ble_eq_true rfl) (Nat.le_of_ble_eq_true rfl) ⟨Nat.zero_le _, Nat.zero_le _⟩ (Nat.le_of_ble_eq_true rfl) rfl rfl ?_
          refine rl_aload_n (pc := 208) Γ nd_Mo_findBest_208 0 rfl ?_
          obtain ⟨q28, q28h, h⟩ := rl_bd h
          refine rl_callVv (As := []) (pc := 209) Γ nd_Mo_findBest_209 hO (rw_Mo_findCorners l E   q27.2 q28 q28h) 0 nm_Mo_121 nm_im_Mo_findCorners nm_se_Mo_findCorners nm_ini_Mo nh_Mo_findCorners (rl_o59 E) rfl ⟨rfl, rfl⟩ (by decide +kernel) (Nat.le_of_ble_eq_true rfl) (Nat.le_of_ble_eq_true rfl) ⟨Nat.zero_le _, Nat.zero_le _⟩ (Nat.le_of_ble_eq_true rfl) rfl rfl ?_
          exact rl_vret (pc := 212) Γ nd_Mo_findBest_212 hr hk h
  · have h := rl_iff q2 h
    refine rl_iconst (v := 1) (pc := 16) Γ nd_Mo_findBest_16 (by decide) ?_
    refine rl_goto (tgt := 21) (pc := 17) Γ nd_Mo_findBest_17 (by decide) ?_
    refine rl_istore_n (L' := [(1, .int 1), (0, .ref (E.1 59))]) (pc := 21) Γ nd_Mo_findBest_21 (by decide) rfl ?_
    refine rl_Gsub [1, 0] rfl (rw_Mo_findBest_L22 Γ hO hr hk   _ ?_ 10000 1 q1.2 h)
    · intro q29m h
      refine rl_aload_n (pc := 171) Γ nd_Mo_findBest_171 0 rfl ?_
      refine rl_get (pc := 172) Γ nd_Mo_findBest_172 hO (k := 15) (rl_o59 E) rfl (by decide) rfl ⟨ni_Mo, nf_Mo_98⟩ ?_
      refine rl_if_eq (tgt := 212) (pc := 175) Γ nd_Mo_findBest_175 (by decide) (fun q30 => ?_) (fun q30 => ?_)
      · have h := rl_ift q30 h
        exact rl_vret (pc := 212) Γ nd_Mo_findBest_212 hr hk h
      · have h := rl_iff q30 h
        refine rl_iconst (v := 0) (pc := 178) Γ nd_Mo_findBest_178 (by decide) ?_
        refine rl_istore_n (L' := [(2, .int 0), (0, .ref (E.1 59))]) (pc := 179) Γ nd_Mo_findBest_179 (by decide) rfl ?_
        refine rl_Gsub [1, 0] rfl (rw_Mo_findBest_L180 Γ hO hr hk   _ ?_ 10000 0 q29m h)
        · intro q31m h
          refine rl_aload_n (pc := 204) Γ nd_Mo_findBest_204 0 rfl ?_
          obtain ⟨q32, q32h, h⟩ := rl_bd h
          refine rl_callVv (As := []) (pc := 205) Γ nd_Mo_findBest_205 hO (rw_Mo_layOut l E   q31m q32 q32h) 0 nm_Mo_105 nm_im_Mo_layOut nm_se_Mo_layOut nm_ini_Mo nh_Mo_layOut (rl_o59 E) rfl ⟨rfl, rfl⟩ (by decide +kernel) (Nat.le_of_ble_eq_true rfl) (Nat.le_of_ble_eq_true rfl) ⟨Nat.zero_le _, Nat.zero_le _⟩ (Nat.le_of_ble_eq_true rfl) rfl rfl ?_
          refine rl_aload_n (pc := 208) Γ nd_Mo_findBest_208 0 rfl ?_
          obtain ⟨q33, q33h, h⟩ := rl_bd h
          refine rl_callVv (As := []) (pc := 209) Γ nd_Mo_findBest_209 hO (rw_Mo_findCorners l E   q32.2 q33 q33h) 0 nm_Mo_121 nm_im_Mo_findCorners nm_se_Mo_findCorners nm_ini_Mo nh_Mo_findCorners (rl_o59 E) rfl ⟨rfl, rfl⟩ (by decide +kernel) (Nat.le_of_ble_eq_true rfl) (Nat.le_of_ble_eq_true rfl) ⟨Nat.zero_le _, Nat.zero_le _⟩ (Nat.le_of_ble_eq_true rfl) rfl rfl ?_
          exact rl_vret (pc := 212) Γ nd_Mo_findBest_212 hr hk h
def rf_Mo_best_J15 (x1 : Int32) (s0 : Int32)  (σ : rl_M) : Option (Int32 × rl_M) := (if ((rl_su σ 59 0 s0) 59 0) ≤ 0 then ((rf_Mo_findBest  (rl_su σ 59 0 s0)).bind (fun q4 => (if (q4.2 59 15) = 0 then some ((-1), q4.2) else (if x1 = 0 then some ((q4.2 59 16) * (q4.2 59 17), q4.2) else (if x1 = 1 then some (q4.2 59 16, q4.2) else some (q4.2 59 17, q4.2)))))) else some (0, rl_su σ 59 0 s0))
def rf_Mo_best (x1 : Int32) (σ : rl_M) : Option (Int32 × rl_M) := ((rf_Mo_isIn x1 0 2 σ).bind (fun q1 => (if q1.1 = 0 then rf_Mo_best_J15 x1 1  q1.2 else rf_Mo_best_J15 x1 0  q1.2)))
set_option maxHeartbeats 4000000 in
set_option maxRecDepth 100000 in
theorem rw_Mo_best_J15 {p : Program} {l : Launch} {e : Env} {s : State} {m : MethodId} {args : Array Value} {below : List Frame} {meth : Method} {c : Code} {E : rl_E} (Γ : CallFix p m c nc_Mo_best 2 s args rl_TT nR_Mo) (hO : rl_Ok E s) (hr : meth.sig.returnType = (some .int)) (hk : meth.locks = false)  (x1 : Int32) (s0 : Int32)   {r : Int32 × rl_M}  (σ : rl_M) (h : rf_Mo_best_J15 x1 s0  σ = some r) : rl_G p l e nr_Mo_best s m args below meth c 2 E 0 0 (rl_QM below args s E rl_ri r) σ 15 [(0, .ref (E.1 59)), (1, .int x1)] [.int s0, .ref (E.1 59)] := by
  unfold rf_Mo_best_J15 at h
  refine rl_put (pc := 15) Γ nd_Mo_best_15 hO (k := 0) (rl_o59 E) rfl (by decide) (fun _ _ => rfl) ⟨ni_Mo, nf_Mo_71⟩ nt_Mo nto_Mo nn_Mo rfl (fun _ => Nat.le_of_ble_eq_true rfl) rl_ni ?_
  refine rl_aload_n (pc := 18) Γ nd_Mo_best_18 0 rfl ?_
  refine rl_get (pc := 19) Γ nd_Mo_best_19 hO (k := 0) (rl_o59 E) rfl (by decide) rfl ⟨ni_Mo, nf_Mo_71⟩ ?_
  refine rl_if_le (tgt := 27) (pc := 22) Γ nd_Mo_best_22 (by decide) (fun q3 => ?_) (fun q3 => ?_)
  · have h := rl_ift q3 h
    refine rl_aload_n (pc := 27) Γ nd_Mo_best_27 0 rfl ?_
    obtain ⟨q4, q4h, h⟩ := rl_bd h
    refine rl_callVv (As := []) (pc := 28) Γ nd_Mo_best_28 hO (rw_Mo_findBest l E   (rl_su σ 59 0 s0) q4 q4h) 0 nm_Mo_124 nm_im_Mo_findBest nm_se_Mo_findBest nm_ini_Mo nh_Mo_findBest (rl_o59 E) rfl ⟨rfl, rfl⟩ (by decide +kernel) (Nat.le_of_ble_eq_true rfl) (Nat.le_of_ble_eq_true rfl) ⟨Nat.zero_le _, Nat.zero_le _⟩ (Nat.le_of_ble_eq_true rfl) rfl rfl ?_
    refine rl_aload_n (pc := 31) Γ nd_Mo_best_31 0 rfl ?_
    refine rl_get (pc := 32) Γ nd_Mo_best_32 hO (k := 15) (rl_o59 E) rfl (by decide) rfl ⟨ni_Mo, nf_Mo_98⟩ ?_
    refine rl_if_ne (tgt := 40) (pc := 35) Γ nd_Mo_best_35 (by decide) (fun q5 => ?_) (fun q5 => ?_)
    · have h := rl_iff q5 h
      refine rl_iload_n (pc := 40) Γ nd_Mo_best_40 1 rfl ?_
      refine rl_if_ne (tgt := 56) (pc := 41) Γ nd_Mo_best_41 (by decide) (fun q6 => ?_) (fun q6 => ?_)
      · have h := rl_iff q6 h
        refine rl_iload_n (pc := 56) Γ nd_Mo_best_56 1 rfl ?_
        refine rl_iconst (v := 1) (pc := 57) Γ nd_Mo_best_57 (by decide) ?_
        refine rl_icmp_ne (tgt := 68) (pc := 58) Γ nd_Mo_best_58 (by decide) (fun q7 => ?_) (fun q7 => ?_)
        · have h := rl_iff q7 h
          refine rl_aload_n (pc := 68) Γ nd_Mo_best_68 0 rfl ?_
          refine rl_get (pc := 69) Γ nd_Mo_best_69 hO (k := 17) (rl_o59 E) rfl (by decide) rfl ⟨ni_Mo, nf_Mo_111⟩ ?_
          exact rl_iret (pc := 72) Γ nd_Mo_best_72 hr hk h
        · have h := rl_ift q7 h
          refine rl_aload_n (pc := 61) Γ nd_Mo_best_61 0 rfl ?_
          refine rl_get (pc := 62) Γ nd_Mo_best_62 hO (k := 16) (rl_o59 E) rfl (by decide) rfl ⟨ni_Mo, nf_Mo_108⟩ ?_
          refine rl_goto (tgt := 72) (pc := 65) Γ nd_Mo_best_65 (by decide) ?_
          exact rl_iret (pc := 72) Γ nd_Mo_best_72 hr hk h
      · have h := rl_ift q6 h
        refine rl_aload_n (pc := 44) Γ nd_Mo_best_44 0 rfl ?_
        refine rl_get (pc := 45) Γ nd_Mo_best_45 hO (k := 16) (rl_o59 E) rfl (by decide) rfl ⟨ni_Mo, nf_Mo_108⟩ ?_
        refine rl_aload_n (pc := 48) Γ nd_Mo_best_48 0 rfl ?_
        refine rl_get (pc := 49) Γ nd_Mo_best_49 hO (k := 17) (rl_o59 E) rfl (by decide) rfl ⟨ni_Mo, nf_Mo_111⟩ ?_
        refine rl_imul (pc := 52) Γ nd_Mo_best_52 ?_
        refine rl_goto (tgt := 72) (pc := 53) Γ nd_Mo_best_53 (by decide) ?_
        exact rl_iret (pc := 72) Γ nd_Mo_best_72 hr hk h
    · have h := rl_ift q5 h
      refine rl_iconst (v := (-1)) (pc := 38) Γ nd_Mo_best_38 (by decide) ?_
      exact rl_iret (pc := 39) Γ nd_Mo_best_39 hr hk h
  · have h := rl_iff q3 h
    refine rl_iconst (v := 0) (pc := 25) Γ nd_Mo_best_25 (by decide) ?_
    exact rl_iret (pc := 26) Γ nd_Mo_best_26 hr hk h
set_option maxHeartbeats 4000000 in
set_option maxRecDepth 100000 in
theorem rw_Mo_best (l : Launch) (E : rl_E) (x1 : Int32)  (σ : rl_M) (r : Int32 × rl_M) (h : rf_Mo_best x1 σ = some r) : Met l ny_Mo_best nw_Mo_best nr_Mo_best (rl_P E [.ref (E.1 59), .int x1] σ) (rl_Q E (rl_ri r.1) r.2) 0 0 (rl_A E) := by
  refine Met.ofW (cc := nc_Mo_best) (maxL := 2) (ret := (some .int)) (by decide) rfl ?_
  intro p e s m args below meth c s₁ B hml hv
  obtain ⟨rfl, hP, hO⟩ := hv
  have Γ : CallFix p m c nc_Mo_best 2 s ([.ref (E.1 59), .int x1] : List Value).toArray rl_TT nR_Mo := ⟨B.exec, B.bytes, hml, findClass_of_methodNamed B.named, fun w hw => atoms_spec (ws := nw_Mo_best) B.pre w (List.mem_cons_of_mem _ hw)⟩
  have hr := B.returns
  have hk := B.notSynchronized
  refine rl_start (R := nr_Mo_best) (Q := rl_QM below _ s E rl_ri r) (nL := 2) (av := [.ref (E.1 59), .int x1]) (σ := σ) hP (Nat.le_of_ble_eq_true rfl) ?_
  unfold rf_Mo_best at h
  refine rl_aload_n (pc := 0) Γ nd_Mo_best_0 0 rfl ?_
  refine rl_iload_n (pc := 1) Γ nd_Mo_best_1 1 rfl ?_
  refine rl_iconst (v := 0) (pc := 2) Γ nd_Mo_best_2 (by decide) ?_
  refine rl_iconst (v := 2) (pc := 3) Γ nd_Mo_best_3 (by decide) ?_
  obtain ⟨q1, q1h, h⟩ := rl_bd h
  refine rl_callSi (As := [.int x1, .int 0, .int 2]) (pc := 4) Γ nd_Mo_best_4 hO (rw_Mo_isIn l E x1 0 2  σ q1 q1h) 3 nm_Mo_81 nm_st_Mo_isIn nm_ini_Mo nh_Mo_isIn ⟨rfl, rfl⟩ (by decide +kernel) (Nat.le_of_ble_eq_true rfl) (Nat.le_of_ble_eq_true rfl) ⟨Nat.zero_le _, Nat.zero_le _⟩ (Nat.le_of_ble_eq_true rfl) rfl rfl ?_
  refine rl_if_eq (tgt := 14) (pc := 7) Γ nd_Mo_best_7 (by decide) (fun q2 => ?_) (fun q2 => ?_)
  · have h := rl_ift q2 h
    refine rl_iconst (v := 1) (pc := 14) Γ nd_Mo_best_14 (by decide) ?_
    exact rl_Gsub [0, 1] rfl (rw_Mo_best_J15 Γ hO hr hk x1 1   q1.2 h)
  · have h := rl_iff q2 h
    refine rl_iconst (v := 0) (pc := 10) Γ nd_Mo_best_10 (by decide) ?_
    refine rl_goto (tgt := 15) (pc := 11) Γ nd_Mo_best_11 (by decide) ?_
    exact rl_Gsub [0, 1] rfl (rw_Mo_best_J15 Γ hO hr hk x1 0   q1.2 h)
