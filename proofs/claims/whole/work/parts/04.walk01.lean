def rf_Cu_joinAbove_L19 (a0 : Nat) (a1 : Nat) (a2 : Nat) (K93 : rl_M → Option (Int32 × rl_M)) : Nat → Int32 → Int32 → rl_M → Option (Int32 × rl_M)
  | 0, _, _, _ => none
  | n + 1, x3, x4, σ => (if x3 < 0 then K93  σ else (if x4 < 0 then K93  σ else (if rl_ib x3 24 = true then (if rl_ib x4 24 = true then (if rl_ib x3 24 = true then (if rl_ib x4 24 = true then ((rf_Cu_append a0 (if (σ (a1 + 1) x3.toNatClampNeg) < (σ (a2 + 1) x4.toNatClampNeg) then (σ (a2 + 1) x4.toNatClampNeg) else (σ (a1 + 1) x3.toNatClampNeg)) ((σ (a1 + 2) x3.toNatClampNeg) + (σ (a2 + 2) x4.toNatClampNeg)) σ).bind (fun q8 => (if (σ (a1 + 1) x3.toNatClampNeg) < (σ (a2 + 1) x4.toNatClampNeg) then (if (σ (a2 + 1) x4.toNatClampNeg) < (σ (a1 + 1) x3.toNatClampNeg) then rf_Cu_joinAbove_L19 a0 a1 a2 K93 n x3 x4 q8.2 else rf_Cu_joinAbove_L19 a0 a1 a2 K93 n x3 (x4 + (-1)) q8.2) else (if (σ (a2 + 1) x4.toNatClampNeg) < (σ (a1 + 1) x3.toNatClampNeg) then rf_Cu_joinAbove_L19 a0 a1 a2 K93 n (x3 + (-1)) x4 q8.2 else rf_Cu_joinAbove_L19 a0 a1 a2 K93 n (x3 + (-1)) (x4 + (-1)) q8.2)))) else none) else none) else none) else none)))
def rf_Cu_joinAbove_L96 (a0 : Nat)  : Nat → Int32 → rl_M → Option (Int32 × rl_M)
  | 0, _, _ => none
  | n + 1, x5, σ => (if ((σ a0 0) / 2) ≤ x5 then some (0, σ) else ((rf_Cu_exchangeOutlines a0 x5 (((σ a0 0) - 1) - x5) σ).bind (fun q14 => rf_Cu_joinAbove_L96 a0  n (x5 + 1) q14.2)))
def rf_Cu_joinAbove (a0 : Nat) (a1 : Nat) (a2 : Nat) (σ : rl_M) : Option (Int32 × rl_M) := ((rf_Cu_clear a0 σ).bind (fun q1 => rf_Cu_joinAbove_L19 a0 a1 a2 (fun (q12m : rl_M) => rf_Cu_joinAbove_L96 a0  10000 0 q12m) 10000 ((q1.2 a1 0) - 1) ((q1.2 a2 0) - 1) q1.2))
set_option maxHeartbeats 4000000 in
set_option maxRecDepth 100000 in
theorem rw_Cu_joinAbove_L19 {p : Program} {l : Launch} {e : Env} {s : State} {m : MethodId} {args : Array Value} {below : List Frame} {meth : Method} {c : Code} {E : rl_E} (Γ : CallFix p m c nc_Cu_joinAbove 7 s args rl_TT nR_Cu) (hO : rl_Ok E s) (hr : meth.sig.returnType = none) (hk : meth.locks = false) (a0 : Nat) (a1 : Nat) (a2 : Nat) (ha0 : rl_cvb a0 = true) (ha1 : rl_cvb a1 = true) (ha2 : rl_cvb a2 = true) (K93 : rl_M → Option (Int32 × rl_M)) {r : Int32 × rl_M} (hK93 : ∀ (σ : rl_M), K93  σ = some r → rl_G p l e nr_Cu_joinAbove s m args below meth c 7 E 0 0 (rl_QM below args s E rl_rv r) σ 93 [(0, .ref (E.1 a0))] []) : ∀ (n : Nat) (x3 : Int32) (x4 : Int32) (σ : rl_M), rf_Cu_joinAbove_L19 a0 a1 a2 K93 n x3 x4 σ = some r → rl_G p l e nr_Cu_joinAbove s m args below meth c 7 E 0 0 (rl_QM below args s E rl_rv r) σ 19 [(0, .ref (E.1 a0)), (1, .ref (E.1 a1)), (2, .ref (E.1 a2)), (3, .int x3), (4, .int x4)] [] := by
  intro n
  induction n with
  | zero =>
    intro x3 x4 σ h
    exact (rl_ns (show none = some r from h)).elim
  | succ n ih =>
    intro x3 x4 σ h
    unfold rf_Cu_joinAbove_L19 at h
    refine rl_iload_n (pc := 19) Γ nd_Cu_joinAbove_19 3 rfl ?_
    refine rl_if_lt (tgt := 93) (pc := 20) Γ nd_Cu_joinAbove_20 (by decide) (fun q2 => ?_) (fun q2 => ?_)
    · have h := rl_ift q2 h
      exact rl_Gsub [0] rfl (hK93  σ h)
    · have h := rl_iff q2 h
      refine rl_iload (pc := 23) Γ nd_Cu_joinAbove_23 4 rfl ?_
      refine rl_if_lt (tgt := 93) (pc := 25) Γ nd_Cu_joinAbove_25 (by decide) (fun q3 => ?_) (fun q3 => ?_)
      · have h := rl_ift q3 h
        exact rl_Gsub [0] rfl (hK93  σ h)
      · have h := rl_iff q3 h
        refine rl_aload_n (pc := 28) Γ nd_Cu_joinAbove_28 1 rfl ?_
        refine rl_get (pc := 29) Γ nd_Cu_joinAbove_29 hO (k := 1) (rl_oC ha1) rfl (by decide) rfl ⟨ni_Cu, nf_Cu_15⟩ ?_
        refine rl_iload_n (pc := 32) Γ nd_Cu_joinAbove_32 3 rfl ?_
        obtain ⟨q4, h⟩ := rl_if h
        refine rl_ild (pc := 33) Γ nd_Cu_joinAbove_33 hO (rl_aC1 ha1) (rl_ib_in q4) ?_
        refine rl_istore (L' := [(5, .int (σ (a1 + 1) x3.toNatClampNeg)), (0, .ref (E.1 a0)), (1, .ref (E.1 a1)), (2, .ref (E.1 a2)), (3, .int x3), (4, .int x4)]) (pc := 34) Γ nd_Cu_joinAbove_34 (by decide) rfl ?_
        refine rl_aload_n (pc := 36) Γ nd_Cu_joinAbove_36 3 rfl ?_
        refine rl_get (pc := 37) Γ nd_Cu_joinAbove_37 hO (k := 1) (rl_oC ha2) rfl (by decide) rfl ⟨ni_Cu, nf_Cu_15⟩ ?_
        refine rl_iload (pc := 40) Γ nd_Cu_joinAbove_40 5 rfl ?_
        obtain ⟨q5, h⟩ := rl_if h
        refine rl_ild (pc := 42) Γ nd_Cu_joinAbove_42 hO (rl_aC1 ha2) (rl_ib_in q5) ?_
        refine rl_istore (L' := [(6, .int (σ (a2 + 1) x4.toNatClampNeg)), (5, .int (σ (a1 + 1) x3.toNatClampNeg)), (0, .ref (E.1 a0)), (1, .ref (E.1 a1)), (2, .ref (E.1 a2)), (3, .int x3), (4, .int x4)]) (pc := 43) Γ nd_Cu_joinAbove_43 (by decide) rfl ?_
        refine rl_aload_n (pc := 45) Γ nd_Cu_joinAbove_45 2 rfl ?_
        refine rl_iload (pc := 46) Γ nd_Cu_joinAbove_46 1 rfl ?_
        refine rl_iload (pc := 48) Γ nd_Cu_joinAbove_48 0 rfl ?_
        refine rl_mmax (pc := 50) Γ nd_Cu_joinAbove_50 (Γ.2.2.2.2 _ nm_Cu_39) (Γ.2.2.2.2 _ nm_static_max) (Γ.2.2.2.2 _ nm_ini_Math) (Γ.2.2.2.2 _ nm_code_max) (Nat.le_of_ble_eq_true rfl) (Nat.le_of_ble_eq_true rfl) ⟨Nat.zero_le _, Nat.zero_le _⟩ ?_
        refine rl_aload_n (pc := 53) Γ nd_Cu_joinAbove_53 3 rfl ?_
        refine rl_get (pc := 54) Γ nd_Cu_joinAbove_54 hO (k := 2) (rl_oC ha1) rfl (by decide) rfl ⟨ni_Cu, nf_Cu_19⟩ ?_
        refine rl_iload_n (pc := 57) Γ nd_Cu_joinAbove_57 5 rfl ?_
        obtain ⟨q6, h⟩ := rl_if h
        refine rl_ild (pc := 58) Γ nd_Cu_joinAbove_58 hO (rl_aC2 ha1) (rl_ib_in q6) ?_
        refine rl_aload_n (pc := 59) Γ nd_Cu_joinAbove_59 4 rfl ?_
        refine rl_get (pc := 60) Γ nd_Cu_joinAbove_60 hO (k := 2) (rl_oC ha2) rfl (by decide) rfl ⟨ni_Cu, nf_Cu_19⟩ ?_
        refine rl_iload (pc := 63) Γ nd_Cu_joinAbove_63 6 rfl ?_
        obtain ⟨q7, h⟩ := rl_if h
        refine rl_ild (pc := 65) Γ nd_Cu_joinAbove_65 hO (rl_aC2 ha2) (rl_ib_in q7) ?_
        refine rl_iadd (pc := 66) Γ nd_Cu_joinAbove_66 ?_
        obtain ⟨q8, q8h, h⟩ := rl_bd h
        refine rl_callVv (As := [.int (if (σ (a1 + 1) x3.toNatClampNeg) < (σ (a2 + 1) x4.toNatClampNeg) then (σ (a2 + 1) x4.toNatClampNeg) else (σ (a1 + 1) x3.toNatClampNeg)), .int ((σ (a1 + 2) x3.toNatClampNeg) + (σ (a2 + 2) x4.toNatClampNeg))]) (pc := 67) Γ nd_Cu_joinAbove_67 hO (rw_Cu_append l E a0 (if (σ (a1 + 1) x3.toNatClampNeg) < (σ (a2 + 1) x4.toNatClampNeg) then (σ (a2 + 1) x4.toNatClampNeg) else (σ (a1 + 1) x3.toNatClampNeg)) ((σ (a1 + 2) x3.toNatClampNeg) + (σ (a2 + 2) x4.toNatClampNeg)) ha0 σ q8 q8h) 2 nm_Cu_30 nm_im_Cu_append nm_se_Cu_append nm_ini_Cu nh_Cu_append (rl_oC ha0) rfl ⟨rfl, rfl⟩ (by decide +kernel) (Nat.le_of_ble_eq_true rfl) (Nat.le_of_ble_eq_true rfl) ⟨Nat.zero_le _, Nat.zero_le _⟩ (Nat.le_of_ble_eq_true rfl) rfl rfl ?_
        refine rl_iload (pc := 70) Γ nd_Cu_joinAbove_70 1 rfl ?_
        refine rl_iload (pc := 72) Γ nd_Cu_joinAbove_72 0 rfl ?_
        refine rl_icmp_lt (tgt := 80) (pc := 74) Γ nd_Cu_joinAbove_74 (by decide) (fun q9 => ?_) (fun q9 => ?_)
        · have h := rl_ift q9 h
          refine rl_iload (pc := 80) Γ nd_Cu_joinAbove_80 0 rfl ?_
          refine rl_iload (pc := 82) Γ nd_Cu_joinAbove_82 1 rfl ?_
          refine rl_icmp_lt (tgt := 90) (pc := 84) Γ nd_Cu_joinAbove_84 (by decide) (fun q10 => ?_) (fun q10 => ?_)
          · have h := rl_ift q10 h
            refine rl_goto (tgt := 19) (pc := 90) Γ nd_Cu_joinAbove_90 (by decide) ?_
            exact rl_Gsub [2, 3, 4, 5, 6] rfl (ih x3 x4 q8.2 h)
          · have h := rl_iff q10 h
            refine rl_iinc (v := x4 + (-1)) (L' := [(4, .int (x4 + (-1))), (6, .int (σ (a2 + 1) x4.toNatClampNeg)), (5, .int (σ (a1 + 1) x3.toNatClampNeg)), (0, .ref (E.1 a0)), (1, .ref (E.1 a1)), (2, .ref (E.1 a2)), (3, .int x3)]) (pc := 87) Γ nd_Cu_joinAbove_87 6 rfl rfl (by decide) rfl ?_
            refine rl_goto (tgt := 19) (pc := 90) Γ nd_Cu_joinAbove_90 (by decide) ?_
            exact rl_Gsub [3, 4, 5, 6, 0] rfl (ih x3 (x4 + (-1)) q8.2 h)
        · have h := rl_iff q9 h
          refine rl_iinc (v := x3 + (-1)) (L' := [(3, .int (x3 + (-1))), (6, .int (σ (a2 + 1) x4.toNatClampNeg)), (5, .int (σ (a1 + 1) x3.toNatClampNeg)), (0, .ref (E.1 a0)), (1, .ref (E.1 a1)), (2, .ref (E.1 a2)), (4, .int x4)]) (pc := 77) Γ nd_Cu_joinAbove_77 5 rfl rfl (by decide) rfl ?_
          refine rl_iload (pc := 80) Γ nd_Cu_joinAbove_80 1 rfl ?_
          refine rl_iload (pc := 82) Γ nd_Cu_joinAbove_82 2 rfl ?_
          refine rl_icmp_lt (tgt := 90) (pc := 84) Γ nd_Cu_joinAbove_84 (by decide) (fun q11 => ?_) (fun q11 => ?_)
          · have h := rl_ift q11 h
            refine rl_goto (tgt := 19) (pc := 90) Γ nd_Cu_joinAbove_90 (by decide) ?_
            exact rl_Gsub [3, 4, 5, 0, 6] rfl (ih (x3 + (-1)) x4 q8.2 h)
          · have h := rl_iff q11 h
            refine rl_iinc (v := x4 + (-1)) (L' := [(4, .int (x4 + (-1))), (3, .int (x3 + (-1))), (6, .int (σ (a2 + 1) x4.toNatClampNeg)), (5, .int (σ (a1 + 1) x3.toNatClampNeg)), (0, .ref (E.1 a0)), (1, .ref (E.1 a1)), (2, .ref (E.1 a2))]) (pc := 87) Γ nd_Cu_joinAbove_87 6 rfl rfl (by decide) rfl ?_
            refine rl_goto (tgt := 19) (pc := 90) Γ nd_Cu_joinAbove_90 (by decide) ?_
            exact rl_Gsub [4, 5, 6, 1, 0] rfl (ih (x3 + (-1)) (x4 + (-1)) q8.2 h)
set_option maxHeartbeats 4000000 in
set_option maxRecDepth 100000 in
theorem rw_Cu_joinAbove_L96 {p : Program} {l : Launch} {e : Env} {s : State} {m : MethodId} {args : Array Value} {below : List Frame} {meth : Method} {c : Code} {E : rl_E} (Γ : CallFix p m c nc_Cu_joinAbove 7 s args rl_TT nR_Cu) (hO : rl_Ok E s) (hr : meth.sig.returnType = none) (hk : meth.locks = false) (a0 : Nat) (ha0 : rl_cvb a0 = true)  {r : Int32 × rl_M}  : ∀ (n : Nat) (x5 : Int32) (σ : rl_M), rf_Cu_joinAbove_L96 a0  n x5 σ = some r → rl_G p l e nr_Cu_joinAbove s m args below meth c 7 E 0 0 (rl_QM below args s E rl_rv r) σ 96 [(0, .ref (E.1 a0)), (5, .int x5)] [] := by
  intro n
  induction n with
  | zero =>
    intro x5 σ h
    exact (rl_ns (show none = some r from h)).elim
  | succ n ih =>
    intro x5 σ h
    unfold rf_Cu_joinAbove_L96 at h
    refine rl_iload (pc := 96) Γ nd_Cu_joinAbove_96 1 rfl ?_
    refine rl_aload_n (pc := 98) Γ nd_Cu_joinAbove_98 0 rfl ?_
    refine rl_get (pc := 99) Γ nd_Cu_joinAbove_99 hO (k := 0) (rl_oC ha0) rfl (by decide) rfl ⟨ni_Cu, nf_Cu_9⟩ ?_
    refine rl_iconst (v := 2) (pc := 102) Γ nd_Cu_joinAbove_102 (by decide) ?_
    refine rl_idiv (pc := 103) Γ nd_Cu_joinAbove_103 (by decide) ?_
    refine rl_icmp_ge (tgt := 128) (pc := 104) Γ nd_Cu_joinAbove_104 (by decide) (fun q13 => ?_) (fun q13 => ?_)
    · have h := rl_ift q13 h
      exact rl_vret (pc := 128) Γ nd_Cu_joinAbove_128 hr hk h
    · have h := rl_iff q13 h
      refine rl_aload_n (pc := 107) Γ nd_Cu_joinAbove_107 0 rfl ?_
      refine rl_iload (pc := 108) Γ nd_Cu_joinAbove_108 1 rfl ?_
      refine rl_aload_n (pc := 110) Γ nd_Cu_joinAbove_110 0 rfl ?_
      refine rl_get (pc := 111) Γ nd_Cu_joinAbove_111 hO (k := 0) (rl_oC ha0) rfl (by decide) rfl ⟨ni_Cu, nf_Cu_9⟩ ?_
      refine rl_iconst (v := 1) (pc := 114) Γ nd_Cu_joinAbove_114 (by decide) ?_
      refine rl_isub (pc := 115) Γ nd_Cu_joinAbove_115 ?_
      refine rl_iload (pc := 116) Γ nd_Cu_joinAbove_116 1 rfl ?_
      refine rl_isub (pc := 118) Γ nd_Cu_joinAbove_118 ?_
      obtain ⟨q14, q14h, h⟩ := rl_bd h
      refine rl_callVv (As := [.int x5, .int (((σ a0 0) - 1) - x5)]) (pc := 119) Γ nd_Cu_joinAbove_119 hO (rw_Cu_exchangeOutlines l E a0 x5 (((σ a0 0) - 1) - x5) ha0 σ q14 q14h) 2 nm_Cu_33 nm_im_Cu_exchangeOutlines nm_se_Cu_exchangeOutlines nm_ini_Cu nh_Cu_exchangeOutlines (rl_oC ha0) rfl ⟨rfl, rfl⟩ (by decide +kernel) (Nat.le_of_ble_eq_true rfl) (Nat.le_of_ble_eq_true rfl) ⟨Nat.zero_le _, Nat.zero_le _⟩ (Nat.le_of_ble_eq_true rfl) rfl rfl ?_
      refine rl_iinc (v := x5 + 1) (L' := [(5, .int (x5 + 1)), (0, .ref (E.1 a0))]) (pc := 122) Γ nd_Cu_joinAbove_122 1 rfl rfl (by decide) rfl ?_
      refine rl_goto (tgt := 96) (pc := 125) Γ nd_Cu_joinAbove_125 (by decide) ?_
      exact rl_Gsub [1, 0] rfl (ih (x5 + 1) q14.2 h)
set_option maxHeartbeats 4000000 in
set_option maxRecDepth 100000 in
theorem rw_Cu_joinAbove (l : Launch) (E : rl_E) (a0 : Nat) (a1 : Nat) (a2 : Nat) (ha0 : rl_cvb a0 = true) (ha1 : rl_cvb a1 = true) (ha2 : rl_cvb a2 = true) (σ : rl_M) (r : Int32 × rl_M) (h : rf_Cu_joinAbove a0 a1 a2 σ = some r) : Met l ny_Cu_joinAbove nw_Cu_joinAbove nr_Cu_joinAbove (rl_P E [.ref (E.1 a0), .ref (E.1 a1), .ref (E.1 a2)] σ) (rl_Q E (rl_rv r.1) r.2) 0 0 (rl_A E) := by
  refine Met.ofW (cc := nc_Cu_joinAbove) (maxL := 7) (ret := none) (by decide) rfl ?_
  intro p e s m args below meth c s₁ B hml hv
  obtain ⟨rfl, hP, hO⟩ := hv
  have Γ : CallFix p m c nc_Cu_joinAbove 7 s ([.ref (E.1 a0), .ref (E.1 a1), .ref (E.1 a2)] : List Value).toArray rl_TT nR_Cu := ⟨B.exec, B.bytes, hml, findClass_of_methodNamed B.named, fun w hw => atoms_spec (ws := nw_Cu_joinAbove) B.pre w (List.mem_cons_of_mem _ hw)⟩
  have hr := B.returns
  have hk := B.notSynchronized
  refine rl_start (R := nr_Cu_joinAbove) (Q := rl_QM below _ s E rl_rv r) (nL := 7) (av := [.ref (E.1 a0), .ref (E.1 a1), .ref (E.1 a2)]) (σ := σ) hP (Nat.le_of_ble_eq_true rfl) ?_
  unfold rf_Cu_joinAbove at h
  refine rl_aload_n (pc := 0) Γ nd_Cu_joinAbove_0 0 rfl ?_
  obtain ⟨q1, q1h, h⟩ := rl_bd h
  refine rl_callVv (As := []) (pc := 1) Γ nd_Cu_joinAbove_1 hO (rw_Cu_clear l E a0 ha0 σ q1 q1h) 0 nm_Cu_36 nm_im_Cu_clear nm_se_Cu_clear nm_ini_Cu nh_Cu_clear (rl_oC ha0) rfl ⟨rfl, rfl⟩ (by decide +kernel) (Nat.le_of_ble_eq_true rfl) (Nat.le_of_ble_eq_true rfl) ⟨Nat.zero_le _, Nat.zero_le _⟩ (Nat.le_of_ble_eq_true rfl) rfl rfl ?_
  refine rl_aload_n (pc := 4) Γ nd_Cu_joinAbove_4 1 rfl ?_
  refine rl_get (pc := 5) Γ nd_Cu_joinAbove_5 hO (k := 0) (rl_oC ha1) rfl (by decide) rfl ⟨ni_Cu, nf_Cu_9⟩ ?_
  refine rl_iconst (v := 1) (pc := 8) Γ nd_Cu_joinAbove_8 (by decide) ?_
  refine rl_isub (pc := 9) Γ nd_Cu_joinAbove_9 ?_
  refine rl_istore_n (L' := [(3, .int ((q1.2 a1 0) - 1)), (0, .ref (E.1 a0)), (1, .ref (E.1 a1)), (2, .ref (E.1 a2))]) (pc := 10) Γ nd_Cu_joinAbove_10 (by decide) rfl ?_
  refine rl_aload_n (pc := 11) Γ nd_Cu_joinAbove_11 3 rfl ?_
  refine rl_get (pc := 12) Γ nd_Cu_joinAbove_12 hO (k := 0) (rl_oC ha2) rfl (by decide) rfl ⟨ni_Cu, nf_Cu_9⟩ ?_
  refine rl_iconst (v := 1) (pc := 15) Γ nd_Cu_joinAbove_15 (by decide) ?_
  refine rl_isub (pc := 16) Γ nd_Cu_joinAbove_16 ?_
  refine rl_istore (L' := [(4, .int ((q1.2 a2 0) - 1)), (3, .int ((q1.2 a1 0) - 1)), (0, .ref (E.1 a0)), (1, .ref (E.1 a1)), (2, .ref (E.1 a2))]) (pc := 17) Γ nd_Cu_joinAbove_17 (by decide) rfl ?_
  refine rl_Gsub [2, 3, 4, 1, 0] rfl (rw_Cu_joinAbove_L19 Γ hO hr hk a0 a1 a2 ha0 ha1 ha2 _ ?_ 10000 ((q1.2 a1 0) - 1) ((q1.2 a2 0) - 1) q1.2 h)
  · intro q12m h
    refine rl_iconst (v := 0) (pc := 93) Γ nd_Cu_joinAbove_93 (by decide) ?_
    refine rl_istore (L' := [(5, .int 0), (0, .ref (E.1 a0))]) (pc := 94) Γ nd_Cu_joinAbove_94 (by decide) rfl ?_
    refine rl_Gsub [1, 0] rfl (rw_Cu_joinAbove_L96 Γ hO hr hk a0 ha0   10000 0 q12m h)
def rf_Cu_takeFitting_L7 (a0 : Nat) (a1 : Nat) (x2 : Int32) (x3 : Int32)  : Nat → Int32 → rl_M → Option (Int32 × rl_M)
  | 0, _, _ => none
  | n + 1, x4, σ => (if (σ a1 0) ≤ x4 then some (0, σ) else (if rl_ib x4 24 = true then (if x2 < (σ (a1 + 1) x4.toNatClampNeg) then rf_Cu_takeFitting_L7 a0 a1 x2 x3  n (x4 + 1) σ else (if rl_ib x4 24 = true then (if x3 < (σ (a1 + 2) x4.toNatClampNeg) then rf_Cu_takeFitting_L7 a0 a1 x2 x3  n (x4 + 1) σ else (if rl_ib x4 24 = true then (if rl_ib x4 24 = true then ((rf_Cu_append a0 (σ (a1 + 1) x4.toNatClampNeg) (σ (a1 + 2) x4.toNatClampNeg) σ).bind (fun q9 => rf_Cu_takeFitting_L7 a0 a1 x2 x3  n (x4 + 1) q9.2)) else none) else none)) else none)) else none))
def rf_Cu_takeFitting (a0 : Nat) (a1 : Nat) (x2 : Int32) (x3 : Int32) (σ : rl_M) : Option (Int32 × rl_M) := ((rf_Cu_clear a0 σ).bind (fun q1 => rf_Cu_takeFitting_L7 a0 a1 x2 x3  10000 0 q1.2))
set_option maxHeartbeats 4000000 in
set_option maxRecDepth 100000 in
theorem rw_Cu_takeFitting_L7 {p : Program} {l : Launch} {e : Env} {s : State} {m : MethodId} {args : Array Value} {below : List Frame} {meth : Method} {c : Code} {E : rl_E} (Γ : CallFix p m c nc_Cu_takeFitting 5 s args rl_TT nR_Cu) (hO : rl_Ok E s) (hr : meth.sig.returnType = none) (hk : meth.locks = false) (a0 : Nat) (a1 : Nat) (x2 : Int32) (x3 : Int32) (ha0 : rl_cvb a0 = true) (ha1 : rl_cvb a1 = true)  {r : Int32 × rl_M}  : ∀ (n : Nat) (x4 : Int32) (σ : rl_M), rf_Cu_takeFitting_L7 a0 a1 x2 x3  n x4 σ = some r → rl_G p l e nr_Cu_takeFitting s m args below meth c 5 E 0 0 (rl_QM below args s E rl_rv r) σ 7 [(0, .ref (E.1 a0)), (1, .ref (E.1 a1)), (2, .int x2), (3, .int x3), (4, .int x4)] [] := by
  intro n
  induction n with
  | zero =>
    intro x4 σ h
    exact (rl_ns (show none = some r from h)).elim
  | succ n ih =>
    intro x4 σ h
    unfold rf_Cu_takeFitting_L7 at h
    refine rl_iload (pc := 7) Γ nd_Cu_takeFitting_7 4 rfl ?_
    refine rl_aload_n (pc := 9) Γ nd_Cu_takeFitting_9 1 rfl ?_
    refine rl_get (pc := 10) Γ nd_Cu_takeFitting_10 hO (k := 0) (rl_oC ha1) rfl (by decide) rfl ⟨ni_Cu, nf_Cu_9⟩ ?_
    refine rl_icmp_ge (tgt := 62) (pc := 13) Γ nd_Cu_takeFitting_13 (by decide) (fun q2 => ?_) (fun q2 => ?_)
    · have h := rl_ift q2 h
      exact rl_vret (pc := 62) Γ nd_Cu_takeFitting_62 hr hk h
    · have h := rl_iff q2 h
      refine rl_aload_n (pc := 16) Γ nd_Cu_takeFitting_16 1 rfl ?_
      refine rl_get (pc := 17) Γ nd_Cu_takeFitting_17 hO (k := 1) (rl_oC ha1) rfl (by decide) rfl ⟨ni_Cu, nf_Cu_15⟩ ?_
      refine rl_iload (pc := 20) Γ nd_Cu_takeFitting_20 4 rfl ?_
      obtain ⟨q3, h⟩ := rl_if h
      refine rl_ild (pc := 22) Γ nd_Cu_takeFitting_22 hO (rl_aC1 ha1) (rl_ib_in q3) ?_
      refine rl_iload_n (pc := 23) Γ nd_Cu_takeFitting_23 2 rfl ?_
      refine rl_icmp_gt (tgt := 56) (pc := 24) Γ nd_Cu_takeFitting_24 (by decide) (fun q4 => ?_) (fun q4 => ?_)
      · have h := rl_ift q4 h
        refine rl_iinc (v := x4 + 1) (L' := [(4, .int (x4 + 1)), (0, .ref (E.1 a0)), (1, .ref (E.1 a1)), (2, .int x2), (3, .int x3)]) (pc := 56) Γ nd_Cu_takeFitting_56 4 rfl rfl (by decide) rfl ?_
        refine rl_goto (tgt := 7) (pc := 59) Γ nd_Cu_takeFitting_59 (by decide) ?_
        exact rl_Gsub [1, 2, 3, 4, 0] rfl (ih (x4 + 1) σ h)
      · have h := rl_iff q4 h
        refine rl_aload_n (pc := 27) Γ nd_Cu_takeFitting_27 1 rfl ?_
        refine rl_get (pc := 28) Γ nd_Cu_takeFitting_28 hO (k := 2) (rl_oC ha1) rfl (by decide) rfl ⟨ni_Cu, nf_Cu_19⟩ ?_
        refine rl_iload (pc := 31) Γ nd_Cu_takeFitting_31 4 rfl ?_
        obtain ⟨q5, h⟩ := rl_if h
        refine rl_ild (pc := 33) Γ nd_Cu_takeFitting_33 hO (rl_aC2 ha1) (rl_ib_in q5) ?_
        refine rl_iload_n (pc := 34) Γ nd_Cu_takeFitting_34 3 rfl ?_
        refine rl_icmp_gt (tgt := 56) (pc := 35) Γ nd_Cu_takeFitting_35 (by decide) (fun q6 => ?_) (fun q6 => ?_)
        · have h := rl_ift q6 h
          refine rl_iinc (v := x4 + 1) (L' := [(4, .int (x4 + 1)), (0, .ref (E.1 a0)), (1, .ref (E.1 a1)), (2, .int x2), (3, .int x3)]) (pc := 56) Γ nd_Cu_takeFitting_56 4 rfl rfl (by decide) rfl ?_
          refine rl_goto (tgt := 7) (pc := 59) Γ nd_Cu_takeFitting_59 (by decide) ?_
          exact rl_Gsub [1, 2, 3, 4, 0] rfl (ih (x4 + 1) σ h)
        · have h := rl_iff q6 h
          refine rl_aload_n (pc := 38) Γ nd_Cu_takeFitting_38 0 rfl ?_
          refine rl_aload_n (pc := 39) Γ nd_Cu_takeFitting_39 1 rfl ?_
          refine rl_get (pc := 40) Γ nd_Cu_takeFitting_40 hO (k := 1) (rl_oC ha1) rfl (by decide) rfl ⟨ni_Cu, nf_Cu_15⟩ ?_
          refine rl_iload (pc := 43) Γ nd_Cu_takeFitting_43 4 rfl ?_
          obtain ⟨q7, h⟩ := rl_if h
          refine rl_ild (pc := 45) Γ nd_Cu_takeFitting_45 hO (rl_aC1 ha1) (rl_ib_in q7) ?_
          refine rl_aload_n (pc := 46) Γ nd_Cu_takeFitting_46 1 rfl ?_
          refine rl_get (pc := 47) Γ nd_Cu_takeFitting_47 hO (k := 2) (rl_oC ha1) rfl (by decide) rfl ⟨ni_Cu, nf_Cu_19⟩ ?_
          refine rl_iload (pc := 50) Γ nd_Cu_takeFitting_50 4 rfl ?_
          obtain ⟨q8, h⟩ := rl_if h
          refine rl_ild (pc := 52) Γ nd_Cu_takeFitting_52 hO (rl_aC2 ha1) (rl_ib_in q8) ?_
          obtain ⟨q9, q9h, h⟩ := rl_bd h
          refine rl_callVv (As := [.int (σ (a1 + 1) x4.toNatClampNeg), .int (σ (a1 + 2) x4.toNatClampNeg)]) (pc := 53) Γ nd_Cu_takeFitting_53 hO (rw_Cu_append l E a0 (σ (a1 + 1) x4.toNatClampNeg) (σ (a1 + 2) x4.toNatClampNeg) ha0 σ q9 q9h) 2 nm_Cu_30 nm_im_Cu_append nm_se_Cu_append nm_ini_Cu nh_Cu_append (rl_oC ha0) rfl ⟨rfl, rfl⟩ (by decide +kernel) (Nat.le_of_ble_eq_true rfl) (Nat.le_of_ble_eq_true rfl) ⟨Nat.zero_le _, Nat.zero_le _⟩ (Nat.le_of_ble_eq_true rfl) rfl rfl ?_
          refine rl_iinc (v := x4 + 1) (L' := [(4, .int (x4 + 1)), (0, .ref (E.1 a0)), (1, .ref (E.1 a1)), (2, .int x2), (3, .int x3)]) (pc := 56) Γ nd_Cu_takeFitting_56 4 rfl rfl (by decide) rfl ?_
          refine rl_goto (tgt := 7) (pc := 59) Γ nd_Cu_takeFitting_59 (by decide) ?_
          exact rl_Gsub [1, 2, 3, 4, 0] rfl (ih (x4 + 1) q9.2 h)
set_option maxHeartbeats 4000000 in
set_option maxRecDepth 100000 in
theorem rw_Cu_takeFitting (l : Launch) (E : rl_E) (a0 : Nat) (a1 : Nat) (x2 : Int32) (x3 : Int32) (ha0 : rl_cvb a0 = true) (ha1 : rl_cvb a1 = true) (σ : rl_M) (r : Int32 × rl_M) (h : rf_Cu_takeFitting a0 a1 x2 x3 σ = some r) : Met l ny_Cu_takeFitting nw_Cu_takeFitting nr_Cu_takeFitting (rl_P E [.ref (E.1 a0), .ref (E.1 a1), .int x2, .int x3] σ) (rl_Q E (rl_rv r.1) r.2) 0 0 (rl_A E) := by
  refine Met.ofW (cc := nc_Cu_takeFitting) (maxL := 5) (ret := none) (by decide) rfl ?_
  intro p e s m args below meth c s₁ B hml hv
  obtain ⟨rfl, hP, hO⟩ := hv
  have Γ : CallFix p m c nc_Cu_takeFitting 5 s ([.ref (E.1 a0), .ref (E.1 a1), .int x2, .int x3] : List Value).toArray rl_TT nR_Cu := ⟨B.exec, B.bytes, hml, findClass_of_methodNamed B.named, fun w hw => atoms_spec (ws := nw_Cu_takeFitting) B.pre w (List.mem_cons_of_mem _ hw)⟩
  have hr := B.returns
  have hk := B.notSynchronized
  refine rl_start (R := nr_Cu_takeFitting) (Q := rl_QM below _ s E rl_rv r) (nL := 5) (av := [.ref (E.1 a0), .ref (E.1 a1), .int x2, .int x3]) (σ := σ) hP (Nat.le_of_ble_eq_true rfl) ?_
  unfold rf_Cu_takeFitting at h
  refine rl_aload_n (pc := 0) Γ nd_Cu_takeFitting_0 0 rfl ?_
  obtain ⟨q1, q1h, h⟩ := rl_bd h
  refine rl_callVv (As := []) (pc := 1) Γ nd_Cu_takeFitting_1 hO (rw_Cu_clear l E a0 ha0 σ q1 q1h) 0 nm_Cu_36 nm_im_Cu_clear nm_se_Cu_clear nm_ini_Cu nh_Cu_clear (rl_oC ha0) rfl ⟨rfl, rfl⟩ (by decide +kernel) (Nat.le_of_ble_eq_true rfl) (Nat.le_of_ble_eq_true rfl) ⟨Nat.zero_le _, Nat.zero_le _⟩ (Nat.le_of_ble_eq_true rfl) rfl rfl ?_
  refine rl_iconst (v := 0) (pc := 4) Γ nd_Cu_takeFitting_4 (by decide) ?_
  refine rl_istore (L' := [(4, .int 0), (0, .ref (E.1 a0)), (1, .ref (E.1 a1)), (2, .int x2), (3, .int x3)]) (pc := 5) Γ nd_Cu_takeFitting_5 (by decide) rfl ?_
  refine rl_Gsub [1, 2, 3, 4, 0] rfl (rw_Cu_takeFitting_L7 Γ hO hr hk a0 a1 x2 x3 ha0 ha1   10000 0 q1.2 h)
def rf_Cu_leastArea_L7 (a0 : Nat)  : Nat → Int32 → Int32 → Int32 → rl_M → Option (Int32 × rl_M)
  | 0, _, _, _, _ => none
  | n + 1, x1, x2, x3, σ => (if (σ a0 0) ≤ x3 then some (x1, σ) else (if rl_ib x3 24 = true then (if rl_ib x3 24 = true then (if x2 ≤ ((σ (a0 + 1) x3.toNatClampNeg) * (σ (a0 + 2) x3.toNatClampNeg)) then rf_Cu_leastArea_L7 a0  n x1 x2 (x3 + 1) σ else (if rl_ib x3 24 = true then (if rl_ib x3 24 = true then rf_Cu_leastArea_L7 a0  n x3 ((σ (a0 + 1) x3.toNatClampNeg) * (σ (a0 + 2) x3.toNatClampNeg)) (x3 + 1) σ else none) else none)) else none) else none))
def rf_Cu_leastArea (a0 : Nat) (σ : rl_M) : Option (Int32 × rl_M) := rf_Cu_leastArea_L7 a0  10000 ((-1)) 160001 0 σ
set_option maxHeartbeats 4000000 in
set_option maxRecDepth 100000 in
theorem rw_Cu_leastArea_L7 {p : Program} {l : Launch} {e : Env} {s : State} {m : MethodId} {args : Array Value} {below : List Frame} {meth : Method} {c : Code} {E : rl_E} (Γ : CallFix p m c nc_Cu_leastArea 4 s args rl_TT nR_Cu) (hO : rl_Ok E s) (hr : meth.sig.returnType = (some .int)) (hk : meth.locks = false) (a0 : Nat) (ha0 : rl_cvb a0 = true)  {r : Int32 × rl_M}  : ∀ (n : Nat) (x1 : Int32) (x2 : Int32) (x3 : Int32) (σ : rl_M), rf_Cu_leastArea_L7 a0  n x1 x2 x3 σ = some r → rl_G p l e nr_Cu_leastArea s m args below meth c 4 E 0 0 (rl_QM below args s E rl_ri r) σ 7 [(0, .ref (E.1 a0)), (1, .int x1), (2, .int x2), (3, .int x3)] [] := by
  intro n
  induction n with
  | zero =>
    intro x1 x2 x3 σ h
    exact (rl_ns (show none = some r from h)).elim
  | succ n ih =>
    intro x1 x2 x3 σ h
    unfold rf_Cu_leastArea_L7 at h
    refine rl_iload_n (pc := 7) Γ nd_Cu_leastArea_7 3 rfl ?_
    refine rl_aload_n (pc := 8) Γ nd_Cu_leastArea_8 0 rfl ?_
    refine rl_get (pc := 9) Γ nd_Cu_leastArea_9 hO (k := 0) (rl_oC ha0) rfl (by decide) rfl ⟨ni_Cu, nf_Cu_9⟩ ?_
    refine rl_icmp_ge (tgt := 54) (pc := 12) Γ nd_Cu_leastArea_12 (by decide) (fun q1 => ?_) (fun q1 => ?_)
    · have h := rl_ift q1 h
      refine rl_iload_n (pc := 54) Γ nd_Cu_leastArea_54 1 rfl ?_
      exact rl_iret (pc := 55) Γ nd_Cu_leastArea_55 hr hk h
    · have h := rl_iff q1 h
      refine rl_aload_n (pc := 15) Γ nd_Cu_leastArea_15 0 rfl ?_
      refine rl_get (pc := 16) Γ nd_Cu_leastArea_16 hO (k := 1) (rl_oC ha0) rfl (by decide) rfl ⟨ni_Cu, nf_Cu_15⟩ ?_
      refine rl_iload_n (pc := 19) Γ nd_Cu_leastArea_19 3 rfl ?_
      obtain ⟨q2, h⟩ := rl_if h
      refine rl_ild (pc := 20) Γ nd_Cu_leastArea_20 hO (rl_aC1 ha0) (rl_ib_in q2) ?_
      refine rl_aload_n (pc := 21) Γ nd_Cu_leastArea_21 0 rfl ?_
      refine rl_get (pc := 22) Γ nd_Cu_leastArea_22 hO (k := 2) (rl_oC ha0) rfl (by decide) rfl ⟨ni_Cu, nf_Cu_19⟩ ?_
      refine rl_iload_n (pc := 25) Γ nd_Cu_leastArea_25 3 rfl ?_
      obtain ⟨q3, h⟩ := rl_if h
      refine rl_ild (pc := 26) Γ nd_Cu_leastArea_26 hO (rl_aC2 ha0) (rl_ib_in q3) ?_
      refine rl_imul (pc := 27) Γ nd_Cu_leastArea_27 ?_
      refine rl_iload_n (pc := 28) Γ nd_Cu_leastArea_28 2 rfl ?_
      refine rl_icmp_ge (tgt := 48) (pc := 29) Γ nd_Cu_leastArea_29 (by decide) (fun q4 => ?_) (fun q4 => ?_)
      · have h := rl_ift q4 h
        refine rl_iinc (v := x3 + 1) (L' := [(3, .int (x3 + 1)), (0, .ref (E.1 a0)), (1, .int x1), (2, .int x2)]) (pc := 48) Γ nd_Cu_leastArea_48 3 rfl rfl (by decide) rfl ?_
        refine rl_goto (tgt := 7) (pc := 51) Γ nd_Cu_leastArea_51 (by decide) ?_
        exact rl_Gsub [1, 2, 3, 0] rfl (ih x1 x2 (x3 + 1) σ h)
      · have h := rl_iff q4 h
        refine rl_aload_n (pc := 32) Γ nd_Cu_leastArea_32 0 rfl ?_
        refine rl_get (pc := 33) Γ nd_Cu_leastArea_33 hO (k := 1) (rl_oC ha0) rfl (by decide) rfl ⟨ni_Cu, nf_Cu_15⟩ ?_
        refine rl_iload_n (pc := 36) Γ nd_Cu_leastArea_36 3 rfl ?_
        obtain ⟨q5, h⟩ := rl_if h
        refine rl_ild (pc := 37) Γ nd_Cu_leastArea_37 hO (rl_aC1 ha0) (rl_ib_in q5) ?_
        refine rl_aload_n (pc := 38) Γ nd_Cu_leastArea_38 0 rfl ?_
        refine rl_get (pc := 39) Γ nd_Cu_leastArea_39 hO (k := 2) (rl_oC ha0) rfl (by decide) rfl ⟨ni_Cu, nf_Cu_19⟩ ?_
        refine rl_iload_n (pc := 42) Γ nd_Cu_leastArea_42 3 rfl ?_
        obtain ⟨q6, h⟩ := rl_if h
        refine rl_ild (pc := 43) Γ nd_Cu_leastArea_43 hO (rl_aC2 ha0) (rl_ib_in q6) ?_
        refine rl_imul (pc := 44) Γ nd_Cu_leastArea_44 ?_
        refine rl_istore_n (L' := [(2, .int ((σ (a0 + 1) x3.toNatClampNeg) * (σ (a0 + 2) x3.toNatClampNeg))), (0, .ref (E.1 a0)), (1, .int x1), (3, .int x3)]) (pc := 45) Γ nd_Cu_leastArea_45 (by decide) rfl ?_
        refine rl_iload_n (pc := 46) Γ nd_Cu_leastArea_46 3 rfl ?_
        refine rl_istore_n (L' := [(1, .int x3), (2, .int ((σ (a0 + 1) x3.toNatClampNeg) * (σ (a0 + 2) x3.toNatClampNeg))), (0, .ref (E.1 a0)), (3, .int x3)]) (pc := 47) Γ nd_Cu_leastArea_47 (by decide) rfl ?_
        refine rl_iinc (v := x3 + 1) (L' := [(3, .int (x3 + 1)), (1, .int x3), (2, .int ((σ (a0 + 1) x3.toNatClampNeg) * (σ (a0 + 2) x3.toNatClampNeg))), (0, .ref (E.1 a0))]) (pc := 48) Γ nd_Cu_leastArea_48 3 rfl rfl (by decide) rfl ?_
        refine rl_goto (tgt := 7) (pc := 51) Γ nd_Cu_leastArea_51 (by decide) ?_
        exact rl_Gsub [3, 1, 2, 0] rfl (ih x3 ((σ (a0 + 1) x3.toNatClampNeg) * (σ (a0 + 2) x3.toNatClampNeg)) (x3 + 1) σ h)
set_option maxHeartbeats 4000000 in
set_option maxRecDepth 100000 in
theorem rw_Cu_leastArea (l : Launch) (E : rl_E) (a0 : Nat) (ha0 : rl_cvb a0 = true) (σ : rl_M) (r : Int32 × rl_M) (h : rf_Cu_leastArea a0 σ = some r) : Met l ny_Cu_leastArea nw_Cu_leastArea nr_Cu_leastArea (rl_P E [.ref (E.1 a0)] σ) (rl_Q E (rl_ri r.1) r.2) 0 0 (rl_A E) := by
  refine Met.ofW (cc := nc_Cu_leastArea) (maxL := 4) (ret := (some .int)) (by decide) rfl ?_
  intro p e s m args below meth c s₁ B hml hv
  obtain ⟨rfl, hP, hO⟩ := hv
  have Γ : CallFix p m c nc_Cu_leastArea 4 s ([.ref (E.1 a0)] : List Value).toArray rl_TT nR_Cu := ⟨B.exec, B.bytes, hml, findClass_of_methodNamed B.named, fun w hw => atoms_spec (ws := nw_Cu_leastArea) B.pre w (List.mem_cons_of_mem _ hw)⟩
  have hr := B.returns
  have hk := B.notSynchronized
  refine rl_start (R := nr_Cu_leastArea) (Q := rl_QM below _ s E rl_ri r) (nL := 4) (av := [.ref (E.1 a0)]) (σ := σ) hP (Nat.le_of_ble_eq_true rfl) ?_
  unfold rf_Cu_leastArea at h
  refine rl_iconst (v := (-1)) (pc := 0) Γ nd_Cu_leastArea_0 (by decide) ?_
  refine rl_istore_n (L' := [(1, .int ((-1))), (0, .ref (E.1 a0))]) (pc := 1) Γ nd_Cu_leastArea_1 (by decide) rfl ?_
  refine rl_ldc (v := 160001) (pc := 2) Γ nd_Cu_leastArea_2 (Γ.2.2.2.2 _ nk_Cu_45) ?_
  refine rl_istore_n (L' := [(2, .int 160001), (1, .int ((-1))), (0, .ref (E.1 a0))]) (pc := 4) Γ nd_Cu_leastArea_4 (by decide) rfl ?_
  refine rl_iconst (v := 0) (pc := 5) Γ nd_Cu_leastArea_5 (by decide) ?_
  refine rl_istore_n (L' := [(3, .int 0), (2, .int 160001), (1, .int ((-1))), (0, .ref (E.1 a0))]) (pc := 6) Γ nd_Cu_leastArea_6 (by decide) rfl ?_
  refine rl_Gsub [3, 2, 1, 0] rfl (rw_Cu_leastArea_L7 Γ hO hr hk a0 ha0   10000 ((-1)) 160001 0 σ h)
def rf_Pl_forget  (σ : rl_M) : Option (Int32 × rl_M) := some (0, rl_su (rl_su σ 3 4 0) 3 5 0)
set_option maxHeartbeats 4000000 in
set_option maxRecDepth 100000 in
theorem rw_Pl_forget (l : Launch) (E : rl_E)   (σ : rl_M) (r : Int32 × rl_M) (h : rf_Pl_forget  σ = some r) : Met l ny_Pl_forget nw_Pl_forget nr_Pl_forget (rl_P E [.ref (E.1 3)] σ) (rl_Q E (rl_rv r.1) r.2) 0 0 (rl_A E) := by
  refine Met.ofW (cc := nc_Pl_forget) (maxL := 1) (ret := none) (by decide) rfl ?_
  intro p e s m args below meth c s₁ B hml hv
  obtain ⟨rfl, hP, hO⟩ := hv
  have Γ : CallFix p m c nc_Pl_forget 1 s ([.ref (E.1 3)] : List Value).toArray rl_TT nR_Pl := ⟨B.exec, B.bytes, hml, findClass_of_methodNamed B.named, fun w hw => atoms_spec (ws := nw_Pl_forget) B.pre w (List.mem_cons_of_mem _ hw)⟩
  have hr := B.returns
  have hk := B.notSynchronized
  refine rl_start (R := nr_Pl_forget) (Q := rl_QM below _ s E rl_rv r) (nL := 1) (av := [.ref (E.1 3)]) (σ := σ) hP (Nat.le_of_ble_eq_true rfl) ?_
  unfold rf_Pl_forget at h
  refine rl_aload_n (pc := 0) Γ nd_Pl_forget_0 0 rfl ?_
  refine rl_iconst (v := 0) (pc := 1) Γ nd_Pl_forget_1 (by decide) ?_
  refine rl_put (pc := 2) Γ nd_Pl_forget_2 hO (k := 4) (rl_o3 E) rfl (by decide) (fun _ _ => rfl) ⟨ni_Pl, nf_Pl_32⟩ nt_Pl nto_Pl nn_Pl rfl (fun _ => Nat.le_of_ble_eq_true rfl) (rl_nz (by decide)) ?_
  refine rl_aload_n (pc := 5) Γ nd_Pl_forget_5 0 rfl ?_
  refine rl_iconst (v := 0) (pc := 6) Γ nd_Pl_forget_6 (by decide) ?_
  refine rl_put (pc := 7) Γ nd_Pl_forget_7 hO (k := 5) (rl_o3 E) rfl (by decide) (fun _ _ => rfl) ⟨ni_Pl, nf_Pl_36⟩ nt_Pl nto_Pl nn_Pl rfl (fun _ => Nat.le_of_ble_eq_true rfl) (rl_nz (by decide)) ?_
  exact rl_vret (pc := 10) Γ nd_Pl_forget_10 hr hk h
def rf_Pl_setLot (x1 : Int32) (x2 : Int32) (σ : rl_M) : Option (Int32 × rl_M) := ((rf_Pl_forget  (rl_su (rl_su σ 3 2 x1) 3 3 x2)).bind (fun q1 => some (0, q1.2)))
set_option maxHeartbeats 4000000 in
set_option maxRecDepth 100000 in
theorem rw_Pl_setLot (l : Launch) (E : rl_E) (x1 : Int32) (x2 : Int32)  (σ : rl_M) (r : Int32 × rl_M) (h : rf_Pl_setLot x1 x2 σ = some r) : Met l ny_Pl_setLot nw_Pl_setLot nr_Pl_setLot (rl_P E [.ref (E.1 3), .int x1, .int x2] σ) (rl_Q E (rl_rv r.1) r.2) 0 0 (rl_A E) := by
  refine Met.ofW (cc := nc_Pl_setLot) (maxL := 3) (ret := none) (by decide) rfl ?_
  intro p e s m args below meth c s₁ B hml hv
  obtain ⟨rfl, hP, hO⟩ := hv
  have Γ : CallFix p m c nc_Pl_setLot 3 s ([.ref (E.1 3), .int x1, .int x2] : List Value).toArray rl_TT nR_Pl := ⟨B.exec, B.bytes, hml, findClass_of_methodNamed B.named, fun w hw => atoms_spec (ws := nw_Pl_setLot) B.pre w (List.mem_cons_of_mem _ hw)⟩
  have hr := B.returns
  have hk := B.notSynchronized
  refine rl_start (R := nr_Pl_setLot) (Q := rl_QM below _ s E rl_rv r) (nL := 3) (av := [.ref (E.1 3), .int x1, .int x2]) (σ := σ) hP (Nat.le_of_ble_eq_true rfl) ?_
  unfold rf_Pl_setLot at h
  refine rl_aload_n (pc := 0) Γ nd_Pl_setLot_0 0 rfl ?_
  refine rl_iload_n (pc := 1) Γ nd_Pl_setLot_1 1 rfl ?_
  refine rl_put (pc := 2) Γ nd_Pl_setLot_2 hO (k := 2) (rl_o3 E) rfl (by decide) (fun _ _ => rfl) ⟨ni_Pl, nf_Pl_25⟩ nt_Pl nto_Pl nn_Pl rfl (fun _ => Nat.le_of_ble_eq_true rfl) rl_ni ?_
  refine rl_aload_n (pc := 5) Γ nd_Pl_setLot_5 0 rfl ?_
  refine rl_iload_n (pc := 6) Γ nd_Pl_setLot_6 2 rfl ?_
  refine rl_put (pc := 7) Γ nd_Pl_setLot_7 hO (k := 3) (rl_o3 E) rfl (by decide) (fun _ _ => rfl) ⟨ni_Pl, nf_Pl_29⟩ nt_Pl nto_Pl nn_Pl rfl (fun _ => Nat.le_of_ble_eq_true rfl) rl_ni ?_
  refine rl_aload_n (pc := 10) Γ nd_Pl_setLot_10 0 rfl ?_
  obtain ⟨q1, q1h, h⟩ := rl_bd h
  refine rl_callVv (As := []) (pc := 11) Γ nd_Pl_setLot_11 hO (rw_Pl_forget l E   (rl_su (rl_su σ 3 2 x1) 3 3 x2) q1 q1h) 0 nm_Pl_63 nm_im_Pl_forget nm_se_Pl_forget nm_ini_Pl nh_Pl_forget (rl_o3 E) rfl ⟨rfl, rfl⟩ (by decide +kernel) (Nat.le_of_ble_eq_true rfl) (Nat.le_of_ble_eq_true rfl) ⟨Nat.zero_le _, Nat.zero_le _⟩ (Nat.le_of_ble_eq_true rfl) rfl rfl ?_
  exact rl_vret (pc := 14) Γ nd_Pl_setLot_14 hr hk h
def rf_Pl_hasBest  (σ : rl_M) : Option (Int32 × rl_M) := (if (σ 3 8) = ((-1)) then some (0, σ) else some (1, σ))
set_option maxHeartbeats 4000000 in
set_option maxRecDepth 100000 in
theorem rw_Pl_hasBest (l : Launch) (E : rl_E)   (σ : rl_M) (r : Int32 × rl_M) (h : rf_Pl_hasBest  σ = some r) : Met l ny_Pl_hasBest nw_Pl_hasBest nr_Pl_hasBest (rl_P E [.ref (E.1 3)] σ) (rl_Q E (rl_ri r.1) r.2) 0 0 (rl_A E) := by
  refine Met.ofW (cc := nc_Pl_hasBest) (maxL := 1) (ret := (some .boolean)) (by decide) rfl ?_
  intro p e s m args below meth c s₁ B hml hv
  obtain ⟨rfl, hP, hO⟩ := hv
  have Γ : CallFix p m c nc_Pl_hasBest 1 s ([.ref (E.1 3)] : List Value).toArray rl_TT nR_Pl := ⟨B.exec, B.bytes, hml, findClass_of_methodNamed B.named, fun w hw => atoms_spec (ws := nw_Pl_hasBest) B.pre w (List.mem_cons_of_mem _ hw)⟩
  have hr := B.returns
  have hk := B.notSynchronized
  refine rl_start (R := nr_Pl_hasBest) (Q := rl_QM below _ s E rl_ri r) (nL := 1) (av := [.ref (E.1 3)]) (σ := σ) hP (Nat.le_of_ble_eq_true rfl) ?_
  unfold rf_Pl_hasBest at h
  refine rl_aload_n (pc := 0) Γ nd_Pl_hasBest_0 0 rfl ?_
  refine rl_get (pc := 1) Γ nd_Pl_hasBest_1 hO (k := 8) (rl_o3 E) rfl (by decide) rfl ⟨ni_Pl, nf_Pl_50⟩ ?_
  refine rl_iconst (v := (-1)) (pc := 4) Γ nd_Pl_hasBest_4 (by decide) ?_
  refine rl_icmp_eq (tgt := 12) (pc := 5) Γ nd_Pl_hasBest_5 (by decide) (fun q1 => ?_) (fun q1 => ?_)
  · have h := rl_ift q1 h
    refine rl_iconst (v := 0) (pc := 12) Γ nd_Pl_hasBest_12 (by decide) ?_
    exact rl_zret (pc := 13) Γ nd_Pl_hasBest_13 hr hk (by decide) h
  · have h := rl_iff q1 h
    refine rl_iconst (v := 1) (pc := 8) Γ nd_Pl_hasBest_8 (by decide) ?_
    refine rl_goto (tgt := 13) (pc := 9) Γ nd_Pl_hasBest_9 (by decide) ?_
    exact rl_zret (pc := 13) Γ nd_Pl_hasBest_13 hr hk (by decide) h
def rf_Pl_bestWidth  (σ : rl_M) : Option (Int32 × rl_M) := ((rf_Cu_widthAt 56 (σ 3 8) σ).bind (fun q1 => some (q1.1, q1.2)))
set_option maxHeartbeats 4000000 in
set_option maxRecDepth 100000 in
theorem rw_Pl_bestWidth (l : Launch) (E : rl_E)   (σ : rl_M) (r : Int32 × rl_M) (h : rf_Pl_bestWidth  σ = some r) : Met l ny_Pl_bestWidth nw_Pl_bestWidth nr_Pl_bestWidth (rl_P E [.ref (E.1 3)] σ) (rl_Q E (rl_ri r.1) r.2) 0 0 (rl_A E) := by
  refine Met.ofW (cc := nc_Pl_bestWidth) (maxL := 1) (ret := (some .int)) (by decide) rfl ?_
  intro p e s m args below meth c s₁ B hml hv
  obtain ⟨rfl, hP, hO⟩ := hv
  have Γ : CallFix p m c nc_Pl_bestWidth 1 s ([.ref (E.1 3)] : List Value).toArray rl_TT nR_Pl := ⟨B.exec, B.bytes, hml, findClass_of_methodNamed B.named, fun w hw => atoms_spec (ws := nw_Pl_bestWidth) B.pre w (List.mem_cons_of_mem _ hw)⟩
  have hr := B.returns
  have hk := B.notSynchronized
  refine rl_start (R := nr_Pl_bestWidth) (Q := rl_QM below _ s E rl_ri r) (nL := 1) (av := [.ref (E.1 3)]) (σ := σ) hP (Nat.le_of_ble_eq_true rfl) ?_
  unfold rf_Pl_bestWidth at h
  refine rl_aload_n (pc := 0) Γ nd_Pl_bestWidth_0 0 rfl ?_
  refine rl_get (pc := 1) Γ nd_Pl_bestWidth_1 hO (k := 7) (rl_o3 E) rfl (by decide) rfl ⟨ni_Pl, nf_Pl_46⟩ ?_
  refine rl_aload_n (pc := 4) Γ nd_Pl_bestWidth_4 0 rfl ?_
  refine rl_get (pc := 5) Γ nd_Pl_bestWidth_5 hO (k := 8) (rl_o3 E) rfl (by decide) rfl ⟨ni_Pl, nf_Pl_50⟩ ?_
  obtain ⟨q1, q1h, h⟩ := rl_bd h
  refine rl_callVi (As := [.int (σ 3 8)]) (pc := 8) Γ nd_Pl_bestWidth_8 hO (rw_Cu_widthAt l E 56 (σ 3 8) rl_cv56 σ q1 q1h) 1 nm_Pl_66 nm_im_Cu_widthAt nm_se_Cu_widthAt nm_ini_Cu nh_Cu_widthAt (rl_oC rl_cv56) rfl ⟨rfl, rfl⟩ (by decide +kernel) (Nat.le_of_ble_eq_true rfl) (Nat.le_of_ble_eq_true rfl) ⟨Nat.zero_le _, Nat.zero_le _⟩ (Nat.le_of_ble_eq_true rfl) rfl rfl ?_
  exact rl_iret (pc := 11) Γ nd_Pl_bestWidth_11 hr hk h
def rf_Pl_bestHeight  (σ : rl_M) : Option (Int32 × rl_M) := ((rf_Cu_heightAt 56 (σ 3 8) σ).bind (fun q1 => some (q1.1, q1.2)))
set_option maxHeartbeats 4000000 in
set_option maxRecDepth 100000 in
theorem rw_Pl_bestHeight (l : Launch) (E : rl_E)   (σ : rl_M) (r : Int32 × rl_M) (h : rf_Pl_bestHeight  σ = some r) : Met l ny_Pl_bestHeight nw_Pl_bestHeight nr_Pl_bestHeight (rl_P E [.ref (E.1 3)] σ) (rl_Q E (rl_ri r.1) r.2) 0 0 (rl_A E) := by
  refine Met.ofW (cc := nc_Pl_bestHeight) (maxL := 1) (ret := (some .int)) (by decide) rfl ?_
  intro p e s m args below meth c s₁ B hml hv
  obtain ⟨rfl, hP, hO⟩ := hv
  have Γ : CallFix p m c nc_Pl_bestHeight 1 s ([.ref (E.1 3)] : List Value).toArray rl_TT nR_Pl := ⟨B.exec, B.bytes, hml, findClass_of_methodNamed B.named, fun w hw => atoms_spec (ws := nw_Pl_bestHeight) B.pre w (List.mem_cons_of_mem _ hw)⟩
  have hr := B.returns
  have hk := B.notSynchronized
  refine rl_start (R := nr_Pl_bestHeight) (Q := rl_QM below _ s E rl_ri r) (nL := 1) (av := [.ref (E.1 3)]) (σ := σ) hP (Nat.le_of_ble_eq_true rfl) ?_
  unfold rf_Pl_bestHeight at h
  refine rl_aload_n (pc := 0) Γ nd_Pl_bestHeight_0 0 rfl ?_
  refine rl_get (pc := 1) Γ nd_Pl_bestHeight_1 hO (k := 7) (rl_o3 E) rfl (by decide) rfl ⟨ni_Pl, nf_Pl_46⟩ ?_
  refine rl_aload_n (pc := 4) Γ nd_Pl_bestHeight_4 0 rfl ?_
  refine rl_get (pc := 5) Γ nd_Pl_bestHeight_5 hO (k := 8) (rl_o3 E) rfl (by decide) rfl ⟨ni_Pl, nf_Pl_50⟩ ?_
  obtain ⟨q1, q1h, h⟩ := rl_bd h
  refine rl_callVi (As := [.int (σ 3 8)]) (pc := 8) Γ nd_Pl_bestHeight_8 hO (rw_Cu_heightAt l E 56 (σ 3 8) rl_cv56 σ q1 q1h) 1 nm_Pl_70 nm_im_Cu_heightAt nm_se_Cu_heightAt nm_ini_Cu nh_Cu_heightAt (rl_oC rl_cv56) rfl ⟨rfl, rfl⟩ (by decide +kernel) (Nat.le_of_ble_eq_true rfl) (Nat.le_of_ble_eq_true rfl) ⟨Nat.zero_le _, Nat.zero_le _⟩ (Nat.le_of_ble_eq_true rfl) rfl rfl ?_
  exact rl_iret (pc := 11) Γ nd_Pl_bestHeight_11 hr hk h
def rf_Pl_bestArea  (σ : rl_M) : Option (Int32 × rl_M) := ((rf_Pl_hasBest  σ).bind (fun q1 => (if q1.1 = 0 then some (160001, q1.2) else ((rf_Pl_bestWidth  q1.2).bind (fun q3 => ((rf_Pl_bestHeight  q3.2).bind (fun q4 => some (q3.1 * q4.1, q4.2))))))))
set_option maxHeartbeats 4000000 in
set_option maxRecDepth 100000 in
theorem rw_Pl_bestArea (l : Launch) (E : rl_E)   (σ : rl_M) (r : Int32 × rl_M) (h : rf_Pl_bestArea  σ = some r) : Met l ny_Pl_bestArea nw_Pl_bestArea nr_Pl_bestArea (rl_P E [.ref (E.1 3)] σ) (rl_Q E (rl_ri r.1) r.2) 0 0 (rl_A E) := by
  refine Met.ofW (cc := nc_Pl_bestArea) (maxL := 1) (ret := (some .int)) (by decide) rfl ?_
  intro p e s m args below meth c s₁ B hml hv
  obtain ⟨rfl, hP, hO⟩ := hv
  have Γ : CallFix p m c nc_Pl_bestArea 1 s ([.ref (E.1 3)] : List Value).toArray rl_TT nR_Pl := ⟨B.exec, B.bytes, hml, findClass_of_methodNamed B.named, fun w hw => atoms_spec (ws := nw_Pl_bestArea) B.pre w (List.mem_cons_of_mem _ hw)⟩
  have hr := B.returns
  have hk := B.notSynchronized
  refine rl_start (R := nr_Pl_bestArea) (Q := rl_QM below _ s E rl_ri r) (nL := 1) (av := [.ref (E.1 3)]) (σ := σ) hP (Nat.le_of_ble_eq_true rfl) ?_
  unfold rf_Pl_bestArea at h
  refine rl_aload_n (pc := 0) Γ nd_Pl_bestArea_0 0 rfl ?_
  obtain ⟨q1, q1h, h⟩ := rl_bd h
  refine rl_callVi (As := []) (pc := 1) Γ nd_Pl_bestArea_1 hO (rw_Pl_hasBest l E   σ q1 q1h) 0 nm_Pl_73 nm_im_Pl_hasBest nm_se_Pl_hasBest nm_ini_Pl nh_Pl_hasBest (rl_o3 E) rfl ⟨rfl, rfl⟩ (by decide +kernel) (Nat.le_of_ble_eq_true rfl) (Nat.le_of_ble_eq_true rfl) ⟨Nat.zero_le _, Nat.zero_le _⟩ (Nat.le_of_ble_eq_true rfl) rfl rfl ?_
  refine rl_if_eq (tgt := 19) (pc := 4) Γ nd_Pl_bestArea_4 (by decide) (fun q2 => ?_) (fun q2 => ?_)
  · have h := rl_ift q2 h
    refine rl_ldc (v := 160001) (pc := 19) Γ nd_Pl_bestArea_19 (Γ.2.2.2.2 _ nk_Pl_84) ?_
    exact rl_iret (pc := 21) Γ nd_Pl_bestArea_21 hr hk h
  · have h := rl_iff q2 h
    refine rl_aload_n (pc := 7) Γ nd_Pl_bestArea_7 0 rfl ?_
    obtain ⟨q3, q3h, h⟩ := rl_bd h
    refine rl_callVi (As := []) (pc := 8) Γ nd_Pl_bestArea_8 hO (rw_Pl_bestWidth l E   q1.2 q3 q3h) 0 nm_Pl_77 nm_im_Pl_bestWidth nm_se_Pl_bestWidth nm_ini_Pl nh_Pl_bestWidth (rl_o3 E) rfl ⟨rfl, rfl⟩ (by decide +kernel) (Nat.le_of_ble_eq_true rfl) (Nat.le_of_ble_eq_true rfl) ⟨Nat.zero_le _, Nat.zero_le _⟩ (Nat.le_of_ble_eq_true rfl) rfl rfl ?_
    refine rl_aload_n (pc := 11) Γ nd_Pl_bestArea_11 0 rfl ?_
    obtain ⟨q4, q4h, h⟩ := rl_bd h
    refine rl_callVi (As := []) (pc := 12) Γ nd_Pl_bestArea_12 hO (rw_Pl_bestHeight l E   q3.2 q4 q4h) 0 nm_Pl_81 nm_im_Pl_bestHeight nm_se_Pl_bestHeight nm_ini_Pl nh_Pl_bestHeight (rl_o3 E) rfl ⟨rfl, rfl⟩ (by decide +kernel) (Nat.le_of_ble_eq_true rfl) (Nat.le_of_ble_eq_true rfl) ⟨Nat.zero_le _, Nat.zero_le _⟩ (Nat.le_of_ble_eq_true rfl) rfl rfl ?_
    refine rl_imul (pc := 15) Γ nd_Pl_bestArea_15 ?_
    refine rl_goto (tgt := 21) (pc := 16) Γ nd_Pl_bestArea_16 (by decide) ?_
    exact rl_iret (pc := 21) Γ nd_Pl_bestArea_21 hr hk h
def rf_St_nodeOf (x1 : Int32) (σ : rl_M) : Option (Int32 × rl_M) := (if x1 < 0 then some ((-1), σ) else (if 6 ≤ x1 then some ((-1), σ) else (if rl_ib x1 6 = true then some (σ 14 x1.toNatClampNeg, σ) else none)))
set_option maxHeartbeats 4000000 in
set_option maxRecDepth 100000 in
theorem rw_St_nodeOf (l : Launch) (E : rl_E) (x1 : Int32)  (σ : rl_M) (r : Int32 × rl_M) (h : rf_St_nodeOf x1 σ = some r) : Met l ny_St_nodeOf nw_St_nodeOf nr_St_nodeOf (rl_P E [.ref (E.1 8), .int x1] σ) (rl_Q E (rl_ri r.1) r.2) 0 0 (rl_A E) := by
  refine Met.ofW (cc := nc_St_nodeOf) (maxL := 2) (ret := (some .int)) (by decide) rfl ?_
  intro p e s m args below meth c s₁ B hml hv
  obtain ⟨rfl, hP, hO⟩ := hv
  have Γ : CallFix p m c nc_St_nodeOf 2 s ([.ref (E.1 8), .int x1] : List Value).toArray rl_TT nR_St := ⟨B.exec, B.bytes, hml, findClass_of_methodNamed B.named, fun w hw => atoms_spec (ws := nw_St_nodeOf) B.pre w (List.mem_cons_of_mem _ hw)⟩
  have hr := B.returns
  have hk := B.notSynchronized
  refine rl_start (R := nr_St_nodeOf) (Q := rl_QM below _ s E rl_ri r) (nL := 2) (av := [.ref (E.1 8), .int x1]) (σ := σ) hP (Nat.le_of_ble_eq_true rfl) ?_
  unfold rf_St_nodeOf at h
  refine rl_iload_n (pc := 0) Γ nd_St_nodeOf_0 1 rfl ?_
  refine rl_if_lt (tgt := 19) (pc := 1) Γ nd_St_nodeOf_1 (by decide) (fun q1 => ?_) (fun q1 => ?_)
  · have h := rl_ift q1 h
    refine rl_iconst (v := (-1)) (pc := 19) Γ nd_St_nodeOf_19 (by decide) ?_
    exact rl_iret (pc := 20) Γ nd_St_nodeOf_20 hr hk h
  · have h := rl_iff q1 h
    refine rl_iload_n (pc := 4) Γ nd_St_nodeOf_4 1 rfl ?_
    refine rl_bipush (v := 6) (pc := 5) Γ nd_St_nodeOf_5 (by decide) ?_
    refine rl_icmp_ge (tgt := 19) (pc := 7) Γ nd_St_nodeOf_7 (by decide) (fun q2 => ?_) (fun q2 => ?_)
    · have h := rl_ift q2 h
      refine rl_iconst (v := (-1)) (pc := 19) Γ nd_St_nodeOf_19 (by decide) ?_
      exact rl_iret (pc := 20) Γ nd_St_nodeOf_20 hr hk h
    · have h := rl_iff q2 h
      refine rl_aload_n (pc := 10) Γ nd_St_nodeOf_10 0 rfl ?_
      refine rl_get (pc := 11) Γ nd_St_nodeOf_11 hO (k := 6) (rl_o8 E) rfl (by decide) rfl ⟨ni_St, nf_St_31⟩ ?_
      refine rl_iload_n (pc := 14) Γ nd_St_nodeOf_14 1 rfl ?_
      obtain ⟨q3, h⟩ := rl_if h
      refine rl_ild (pc := 15) Γ nd_St_nodeOf_15 hO (rl_a14 E) (rl_ib_in q3) ?_
      refine rl_goto (tgt := 20) (pc := 16) Γ nd_St_nodeOf_16 (by decide) ?_
      exact rl_iret (pc := 20) Γ nd_St_nodeOf_20 hr hk h
def rf_Pl_nodeOfPlaced (x1 : Int32) (σ : rl_M) : Option (Int32 × rl_M) := ((rf_Pl_hasBest  σ).bind (fun q1 => (if q1.1 = 0 then some ((-1), q1.2) else ((rf_St_nodeOf x1 q1.2).bind (fun q3 => some (q3.1, q3.2))))))
set_option maxHeartbeats 4000000 in
set_option maxRecDepth 100000 in
theorem rw_Pl_nodeOfPlaced (l : Launch) (E : rl_E) (x1 : Int32)  (σ : rl_M) (r : Int32 × rl_M) (h : rf_Pl_nodeOfPlaced x1 σ = some r) : Met l ny_Pl_nodeOfPlaced nw_Pl_nodeOfPlaced nr_Pl_nodeOfPlaced (rl_P E [.ref (E.1 3), .int x1] σ) (rl_Q E (rl_ri r.1) r.2) 0 0 (rl_A E) := by
  refine Met.ofW (cc := nc_Pl_nodeOfPlaced) (maxL := 2) (ret := (some .int)) (by decide) rfl ?_
  intro p e s m args below meth c s₁ B hml hv
  obtain ⟨rfl, hP, hO⟩ := hv
  have Γ : CallFix p m c nc_Pl_nodeOfPlaced 2 s ([.ref (E.1 3), .int x1] : List Value).toArray rl_TT nR_Pl := ⟨B.exec, B.bytes, hml, findClass_of_methodNamed B.named, fun w hw => atoms_spec (ws := nw_Pl_nodeOfPlaced) B.pre w (List.mem_cons_of_mem _ hw)⟩
  have hr := B.returns
  have hk := B.notSynchronized
  refine rl_start (R := nr_Pl_nodeOfPlaced) (Q := rl_QM below _ s E rl_ri r) (nL := 2) (av := [.ref (E.1 3), .int x1]) (σ := σ) hP (Nat.le_of_ble_eq_true rfl) ?_
  unfold rf_Pl_nodeOfPlaced at h
  refine rl_aload_n (pc := 0) Γ nd_Pl_nodeOfPlaced_0 0 rfl ?_
  obtain ⟨q1, q1h, h⟩ := rl_bd h
  refine rl_callVi (As := []) (pc := 1) Γ nd_Pl_nodeOfPlaced_1 hO (rw_Pl_hasBest l E   σ q1 q1h) 0 nm_Pl_73 nm_im_Pl_hasBest nm_se_Pl_hasBest nm_ini_Pl nh_Pl_hasBest (rl_o3 E) rfl ⟨rfl, rfl⟩ (by decide +kernel) (Nat.le_of_ble_eq_true rfl) (Nat.le_of_ble_eq_true rfl) ⟨Nat.zero_le _, Nat.zero_le _⟩ (Nat.le_of_ble_eq_true rfl) rfl rfl ?_
  refine rl_if_eq (tgt := 18) (pc := 4) Γ nd_Pl_nodeOfPlaced_4 (by decide) (fun q2 => ?_) (fun q2 => ?_)
  · have h := rl_ift q2 h
    refine rl_iconst (v := (-1)) (pc := 18) Γ nd_Pl_nodeOfPlaced_18 (by decide) ?_
    exact rl_iret (pc := 19) Γ nd_Pl_nodeOfPlaced_19 hr hk h
  · have h := rl_iff q2 h
    refine rl_aload_n (pc := 7) Γ nd_Pl_nodeOfPlaced_7 0 rfl ?_
    refine rl_get (pc := 8) Γ nd_Pl_nodeOfPlaced_8 hO (k := 1) (rl_o3 E) rfl (by decide) rfl ⟨ni_Pl, nf_Pl_21⟩ ?_
    refine rl_iload_n (pc := 11) Γ nd_Pl_nodeOfPlaced_11 1 rfl ?_
    obtain ⟨q3, q3h, h⟩ := rl_bd h
    refine rl_callVi (As := [.int x1]) (pc := 12) Γ nd_Pl_nodeOfPlaced_12 hO (rw_St_nodeOf l E x1  q1.2 q3 q3h) 1 nm_Pl_85 nm_im_St_nodeOf nm_se_St_nodeOf nm_ini_St nh_St_nodeOf (rl_o8 E) rfl ⟨rfl, rfl⟩ (by decide +kernel) (Nat.le_of_ble_eq_true rfl) (Nat.le_of_ble_eq_true rfl) ⟨Nat.zero_le _, Nat.zero_le _⟩ (Nat.le_of_ble_eq_true rfl) rfl rfl ?_
    refine rl_goto (tgt := 19) (pc := 15) Γ nd_Pl_nodeOfPlaced_15 (by decide) ?_
    exact rl_iret (pc := 19) Γ nd_Pl_nodeOfPlaced_19 hr hk h
