def rf_Mo_place_J23 (x1 : Int32) (x2 : Int32) (s0 : Int32)  (σ : rl_M) : Option (Int32 × rl_M) := (if ((rl_su σ 59 0 s0) 59 0) ≤ 0 then ((rf_Mo_findBest  (rl_su σ 59 0 s0)).bind (fun q4 => ((rf_Mo_placeOf x1 q4.2).bind (fun q5 => (if (q5.2 59 15) = 0 then some ((-1), q5.2) else (if 0 ≤ q5.1 then (if x2 = 0 then (if rl_ib x1 6 = true then some (q5.2 68 x1.toNatClampNeg, q5.2) else none) else (if x2 = 1 then (if rl_ib q5.1 16 = true then some (q5.2 71 q5.1.toNatClampNeg, q5.2) else none) else (if x2 = 2 then (if rl_ib q5.1 16 = true then some (q5.2 72 q5.1.toNatClampNeg, q5.2) else none) else (if x2 = 3 then (if rl_ib q5.1 16 = true then some (q5.2 69 q5.1.toNatClampNeg, q5.2) else none) else (if rl_ib q5.1 16 = true then some (q5.2 70 q5.1.toNatClampNeg, q5.2) else none))))) else some ((-1), q5.2))))))) else some (0, rl_su σ 59 0 s0))
def rf_Mo_place_J22 (x1 : Int32) (x2 : Int32)  (σ : rl_M) : Option (Int32 × rl_M) := rf_Mo_place_J23 x1 x2 1  σ
def rf_Mo_place (x1 : Int32) (x2 : Int32) (σ : rl_M) : Option (Int32 × rl_M) := ((rf_Mo_isRoom x1 σ).bind (fun q1 => (if q1.1 = 0 then rf_Mo_place_J22 x1 x2  q1.2 else ((rf_Mo_isIn x2 0 4 q1.2).bind (fun q18 => (if q18.1 = 0 then rf_Mo_place_J22 x1 x2  q18.2 else rf_Mo_place_J23 x1 x2 0  q18.2))))))
set_option maxHeartbeats 4000000 in
set_option maxRecDepth 100000 in
theorem rw_Mo_place_J23 {p : Program} {l : Launch} {e : Env} {s : State} {m : MethodId} {args : Array Value} {below : List Frame} {meth : Method} {c : Code} {E : rl_E} (Γ : CallFix p m c nc_Mo_place 4 s args rl_TT nR_Mo) (hO : rl_Ok E s) (hr : meth.sig.returnType = (some .int)) (hk : meth.locks = false)  (x1 : Int32) (x2 : Int32) (s0 : Int32)   {r : Int32 × rl_M}  (σ : rl_M) (h : rf_Mo_place_J23 x1 x2 s0  σ = some r) : rl_G p l e nr_Mo_place s m args below meth c 4 E 0 0 (rl_QM below args s E rl_ri r) σ 23 [(0, .ref (E.1 59)), (1, .int x1), (2, .int x2)] [.int s0, .ref (E.1 59)] := by
  unfold rf_Mo_place_J23 at h
  refine rl_put (pc := 23) Γ nd_Mo_place_23 hO (k := 0) (rl_o59 E) rfl (by decide) (fun _ _ => rfl) ⟨ni_Mo, nf_Mo_71⟩ nt_Mo nto_Mo nn_Mo rfl (fun _ => Nat.le_of_ble_eq_true rfl) rl_ni ?_
  refine rl_aload_n (pc := 26) Γ nd_Mo_place_26 0 rfl ?_
  refine rl_get (pc := 27) Γ nd_Mo_place_27 hO (k := 0) (rl_o59 E) rfl (by decide) rfl ⟨ni_Mo, nf_Mo_71⟩ ?_
  refine rl_if_le (tgt := 35) (pc := 30) Γ nd_Mo_place_30 (by decide) (fun q3 => ?_) (fun q3 => ?_)
  · have h := rl_ift q3 h
    refine rl_aload_n (pc := 35) Γ nd_Mo_place_35 0 rfl ?_
    obtain ⟨q4, q4h, h⟩ := rl_bd h
    refine rl_callVv (As := []) (pc := 36) Γ nd_Mo_place_36 hO (rw_Mo_findBest l E   (rl_su σ 59 0 s0) q4 q4h) 0 nm_Mo_124 nm_im_Mo_findBest nm_se_Mo_findBest nm_ini_Mo nh_Mo_findBest (rl_o59 E) rfl ⟨rfl, rfl⟩ (by decide +kernel) (Nat.le_of_ble_eq_true rfl) (Nat.le_of_ble_eq_true rfl) ⟨Nat.zero_le _, Nat.zero_le _⟩ (Nat.le_of_ble_eq_true rfl) rfl rfl ?_
    refine rl_aload_n (pc := 39) Γ nd_Mo_place_39 0 rfl ?_
    refine rl_iload_n (pc := 40) Γ nd_Mo_place_40 1 rfl ?_
    obtain ⟨q5, q5h, h⟩ := rl_bd h
    refine rl_callVi (As := [.int x1]) (pc := 41) Γ nd_Mo_place_41 hO (rw_Mo_placeOf l E x1  q4.2 q5 q5h) 1 nm_Mo_94 nm_im_Mo_placeOf nm_se_Mo_placeOf nm_ini_Mo nh_Mo_placeOf (rl_o59 E) rfl ⟨rfl, rfl⟩ (by decide +kernel) (Nat.le_of_ble_eq_true rfl) (Nat.le_of_ble_eq_true rfl) ⟨Nat.zero_le _, Nat.zero_le _⟩ (Nat.le_of_ble_eq_true rfl) rfl rfl ?_
    refine rl_istore_n (L' := [(3, .int q5.1), (0, .ref (E.1 59)), (1, .int x1), (2, .int x2)]) (pc := 44) Γ nd_Mo_place_44 (by decide) rfl ?_
    refine rl_aload_n (pc := 45) Γ nd_Mo_place_45 1 rfl ?_
    refine rl_get (pc := 46) Γ nd_Mo_place_46 hO (k := 15) (rl_o59 E) rfl (by decide) rfl ⟨ni_Mo, nf_Mo_98⟩ ?_
    refine rl_if_eq (tgt := 56) (pc := 49) Γ nd_Mo_place_49 (by decide) (fun q6 => ?_) (fun q6 => ?_)
    · have h := rl_ift q6 h
      refine rl_iconst (v := (-1)) (pc := 56) Γ nd_Mo_place_56 (by decide) ?_
      exact rl_iret (pc := 57) Γ nd_Mo_place_57 hr hk h
    · have h := rl_iff q6 h
      refine rl_iload_n (pc := 52) Γ nd_Mo_place_52 0 rfl ?_
      refine rl_if_ge (tgt := 58) (pc := 53) Γ nd_Mo_place_53 (by decide) (fun q7 => ?_) (fun q7 => ?_)
      · have h := rl_ift q7 h
        refine rl_iload_n (pc := 58) Γ nd_Mo_place_58 3 rfl ?_
        by_cases q9 : x2 = 0
        · have h := rl_ift q9 h
          refine rl_swIn (tgt := 88) (off := 29) (k := 0) (pc := 59) Γ nd_Mo_place_59 q9 (by decide) (by decide) (by decide) (by decide) ?_
          refine rl_aload_n (pc := 88) Γ nd_Mo_place_88 1 rfl ?_
          refine rl_get (pc := 89) Γ nd_Mo_place_89 hO (k := 14) (rl_o59 E) rfl (by decide) rfl ⟨ni_Mo, nf_Mo_41⟩ ?_
          refine rl_iload_n (pc := 92) Γ nd_Mo_place_92 2 rfl ?_
          obtain ⟨q10, h⟩ := rl_if h
          refine rl_ild (pc := 93) Γ nd_Mo_place_93 hO (rl_a68 E) (rl_ib_in q10) ?_
          exact rl_iret (pc := 94) Γ nd_Mo_place_94 hr hk h
        · have h := rl_iff q9 h
          by_cases q11 : x2 = 1
          · have h := rl_ift q11 h
            refine rl_swIn (tgt := 95) (off := 36) (k := 1) (pc := 59) Γ nd_Mo_place_59 q11 (by decide) (by decide) (by decide) (by decide) ?_
            refine rl_aload_n (pc := 95) Γ nd_Mo_place_95 1 rfl ?_
            refine rl_get (pc := 96) Γ nd_Mo_place_96 hO (k := 20) (rl_o59 E) rfl (by decide) rfl ⟨ni_Mo, nf_Mo_50⟩ ?_
            refine rl_iload_n (pc := 99) Γ nd_Mo_place_99 0 rfl ?_
            obtain ⟨q12, h⟩ := rl_if h
            refine rl_ild (pc := 100) Γ nd_Mo_place_100 hO (rl_a71 E) (rl_ib_in q12) ?_
            exact rl_iret (pc := 101) Γ nd_Mo_place_101 hr hk h
          · have h := rl_iff q11 h
            by_cases q13 : x2 = 2
            · have h := rl_ift q13 h
              refine rl_swIn (tgt := 102) (off := 43) (k := 2) (pc := 59) Γ nd_Mo_place_59 q13 (by decide) (by decide) (by decide) (by decide) ?_
              refine rl_aload_n (pc := 102) Γ nd_Mo_place_102 1 rfl ?_
              refine rl_get (pc := 103) Γ nd_Mo_place_103 hO (k := 21) (rl_o59 E) rfl (by decide) rfl ⟨ni_Mo, nf_Mo_53⟩ ?_
              refine rl_iload_n (pc := 106) Γ nd_Mo_place_106 0 rfl ?_
              obtain ⟨q14, h⟩ := rl_if h
              refine rl_ild (pc := 107) Γ nd_Mo_place_107 hO (rl_a72 E) (rl_ib_in q14) ?_
              exact rl_iret (pc := 108) Γ nd_Mo_place_108 hr hk h
            · have h := rl_iff q13 h
              by_cases q15 : x2 = 3
              · have h := rl_ift q15 h
                refine rl_swIn (tgt := 109) (off := 50) (k := 3) (pc := 59) Γ nd_Mo_place_59 q15 (by decide) (by decide) (by decide) (by decide) ?_
                refine rl_aload_n (pc := 109) Γ nd_Mo_place_109 1 rfl ?_
                refine rl_get (pc := 110) Γ nd_Mo_place_110 hO (k := 18) (rl_o59 E) rfl (by decide) rfl ⟨ni_Mo, nf_Mo_44⟩ ?_
                refine rl_iload_n (pc := 113) Γ nd_Mo_place_113 0 rfl ?_
                obtain ⟨q16, h⟩ := rl_if h
                refine rl_ild (pc := 114) Γ nd_Mo_place_114 hO (rl_a69 E) (rl_ib_in q16) ?_
                exact rl_iret (pc := 115) Γ nd_Mo_place_115 hr hk h
              · have h := rl_iff q15 h
                refine rl_swOut (tgt := 116) (pc := 59) Γ nd_Mo_place_59 (rl_out4 q9 q11 q13 q15) (by decide) ?_
                refine rl_aload_n (pc := 116) Γ nd_Mo_place_116 1 rfl ?_
                refine rl_get (pc := 117) Γ nd_Mo_place_117 hO (k := 19) (rl_o59 E) rfl (by decide) rfl ⟨ni_Mo, nf_Mo_47⟩ ?_
                refine rl_iload_n (pc := 120) Γ nd_Mo_place_120 0 rfl ?_
                obtain ⟨q17, h⟩ := rl_if h
                refine rl_ild (pc := 121) Γ nd_Mo_place_121 hO (rl_a70 E) (rl_ib_in q17) ?_
                exact rl_iret (pc := 122) Γ nd_Mo_place_122 hr hk h
      · have h := rl_iff q7 h
        refine rl_iconst (v := (-1)) (pc := 56) Γ nd_Mo_place_56 (by decide) ?_
        exact rl_iret (pc := 57) Γ nd_Mo_place_57 hr hk h
  · have h := rl_iff q3 h
    refine rl_iconst (v := 0) (pc := 33) Γ nd_Mo_place_33 (by decide) ?_
    exact rl_iret (pc := 34) Γ nd_Mo_place_34 hr hk h
set_option maxHeartbeats 4000000 in
set_option maxRecDepth 100000 in
theorem rw_Mo_place_J22 {p : Program} {l : Launch} {e : Env} {s : State} {m : MethodId} {args : Array Value} {below : List Frame} {meth : Method} {c : Code} {E : rl_E} (Γ : CallFix p m c nc_Mo_place 4 s args rl_TT nR_Mo) (hO : rl_Ok E s) (hr : meth.sig.returnType = (some .int)) (hk : meth.locks = false)  (x1 : Int32) (x2 : Int32)   {r : Int32 × rl_M}  (σ : rl_M) (h : rf_Mo_place_J22 x1 x2  σ = some r) : rl_G p l e nr_Mo_place s m args below meth c 4 E 0 0 (rl_QM below args s E rl_ri r) σ 22 [(0, .ref (E.1 59)), (1, .int x1), (2, .int x2)] [.ref (E.1 59)] := by
  unfold rf_Mo_place_J22 at h
  refine rl_iconst (v := 1) (pc := 22) Γ nd_Mo_place_22 (by decide) ?_
  exact rl_Gsub [0, 1, 2] rfl (rw_Mo_place_J23 Γ hO hr hk x1 x2 1   σ h)
set_option maxHeartbeats 4000000 in
set_option maxRecDepth 100000 in
theorem rw_Mo_place (l : Launch) (E : rl_E) (x1 : Int32) (x2 : Int32)  (σ : rl_M) (r : Int32 × rl_M) (h : rf_Mo_place x1 x2 σ = some r) : Met l ny_Mo_place nw_Mo_place nr_Mo_place (rl_P E [.ref (E.1 59), .int x1, .int x2] σ) (rl_Q E (rl_ri r.1) r.2) 0 0 (rl_A E) := by
  refine Met.ofW (cc := nc_Mo_place) (maxL := 4) (ret := (some .int)) (by decide) rfl ?_
  intro p e s m args below meth c s₁ B hml hv
  obtain ⟨rfl, hP, hO⟩ := hv
  have Γ : CallFix p m c nc_Mo_place 4 s ([.ref (E.1 59), .int x1, .int x2] : List Value).toArray rl_TT nR_Mo := ⟨B.exec, B.bytes, hml, findClass_of_methodNamed B.named, fun w hw => atoms_spec (ws := nw_Mo_place) B.pre w (List.mem_cons_of_mem _ hw)⟩
  have hr := B.returns
  have hk := B.notSynchronized
  refine rl_start (R := nr_Mo_place) (Q := rl_QM below _ s E rl_ri r) (nL := 4) (av := [.ref (E.1 59), .int x1, .int x2]) (σ := σ) hP (Nat.le_of_ble_eq_true rfl) ?_
  unfold rf_Mo_place at h
  refine rl_aload_n (pc := 0) Γ nd_Mo_place_0 0 rfl ?_
  refine rl_aload_n (pc := 1) Γ nd_Mo_place_1 0 rfl ?_
  refine rl_iload_n (pc := 2) Γ nd_Mo_place_2 1 rfl ?_
  obtain ⟨q1, q1h, h⟩ := rl_bd h
  refine rl_callVi (As := [.int x1]) (pc := 3) Γ nd_Mo_place_3 hO (rw_Mo_isRoom l E x1  σ q1 q1h) 1 nm_Mo_77 nm_im_Mo_isRoom nm_se_Mo_isRoom nm_ini_Mo nh_Mo_isRoom (rl_o59 E) rfl ⟨rfl, rfl⟩ (by decide +kernel) (Nat.le_of_ble_eq_true rfl) (Nat.le_of_ble_eq_true rfl) ⟨Nat.zero_le _, Nat.zero_le _⟩ (Nat.le_of_ble_eq_true rfl) rfl rfl ?_
  refine rl_if_eq (tgt := 22) (pc := 6) Γ nd_Mo_place_6 (by decide) (fun q2 => ?_) (fun q2 => ?_)
  · have h := rl_ift q2 h
    exact rl_Gsub [0, 1, 2] rfl (rw_Mo_place_J22 Γ hO hr hk x1 x2   q1.2 h)
  · have h := rl_iff q2 h
    refine rl_iload_n (pc := 9) Γ nd_Mo_place_9 2 rfl ?_
    refine rl_iconst (v := 0) (pc := 10) Γ nd_Mo_place_10 (by decide) ?_
    refine rl_iconst (v := 4) (pc := 11) Γ nd_Mo_place_11 (by decide) ?_
    obtain ⟨q18, q18h, h⟩ := rl_bd h
    refine rl_callSi (As := [.int x2, .int 0, .int 4]) (pc := 12) Γ nd_Mo_place_12 hO (rw_Mo_isIn l E x2 0 4  q1.2 q18 q18h) 3 nm_Mo_81 nm_st_Mo_isIn nm_ini_Mo nh_Mo_isIn ⟨rfl, rfl⟩ (by decide +kernel) (Nat.le_of_ble_eq_true rfl) (Nat.le_of_ble_eq_true rfl) ⟨Nat.zero_le _, Nat.zero_le _⟩ (Nat.le_of_ble_eq_true rfl) rfl rfl ?_
    refine rl_if_eq (tgt := 22) (pc := 15) Γ nd_Mo_place_15 (by decide) (fun q19 => ?_) (fun q19 => ?_)
    · have h := rl_ift q19 h
      exact rl_Gsub [0, 1, 2] rfl (rw_Mo_place_J22 Γ hO hr hk x1 x2   q18.2 h)
    · have h := rl_iff q19 h
      refine rl_iconst (v := 0) (pc := 18) Γ nd_Mo_place_18 (by decide) ?_
      refine rl_goto (tgt := 23) (pc := 19) Γ nd_Mo_place_19 (by decide) ?_
      exact rl_Gsub [0, 1, 2] rfl (rw_Mo_place_J23 Γ hO hr hk x1 x2 0   q18.2 h)
def rf_Mo_outline_L33 (x1 : Int32) (x2 : Int32) (K55 : rl_M → Option (Int32 × rl_M)) : Nat → Int32 → rl_M → Option (Int32 × rl_M)
  | 0, _, _ => none
  | n + 1, x3, σ => (if 400 < x3 then K55  σ else (if rl_ib x3 401 = true then rf_Mo_outline_L33 x1 x2 K55 n (x3 + 1) (rl_su σ 76 x3.toNatClampNeg 1000) else none))
def rf_Mo_outline_L72 (x1 : Int32) (x2 : Int32) (K157 : rl_M → Option (Int32 × rl_M)) : Nat → Int32 → rl_M → Option (Int32 × rl_M)
  | 0, _, _ => none
  | n + 1, x3, σ => (if x3 = 0 then K157  σ else ((rf_Mo_layOut  σ).bind (fun q9 => ((rf_Mo_fits  q9.2).bind (fun q10 => (if q10.1 = 0 then ((rf_Mo_nextChoice  q10.2).bind (fun q12 => rf_Mo_outline_L72 x1 x2 K157 n q12.1 q12.2)) else (if rl_ib ((q10.2 59 7) - 1) 16 = true then (if rl_ib ((q10.2 59 7) - 1) 16 = true then (if rl_ib (q10.2 69 ((q10.2 59 7) - 1).toNatClampNeg) 401 = true then (if (q10.2 76 (q10.2 69 ((q10.2 59 7) - 1).toNatClampNeg).toNatClampNeg) ≤ (q10.2 70 ((q10.2 59 7) - 1).toNatClampNeg) then (if rl_ib (q10.2 69 ((q10.2 59 7) - 1).toNatClampNeg) 401 = true then (if rl_ib (q10.2 69 ((q10.2 59 7) - 1).toNatClampNeg) 401 = true then ((rf_Mo_nextChoice  (rl_su q10.2 76 (q10.2 69 ((q10.2 59 7) - 1).toNatClampNeg).toNatClampNeg (q10.2 76 (q10.2 69 ((q10.2 59 7) - 1).toNatClampNeg).toNatClampNeg))).bind (fun q19 => rf_Mo_outline_L72 x1 x2 K157 n q19.1 q19.2)) else none) else none) else (if rl_ib ((q10.2 59 7) - 1) 16 = true then (if rl_ib (q10.2 69 ((q10.2 59 7) - 1).toNatClampNeg) 401 = true then ((rf_Mo_nextChoice  (rl_su q10.2 76 (q10.2 69 ((q10.2 59 7) - 1).toNatClampNeg).toNatClampNeg (q10.2 70 ((q10.2 59 7) - 1).toNatClampNeg))).bind (fun q22 => rf_Mo_outline_L72 x1 x2 K157 n q22.1 q22.2)) else none) else none)) else none) else none) else none)))))))
def rf_Mo_outline_L168 (x1 : Int32) (x2 : Int32) (K194 : Int32 → rl_M → Option (Int32 × rl_M)) : Nat → Int32 → Int32 → Int32 → rl_M → Option (Int32 × rl_M)
  | 0, _, _, _, _ => none
  | n + 1, x4, x5, x6, σ => (if 400 < x6 then some ((-1), σ) else (if rl_ib x6 401 = true then (if x4 ≤ (σ 76 x6.toNatClampNeg) then rf_Mo_outline_L168 x1 x2 K194 n x4 x5 (x6 + 1) σ else (if x5 = x1 then K194 x6 σ else (if rl_ib x6 401 = true then rf_Mo_outline_L168 x1 x2 K194 n (σ 76 x6.toNatClampNeg) (x5 + 1) (x6 + 1) σ else none))) else none))
def rf_Mo_outline (x1 : Int32) (x2 : Int32) (σ : rl_M) : Option (Int32 × rl_M) := (if x1 < 0 then (if ((rl_su σ 59 0 1) 59 0) ≤ 0 then rf_Mo_outline_L33 x1 x2 (fun (q5m : rl_M) => ((rf_Mo_firstChoice  q5m).bind (fun q6 => (if (q6.2 59 7) ≤ 0 then rf_Mo_outline_L72 x1 x2 (fun (q23m : rl_M) => rf_Mo_outline_L168 x1 x2 (fun (q29y6 : Int32) (q29m : rl_M) => (if x2 = 0 then some (q29y6, q29m) else (if rl_ib q29y6 401 = true then some (q29m 76 q29y6.toNatClampNeg, q29m) else none))) 10000 1000 0 0 q23m) 10000 0 q6.2 else rf_Mo_outline_L72 x1 x2 (fun (q32m : rl_M) => rf_Mo_outline_L168 x1 x2 (fun (q33y6 : Int32) (q33m : rl_M) => (if x2 = 0 then some (q33y6, q33m) else (if rl_ib q33y6 401 = true then some (q33m 76 q33y6.toNatClampNeg, q33m) else none))) 10000 1000 0 0 q32m) 10000 1 q6.2)))) 10000 0 (rl_su σ 59 0 1) else some (0, rl_su σ 59 0 1)) else ((rf_Mo_isIn x2 0 1 σ).bind (fun q36 => (if q36.1 = 0 then (if ((rl_su q36.2 59 0 1) 59 0) ≤ 0 then rf_Mo_outline_L33 x1 x2 (fun (q39m : rl_M) => ((rf_Mo_firstChoice  q39m).bind (fun q40 => (if (q40.2 59 7) ≤ 0 then rf_Mo_outline_L72 x1 x2 (fun (q42m : rl_M) => rf_Mo_outline_L168 x1 x2 (fun (q43y6 : Int32) (q43m : rl_M) => (if x2 = 0 then some (q43y6, q43m) else (if rl_ib q43y6 401 = true then some (q43m 76 q43y6.toNatClampNeg, q43m) else none))) 10000 1000 0 0 q42m) 10000 0 q40.2 else rf_Mo_outline_L72 x1 x2 (fun (q46m : rl_M) => rf_Mo_outline_L168 x1 x2 (fun (q47y6 : Int32) (q47m : rl_M) => (if x2 = 0 then some (q47y6, q47m) else (if rl_ib q47y6 401 = true then some (q47m 76 q47y6.toNatClampNeg, q47m) else none))) 10000 1000 0 0 q46m) 10000 1 q40.2)))) 10000 0 (rl_su q36.2 59 0 1) else some (0, rl_su q36.2 59 0 1)) else (if ((rl_su q36.2 59 0 0) 59 0) ≤ 0 then rf_Mo_outline_L33 x1 x2 (fun (q51m : rl_M) => ((rf_Mo_firstChoice  q51m).bind (fun q52 => (if (q52.2 59 7) ≤ 0 then rf_Mo_outline_L72 x1 x2 (fun (q54m : rl_M) => rf_Mo_outline_L168 x1 x2 (fun (q55y6 : Int32) (q55m : rl_M) => (if x2 = 0 then some (q55y6, q55m) else (if rl_ib q55y6 401 = true then some (q55m 76 q55y6.toNatClampNeg, q55m) else none))) 10000 1000 0 0 q54m) 10000 0 q52.2 else rf_Mo_outline_L72 x1 x2 (fun (q58m : rl_M) => rf_Mo_outline_L168 x1 x2 (fun (q59y6 : Int32) (q59m : rl_M) => (if x2 = 0 then some (q59y6, q59m) else (if rl_ib q59y6 401 = true then some (q59m 76 q59y6.toNatClampNeg, q59m) else none))) 10000 1000 0 0 q58m) 10000 1 q52.2)))) 10000 0 (rl_su q36.2 59 0 0) else some (0, rl_su q36.2 59 0 0))))))
set_option maxHeartbeats 4000000 in
set_option maxRecDepth 100000 in
theorem rw_Mo_outline_L33 {p : Program} {l : Launch} {e : Env} {s : State} {m : MethodId} {args : Array Value} {below : List Frame} {meth : Method} {c : Code} {E : rl_E} (Γ : CallFix p m c nc_Mo_outline 7 s args rl_TT nR_Mo) (hO : rl_Ok E s) (hr : meth.sig.returnType = (some .int)) (hk : meth.locks = false) (x1 : Int32) (x2 : Int32)  (K55 : rl_M → Option (Int32 × rl_M)) {r : Int32 × rl_M} (hK55 : ∀ (σ : rl_M), K55  σ = some r → rl_G p l e nr_Mo_outline s m args below meth c 7 E 0 0 (rl_QM below args s E rl_ri r) σ 55 [(0, .ref (E.1 59)), (1, .int x1), (2, .int x2)] []) : ∀ (n : Nat) (x3 : Int32) (σ : rl_M), rf_Mo_outline_L33 x1 x2 K55 n x3 σ = some r → rl_G p l e nr_Mo_outline s m args below meth c 7 E 0 0 (rl_QM below args s E rl_ri r) σ 33 [(0, .ref (E.1 59)), (1, .int x1), (2, .int x2), (3, .int x3)] [] := by
  intro n
  induction n with
  | zero =>
    intro x3 σ h
    exact (rl_ns (show none = some r from h)).elim
  | succ n ih =>
    intro x3 σ h
    unfold rf_Mo_outline_L33 at h
    refine rl_iload_n (pc := 33) Γ nd_Mo_outline_33 3 rfl ?_
    refine rl_sipush (v := 400) (pc := 34) Γ nd_Mo_outline_34 (by decide) ?_
    refine rl_icmp_gt (tgt := 55) (pc := 37) Γ nd_Mo_outline_37 (by decide) (fun q3 => ?_) (fun q3 => ?_)
    · have h := rl_ift q3 h
      exact rl_Gsub [0, 1, 2] rfl (hK55  σ h)
    · have h := rl_iff q3 h
      refine rl_aload_n (pc := 40) Γ nd_Mo_outline_40 0 rfl ?_
      refine rl_get (pc := 41) Γ nd_Mo_outline_41 hO (k := 25) (rl_o59 E) rfl (by decide) rfl ⟨ni_Mo, nf_Mo_65⟩ ?_
      refine rl_iload_n (pc := 44) Γ nd_Mo_outline_44 3 rfl ?_
      refine rl_sipush (v := 1000) (pc := 45) Γ nd_Mo_outline_45 (by decide) ?_
      obtain ⟨q4, h⟩ := rl_if h
      refine rl_ist (pc := 48) Γ nd_Mo_outline_48 hO (rl_a76 E) (rl_ib_in q4) ?_
      refine rl_iinc (v := x3 + 1) (L' := [(3, .int (x3 + 1)), (0, .ref (E.1 59)), (1, .int x1), (2, .int x2)]) (pc := 49) Γ nd_Mo_outline_49 3 rfl rfl (by decide) rfl ?_
      refine rl_goto (tgt := 33) (pc := 52) Γ nd_Mo_outline_52 (by decide) ?_
      exact rl_Gsub [1, 2, 3, 0] rfl (ih (x3 + 1) (rl_su σ 76 x3.toNatClampNeg 1000) h)
set_option maxHeartbeats 4000000 in
set_option maxRecDepth 100000 in
theorem rw_Mo_outline_L72 {p : Program} {l : Launch} {e : Env} {s : State} {m : MethodId} {args : Array Value} {below : List Frame} {meth : Method} {c : Code} {E : rl_E} (Γ : CallFix p m c nc_Mo_outline 7 s args rl_TT nR_Mo) (hO : rl_Ok E s) (hr : meth.sig.returnType = (some .int)) (hk : meth.locks = false) (x1 : Int32) (x2 : Int32)  (K157 : rl_M → Option (Int32 × rl_M)) {r : Int32 × rl_M} (hK157 : ∀ (σ : rl_M), K157  σ = some r → rl_G p l e nr_Mo_outline s m args below meth c 7 E 0 0 (rl_QM below args s E rl_ri r) σ 157 [(0, .ref (E.1 59)), (1, .int x1), (2, .int x2)] []) : ∀ (n : Nat) (x3 : Int32) (σ : rl_M), rf_Mo_outline_L72 x1 x2 K157 n x3 σ = some r → rl_G p l e nr_Mo_outline s m args below meth c 7 E 0 0 (rl_QM below args s E rl_ri r) σ 72 [(0, .ref (E.1 59)), (1, .int x1), (2, .int x2), (3, .int x3)] [] := by
  intro n
  induction n with
  | zero =>
    intro x3 σ h
    exact (rl_ns (show none = some r from h)).elim
  | succ n ih =>
    intro x3 σ h
    unfold rf_Mo_outline_L72 at h
    refine rl_iload_n (pc := 72) Γ nd_Mo_outline_72 3 rfl ?_
    refine rl_if_eq (tgt := 157) (pc := 73) Γ nd_Mo_outline_73 (by decide) (fun q8 => ?_) (fun q8 => ?_)
    · have h := rl_ift q8 h
      exact rl_Gsub [0, 1, 2] rfl (hK157  σ h)
    · have h := rl_iff q8 h
      refine rl_aload_n (pc := 76) Γ nd_Mo_outline_76 0 rfl ?_
      obtain ⟨q9, q9h, h⟩ := rl_bd h
      refine rl_callVv (As := []) (pc := 77) Γ nd_Mo_outline_77 hO (rw_Mo_layOut l E   σ q9 q9h) 0 nm_Mo_105 nm_im_Mo_layOut nm_se_Mo_layOut nm_ini_Mo nh_Mo_layOut (rl_o59 E) rfl ⟨rfl, rfl⟩ (by decide +kernel) (Nat.le_of_ble_eq_true rfl) (Nat.le_of_ble_eq_true rfl) ⟨Nat.zero_le _, Nat.zero_le _⟩ (Nat.le_of_ble_eq_true rfl) rfl rfl ?_
      refine rl_aload_n (pc := 80) Γ nd_Mo_outline_80 0 rfl ?_
      obtain ⟨q10, q10h, h⟩ := rl_bd h
      refine rl_callVi (As := []) (pc := 81) Γ nd_Mo_outline_81 hO (rw_Mo_fits l E   q9.2 q10 q10h) 0 nm_Mo_114 nm_im_Mo_fits nm_se_Mo_fits nm_ini_Mo nh_Mo_fits (rl_o59 E) rfl ⟨rfl, rfl⟩ (by decide +kernel) (Nat.le_of_ble_eq_true rfl) (Nat.le_of_ble_eq_true rfl) ⟨Nat.zero_le _, Nat.zero_le _⟩ (Nat.le_of_ble_eq_true rfl) rfl rfl ?_
      refine rl_if_eq (tgt := 149) (pc := 84) Γ nd_Mo_outline_84 (by decide) (fun q11 => ?_) (fun q11 => ?_)
      · have h := rl_ift q11 h
        refine rl_aload_n (pc := 149) Γ nd_Mo_outline_149 0 rfl ?_
        obtain ⟨q12, q12h, h⟩ := rl_bd h
        refine rl_callVi (As := []) (pc := 150) Γ nd_Mo_outline_150 hO (rw_Mo_nextChoice l E   q10.2 q12 q12h) 0 nm_Mo_118 nm_im_Mo_nextChoice nm_se_Mo_nextChoice nm_ini_Mo nh_Mo_nextChoice (rl_o59 E) rfl ⟨rfl, rfl⟩ (by decide +kernel) (Nat.le_of_ble_eq_true rfl) (Nat.le_of_ble_eq_true rfl) ⟨Nat.zero_le _, Nat.zero_le _⟩ (Nat.le_of_ble_eq_true rfl) rfl rfl ?_
        refine rl_istore_n (L' := [(3, .int q12.1), (0, .ref (E.1 59)), (1, .int x1), (2, .int x2)]) (pc := 153) Γ nd_Mo_outline_153 (by decide) rfl ?_
        refine rl_goto (tgt := 72) (pc := 154) Γ nd_Mo_outline_154 (by decide) ?_
        exact rl_Gsub [1, 2, 3, 0] rfl (ih q12.1 q12.2 h)
      · have h := rl_iff q11 h
        refine rl_aload_n (pc := 87) Γ nd_Mo_outline_87 0 rfl ?_
        refine rl_get (pc := 88) Γ nd_Mo_outline_88 hO (k := 18) (rl_o59 E) rfl (by decide) rfl ⟨ni_Mo, nf_Mo_44⟩ ?_
        refine rl_aload_n (pc := 91) Γ nd_Mo_outline_91 0 rfl ?_
        refine rl_get (pc := 92) Γ nd_Mo_outline_92 hO (k := 7) (rl_o59 E) rfl (by decide) rfl ⟨ni_Mo, nf_Mo_91⟩ ?_
        refine rl_iconst (v := 1) (pc := 95) Γ nd_Mo_outline_95 (by decide) ?_
        refine rl_isub (pc := 96) Γ nd_Mo_outline_96 ?_
        obtain ⟨q13, h⟩ := rl_if h
        refine rl_ild (pc := 97) Γ nd_Mo_outline_97 hO (rl_a69 E) (rl_ib_in q13) ?_
        refine rl_istore (L' := [(4, .int (q10.2 69 ((q10.2 59 7) - 1).toNatClampNeg)), (0, .ref (E.1 59)), (1, .int x1), (2, .int x2), (3, .int x3)]) (pc := 98) Γ nd_Mo_outline_98 (by decide) rfl ?_
        refine rl_aload_n (pc := 100) Γ nd_Mo_outline_100 1 rfl ?_
        refine rl_get (pc := 101) Γ nd_Mo_outline_101 hO (k := 25) (rl_o59 E) rfl (by decide) rfl ⟨ni_Mo, nf_Mo_65⟩ ?_
        refine rl_iload (pc := 104) Γ nd_Mo_outline_104 0 rfl ?_
        refine rl_aload_n (pc := 106) Γ nd_Mo_outline_106 1 rfl ?_
        refine rl_get (pc := 107) Γ nd_Mo_outline_107 hO (k := 19) (rl_o59 E) rfl (by decide) rfl ⟨ni_Mo, nf_Mo_47⟩ ?_
        refine rl_aload_n (pc := 110) Γ nd_Mo_outline_110 1 rfl ?_
        refine rl_get (pc := 111) Γ nd_Mo_outline_111 hO (k := 7) (rl_o59 E) rfl (by decide) rfl ⟨ni_Mo, nf_Mo_91⟩ ?_
        refine rl_iconst (v := 1) (pc := 114) Γ nd_Mo_outline_114 (by decide) ?_
        refine rl_isub (pc := 115) Γ nd_Mo_outline_115 ?_
        obtain ⟨q14, h⟩ := rl_if h
        refine rl_ild (pc := 116) Γ nd_Mo_outline_116 hO (rl_a70 E) (rl_ib_in q14) ?_
        refine rl_aload_n (pc := 117) Γ nd_Mo_outline_117 1 rfl ?_
        refine rl_get (pc := 118) Γ nd_Mo_outline_118 hO (k := 25) (rl_o59 E) rfl (by decide) rfl ⟨ni_Mo, nf_Mo_65⟩ ?_
        refine rl_iload (pc := 121) Γ nd_Mo_outline_121 0 rfl ?_
        obtain ⟨q15, h⟩ := rl_if h
        refine rl_ild (pc := 123) Γ nd_Mo_outline_123 hO (rl_a76 E) (rl_ib_in q15) ?_
        refine rl_icmp_ge (tgt := 141) (pc := 124) Γ nd_Mo_outline_124 (by decide) (fun q16 => ?_) (fun q16 => ?_)
        · have h := rl_ift q16 h
          refine rl_aload_n (pc := 141) Γ nd_Mo_outline_141 1 rfl ?_
          refine rl_get (pc := 142) Γ nd_Mo_outline_142 hO (k := 25) (rl_o59 E) rfl (by decide) rfl ⟨ni_Mo, nf_Mo_65⟩ ?_
          refine rl_iload (pc := 145) Γ nd_Mo_outline_145 0 rfl ?_
          obtain ⟨q17, h⟩ := rl_if h
          refine rl_ild (pc := 147) Γ nd_Mo_outline_147 hO (rl_a76 E) (rl_ib_in q17) ?_
          obtain ⟨q18, h⟩ := rl_if h
          refine rl_ist (pc := 148) Γ nd_Mo_outline_148 hO (rl_a76 E) (rl_ib_in q18) ?_
          refine rl_aload_n (pc := 149) Γ nd_Mo_outline_149 1 rfl ?_
          obtain ⟨q19, q19h, h⟩ := rl_bd h
          refine rl_callVi (As := []) (pc := 150) Γ nd_Mo_outline_150 hO (rw_Mo_nextChoice l E   (rl_su q10.2 76 (q10.2 69 ((q10.2 59 7) - 1).toNatClampNeg).toNatClampNeg (q10.2 76 (q10.2 69 ((q10.2 59 7) - 1).toNatClampNeg).toNatClampNeg)) q19 q19h) 0 nm_Mo_118 nm_im_Mo_nextChoice nm_se_Mo_nextChoice nm_ini_Mo nh_Mo_nextChoice (rl_o59 E) rfl ⟨rfl, rfl⟩ (by decide +kernel) (Nat.le_of_ble_eq_true rfl) (Nat.le_of_ble_eq_true rfl) ⟨Nat.zero_le _, Nat.zero_le _⟩ (Nat.le_of_ble_eq_true rfl) rfl rfl ?_
          refine rl_istore_n (L' := [(3, .int q19.1), (4, .int (q10.2 69 ((q10.2 59 7) - 1).toNatClampNeg)), (0, .ref (E.1 59)), (1, .int x1), (2, .int x2)]) (pc := 153) Γ nd_Mo_outline_153 (by decide) rfl ?_
          refine rl_goto (tgt := 72) (pc := 154) Γ nd_Mo_outline_154 (by decide) ?_
          exact rl_Gsub [2, 3, 4, 0] rfl (ih q19.1 q19.2 h)
        · have h := rl_iff q16 h
          refine rl_aload_n (pc := 127) Γ nd_Mo_outline_127 1 rfl ?_
          refine rl_get (pc := 128) Γ nd_Mo_outline_128 hO (k := 19) (rl_o59 E) rfl (by decide) rfl ⟨ni_Mo, nf_Mo_47⟩ ?_
          refine rl_aload_n (pc := 131) Γ nd_Mo_outline_131 1 rfl ?_
          refine rl_get (pc := 132) Γ nd_Mo_outline_132 hO (k := 7) (rl_o59 E) rfl (by decide) rfl ⟨ni_Mo, nf_Mo_91⟩ ?_
          refine rl_iconst (v := 1) (pc := 135) Γ nd_Mo_outline_135 (by decide) ?_
          refine rl_isub (pc := 136) Γ nd_Mo_outline_136 ?_
          obtain ⟨q20, h⟩ := rl_if h
          refine rl_ild (pc := 137) Γ nd_Mo_outline_137 hO (rl_a70 E) (rl_ib_in q20) ?_
          refine rl_goto (tgt := 148) (pc := 138) Γ nd_Mo_outline_138 (by decide) ?_
          obtain ⟨q21, h⟩ := rl_if h
          refine rl_ist (pc := 148) Γ nd_Mo_outline_148 hO (rl_a76 E) (rl_ib_in q21) ?_
          refine rl_aload_n (pc := 149) Γ nd_Mo_outline_149 1 rfl ?_
          obtain ⟨q22, q22h, h⟩ := rl_bd h
          refine rl_callVi (As := []) (pc := 150) Γ nd_Mo_outline_150 hO (rw_Mo_nextChoice l E   (rl_su q10.2 76 (q10.2 69 ((q10.2 59 7) - 1).toNatClampNeg).toNatClampNeg (q10.2 70 ((q10.2 59 7) - 1).toNatClampNeg)) q22 q22h) 0 nm_Mo_118 nm_im_Mo_nextChoice nm_se_Mo_nextChoice nm_ini_Mo nh_Mo_nextChoice (rl_o59 E) rfl ⟨rfl, rfl⟩ (by decide +kernel) (Nat.le_of_ble_eq_true rfl) (Nat.le_of_ble_eq_true rfl) ⟨Nat.zero_le _, Nat.zero_le _⟩ (Nat.le_of_ble_eq_true rfl) rfl rfl ?_
          refine rl_istore_n (L' := [(3, .int q22.1), (4, .int (q10.2 69 ((q10.2 59 7) - 1).toNatClampNeg)), (0, .ref (E.1 59)), (1, .int x1), (2, .int x2)]) (pc := 153) Γ nd_Mo_outline_153 (by decide) rfl ?_
          refine rl_goto (tgt := 72) (pc := 154) Γ nd_Mo_outline_154 (by decide) ?_
          exact rl_Gsub [2, 3, 4, 0] rfl (ih q22.1 q22.2 h)
set_option maxHeartbeats 4000000 in
set_option maxRecDepth 100000 in
theorem rw_Mo_outline_L168 {p : Program} {l : Launch} {e : Env} {s : State} {m : MethodId} {args : Array Value} {below : List Frame} {meth : Method} {c : Code} {E : rl_E} (Γ : CallFix p m c nc_Mo_outline 7 s args rl_TT nR_Mo) (hO : rl_Ok E s) (hr : meth.sig.returnType = (some .int)) (hk : meth.locks = false) (x1 : Int32) (x2 : Int32)  (K194 : Int32 → rl_M → Option (Int32 × rl_M)) {r : Int32 × rl_M} (hK194 : ∀ (y6 : Int32) (σ : rl_M), K194 y6 σ = some r → rl_G p l e nr_Mo_outline s m args below meth c 7 E 0 0 (rl_QM below args s E rl_ri r) σ 194 [(0, .ref (E.1 59)), (2, .int x2), (6, .int y6)] []) : ∀ (n : Nat) (x4 : Int32) (x5 : Int32) (x6 : Int32) (σ : rl_M), rf_Mo_outline_L168 x1 x2 K194 n x4 x5 x6 σ = some r → rl_G p l e nr_Mo_outline s m args below meth c 7 E 0 0 (rl_QM below args s E rl_ri r) σ 168 [(0, .ref (E.1 59)), (1, .int x1), (2, .int x2), (4, .int x4), (5, .int x5), (6, .int x6)] [] := by
  intro n
  induction n with
  | zero =>
    intro x4 x5 x6 σ h
    exact (rl_ns (show none = some r from h)).elim
  | succ n ih =>
    intro x4 x5 x6 σ h
    unfold rf_Mo_outline_L168 at h
    refine rl_iload (pc := 168) Γ nd_Mo_outline_168 5 rfl ?_
    refine rl_sipush (v := 400) (pc := 170) Γ nd_Mo_outline_170 (by decide) ?_
    refine rl_icmp_gt (tgt := 229) (pc := 173) Γ nd_Mo_outline_173 (by decide) (fun q24 => ?_) (fun q24 => ?_)
    · have h := rl_ift q24 h
      refine rl_iconst (v := (-1)) (pc := 229) Γ nd_Mo_outline_229 (by decide) ?_
      exact rl_iret (pc := 230) Γ nd_Mo_outline_230 hr hk h
    · have h := rl_iff q24 h
      refine rl_aload_n (pc := 176) Γ nd_Mo_outline_176 0 rfl ?_
      refine rl_get (pc := 177) Γ nd_Mo_outline_177 hO (k := 25) (rl_o59 E) rfl (by decide) rfl ⟨ni_Mo, nf_Mo_65⟩ ?_
      refine rl_iload (pc := 180) Γ nd_Mo_outline_180 5 rfl ?_
      obtain ⟨q25, h⟩ := rl_if h
      refine rl_ild (pc := 182) Γ nd_Mo_outline_182 hO (rl_a76 E) (rl_ib_in q25) ?_
      refine rl_iload (pc := 183) Γ nd_Mo_outline_183 3 rfl ?_
      refine rl_icmp_ge (tgt := 223) (pc := 185) Γ nd_Mo_outline_185 (by decide) (fun q26 => ?_) (fun q26 => ?_)
      · have h := rl_ift q26 h
        refine rl_iinc (v := x6 + 1) (L' := [(6, .int (x6 + 1)), (0, .ref (E.1 59)), (1, .int x1), (2, .int x2), (4, .int x4), (5, .int x5)]) (pc := 223) Γ nd_Mo_outline_223 5 rfl rfl (by decide) rfl ?_
        refine rl_goto (tgt := 168) (pc := 226) Γ nd_Mo_outline_226 (by decide) ?_
        exact rl_Gsub [1, 2, 3, 4, 5, 0] rfl (ih x4 x5 (x6 + 1) σ h)
      · have h := rl_iff q26 h
        refine rl_iload (pc := 188) Γ nd_Mo_outline_188 4 rfl ?_
        refine rl_iload_n (pc := 190) Γ nd_Mo_outline_190 1 rfl ?_
        refine rl_icmp_ne (tgt := 211) (pc := 191) Γ nd_Mo_outline_191 (by decide) (fun q27 => ?_) (fun q27 => ?_)
        · have h := rl_iff q27 h
          refine rl_iinc (v := x5 + 1) (L' := [(5, .int (x5 + 1)), (0, .ref (E.1 59)), (1, .int x1), (2, .int x2), (4, .int x4), (6, .int x6)]) (pc := 211) Γ nd_Mo_outline_211 4 rfl rfl (by decide) rfl ?_
          refine rl_aload_n (pc := 214) Γ nd_Mo_outline_214 1 rfl ?_
          refine rl_get (pc := 215) Γ nd_Mo_outline_215 hO (k := 25) (rl_o59 E) rfl (by decide) rfl ⟨ni_Mo, nf_Mo_65⟩ ?_
          refine rl_iload (pc := 218) Γ nd_Mo_outline_218 5 rfl ?_
          obtain ⟨q28, h⟩ := rl_if h
          refine rl_ild (pc := 220) Γ nd_Mo_outline_220 hO (rl_a76 E) (rl_ib_in q28) ?_
          refine rl_istore (L' := [(4, .int (σ 76 x6.toNatClampNeg)), (5, .int (x5 + 1)), (0, .ref (E.1 59)), (1, .int x1), (2, .int x2), (6, .int x6)]) (pc := 221) Γ nd_Mo_outline_221 (by decide) rfl ?_
          refine rl_iinc (v := x6 + 1) (L' := [(6, .int (x6 + 1)), (4, .int (σ 76 x6.toNatClampNeg)), (5, .int (x5 + 1)), (0, .ref (E.1 59)), (1, .int x1), (2, .int x2)]) (pc := 223) Γ nd_Mo_outline_223 5 rfl rfl (by decide) rfl ?_
          refine rl_goto (tgt := 168) (pc := 226) Γ nd_Mo_outline_226 (by decide) ?_
          exact rl_Gsub [3, 4, 5, 1, 2, 0] rfl (ih (σ 76 x6.toNatClampNeg) (x5 + 1) (x6 + 1) σ h)
        · have h := rl_ift q27 h
          exact rl_Gsub [0, 2, 5] rfl (hK194 x6 σ h)
set_option maxHeartbeats 4000000 in
set_option maxRecDepth 100000 in
theorem rw_Mo_outline (l : Launch) (E : rl_E) (x1 : Int32) (x2 : Int32)  (σ : rl_M) (r : Int32 × rl_M) (h : rf_Mo_outline x1 x2 σ = some r) : Met l ny_Mo_outline nw_Mo_outline nr_Mo_outline (rl_P E [.ref (E.1 59), .int x1, .int x2] σ) (rl_Q E (rl_ri r.1) r.2) 0 0 (rl_A E) := by
  refine Met.ofW (cc := nc_Mo_outline) (maxL := 7) (ret := (some .int)) (by decide) rfl ?_
  intro p e s m args below meth c s₁ B hml hv
  obtain ⟨rfl, hP, hO⟩ := hv
  have Γ : CallFix p m c nc_Mo_outline 7 s ([.ref (E.1 59), .int x1, .int x2] : List Value).toArray rl_TT nR_Mo := ⟨B.exec, B.bytes, hml, findClass_of_methodNamed B.named, fun w hw => atoms_spec (ws := nw_Mo_outline) B.pre w (List.mem_cons_of_mem _ hw)⟩
  have hr := B.returns
  have hk := B.notSynchronized
  refine rl_start (R := nr_Mo_outline) (Q := rl_QM below _ s E rl_ri r) (nL := 7) (av := [.ref (E.1 59), .int x1, .int x2]) (σ := σ) hP (Nat.le_of_ble_eq_true rfl) ?_
  unfold rf_Mo_outline at h
  refine rl_aload_n (pc := 0) Γ nd_Mo_outline_0 0 rfl ?_
  refine rl_iload_n (pc := 1) Γ nd_Mo_outline_1 1 rfl ?_
  refine rl_if_lt (tgt := 18) (pc := 2) Γ nd_Mo_outline_2 (by decide) (fun q1 => ?_) (fun q1 => ?_)
  · have h := rl_ift q1 h
    refine rl_iconst (v := 1) (pc := 18) Γ nd_Mo_outline_18 (by decide) ?_
    refine rl_put (pc := 19) Γ nd_Mo_outline_19 hO (k := 0) (rl_o59 E) rfl (by decide) (fun _ _ => rfl) ⟨ni_Mo, nf_Mo_71⟩ nt_Mo nto_Mo nn_Mo rfl (fun _ => Nat.le_of_ble_eq_true rfl) rl_ni ?_
    refine rl_aload_n (pc := 22) Γ nd_Mo_outline_22 0 rfl ?_
    refine rl_get (pc := 23) Γ nd_Mo_outline_23 hO (k := 0) (rl_o59 E) rfl (by decide) rfl ⟨ni_Mo, nf_Mo_71⟩ ?_
    refine rl_if_le (tgt := 31) (pc := 26) Γ nd_Mo_outline_26 (by decide) (fun q2 => ?_) (fun q2 => ?_)
    · have h := rl_ift q2 h
      refine rl_iconst (v := 0) (pc := 31) Γ nd_Mo_outline_31 (by decide) ?_
      refine rl_istore_n (L' := [(3, .int 0), (0, .ref (E.1 59)), (1, .int x1), (2, .int x2)]) (pc := 32) Γ nd_Mo_outline_32 (by decide) rfl ?_
      refine rl_Gsub [1, 2, 3, 0] rfl (rw_Mo_outline_L33 Γ hO hr hk x1 x2  _ ?_ 10000 0 (rl_su σ 59 0 1) h)
      · intro q5m h
        refine rl_aload_n (pc := 55) Γ nd_Mo_outline_55 0 rfl ?_
        obtain ⟨q6, q6h, h⟩ := rl_bd h
        refine rl_callVv (As := []) (pc := 56) Γ nd_Mo_outline_56 hO (rw_Mo_firstChoice l E   q5m q6 q6h) 0 nm_Mo_102 nm_im_Mo_firstChoice nm_se_Mo_firstChoice nm_ini_Mo nh_Mo_firstChoice (rl_o59 E) rfl ⟨rfl, rfl⟩ (by decide +kernel) (Nat.le_of_ble_eq_true rfl) (Nat.le_of_ble_eq_true rfl) ⟨Nat.zero_le _, Nat.zero_le _⟩ (Nat.le_of_ble_eq_true rfl) rfl rfl ?_
        refine rl_aload_n (pc := 59) Γ nd_Mo_outline_59 0 rfl ?_
        refine rl_get (pc := 60) Γ nd_Mo_outline_60 hO (k := 7) (rl_o59 E) rfl (by decide) rfl ⟨ni_Mo, nf_Mo_91⟩ ?_
        refine rl_if_le (tgt := 70) (pc := 63) Γ nd_Mo_outline_63 (by decide) (fun q7 => ?_) (fun q7 => ?_)
        · have h := rl_ift q7 h
          refine rl_iconst (v := 0) (pc := 70) Γ nd_Mo_outline_70 (by decide) ?_
          refine rl_istore_n (L' := [(3, .int 0), (0, .ref (E.1 59)), (1, .int x1), (2, .int x2)]) (pc := 71) Γ nd_Mo_outline_71 (by decide) rfl ?_
          refine rl_Gsub [1, 2, 3, 0] rfl (rw_Mo_outline_L72 Γ hO hr hk x1 x2  _ ?_ 10000 0 q6.2 h)
          · intro q23m h
            refine rl_sipush (v := 1000) (pc := 157) Γ nd_Mo_outline_157 (by decide) ?_
            refine rl_istore (L' := [(4, .int 1000), (0, .ref (E.1 59)), (1, .int x1), (2, .int x2)]) (pc := 160) Γ nd_Mo_outline_160 (by decide) rfl ?_
            refine rl_iconst (v := 0) (pc := 162) Γ nd_Mo_outline_162 (by decide) ?_
            refine rl_istore (L' := [(5, .int 0), (4, .int 1000), (0, .ref (E.1 59)), (1, .int x1), (2, .int x2)]) (pc := 163) Γ nd_Mo_outline_163 (by decide) rfl ?_
            refine rl_iconst (v := 0) (pc := 165) Γ nd_Mo_outline_165 (by decide) ?_
            refine rl_istore (L' := [(6, .int 0), (5, .int 0), (4, .int 1000), (0, .ref (E.1 59)), (1, .int x1), (2, .int x2)]) (pc := 166) Γ nd_Mo_outline_166 (by decide) rfl ?_
            refine rl_Gsub [3, 4, 5, 2, 1, 0] rfl (rw_Mo_outline_L168 Γ hO hr hk x1 x2  _ ?_ 10000 1000 0 0 q23m h)
            · intro q29y6 q29m h
              refine rl_iload_n (pc := 194) Γ nd_Mo_outline_194 1 rfl ?_
              refine rl_if_ne (tgt := 203) (pc := 195) Γ nd_Mo_outline_195 (by decide) (fun q30 => ?_) (fun q30 => ?_)
              · have h := rl_iff q30 h
                refine rl_aload_n (pc := 203) Γ nd_Mo_outline_203 0 rfl ?_
                refine rl_get (pc := 204) Γ nd_Mo_outline_204 hO (k := 25) (rl_o59 E) rfl (by decide) rfl ⟨ni_Mo, nf_Mo_65⟩ ?_
                refine rl_iload (pc := 207) Γ nd_Mo_outline_207 2 rfl ?_
                obtain ⟨q31, h⟩ := rl_if h
                refine rl_ild (pc := 209) Γ nd_Mo_outline_209 hO (rl_a76 E) (rl_ib_in q31) ?_
                exact rl_iret (pc := 210) Γ nd_Mo_outline_210 hr hk h
              · have h := rl_ift q30 h
                refine rl_iload (pc := 198) Γ nd_Mo_outline_198 2 rfl ?_
                refine rl_goto (tgt := 210) (pc := 200) Γ nd_Mo_outline_200 (by decide) ?_
                exact rl_iret (pc := 210) Γ nd_Mo_outline_210 hr hk h
        · have h := rl_iff q7 h
          refine rl_iconst (v := 1) (pc := 66) Γ nd_Mo_outline_66 (by decide) ?_
          refine rl_goto (tgt := 71) (pc := 67) Γ nd_Mo_outline_67 (by decide) ?_
          refine rl_istore_n (L' := [(3, .int 1), (0, .ref (E.1 59)), (1, .int x1), (2, .int x2)]) (pc := 71) Γ nd_Mo_outline_71 (by decide) rfl ?_
          refine rl_Gsub [1, 2, 3, 0] rfl (rw_Mo_outline_L72 Γ hO hr hk x1 x2  _ ?_ 10000 1 q6.2 h)
          · intro q32m h
            refine rl_sipush (v := 1000) (pc := 157) Γ nd_Mo_outline_157 (by decide) ?_
            refine rl_istore (L' := [(4, .int 1000), (0, .ref (E.1 59)), (1, .int x1), (2, .int x2)]) (pc := 160) Γ nd_Mo_outline_160 (by decide) rfl ?_
            refine rl_iconst (v := 0) (pc := 162) Γ nd_Mo_outline_162 (by decide) ?_
            refine rl_istore (L' := [(5, .int 0), (4, .int 1000), (0, .ref (E.1 59)), (1, .int x1), (2, .int x2)]) (pc := 163) Γ nd_Mo_outline_163 (by decide) rfl ?_
            refine rl_iconst (v := 0) (pc := 165) Γ nd_Mo_outline_165 (by decide) ?_
            refine rl_istore (L' := [(6, .int 0), (5, .int 0), (4, .int 1000), (0, .ref (E.1 59)), (1, .int x1), (2, .int x2)]) (pc := 166) Γ nd_Mo_outline_166 (by decide) rfl ?_
            refine rl_Gsub [3, 4, 5, 2, 1, 0] rfl (rw_Mo_outline_L168 Γ hO hr hk x1 x2  _ ?_ 10000 1000 0 0 q32m h)
            · intro q33y6 q33m h
              refine rl_iload_n (pc := 194) Γ nd_Mo_outline_194 1 rfl ?_
              refine rl_if_ne (tgt := 203) (pc := 195) Γ nd_Mo_outline_195 (by decide) (fun q34 => ?_) (fun q34 => ?_)
              · have h := rl_iff q34 h
                refine rl_aload_n (pc := 203) Γ nd_Mo_outline_203 0 rfl ?_
                refine rl_get (pc := 204) Γ nd_Mo_outline_204 hO (k := 25) (rl_o59 E) rfl (by decide) rfl ⟨ni_Mo, nf_Mo_65⟩ ?_
                refine rl_iload (pc := 207) Γ nd_Mo_outline_207 2 rfl ?_
                obtain ⟨q35, h⟩ := rl_if h
                refine rl_ild (pc := 209) Γ nd_Mo_outline_209 hO (rl_a76 E) (rl_ib_in q35) ?_
                exact rl_iret (pc := 210) Γ nd_Mo_outline_210 hr hk h
              · have h := rl_ift q34 h
                refine rl_iload (pc := 198) Γ nd_Mo_outline_198 2 rfl ?_
                refine rl_goto (tgt := 210) (pc := 200) Γ nd_Mo_outline_200 (by decide) ?_
                exact rl_iret (pc := 210) Γ nd_Mo_outline_210 hr hk h
    · have h := rl_iff q2 h
      refine rl_iconst (v := 0) (pc := 29) Γ nd_Mo_outline_29 (by decide) ?_
      exact rl_iret (pc := 30) Γ nd_Mo_outline_30 hr hk h
  · have h := rl_iff q1 h
    refine rl_iload_n (pc := 5) Γ nd_Mo_outline_5 2 rfl ?_
    refine rl_iconst (v := 0) (pc := 6) Γ nd_Mo_outline_6 (by decide) ?_
    refine rl_iconst (v := 1) (pc := 7) Γ nd_Mo_outline_7 (by decide) ?_
    obtain ⟨q36, q36h, h⟩ := rl_bd h
    refine rl_callSi (As := [.int x2, .int 0, .int 1]) (pc := 8) Γ nd_Mo_outline_8 hO (rw_Mo_isIn l E x2 0 1  σ q36 q36h) 3 nm_Mo_81 nm_st_Mo_isIn nm_ini_Mo nh_Mo_isIn ⟨rfl, rfl⟩ (by decide +kernel) (Nat.le_of_ble_eq_true rfl) (Nat.le_of_ble_eq_true rfl) ⟨Nat.zero_le _, Nat.zero_le _⟩ (Nat.le_of_ble_eq_true rfl) rfl rfl ?_
    refine rl_if_eq (tgt := 18) (pc := 11) Γ nd_Mo_outline_11 (by decide) (fun q37 => ?_) (fun q37 => ?_)
    · have h := rl_ift q37 h
      refine rl_iconst (v := 1) (pc := 18) Γ nd_Mo_outline_18 (by decide) ?_
      refine rl_put (pc := 19) Γ nd_Mo_outline_19 hO (k := 0) (rl_o59 E) rfl (by decide) (fun _ _ => rfl) ⟨ni_Mo, nf_Mo_71⟩ nt_Mo nto_Mo nn_Mo rfl (fun _ => Nat.le_of_ble_eq_true rfl) rl_ni ?_
      refine rl_aload_n (pc := 22) Γ nd_Mo_outline_22 0 rfl ?_
      refine rl_get (pc := 23) Γ nd_Mo_outline_23 hO (k := 0) (rl_o59 E) rfl (by decide) rfl ⟨ni_Mo, nf_Mo_71⟩ ?_
      refine rl_if_le (tgt := 31) (pc := 26) Γ nd_Mo_outline_26 (by decide) (fun q38 => ?_) (fun q38 => ?_)
      · have h := rl_ift q38 h
        refine rl_iconst (v := 0) (pc := 31) Γ nd_Mo_outline_31 (by decide) ?_
        refine rl_istore_n (L' := [(3, .int 0), (0, .ref (E.1 59)), (1, .int x1), (2, .int x2)]) (pc := 32) Γ nd_Mo_outline_32 (by decide) rfl ?_
        refine rl_Gsub [1, 2, 3, 0] rfl (rw_Mo_outline_L33 Γ hO hr hk x1 x2  _ ?_ 10000 0 (rl_su q36.2 59 0 1) h)
        · intro q39m h
          refine rl_aload_n (pc := 55) Γ nd_Mo_outline_55 0 rfl ?_
          obtain ⟨q40, q40h, h⟩ := rl_bd h
          refine rl_callVv (As := []) (pc := 56) Γ nd_Mo_outline_56 hO (rw_Mo_firstChoice l E   q39m q40 q40h) 0 nm_Mo_102 nm_im_Mo_firstChoice nm_se_Mo_firstChoice nm_ini_Mo nh_Mo_firstChoice (rl_o59 E) rfl ⟨rfl, rfl⟩ (by decide +kernel) (Nat.le_of_ble_eq_true rfl) (Nat.le_of_ble_eq_true rfl) ⟨Nat.zero_le _, Nat.zero_le _⟩ (Nat.le_of_ble_eq_true rfl) rfl rfl ?_
          refine rl_aload_n (pc := 59) Γ nd_Mo_outline_59 0 rfl ?_
          refine rl_get (pc := 60) Γ nd_Mo_outline_60 hO (k := 7) (rl_o59 E) rfl (by decide) rfl ⟨ni_Mo, nf_Mo_91⟩ ?_
          refine rl_if_le (tgt := 70) (pc := 63) Γ nd_Mo_outline_63 (by decide) (fun q41 => ?_) (fun q41 => ?_)
          · have h := rl_ift q41 h
            refine rl_iconst (v := 0) (pc := 70) Γ nd_Mo_outline_70 (by decide) ?_
            refine rl_istore_n (L' := [(3, .int 0), (0, .ref (E.1 59)), (1, .int x1), (2, .int x2)]) (pc := 71) Γ nd_Mo_outline_71 (by decide) rfl ?_
            refine rl_Gsub [1, 2, 3, 0] rfl (rw_Mo_outline_L72 Γ hO hr hk x1 x2  _ ?_ 10000 0 q40.2 h)
            · intro q42m h
              refine rl_sipush (v := 1000) (pc := 157) Γ nd_Mo_outline_157 (by decide) ?_
              refine rl_istore (L' := [(4, .int 1000), (0, .ref (E.1 59)), (1, .int x1), (2, .int x2)]) (pc := 160) Γ nd_Mo_outline_160 (by decide) rfl ?_
              refine rl_iconst (v := 0) (pc := 162) Γ nd_Mo_outline_162 (by decide) ?_
              refine rl_istore (L' := [(5, .int 0), (4, .int 1000), (0, .ref (E.1 59)), (1, .int x1), (2, .int x2)]) (pc := 163) Γ nd_Mo_outline_163 (by decide) rfl ?_
              refine rl_iconst (v := 0) (pc := 165) Γ nd_Mo_outline_165 (by decide) ?_
              refine rl_istore (L' := [(6, .int 0), (5, .int 0), (4, .int 1000), (0, .ref (E.1 59)), (1, .int x1), (2, .int x2)]) (pc := 166) Γ nd_Mo_outline_166 (by decide) rfl ?_
              refine rl_Gsub [3, 4, 5, 2, 1, 0] rfl (rw_Mo_outline_L168 Γ hO hr hk x1 x2  _ ?_ 10000 1000 0 0 q42m h)
              · intro q43y6 q43m h
                refine rl_iload_n (pc := 194) Γ nd_Mo_outline_194 1 rfl ?_
                refine rl_if_ne (tgt := 203) (pc := 195) Γ nd_Mo_outline_195 (by decide) (fun q44 => ?_) (fun q44 => ?_)
                · have h := rl_iff q44 h
                  refine rl_aload_n (pc := 203) Γ nd_Mo_outline_203 0 rfl ?_
                  refine rl_get (pc := 204) Γ nd_Mo_outline_204 hO (k := 25) (rl_o59 E) rfl (by decide) rfl ⟨ni_Mo, nf_Mo_65⟩ ?_
                  refine rl_iload (pc := 207) Γ nd_Mo_outline_207 2 rfl ?_
                  obtain ⟨q45, h⟩ := rl_if h
                  refine rl_ild (pc := 209) Γ nd_Mo_outline_209 hO (rl_a76 E) (rl_ib_in q45) ?_
                  exact rl_iret (pc := 210) Γ nd_Mo_outline_210 hr hk h
                · have h := rl_ift q44 h
                  refine rl_iload (pc := 198) Γ nd_Mo_outline_198 2 rfl ?_
                  refine rl_goto (tgt := 210) (pc := 200) Γ nd_Mo_outline_200 (by decide) ?_
                  exact rl_iret (pc := 210) Γ nd_Mo_outline_210 hr hk h
          · have h := rl_iff q41 h
            refine rl_iconst (v := 1) (pc := 66) Γ nd_Mo_outline_66 (by decide) ?_
            refine rl_goto (tgt := 71) (pc := 67) Γ nd_Mo_outline_67 (by decide) ?_
            refine rl_istore_n (L' := [(3, .int 1), (0, .ref (E.1 59)), (1, .int x1), (2, .int x2)]) (pc := 71) Γ nd_Mo_outline_71 (by decide) rfl ?_
            refine rl_Gsub [1, 2, 3, 0] rfl (rw_Mo_outline_L72 Γ hO hr hk x1 x2  _ ?_ 10000 1 q40.2 h)
            · intro q46m h
              refine rl_sipush (v := 1000) (pc := 157) Γ nd_Mo_outline_157 (by decide) ?_
              refine rl_istore (L' := [(4, .int 1000), (0, .ref (E.1 59)), (1, .int x1), (2, .int x2)]) (pc := 160) Γ nd_Mo_outline_160 (by decide) rfl ?_
              refine rl_iconst (v := 0) (pc := 162) Γ nd_Mo_outline_162 (by decide) ?_
              refine rl_istore (L' := [(5, .int 0), (4, .int 1000), (0, .ref (E.1 59)), (1, .int x1), (2, .int x2)]) (pc := 163) Γ nd_Mo_outline_163 (by decide) rfl ?_
              refine rl_iconst (v := 0) (pc := 165) Γ nd_Mo_outline_165 (by decide) ?_
              refine rl_istore (L' := [(6, .int 0), (5, .int 0), (4, .int 1000), (0, .ref (E.1 59)), (1, .int x1), (2, .int x2)]) (pc := 166) Γ nd_Mo_outline_166 (by decide) rfl ?_
              refine rl_Gsub [3, 4, 5, 2, 1, 0] rfl (rw_Mo_outline_L168 Γ hO hr hk x1 x2  _ ?_ 10000 1000 0 0 q46m h)
              · intro q47y6 q47m h
                refine rl_iload_n (pc := 194) Γ nd_Mo_outline_194 1 rfl ?_
                refine rl_if_ne (tgt := 203) (pc := 195) Γ nd_Mo_outline_195 (by decide) (fun q48 => ?_) (fun q48 => ?_)
                · have h := rl_iff q48 h
                  refine rl_aload_n (pc := 203) Γ nd_Mo_outline_203 0 rfl ?_
                  refine rl_get (pc := 204) Γ nd_Mo_outline_204 hO (k := 25) (rl_o59 E) rfl (by decide) rfl ⟨ni_Mo, nf_Mo_65⟩ ?_
                  refine rl_iload (pc := 207) Γ nd_Mo_outline_207 2 rfl ?_
                  obtain ⟨q49, h⟩ := rl_if h
                  refine rl_ild (pc := 209) Γ nd_Mo_outline_209 hO (rl_a76 E) (rl_ib_in q49) ?_
                  exact rl_iret (pc := 210) Γ nd_Mo_outline_210 hr hk h
                · have h := rl_ift q48 h
                  refine rl_iload (pc := 198) Γ nd_Mo_outline_198 2 rfl ?_
                  refine rl_goto (tgt := 210) (pc := 200) Γ nd_Mo_outline_200 (by decide) ?_
                  exact rl_iret (pc := 210) Γ nd_Mo_outline_210 hr hk h
      · have h := rl_iff q38 h
        refine rl_iconst (v := 0) (pc := 29) Γ nd_Mo_outline_29 (by decide) ?_
        exact rl_iret (pc := 30) Γ nd_Mo_outline_30 hr hk h
    · have h := rl_iff q37 h
      refine rl_iconst (v := 0) (pc := 14) Γ nd_Mo_outline_14 (by decide) ?_
      refine rl_goto (tgt := 19) (pc := 15) Γ nd_Mo_outline_15 (by decide) ?_
      refine rl_put (pc := 19) Γ nd_Mo_outline_19 hO (k := 0) (rl_o59 E) rfl (by decide) (fun _ _ => rfl) ⟨ni_Mo, nf_Mo_71⟩ nt_Mo nto_Mo nn_Mo rfl (fun _ => Nat.le_of_ble_eq_true rfl) rl_ni ?_
      refine rl_aload_n (pc := 22) Γ nd_Mo_outline_22 0 rfl ?_
      refine rl_get (pc := 23) Γ nd_Mo_outline_23 hO (k := 0) (rl_o59 E) rfl (by decide) rfl ⟨ni_Mo, nf_Mo_71⟩ ?_
      refine rl_if_le (tgt := 31) (pc := 26) Γ nd_Mo_outline_26 (by decide) (fun q50 => ?_) (fun q50 => ?_)
      · have h := rl_ift q50 h
        refine rl_iconst (v := 0) (pc := 31) Γ nd_Mo_outline_31 (by decide) ?_
        refine rl_istore_n (L' := [(3, .int 0), (0, .ref (E.1 59)), (1, .int x1), (2, .int x2)]) (pc := 32) Γ nd_Mo_outline_32 (by decide) rfl ?_
        refine rl_Gsub [1, 2, 3, 0] rfl (rw_Mo_outline_L33 Γ hO hr hk x1 x2  _ ?_ 10000 0 (rl_su q36.2 59 0 0) h)
        · intro q51m h
          refine rl_aload_n (pc := 55) Γ nd_Mo_outline_55 0 rfl ?_
          obtain ⟨q52, q52h, h⟩ := rl_bd h
          refine rl_callVv (As := []) (pc := 56) Γ nd_Mo_outline_56 hO (rw_Mo_firstChoice l E   q51m q52 q52h) 0 nm_Mo_102 nm_im_Mo_firstChoice nm_se_Mo_firstChoice nm_ini_Mo nh_Mo_firstChoice (rl_o59 E) rfl ⟨rfl, rfl⟩ (by decide +kernel) (Nat.le_of_ble_eq_true rfl) (Nat.le_of_ble_eq_true rfl) ⟨Nat.zero_le _, Nat.zero_le _⟩ (Nat.le_of_ble_eq_true rfl) rfl rfl ?_
          refine rl_aload_n (pc := 59) Γ nd_Mo_outline_59 0 rfl ?_
          refine rl_get (pc := 60) Γ nd_Mo_outline_60 hO (k := 7) (rl_o59 E) rfl (by decide) rfl ⟨ni_Mo, nf_Mo_91⟩ ?_
          refine rl_if_le (tgt := 70) (pc := 63) Γ nd_Mo_outline_63 (by decide) (fun q53 => ?_) (fun q53 => ?_)
          · have h := rl_ift q53 h
            refine rl_iconst (v := 0) (pc := 70) Γ nd_Mo_outline_70 (by decide) ?_
            refine rl_istore_n (L' := [(3, .int 0), (0, .ref (E.1 59)), (1, .int x1), (2, .int x2)]) (pc := 71) Γ nd_Mo_outline_71 (by decide) rfl ?_
            refine rl_Gsub [1, 2, 3, 0] rfl (rw_Mo_outline_L72 Γ hO hr hk x1 x2  _ ?_ 10000 0 q52.2 h)
            · intro q54m h
              refine rl_sipush (v := 1000) (pc := 157) Γ nd_Mo_outline_157 (by decide) ?_
              refine rl_istore (L' := [(4, .int 1000), (0, .ref (E.1 59)), (1, .int x1), (2, .int x2)]) (pc := 160) Γ nd_Mo_outline_160 (by decide) rfl ?_
              refine rl_iconst (v := 0) (pc := 162) Γ nd_Mo_outline_162 (by decide) ?_
              refine rl_istore (L' := [(5, .int 0), (4, .int 1000), (0, .ref (E.1 59)), (1, .int x1), (2, .int x2)]) (pc := 163) Γ nd_Mo_outline_163 (by decide) rfl ?_
              refine rl_iconst (v := 0) (pc := 165) Γ nd_Mo_outline_165 (by decide) ?_
              refine rl_istore (L' := [(6, .int 0), (5, .int 0), (4, .int 1000), (0, .ref (E.1 59)), (1, .int x1), (2, .int x2)]) (pc := 166) Γ nd_Mo_outline_166 (by decide) rfl ?_
              refine rl_Gsub [3, 4, 5, 2, 1, 0] rfl (rw_Mo_outline_L168 Γ hO hr hk x1 x2  _ ?_ 10000 1000 0 0 q54m h)
              · intro q55y6 q55m h
                refine rl_iload_n (pc := 194) Γ nd_Mo_outline_194 1 rfl ?_
                refine rl_if_ne (tgt := 203) (pc := 195) Γ nd_Mo_outline_195 (by decide) (fun q56 => ?_) (fun q56 => ?_)
                · have h := rl_iff q56 h
                  refine rl_aload_n (pc := 203) Γ nd_Mo_outline_203 0 rfl ?_
                  refine rl_get (pc := 204) Γ nd_Mo_outline_204 hO (k := 25) (rl_o59 E) rfl (by decide) rfl ⟨ni_Mo, nf_Mo_65⟩ ?_
                  refine rl_iload (pc := 207) Γ nd_Mo_outline_207 2 rfl ?_
                  obtain ⟨q57, h⟩ := rl_if h
                  refine rl_ild (pc := 209) Γ nd_Mo_outline_209 hO (rl_a76 E) (rl_ib_in q57) ?_
                  exact rl_iret (pc := 210) Γ nd_Mo_outline_210 hr hk h
                · have h := rl_ift q56 h
                  refine rl_iload (pc := 198) Γ nd_Mo_outline_198 2 rfl ?_
                  refine rl_goto (tgt := 210) (pc := 200) Γ nd_Mo_outline_200 (by decide) ?_
                  exact rl_iret (pc := 210) Γ nd_Mo_outline_210 hr hk h
          · have h := rl_iff q53 h
            refine rl_iconst (v := 1) (pc := 66) Γ nd_Mo_outline_66 (by decide) ?_
            refine rl_goto (tgt := 71) (pc := 67) Γ nd_Mo_outline_67 (by decide) ?_
            refine rl_istore_n (L' := [(3, .int 1), (0, .ref (E.1 59)), (1, .int x1), (2, .int x2)]) (pc := 71) Γ nd_Mo_outline_71 (by decide) rfl ?_
            refine rl_Gsub [1, 2, 3, 0] rfl (rw_Mo_outline_L72 Γ hO hr hk x1 x2  _ ?_ 10000 1 q52.2 h)
            · intro q58m h
              refine rl_sipush (v := 1000) (pc := 157) Γ nd_Mo_outline_157 (by decide) ?_
              refine rl_istore (L' := [(4, .int 1000), (0, .ref (E.1 59)), (1, .int x1), (2, .int x2)]) (pc := 160) Γ nd_Mo_outline_160 (by decide) rfl ?_
              refine rl_iconst (v := 0) (pc := 162) Γ nd_Mo_outline_162 (by decide) ?_
              refine rl_istore (L' := [(5, .int 0), (4, .int 1000), (0, .ref (E.1 59)), (1, .int x1), (2, .int x2)]) (pc := 163) Γ nd_Mo_outline_163 (by decide) rfl ?_
              refine rl_iconst (v := 0) (pc := 165) Γ nd_Mo_outline_165 (by decide) ?_
              refine rl_istore (L' := [(6, .int 0), (5, .int 0), (4, .int 1000), (0, .ref (E.1 59)), (1, .int x1), (2, .int x2)]) (pc := 166) Γ nd_Mo_outline_166 (by decide) rfl ?_
              refine rl_Gsub [3, 4, 5, 2, 1, 0] rfl (rw_Mo_outline_L168 Γ hO hr hk x1 x2  _ ?_ 10000 1000 0 0 q58m h)
              · intro q59y6 q59m h
                refine rl_iload_n (pc := 194) Γ nd_Mo_outline_194 1 rfl ?_
                refine rl_if_ne (tgt := 203) (pc := 195) Γ nd_Mo_outline_195 (by decide) (fun q60 => ?_) (fun q60 => ?_)
                · have h := rl_iff q60 h
                  refine rl_aload_n (pc := 203) Γ nd_Mo_outline_203 0 rfl ?_
                  refine rl_get (pc := 204) Γ nd_Mo_outline_204 hO (k := 25) (rl_o59 E) rfl (by decide) rfl ⟨ni_Mo, nf_Mo_65⟩ ?_
                  refine rl_iload (pc := 207) Γ nd_Mo_outline_207 2 rfl ?_
                  obtain ⟨q61, h⟩ := rl_if h
                  refine rl_ild (pc := 209) Γ nd_Mo_outline_209 hO (rl_a76 E) (rl_ib_in q61) ?_
                  exact rl_iret (pc := 210) Γ nd_Mo_outline_210 hr hk h
                · have h := rl_ift q60 h
                  refine rl_iload (pc := 198) Γ nd_Mo_outline_198 2 rfl ?_
                  refine rl_goto (tgt := 210) (pc := 200) Γ nd_Mo_outline_200 (by decide) ?_
                  exact rl_iret (pc := 210) Γ nd_Mo_outline_210 hr hk h
      · have h := rl_iff q50 h
        refine rl_iconst (v := 0) (pc := 29) Γ nd_Mo_outline_29 (by decide) ?_
        exact rl_iret (pc := 30) Γ nd_Mo_outline_30 hr hk h
