def rf_Pl_pin_L33   : Nat → Int32 → Int32 → rl_M → Option (Int32 × rl_M)
  | 0, _, _, _ => none
  | n + 1, x4, x5, σ => (if 11 ≤ x5 then some (0, σ) else (if x4 = ((-1)) then some (0, σ) else ((rf_Pl_join x4 σ).bind (fun q8 => ((rf_St_parentOf x4 q8.2).bind (fun q9 => rf_Pl_pin_L33   n q9.1 (x5 + 1) q9.2))))))
def rf_Pl_pin (x1 : Int32) (x2 : Int32) (x3 : Int32) (σ : rl_M) : Option (Int32 × rl_M) := (if rl_ib x1 11 = true then ((rf_Cu_clear (rl_cv x1) σ).bind (fun q2 => (if rl_ib x1 11 = true then ((rf_Cu_append (rl_cv x1) x2 x3 q2.2).bind (fun q4 => ((rf_St_parentOf x1 q4.2).bind (fun q5 => rf_Pl_pin_L33   10000 q5.1 0 q5.2)))) else none))) else none)
set_option maxHeartbeats 4000000 in
set_option maxRecDepth 100000 in
theorem rw_Pl_pin_L33 {p : Program} {l : Launch} {e : Env} {s : State} {m : MethodId} {args : Array Value} {below : List Frame} {meth : Method} {c : Code} {E : rl_E} (Γ : CallFix p m c nc_Pl_pin 6 s args rl_TT nR_Pl) (hO : rl_Ok E s) (hr : meth.sig.returnType = none) (hk : meth.locks = false)    {r : Int32 × rl_M}  : ∀ (n : Nat) (x4 : Int32) (x5 : Int32) (σ : rl_M), rf_Pl_pin_L33   n x4 x5 σ = some r → rl_G p l e nr_Pl_pin s m args below meth c 6 E 0 0 (rl_QM below args s E rl_rv r) σ 33 [(0, .ref (E.1 3)), (4, .int x4), (5, .int x5)] [] := by
  intro n
  induction n with
  | zero =>
    intro x4 x5 σ h
    exact (rl_ns (show none = some r from h)).elim
  | succ n ih =>
    intro x4 x5 σ h
    unfold rf_Pl_pin_L33 at h
    refine rl_iload (pc := 33) Γ nd_Pl_pin_33 2 rfl ?_
    refine rl_bipush (v := 11) (pc := 35) Γ nd_Pl_pin_35 (by decide) ?_
    refine rl_icmp_ge (tgt := 69) (pc := 37) Γ nd_Pl_pin_37 (by decide) (fun q6 => ?_) (fun q6 => ?_)
    · have h := rl_ift q6 h
      exact rl_vret (pc := 69) Γ nd_Pl_pin_69 hr hk h
    · have h := rl_iff q6 h
      refine rl_iload (pc := 40) Γ nd_Pl_pin_40 1 rfl ?_
      refine rl_iconst (v := (-1)) (pc := 42) Γ nd_Pl_pin_42 (by decide) ?_
      refine rl_icmp_eq (tgt := 69) (pc := 43) Γ nd_Pl_pin_43 (by decide) (fun q7 => ?_) (fun q7 => ?_)
      · have h := rl_ift q7 h
        exact rl_vret (pc := 69) Γ nd_Pl_pin_69 hr hk h
      · have h := rl_iff q7 h
        refine rl_aload_n (pc := 46) Γ nd_Pl_pin_46 0 rfl ?_
        refine rl_iload (pc := 47) Γ nd_Pl_pin_47 1 rfl ?_
        obtain ⟨q8, q8h, h⟩ := rl_bd h
        refine rl_callVv (As := [.int x4]) (pc := 49) Γ nd_Pl_pin_49 hO (rw_Pl_join l E x4  σ q8 q8h) 1 nm_Pl_116 nm_im_Pl_join nm_se_Pl_join nm_ini_Pl nh_Pl_join (rl_o3 E) rfl ⟨rfl, rfl⟩ (by decide +kernel) (Nat.le_of_ble_eq_true rfl) (Nat.le_of_ble_eq_true rfl) ⟨Nat.zero_le _, Nat.zero_le _⟩ (Nat.le_of_ble_eq_true rfl) rfl rfl ?_
        refine rl_aload_n (pc := 52) Γ nd_Pl_pin_52 0 rfl ?_
        refine rl_get (pc := 53) Γ nd_Pl_pin_53 hO (k := 1) (rl_o3 E) rfl (by decide) rfl ⟨ni_Pl, nf_Pl_21⟩ ?_
        refine rl_iload (pc := 56) Γ nd_Pl_pin_56 1 rfl ?_
        obtain ⟨q9, q9h, h⟩ := rl_bd h
        refine rl_callVi (As := [.int x4]) (pc := 58) Γ nd_Pl_pin_58 hO (rw_St_parentOf l E x4  q8.2 q9 q9h) 1 nm_Pl_183 nm_im_St_parentOf nm_se_St_parentOf nm_ini_St nh_St_parentOf (rl_o8 E) rfl ⟨rfl, rfl⟩ (by decide +kernel) (Nat.le_of_ble_eq_true rfl) (Nat.le_of_ble_eq_true rfl) ⟨Nat.zero_le _, Nat.zero_le _⟩ (Nat.le_of_ble_eq_true rfl) rfl rfl ?_
        refine rl_istore (L' := [(4, .int q9.1), (0, .ref (E.1 3)), (5, .int x5)]) (pc := 61) Γ nd_Pl_pin_61 (by decide) rfl ?_
        refine rl_iinc (v := x5 + 1) (L' := [(5, .int (x5 + 1)), (4, .int q9.1), (0, .ref (E.1 3))]) (pc := 63) Γ nd_Pl_pin_63 2 rfl rfl (by decide) rfl ?_
        refine rl_goto (tgt := 33) (pc := 66) Γ nd_Pl_pin_66 (by decide) ?_
        exact rl_Gsub [2, 1, 0] rfl (ih q9.1 (x5 + 1) q9.2 h)
set_option maxHeartbeats 4000000 in
set_option maxRecDepth 100000 in
theorem rw_Pl_pin (l : Launch) (E : rl_E) (x1 : Int32) (x2 : Int32) (x3 : Int32)  (σ : rl_M) (r : Int32 × rl_M) (h : rf_Pl_pin x1 x2 x3 σ = some r) : Met l ny_Pl_pin nw_Pl_pin nr_Pl_pin (rl_P E [.ref (E.1 3), .int x1, .int x2, .int x3] σ) (rl_Q E (rl_rv r.1) r.2) 0 0 (rl_A E) := by
  refine Met.ofW (cc := nc_Pl_pin) (maxL := 6) (ret := none) (by decide) rfl ?_
  intro p e s m args below meth c s₁ B hml hv
  obtain ⟨rfl, hP, hO⟩ := hv
  have Γ : CallFix p m c nc_Pl_pin 6 s ([.ref (E.1 3), .int x1, .int x2, .int x3] : List Value).toArray rl_TT nR_Pl := ⟨B.exec, B.bytes, hml, findClass_of_methodNamed B.named, fun w hw => atoms_spec (ws := nw_Pl_pin) B.pre w (List.mem_cons_of_mem _ hw)⟩
  have hr := B.returns
  have hk := B.notSynchronized
  refine rl_start (R := nr_Pl_pin) (Q := rl_QM below _ s E rl_rv r) (nL := 6) (av := [.ref (E.1 3), .int x1, .int x2, .int x3]) (σ := σ) hP (Nat.le_of_ble_eq_true rfl) ?_
  unfold rf_Pl_pin at h
  refine rl_aload_n (pc := 0) Γ nd_Pl_pin_0 0 rfl ?_
  refine rl_get (pc := 1) Γ nd_Pl_pin_1 hO (k := 6) (rl_o3 E) rfl (by decide) rfl ⟨ni_Pl, nf_Pl_41⟩ ?_
  refine rl_iload_n (pc := 4) Γ nd_Pl_pin_4 1 rfl ?_
  obtain ⟨q1, h⟩ := rl_if h
  refine rl_ald (pc := 5) Γ nd_Pl_pin_5 hO (rl_a15 E) (rl_ib_in q1) ?_
  obtain ⟨q2, q2h, h⟩ := rl_bd h
  refine rl_callVv (As := []) (pc := 6) Γ nd_Pl_pin_6 hO (rw_Cu_clear l E (rl_cv x1) (rl_cv_ok q1) σ q2 q2h) 0 nm_Pl_124 nm_im_Cu_clear nm_se_Cu_clear nm_ini_Cu nh_Cu_clear (rl_oC (rl_cv_ok q1)) rfl ⟨rfl, rfl⟩ (by decide +kernel) (Nat.le_of_ble_eq_true rfl) (Nat.le_of_ble_eq_true rfl) ⟨Nat.zero_le _, Nat.zero_le _⟩ (Nat.le_of_ble_eq_true rfl) rfl rfl ?_
  refine rl_aload_n (pc := 9) Γ nd_Pl_pin_9 0 rfl ?_
  refine rl_get (pc := 10) Γ nd_Pl_pin_10 hO (k := 6) (rl_o3 E) rfl (by decide) rfl ⟨ni_Pl, nf_Pl_41⟩ ?_
  refine rl_iload_n (pc := 13) Γ nd_Pl_pin_13 1 rfl ?_
  obtain ⟨q3, h⟩ := rl_if h
  refine rl_ald (pc := 14) Γ nd_Pl_pin_14 hO (rl_a15 E) (rl_ib_in q3) ?_
  refine rl_iload_n (pc := 15) Γ nd_Pl_pin_15 2 rfl ?_
  refine rl_iload_n (pc := 16) Γ nd_Pl_pin_16 3 rfl ?_
  obtain ⟨q4, q4h, h⟩ := rl_bd h
  refine rl_callVv (As := [.int x2, .int x3]) (pc := 17) Γ nd_Pl_pin_17 hO (rw_Cu_append l E (rl_cv x1) x2 x3 (rl_cv_ok q3) q2.2 q4 q4h) 2 nm_Pl_180 nm_im_Cu_append nm_se_Cu_append nm_ini_Cu nh_Cu_append (rl_oC (rl_cv_ok q3)) rfl ⟨rfl, rfl⟩ (by decide +kernel) (Nat.le_of_ble_eq_true rfl) (Nat.le_of_ble_eq_true rfl) ⟨Nat.zero_le _, Nat.zero_le _⟩ (Nat.le_of_ble_eq_true rfl) rfl rfl ?_
  refine rl_aload_n (pc := 20) Γ nd_Pl_pin_20 0 rfl ?_
  refine rl_get (pc := 21) Γ nd_Pl_pin_21 hO (k := 1) (rl_o3 E) rfl (by decide) rfl ⟨ni_Pl, nf_Pl_21⟩ ?_
  refine rl_iload_n (pc := 24) Γ nd_Pl_pin_24 1 rfl ?_
  obtain ⟨q5, q5h, h⟩ := rl_bd h
  refine rl_callVi (As := [.int x1]) (pc := 25) Γ nd_Pl_pin_25 hO (rw_St_parentOf l E x1  q4.2 q5 q5h) 1 nm_Pl_183 nm_im_St_parentOf nm_se_St_parentOf nm_ini_St nh_St_parentOf (rl_o8 E) rfl ⟨rfl, rfl⟩ (by decide +kernel) (Nat.le_of_ble_eq_true rfl) (Nat.le_of_ble_eq_true rfl) ⟨Nat.zero_le _, Nat.zero_le _⟩ (Nat.le_of_ble_eq_true rfl) rfl rfl ?_
  refine rl_istore (L' := [(4, .int q5.1), (0, .ref (E.1 3)), (1, .int x1), (2, .int x2), (3, .int x3)]) (pc := 28) Γ nd_Pl_pin_28 (by decide) rfl ?_
  refine rl_iconst (v := 0) (pc := 30) Γ nd_Pl_pin_30 (by decide) ?_
  refine rl_istore (L' := [(5, .int 0), (4, .int q5.1), (0, .ref (E.1 3)), (1, .int x1), (2, .int x2), (3, .int x3)]) (pc := 31) Γ nd_Pl_pin_31 (by decide) rfl ?_
  refine rl_Gsub [2, 1, 0] rfl (rw_Pl_pin_L33 Γ hO hr hk     10000 q5.1 0 q5.2 h)
def rf_Pl_chooseFirstSize_L56 (x1 : Int32) (x2 : Int32) (a4 : Nat) (x5 : Int32) (x6 : Int32)  : Nat → Int32 → rl_M → Option (Int32 × rl_M)
  | 0, _, _ => none
  | n + 1, x7, σ => ((rf_Rl_sizesOf x2 σ).bind (fun q8 => (if q8.1 ≤ x7 then some (0, q8.2) else (if rl_ib x1 11 = true then ((rf_Rl_widthOf x2 x7 (rl_su q8.2 16 x1.toNatClampNeg x7)).bind (fun q11 => ((rf_Rl_heightOf x2 x7 q11.2).bind (fun q12 => ((rf_Pl_pin x1 q11.1 q12.1 q12.2).bind (fun q13 => ((rf_Cu_hasWithin a4 x5 x6 q13.2).bind (fun q14 => (if q14.1 = 0 then rf_Pl_chooseFirstSize_L56 x1 x2 a4 x5 x6  n (x7 + 1) q14.2 else some (0, q14.2)))))))))) else none))))
def rf_Pl_chooseFirstSize (x1 : Int32) (x2 : Int32) (σ : rl_M) : Option (Int32 × rl_M) := ((rf_St_has x1 σ).bind (fun q1 => (if q1.1 = 0 then some (0, q1.2) else ((rf_St_has ((σ 8 0) - 1) q1.2).bind (fun q3 => (if q3.1 = 0 then some (0, q3.2) else (if rl_ib ((σ 8 0) - 1) 11 = true then ((rf_Pl_bestWidth  q3.2).bind (fun q6 => ((rf_Pl_bestHeight  q6.2).bind (fun q7 => rf_Pl_chooseFirstSize_L56 x1 x2 (rl_cv ((σ 8 0) - 1)) q6.1 q7.1  10000 0 q7.2)))) else none)))))))
set_option maxHeartbeats 4000000 in
set_option maxRecDepth 100000 in
theorem rw_Pl_chooseFirstSize_L56 {p : Program} {l : Launch} {e : Env} {s : State} {m : MethodId} {args : Array Value} {below : List Frame} {meth : Method} {c : Code} {E : rl_E} (Γ : CallFix p m c nc_Pl_chooseFirstSize 8 s args rl_TT nR_Pl) (hO : rl_Ok E s) (hr : meth.sig.returnType = none) (hk : meth.locks = false) (x1 : Int32) (x2 : Int32) (a4 : Nat) (x5 : Int32) (x6 : Int32) (ha4 : rl_cvb a4 = true)  {r : Int32 × rl_M}  : ∀ (n : Nat) (x7 : Int32) (σ : rl_M), rf_Pl_chooseFirstSize_L56 x1 x2 a4 x5 x6  n x7 σ = some r → rl_G p l e nr_Pl_chooseFirstSize s m args below meth c 8 E 0 0 (rl_QM below args s E rl_rv r) σ 56 [(0, .ref (E.1 3)), (1, .int x1), (2, .int x2), (4, .ref (E.1 a4)), (5, .int x5), (6, .int x6), (7, .int x7)] [] := by
  intro n
  induction n with
  | zero =>
    intro x7 σ h
    exact (rl_ns (show none = some r from h)).elim
  | succ n ih =>
    intro x7 σ h
    unfold rf_Pl_chooseFirstSize_L56 at h
    refine rl_iload (pc := 56) Γ nd_Pl_chooseFirstSize_56 6 rfl ?_
    refine rl_aload_n (pc := 58) Γ nd_Pl_chooseFirstSize_58 0 rfl ?_
    refine rl_get (pc := 59) Γ nd_Pl_chooseFirstSize_59 hO (k := 0) (rl_o3 E) rfl (by decide) rfl ⟨ni_Pl, nf_Pl_12⟩ ?_
    refine rl_iload_n (pc := 62) Γ nd_Pl_chooseFirstSize_62 2 rfl ?_
    obtain ⟨q8, q8h, h⟩ := rl_bd h
    refine rl_callVi (As := [.int x2]) (pc := 63) Γ nd_Pl_chooseFirstSize_63 hO (rw_Rl_sizesOf l E x2  σ q8 q8h) 1 nm_Pl_134 nm_im_Rl_sizesOf nm_se_Rl_sizesOf nm_ini_Rl nh_Rl_sizesOf (rl_o4 E) rfl ⟨rfl, rfl⟩ (by decide +kernel) (Nat.le_of_ble_eq_true rfl) (Nat.le_of_ble_eq_true rfl) ⟨Nat.zero_le _, Nat.zero_le _⟩ (Nat.le_of_ble_eq_true rfl) rfl rfl ?_
    refine rl_icmp_ge (tgt := 121) (pc := 66) Γ nd_Pl_chooseFirstSize_66 (by decide) (fun q9 => ?_) (fun q9 => ?_)
    · have h := rl_ift q9 h
      exact rl_vret (pc := 121) Γ nd_Pl_chooseFirstSize_121 hr hk h
    · have h := rl_iff q9 h
      refine rl_aload_n (pc := 69) Γ nd_Pl_chooseFirstSize_69 0 rfl ?_
      refine rl_get (pc := 70) Γ nd_Pl_chooseFirstSize_70 hO (k := 9) (rl_o3 E) rfl (by decide) rfl ⟨ni_Pl, nf_Pl_53⟩ ?_
      refine rl_iload_n (pc := 73) Γ nd_Pl_chooseFirstSize_73 1 rfl ?_
      refine rl_iload (pc := 74) Γ nd_Pl_chooseFirstSize_74 6 rfl ?_
      obtain ⟨q10, h⟩ := rl_if h
      refine rl_ist (pc := 76) Γ nd_Pl_chooseFirstSize_76 hO (rl_a16 E) (rl_ib_in q10) ?_
      refine rl_aload_n (pc := 77) Γ nd_Pl_chooseFirstSize_77 0 rfl ?_
      refine rl_iload_n (pc := 78) Γ nd_Pl_chooseFirstSize_78 1 rfl ?_
      refine rl_aload_n (pc := 79) Γ nd_Pl_chooseFirstSize_79 0 rfl ?_
      refine rl_get (pc := 80) Γ nd_Pl_chooseFirstSize_80 hO (k := 0) (rl_o3 E) rfl (by decide) rfl ⟨ni_Pl, nf_Pl_12⟩ ?_
      refine rl_iload_n (pc := 83) Γ nd_Pl_chooseFirstSize_83 2 rfl ?_
      refine rl_iload (pc := 84) Γ nd_Pl_chooseFirstSize_84 6 rfl ?_
      obtain ⟨q11, q11h, h⟩ := rl_bd h
      refine rl_callVi (As := [.int x2, .int x7]) (pc := 86) Γ nd_Pl_chooseFirstSize_86 hO (rw_Rl_widthOf l E x2 x7  (rl_su q8.2 16 x1.toNatClampNeg x7) q11 q11h) 2 nm_Pl_137 nm_im_Rl_widthOf nm_se_Rl_widthOf nm_ini_Rl nh_Rl_widthOf (rl_o4 E) rfl ⟨rfl, rfl⟩ (by decide +kernel) (Nat.le_of_ble_eq_true rfl) (Nat.le_of_ble_eq_true rfl) ⟨Nat.zero_le _, Nat.zero_le _⟩ (Nat.le_of_ble_eq_true rfl) rfl rfl ?_
      refine rl_aload_n (pc := 89) Γ nd_Pl_chooseFirstSize_89 0 rfl ?_
      refine rl_get (pc := 90) Γ nd_Pl_chooseFirstSize_90 hO (k := 0) (rl_o3 E) rfl (by decide) rfl ⟨ni_Pl, nf_Pl_12⟩ ?_
      refine rl_iload_n (pc := 93) Γ nd_Pl_chooseFirstSize_93 2 rfl ?_
      refine rl_iload (pc := 94) Γ nd_Pl_chooseFirstSize_94 6 rfl ?_
      obtain ⟨q12, q12h, h⟩ := rl_bd h
      refine rl_callVi (As := [.int x2, .int x7]) (pc := 96) Γ nd_Pl_chooseFirstSize_96 hO (rw_Rl_heightOf l E x2 x7  q11.2 q12 q12h) 2 nm_Pl_140 nm_im_Rl_heightOf nm_se_Rl_heightOf nm_ini_Rl nh_Rl_heightOf (rl_o4 E) rfl ⟨rfl, rfl⟩ (by decide +kernel) (Nat.le_of_ble_eq_true rfl) (Nat.le_of_ble_eq_true rfl) ⟨Nat.zero_le _, Nat.zero_le _⟩ (Nat.le_of_ble_eq_true rfl) rfl rfl ?_
      obtain ⟨q13, q13h, h⟩ := rl_bd h
      refine rl_callVv (As := [.int x1, .int q11.1, .int q12.1]) (pc := 99) Γ nd_Pl_chooseFirstSize_99 hO (rw_Pl_pin l E x1 q11.1 q12.1  q12.2 q13 q13h) 3 nm_Pl_172 nm_im_Pl_pin nm_se_Pl_pin nm_ini_Pl nh_Pl_pin (rl_o3 E) rfl ⟨rfl, rfl⟩ (by decide +kernel) (Nat.le_of_ble_eq_true rfl) (Nat.le_of_ble_eq_true rfl) ⟨Nat.zero_le _, Nat.zero_le _⟩ (Nat.le_of_ble_eq_true rfl) rfl rfl ?_
      refine rl_aload (pc := 102) Γ nd_Pl_chooseFirstSize_102 3 rfl ?_
      refine rl_iload (pc := 104) Γ nd_Pl_chooseFirstSize_104 4 rfl ?_
      refine rl_iload (pc := 106) Γ nd_Pl_chooseFirstSize_106 5 rfl ?_
      obtain ⟨q14, q14h, h⟩ := rl_bd h
      refine rl_callVi (As := [.int x5, .int x6]) (pc := 108) Γ nd_Pl_chooseFirstSize_108 hO (rw_Cu_hasWithin l E a4 x5 x6 ha4 q13.2 q14 q14h) 2 nm_Pl_176 nm_im_Cu_hasWithin nm_se_Cu_hasWithin nm_ini_Cu nh_Cu_hasWithin (rl_oC ha4) rfl ⟨rfl, rfl⟩ (by decide +kernel) (Nat.le_of_ble_eq_true rfl) (Nat.le_of_ble_eq_true rfl) ⟨Nat.zero_le _, Nat.zero_le _⟩ (Nat.le_of_ble_eq_true rfl) rfl rfl ?_
      refine rl_if_eq (tgt := 115) (pc := 111) Γ nd_Pl_chooseFirstSize_111 (by decide) (fun q15 => ?_) (fun q15 => ?_)
      · have h := rl_ift q15 h
        refine rl_iinc (v := x7 + 1) (L' := [(7, .int (x7 + 1)), (0, .ref (E.1 3)), (1, .int x1), (2, .int x2), (4, .ref (E.1 a4)), (5, .int x5), (6, .int x6)]) (pc := 115) Γ nd_Pl_chooseFirstSize_115 6 rfl rfl (by decide) rfl ?_
        refine rl_goto (tgt := 56) (pc := 118) Γ nd_Pl_chooseFirstSize_118 (by decide) ?_
        exact rl_Gsub [1, 2, 3, 4, 5, 6, 0] rfl (ih (x7 + 1) q14.2 h)
      · have h := rl_iff q15 h
        exact rl_vret (pc := 114) Γ nd_Pl_chooseFirstSize_114 hr hk h
set_option maxHeartbeats 4000000 in
set_option maxRecDepth 100000 in
theorem rw_Pl_chooseFirstSize (l : Launch) (E : rl_E) (x1 : Int32) (x2 : Int32)  (σ : rl_M) (r : Int32 × rl_M) (h : rf_Pl_chooseFirstSize x1 x2 σ = some r) : Met l ny_Pl_chooseFirstSize nw_Pl_chooseFirstSize nr_Pl_chooseFirstSize (rl_P E [.ref (E.1 3), .int x1, .int x2] σ) (rl_Q E (rl_rv r.1) r.2) 0 0 (rl_A E) := by
  refine Met.ofW (cc := nc_Pl_chooseFirstSize) (maxL := 8) (ret := none) (by decide) rfl ?_
  intro p e s m args below meth c s₁ B hml hv
  obtain ⟨rfl, hP, hO⟩ := hv
  have Γ : CallFix p m c nc_Pl_chooseFirstSize 8 s ([.ref (E.1 3), .int x1, .int x2] : List Value).toArray rl_TT nR_Pl := ⟨B.exec, B.bytes, hml, findClass_of_methodNamed B.named, fun w hw => atoms_spec (ws := nw_Pl_chooseFirstSize) B.pre w (List.mem_cons_of_mem _ hw)⟩
  have hr := B.returns
  have hk := B.notSynchronized
  refine rl_start (R := nr_Pl_chooseFirstSize) (Q := rl_QM below _ s E rl_rv r) (nL := 8) (av := [.ref (E.1 3), .int x1, .int x2]) (σ := σ) hP (Nat.le_of_ble_eq_true rfl) ?_
  unfold rf_Pl_chooseFirstSize at h
  refine rl_aload_n (pc := 0) Γ nd_Pl_chooseFirstSize_0 0 rfl ?_
  refine rl_get (pc := 1) Γ nd_Pl_chooseFirstSize_1 hO (k := 1) (rl_o3 E) rfl (by decide) rfl ⟨ni_Pl, nf_Pl_21⟩ ?_
  refine rl_get (pc := 4) Γ nd_Pl_chooseFirstSize_4 hO (k := 0) (rl_o8 E) rfl (by decide) rfl ⟨ni_St, nf_Pl_110⟩ ?_
  refine rl_iconst (v := 1) (pc := 7) Γ nd_Pl_chooseFirstSize_7 (by decide) ?_
  refine rl_isub (pc := 8) Γ nd_Pl_chooseFirstSize_8 ?_
  refine rl_istore_n (L' := [(3, .int ((σ 8 0) - 1)), (0, .ref (E.1 3)), (1, .int x1), (2, .int x2)]) (pc := 9) Γ nd_Pl_chooseFirstSize_9 (by decide) rfl ?_
  refine rl_aload_n (pc := 10) Γ nd_Pl_chooseFirstSize_10 1 rfl ?_
  refine rl_get (pc := 11) Γ nd_Pl_chooseFirstSize_11 hO (k := 1) (rl_o3 E) rfl (by decide) rfl ⟨ni_Pl, nf_Pl_21⟩ ?_
  refine rl_iload_n (pc := 14) Γ nd_Pl_chooseFirstSize_14 2 rfl ?_
  obtain ⟨q1, q1h, h⟩ := rl_bd h
  refine rl_callVi (As := [.int x1]) (pc := 15) Γ nd_Pl_chooseFirstSize_15 hO (rw_St_has l E x1  σ q1 q1h) 1 nm_Pl_91 nm_im_St_has nm_se_St_has nm_ini_St nh_St_has (rl_o8 E) rfl ⟨rfl, rfl⟩ (by decide +kernel) (Nat.le_of_ble_eq_true rfl) (Nat.le_of_ble_eq_true rfl) ⟨Nat.zero_le _, Nat.zero_le _⟩ (Nat.le_of_ble_eq_true rfl) rfl rfl ?_
  refine rl_if_eq (tgt := 32) (pc := 18) Γ nd_Pl_chooseFirstSize_18 (by decide) (fun q2 => ?_) (fun q2 => ?_)
  · have h := rl_ift q2 h
    exact rl_vret (pc := 32) Γ nd_Pl_chooseFirstSize_32 hr hk h
  · have h := rl_iff q2 h
    refine rl_aload_n (pc := 21) Γ nd_Pl_chooseFirstSize_21 1 rfl ?_
    refine rl_get (pc := 22) Γ nd_Pl_chooseFirstSize_22 hO (k := 1) (rl_o3 E) rfl (by decide) rfl ⟨ni_Pl, nf_Pl_21⟩ ?_
    refine rl_iload_n (pc := 25) Γ nd_Pl_chooseFirstSize_25 0 rfl ?_
    obtain ⟨q3, q3h, h⟩ := rl_bd h
    refine rl_callVi (As := [.int ((σ 8 0) - 1)]) (pc := 26) Γ nd_Pl_chooseFirstSize_26 hO (rw_St_has l E ((σ 8 0) - 1)  q1.2 q3 q3h) 1 nm_Pl_91 nm_im_St_has nm_se_St_has nm_ini_St nh_St_has (rl_o8 E) rfl ⟨rfl, rfl⟩ (by decide +kernel) (Nat.le_of_ble_eq_true rfl) (Nat.le_of_ble_eq_true rfl) ⟨Nat.zero_le _, Nat.zero_le _⟩ (Nat.le_of_ble_eq_true rfl) rfl rfl ?_
    refine rl_if_ne (tgt := 33) (pc := 29) Γ nd_Pl_chooseFirstSize_29 (by decide) (fun q4 => ?_) (fun q4 => ?_)
    · have h := rl_iff q4 h
      refine rl_aload_n (pc := 33) Γ nd_Pl_chooseFirstSize_33 1 rfl ?_
      refine rl_get (pc := 34) Γ nd_Pl_chooseFirstSize_34 hO (k := 6) (rl_o3 E) rfl (by decide) rfl ⟨ni_Pl, nf_Pl_41⟩ ?_
      refine rl_iload_n (pc := 37) Γ nd_Pl_chooseFirstSize_37 0 rfl ?_
      obtain ⟨q5, h⟩ := rl_if h
      refine rl_ald (pc := 38) Γ nd_Pl_chooseFirstSize_38 hO (rl_a15 E) (rl_ib_in q5) ?_
      refine rl_astore (L' := [(4, .ref (E.1 (rl_cv ((σ 8 0) - 1)))), (3, .int ((σ 8 0) - 1)), (0, .ref (E.1 3)), (1, .int x1), (2, .int x2)]) (pc := 39) Γ nd_Pl_chooseFirstSize_39 (by decide) rfl ?_
      refine rl_aload_n (pc := 41) Γ nd_Pl_chooseFirstSize_41 2 rfl ?_
      obtain ⟨q6, q6h, h⟩ := rl_bd h
      refine rl_callVi (As := []) (pc := 42) Γ nd_Pl_chooseFirstSize_42 hO (rw_Pl_bestWidth l E   q3.2 q6 q6h) 0 nm_Pl_77 nm_im_Pl_bestWidth nm_se_Pl_bestWidth nm_ini_Pl nh_Pl_bestWidth (rl_o3 E) rfl ⟨rfl, rfl⟩ (by decide +kernel) (Nat.le_of_ble_eq_true rfl) (Nat.le_of_ble_eq_true rfl) ⟨Nat.zero_le _, Nat.zero_le _⟩ (Nat.le_of_ble_eq_true rfl) rfl rfl ?_
      refine rl_istore (L' := [(5, .int q6.1), (4, .ref (E.1 (rl_cv ((σ 8 0) - 1)))), (3, .int ((σ 8 0) - 1)), (0, .ref (E.1 3)), (1, .int x1), (2, .int x2)]) (pc := 45) Γ nd_Pl_chooseFirstSize_45 (by decide) rfl ?_
      refine rl_aload_n (pc := 47) Γ nd_Pl_chooseFirstSize_47 3 rfl ?_
      obtain ⟨q7, q7h, h⟩ := rl_bd h
      refine rl_callVi (As := []) (pc := 48) Γ nd_Pl_chooseFirstSize_48 hO (rw_Pl_bestHeight l E   q6.2 q7 q7h) 0 nm_Pl_81 nm_im_Pl_bestHeight nm_se_Pl_bestHeight nm_ini_Pl nh_Pl_bestHeight (rl_o3 E) rfl ⟨rfl, rfl⟩ (by decide +kernel) (Nat.le_of_ble_eq_true rfl) (Nat.le_of_ble_eq_true rfl) ⟨Nat.zero_le _, Nat.zero_le _⟩ (Nat.le_of_ble_eq_true rfl) rfl rfl ?_
      refine rl_istore (L' := [(6, .int q7.1), (5, .int q6.1), (4, .ref (E.1 (rl_cv ((σ 8 0) - 1)))), (3, .int ((σ 8 0) - 1)), (0, .ref (E.1 3)), (1, .int x1), (2, .int x2)]) (pc := 51) Γ nd_Pl_chooseFirstSize_51 (by decide) rfl ?_
      refine rl_iconst (v := 0) (pc := 53) Γ nd_Pl_chooseFirstSize_53 (by decide) ?_
      refine rl_istore (L' := [(7, .int 0), (6, .int q7.1), (5, .int q6.1), (4, .ref (E.1 (rl_cv ((σ 8 0) - 1)))), (3, .int ((σ 8 0) - 1)), (0, .ref (E.1 3)), (1, .int x1), (2, .int x2)]) (pc := 54) Γ nd_Pl_chooseFirstSize_54 (by decide) rfl ?_
      refine rl_Gsub [5, 6, 7, 3, 2, 1, 0] rfl (rw_Pl_chooseFirstSize_L56 Γ hO hr hk x1 x2 (rl_cv ((σ 8 0) - 1)) q6.1 q7.1 (rl_cv_ok q5)   10000 0 q7.2 h)
    · have h := rl_ift q4 h
      exact rl_vret (pc := 32) Γ nd_Pl_chooseFirstSize_32 hr hk h
def rf_Pl_setCornersOfParts_J103 (x1 : Int32) (x2 : Int32) (x3 : Int32) (x4 : Int32) (s0 : Int32) (s1 : Int32) (s2 : Int32)  (σ : rl_M) : Option (Int32 × rl_M) := (if rl_ib s2 11 = true then (if rl_ib x1 11 = true then (if x4 = 0 then ((rf_Pl_nodeHeight x2 (rl_su σ 17 s2.toNatClampNeg (s1 + s0))).bind (fun q18 => (if rl_ib x3 11 = true then some (0, rl_su q18.2 18 x3.toNatClampNeg (((rl_su σ 17 s2.toNatClampNeg (s1 + s0)) 18 x1.toNatClampNeg) + q18.1)) else none))) else (if rl_ib x3 11 = true then some (0, rl_su (rl_su σ 17 s2.toNatClampNeg (s1 + s0)) 18 x3.toNatClampNeg (((rl_su σ 17 s2.toNatClampNeg (s1 + s0)) 18 x1.toNatClampNeg) + 0)) else none)) else none) else none)
def rf_Pl_setCornersOfParts_J52 (x1 : Int32) (x2 : Int32) (x3 : Int32) (s0 : Int32)  (σ : rl_M) : Option (Int32 × rl_M) := (if rl_ib x1 11 = true then (if rl_ib x2 11 = true then (if rl_ib x1 11 = true then (if rl_ib x2 11 = true then (if rl_ib x1 11 = true then (if s0 = 0 then rf_Pl_setCornersOfParts_J103 x1 x2 x3 s0 0 ((rl_su (rl_su σ 17 x2.toNatClampNeg (σ 17 x1.toNatClampNeg)) 18 x2.toNatClampNeg ((rl_su σ 17 x2.toNatClampNeg (σ 17 x1.toNatClampNeg)) 18 x1.toNatClampNeg)) 17 x1.toNatClampNeg) x3  (rl_su (rl_su σ 17 x2.toNatClampNeg (σ 17 x1.toNatClampNeg)) 18 x2.toNatClampNeg ((rl_su σ 17 x2.toNatClampNeg (σ 17 x1.toNatClampNeg)) 18 x1.toNatClampNeg)) else ((rf_Pl_nodeWidth x2 (rl_su (rl_su σ 17 x2.toNatClampNeg (σ 17 x1.toNatClampNeg)) 18 x2.toNatClampNeg ((rl_su σ 17 x2.toNatClampNeg (σ 17 x1.toNatClampNeg)) 18 x1.toNatClampNeg))).bind (fun q21 => rf_Pl_setCornersOfParts_J103 x1 x2 x3 s0 q21.1 ((rl_su (rl_su σ 17 x2.toNatClampNeg (σ 17 x1.toNatClampNeg)) 18 x2.toNatClampNeg ((rl_su σ 17 x2.toNatClampNeg (σ 17 x1.toNatClampNeg)) 18 x1.toNatClampNeg)) 17 x1.toNatClampNeg) x3  q21.2))) else none) else none) else none) else none) else none)
def rf_Pl_setCornersOfParts (x1 : Int32) (x2 : Int32) (x3 : Int32) (σ : rl_M) : Option (Int32 × rl_M) := ((rf_St_has x1 σ).bind (fun q1 => (if q1.1 = 0 then some (0, q1.2) else ((rf_St_has x2 q1.2).bind (fun q3 => (if q3.1 = 0 then some (0, q3.2) else ((rf_St_has x3 q3.2).bind (fun q5 => (if q5.1 = 0 then some (0, q5.2) else ((rf_St_signAt x1 q5.2).bind (fun q7 => (if q7.1 = 124 then rf_Pl_setCornersOfParts_J52 x1 x2 x3 1  q7.2 else rf_Pl_setCornersOfParts_J52 x1 x2 x3 0  q7.2))))))))))))
set_option maxHeartbeats 4000000 in
set_option maxRecDepth 100000 in
theorem rw_Pl_setCornersOfParts_J103 {p : Program} {l : Launch} {e : Env} {s : State} {m : MethodId} {args : Array Value} {below : List Frame} {meth : Method} {c : Code} {E : rl_E} (Γ : CallFix p m c nc_Pl_setCornersOfParts 5 s args rl_TT nR_Pl) (hO : rl_Ok E s) (hr : meth.sig.returnType = none) (hk : meth.locks = false)  (x1 : Int32) (x2 : Int32) (x3 : Int32) (x4 : Int32) (s0 : Int32) (s1 : Int32) (s2 : Int32)   {r : Int32 × rl_M}  (σ : rl_M) (h : rf_Pl_setCornersOfParts_J103 x1 x2 x3 x4 s0 s1 s2  σ = some r) : rl_G p l e nr_Pl_setCornersOfParts s m args below meth c 5 E 0 0 (rl_QM below args s E rl_rv r) σ 103 [(0, .ref (E.1 3)), (1, .int x1), (2, .int x2), (3, .int x3), (4, .int x4)] [.int s0, .int s1, .int s2, .ref (E.1 17)] := by
  unfold rf_Pl_setCornersOfParts_J103 at h
  refine rl_iadd (pc := 103) Γ nd_Pl_setCornersOfParts_103 ?_
  obtain ⟨q15, h⟩ := rl_if h
  refine rl_ist (pc := 104) Γ nd_Pl_setCornersOfParts_104 hO (rl_a17 E) (rl_ib_in q15) ?_
  refine rl_aload_n (pc := 105) Γ nd_Pl_setCornersOfParts_105 0 rfl ?_
  refine rl_get (pc := 106) Γ nd_Pl_setCornersOfParts_106 hO (k := 11) (rl_o3 E) rfl (by decide) rfl ⟨ni_Pl, nf_Pl_60⟩ ?_
  refine rl_iload_n (pc := 109) Γ nd_Pl_setCornersOfParts_109 3 rfl ?_
  refine rl_aload_n (pc := 110) Γ nd_Pl_setCornersOfParts_110 0 rfl ?_
  refine rl_get (pc := 111) Γ nd_Pl_setCornersOfParts_111 hO (k := 11) (rl_o3 E) rfl (by decide) rfl ⟨ni_Pl, nf_Pl_60⟩ ?_
  refine rl_iload_n (pc := 114) Γ nd_Pl_setCornersOfParts_114 1 rfl ?_
  obtain ⟨q16, h⟩ := rl_if h
  refine rl_ild (pc := 115) Γ nd_Pl_setCornersOfParts_115 hO (rl_a18 E) (rl_ib_in q16) ?_
  refine rl_iload (pc := 116) Γ nd_Pl_setCornersOfParts_116 4 rfl ?_
  refine rl_if_eq (tgt := 125) (pc := 118) Γ nd_Pl_setCornersOfParts_118 (by decide) (fun q17 => ?_) (fun q17 => ?_)
  · have h := rl_ift q17 h
    refine rl_aload_n (pc := 125) Γ nd_Pl_setCornersOfParts_125 0 rfl ?_
    refine rl_iload_n (pc := 126) Γ nd_Pl_setCornersOfParts_126 2 rfl ?_
    obtain ⟨q18, q18h, h⟩ := rl_bd h
    refine rl_callVi (As := [.int x2]) (pc := 127) Γ nd_Pl_setCornersOfParts_127 hO (rw_Pl_nodeHeight l E x2  (rl_su σ 17 s2.toNatClampNeg (s1 + s0)) q18 q18h) 1 nm_Pl_98 nm_im_Pl_nodeHeight nm_se_Pl_nodeHeight nm_ini_Pl nh_Pl_nodeHeight (rl_o3 E) rfl ⟨rfl, rfl⟩ (by decide +kernel) (Nat.le_of_ble_eq_true rfl) (Nat.le_of_ble_eq_true rfl) ⟨Nat.zero_le _, Nat.zero_le _⟩ (Nat.le_of_ble_eq_true rfl) rfl rfl ?_
    refine rl_iadd (pc := 130) Γ nd_Pl_setCornersOfParts_130 ?_
    obtain ⟨q19, h⟩ := rl_if h
    refine rl_ist (pc := 131) Γ nd_Pl_setCornersOfParts_131 hO (rl_a18 E) (rl_ib_in q19) ?_
    exact rl_vret (pc := 132) Γ nd_Pl_setCornersOfParts_132 hr hk h
  · have h := rl_iff q17 h
    refine rl_iconst (v := 0) (pc := 121) Γ nd_Pl_setCornersOfParts_121 (by decide) ?_
    refine rl_goto (tgt := 130) (pc := 122) Γ nd_Pl_setCornersOfParts_122 (by decide) ?_
    refine rl_iadd (pc := 130) Γ nd_Pl_setCornersOfParts_130 ?_
    obtain ⟨q20, h⟩ := rl_if h
    refine rl_ist (pc := 131) Γ nd_Pl_setCornersOfParts_131 hO (rl_a18 E) (rl_ib_in q20) ?_
    exact rl_vret (pc := 132) Γ nd_Pl_setCornersOfParts_132 hr hk h
set_option maxHeartbeats 4000000 in
set_option maxRecDepth 100000 in
theorem rw_Pl_setCornersOfParts_J52 {p : Program} {l : Launch} {e : Env} {s : State} {m : MethodId} {args : Array Value} {below : List Frame} {meth : Method} {c : Code} {E : rl_E} (Γ : CallFix p m c nc_Pl_setCornersOfParts 5 s args rl_TT nR_Pl) (hO : rl_Ok E s) (hr : meth.sig.returnType = none) (hk : meth.locks = false)  (x1 : Int32) (x2 : Int32) (x3 : Int32) (s0 : Int32)   {r : Int32 × rl_M}  (σ : rl_M) (h : rf_Pl_setCornersOfParts_J52 x1 x2 x3 s0  σ = some r) : rl_G p l e nr_Pl_setCornersOfParts s m args below meth c 5 E 0 0 (rl_QM below args s E rl_rv r) σ 52 [(0, .ref (E.1 3)), (1, .int x1), (2, .int x2), (3, .int x3)] [.int s0] := by
  unfold rf_Pl_setCornersOfParts_J52 at h
  refine rl_istore (L' := [(4, .int s0), (0, .ref (E.1 3)), (1, .int x1), (2, .int x2), (3, .int x3)]) (pc := 52) Γ nd_Pl_setCornersOfParts_52 (by decide) rfl ?_
  refine rl_aload_n (pc := 54) Γ nd_Pl_setCornersOfParts_54 1 rfl ?_
  refine rl_get (pc := 55) Γ nd_Pl_setCornersOfParts_55 hO (k := 10) (rl_o3 E) rfl (by decide) rfl ⟨ni_Pl, nf_Pl_57⟩ ?_
  refine rl_iload_n (pc := 58) Γ nd_Pl_setCornersOfParts_58 3 rfl ?_
  refine rl_aload_n (pc := 59) Γ nd_Pl_setCornersOfParts_59 1 rfl ?_
  refine rl_get (pc := 60) Γ nd_Pl_setCornersOfParts_60 hO (k := 10) (rl_o3 E) rfl (by decide) rfl ⟨ni_Pl, nf_Pl_57⟩ ?_
  refine rl_iload_n (pc := 63) Γ nd_Pl_setCornersOfParts_63 2 rfl ?_
  obtain ⟨q9, h⟩ := rl_if h
  refine rl_ild (pc := 64) Γ nd_Pl_setCornersOfParts_64 hO (rl_a17 E) (rl_ib_in q9) ?_
  obtain ⟨q10, h⟩ := rl_if h
  refine rl_ist (pc := 65) Γ nd_Pl_setCornersOfParts_65 hO (rl_a17 E) (rl_ib_in q10) ?_
  refine rl_aload_n (pc := 66) Γ nd_Pl_setCornersOfParts_66 1 rfl ?_
  refine rl_get (pc := 67) Γ nd_Pl_setCornersOfParts_67 hO (k := 11) (rl_o3 E) rfl (by decide) rfl ⟨ni_Pl, nf_Pl_60⟩ ?_
  refine rl_iload_n (pc := 70) Γ nd_Pl_setCornersOfParts_70 3 rfl ?_
  refine rl_aload_n (pc := 71) Γ nd_Pl_setCornersOfParts_71 1 rfl ?_
  refine rl_get (pc := 72) Γ nd_Pl_setCornersOfParts_72 hO (k := 11) (rl_o3 E) rfl (by decide) rfl ⟨ni_Pl, nf_Pl_60⟩ ?_
  refine rl_iload_n (pc := 75) Γ nd_Pl_setCornersOfParts_75 2 rfl ?_
  obtain ⟨q11, h⟩ := rl_if h
  refine rl_ild (pc := 76) Γ nd_Pl_setCornersOfParts_76 hO (rl_a18 E) (rl_ib_in q11) ?_
  obtain ⟨q12, h⟩ := rl_if h
  refine rl_ist (pc := 77) Γ nd_Pl_setCornersOfParts_77 hO (rl_a18 E) (rl_ib_in q12) ?_
  refine rl_aload_n (pc := 78) Γ nd_Pl_setCornersOfParts_78 1 rfl ?_
  refine rl_get (pc := 79) Γ nd_Pl_setCornersOfParts_79 hO (k := 10) (rl_o3 E) rfl (by decide) rfl ⟨ni_Pl, nf_Pl_57⟩ ?_
  refine rl_iload_n (pc := 82) Γ nd_Pl_setCornersOfParts_82 4 rfl ?_
  refine rl_aload_n (pc := 83) Γ nd_Pl_setCornersOfParts_83 1 rfl ?_
  refine rl_get (pc := 84) Γ nd_Pl_setCornersOfParts_84 hO (k := 10) (rl_o3 E) rfl (by decide) rfl ⟨ni_Pl, nf_Pl_57⟩ ?_
  refine rl_iload_n (pc := 87) Γ nd_Pl_setCornersOfParts_87 2 rfl ?_
  obtain ⟨q13, h⟩ := rl_if h
  refine rl_ild (pc := 88) Γ nd_Pl_setCornersOfParts_88 hO (rl_a17 E) (rl_ib_in q13) ?_
  refine rl_iload (pc := 89) Γ nd_Pl_setCornersOfParts_89 0 rfl ?_
  refine rl_if_eq (tgt := 102) (pc := 91) Γ nd_Pl_setCornersOfParts_91 (by decide) (fun q14 => ?_) (fun q14 => ?_)
  · have h := rl_ift q14 h
    refine rl_iconst (v := 0) (pc := 102) Γ nd_Pl_setCornersOfParts_102 (by decide) ?_
    exact rl_Gsub [1, 2, 3, 4, 0] rfl (rw_Pl_setCornersOfParts_J103 Γ hO hr hk x1 x2 x3 s0 0 ((rl_su (rl_su σ 17 x2.toNatClampNeg (σ 17 x1.toNatClampNeg)) 18 x2.toNatClampNeg ((rl_su σ 17 x2.toNatClampNeg (σ 17 x1.toNatClampNeg)) 18 x1.toNatClampNeg)) 17 x1.toNatClampNeg) x3   (rl_su (rl_su σ 17 x2.toNatClampNeg (σ 17 x1.toNatClampNeg)) 18 x2.toNatClampNeg ((rl_su σ 17 x2.toNatClampNeg (σ 17 x1.toNatClampNeg)) 18 x1.toNatClampNeg)) h)
  · have h := rl_iff q14 h
    refine rl_aload_n (pc := 94) Γ nd_Pl_setCornersOfParts_94 1 rfl ?_
    refine rl_iload_n (pc := 95) Γ nd_Pl_setCornersOfParts_95 3 rfl ?_
    obtain ⟨q21, q21h, h⟩ := rl_bd h
    refine rl_callVi (As := [.int x2]) (pc := 96) Γ nd_Pl_setCornersOfParts_96 hO (rw_Pl_nodeWidth l E x2  (rl_su (rl_su σ 17 x2.toNatClampNeg (σ 17 x1.toNatClampNeg)) 18 x2.toNatClampNeg ((rl_su σ 17 x2.toNatClampNeg (σ 17 x1.toNatClampNeg)) 18 x1.toNatClampNeg)) q21 q21h) 1 nm_Pl_95 nm_im_Pl_nodeWidth nm_se_Pl_nodeWidth nm_ini_Pl nh_Pl_nodeWidth (rl_o3 E) rfl ⟨rfl, rfl⟩ (by decide +kernel) (Nat.le_of_ble_eq_true rfl) (Nat.le_of_ble_eq_true rfl) ⟨Nat.zero_le _, Nat.zero_le _⟩ (Nat.le_of_ble_eq_true rfl) rfl rfl ?_
    refine rl_goto (tgt := 103) (pc := 99) Γ nd_Pl_setCornersOfParts_99 (by decide) ?_
    exact rl_Gsub [1, 2, 3, 4, 0] rfl (rw_Pl_setCornersOfParts_J103 Γ hO hr hk x1 x2 x3 s0 q21.1 ((rl_su (rl_su σ 17 x2.toNatClampNeg (σ 17 x1.toNatClampNeg)) 18 x2.toNatClampNeg ((rl_su σ 17 x2.toNatClampNeg (σ 17 x1.toNatClampNeg)) 18 x1.toNatClampNeg)) 17 x1.toNatClampNeg) x3   q21.2 h)
set_option maxHeartbeats 4000000 in
set_option maxRecDepth 100000 in
theorem rw_Pl_setCornersOfParts (l : Launch) (E : rl_E) (x1 : Int32) (x2 : Int32) (x3 : Int32)  (σ : rl_M) (r : Int32 × rl_M) (h : rf_Pl_setCornersOfParts x1 x2 x3 σ = some r) : Met l ny_Pl_setCornersOfParts nw_Pl_setCornersOfParts nr_Pl_setCornersOfParts (rl_P E [.ref (E.1 3), .int x1, .int x2, .int x3] σ) (rl_Q E (rl_rv r.1) r.2) 0 0 (rl_A E) := by
  refine Met.ofW (cc := nc_Pl_setCornersOfParts) (maxL := 5) (ret := none) (by decide) rfl ?_
  intro p e s m args below meth c s₁ B hml hv
  obtain ⟨rfl, hP, hO⟩ := hv
  have Γ : CallFix p m c nc_Pl_setCornersOfParts 5 s ([.ref (E.1 3), .int x1, .int x2, .int x3] : List Value).toArray rl_TT nR_Pl := ⟨B.exec, B.bytes, hml, findClass_of_methodNamed B.named, fun w hw => atoms_spec (ws := nw_Pl_setCornersOfParts) B.pre w (List.mem_cons_of_mem _ hw)⟩
  have hr := B.returns
  have hk := B.notSynchronized
  refine rl_start (R := nr_Pl_setCornersOfParts) (Q := rl_QM below _ s E rl_rv r) (nL := 5) (av := [.ref (E.1 3), .int x1, .int x2, .int x3]) (σ := σ) hP (Nat.le_of_ble_eq_true rfl) ?_
  unfold rf_Pl_setCornersOfParts at h
  refine rl_aload_n (pc := 0) Γ nd_Pl_setCornersOfParts_0 0 rfl ?_
  refine rl_get (pc := 1) Γ nd_Pl_setCornersOfParts_1 hO (k := 1) (rl_o3 E) rfl (by decide) rfl ⟨ni_Pl, nf_Pl_21⟩ ?_
  refine rl_iload_n (pc := 4) Γ nd_Pl_setCornersOfParts_4 1 rfl ?_
  obtain ⟨q1, q1h, h⟩ := rl_bd h
  refine rl_callVi (As := [.int x1]) (pc := 5) Γ nd_Pl_setCornersOfParts_5 hO (rw_St_has l E x1  σ q1 q1h) 1 nm_Pl_91 nm_im_St_has nm_se_St_has nm_ini_St nh_St_has (rl_o8 E) rfl ⟨rfl, rfl⟩ (by decide +kernel) (Nat.le_of_ble_eq_true rfl) (Nat.le_of_ble_eq_true rfl) ⟨Nat.zero_le _, Nat.zero_le _⟩ (Nat.le_of_ble_eq_true rfl) rfl rfl ?_
  refine rl_if_eq (tgt := 33) (pc := 8) Γ nd_Pl_setCornersOfParts_8 (by decide) (fun q2 => ?_) (fun q2 => ?_)
  · have h := rl_ift q2 h
    exact rl_vret (pc := 33) Γ nd_Pl_setCornersOfParts_33 hr hk h
  · have h := rl_iff q2 h
    refine rl_aload_n (pc := 11) Γ nd_Pl_setCornersOfParts_11 0 rfl ?_
    refine rl_get (pc := 12) Γ nd_Pl_setCornersOfParts_12 hO (k := 1) (rl_o3 E) rfl (by decide) rfl ⟨ni_Pl, nf_Pl_21⟩ ?_
    refine rl_iload_n (pc := 15) Γ nd_Pl_setCornersOfParts_15 2 rfl ?_
    obtain ⟨q3, q3h, h⟩ := rl_bd h
    refine rl_callVi (As := [.int x2]) (pc := 16) Γ nd_Pl_setCornersOfParts_16 hO (rw_St_has l E x2  q1.2 q3 q3h) 1 nm_Pl_91 nm_im_St_has nm_se_St_has nm_ini_St nh_St_has (rl_o8 E) rfl ⟨rfl, rfl⟩ (by decide +kernel) (Nat.le_of_ble_eq_true rfl) (Nat.le_of_ble_eq_true rfl) ⟨Nat.zero_le _, Nat.zero_le _⟩ (Nat.le_of_ble_eq_true rfl) rfl rfl ?_
    refine rl_if_eq (tgt := 33) (pc := 19) Γ nd_Pl_setCornersOfParts_19 (by decide) (fun q4 => ?_) (fun q4 => ?_)
    · have h := rl_ift q4 h
      exact rl_vret (pc := 33) Γ nd_Pl_setCornersOfParts_33 hr hk h
    · have h := rl_iff q4 h
      refine rl_aload_n (pc := 22) Γ nd_Pl_setCornersOfParts_22 0 rfl ?_
      refine rl_get (pc := 23) Γ nd_Pl_setCornersOfParts_23 hO (k := 1) (rl_o3 E) rfl (by decide) rfl ⟨ni_Pl, nf_Pl_21⟩ ?_
      refine rl_iload_n (pc := 26) Γ nd_Pl_setCornersOfParts_26 3 rfl ?_
      obtain ⟨q5, q5h, h⟩ := rl_bd h
      refine rl_callVi (As := [.int x3]) (pc := 27) Γ nd_Pl_setCornersOfParts_27 hO (rw_St_has l E x3  q3.2 q5 q5h) 1 nm_Pl_91 nm_im_St_has nm_se_St_has nm_ini_St nh_St_has (rl_o8 E) rfl ⟨rfl, rfl⟩ (by decide +kernel) (Nat.le_of_ble_eq_true rfl) (Nat.le_of_ble_eq_true rfl) ⟨Nat.zero_le _, Nat.zero_le _⟩ (Nat.le_of_ble_eq_true rfl) rfl rfl ?_
      refine rl_if_ne (tgt := 34) (pc := 30) Γ nd_Pl_setCornersOfParts_30 (by decide) (fun q6 => ?_) (fun q6 => ?_)
      · have h := rl_iff q6 h
        refine rl_aload_n (pc := 34) Γ nd_Pl_setCornersOfParts_34 0 rfl ?_
        refine rl_get (pc := 35) Γ nd_Pl_setCornersOfParts_35 hO (k := 1) (rl_o3 E) rfl (by decide) rfl ⟨ni_Pl, nf_Pl_21⟩ ?_
        refine rl_iload_n (pc := 38) Γ nd_Pl_setCornersOfParts_38 1 rfl ?_
        obtain ⟨q7, q7h, h⟩ := rl_bd h
        refine rl_callVi (As := [.int x1]) (pc := 39) Γ nd_Pl_setCornersOfParts_39 hO (rw_St_signAt l E x1  q5.2 q7 q7h) 1 nm_Pl_152 nm_im_St_signAt nm_se_St_signAt nm_ini_St nh_St_signAt (rl_o8 E) rfl ⟨rfl, rfl⟩ (by decide +kernel) (Nat.le_of_ble_eq_true rfl) (Nat.le_of_ble_eq_true rfl) ⟨Nat.zero_le _, Nat.zero_le _⟩ (Nat.le_of_ble_eq_true rfl) rfl rfl ?_
        refine rl_bipush (v := 124) (pc := 42) Γ nd_Pl_setCornersOfParts_42 (by decide) ?_
        refine rl_icmp_ne (tgt := 51) (pc := 44) Γ nd_Pl_setCornersOfParts_44 (by decide) (fun q8 => ?_) (fun q8 => ?_)
        · have h := rl_iff q8 h
          refine rl_iconst (v := 0) (pc := 51) Γ nd_Pl_setCornersOfParts_51 (by decide) ?_
          exact rl_Gsub [0, 1, 2, 3] rfl (rw_Pl_setCornersOfParts_J52 Γ hO hr hk x1 x2 x3 0   q7.2 h)
        · have h := rl_ift q8 h
          refine rl_iconst (v := 1) (pc := 47) Γ nd_Pl_setCornersOfParts_47 (by decide) ?_
          refine rl_goto (tgt := 52) (pc := 48) Γ nd_Pl_setCornersOfParts_48 (by decide) ?_
          exact rl_Gsub [0, 1, 2, 3] rfl (rw_Pl_setCornersOfParts_J52 Γ hO hr hk x1 x2 x3 1   q7.2 h)
      · have h := rl_ift q6 h
        exact rl_vret (pc := 33) Γ nd_Pl_setCornersOfParts_33 hr hk h
def rf_Pl_setCorners_L38   : Nat → Int32 → rl_M → Option (Int32 × rl_M)
  | 0, _, _ => none
  | n + 1, x2, σ => (if x2 < 0 then some (0, σ) else ((rf_St_roomAt x2 σ).bind (fun q6 => (if q6.1 = ((-1)) then ((rf_St_firstOf x2 q6.2).bind (fun q8 => ((rf_St_secondOf x2 q8.2).bind (fun q9 => ((rf_Pl_setCornersOfParts x2 q8.1 q9.1 q9.2).bind (fun q10 => rf_Pl_setCorners_L38   n (x2 + (-1)) q10.2)))))) else rf_Pl_setCorners_L38   n (x2 + (-1)) q6.2))))
def rf_Pl_setCorners  (σ : rl_M) : Option (Int32 × rl_M) := ((rf_St_has ((σ 8 0) - 1) σ).bind (fun q1 => (if q1.1 = 0 then some (0, q1.2) else (if rl_ib ((σ 8 0) - 1) 11 = true then (if rl_ib ((σ 8 0) - 1) 11 = true then rf_Pl_setCorners_L38   10000 ((σ 8 0) - 1) (rl_su (rl_su q1.2 17 ((σ 8 0) - 1).toNatClampNeg 0) 18 ((σ 8 0) - 1).toNatClampNeg 0) else none) else none))))
set_option maxHeartbeats 4000000 in
set_option maxRecDepth 100000 in
theorem rw_Pl_setCorners_L38 {p : Program} {l : Launch} {e : Env} {s : State} {m : MethodId} {args : Array Value} {below : List Frame} {meth : Method} {c : Code} {E : rl_E} (Γ : CallFix p m c nc_Pl_setCorners 3 s args rl_TT nR_Pl) (hO : rl_Ok E s) (hr : meth.sig.returnType = none) (hk : meth.locks = false)    {r : Int32 × rl_M}  : ∀ (n : Nat) (x2 : Int32) (σ : rl_M), rf_Pl_setCorners_L38   n x2 σ = some r → rl_G p l e nr_Pl_setCorners s m args below meth c 3 E 0 0 (rl_QM below args s E rl_rv r) σ 38 [(0, .ref (E.1 3)), (2, .int x2)] [] := by
  intro n
  induction n with
  | zero =>
    intro x2 σ h
    exact (rl_ns (show none = some r from h)).elim
  | succ n ih =>
    intro x2 σ h
    unfold rf_Pl_setCorners_L38 at h
    refine rl_iload_n (pc := 38) Γ nd_Pl_setCorners_38 1 rfl ?_
    refine rl_if_lt (tgt := 81) (pc := 39) Γ nd_Pl_setCorners_39 (by decide) (fun q5 => ?_) (fun q5 => ?_)
    · have h := rl_ift q5 h
      exact rl_vret (pc := 81) Γ nd_Pl_setCorners_81 hr hk h
    · have h := rl_iff q5 h
      refine rl_aload_n (pc := 42) Γ nd_Pl_setCorners_42 0 rfl ?_
      refine rl_get (pc := 43) Γ nd_Pl_setCorners_43 hO (k := 1) (rl_o3 E) rfl (by decide) rfl ⟨ni_Pl, nf_Pl_21⟩ ?_
      refine rl_iload_n (pc := 46) Γ nd_Pl_setCorners_46 1 rfl ?_
      obtain ⟨q6, q6h, h⟩ := rl_bd h
      refine rl_callVi (As := [.int x2]) (pc := 47) Γ nd_Pl_setCorners_47 hO (rw_St_roomAt l E x2  σ q6 q6h) 1 nm_Pl_113 nm_im_St_roomAt nm_se_St_roomAt nm_ini_St nh_St_roomAt (rl_o8 E) rfl ⟨rfl, rfl⟩ (by decide +kernel) (Nat.le_of_ble_eq_true rfl) (Nat.le_of_ble_eq_true rfl) ⟨Nat.zero_le _, Nat.zero_le _⟩ (Nat.le_of_ble_eq_true rfl) rfl rfl ?_
      refine rl_iconst (v := (-1)) (pc := 50) Γ nd_Pl_setCorners_50 (by decide) ?_
      refine rl_icmp_ne (tgt := 75) (pc := 51) Γ nd_Pl_setCorners_51 (by decide) (fun q7 => ?_) (fun q7 => ?_)
      · have h := rl_iff q7 h
        refine rl_iinc (v := x2 + (-1)) (L' := [(2, .int (x2 + (-1))), (0, .ref (E.1 3))]) (pc := 75) Γ nd_Pl_setCorners_75 1 rfl rfl (by decide) rfl ?_
        refine rl_goto (tgt := 38) (pc := 78) Γ nd_Pl_setCorners_78 (by decide) ?_
        exact rl_Gsub [1, 0] rfl (ih (x2 + (-1)) q6.2 h)
      · have h := rl_ift q7 h
        refine rl_aload_n (pc := 54) Γ nd_Pl_setCorners_54 0 rfl ?_
        refine rl_iload_n (pc := 55) Γ nd_Pl_setCorners_55 1 rfl ?_
        refine rl_aload_n (pc := 56) Γ nd_Pl_setCorners_56 0 rfl ?_
        refine rl_get (pc := 57) Γ nd_Pl_setCorners_57 hO (k := 1) (rl_o3 E) rfl (by decide) rfl ⟨ni_Pl, nf_Pl_21⟩ ?_
        refine rl_iload_n (pc := 60) Γ nd_Pl_setCorners_60 1 rfl ?_
        obtain ⟨q8, q8h, h⟩ := rl_bd h
        refine rl_callVi (As := [.int x2]) (pc := 61) Γ nd_Pl_setCorners_61 hO (rw_St_firstOf l E x2  q6.2 q8 q8h) 1 nm_Pl_146 nm_im_St_firstOf nm_se_St_firstOf nm_ini_St nh_St_firstOf (rl_o8 E) rfl ⟨rfl, rfl⟩ (by decide +kernel) (Nat.le_of_ble_eq_true rfl) (Nat.le_of_ble_eq_true rfl) ⟨Nat.zero_le _, Nat.zero_le _⟩ (Nat.le_of_ble_eq_true rfl) rfl rfl ?_
        refine rl_aload_n (pc := 64) Γ nd_Pl_setCorners_64 0 rfl ?_
        refine rl_get (pc := 65) Γ nd_Pl_setCorners_65 hO (k := 1) (rl_o3 E) rfl (by decide) rfl ⟨ni_Pl, nf_Pl_21⟩ ?_
        refine rl_iload_n (pc := 68) Γ nd_Pl_setCorners_68 1 rfl ?_
        obtain ⟨q9, q9h, h⟩ := rl_bd h
        refine rl_callVi (As := [.int x2]) (pc := 69) Γ nd_Pl_setCorners_69 hO (rw_St_secondOf l E x2  q8.2 q9 q9h) 1 nm_Pl_149 nm_im_St_secondOf nm_se_St_secondOf nm_ini_St nh_St_secondOf (rl_o8 E) rfl ⟨rfl, rfl⟩ (by decide +kernel) (Nat.le_of_ble_eq_true rfl) (Nat.le_of_ble_eq_true rfl) ⟨Nat.zero_le _, Nat.zero_le _⟩ (Nat.le_of_ble_eq_true rfl) rfl rfl ?_
        obtain ⟨q10, q10h, h⟩ := rl_bd h
        refine rl_callVv (As := [.int x2, .int q8.1, .int q9.1]) (pc := 72) Γ nd_Pl_setCorners_72 hO (rw_Pl_setCornersOfParts l E x2 q8.1 q9.1  q9.2 q10 q10h) 3 nm_Pl_186 nm_im_Pl_setCornersOfParts nm_se_Pl_setCornersOfParts nm_ini_Pl nh_Pl_setCornersOfParts (rl_o3 E) rfl ⟨rfl, rfl⟩ (by decide +kernel) (Nat.le_of_ble_eq_true rfl) (Nat.le_of_ble_eq_true rfl) ⟨Nat.zero_le _, Nat.zero_le _⟩ (Nat.le_of_ble_eq_true rfl) rfl rfl ?_
        refine rl_iinc (v := x2 + (-1)) (L' := [(2, .int (x2 + (-1))), (0, .ref (E.1 3))]) (pc := 75) Γ nd_Pl_setCorners_75 1 rfl rfl (by decide) rfl ?_
        refine rl_goto (tgt := 38) (pc := 78) Γ nd_Pl_setCorners_78 (by decide) ?_
        exact rl_Gsub [1, 0] rfl (ih (x2 + (-1)) q10.2 h)
set_option maxHeartbeats 4000000 in
set_option maxRecDepth 100000 in
theorem rw_Pl_setCorners (l : Launch) (E : rl_E)   (σ : rl_M) (r : Int32 × rl_M) (h : rf_Pl_setCorners  σ = some r) : Met l ny_Pl_setCorners nw_Pl_setCorners nr_Pl_setCorners (rl_P E [.ref (E.1 3)] σ) (rl_Q E (rl_rv r.1) r.2) 0 0 (rl_A E) := by
  refine Met.ofW (cc := nc_Pl_setCorners) (maxL := 3) (ret := none) (by decide) rfl ?_
  intro p e s m args below meth c s₁ B hml hv
  obtain ⟨rfl, hP, hO⟩ := hv
  have Γ : CallFix p m c nc_Pl_setCorners 3 s ([.ref (E.1 3)] : List Value).toArray rl_TT nR_Pl := ⟨B.exec, B.bytes, hml, findClass_of_methodNamed B.named, fun w hw => atoms_spec (ws := nw_Pl_setCorners) B.pre w (List.mem_cons_of_mem _ hw)⟩
  have hr := B.returns
  have hk := B.notSynchronized
  refine rl_start (R := nr_Pl_setCorners) (Q := rl_QM below _ s E rl_rv r) (nL := 3) (av := [.ref (E.1 3)]) (σ := σ) hP (Nat.le_of_ble_eq_true rfl) ?_
  unfold rf_Pl_setCorners at h
  refine rl_aload_n (pc := 0) Γ nd_Pl_setCorners_0 0 rfl ?_
  refine rl_get (pc := 1) Γ nd_Pl_setCorners_1 hO (k := 1) (rl_o3 E) rfl (by decide) rfl ⟨ni_Pl, nf_Pl_21⟩ ?_
  refine rl_get (pc := 4) Γ nd_Pl_setCorners_4 hO (k := 0) (rl_o8 E) rfl (by decide) rfl ⟨ni_St, nf_Pl_110⟩ ?_
  refine rl_iconst (v := 1) (pc := 7) Γ nd_Pl_setCorners_7 (by decide) ?_
  refine rl_isub (pc := 8) Γ nd_Pl_setCorners_8 ?_
  refine rl_istore_n (L' := [(1, .int ((σ 8 0) - 1)), (0, .ref (E.1 3))]) (pc := 9) Γ nd_Pl_setCorners_9 (by decide) rfl ?_
  refine rl_aload_n (pc := 10) Γ nd_Pl_setCorners_10 1 rfl ?_
  refine rl_get (pc := 11) Γ nd_Pl_setCorners_11 hO (k := 1) (rl_o3 E) rfl (by decide) rfl ⟨ni_Pl, nf_Pl_21⟩ ?_
  refine rl_iload_n (pc := 14) Γ nd_Pl_setCorners_14 0 rfl ?_
  obtain ⟨q1, q1h, h⟩ := rl_bd h
  refine rl_callVi (As := [.int ((σ 8 0) - 1)]) (pc := 15) Γ nd_Pl_setCorners_15 hO (rw_St_has l E ((σ 8 0) - 1)  σ q1 q1h) 1 nm_Pl_91 nm_im_St_has nm_se_St_has nm_ini_St nh_St_has (rl_o8 E) rfl ⟨rfl, rfl⟩ (by decide +kernel) (Nat.le_of_ble_eq_true rfl) (Nat.le_of_ble_eq_true rfl) ⟨Nat.zero_le _, Nat.zero_le _⟩ (Nat.le_of_ble_eq_true rfl) rfl rfl ?_
  refine rl_if_ne (tgt := 22) (pc := 18) Γ nd_Pl_setCorners_18 (by decide) (fun q2 => ?_) (fun q2 => ?_)
  · have h := rl_iff q2 h
    refine rl_aload_n (pc := 22) Γ nd_Pl_setCorners_22 1 rfl ?_
    refine rl_get (pc := 23) Γ nd_Pl_setCorners_23 hO (k := 10) (rl_o3 E) rfl (by decide) rfl ⟨ni_Pl, nf_Pl_57⟩ ?_
    refine rl_iload_n (pc := 26) Γ nd_Pl_setCorners_26 0 rfl ?_
    refine rl_iconst (v := 0) (pc := 27) Γ nd_Pl_setCorners_27 (by decide) ?_
    obtain ⟨q3, h⟩ := rl_if h
    refine rl_ist (pc := 28) Γ nd_Pl_setCorners_28 hO (rl_a17 E) (rl_ib_in q3) ?_
    refine rl_aload_n (pc := 29) Γ nd_Pl_setCorners_29 1 rfl ?_
    refine rl_get (pc := 30) Γ nd_Pl_setCorners_30 hO (k := 11) (rl_o3 E) rfl (by decide) rfl ⟨ni_Pl, nf_Pl_60⟩ ?_
    refine rl_iload_n (pc := 33) Γ nd_Pl_setCorners_33 0 rfl ?_
    refine rl_iconst (v := 0) (pc := 34) Γ nd_Pl_setCorners_34 (by decide) ?_
    obtain ⟨q4, h⟩ := rl_if h
    refine rl_ist (pc := 35) Γ nd_Pl_setCorners_35 hO (rl_a18 E) (rl_ib_in q4) ?_
    refine rl_iload_n (pc := 36) Γ nd_Pl_setCorners_36 0 rfl ?_
    refine rl_istore_n (L' := [(2, .int ((σ 8 0) - 1)), (1, .int ((σ 8 0) - 1)), (0, .ref (E.1 3))]) (pc := 37) Γ nd_Pl_setCorners_37 (by decide) rfl ?_
    refine rl_Gsub [2, 0] rfl (rw_Pl_setCorners_L38 Γ hO hr hk     10000 ((σ 8 0) - 1) (rl_su (rl_su q1.2 17 ((σ 8 0) - 1).toNatClampNeg 0) 18 ((σ 8 0) - 1).toNatClampNeg 0) h)
  · have h := rl_ift q2 h
    exact rl_vret (pc := 21) Γ nd_Pl_setCorners_21 hr hk h
def rf_Pl_settle_L21  (K51 : rl_M → Option (Int32 × rl_M)) : Nat → Int32 → rl_M → Option (Int32 × rl_M)
  | 0, _, _ => none
  | n + 1, x1, σ => (if (σ 4 0) ≤ x1 then K51  σ else ((rf_St_nodeOf x1 σ).bind (fun q6 => ((rf_Pl_chooseFirstSize q6.1 x1 q6.2).bind (fun q7 => rf_Pl_settle_L21  K51 n (x1 + 1) q7.2)))))
def rf_Pl_settle  (σ : rl_M) : Option (Int32 × rl_M) := ((rf_Pl_measure  σ).bind (fun q1 => (if (q1.2 3 5) = 0 then ((rf_Pl_hasBest  q1.2).bind (fun q3 => (if q3.1 = 0 then some (0, q3.2) else rf_Pl_settle_L21  (fun (q8m : rl_M) => ((rf_Pl_setCorners  q8m).bind (fun q9 => some (0, rl_su q9.2 3 5 1)))) 10000 0 q3.2))) else some (0, q1.2))))
set_option maxHeartbeats 4000000 in
set_option maxRecDepth 100000 in
theorem rw_Pl_settle_L21 {p : Program} {l : Launch} {e : Env} {s : State} {m : MethodId} {args : Array Value} {below : List Frame} {meth : Method} {c : Code} {E : rl_E} (Γ : CallFix p m c nc_Pl_settle 2 s args rl_TT nR_Pl) (hO : rl_Ok E s) (hr : meth.sig.returnType = none) (hk : meth.locks = false)   (K51 : rl_M → Option (Int32 × rl_M)) {r : Int32 × rl_M} (hK51 : ∀ (σ : rl_M), K51  σ = some r → rl_G p l e nr_Pl_settle s m args below meth c 2 E 0 0 (rl_QM below args s E rl_rv r) σ 51 [(0, .ref (E.1 3))] []) : ∀ (n : Nat) (x1 : Int32) (σ : rl_M), rf_Pl_settle_L21  K51 n x1 σ = some r → rl_G p l e nr_Pl_settle s m args below meth c 2 E 0 0 (rl_QM below args s E rl_rv r) σ 21 [(0, .ref (E.1 3)), (1, .int x1)] [] := by
  intro n
  induction n with
  | zero =>
    intro x1 σ h
    exact (rl_ns (show none = some r from h)).elim
  | succ n ih =>
    intro x1 σ h
    unfold rf_Pl_settle_L21 at h
    refine rl_iload_n (pc := 21) Γ nd_Pl_settle_21 1 rfl ?_
    refine rl_aload_n (pc := 22) Γ nd_Pl_settle_22 0 rfl ?_
    refine rl_get (pc := 23) Γ nd_Pl_settle_23 hO (k := 0) (rl_o3 E) rfl (by decide) rfl ⟨ni_Pl, nf_Pl_12⟩ ?_
    refine rl_get (pc := 26) Γ nd_Pl_settle_26 hO (k := 0) (rl_o4 E) rfl (by decide) rfl ⟨ni_Rl, nf_Pl_165⟩ ?_
    refine rl_icmp_ge (tgt := 51) (pc := 29) Γ nd_Pl_settle_29 (by decide) (fun q5 => ?_) (fun q5 => ?_)
    · have h := rl_ift q5 h
      exact rl_Gsub [0] rfl (hK51  σ h)
    · have h := rl_iff q5 h
      refine rl_aload_n (pc := 32) Γ nd_Pl_settle_32 0 rfl ?_
      refine rl_aload_n (pc := 33) Γ nd_Pl_settle_33 0 rfl ?_
      refine rl_get (pc := 34) Γ nd_Pl_settle_34 hO (k := 1) (rl_o3 E) rfl (by decide) rfl ⟨ni_Pl, nf_Pl_21⟩ ?_
      refine rl_iload_n (pc := 37) Γ nd_Pl_settle_37 1 rfl ?_
      obtain ⟨q6, q6h, h⟩ := rl_bd h
      refine rl_callVi (As := [.int x1]) (pc := 38) Γ nd_Pl_settle_38 hO (rw_St_nodeOf l E x1  σ q6 q6h) 1 nm_Pl_85 nm_im_St_nodeOf nm_se_St_nodeOf nm_ini_St nh_St_nodeOf (rl_o8 E) rfl ⟨rfl, rfl⟩ (by decide +kernel) (Nat.le_of_ble_eq_true rfl) (Nat.le_of_ble_eq_true rfl) ⟨Nat.zero_le _, Nat.zero_le _⟩ (Nat.le_of_ble_eq_true rfl) rfl rfl ?_
      refine rl_iload_n (pc := 41) Γ nd_Pl_settle_41 1 rfl ?_
      obtain ⟨q7, q7h, h⟩ := rl_bd h
      refine rl_callVv (As := [.int q6.1, .int x1]) (pc := 42) Γ nd_Pl_settle_42 hO (rw_Pl_chooseFirstSize l E q6.1 x1  q6.2 q7 q7h) 2 nm_Pl_166 nm_im_Pl_chooseFirstSize nm_se_Pl_chooseFirstSize nm_ini_Pl nh_Pl_chooseFirstSize (rl_o3 E) rfl ⟨rfl, rfl⟩ (by decide +kernel) (Nat.le_of_ble_eq_true rfl) (Nat.le_of_ble_eq_true rfl) ⟨Nat.zero_le _, Nat.zero_le _⟩ (Nat.le_of_ble_eq_true rfl) rfl rfl ?_
      refine rl_iinc (v := x1 + 1) (L' := [(1, .int (x1 + 1)), (0, .ref (E.1 3))]) (pc := 45) Γ nd_Pl_settle_45 1 rfl rfl (by decide) rfl ?_
      refine rl_goto (tgt := 21) (pc := 48) Γ nd_Pl_settle_48 (by decide) ?_
      exact rl_Gsub [1, 0] rfl (ih (x1 + 1) q7.2 h)
set_option maxHeartbeats 4000000 in
set_option maxRecDepth 100000 in
theorem rw_Pl_settle (l : Launch) (E : rl_E)   (σ : rl_M) (r : Int32 × rl_M) (h : rf_Pl_settle  σ = some r) : Met l ny_Pl_settle nw_Pl_settle nr_Pl_settle (rl_P E [.ref (E.1 3)] σ) (rl_Q E (rl_rv r.1) r.2) 0 0 (rl_A E) := by
  refine Met.ofW (cc := nc_Pl_settle) (maxL := 2) (ret := none) (by decide) rfl ?_
  intro p e s m args below meth c s₁ B hml hv
  obtain ⟨rfl, hP, hO⟩ := hv
  have Γ : CallFix p m c nc_Pl_settle 2 s ([.ref (E.1 3)] : List Value).toArray rl_TT nR_Pl := ⟨B.exec, B.bytes, hml, findClass_of_methodNamed B.named, fun w hw => atoms_spec (ws := nw_Pl_settle) B.pre w (List.mem_cons_of_mem _ hw)⟩
  have hr := B.returns
  have hk := B.notSynchronized
  refine rl_start (R := nr_Pl_settle) (Q := rl_QM below _ s E rl_rv r) (nL := 2) (av := [.ref (E.1 3)]) (σ := σ) hP (Nat.le_of_ble_eq_true rfl) ?_
  unfold rf_Pl_settle at h
  refine rl_aload_n (pc := 0) Γ nd_Pl_settle_0 0 rfl ?_
  obtain ⟨q1, q1h, h⟩ := rl_bd h
  refine rl_callVv (As := []) (pc := 1) Γ nd_Pl_settle_1 hO (rw_Pl_measure l E   σ q1 q1h) 0 nm_Pl_162 nm_im_Pl_measure nm_se_Pl_measure nm_ini_Pl nh_Pl_measure (rl_o3 E) rfl ⟨rfl, rfl⟩ (by decide +kernel) (Nat.le_of_ble_eq_true rfl) (Nat.le_of_ble_eq_true rfl) ⟨Nat.zero_le _, Nat.zero_le _⟩ (Nat.le_of_ble_eq_true rfl) rfl rfl ?_
  refine rl_aload_n (pc := 4) Γ nd_Pl_settle_4 0 rfl ?_
  refine rl_get (pc := 5) Γ nd_Pl_settle_5 hO (k := 5) (rl_o3 E) rfl (by decide) rfl ⟨ni_Pl, nf_Pl_36⟩ ?_
  refine rl_if_ne (tgt := 18) (pc := 8) Γ nd_Pl_settle_8 (by decide) (fun q2 => ?_) (fun q2 => ?_)
  · have h := rl_iff q2 h
    exact rl_vret (pc := 18) Γ nd_Pl_settle_18 hr hk h
  · have h := rl_ift q2 h
    refine rl_aload_n (pc := 11) Γ nd_Pl_settle_11 0 rfl ?_
    obtain ⟨q3, q3h, h⟩ := rl_bd h
    refine rl_callVi (As := []) (pc := 12) Γ nd_Pl_settle_12 hO (rw_Pl_hasBest l E   q1.2 q3 q3h) 0 nm_Pl_73 nm_im_Pl_hasBest nm_se_Pl_hasBest nm_ini_Pl nh_Pl_hasBest (rl_o3 E) rfl ⟨rfl, rfl⟩ (by decide +kernel) (Nat.le_of_ble_eq_true rfl) (Nat.le_of_ble_eq_true rfl) ⟨Nat.zero_le _, Nat.zero_le _⟩ (Nat.le_of_ble_eq_true rfl) rfl rfl ?_
    refine rl_if_ne (tgt := 19) (pc := 15) Γ nd_Pl_settle_15 (by decide) (fun q4 => ?_) (fun q4 => ?_)
    · have h := rl_iff q4 h
      refine rl_iconst (v := 0) (pc := 19) Γ nd_Pl_settle_19 (by decide) ?_
      refine rl_istore_n (L' := [(1, .int 0), (0, .ref (E.1 3))]) (pc := 20) Γ nd_Pl_settle_20 (by decide) rfl ?_
      refine rl_Gsub [1, 0] rfl (rw_Pl_settle_L21 Γ hO hr hk   _ ?_ 10000 0 q3.2 h)
      · intro q8m h
        refine rl_aload_n (pc := 51) Γ nd_Pl_settle_51 0 rfl ?_
        obtain ⟨q9, q9h, h⟩ := rl_bd h
        refine rl_callVv (As := []) (pc := 52) Γ nd_Pl_settle_52 hO (rw_Pl_setCorners l E   q8m q9 q9h) 0 nm_Pl_169 nm_im_Pl_setCorners nm_se_Pl_setCorners nm_ini_Pl nh_Pl_setCorners (rl_o3 E) rfl ⟨rfl, rfl⟩ (by decide +kernel) (Nat.le_of_ble_eq_true rfl) (Nat.le_of_ble_eq_true rfl) ⟨Nat.zero_le _, Nat.zero_le _⟩ (Nat.le_of_ble_eq_true rfl) rfl rfl ?_
        refine rl_aload_n (pc := 55) Γ nd_Pl_settle_55 0 rfl ?_
        refine rl_iconst (v := 1) (pc := 56) Γ nd_Pl_settle_56 (by decide) ?_
        refine rl_put (pc := 57) Γ nd_Pl_settle_57 hO (k := 5) (rl_o3 E) rfl (by decide) (fun _ _ => rfl) ⟨ni_Pl, nf_Pl_36⟩ nt_Pl nto_Pl nn_Pl rfl (fun _ => Nat.le_of_ble_eq_true rfl) (rl_nz (by decide)) ?_
        exact rl_vret (pc := 60) Γ nd_Pl_settle_60 hr hk h
    · have h := rl_ift q4 h
      exact rl_vret (pc := 18) Γ nd_Pl_settle_18 hr hk h
