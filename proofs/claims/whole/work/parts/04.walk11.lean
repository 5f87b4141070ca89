def rf_Mo_overlap_J30 (x4 : Int32) (s0 : Int32)  (σ : rl_M) : Option (Int32 × rl_M) := (if s0 ≤ x4 then some (0, σ) else some (s0 - x4, σ))
def rf_Mo_overlap_J10 (x0 : Int32) (x1 : Int32) (x2 : Int32) (x3 : Int32) (s0 : Int32)  (σ : rl_M) : Option (Int32 × rl_M) := (if (x2 + x3) ≤ (x0 + x1) then rf_Mo_overlap_J30 s0 (x2 + x3)  σ else rf_Mo_overlap_J30 s0 (x0 + x1)  σ)
def rf_Mo_overlap (x0 : Int32) (x1 : Int32) (x2 : Int32) (x3 : Int32) (σ : rl_M) : Option (Int32 × rl_M) := (if x0 ≤ x2 then rf_Mo_overlap_J10 x0 x1 x2 x3 x2  σ else rf_Mo_overlap_J10 x0 x1 x2 x3 x0  σ)
set_option maxHeartbeats 4000000 in
set_option maxRecDepth 100000 in
theorem rw_Mo_overlap_J30 {p : Program} {l : Launch} {e : Env} {s : State} {m : MethodId} {args : Array Value} {below : List Frame} {meth : Method} {c : Code} {E : rl_E} (Γ : CallFix p m c nc_Mo_overlap 6 s args rl_TT nR_Mo) (hO : rl_Ok E s) (hr : meth.sig.returnType = (some .int)) (hk : meth.locks = false)  (x4 : Int32) (s0 : Int32)   {r : Int32 × rl_M}  (σ : rl_M) (h : rf_Mo_overlap_J30 x4 s0  σ = some r) : rl_G p l e nr_Mo_overlap s m args below meth c 6 E 0 0 (rl_QM below args s E rl_ri r) σ 30 [(4, .int x4)] [.int s0] := by
  unfold rf_Mo_overlap_J30 at h
  refine rl_istore (L' := [(5, .int s0), (4, .int x4)]) (pc := 30) Γ nd_Mo_overlap_30 (by decide) rfl ?_
  refine rl_iload (pc := 32) Γ nd_Mo_overlap_32 0 rfl ?_
  refine rl_iload (pc := 34) Γ nd_Mo_overlap_34 1 rfl ?_
  refine rl_icmp_le (tgt := 47) (pc := 36) Γ nd_Mo_overlap_36 (by decide) (fun q3 => ?_) (fun q3 => ?_)
  · have h := rl_ift q3 h
    refine rl_iconst (v := 0) (pc := 47) Γ nd_Mo_overlap_47 (by decide) ?_
    exact rl_iret (pc := 48) Γ nd_Mo_overlap_48 hr hk h
  · have h := rl_iff q3 h
    refine rl_iload (pc := 39) Γ nd_Mo_overlap_39 0 rfl ?_
    refine rl_iload (pc := 41) Γ nd_Mo_overlap_41 1 rfl ?_
    refine rl_isub (pc := 43) Γ nd_Mo_overlap_43 ?_
    refine rl_goto (tgt := 48) (pc := 44) Γ nd_Mo_overlap_44 (by decide) ?_
    exact rl_iret (pc := 48) Γ nd_Mo_overlap_48 hr hk h
set_option maxHeartbeats 4000000 in
set_option maxRecDepth 100000 in
theorem rw_Mo_overlap_J10 {p : Program} {l : Launch} {e : Env} {s : State} {m : MethodId} {args : Array Value} {below : List Frame} {meth : Method} {c : Code} {E : rl_E} (Γ : CallFix p m c nc_Mo_overlap 6 s args rl_TT nR_Mo) (hO : rl_Ok E s) (hr : meth.sig.returnType = (some .int)) (hk : meth.locks = false)  (x0 : Int32) (x1 : Int32) (x2 : Int32) (x3 : Int32) (s0 : Int32)   {r : Int32 × rl_M}  (σ : rl_M) (h : rf_Mo_overlap_J10 x0 x1 x2 x3 s0  σ = some r) : rl_G p l e nr_Mo_overlap s m args below meth c 6 E 0 0 (rl_QM below args s E rl_ri r) σ 10 [(0, .int x0), (1, .int x1), (2, .int x2), (3, .int x3)] [.int s0] := by
  unfold rf_Mo_overlap_J10 at h
  refine rl_istore (L' := [(4, .int s0), (0, .int x0), (1, .int x1), (2, .int x2), (3, .int x3)]) (pc := 10) Γ nd_Mo_overlap_10 (by decide) rfl ?_
  refine rl_iload_n (pc := 12) Γ nd_Mo_overlap_12 1 rfl ?_
  refine rl_iload_n (pc := 13) Γ nd_Mo_overlap_13 2 rfl ?_
  refine rl_iadd (pc := 14) Γ nd_Mo_overlap_14 ?_
  refine rl_iload_n (pc := 15) Γ nd_Mo_overlap_15 3 rfl ?_
  refine rl_iload_n (pc := 16) Γ nd_Mo_overlap_16 4 rfl ?_
  refine rl_iadd (pc := 17) Γ nd_Mo_overlap_17 ?_
  refine rl_icmp_ge (tgt := 27) (pc := 18) Γ nd_Mo_overlap_18 (by decide) (fun q2 => ?_) (fun q2 => ?_)
  · have h := rl_ift q2 h
    refine rl_iload_n (pc := 27) Γ nd_Mo_overlap_27 3 rfl ?_
    refine rl_iload_n (pc := 28) Γ nd_Mo_overlap_28 4 rfl ?_
    refine rl_iadd (pc := 29) Γ nd_Mo_overlap_29 ?_
    exact rl_Gsub [0] rfl (rw_Mo_overlap_J30 Γ hO hr hk s0 (x2 + x3)   σ h)
  · have h := rl_iff q2 h
    refine rl_iload_n (pc := 21) Γ nd_Mo_overlap_21 1 rfl ?_
    refine rl_iload_n (pc := 22) Γ nd_Mo_overlap_22 2 rfl ?_
    refine rl_iadd (pc := 23) Γ nd_Mo_overlap_23 ?_
    refine rl_goto (tgt := 30) (pc := 24) Γ nd_Mo_overlap_24 (by decide) ?_
    exact rl_Gsub [0] rfl (rw_Mo_overlap_J30 Γ hO hr hk s0 (x0 + x1)   σ h)
set_option maxHeartbeats 4000000 in
set_option maxRecDepth 100000 in
theorem rw_Mo_overlap (l : Launch) (E : rl_E) (x0 : Int32) (x1 : Int32) (x2 : Int32) (x3 : Int32)  (σ : rl_M) (r : Int32 × rl_M) (h : rf_Mo_overlap x0 x1 x2 x3 σ = some r) : Met l ny_Mo_overlap nw_Mo_overlap nr_Mo_overlap (rl_P E [.int x0, .int x1, .int x2, .int x3] σ) (rl_Q E (rl_ri r.1) r.2) 0 0 (rl_A E) := by
  refine Met.ofW (cc := nc_Mo_overlap) (maxL := 6) (ret := (some .int)) (by decide) rfl ?_
  intro p e s m args below meth c s₁ B hml hv
  obtain ⟨rfl, hP, hO⟩ := hv
  have Γ : CallFix p m c nc_Mo_overlap 6 s ([.int x0, .int x1, .int x2, .int x3] : List Value).toArray rl_TT nR_Mo := ⟨B.exec, B.bytes, hml, findClass_of_methodNamed B.named, fun w hw => atoms_spec (ws := nw_Mo_overlap) B.pre w (List.mem_cons_of_mem _ hw)⟩
  have hr := B.returns
  have hk := B.notSynchronized
  refine rl_start (R := nr_Mo_overlap) (Q := rl_QM below _ s E rl_ri r) (nL := 6) (av := [.int x0, .int x1, .int x2, .int x3]) (σ := σ) hP (Nat.le_of_ble_eq_true rfl) ?_
  unfold rf_Mo_overlap at h
  refine rl_iload_n (pc := 0) Γ nd_Mo_overlap_0 0 rfl ?_
  refine rl_iload_n (pc := 1) Γ nd_Mo_overlap_1 2 rfl ?_
  refine rl_icmp_le (tgt := 9) (pc := 2) Γ nd_Mo_overlap_2 (by decide) (fun q1 => ?_) (fun q1 => ?_)
  · have h := rl_ift q1 h
    refine rl_iload_n (pc := 9) Γ nd_Mo_overlap_9 2 rfl ?_
    exact rl_Gsub [0, 1, 2, 3] rfl (rw_Mo_overlap_J10 Γ hO hr hk x0 x1 x2 x3 x2   σ h)
  · have h := rl_iff q1 h
    refine rl_iload_n (pc := 5) Γ nd_Mo_overlap_5 0 rfl ?_
    refine rl_goto (tgt := 10) (pc := 6) Γ nd_Mo_overlap_6 (by decide) ?_
    exact rl_Gsub [0, 1, 2, 3] rfl (rw_Mo_overlap_J10 Γ hO hr hk x0 x1 x2 x3 x0   σ h)
def rf_Mo_shared_J136 (x1 : Int32) (x2 : Int32) (x4 : Int32) (s0 : Int32)  (σ : rl_M) : Option (Int32 × rl_M) := (if x4 = 0 then (if s0 ≤ 0 then some (0, σ) else some (s0, σ)) else (if rl_ib x1 16 = true then (if rl_ib x1 16 = true then (if rl_ib x2 16 = true then (if rl_ib x2 16 = true then ((rf_Mo_overlap (σ 71 x1.toNatClampNeg) (σ 69 x1.toNatClampNeg) (σ 71 x2.toNatClampNeg) (σ 69 x2.toNatClampNeg) σ).bind (fun q16 => (if s0 ≤ q16.1 then some (q16.1, q16.2) else some (s0, q16.2)))) else none) else none) else none) else none))
def rf_Mo_shared_J99 (x1 : Int32) (x2 : Int32) (x3 : Int32) (s0 : Int32)  (σ : rl_M) : Option (Int32 × rl_M) := (if x3 = 0 then rf_Mo_shared_J136 x1 x2 s0 0  σ else (if rl_ib x1 16 = true then (if rl_ib x1 16 = true then (if rl_ib x2 16 = true then (if rl_ib x2 16 = true then ((rf_Mo_overlap (σ 72 x1.toNatClampNeg) (σ 70 x1.toNatClampNeg) (σ 72 x2.toNatClampNeg) (σ 70 x2.toNatClampNeg) σ).bind (fun q22 => rf_Mo_shared_J136 x1 x2 s0 q22.1  q22.2)) else none) else none) else none) else none))
def rf_Mo_shared_J94 (x1 : Int32) (x2 : Int32) (x3 : Int32)  (σ : rl_M) : Option (Int32 × rl_M) := rf_Mo_shared_J99 x1 x2 x3 1  σ
def rf_Mo_shared_J49 (x1 : Int32) (x2 : Int32) (s0 : Int32)  (σ : rl_M) : Option (Int32 × rl_M) := (if rl_ib x1 16 = true then (if rl_ib x1 16 = true then (if rl_ib x2 16 = true then (if ((σ 72 x1.toNatClampNeg) + (σ 70 x1.toNatClampNeg)) = (σ 72 x2.toNatClampNeg) then rf_Mo_shared_J94 x1 x2 s0  σ else (if rl_ib x2 16 = true then (if rl_ib x2 16 = true then (if rl_ib x1 16 = true then (if ((σ 72 x2.toNatClampNeg) + (σ 70 x2.toNatClampNeg)) = (σ 72 x1.toNatClampNeg) then rf_Mo_shared_J94 x1 x2 s0  σ else rf_Mo_shared_J99 x1 x2 s0 0  σ) else none) else none) else none)) else none) else none) else none)
def rf_Mo_shared_J44 (x1 : Int32) (x2 : Int32)  (σ : rl_M) : Option (Int32 × rl_M) := rf_Mo_shared_J49 x1 x2 1  σ
def rf_Mo_shared (x1 : Int32) (x2 : Int32) (σ : rl_M) : Option (Int32 × rl_M) := (if rl_ib x1 16 = true then (if rl_ib x1 16 = true then (if rl_ib x2 16 = true then (if ((σ 71 x1.toNatClampNeg) + (σ 69 x1.toNatClampNeg)) = (σ 71 x2.toNatClampNeg) then rf_Mo_shared_J44 x1 x2  σ else (if rl_ib x2 16 = true then (if rl_ib x2 16 = true then (if rl_ib x1 16 = true then (if ((σ 71 x2.toNatClampNeg) + (σ 69 x2.toNatClampNeg)) = (σ 71 x1.toNatClampNeg) then rf_Mo_shared_J44 x1 x2  σ else rf_Mo_shared_J49 x1 x2 0  σ) else none) else none) else none)) else none) else none) else none)
set_option maxHeartbeats 4000000 in
set_option maxRecDepth 100000 in
theorem rw_Mo_shared_J136 {p : Program} {l : Launch} {e : Env} {s : State} {m : MethodId} {args : Array Value} {below : List Frame} {meth : Method} {c : Code} {E : rl_E} (Γ : CallFix p m c nc_Mo_shared 7 s args rl_TT nR_Mo) (hO : rl_Ok E s) (hr : meth.sig.returnType = (some .int)) (hk : meth.locks = false)  (x1 : Int32) (x2 : Int32) (x4 : Int32) (s0 : Int32)   {r : Int32 × rl_M}  (σ : rl_M) (h : rf_Mo_shared_J136 x1 x2 x4 s0  σ = some r) : rl_G p l e nr_Mo_shared s m args below meth c 7 E 0 0 (rl_QM below args s E rl_ri r) σ 136 [(0, .ref (E.1 59)), (1, .int x1), (2, .int x2), (4, .int x4)] [.int s0] := by
  unfold rf_Mo_shared_J136 at h
  refine rl_istore (L' := [(5, .int s0), (0, .ref (E.1 59)), (1, .int x1), (2, .int x2), (4, .int x4)]) (pc := 136) Γ nd_Mo_shared_136 (by decide) rfl ?_
  refine rl_iload (pc := 138) Γ nd_Mo_shared_138 4 rfl ?_
  refine rl_if_eq (tgt := 173) (pc := 140) Γ nd_Mo_shared_140 (by decide) (fun q10 => ?_) (fun q10 => ?_)
  · have h := rl_ift q10 h
    refine rl_iconst (v := 0) (pc := 173) Γ nd_Mo_shared_173 (by decide) ?_
    refine rl_istore (L' := [(6, .int 0), (5, .int s0), (0, .ref (E.1 59)), (1, .int x1), (2, .int x2), (4, .int x4)]) (pc := 174) Γ nd_Mo_shared_174 (by decide) rfl ?_
    refine rl_iload (pc := 176) Γ nd_Mo_shared_176 1 rfl ?_
    refine rl_iload (pc := 178) Γ nd_Mo_shared_178 0 rfl ?_
    refine rl_icmp_le (tgt := 188) (pc := 180) Γ nd_Mo_shared_180 (by decide) (fun q11 => ?_) (fun q11 => ?_)
    · have h := rl_ift q11 h
      refine rl_iload (pc := 188) Γ nd_Mo_shared_188 0 rfl ?_
      exact rl_iret (pc := 190) Γ nd_Mo_shared_190 hr hk h
    · have h := rl_iff q11 h
      refine rl_iload (pc := 183) Γ nd_Mo_shared_183 1 rfl ?_
      refine rl_goto (tgt := 190) (pc := 185) Γ nd_Mo_shared_185 (by decide) ?_
      exact rl_iret (pc := 190) Γ nd_Mo_shared_190 hr hk h
  · have h := rl_iff q10 h
    refine rl_aload_n (pc := 143) Γ nd_Mo_shared_143 1 rfl ?_
    refine rl_get (pc := 144) Γ nd_Mo_shared_144 hO (k := 20) (rl_o59 E) rfl (by decide) rfl ⟨ni_Mo, nf_Mo_50⟩ ?_
    refine rl_iload_n (pc := 147) Γ nd_Mo_shared_147 2 rfl ?_
    obtain ⟨q12, h⟩ := rl_if h
    refine rl_ild (pc := 148) Γ nd_Mo_shared_148 hO (rl_a71 E) (rl_ib_in q12) ?_
    refine rl_aload_n (pc := 149) Γ nd_Mo_shared_149 1 rfl ?_
    refine rl_get (pc := 150) Γ nd_Mo_shared_150 hO (k := 18) (rl_o59 E) rfl (by decide) rfl ⟨ni_Mo, nf_Mo_44⟩ ?_
    refine rl_iload_n (pc := 153) Γ nd_Mo_shared_153 2 rfl ?_
    obtain ⟨q13, h⟩ := rl_if h
    refine rl_ild (pc := 154) Γ nd_Mo_shared_154 hO (rl_a69 E) (rl_ib_in q13) ?_
    refine rl_aload_n (pc := 155) Γ nd_Mo_shared_155 1 rfl ?_
    refine rl_get (pc := 156) Γ nd_Mo_shared_156 hO (k := 20) (rl_o59 E) rfl (by decide) rfl ⟨ni_Mo, nf_Mo_50⟩ ?_
    refine rl_iload_n (pc := 159) Γ nd_Mo_shared_159 3 rfl ?_
    obtain ⟨q14, h⟩ := rl_if h
    refine rl_ild (pc := 160) Γ nd_Mo_shared_160 hO (rl_a71 E) (rl_ib_in q14) ?_
    refine rl_aload_n (pc := 161) Γ nd_Mo_shared_161 1 rfl ?_
    refine rl_get (pc := 162) Γ nd_Mo_shared_162 hO (k := 18) (rl_o59 E) rfl (by decide) rfl ⟨ni_Mo, nf_Mo_44⟩ ?_
    refine rl_iload_n (pc := 165) Γ nd_Mo_shared_165 3 rfl ?_
    obtain ⟨q15, h⟩ := rl_if h
    refine rl_ild (pc := 166) Γ nd_Mo_shared_166 hO (rl_a69 E) (rl_ib_in q15) ?_
    obtain ⟨q16, q16h, h⟩ := rl_bd h
    refine rl_callSi (As := [.int (σ 71 x1.toNatClampNeg), .int (σ 69 x1.toNatClampNeg), .int (σ 71 x2.toNatClampNeg), .int (σ 69 x2.toNatClampNeg)]) (pc := 167) Γ nd_Mo_shared_167 hO (rw_Mo_overlap l E (σ 71 x1.toNatClampNeg) (σ 69 x1.toNatClampNeg) (σ 71 x2.toNatClampNeg) (σ 69 x2.toNatClampNeg)  σ q16 q16h) 4 nm_Mo_127 nm_st_Mo_overlap nm_ini_Mo nh_Mo_overlap ⟨rfl, rfl⟩ (by decide +kernel) (Nat.le_of_ble_eq_true rfl) (Nat.le_of_ble_eq_true rfl) ⟨Nat.zero_le _, Nat.zero_le _⟩ (Nat.le_of_ble_eq_true rfl) rfl rfl ?_
    refine rl_goto (tgt := 174) (pc := 170) Γ nd_Mo_shared_170 (by decide) ?_
    refine rl_istore (L' := [(6, .int q16.1), (5, .int s0), (0, .ref (E.1 59)), (1, .int x1), (2, .int x2), (4, .int x4)]) (pc := 174) Γ nd_Mo_shared_174 (by decide) rfl ?_
    refine rl_iload (pc := 176) Γ nd_Mo_shared_176 1 rfl ?_
    refine rl_iload (pc := 178) Γ nd_Mo_shared_178 0 rfl ?_
    refine rl_icmp_le (tgt := 188) (pc := 180) Γ nd_Mo_shared_180 (by decide) (fun q17 => ?_) (fun q17 => ?_)
    · have h := rl_ift q17 h
      refine rl_iload (pc := 188) Γ nd_Mo_shared_188 0 rfl ?_
      exact rl_iret (pc := 190) Γ nd_Mo_shared_190 hr hk h
    · have h := rl_iff q17 h
      refine rl_iload (pc := 183) Γ nd_Mo_shared_183 1 rfl ?_
      refine rl_goto (tgt := 190) (pc := 185) Γ nd_Mo_shared_185 (by decide) ?_
      exact rl_iret (pc := 190) Γ nd_Mo_shared_190 hr hk h
set_option maxHeartbeats 4000000 in
set_option maxRecDepth 100000 in
theorem rw_Mo_shared_J99 {p : Program} {l : Launch} {e : Env} {s : State} {m : MethodId} {args : Array Value} {below : List Frame} {meth : Method} {c : Code} {E : rl_E} (Γ : CallFix p m c nc_Mo_shared 7 s args rl_TT nR_Mo) (hO : rl_Ok E s) (hr : meth.sig.returnType = (some .int)) (hk : meth.locks = false)  (x1 : Int32) (x2 : Int32) (x3 : Int32) (s0 : Int32)   {r : Int32 × rl_M}  (σ : rl_M) (h : rf_Mo_shared_J99 x1 x2 x3 s0  σ = some r) : rl_G p l e nr_Mo_shared s m args below meth c 7 E 0 0 (rl_QM below args s E rl_ri r) σ 99 [(0, .ref (E.1 59)), (1, .int x1), (2, .int x2), (3, .int x3)] [.int s0] := by
  unfold rf_Mo_shared_J99 at h
  refine rl_istore (L' := [(4, .int s0), (0, .ref (E.1 59)), (1, .int x1), (2, .int x2), (3, .int x3)]) (pc := 99) Γ nd_Mo_shared_99 (by decide) rfl ?_
  refine rl_iload_n (pc := 101) Γ nd_Mo_shared_101 4 rfl ?_
  refine rl_if_eq (tgt := 135) (pc := 102) Γ nd_Mo_shared_102 (by decide) (fun q9 => ?_) (fun q9 => ?_)
  · have h := rl_ift q9 h
    refine rl_iconst (v := 0) (pc := 135) Γ nd_Mo_shared_135 (by decide) ?_
    exact rl_Gsub [1, 2, 3, 0] rfl (rw_Mo_shared_J136 Γ hO hr hk x1 x2 s0 0   σ h)
  · have h := rl_iff q9 h
    refine rl_aload_n (pc := 105) Γ nd_Mo_shared_105 1 rfl ?_
    refine rl_get (pc := 106) Γ nd_Mo_shared_106 hO (k := 21) (rl_o59 E) rfl (by decide) rfl ⟨ni_Mo, nf_Mo_53⟩ ?_
    refine rl_iload_n (pc := 109) Γ nd_Mo_shared_109 2 rfl ?_
    obtain ⟨q18, h⟩ := rl_if h
    refine rl_ild (pc := 110) Γ nd_Mo_shared_110 hO (rl_a72 E) (rl_ib_in q18) ?_
    refine rl_aload_n (pc := 111) Γ nd_Mo_shared_111 1 rfl ?_
    refine rl_get (pc := 112) Γ nd_Mo_shared_112 hO (k := 19) (rl_o59 E) rfl (by decide) rfl ⟨ni_Mo, nf_Mo_47⟩ ?_
    refine rl_iload_n (pc := 115) Γ nd_Mo_shared_115 2 rfl ?_
    obtain ⟨q19, h⟩ := rl_if h
    refine rl_ild (pc := 116) Γ nd_Mo_shared_116 hO (rl_a70 E) (rl_ib_in q19) ?_
    refine rl_aload_n (pc := 117) Γ nd_Mo_shared_117 1 rfl ?_
    refine rl_get (pc := 118) Γ nd_Mo_shared_118 hO (k := 21) (rl_o59 E) rfl (by decide) rfl ⟨ni_Mo, nf_Mo_53⟩ ?_
    refine rl_iload_n (pc := 121) Γ nd_Mo_shared_121 3 rfl ?_
    obtain ⟨q20, h⟩ := rl_if h
    refine rl_ild (pc := 122) Γ nd_Mo_shared_122 hO (rl_a72 E) (rl_ib_in q20) ?_
    refine rl_aload_n (pc := 123) Γ nd_Mo_shared_123 1 rfl ?_
    refine rl_get (pc := 124) Γ nd_Mo_shared_124 hO (k := 19) (rl_o59 E) rfl (by decide) rfl ⟨ni_Mo, nf_Mo_47⟩ ?_
    refine rl_iload_n (pc := 127) Γ nd_Mo_shared_127 3 rfl ?_
    obtain ⟨q21, h⟩ := rl_if h
    refine rl_ild (pc := 128) Γ nd_Mo_shared_128 hO (rl_a70 E) (rl_ib_in q21) ?_
    obtain ⟨q22, q22h, h⟩ := rl_bd h
    refine rl_callSi (As := [.int (σ 72 x1.toNatClampNeg), .int (σ 70 x1.toNatClampNeg), .int (σ 72 x2.toNatClampNeg), .int (σ 70 x2.toNatClampNeg)]) (pc := 129) Γ nd_Mo_shared_129 hO (rw_Mo_overlap l E (σ 72 x1.toNatClampNeg) (σ 70 x1.toNatClampNeg) (σ 72 x2.toNatClampNeg) (σ 70 x2.toNatClampNeg)  σ q22 q22h) 4 nm_Mo_127 nm_st_Mo_overlap nm_ini_Mo nh_Mo_overlap ⟨rfl, rfl⟩ (by decide +kernel) (Nat.le_of_ble_eq_true rfl) (Nat.le_of_ble_eq_true rfl) ⟨Nat.zero_le _, Nat.zero_le _⟩ (Nat.le_of_ble_eq_true rfl) rfl rfl ?_
    refine rl_goto (tgt := 136) (pc := 132) Γ nd_Mo_shared_132 (by decide) ?_
    exact rl_Gsub [1, 2, 3, 0] rfl (rw_Mo_shared_J136 Γ hO hr hk x1 x2 s0 q22.1   q22.2 h)
set_option maxHeartbeats 4000000 in
set_option maxRecDepth 100000 in
theorem rw_Mo_shared_J94 {p : Program} {l : Launch} {e : Env} {s : State} {m : MethodId} {args : Array Value} {below : List Frame} {meth : Method} {c : Code} {E : rl_E} (Γ : CallFix p m c nc_Mo_shared 7 s args rl_TT nR_Mo) (hO : rl_Ok E s) (hr : meth.sig.returnType = (some .int)) (hk : meth.locks = false)  (x1 : Int32) (x2 : Int32) (x3 : Int32)   {r : Int32 × rl_M}  (σ : rl_M) (h : rf_Mo_shared_J94 x1 x2 x3  σ = some r) : rl_G p l e nr_Mo_shared s m args below meth c 7 E 0 0 (rl_QM below args s E rl_ri r) σ 94 [(0, .ref (E.1 59)), (1, .int x1), (2, .int x2), (3, .int x3)] [] := by
  unfold rf_Mo_shared_J94 at h
  refine rl_iconst (v := 1) (pc := 94) Γ nd_Mo_shared_94 (by decide) ?_
  refine rl_goto (tgt := 99) (pc := 95) Γ nd_Mo_shared_95 (by decide) ?_
  exact rl_Gsub [0, 1, 2, 3] rfl (rw_Mo_shared_J99 Γ hO hr hk x1 x2 x3 1   σ h)
set_option maxHeartbeats 4000000 in
set_option maxRecDepth 100000 in
theorem rw_Mo_shared_J49 {p : Program} {l : Launch} {e : Env} {s : State} {m : MethodId} {args : Array Value} {below : List Frame} {meth : Method} {c : Code} {E : rl_E} (Γ : CallFix p m c nc_Mo_shared 7 s args rl_TT nR_Mo) (hO : rl_Ok E s) (hr : meth.sig.returnType = (some .int)) (hk : meth.locks = false)  (x1 : Int32) (x2 : Int32) (s0 : Int32)   {r : Int32 × rl_M}  (σ : rl_M) (h : rf_Mo_shared_J49 x1 x2 s0  σ = some r) : rl_G p l e nr_Mo_shared s m args below meth c 7 E 0 0 (rl_QM below args s E rl_ri r) σ 49 [(0, .ref (E.1 59)), (1, .int x1), (2, .int x2)] [.int s0] := by
  unfold rf_Mo_shared_J49 at h
  refine rl_istore_n (L' := [(3, .int s0), (0, .ref (E.1 59)), (1, .int x1), (2, .int x2)]) (pc := 49) Γ nd_Mo_shared_49 (by decide) rfl ?_
  refine rl_aload_n (pc := 50) Γ nd_Mo_shared_50 1 rfl ?_
  refine rl_get (pc := 51) Γ nd_Mo_shared_51 hO (k := 21) (rl_o59 E) rfl (by decide) rfl ⟨ni_Mo, nf_Mo_53⟩ ?_
  refine rl_iload_n (pc := 54) Γ nd_Mo_shared_54 2 rfl ?_
  obtain ⟨q5, h⟩ := rl_if h
  refine rl_ild (pc := 55) Γ nd_Mo_shared_55 hO (rl_a72 E) (rl_ib_in q5) ?_
  refine rl_aload_n (pc := 56) Γ nd_Mo_shared_56 1 rfl ?_
  refine rl_get (pc := 57) Γ nd_Mo_shared_57 hO (k := 19) (rl_o59 E) rfl (by decide) rfl ⟨ni_Mo, nf_Mo_47⟩ ?_
  refine rl_iload_n (pc := 60) Γ nd_Mo_shared_60 2 rfl ?_
  obtain ⟨q6, h⟩ := rl_if h
  refine rl_ild (pc := 61) Γ nd_Mo_shared_61 hO (rl_a70 E) (rl_ib_in q6) ?_
  refine rl_iadd (pc := 62) Γ nd_Mo_shared_62 ?_
  refine rl_aload_n (pc := 63) Γ nd_Mo_shared_63 1 rfl ?_
  refine rl_get (pc := 64) Γ nd_Mo_shared_64 hO (k := 21) (rl_o59 E) rfl (by decide) rfl ⟨ni_Mo, nf_Mo_53⟩ ?_
  refine rl_iload_n (pc := 67) Γ nd_Mo_shared_67 3 rfl ?_
  obtain ⟨q7, h⟩ := rl_if h
  refine rl_ild (pc := 68) Γ nd_Mo_shared_68 hO (rl_a72 E) (rl_ib_in q7) ?_
  refine rl_icmp_eq (tgt := 94) (pc := 69) Γ nd_Mo_shared_69 (by decide) (fun q8 => ?_) (fun q8 => ?_)
  · have h := rl_ift q8 h
    exact rl_Gsub [1, 2, 3, 0] rfl (rw_Mo_shared_J94 Γ hO hr hk x1 x2 s0   σ h)
  · have h := rl_iff q8 h
    refine rl_aload_n (pc := 72) Γ nd_Mo_shared_72 1 rfl ?_
    refine rl_get (pc := 73) Γ nd_Mo_shared_73 hO (k := 21) (rl_o59 E) rfl (by decide) rfl ⟨ni_Mo, nf_Mo_53⟩ ?_
    refine rl_iload_n (pc := 76) Γ nd_Mo_shared_76 3 rfl ?_
    obtain ⟨q23, h⟩ := rl_if h
    refine rl_ild (pc := 77) Γ nd_Mo_shared_77 hO (rl_a72 E) (rl_ib_in q23) ?_
    refine rl_aload_n (pc := 78) Γ nd_Mo_shared_78 1 rfl ?_
    refine rl_get (pc := 79) Γ nd_Mo_shared_79 hO (k := 19) (rl_o59 E) rfl (by decide) rfl ⟨ni_Mo, nf_Mo_47⟩ ?_
    refine rl_iload_n (pc := 82) Γ nd_Mo_shared_82 3 rfl ?_
    obtain ⟨q24, h⟩ := rl_if h
    refine rl_ild (pc := 83) Γ nd_Mo_shared_83 hO (rl_a70 E) (rl_ib_in q24) ?_
    refine rl_iadd (pc := 84) Γ nd_Mo_shared_84 ?_
    refine rl_aload_n (pc := 85) Γ nd_Mo_shared_85 1 rfl ?_
    refine rl_get (pc := 86) Γ nd_Mo_shared_86 hO (k := 21) (rl_o59 E) rfl (by decide) rfl ⟨ni_Mo, nf_Mo_53⟩ ?_
    refine rl_iload_n (pc := 89) Γ nd_Mo_shared_89 2 rfl ?_
    obtain ⟨q25, h⟩ := rl_if h
    refine rl_ild (pc := 90) Γ nd_Mo_shared_90 hO (rl_a72 E) (rl_ib_in q25) ?_
    refine rl_icmp_ne (tgt := 98) (pc := 91) Γ nd_Mo_shared_91 (by decide) (fun q26 => ?_) (fun q26 => ?_)
    · have h := rl_iff q26 h
      refine rl_iconst (v := 0) (pc := 98) Γ nd_Mo_shared_98 (by decide) ?_
      exact rl_Gsub [1, 2, 3, 0] rfl (rw_Mo_shared_J99 Γ hO hr hk x1 x2 s0 0   σ h)
    · have h := rl_ift q26 h
      exact rl_Gsub [1, 2, 3, 0] rfl (rw_Mo_shared_J94 Γ hO hr hk x1 x2 s0   σ h)
set_option maxHeartbeats 4000000 in
set_option maxRecDepth 100000 in
theorem rw_Mo_shared_J44 {p : Program} {l : Launch} {e : Env} {s : State} {m : MethodId} {args : Array Value} {below : List Frame} {meth : Method} {c : Code} {E : rl_E} (Γ : CallFix p m c nc_Mo_shared 7 s args rl_TT nR_Mo) (hO : rl_Ok E s) (hr : meth.sig.returnType = (some .int)) (hk : meth.locks = false)  (x1 : Int32) (x2 : Int32)   {r : Int32 × rl_M}  (σ : rl_M) (h : rf_Mo_shared_J44 x1 x2  σ = some r) : rl_G p l e nr_Mo_shared s m args below meth c 7 E 0 0 (rl_QM below args s E rl_ri r) σ 44 [(0, .ref (E.1 59)), (1, .int x1), (2, .int x2)] [] := by
  unfold rf_Mo_shared_J44 at h
  refine rl_iconst (v := 1) (pc := 44) Γ nd_Mo_shared_44 (by decide) ?_
  refine rl_goto (tgt := 49) (pc := 45) Γ nd_Mo_shared_45 (by decide) ?_
  exact rl_Gsub [0, 1, 2] rfl (rw_Mo_shared_J49 Γ hO hr hk x1 x2 1   σ h)
set_option maxHeartbeats 4000000 in
set_option maxRecDepth 100000 in
theorem rw_Mo_shared (l : Launch) (E : rl_E) (x1 : Int32) (x2 : Int32)  (σ : rl_M) (r : Int32 × rl_M) (h : rf_Mo_shared x1 x2 σ = some r) : Met l ny_Mo_shared nw_Mo_shared nr_Mo_shared (rl_P E [.ref (E.1 59), .int x1, .int x2] σ) (rl_Q E (rl_ri r.1) r.2) 0 0 (rl_A E) := by
  refine Met.ofW (cc := nc_Mo_shared) (maxL := 7) (ret := (some .int)) (by decide) rfl ?_
  intro p e s m args below meth c s₁ B hml hv
  obtain ⟨rfl, hP, hO⟩ := hv
  have Γ : CallFix p m c nc_Mo_shared 7 s ([.ref (E.1 59), .int x1, .int x2] : List Value).toArray rl_TT nR_Mo := ⟨B.exec, B.bytes, hml, findClass_of_methodNamed B.named, fun w hw => atoms_spec (ws := nw_Mo_shared) B.pre w (List.mem_cons_of_mem _ hw)⟩
  have hr := B.returns
  have hk := B.notSynchronized
  refine rl_start (R := nr_Mo_shared) (Q := rl_QM below _ s E rl_ri r) (nL := 7) (av := [.ref (E.1 59), .int x1, .int x2]) (σ := σ) hP (Nat.le_of_ble_eq_true rfl) ?_
  unfold rf_Mo_shared at h
  refine rl_aload_n (pc := 0) Γ nd_Mo_shared_0 0 rfl ?_
  refine rl_get (pc := 1) Γ nd_Mo_shared_1 hO (k := 20) (rl_o59 E) rfl (by decide) rfl ⟨ni_Mo, nf_Mo_50⟩ ?_
  refine rl_iload_n (pc := 4) Γ nd_Mo_shared_4 1 rfl ?_
  obtain ⟨q1, h⟩ := rl_if h
  refine rl_ild (pc := 5) Γ nd_Mo_shared_5 hO (rl_a71 E) (rl_ib_in q1) ?_
  refine rl_aload_n (pc := 6) Γ nd_Mo_shared_6 0 rfl ?_
  refine rl_get (pc := 7) Γ nd_Mo_shared_7 hO (k := 18) (rl_o59 E) rfl (by decide) rfl ⟨ni_Mo, nf_Mo_44⟩ ?_
  refine rl_iload_n (pc := 10) Γ nd_Mo_shared_10 1 rfl ?_
  obtain ⟨q2, h⟩ := rl_if h
  refine rl_ild (pc := 11) Γ nd_Mo_shared_11 hO (rl_a69 E) (rl_ib_in q2) ?_
  refine rl_iadd (pc := 12) Γ nd_Mo_shared_12 ?_
  refine rl_aload_n (pc := 13) Γ nd_Mo_shared_13 0 rfl ?_
  refine rl_get (pc := 14) Γ nd_Mo_shared_14 hO (k := 20) (rl_o59 E) rfl (by decide) rfl ⟨ni_Mo, nf_Mo_50⟩ ?_
  refine rl_iload_n (pc := 17) Γ nd_Mo_shared_17 2 rfl ?_
  obtain ⟨q3, h⟩ := rl_if h
  refine rl_ild (pc := 18) Γ nd_Mo_shared_18 hO (rl_a71 E) (rl_ib_in q3) ?_
  refine rl_icmp_eq (tgt := 44) (pc := 19) Γ nd_Mo_shared_19 (by decide) (fun q4 => ?_) (fun q4 => ?_)
  · have h := rl_ift q4 h
    exact rl_Gsub [0, 1, 2] rfl (rw_Mo_shared_J44 Γ hO hr hk x1 x2   σ h)
  · have h := rl_iff q4 h
    refine rl_aload_n (pc := 22) Γ nd_Mo_shared_22 0 rfl ?_
    refine rl_get (pc := 23) Γ nd_Mo_shared_23 hO (k := 20) (rl_o59 E) rfl (by decide) rfl ⟨ni_Mo, nf_Mo_50⟩ ?_
    refine rl_iload_n (pc := 26) Γ nd_Mo_shared_26 2 rfl ?_
    obtain ⟨q27, h⟩ := rl_if h
    refine rl_ild (pc := 27) Γ nd_Mo_shared_27 hO (rl_a71 E) (rl_ib_in q27) ?_
    refine rl_aload_n (pc := 28) Γ nd_Mo_shared_28 0 rfl ?_
    refine rl_get (pc := 29) Γ nd_Mo_shared_29 hO (k := 18) (rl_o59 E) rfl (by decide) rfl ⟨ni_Mo, nf_Mo_44⟩ ?_
    refine rl_iload_n (pc := 32) Γ nd_Mo_shared_32 2 rfl ?_
    obtain ⟨q28, h⟩ := rl_if h
    refine rl_ild (pc := 33) Γ nd_Mo_shared_33 hO (rl_a69 E) (rl_ib_in q28) ?_
    refine rl_iadd (pc := 34) Γ nd_Mo_shared_34 ?_
    refine rl_aload_n (pc := 35) Γ nd_Mo_shared_35 0 rfl ?_
    refine rl_get (pc := 36) Γ nd_Mo_shared_36 hO (k := 20) (rl_o59 E) rfl (by decide) rfl ⟨ni_Mo, nf_Mo_50⟩ ?_
    refine rl_iload_n (pc := 39) Γ nd_Mo_shared_39 1 rfl ?_
    obtain ⟨q29, h⟩ := rl_if h
    refine rl_ild (pc := 40) Γ nd_Mo_shared_40 hO (rl_a71 E) (rl_ib_in q29) ?_
    refine rl_icmp_ne (tgt := 48) (pc := 41) Γ nd_Mo_shared_41 (by decide) (fun q30 => ?_) (fun q30 => ?_)
    · have h := rl_iff q30 h
      refine rl_iconst (v := 0) (pc := 48) Γ nd_Mo_shared_48 (by decide) ?_
      exact rl_Gsub [0, 1, 2] rfl (rw_Mo_shared_J49 Γ hO hr hk x1 x2 0   σ h)
    · have h := rl_ift q30 h
      exact rl_Gsub [0, 1, 2] rfl (rw_Mo_shared_J44 Γ hO hr hk x1 x2   σ h)
def rf_Mo_wall_J27 (x1 : Int32) (x2 : Int32) (s0 : Int32)  (σ : rl_M) : Option (Int32 × rl_M) := (if ((rl_su σ 59 0 s0) 59 0) ≤ 0 then ((rf_Mo_findBest  (rl_su σ 59 0 s0)).bind (fun q4 => ((rf_Mo_placeOf x1 q4.2).bind (fun q5 => ((rf_Mo_placeOf x2 q5.2).bind (fun q6 => (if (q6.2 59 15) = 0 then some ((-1), q6.2) else (if q5.1 < 0 then some ((-1), q6.2) else (if 0 ≤ q6.1 then ((rf_Mo_shared q5.1 q6.1 q6.2).bind (fun q10 => some (q10.1, q10.2))) else some ((-1), q6.2)))))))))) else some (0, rl_su σ 59 0 s0))
def rf_Mo_wall_J26 (x1 : Int32) (x2 : Int32)  (σ : rl_M) : Option (Int32 × rl_M) := rf_Mo_wall_J27 x1 x2 1  σ
def rf_Mo_wall (x1 : Int32) (x2 : Int32) (σ : rl_M) : Option (Int32 × rl_M) := ((rf_Mo_isRoom x1 σ).bind (fun q1 => (if q1.1 = 0 then rf_Mo_wall_J26 x1 x2  q1.2 else ((rf_Mo_isRoom x2 q1.2).bind (fun q11 => (if q11.1 = 0 then rf_Mo_wall_J26 x1 x2  q11.2 else (if x1 = x2 then rf_Mo_wall_J26 x1 x2  q11.2 else rf_Mo_wall_J27 x1 x2 0  q11.2)))))))
set_option maxHeartbeats 4000000 in
set_option maxRecDepth 100000 in
theorem rw_Mo_wall_J27 {p : Program} {l : Launch} {e : Env} {s : State} {m : MethodId} {args : Array Value} {below : List Frame} {meth : Method} {c : Code} {E : rl_E} (Γ : CallFix p m c nc_Mo_wall 5 s args rl_TT nR_Mo) (hO : rl_Ok E s) (hr : meth.sig.returnType = (some .int)) (hk : meth.locks = false)  (x1 : Int32) (x2 : Int32) (s0 : Int32)   {r : Int32 × rl_M}  (σ : rl_M) (h : rf_Mo_wall_J27 x1 x2 s0  σ = some r) : rl_G p l e nr_Mo_wall s m args below meth c 5 E 0 0 (rl_QM below args s E rl_ri r) σ 27 [(0, .ref (E.1 59)), (1, .int x1), (2, .int x2)] [.int s0, .ref (E.1 59)] := by
  unfold rf_Mo_wall_J27 at h
  refine rl_put (pc := 27) Γ nd_Mo_wall_27 hO (k := 0) (rl_o59 E) rfl (by decide) (fun _ _ => rfl) ⟨ni_Mo, nf_Mo_71⟩ nt_Mo nto_Mo nn_Mo rfl (fun _ => Nat.le_of_ble_eq_true rfl) rl_ni ?_
  refine rl_aload_n (pc := 30) Γ nd_Mo_wall_30 0 rfl ?_
  refine rl_get (pc := 31) Γ nd_Mo_wall_31 hO (k := 0) (rl_o59 E) rfl (by decide) rfl ⟨ni_Mo, nf_Mo_71⟩ ?_
  refine rl_if_le (tgt := 39) (pc := 34) Γ nd_Mo_wall_34 (by decide) (fun q3 => ?_) (fun q3 => ?_)
  · have h := rl_ift q3 h
    refine rl_aload_n (pc := 39) Γ nd_Mo_wall_39 0 rfl ?_
    obtain ⟨q4, q4h, h⟩ := rl_bd h
    refine rl_callVv (As := []) (pc := 40) Γ nd_Mo_wall_40 hO (rw_Mo_findBest l E   (rl_su σ 59 0 s0) q4 q4h) 0 nm_Mo_124 nm_im_Mo_findBest nm_se_Mo_findBest nm_ini_Mo nh_Mo_findBest (rl_o59 E) rfl ⟨rfl, rfl⟩ (by decide +kernel) (Nat.le_of_ble_eq_true rfl) (Nat.le_of_ble_eq_true rfl) ⟨Nat.zero_le _, Nat.zero_le _⟩ (Nat.le_of_ble_eq_true rfl) rfl rfl ?_
    refine rl_aload_n (pc := 43) Γ nd_Mo_wall_43 0 rfl ?_
    refine rl_iload_n (pc := 44) Γ nd_Mo_wall_44 1 rfl ?_
    obtain ⟨q5, q5h, h⟩ := rl_bd h
    refine rl_callVi (As := [.int x1]) (pc := 45) Γ nd_Mo_wall_45 hO (rw_Mo_placeOf l E x1  q4.2 q5 q5h) 1 nm_Mo_94 nm_im_Mo_placeOf nm_se_Mo_placeOf nm_ini_Mo nh_Mo_placeOf (rl_o59 E) rfl ⟨rfl, rfl⟩ (by decide +kernel) (Nat.le_of_ble_eq_true rfl) (Nat.le_of_ble_eq_true rfl) ⟨Nat.zero_le _, Nat.zero_le _⟩ (Nat.le_of_ble_eq_true rfl) rfl rfl ?_
    refine rl_istore_n (L' := [(3, .int q5.1), (0, .ref (E.1 59)), (1, .int x1), (2, .int x2)]) (pc := 48) Γ nd_Mo_wall_48 (by decide) rfl ?_
    refine rl_aload_n (pc := 49) Γ nd_Mo_wall_49 1 rfl ?_
    refine rl_iload_n (pc := 50) Γ nd_Mo_wall_50 3 rfl ?_
    obtain ⟨q6, q6h, h⟩ := rl_bd h
    refine rl_callVi (As := [.int x2]) (pc := 51) Γ nd_Mo_wall_51 hO (rw_Mo_placeOf l E x2  q5.2 q6 q6h) 1 nm_Mo_94 nm_im_Mo_placeOf nm_se_Mo_placeOf nm_ini_Mo nh_Mo_placeOf (rl_o59 E) rfl ⟨rfl, rfl⟩ (by decide +kernel) (Nat.le_of_ble_eq_true rfl) (Nat.le_of_ble_eq_true rfl) ⟨Nat.zero_le _, Nat.zero_le _⟩ (Nat.le_of_ble_eq_true rfl) rfl rfl ?_
    refine rl_istore (L' := [(4, .int q6.1), (3, .int q5.1), (0, .ref (E.1 59)), (1, .int x1), (2, .int x2)]) (pc := 54) Γ nd_Mo_wall_54 (by decide) rfl ?_
    refine rl_aload_n (pc := 56) Γ nd_Mo_wall_56 2 rfl ?_
    refine rl_get (pc := 57) Γ nd_Mo_wall_57 hO (k := 15) (rl_o59 E) rfl (by decide) rfl ⟨ni_Mo, nf_Mo_98⟩ ?_
    refine rl_if_eq (tgt := 72) (pc := 60) Γ nd_Mo_wall_60 (by decide) (fun q7 => ?_) (fun q7 => ?_)
    · have h := rl_ift q7 h
      refine rl_iconst (v := (-1)) (pc := 72) Γ nd_Mo_wall_72 (by decide) ?_
      refine rl_goto (tgt := 83) (pc := 73) Γ nd_Mo_wall_73 (by decide) ?_
      exact rl_iret (pc := 83) Γ nd_Mo_wall_83 hr hk h
    · have h := rl_iff q7 h
      refine rl_iload_n (pc := 63) Γ nd_Mo_wall_63 1 rfl ?_
      refine rl_if_lt (tgt := 72) (pc := 64) Γ nd_Mo_wall_64 (by decide) (fun q8 => ?_) (fun q8 => ?_)
      · have h := rl_ift q8 h
        refine rl_iconst (v := (-1)) (pc := 72) Γ nd_Mo_wall_72 (by decide) ?_
        refine rl_goto (tgt := 83) (pc := 73) Γ nd_Mo_wall_73 (by decide) ?_
        exact rl_iret (pc := 83) Γ nd_Mo_wall_83 hr hk h
      · have h := rl_iff q8 h
        refine rl_iload (pc := 67) Γ nd_Mo_wall_67 0 rfl ?_
        refine rl_if_ge (tgt := 76) (pc := 69) Γ nd_Mo_wall_69 (by decide) (fun q9 => ?_) (fun q9 => ?_)
        · have h := rl_ift q9 h
          refine rl_aload_n (pc := 76) Γ nd_Mo_wall_76 2 rfl ?_
          refine rl_iload_n (pc := 77) Γ nd_Mo_wall_77 1 rfl ?_
          refine rl_iload (pc := 78) Γ nd_Mo_wall_78 0 rfl ?_
          obtain ⟨q10, q10h, h⟩ := rl_bd h
          refine rl_callVi (As := [.int q5.1, .int q6.1]) (pc := 80) Γ nd_Mo_wall_80 hO (rw_Mo_shared l E q5.1 q6.1  q6.2 q10 q10h) 2 nm_Mo_131 nm_im_Mo_shared nm_se_Mo_shared nm_ini_Mo nh_Mo_shared (rl_o59 E) rfl ⟨rfl, rfl⟩ (by decide +kernel) (Nat.le_of_ble_eq_true rfl) (Nat.le_of_ble_eq_true rfl) ⟨Nat.zero_le _, Nat.zero_le _⟩ (Nat.le_of_ble_eq_true rfl) rfl rfl ?_
          exact rl_iret (pc := 83) Γ nd_Mo_wall_83 hr hk h
        · have h := rl_iff q9 h
          refine rl_iconst (v := (-1)) (pc := 72) Γ nd_Mo_wall_72 (by decide) ?_
          refine rl_goto (tgt := 83) (pc := 73) Γ nd_Mo_wall_73 (by decide) ?_
          exact rl_iret (pc := 83) Γ nd_Mo_wall_83 hr hk h
  · have h := rl_iff q3 h
    refine rl_iconst (v := 0) (pc := 37) Γ nd_Mo_wall_37 (by decide) ?_
    exact rl_iret (pc := 38) Γ nd_Mo_wall_38 hr hk h
set_option maxHeartbeats 4000000 in
set_option maxRecDepth 100000 in
theorem rw_Mo_wall_J26 {p : Program} {l : Launch} {e : Env} {s : State} {m : MethodId} {args : Array Value} {below : List Frame} {meth : Method} {c : Code} {E : rl_E} (Γ : CallFix p m c nc_Mo_wall 5 s args rl_TT nR_Mo) (hO : rl_Ok E s) (hr : meth.sig.returnType = (some .int)) (hk : meth.locks = false)  (x1 : Int32) (x2 : Int32)   {r : Int32 × rl_M}  (σ : rl_M) (h : rf_Mo_wall_J26 x1 x2  σ = some r) : rl_G p l e nr_Mo_wall s m args below meth c 5 E 0 0 (rl_QM below args s E rl_ri r) σ 26 [(0, .ref (E.1 59)), (1, .int x1), (2, .int x2)] [.ref (E.1 59)] := by
  unfold rf_Mo_wall_J26 at h
  refine rl_iconst (v := 1) (pc := 26) Γ nd_Mo_wall_26 (by decide) ?_
  exact rl_Gsub [0, 1, 2] rfl (rw_Mo_wall_J27 Γ hO hr hk x1 x2 1   σ h)
set_option maxHeartbeats 4000000 in
set_option maxRecDepth 100000 in
theorem rw_Mo_wall (l : Launch) (E : rl_E) (x1 : Int32) (x2 : Int32)  (σ : rl_M) (r : Int32 × rl_M) (h : rf_Mo_wall x1 x2 σ = some r) : Met l ny_Mo_wall nw_Mo_wall nr_Mo_wall (rl_P E [.ref (E.1 59), .int x1, .int x2] σ) (rl_Q E (rl_ri r.1) r.2) 0 0 (rl_A E) := by
  refine Met.ofW (cc := nc_Mo_wall) (maxL := 5) (ret := (some .int)) (by decide) rfl ?_
  intro p e s m args below meth c s₁ B hml hv
  obtain ⟨rfl, hP, hO⟩ := hv
  have Γ : CallFix p m c nc_Mo_wall 5 s ([.ref (E.1 59), .int x1, .int x2] : List Value).toArray rl_TT nR_Mo := ⟨B.exec, B.bytes, hml, findClass_of_methodNamed B.named, fun w hw => atoms_spec (ws := nw_Mo_wall) B.pre w (List.mem_cons_of_mem _ hw)⟩
  have hr := B.returns
  have hk := B.notSynchronized
  refine rl_start (R := nr_Mo_wall) (Q := rl_QM below _ s E rl_ri r) (nL := 5) (av := [.ref (E.1 59), .int x1, .int x2]) (σ := σ) hP (Nat.le_of_ble_eq_true rfl) ?_
  unfold rf_Mo_wall at h
  refine rl_aload_n (pc := 0) Γ nd_Mo_wall_0 0 rfl ?_
  refine rl_aload_n (pc := 1) Γ nd_Mo_wall_1 0 rfl ?_
  refine rl_iload_n (pc := 2) Γ nd_Mo_wall_2 1 rfl ?_
  obtain ⟨q1, q1h, h⟩ := rl_bd h
  refine rl_callVi (As := [.int x1]) (pc := 3) Γ nd_Mo_wall_3 hO (rw_Mo_isRoom l E x1  σ q1 q1h) 1 nm_Mo_77 nm_im_Mo_isRoom nm_se_Mo_isRoom nm_ini_Mo nh_Mo_isRoom (rl_o59 E) rfl ⟨rfl, rfl⟩ (by decide +kernel) (Nat.le_of_ble_eq_true rfl) (Nat.le_of_ble_eq_true rfl) ⟨Nat.zero_le _, Nat.zero_le _⟩ (Nat.le_of_ble_eq_true rfl) rfl rfl ?_
  refine rl_if_eq (tgt := 26) (pc := 6) Γ nd_Mo_wall_6 (by decide) (fun q2 => ?_) (fun q2 => ?_)
  · have h := rl_ift q2 h
    exact rl_Gsub [0, 1, 2] rfl (rw_Mo_wall_J26 Γ hO hr hk x1 x2   q1.2 h)
  · have h := rl_iff q2 h
    refine rl_aload_n (pc := 9) Γ nd_Mo_wall_9 0 rfl ?_
    refine rl_iload_n (pc := 10) Γ nd_Mo_wall_10 2 rfl ?_
    obtain ⟨q11, q11h, h⟩ := rl_bd h
    refine rl_callVi (As := [.int x2]) (pc := 11) Γ nd_Mo_wall_11 hO (rw_Mo_isRoom l E x2  q1.2 q11 q11h) 1 nm_Mo_77 nm_im_Mo_isRoom nm_se_Mo_isRoom nm_ini_Mo nh_Mo_isRoom (rl_o59 E) rfl ⟨rfl, rfl⟩ (by decide +kernel) (Nat.le_of_ble_eq_true rfl) (Nat.le_of_ble_eq_true rfl) ⟨Nat.zero_le _, Nat.zero_le _⟩ (Nat.le_of_ble_eq_true rfl) rfl rfl ?_
    refine rl_if_eq (tgt := 26) (pc := 14) Γ nd_Mo_wall_14 (by decide) (fun q12 => ?_) (fun q12 => ?_)
    · have h := rl_ift q12 h
      exact rl_Gsub [0, 1, 2] rfl (rw_Mo_wall_J26 Γ hO hr hk x1 x2   q11.2 h)
    · have h := rl_iff q12 h
      refine rl_iload_n (pc := 17) Γ nd_Mo_wall_17 1 rfl ?_
      refine rl_iload_n (pc := 18) Γ nd_Mo_wall_18 2 rfl ?_
      refine rl_icmp_eq (tgt := 26) (pc := 19) Γ nd_Mo_wall_19 (by decide) (fun q13 => ?_) (fun q13 => ?_)
      · have h := rl_ift q13 h
        exact rl_Gsub [0, 1, 2] rfl (rw_Mo_wall_J26 Γ hO hr hk x1 x2   q11.2 h)
      · have h := rl_iff q13 h
        refine rl_iconst (v := 0) (pc := 22) Γ nd_Mo_wall_22 (by decide) ?_
        refine rl_goto (tgt := 27) (pc := 23) Γ nd_Mo_wall_23 (by decide) ?_
        exact rl_Gsub [0, 1, 2] rfl (rw_Mo_wall_J27 Γ hO hr hk x1 x2 0   q11.2 h)
def rf_Mo_wish_J62 (x1 : Int32) (x2 : Int32) (x3 : Int32) (s0 : Int32)  (σ : rl_M) : Option (Int32 × rl_M) := (if ((rl_su σ 59 0 s0) 59 0) ≤ 0 then (if rl_ib ((rl_su σ 59 0 s0) 59 9) 10 = true then (if rl_ib ((rl_su (rl_su σ 59 0 s0) 64 ((rl_su σ 59 0 s0) 59 9).toNatClampNeg x1) 59 9) 10 = true then (if rl_ib ((rl_su (rl_su (rl_su σ 59 0 s0) 64 ((rl_su σ 59 0 s0) 59 9).toNatClampNeg x1) 65 ((rl_su (rl_su σ 59 0 s0) 64 ((rl_su σ 59 0 s0) 59 9).toNatClampNeg x1) 59 9).toNatClampNeg x2) 59 9) 10 = true then some (((rl_su (rl_su (rl_su (rl_su (rl_su σ 59 0 s0) 64 ((rl_su σ 59 0 s0) 59 9).toNatClampNeg x1) 65 ((rl_su (rl_su σ 59 0 s0) 64 ((rl_su σ 59 0 s0) 59 9).toNatClampNeg x1) 59 9).toNatClampNeg x2) 66 ((rl_su (rl_su (rl_su σ 59 0 s0) 64 ((rl_su σ 59 0 s0) 59 9).toNatClampNeg x1) 65 ((rl_su (rl_su σ 59 0 s0) 64 ((rl_su σ 59 0 s0) 59 9).toNatClampNeg x1) 59 9).toNatClampNeg x2) 59 9).toNatClampNeg x3) 59 9 (((rl_su (rl_su (rl_su (rl_su σ 59 0 s0) 64 ((rl_su σ 59 0 s0) 59 9).toNatClampNeg x1) 65 ((rl_su (rl_su σ 59 0 s0) 64 ((rl_su σ 59 0 s0) 59 9).toNatClampNeg x1) 59 9).toNatClampNeg x2) 66 ((rl_su (rl_su (rl_su σ 59 0 s0) 64 ((rl_su σ 59 0 s0) 59 9).toNatClampNeg x1) 65 ((rl_su (rl_su σ 59 0 s0) 64 ((rl_su σ 59 0 s0) 59 9).toNatClampNeg x1) 59 9).toNatClampNeg x2) 59 9).toNatClampNeg x3) 59 9) + 1)) 59 9) - 1, rl_su (rl_su (rl_su (rl_su (rl_su σ 59 0 s0) 64 ((rl_su σ 59 0 s0) 59 9).toNatClampNeg x1) 65 ((rl_su (rl_su σ 59 0 s0) 64 ((rl_su σ 59 0 s0) 59 9).toNatClampNeg x1) 59 9).toNatClampNeg x2) 66 ((rl_su (rl_su (rl_su σ 59 0 s0) 64 ((rl_su σ 59 0 s0) 59 9).toNatClampNeg x1) 65 ((rl_su (rl_su σ 59 0 s0) 64 ((rl_su σ 59 0 s0) 59 9).toNatClampNeg x1) 59 9).toNatClampNeg x2) 59 9).toNatClampNeg x3) 59 9 (((rl_su (rl_su (rl_su (rl_su σ 59 0 s0) 64 ((rl_su σ 59 0 s0) 59 9).toNatClampNeg x1) 65 ((rl_su (rl_su σ 59 0 s0) 64 ((rl_su σ 59 0 s0) 59 9).toNatClampNeg x1) 59 9).toNatClampNeg x2) 66 ((rl_su (rl_su (rl_su σ 59 0 s0) 64 ((rl_su σ 59 0 s0) 59 9).toNatClampNeg x1) 65 ((rl_su (rl_su σ 59 0 s0) 64 ((rl_su σ 59 0 s0) 59 9).toNatClampNeg x1) 59 9).toNatClampNeg x2) 59 9).toNatClampNeg x3) 59 9) + 1)) else none) else none) else none) else some (0, rl_su σ 59 0 s0))
def rf_Mo_wish_J36 (x1 : Int32) (x2 : Int32) (x3 : Int32) (s0 : Int32)  (σ : rl_M) : Option (Int32 × rl_M) := (if s0 = 0 then rf_Mo_wish_J62 x1 x2 x3 1  σ else (if (σ 59 9) = 10 then rf_Mo_wish_J62 x1 x2 x3 2  σ else rf_Mo_wish_J62 x1 x2 x3 0  σ))
def rf_Mo_wish_J35 (x1 : Int32) (x2 : Int32) (x3 : Int32)  (σ : rl_M) : Option (Int32 × rl_M) := rf_Mo_wish_J36 x1 x2 x3 0  σ
def rf_Mo_wish (x1 : Int32) (x2 : Int32) (x3 : Int32) (σ : rl_M) : Option (Int32 × rl_M) := ((rf_Mo_isRoom x1 σ).bind (fun q1 => (if q1.1 = 0 then rf_Mo_wish_J35 x1 x2 x3  q1.2 else ((rf_Mo_isRoom x2 q1.2).bind (fun q9 => (if q9.1 = 0 then rf_Mo_wish_J35 x1 x2 x3  q9.2 else (if x1 = x2 then rf_Mo_wish_J35 x1 x2 x3  q9.2 else ((rf_Mo_isIn x3 1 60 q9.2).bind (fun q12 => (if q12.1 = 0 then rf_Mo_wish_J35 x1 x2 x3  q12.2 else rf_Mo_wish_J36 x1 x2 x3 1  q12.2))))))))))
set_option maxHeartbeats 4000000 in
set_option maxRecDepth 100000 in
theorem rw_Mo_wish_J62 {p : Program} {l : Launch} {e : Env} {s : State} {m : MethodId} {args : Array Value} {below : List Frame} {meth : Method} {c : Code} {E : rl_E} (Γ : CallFix p m c nc_Mo_wish 5 s args rl_TT nR_Mo) (hO : rl_Ok E s) (hr : meth.sig.returnType = (some .int)) (hk : meth.locks = false)  (x1 : Int32) (x2 : Int32) (x3 : Int32) (s0 : Int32)   {r : Int32 × rl_M}  (σ : rl_M) (h : rf_Mo_wish_J62 x1 x2 x3 s0  σ = some r) : rl_G p l e nr_Mo_wish s m args below meth c 5 E 0 0 (rl_QM below args s E rl_ri r) σ 62 [(0, .ref (E.1 59)), (1, .int x1), (2, .int x2), (3, .int x3)] [.int s0, .ref (E.1 59)] := by
  unfold rf_Mo_wish_J62 at h
  refine rl_put (pc := 62) Γ nd_Mo_wish_62 hO (k := 0) (rl_o59 E) rfl (by decide) (fun _ _ => rfl) ⟨ni_Mo, nf_Mo_71⟩ nt_Mo nto_Mo nn_Mo rfl (fun _ => Nat.le_of_ble_eq_true rfl) rl_ni ?_
  refine rl_aload_n (pc := 65) Γ nd_Mo_wish_65 0 rfl ?_
  refine rl_get (pc := 66) Γ nd_Mo_wish_66 hO (k := 0) (rl_o59 E) rfl (by decide) rfl ⟨ni_Mo, nf_Mo_71⟩ ?_
  refine rl_if_le (tgt := 74) (pc := 69) Γ nd_Mo_wish_69 (by decide) (fun q5 => ?_) (fun q5 => ?_)
  · have h := rl_ift q5 h
    refine rl_aload_n (pc := 74) Γ nd_Mo_wish_74 0 rfl ?_
    refine rl_get (pc := 75) Γ nd_Mo_wish_75 hO (k := 10) (rl_o59 E) rfl (by decide) rfl ⟨ni_Mo, nf_Mo_29⟩ ?_
    refine rl_aload_n (pc := 78) Γ nd_Mo_wish_78 0 rfl ?_
    refine rl_get (pc := 79) Γ nd_Mo_wish_79 hO (k := 9) (rl_o59 E) rfl (by decide) rfl ⟨ni_Mo, nf_Mo_135⟩ ?_
    refine rl_iload_n (pc := 82) Γ nd_Mo_wish_82 1 rfl ?_
    obtain ⟨q6, h⟩ := rl_if h
    refine rl_ist (pc := 83) Γ nd_Mo_wish_83 hO (rl_a64 E) (rl_ib_in q6) ?_
    refine rl_aload_n (pc := 84) Γ nd_Mo_wish_84 0 rfl ?_
    refine rl_get (pc := 85) Γ nd_Mo_wish_85 hO (k := 11) (rl_o59 E) rfl (by decide) rfl ⟨ni_Mo, nf_Mo_32⟩ ?_
    refine rl_aload_n (pc := 88) Γ nd_Mo_wish_88 0 rfl ?_
    refine rl_get (pc := 89) Γ nd_Mo_wish_89 hO (k := 9) (rl_o59 E) rfl (by decide) rfl ⟨ni_Mo, nf_Mo_135⟩ ?_
    refine rl_iload_n (pc := 92) Γ nd_Mo_wish_92 2 rfl ?_
    obtain ⟨q7, h⟩ := rl_if h
    refine rl_ist (pc := 93) Γ nd_Mo_wish_93 hO (rl_a65 E) (rl_ib_in q7) ?_
    refine rl_aload_n (pc := 94) Γ nd_Mo_wish_94 0 rfl ?_
    refine rl_get (pc := 95) Γ nd_Mo_wish_95 hO (k := 12) (rl_o59 E) rfl (by decide) rfl ⟨ni_Mo, nf_Mo_35⟩ ?_
    refine rl_aload_n (pc := 98) Γ nd_Mo_wish_98 0 rfl ?_
    refine rl_get (pc := 99) Γ nd_Mo_wish_99 hO (k := 9) (rl_o59 E) rfl (by decide) rfl ⟨ni_Mo, nf_Mo_135⟩ ?_
    refine rl_iload_n (pc := 102) Γ nd_Mo_wish_102 3 rfl ?_
    obtain ⟨q8, h⟩ := rl_if h
    refine rl_ist (pc := 103) Γ nd_Mo_wish_103 hO (rl_a66 E) (rl_ib_in q8) ?_
    refine rl_aload_n (pc := 104) Γ nd_Mo_wish_104 0 rfl ?_
    refine rl_dup (pc := 105) Γ nd_Mo_wish_105 rfl ?_
    refine rl_get (pc := 106) Γ nd_Mo_wish_106 hO (k := 9) (rl_o59 E) rfl (by decide) rfl ⟨ni_Mo, nf_Mo_135⟩ ?_
    refine rl_iconst (v := 1) (pc := 109) Γ nd_Mo_wish_109 (by decide) ?_
    refine rl_iadd (pc := 110) Γ nd_Mo_wish_110 ?_
    refine rl_put (pc := 111) Γ nd_Mo_wish_111 hO (k := 9) (rl_o59 E) rfl (by decide) (fun _ _ => rfl) ⟨ni_Mo, nf_Mo_135⟩ nt_Mo nto_Mo nn_Mo rfl (fun _ => Nat.le_of_ble_eq_true rfl) rl_ni ?_
    refine rl_aload_n (pc := 114) Γ nd_Mo_wish_114 0 rfl ?_
    refine rl_get (pc := 115) Γ nd_Mo_wish_115 hO (k := 9) (rl_o59 E) rfl (by decide) rfl ⟨ni_Mo, nf_Mo_135⟩ ?_
    refine rl_iconst (v := 1) (pc := 118) Γ nd_Mo_wish_118 (by decide) ?_
    refine rl_isub (pc := 119) Γ nd_Mo_wish_119 ?_
    exact rl_iret (pc := 120) Γ nd_Mo_wish_120 hr hk h
  · have h := rl_iff q5 h
    refine rl_iconst (v := 0) (pc := 72) Γ nd_Mo_wish_72 (by decide) ?_
    exact rl_iret (pc := 73) Γ nd_Mo_wish_73 hr hk h
set_option maxHeartbeats 4000000 in
set_option maxRecDepth 100000 in
theorem rw_Mo_wish_J36 {p : Program} {l : Launch} {e : Env} {s : State} {m : MethodId} {args : Array Value} {below : List Frame} {meth : Method} {c : Code} {E : rl_E} (Γ : CallFix p m c nc_Mo_wish 5 s args rl_TT nR_Mo) (hO : rl_Ok E s) (hr : meth.sig.returnType = (some .int)) (hk : meth.locks = false)  (x1 : Int32) (x2 : Int32) (x3 : Int32) (s0 : Int32)   {r : Int32 × rl_M}  (σ : rl_M) (h : rf_Mo_wish_J36 x1 x2 x3 s0  σ = some r) : rl_G p l e nr_Mo_wish s m args below meth c 5 E 0 0 (rl_QM below args s E rl_ri r) σ 36 [(0, .ref (E.1 59)), (1, .int x1), (2, .int x2), (3, .int x3)] [.int s0] := by
  unfold rf_Mo_wish_J36 at h
  refine rl_istore (L' := [(4, .int s0), (0, .ref (E.1 59)), (1, .int x1), (2, .int x2), (3, .int x3)]) (pc := 36) Γ nd_Mo_wish_36 (by decide) rfl ?_
  refine rl_aload_n (pc := 38) Γ nd_Mo_wish_38 1 rfl ?_
  refine rl_iload (pc := 39) Γ nd_Mo_wish_39 0 rfl ?_
  refine rl_if_ne (tgt := 48) (pc := 41) Γ nd_Mo_wish_41 (by decide) (fun q3 => ?_) (fun q3 => ?_)
  · have h := rl_iff q3 h
    refine rl_aload_n (pc := 48) Γ nd_Mo_wish_48 1 rfl ?_
    refine rl_get (pc := 49) Γ nd_Mo_wish_49 hO (k := 9) (rl_o59 E) rfl (by decide) rfl ⟨ni_Mo, nf_Mo_135⟩ ?_
    refine rl_bipush (v := 10) (pc := 52) Γ nd_Mo_wish_52 (by decide) ?_
    refine rl_icmp_ne (tgt := 61) (pc := 54) Γ nd_Mo_wish_54 (by decide) (fun q4 => ?_) (fun q4 => ?_)
    · have h := rl_iff q4 h
      refine rl_iconst (v := 0) (pc := 61) Γ nd_Mo_wish_61 (by decide) ?_
      exact rl_Gsub [1, 2, 3, 4] rfl (rw_Mo_wish_J62 Γ hO hr hk x1 x2 x3 0   σ h)
    · have h := rl_ift q4 h
      refine rl_iconst (v := 2) (pc := 57) Γ nd_Mo_wish_57 (by decide) ?_
      refine rl_goto (tgt := 62) (pc := 58) Γ nd_Mo_wish_58 (by decide) ?_
      exact rl_Gsub [1, 2, 3, 4] rfl (rw_Mo_wish_J62 Γ hO hr hk x1 x2 x3 2   σ h)
  · have h := rl_ift q3 h
    refine rl_iconst (v := 1) (pc := 44) Γ nd_Mo_wish_44 (by decide) ?_
    refine rl_goto (tgt := 62) (pc := 45) Γ nd_Mo_wish_45 (by decide) ?_
    exact rl_Gsub [1, 2, 3, 4] rfl (rw_Mo_wish_J62 Γ hO hr hk x1 x2 x3 1   σ h)
set_option maxHeartbeats 4000000 in
set_option maxRecDepth 100000 in
theorem rw_Mo_wish_J35 {p : Program} {l : Launch} {e : Env} {s : State} {m : MethodId} {args : Array Value} {below : List Frame} {meth : Method} {c : Code} {E : rl_E} (Γ : CallFix p m c nc_Mo_wish 5 s args rl_TT nR_Mo) (hO : rl_Ok E s) (hr : meth.sig.returnType = (some .int)) (hk : meth.locks = false)  (x1 : Int32) (x2 : Int32) (x3 : Int32)   {r : Int32 × rl_M}  (σ : rl_M) (h : rf_Mo_wish_J35 x1 x2 x3  σ = some r) : rl_G p l e nr_Mo_wish s m args below meth c 5 E 0 0 (rl_QM below args s E rl_ri r) σ 35 [(0, .ref (E.1 59)), (1, .int x1), (2, .int x2), (3, .int x3)] [] := by
  unfold rf_Mo_wish_J35 at h
  refine rl_iconst (v := 0) (pc := 35) Γ nd_Mo_wish_35 (by decide) ?_
  exact rl_Gsub [0, 1, 2, 3] rfl (rw_Mo_wish_J36 Γ hO hr hk x1 x2 x3 0   σ h)
set_option maxHeartbeats 4000000 in
set_option maxRecDepth 100000 in
theorem rw_Mo_wish (l : Launch) (E : rl_E) (x1 : Int32) (x2 : Int32) (x3 : Int32)  (σ : rl_M) (r : Int32 × rl_M) (h : rf_Mo_wish x1 x2 x3 σ = some r) : Met l ny_Mo_wish nw_Mo_wish nr_Mo_wish (rl_P E [.ref (E.1 59), .int x1, .int x2, .int x3] σ) (rl_Q E (rl_ri r.1) r.2) 0 0 (rl_A E) := by
  refine Met.ofW (cc := nc_Mo_wish) (maxL := 5) (ret := (some .int)) (by decide) rfl ?_
  intro p e s m args below meth c s₁ B hml hv
  obtain ⟨rfl, hP, hO⟩ := hv
  have Γ : CallFix p m c nc_Mo_wish 5 s ([.ref (E.1 59), .int x1, .int x2, .int x3] : List Value).toArray rl_TT nR_Mo := ⟨B.exec, B.bytes, hml, findClass_of_methodNamed B.named, fun w hw => atoms_spec (ws := nw_Mo_wish) B.pre w (List.mem_cons_of_mem _ hw)⟩
  have hr := B.returns
  have hk := B.notSynchronized
  refine rl_start (R := nr_Mo_wish) (Q := rl_QM below _ s E rl_ri r) (nL := 5) (av := [.ref (E.1 59), .int x1, .int x2, .int x3]) (σ := σ) hP (Nat.le_of_ble_eq_true rfl) ?_
  unfold rf_Mo_wish at h
  refine rl_aload_n (pc := 0) Γ nd_Mo_wish_0 0 rfl ?_
  refine rl_iload_n (pc := 1) Γ nd_Mo_wish_1 1 rfl ?_
  obtain ⟨q1, q1h, h⟩ := rl_bd h
  refine rl_callVi (As := [.int x1]) (pc := 2) Γ nd_Mo_wish_2 hO (rw_Mo_isRoom l E x1  σ q1 q1h) 1 nm_Mo_77 nm_im_Mo_isRoom nm_se_Mo_isRoom nm_ini_Mo nh_Mo_isRoom (rl_o59 E) rfl ⟨rfl, rfl⟩ (by decide +kernel) (Nat.le_of_ble_eq_true rfl) (Nat.le_of_ble_eq_true rfl) ⟨Nat.zero_le _, Nat.zero_le _⟩ (Nat.le_of_ble_eq_true rfl) rfl rfl ?_
  refine rl_if_eq (tgt := 35) (pc := 5) Γ nd_Mo_wish_5 (by decide) (fun q2 => ?_) (fun q2 => ?_)
  · have h := rl_ift q2 h
    exact rl_Gsub [0, 1, 2, 3] rfl (rw_Mo_wish_J35 Γ hO hr hk x1 x2 x3   q1.2 h)
  · have h := rl_iff q2 h
    refine rl_aload_n (pc := 8) Γ nd_Mo_wish_8 0 rfl ?_
    refine rl_iload_n (pc := 9) Γ nd_Mo_wish_9 2 rfl ?_
    obtain ⟨q9, q9h, h⟩ := rl_bd h
    refine rl_callVi (As := [.int x2]) (pc := 10) Γ nd_Mo_wish_10 hO (rw_Mo_isRoom l E x2  q1.2 q9 q9h) 1 nm_Mo_77 nm_im_Mo_isRoom nm_se_Mo_isRoom nm_ini_Mo nh_Mo_isRoom (rl_o59 E) rfl ⟨rfl, rfl⟩ (by decide +kernel) (Nat.le_of_ble_eq_true rfl) (Nat.le_of_ble_eq_true rfl) ⟨Nat.zero_le _, Nat.zero_le _⟩ (Nat.le_of_ble_eq_true rfl) rfl rfl ?_
    refine rl_if_eq (tgt := 35) (pc := 13) Γ nd_Mo_wish_13 (by decide) (fun q10 => ?_) (fun q10 => ?_)
    · have h := rl_ift q10 h
      exact rl_Gsub [0, 1, 2, 3] rfl (rw_Mo_wish_J35 Γ hO hr hk x1 x2 x3   q9.2 h)
    · have h := rl_iff q10 h
      refine rl_iload_n (pc := 16) Γ nd_Mo_wish_16 1 rfl ?_
      refine rl_iload_n (pc := 17) Γ nd_Mo_wish_17 2 rfl ?_
      refine rl_icmp_eq (tgt := 35) (pc := 18) Γ nd_Mo_wish_18 (by decide) (fun q11 => ?_) (fun q11 => ?_)
      · have h := rl_ift q11 h
        exact rl_Gsub [0, 1, 2, 3] rfl (rw_Mo_wish_J35 Γ hO hr hk x1 x2 x3   q9.2 h)
      · have h := rl_iff q11 h
        refine rl_iload_n (pc := 21) Γ nd_Mo_wish_21 3 rfl ?_
        refine rl_iconst (v := 1) (pc := 22) Γ nd_Mo_wish_22 (by decide) ?_
        refine rl_bipush (v := 60) (pc := 23) Γ nd_Mo_wish_23 (by decide) ?_
        obtain ⟨q12, q12h, h⟩ := rl_bd h
        refine rl_callSi (As := [.int x3, .int 1, .int 60]) (pc := 25) Γ nd_Mo_wish_25 hO (rw_Mo_isIn l E x3 1 60  q9.2 q12 q12h) 3 nm_Mo_81 nm_st_Mo_isIn nm_ini_Mo nh_Mo_isIn ⟨rfl, rfl⟩ (by decide +kernel) (Nat.le_of_ble_eq_true rfl) (Nat.le_of_ble_eq_true rfl) ⟨Nat.zero_le _, Nat.zero_le _⟩ (Nat.le_of_ble_eq_true rfl) rfl rfl ?_
        refine rl_if_eq (tgt := 35) (pc := 28) Γ nd_Mo_wish_28 (by decide) (fun q13 => ?_) (fun q13 => ?_)
        · have h := rl_ift q13 h
          exact rl_Gsub [0, 1, 2, 3] rfl (rw_Mo_wish_J35 Γ hO hr hk x1 x2 x3   q12.2 h)
        · have h := rl_iff q13 h
          refine rl_iconst (v := 1) (pc := 31) Γ nd_Mo_wish_31 (by decide) ?_
          refine rl_goto (tgt := 36) (pc := 32) Γ nd_Mo_wish_32 (by decide) ?_
          exact rl_Gsub [0, 1, 2, 3] rfl (rw_Mo_wish_J36 Γ hO hr hk x1 x2 x3 1   q12.2 h)
