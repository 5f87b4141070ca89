def rf_Mo_placeOf_L2 (x1 : Int32)  : Nat → Int32 → rl_M → Option (Int32 × rl_M)
  | 0, _, _ => none
  | n + 1, x2, σ => (if (σ 59 7) ≤ x2 then some ((-1), σ) else (if rl_ib x2 16 = true then (if (σ 63 x2.toNatClampNeg) = (48 + x1) then some (x2, σ) else rf_Mo_placeOf_L2 x1  n (x2 + 1) σ) else none))
def rf_Mo_placeOf (x1 : Int32) (σ : rl_M) : Option (Int32 × rl_M) := rf_Mo_placeOf_L2 x1  10000 0 σ
set_option maxHeartbeats 4000000 in
set_option maxRecDepth 100000 in
theorem rw_Mo_placeOf_L2 {p : Program} {l : Launch} {e : Env} {s : State} {m : MethodId} {args : Array Value} {below : List Frame} {meth : Method} {c : Code} {E : rl_E} (Γ : CallFix p m c nc_Mo_placeOf 3 s args rl_TT nR_Mo) (hO : rl_Ok E s) (hr : meth.sig.returnType = (some .int)) (hk : meth.locks = false) (x1 : Int32)   {r : Int32 × rl_M}  : ∀ (n : Nat) (x2 : Int32) (σ : rl_M), rf_Mo_placeOf_L2 x1  n x2 σ = some r → rl_G p l e nr_Mo_placeOf s m args below meth c 3 E 0 0 (rl_QM below args s E rl_ri r) σ 2 [(0, .ref (E.1 59)), (1, .int x1), (2, .int x2)] [] := by
  intro n
  induction n with
  | zero =>
    intro x2 σ h
    exact (rl_ns (show none = some r from h)).elim
  | succ n ih =>
    intro x2 σ h
    unfold rf_Mo_placeOf_L2 at h
    refine rl_iload_n (pc := 2) Γ nd_Mo_placeOf_2 2 rfl ?_
    refine rl_aload_n (pc := 3) Γ nd_Mo_placeOf_3 0 rfl ?_
    refine rl_get (pc := 4) Γ nd_Mo_placeOf_4 hO (k := 7) (rl_o59 E) rfl (by decide) rfl ⟨ni_Mo, nf_Mo_91⟩ ?_
    refine rl_icmp_ge (tgt := 31) (pc := 7) Γ nd_Mo_placeOf_7 (by decide) (fun q1 => ?_) (fun q1 => ?_)
    · have h := rl_ift q1 h
      refine rl_iconst (v := (-1)) (pc := 31) Γ nd_Mo_placeOf_31 (by decide) ?_
      exact rl_iret (pc := 32) Γ nd_Mo_placeOf_32 hr hk h
    · have h := rl_iff q1 h
      refine rl_aload_n (pc := 10) Γ nd_Mo_placeOf_10 0 rfl ?_
      refine rl_get (pc := 11) Γ nd_Mo_placeOf_11 hO (k := 8) (rl_o59 E) rfl (by decide) rfl ⟨ni_Mo, nf_Mo_26⟩ ?_
      refine rl_iload_n (pc := 14) Γ nd_Mo_placeOf_14 2 rfl ?_
      obtain ⟨q2, h⟩ := rl_if h
      refine rl_ild (pc := 15) Γ nd_Mo_placeOf_15 hO (rl_a63 E) (rl_ib_in q2) ?_
      refine rl_bipush (v := 48) (pc := 16) Γ nd_Mo_placeOf_16 (by decide) ?_
      refine rl_iload_n (pc := 18) Γ nd_Mo_placeOf_18 1 rfl ?_
      refine rl_iadd (pc := 19) Γ nd_Mo_placeOf_19 ?_
      refine rl_icmp_ne (tgt := 25) (pc := 20) Γ nd_Mo_placeOf_20 (by decide) (fun q3 => ?_) (fun q3 => ?_)
      · have h := rl_iff q3 h
        refine rl_iinc (v := x2 + 1) (L' := [(2, .int (x2 + 1)), (0, .ref (E.1 59)), (1, .int x1)]) (pc := 25) Γ nd_Mo_placeOf_25 2 rfl rfl (by decide) rfl ?_
        refine rl_goto (tgt := 2) (pc := 28) Γ nd_Mo_placeOf_28 (by decide) ?_
        exact rl_Gsub [1, 2, 0] rfl (ih (x2 + 1) σ h)
      · have h := rl_ift q3 h
        refine rl_iload_n (pc := 23) Γ nd_Mo_placeOf_23 2 rfl ?_
        exact rl_iret (pc := 24) Γ nd_Mo_placeOf_24 hr hk h
set_option maxHeartbeats 4000000 in
set_option maxRecDepth 100000 in
theorem rw_Mo_placeOf (l : Launch) (E : rl_E) (x1 : Int32)  (σ : rl_M) (r : Int32 × rl_M) (h : rf_Mo_placeOf x1 σ = some r) : Met l ny_Mo_placeOf nw_Mo_placeOf nr_Mo_placeOf (rl_P E [.ref (E.1 59), .int x1] σ) (rl_Q E (rl_ri r.1) r.2) 0 0 (rl_A E) := by
  refine Met.ofW (cc := nc_Mo_placeOf) (maxL := 3) (ret := (some .int)) (by decide) rfl ?_
  intro p e s m args below meth c s₁ B hml hv
  obtain ⟨rfl, hP, hO⟩ := hv
  have Γ : CallFix p m c nc_Mo_placeOf 3 s ([.ref (E.1 59), .int x1] : List Value).toArray rl_TT nR_Mo := ⟨B.exec, B.bytes, hml, findClass_of_methodNamed B.named, fun w hw => atoms_spec (ws := nw_Mo_placeOf) B.pre w (List.mem_cons_of_mem _ hw)⟩
  have hr := B.returns
  have hk := B.notSynchronized
  refine rl_start (R := nr_Mo_placeOf) (Q := rl_QM below _ s E rl_ri r) (nL := 3) (av := [.ref (E.1 59), .int x1]) (σ := σ) hP (Nat.le_of_ble_eq_true rfl) ?_
  unfold rf_Mo_placeOf at h
  refine rl_iconst (v := 0) (pc := 0) Γ nd_Mo_placeOf_0 (by decide) ?_
  refine rl_istore_n (L' := [(2, .int 0), (0, .ref (E.1 59)), (1, .int x1)]) (pc := 1) Γ nd_Mo_placeOf_1 (by decide) rfl ?_
  refine rl_Gsub [1, 2, 0] rfl (rw_Mo_placeOf_L2 Γ hO hr hk x1    10000 0 σ h)
def rf_Mo_layOut_J211 (x1 : Int32) (x2 : Int32) (s0 : Int32) (s1 : Int32) (RC : Int32 → Int32 → rl_M → Option (Int32 × rl_M))  (σ : rl_M) : Option (Int32 × rl_M) := (if rl_ib s1 16 = true then (if rl_ib (x1 + (-2)) 16 = true then RC ((x1 + (-2)) + 1) (x2 + 1) (rl_su (rl_su σ 70 s1.toNatClampNeg s0) 75 (x1 + (-2)).toNatClampNeg x2) else none) else none)
def rf_Mo_layOut_J181 (x1 : Int32) (x2 : Int32) (x3 : Int32) (x4 : Int32) (x5 : Int32) (x7 : Int32) (s0 : Int32) (s1 : Int32) (RC : Int32 → Int32 → rl_M → Option (Int32 × rl_M))  (σ : rl_M) : Option (Int32 × rl_M) := (if rl_ib s1 16 = true then (if x3 = 0 then (if rl_ib x4 16 = true then (if rl_ib x5 16 = true then rf_Mo_layOut_J211 x1 x2 (((rl_su σ 69 s1.toNatClampNeg s0) 70 x4.toNatClampNeg) + ((rl_su σ 69 s1.toNatClampNeg s0) 70 x5.toNatClampNeg)) x2 RC  (rl_su σ 69 s1.toNatClampNeg s0) else none) else none) else rf_Mo_layOut_J211 x1 x2 x7 x2 RC  (rl_su σ 69 s1.toNatClampNeg s0)) else none)
def rf_Mo_layOut_J150 (x1 : Int32) (x2 : Int32) (x3 : Int32) (x4 : Int32) (x5 : Int32) (x6 : Int32) (s0 : Int32) (RC : Int32 → Int32 → rl_M → Option (Int32 × rl_M))  (σ : rl_M) : Option (Int32 × rl_M) := (if x3 = 0 then rf_Mo_layOut_J181 x1 x2 x3 x4 x5 s0 x6 x2 RC  σ else (if rl_ib x4 16 = true then (if rl_ib x5 16 = true then rf_Mo_layOut_J181 x1 x2 x3 x4 x5 s0 ((σ 69 x4.toNatClampNeg) + (σ 69 x5.toNatClampNeg)) x2 RC  σ else none) else none))
def rf_Mo_layOut_J114 (x1 : Int32) (x2 : Int32) (x3 : Int32) (x4 : Int32) (x5 : Int32) (s0 : Int32) (RC : Int32 → Int32 → rl_M → Option (Int32 × rl_M))  (σ : rl_M) : Option (Int32 × rl_M) := (if rl_ib x4 16 = true then (if rl_ib x5 16 = true then (if (σ 70 x4.toNatClampNeg) ≤ (σ 70 x5.toNatClampNeg) then (if rl_ib x5 16 = true then rf_Mo_layOut_J150 x1 x2 x3 x4 x5 s0 (σ 70 x5.toNatClampNeg) RC  σ else none) else (if rl_ib x4 16 = true then rf_Mo_layOut_J150 x1 x2 x3 x4 x5 s0 (σ 70 x4.toNatClampNeg) RC  σ else none)) else none) else none)
def rf_Mo_layOut_J44 (x1 : Int32) (x2 : Int32) (x3 : Int32) (RC : Int32 → Int32 → rl_M → Option (Int32 × rl_M))  (σ : rl_M) : Option (Int32 × rl_M) := (if rl_ib (x1 - 2) 16 = true then (if rl_ib (x1 - 1) 16 = true then (if rl_ib x2 16 = true then (if rl_ib x2 16 = true then (if rl_ib (σ 75 (x1 - 2).toNatClampNeg) 16 = true then (if rl_ib (σ 75 (x1 - 1).toNatClampNeg) 16 = true then (if ((rl_su (rl_su σ 73 x2.toNatClampNeg (σ 75 (x1 - 2).toNatClampNeg)) 74 x2.toNatClampNeg (σ 75 (x1 - 1).toNatClampNeg)) 69 (σ 75 (x1 - 2).toNatClampNeg).toNatClampNeg) ≤ ((rl_su (rl_su σ 73 x2.toNatClampNeg (σ 75 (x1 - 2).toNatClampNeg)) 74 x2.toNatClampNeg (σ 75 (x1 - 1).toNatClampNeg)) 69 (σ 75 (x1 - 1).toNatClampNeg).toNatClampNeg) then (if rl_ib (σ 75 (x1 - 1).toNatClampNeg) 16 = true then rf_Mo_layOut_J114 x1 x2 x3 (σ 75 (x1 - 2).toNatClampNeg) (σ 75 (x1 - 1).toNatClampNeg) ((rl_su (rl_su σ 73 x2.toNatClampNeg (σ 75 (x1 - 2).toNatClampNeg)) 74 x2.toNatClampNeg (σ 75 (x1 - 1).toNatClampNeg)) 69 (σ 75 (x1 - 1).toNatClampNeg).toNatClampNeg) RC  (rl_su (rl_su σ 73 x2.toNatClampNeg (σ 75 (x1 - 2).toNatClampNeg)) 74 x2.toNatClampNeg (σ 75 (x1 - 1).toNatClampNeg)) else none) else (if rl_ib (σ 75 (x1 - 2).toNatClampNeg) 16 = true then rf_Mo_layOut_J114 x1 x2 x3 (σ 75 (x1 - 2).toNatClampNeg) (σ 75 (x1 - 1).toNatClampNeg) ((rl_su (rl_su σ 73 x2.toNatClampNeg (σ 75 (x1 - 2).toNatClampNeg)) 74 x2.toNatClampNeg (σ 75 (x1 - 1).toNatClampNeg)) 69 (σ 75 (x1 - 2).toNatClampNeg).toNatClampNeg) RC  (rl_su (rl_su σ 73 x2.toNatClampNeg (σ 75 (x1 - 2).toNatClampNeg)) 74 x2.toNatClampNeg (σ 75 (x1 - 1).toNatClampNeg)) else none)) else none) else none) else none) else none) else none) else none)
def rf_Mo_layOut_J28 (x1 : Int32) (x2 : Int32) (s0 : Int32) (RC : Int32 → Int32 → rl_M → Option (Int32 × rl_M))  (σ : rl_M) : Option (Int32 × rl_M) := (if s0 = 0 then (if rl_ib x2 16 = true then (if (σ 63 x2.toNatClampNeg) = 45 then rf_Mo_layOut_J44 x1 x2 s0 RC  σ else (if rl_ib x2 16 = true then (if rl_ib x2 16 = true then (if rl_ib ((σ 63 x2.toNatClampNeg) - 48) 6 = true then (if rl_ib ((4 * ((σ 63 x2.toNatClampNeg) - 48)) + (σ 67 ((σ 63 x2.toNatClampNeg) - 48).toNatClampNeg)) 24 = true then (if rl_ib x2 16 = true then (if rl_ib ((4 * ((σ 63 x2.toNatClampNeg) - 48)) + (σ 67 ((σ 63 x2.toNatClampNeg) - 48).toNatClampNeg)) 24 = true then (if rl_ib x2 16 = true then (if rl_ib x1 16 = true then RC (x1 + 1) (x2 + 1) (rl_su (rl_su (rl_su σ 69 x2.toNatClampNeg (σ 61 ((4 * ((σ 63 x2.toNatClampNeg) - 48)) + (σ 67 ((σ 63 x2.toNatClampNeg) - 48).toNatClampNeg)).toNatClampNeg)) 70 x2.toNatClampNeg ((rl_su σ 69 x2.toNatClampNeg (σ 61 ((4 * ((σ 63 x2.toNatClampNeg) - 48)) + (σ 67 ((σ 63 x2.toNatClampNeg) - 48).toNatClampNeg)).toNatClampNeg)) 62 ((4 * ((σ 63 x2.toNatClampNeg) - 48)) + (σ 67 ((σ 63 x2.toNatClampNeg) - 48).toNatClampNeg)).toNatClampNeg)) 75 x1.toNatClampNeg x2) else none) else none) else none) else none) else none) else none) else none) else none)) else none) else rf_Mo_layOut_J44 x1 x2 s0 RC  σ)
def rf_Mo_layOut_L4   : Nat → Int32 → Int32 → rl_M → Option (Int32 × rl_M)
  | 0, _, _, _ => none
  | n + 1, x1, x2, σ => (if (σ 59 7) ≤ x2 then some (0, σ) else (if rl_ib x2 16 = true then (if (σ 63 x2.toNatClampNeg) = 124 then rf_Mo_layOut_J28 x1 x2 1 (rf_Mo_layOut_L4   n)  σ else rf_Mo_layOut_J28 x1 x2 0 (rf_Mo_layOut_L4   n)  σ) else none))
def rf_Mo_layOut  (σ : rl_M) : Option (Int32 × rl_M) := rf_Mo_layOut_L4   10000 0 0 σ
set_option maxHeartbeats 4000000 in
set_option maxRecDepth 100000 in
theorem rw_Mo_layOut_J211 {p : Program} {l : Launch} {e : Env} {s : State} {m : MethodId} {args : Array Value} {below : List Frame} {meth : Method} {c : Code} {E : rl_E} (Γ : CallFix p m c nc_Mo_layOut 8 s args rl_TT nR_Mo) (hO : rl_Ok E s) (hr : meth.sig.returnType = none) (hk : meth.locks = false)  (x1 : Int32) (x2 : Int32) (s0 : Int32) (s1 : Int32)  (RC : Int32 → Int32 → rl_M → Option (Int32 × rl_M))  {r : Int32 × rl_M} (hRC : ∀ (x1 : Int32) (x2 : Int32) (σ : rl_M), RC x1 x2 σ = some r → rl_G p l e nr_Mo_layOut s m args below meth c 8 E 0 0 (rl_QM below args s E rl_rv r) σ 4 [(0, .ref (E.1 59)), (1, .int x1), (2, .int x2)] [])  (σ : rl_M) (h : rf_Mo_layOut_J211 x1 x2 s0 s1 RC  σ = some r) : rl_G p l e nr_Mo_layOut s m args below meth c 8 E 0 0 (rl_QM below args s E rl_rv r) σ 211 [(0, .ref (E.1 59)), (1, .int x1), (2, .int x2)] [.int s0, .int s1, .ref (E.1 70)] := by
  unfold rf_Mo_layOut_J211 at h
  obtain ⟨q22, h⟩ := rl_if h
  refine rl_ist (pc := 211) Γ nd_Mo_layOut_211 hO (rl_a70 E) (rl_ib_in q22) ?_
  refine rl_iinc (v := x1 + (-2)) (L' := [(1, .int (x1 + (-2))), (0, .ref (E.1 59)), (2, .int x2)]) (pc := 212) Γ nd_Mo_layOut_212 1 rfl rfl (by decide) rfl ?_
  refine rl_goto (tgt := 272) (pc := 215) Γ nd_Mo_layOut_215 (by decide) ?_
  refine rl_aload_n (pc := 272) Γ nd_Mo_layOut_272 1 rfl ?_
  refine rl_get (pc := 273) Γ nd_Mo_layOut_273 hO (k := 24) (rl_o59 E) rfl (by decide) rfl ⟨ni_Mo, nf_Mo_62⟩ ?_
  refine rl_iload_n (pc := 276) Γ nd_Mo_layOut_276 0 rfl ?_
  refine rl_iload_n (pc := 277) Γ nd_Mo_layOut_277 2 rfl ?_
  obtain ⟨q23, h⟩ := rl_if h
  refine rl_ist (pc := 278) Γ nd_Mo_layOut_278 hO (rl_a75 E) (rl_ib_in q23) ?_
  refine rl_iinc (v := (x1 + (-2)) + 1) (L' := [(1, .int ((x1 + (-2)) + 1)), (0, .ref (E.1 59)), (2, .int x2)]) (pc := 279) Γ nd_Mo_layOut_279 0 rfl rfl (by decide) rfl ?_
  refine rl_iinc (v := x2 + 1) (L' := [(2, .int (x2 + 1)), (1, .int ((x1 + (-2)) + 1)), (0, .ref (E.1 59))]) (pc := 282) Γ nd_Mo_layOut_282 2 rfl rfl (by decide) rfl ?_
  refine rl_goto (tgt := 4) (pc := 285) Γ nd_Mo_layOut_285 (by decide) ?_
  exact rl_Gsub [2, 1, 0] rfl (hRC ((x1 + (-2)) + 1) (x2 + 1) (rl_su (rl_su σ 70 s1.toNatClampNeg s0) 75 (x1 + (-2)).toNatClampNeg x2) h)
set_option maxHeartbeats 4000000 in
set_option maxRecDepth 100000 in
theorem rw_Mo_layOut_J181 {p : Program} {l : Launch} {e : Env} {s : State} {m : MethodId} {args : Array Value} {below : List Frame} {meth : Method} {c : Code} {E : rl_E} (Γ : CallFix p m c nc_Mo_layOut 8 s args rl_TT nR_Mo) (hO : rl_Ok E s) (hr : meth.sig.returnType = none) (hk : meth.locks = false)  (x1 : Int32) (x2 : Int32) (x3 : Int32) (x4 : Int32) (x5 : Int32) (x7 : Int32) (s0 : Int32) (s1 : Int32)  (RC : Int32 → Int32 → rl_M → Option (Int32 × rl_M))  {r : Int32 × rl_M} (hRC : ∀ (x1 : Int32) (x2 : Int32) (σ : rl_M), RC x1 x2 σ = some r → rl_G p l e nr_Mo_layOut s m args below meth c 8 E 0 0 (rl_QM below args s E rl_rv r) σ 4 [(0, .ref (E.1 59)), (1, .int x1), (2, .int x2)] [])  (σ : rl_M) (h : rf_Mo_layOut_J181 x1 x2 x3 x4 x5 x7 s0 s1 RC  σ = some r) : rl_G p l e nr_Mo_layOut s m args below meth c 8 E 0 0 (rl_QM below args s E rl_rv r) σ 181 [(0, .ref (E.1 59)), (1, .int x1), (2, .int x2), (3, .int x3), (4, .int x4), (5, .int x5), (7, .int x7)] [.int s0, .int s1, .ref (E.1 69)] := by
  unfold rf_Mo_layOut_J181 at h
  obtain ⟨q18, h⟩ := rl_if h
  refine rl_ist (pc := 181) Γ nd_Mo_layOut_181 hO (rl_a69 E) (rl_ib_in q18) ?_
  refine rl_aload_n (pc := 182) Γ nd_Mo_layOut_182 0 rfl ?_
  refine rl_get (pc := 183) Γ nd_Mo_layOut_183 hO (k := 19) (rl_o59 E) rfl (by decide) rfl ⟨ni_Mo, nf_Mo_47⟩ ?_
  refine rl_iload_n (pc := 186) Γ nd_Mo_layOut_186 2 rfl ?_
  refine rl_iload_n (pc := 187) Γ nd_Mo_layOut_187 3 rfl ?_
  refine rl_if_eq (tgt := 196) (pc := 188) Γ nd_Mo_layOut_188 (by decide) (fun q19 => ?_) (fun q19 => ?_)
  · have h := rl_ift q19 h
    refine rl_aload_n (pc := 196) Γ nd_Mo_layOut_196 0 rfl ?_
    refine rl_get (pc := 197) Γ nd_Mo_layOut_197 hO (k := 19) (rl_o59 E) rfl (by decide) rfl ⟨ni_Mo, nf_Mo_47⟩ ?_
    refine rl_iload (pc := 200) Γ nd_Mo_layOut_200 4 rfl ?_
    obtain ⟨q20, h⟩ := rl_if h
    refine rl_ild (pc := 202) Γ nd_Mo_layOut_202 hO (rl_a70 E) (rl_ib_in q20) ?_
    refine rl_aload_n (pc := 203) Γ nd_Mo_layOut_203 0 rfl ?_
    refine rl_get (pc := 204) Γ nd_Mo_layOut_204 hO (k := 19) (rl_o59 E) rfl (by decide) rfl ⟨ni_Mo, nf_Mo_47⟩ ?_
    refine rl_iload (pc := 207) Γ nd_Mo_layOut_207 5 rfl ?_
    obtain ⟨q21, h⟩ := rl_if h
    refine rl_ild (pc := 209) Γ nd_Mo_layOut_209 hO (rl_a70 E) (rl_ib_in q21) ?_
    refine rl_iadd (pc := 210) Γ nd_Mo_layOut_210 ?_
    exact rl_Gsub [0, 1, 2] rfl (rw_Mo_layOut_J211 Γ hO hr hk x1 x2 (((rl_su σ 69 s1.toNatClampNeg s0) 70 x4.toNatClampNeg) + ((rl_su σ 69 s1.toNatClampNeg s0) 70 x5.toNatClampNeg)) x2  _  hRC  (rl_su σ 69 s1.toNatClampNeg s0) h)
  · have h := rl_iff q19 h
    refine rl_iload (pc := 191) Γ nd_Mo_layOut_191 6 rfl ?_
    refine rl_goto (tgt := 211) (pc := 193) Γ nd_Mo_layOut_193 (by decide) ?_
    exact rl_Gsub [0, 1, 2] rfl (rw_Mo_layOut_J211 Γ hO hr hk x1 x2 x7 x2  _  hRC  (rl_su σ 69 s1.toNatClampNeg s0) h)
set_option maxHeartbeats 4000000 in
set_option maxRecDepth 100000 in
theorem rw_Mo_layOut_J150 {p : Program} {l : Launch} {e : Env} {s : State} {m : MethodId} {args : Array Value} {below : List Frame} {meth : Method} {c : Code} {E : rl_E} (Γ : CallFix p m c nc_Mo_layOut 8 s args rl_TT nR_Mo) (hO : rl_Ok E s) (hr : meth.sig.returnType = none) (hk : meth.locks = false)  (x1 : Int32) (x2 : Int32) (x3 : Int32) (x4 : Int32) (x5 : Int32) (x6 : Int32) (s0 : Int32)  (RC : Int32 → Int32 → rl_M → Option (Int32 × rl_M))  {r : Int32 × rl_M} (hRC : ∀ (x1 : Int32) (x2 : Int32) (σ : rl_M), RC x1 x2 σ = some r → rl_G p l e nr_Mo_layOut s m args below meth c 8 E 0 0 (rl_QM below args s E rl_rv r) σ 4 [(0, .ref (E.1 59)), (1, .int x1), (2, .int x2)] [])  (σ : rl_M) (h : rf_Mo_layOut_J150 x1 x2 x3 x4 x5 x6 s0 RC  σ = some r) : rl_G p l e nr_Mo_layOut s m args below meth c 8 E 0 0 (rl_QM below args s E rl_rv r) σ 150 [(0, .ref (E.1 59)), (1, .int x1), (2, .int x2), (3, .int x3), (4, .int x4), (5, .int x5), (6, .int x6)] [.int s0] := by
  unfold rf_Mo_layOut_J150 at h
  refine rl_istore (L' := [(7, .int s0), (0, .ref (E.1 59)), (1, .int x1), (2, .int x2), (3, .int x3), (4, .int x4), (5, .int x5), (6, .int x6)]) (pc := 150) Γ nd_Mo_layOut_150 (by decide) rfl ?_
  refine rl_aload_n (pc := 152) Γ nd_Mo_layOut_152 1 rfl ?_
  refine rl_get (pc := 153) Γ nd_Mo_layOut_153 hO (k := 18) (rl_o59 E) rfl (by decide) rfl ⟨ni_Mo, nf_Mo_44⟩ ?_
  refine rl_iload_n (pc := 156) Γ nd_Mo_layOut_156 3 rfl ?_
  refine rl_iload_n (pc := 157) Γ nd_Mo_layOut_157 4 rfl ?_
  refine rl_if_eq (tgt := 179) (pc := 158) Γ nd_Mo_layOut_158 (by decide) (fun q17 => ?_) (fun q17 => ?_)
  · have h := rl_ift q17 h
    refine rl_iload (pc := 179) Γ nd_Mo_layOut_179 7 rfl ?_
    exact rl_Gsub [1, 2, 3, 4, 5, 6, 0] rfl (rw_Mo_layOut_J181 Γ hO hr hk x1 x2 x3 x4 x5 s0 x6 x2  _  hRC  σ h)
  · have h := rl_iff q17 h
    refine rl_aload_n (pc := 161) Γ nd_Mo_layOut_161 1 rfl ?_
    refine rl_get (pc := 162) Γ nd_Mo_layOut_162 hO (k := 18) (rl_o59 E) rfl (by decide) rfl ⟨ni_Mo, nf_Mo_44⟩ ?_
    refine rl_iload (pc := 165) Γ nd_Mo_layOut_165 5 rfl ?_
    obtain ⟨q24, h⟩ := rl_if h
    refine rl_ild (pc := 167) Γ nd_Mo_layOut_167 hO (rl_a69 E) (rl_ib_in q24) ?_
    refine rl_aload_n (pc := 168) Γ nd_Mo_layOut_168 1 rfl ?_
    refine rl_get (pc := 169) Γ nd_Mo_layOut_169 hO (k := 18) (rl_o59 E) rfl (by decide) rfl ⟨ni_Mo, nf_Mo_44⟩ ?_
    refine rl_iload (pc := 172) Γ nd_Mo_layOut_172 6 rfl ?_
    obtain ⟨q25, h⟩ := rl_if h
    refine rl_ild (pc := 174) Γ nd_Mo_layOut_174 hO (rl_a69 E) (rl_ib_in q25) ?_
    refine rl_iadd (pc := 175) Γ nd_Mo_layOut_175 ?_
    refine rl_goto (tgt := 181) (pc := 176) Γ nd_Mo_layOut_176 (by decide) ?_
    exact rl_Gsub [1, 2, 3, 4, 5, 6, 0] rfl (rw_Mo_layOut_J181 Γ hO hr hk x1 x2 x3 x4 x5 s0 ((σ 69 x4.toNatClampNeg) + (σ 69 x5.toNatClampNeg)) x2  _  hRC  σ h)
set_option maxHeartbeats 4000000 in
set_option maxRecDepth 100000 in
theorem rw_Mo_layOut_J114 {p : Program} {l : Launch} {e : Env} {s : State} {m : MethodId} {args : Array Value} {below : List Frame} {meth : Method} {c : Code} {E : rl_E} (Γ : CallFix p m c nc_Mo_layOut 8 s args rl_TT nR_Mo) (hO : rl_Ok E s) (hr : meth.sig.returnType = none) (hk : meth.locks = false)  (x1 : Int32) (x2 : Int32) (x3 : Int32) (x4 : Int32) (x5 : Int32) (s0 : Int32)  (RC : Int32 → Int32 → rl_M → Option (Int32 × rl_M))  {r : Int32 × rl_M} (hRC : ∀ (x1 : Int32) (x2 : Int32) (σ : rl_M), RC x1 x2 σ = some r → rl_G p l e nr_Mo_layOut s m args below meth c 8 E 0 0 (rl_QM below args s E rl_rv r) σ 4 [(0, .ref (E.1 59)), (1, .int x1), (2, .int x2)] [])  (σ : rl_M) (h : rf_Mo_layOut_J114 x1 x2 x3 x4 x5 s0 RC  σ = some r) : rl_G p l e nr_Mo_layOut s m args below meth c 8 E 0 0 (rl_QM below args s E rl_rv r) σ 114 [(0, .ref (E.1 59)), (1, .int x1), (2, .int x2), (3, .int x3), (4, .int x4), (5, .int x5)] [.int s0] := by
  unfold rf_Mo_layOut_J114 at h
  refine rl_istore (L' := [(6, .int s0), (0, .ref (E.1 59)), (1, .int x1), (2, .int x2), (3, .int x3), (4, .int x4), (5, .int x5)]) (pc := 114) Γ nd_Mo_layOut_114 (by decide) rfl ?_
  refine rl_aload_n (pc := 116) Γ nd_Mo_layOut_116 1 rfl ?_
  refine rl_get (pc := 117) Γ nd_Mo_layOut_117 hO (k := 19) (rl_o59 E) rfl (by decide) rfl ⟨ni_Mo, nf_Mo_47⟩ ?_
  refine rl_iload (pc := 120) Γ nd_Mo_layOut_120 5 rfl ?_
  obtain ⟨q13, h⟩ := rl_if h
  refine rl_ild (pc := 122) Γ nd_Mo_layOut_122 hO (rl_a70 E) (rl_ib_in q13) ?_
  refine rl_aload_n (pc := 123) Γ nd_Mo_layOut_123 1 rfl ?_
  refine rl_get (pc := 124) Γ nd_Mo_layOut_124 hO (k := 19) (rl_o59 E) rfl (by decide) rfl ⟨ni_Mo, nf_Mo_47⟩ ?_
  refine rl_iload (pc := 127) Γ nd_Mo_layOut_127 6 rfl ?_
  obtain ⟨q14, h⟩ := rl_if h
  refine rl_ild (pc := 129) Γ nd_Mo_layOut_129 hO (rl_a70 E) (rl_ib_in q14) ?_
  refine rl_icmp_le (tgt := 143) (pc := 130) Γ nd_Mo_layOut_130 (by decide) (fun q15 => ?_) (fun q15 => ?_)
  · have h := rl_ift q15 h
    refine rl_aload_n (pc := 143) Γ nd_Mo_layOut_143 1 rfl ?_
    refine rl_get (pc := 144) Γ nd_Mo_layOut_144 hO (k := 19) (rl_o59 E) rfl (by decide) rfl ⟨ni_Mo, nf_Mo_47⟩ ?_
    refine rl_iload (pc := 147) Γ nd_Mo_layOut_147 6 rfl ?_
    obtain ⟨q16, h⟩ := rl_if h
    refine rl_ild (pc := 149) Γ nd_Mo_layOut_149 hO (rl_a70 E) (rl_ib_in q16) ?_
    exact rl_Gsub [1, 2, 3, 4, 5, 6, 0] rfl (rw_Mo_layOut_J150 Γ hO hr hk x1 x2 x3 x4 x5 s0 (σ 70 x5.toNatClampNeg)  _  hRC  σ h)
  · have h := rl_iff q15 h
    refine rl_aload_n (pc := 133) Γ nd_Mo_layOut_133 1 rfl ?_
    refine rl_get (pc := 134) Γ nd_Mo_layOut_134 hO (k := 19) (rl_o59 E) rfl (by decide) rfl ⟨ni_Mo, nf_Mo_47⟩ ?_
    refine rl_iload (pc := 137) Γ nd_Mo_layOut_137 5 rfl ?_
    obtain ⟨q26, h⟩ := rl_if h
    refine rl_ild (pc := 139) Γ nd_Mo_layOut_139 hO (rl_a70 E) (rl_ib_in q26) ?_
    refine rl_goto (tgt := 150) (pc := 140) Γ nd_Mo_layOut_140 (by decide) ?_
    exact rl_Gsub [1, 2, 3, 4, 5, 6, 0] rfl (rw_Mo_layOut_J150 Γ hO hr hk x1 x2 x3 x4 x5 s0 (σ 70 x4.toNatClampNeg)  _  hRC  σ h)
set_option maxHeartbeats 4000000 in
set_option maxRecDepth 100000 in
theorem rw_Mo_layOut_J44 {p : Program} {l : Launch} {e : Env} {s : State} {m : MethodId} {args : Array Value} {below : List Frame} {meth : Method} {c : Code} {E : rl_E} (Γ : CallFix p m c nc_Mo_layOut 8 s args rl_TT nR_Mo) (hO : rl_Ok E s) (hr : meth.sig.returnType = none) (hk : meth.locks = false)  (x1 : Int32) (x2 : Int32) (x3 : Int32)  (RC : Int32 → Int32 → rl_M → Option (Int32 × rl_M))  {r : Int32 × rl_M} (hRC : ∀ (x1 : Int32) (x2 : Int32) (σ : rl_M), RC x1 x2 σ = some r → rl_G p l e nr_Mo_layOut s m args below meth c 8 E 0 0 (rl_QM below args s E rl_rv r) σ 4 [(0, .ref (E.1 59)), (1, .int x1), (2, .int x2)] [])  (σ : rl_M) (h : rf_Mo_layOut_J44 x1 x2 x3 RC  σ = some r) : rl_G p l e nr_Mo_layOut s m args below meth c 8 E 0 0 (rl_QM below args s E rl_rv r) σ 44 [(0, .ref (E.1 59)), (1, .int x1), (2, .int x2), (3, .int x3)] [] := by
  unfold rf_Mo_layOut_J44 at h
  refine rl_aload_n (pc := 44) Γ nd_Mo_layOut_44 0 rfl ?_
  refine rl_get (pc := 45) Γ nd_Mo_layOut_45 hO (k := 24) (rl_o59 E) rfl (by decide) rfl ⟨ni_Mo, nf_Mo_62⟩ ?_
  refine rl_iload_n (pc := 48) Γ nd_Mo_layOut_48 1 rfl ?_
  refine rl_iconst (v := 2) (pc := 49) Γ nd_Mo_layOut_49 (by decide) ?_
  refine rl_isub (pc := 50) Γ nd_Mo_layOut_50 ?_
  obtain ⟨q5, h⟩ := rl_if h
  refine rl_ild (pc := 51) Γ nd_Mo_layOut_51 hO (rl_a75 E) (rl_ib_in q5) ?_
  refine rl_istore (L' := [(4, .int (σ 75 (x1 - 2).toNatClampNeg)), (0, .ref (E.1 59)), (1, .int x1), (2, .int x2), (3, .int x3)]) (pc := 52) Γ nd_Mo_layOut_52 (by decide) rfl ?_
  refine rl_aload_n (pc := 54) Γ nd_Mo_layOut_54 1 rfl ?_
  refine rl_get (pc := 55) Γ nd_Mo_layOut_55 hO (k := 24) (rl_o59 E) rfl (by decide) rfl ⟨ni_Mo, nf_Mo_62⟩ ?_
  refine rl_iload_n (pc := 58) Γ nd_Mo_layOut_58 2 rfl ?_
  refine rl_iconst (v := 1) (pc := 59) Γ nd_Mo_layOut_59 (by decide) ?_
  refine rl_isub (pc := 60) Γ nd_Mo_layOut_60 ?_
  obtain ⟨q6, h⟩ := rl_if h
  refine rl_ild (pc := 61) Γ nd_Mo_layOut_61 hO (rl_a75 E) (rl_ib_in q6) ?_
  refine rl_istore (L' := [(5, .int (σ 75 (x1 - 1).toNatClampNeg)), (4, .int (σ 75 (x1 - 2).toNatClampNeg)), (0, .ref (E.1 59)), (1, .int x1), (2, .int x2), (3, .int x3)]) (pc := 62) Γ nd_Mo_layOut_62 (by decide) rfl ?_
  refine rl_aload_n (pc := 64) Γ nd_Mo_layOut_64 2 rfl ?_
  refine rl_get (pc := 65) Γ nd_Mo_layOut_65 hO (k := 22) (rl_o59 E) rfl (by decide) rfl ⟨ni_Mo, nf_Mo_56⟩ ?_
  refine rl_iload_n (pc := 68) Γ nd_Mo_layOut_68 4 rfl ?_
  refine rl_iload (pc := 69) Γ nd_Mo_layOut_69 1 rfl ?_
  obtain ⟨q7, h⟩ := rl_if h
  refine rl_ist (pc := 71) Γ nd_Mo_layOut_71 hO (rl_a73 E) (rl_ib_in q7) ?_
  refine rl_aload_n (pc := 72) Γ nd_Mo_layOut_72 2 rfl ?_
  refine rl_get (pc := 73) Γ nd_Mo_layOut_73 hO (k := 23) (rl_o59 E) rfl (by decide) rfl ⟨ni_Mo, nf_Mo_59⟩ ?_
  refine rl_iload_n (pc := 76) Γ nd_Mo_layOut_76 4 rfl ?_
  refine rl_iload (pc := 77) Γ nd_Mo_layOut_77 0 rfl ?_
  obtain ⟨q8, h⟩ := rl_if h
  refine rl_ist (pc := 79) Γ nd_Mo_layOut_79 hO (rl_a74 E) (rl_ib_in q8) ?_
  refine rl_aload_n (pc := 80) Γ nd_Mo_layOut_80 2 rfl ?_
  refine rl_get (pc := 81) Γ nd_Mo_layOut_81 hO (k := 18) (rl_o59 E) rfl (by decide) rfl ⟨ni_Mo, nf_Mo_44⟩ ?_
  refine rl_iload (pc := 84) Γ nd_Mo_layOut_84 1 rfl ?_
  obtain ⟨q9, h⟩ := rl_if h
  refine rl_ild (pc := 86) Γ nd_Mo_layOut_86 hO (rl_a69 E) (rl_ib_in q9) ?_
  refine rl_aload_n (pc := 87) Γ nd_Mo_layOut_87 2 rfl ?_
  refine rl_get (pc := 88) Γ nd_Mo_layOut_88 hO (k := 18) (rl_o59 E) rfl (by decide) rfl ⟨ni_Mo, nf_Mo_44⟩ ?_
  refine rl_iload (pc := 91) Γ nd_Mo_layOut_91 0 rfl ?_
  obtain ⟨q10, h⟩ := rl_if h
  refine rl_ild (pc := 93) Γ nd_Mo_layOut_93 hO (rl_a69 E) (rl_ib_in q10) ?_
  refine rl_icmp_le (tgt := 107) (pc := 94) Γ nd_Mo_layOut_94 (by decide) (fun q11 => ?_) (fun q11 => ?_)
  · have h := rl_ift q11 h
    refine rl_aload_n (pc := 107) Γ nd_Mo_layOut_107 2 rfl ?_
    refine rl_get (pc := 108) Γ nd_Mo_layOut_108 hO (k := 18) (rl_o59 E) rfl (by decide) rfl ⟨ni_Mo, nf_Mo_44⟩ ?_
    refine rl_iload (pc := 111) Γ nd_Mo_layOut_111 0 rfl ?_
    obtain ⟨q12, h⟩ := rl_if h
    refine rl_ild (pc := 113) Γ nd_Mo_layOut_113 hO (rl_a69 E) (rl_ib_in q12) ?_
    exact rl_Gsub [2, 3, 4, 5, 1, 0] rfl (rw_Mo_layOut_J114 Γ hO hr hk x1 x2 x3 (σ 75 (x1 - 2).toNatClampNeg) (σ 75 (x1 - 1).toNatClampNeg) ((rl_su (rl_su σ 73 x2.toNatClampNeg (σ 75 (x1 - 2).toNatClampNeg)) 74 x2.toNatClampNeg (σ 75 (x1 - 1).toNatClampNeg)) 69 (σ 75 (x1 - 1).toNatClampNeg).toNatClampNeg)  _  hRC  (rl_su (rl_su σ 73 x2.toNatClampNeg (σ 75 (x1 - 2).toNatClampNeg)) 74 x2.toNatClampNeg (σ 75 (x1 - 1).toNatClampNeg)) h)
  · have h := rl_iff q11 h
    refine rl_aload_n (pc := 97) Γ nd_Mo_layOut_97 2 rfl ?_
    refine rl_get (pc := 98) Γ nd_Mo_layOut_98 hO (k := 18) (rl_o59 E) rfl (by decide) rfl ⟨ni_Mo, nf_Mo_44⟩ ?_
    refine rl_iload (pc := 101) Γ nd_Mo_layOut_101 1 rfl ?_
    obtain ⟨q27, h⟩ := rl_if h
    refine rl_ild (pc := 103) Γ nd_Mo_layOut_103 hO (rl_a69 E) (rl_ib_in q27) ?_
    refine rl_goto (tgt := 114) (pc := 104) Γ nd_Mo_layOut_104 (by decide) ?_
    exact rl_Gsub [2, 3, 4, 5, 1, 0] rfl (rw_Mo_layOut_J114 Γ hO hr hk x1 x2 x3 (σ 75 (x1 - 2).toNatClampNeg) (σ 75 (x1 - 1).toNatClampNeg) ((rl_su (rl_su σ 73 x2.toNatClampNeg (σ 75 (x1 - 2).toNatClampNeg)) 74 x2.toNatClampNeg (σ 75 (x1 - 1).toNatClampNeg)) 69 (σ 75 (x1 - 2).toNatClampNeg).toNatClampNeg)  _  hRC  (rl_su (rl_su σ 73 x2.toNatClampNeg (σ 75 (x1 - 2).toNatClampNeg)) 74 x2.toNatClampNeg (σ 75 (x1 - 1).toNatClampNeg)) h)
set_option maxHeartbeats 4000000 in
set_option maxRecDepth 100000 in
theorem rw_Mo_layOut_J28 {p : Program} {l : Launch} {e : Env} {s : State} {m : MethodId} {args : Array Value} {below : List Frame} {meth : Method} {c : Code} {E : rl_E} (Γ : CallFix p m c nc_Mo_layOut 8 s args rl_TT nR_Mo) (hO : rl_Ok E s) (hr : meth.sig.returnType = none) (hk : meth.locks = false)  (x1 : Int32) (x2 : Int32) (s0 : Int32)  (RC : Int32 → Int32 → rl_M → Option (Int32 × rl_M))  {r : Int32 × rl_M} (hRC : ∀ (x1 : Int32) (x2 : Int32) (σ : rl_M), RC x1 x2 σ = some r → rl_G p l e nr_Mo_layOut s m args below meth c 8 E 0 0 (rl_QM below args s E rl_rv r) σ 4 [(0, .ref (E.1 59)), (1, .int x1), (2, .int x2)] [])  (σ : rl_M) (h : rf_Mo_layOut_J28 x1 x2 s0 RC  σ = some r) : rl_G p l e nr_Mo_layOut s m args below meth c 8 E 0 0 (rl_QM below args s E rl_rv r) σ 28 [(0, .ref (E.1 59)), (1, .int x1), (2, .int x2)] [.int s0] := by
  unfold rf_Mo_layOut_J28 at h
  refine rl_istore_n (L' := [(3, .int s0), (0, .ref (E.1 59)), (1, .int x1), (2, .int x2)]) (pc := 28) Γ nd_Mo_layOut_28 (by decide) rfl ?_
  refine rl_iload_n (pc := 29) Γ nd_Mo_layOut_29 0 rfl ?_
  refine rl_if_ne (tgt := 44) (pc := 30) Γ nd_Mo_layOut_30 (by decide) (fun q4 => ?_) (fun q4 => ?_)
  · have h := rl_iff q4 h
    exact rl_Gsub [1, 2, 3, 0] rfl (rw_Mo_layOut_J44 Γ hO hr hk x1 x2 s0  _  hRC  σ h)
  · have h := rl_ift q4 h
    refine rl_aload_n (pc := 33) Γ nd_Mo_layOut_33 1 rfl ?_
    refine rl_get (pc := 34) Γ nd_Mo_layOut_34 hO (k := 8) (rl_o59 E) rfl (by decide) rfl ⟨ni_Mo, nf_Mo_26⟩ ?_
    refine rl_iload_n (pc := 37) Γ nd_Mo_layOut_37 3 rfl ?_
    obtain ⟨q28, h⟩ := rl_if h
    refine rl_ild (pc := 38) Γ nd_Mo_layOut_38 hO (rl_a63 E) (rl_ib_in q28) ?_
    refine rl_bipush (v := 45) (pc := 39) Γ nd_Mo_layOut_39 (by decide) ?_
    refine rl_icmp_ne (tgt := 218) (pc := 41) Γ nd_Mo_layOut_41 (by decide) (fun q29 => ?_) (fun q29 => ?_)
    · have h := rl_iff q29 h
      refine rl_iconst (v := 4) (pc := 218) Γ nd_Mo_layOut_218 (by decide) ?_
      refine rl_aload_n (pc := 219) Γ nd_Mo_layOut_219 1 rfl ?_
      refine rl_get (pc := 220) Γ nd_Mo_layOut_220 hO (k := 8) (rl_o59 E) rfl (by decide) rfl ⟨ni_Mo, nf_Mo_26⟩ ?_
      refine rl_iload_n (pc := 223) Γ nd_Mo_layOut_223 3 rfl ?_
      obtain ⟨q30, h⟩ := rl_if h
      refine rl_ild (pc := 224) Γ nd_Mo_layOut_224 hO (rl_a63 E) (rl_ib_in q30) ?_
      refine rl_bipush (v := 48) (pc := 225) Γ nd_Mo_layOut_225 (by decide) ?_
      refine rl_isub (pc := 227) Γ nd_Mo_layOut_227 ?_
      refine rl_imul (pc := 228) Γ nd_Mo_layOut_228 ?_
      refine rl_aload_n (pc := 229) Γ nd_Mo_layOut_229 1 rfl ?_
      refine rl_get (pc := 230) Γ nd_Mo_layOut_230 hO (k := 13) (rl_o59 E) rfl (by decide) rfl ⟨ni_Mo, nf_Mo_38⟩ ?_
      refine rl_aload_n (pc := 233) Γ nd_Mo_layOut_233 1 rfl ?_
      refine rl_get (pc := 234) Γ nd_Mo_layOut_234 hO (k := 8) (rl_o59 E) rfl (by decide) rfl ⟨ni_Mo, nf_Mo_26⟩ ?_
      refine rl_iload_n (pc := 237) Γ nd_Mo_layOut_237 3 rfl ?_
      obtain ⟨q31, h⟩ := rl_if h
      refine rl_ild (pc := 238) Γ nd_Mo_layOut_238 hO (rl_a63 E) (rl_ib_in q31) ?_
      refine rl_bipush (v := 48) (pc := 239) Γ nd_Mo_layOut_239 (by decide) ?_
      refine rl_isub (pc := 241) Γ nd_Mo_layOut_241 ?_
      obtain ⟨q32, h⟩ := rl_if h
      refine rl_ild (pc := 242) Γ nd_Mo_layOut_242 hO (rl_a67 E) (rl_ib_in q32) ?_
      refine rl_iadd (pc := 243) Γ nd_Mo_layOut_243 ?_
      refine rl_istore (L' := [(4, .int ((4 * ((σ 63 x2.toNatClampNeg) - 48)) + (σ 67 ((σ 63 x2.toNatClampNeg) - 48).toNatClampNeg))), (3, .int s0), (0, .ref (E.1 59)), (1, .int x1), (2, .int x2)]) (pc := 244) Γ nd_Mo_layOut_244 (by decide) rfl ?_
      refine rl_aload_n (pc := 246) Γ nd_Mo_layOut_246 2 rfl ?_
      refine rl_get (pc := 247) Γ nd_Mo_layOut_247 hO (k := 18) (rl_o59 E) rfl (by decide) rfl ⟨ni_Mo, nf_Mo_44⟩ ?_
      refine rl_iload_n (pc := 250) Γ nd_Mo_layOut_250 4 rfl ?_
      refine rl_aload_n (pc := 251) Γ nd_Mo_layOut_251 2 rfl ?_
      refine rl_get (pc := 252) Γ nd_Mo_layOut_252 hO (k := 3) (rl_o59 E) rfl (by decide) rfl ⟨ni_Mo, nf_Mo_13⟩ ?_
      refine rl_iload (pc := 255) Γ nd_Mo_layOut_255 0 rfl ?_
      obtain ⟨q33, h⟩ := rl_if h
      refine rl_ild (pc := 257) Γ nd_Mo_layOut_257 hO (rl_a61 E) (rl_ib_in q33) ?_
      obtain ⟨q34, h⟩ := rl_if h
      refine rl_ist (pc := 258) Γ nd_Mo_layOut_258 hO (rl_a69 E) (rl_ib_in q34) ?_
      refine rl_aload_n (pc := 259) Γ nd_Mo_layOut_259 2 rfl ?_
      refine rl_get (pc := 260) Γ nd_Mo_layOut_260 hO (k := 19) (rl_o59 E) rfl (by decide) rfl ⟨ni_Mo, nf_Mo_47⟩ ?_
      refine rl_iload_n (pc := 263) Γ nd_Mo_layOut_263 4 rfl ?_
      refine rl_aload_n (pc := 264) Γ nd_Mo_layOut_264 2 rfl ?_
      refine rl_get (pc := 265) Γ nd_Mo_layOut_265 hO (k := 4) (rl_o59 E) rfl (by decide) rfl ⟨ni_Mo, nf_Mo_16⟩ ?_
      refine rl_iload (pc := 268) Γ nd_Mo_layOut_268 0 rfl ?_
      obtain ⟨q35, h⟩ := rl_if h
      refine rl_ild (pc := 270) Γ nd_Mo_layOut_270 hO (rl_a62 E) (rl_ib_in q35) ?_
      obtain ⟨q36, h⟩ := rl_if h
      refine rl_ist (pc := 271) Γ nd_Mo_layOut_271 hO (rl_a70 E) (rl_ib_in q36) ?_
      refine rl_aload_n (pc := 272) Γ nd_Mo_layOut_272 2 rfl ?_
      refine rl_get (pc := 273) Γ nd_Mo_layOut_273 hO (k := 24) (rl_o59 E) rfl (by decide) rfl ⟨ni_Mo, nf_Mo_62⟩ ?_
      refine rl_iload_n (pc := 276) Γ nd_Mo_layOut_276 3 rfl ?_
      refine rl_iload_n (pc := 277) Γ nd_Mo_layOut_277 4 rfl ?_
      obtain ⟨q37, h⟩ := rl_if h
      refine rl_ist (pc := 278) Γ nd_Mo_layOut_278 hO (rl_a75 E) (rl_ib_in q37) ?_
      refine rl_iinc (v := x1 + 1) (L' := [(1, .int (x1 + 1)), (4, .int ((4 * ((σ 63 x2.toNatClampNeg) - 48)) + (σ 67 ((σ 63 x2.toNatClampNeg) - 48).toNatClampNeg))), (3, .int s0), (0, .ref (E.1 59)), (2, .int x2)]) (pc := 279) Γ nd_Mo_layOut_279 3 rfl rfl (by decide) rfl ?_
      refine rl_iinc (v := x2 + 1) (L' := [(2, .int (x2 + 1)), (1, .int (x1 + 1)), (4, .int ((4 * ((σ 63 x2.toNatClampNeg) - 48)) + (σ 67 ((σ 63 x2.toNatClampNeg) - 48).toNatClampNeg))), (3, .int s0), (0, .ref (E.1 59))]) (pc := 282) Γ nd_Mo_layOut_282 4 rfl rfl (by decide) rfl ?_
      refine rl_goto (tgt := 4) (pc := 285) Γ nd_Mo_layOut_285 (by decide) ?_
      exact rl_Gsub [4, 1, 0] rfl (hRC (x1 + 1) (x2 + 1) (rl_su (rl_su (rl_su σ 69 x2.toNatClampNeg (σ 61 ((4 * ((σ 63 x2.toNatClampNeg) - 48)) + (σ 67 ((σ 63 x2.toNatClampNeg) - 48).toNatClampNeg)).toNatClampNeg)) 70 x2.toNatClampNeg ((rl_su σ 69 x2.toNatClampNeg (σ 61 ((4 * ((σ 63 x2.toNatClampNeg) - 48)) + (σ 67 ((σ 63 x2.toNatClampNeg) - 48).toNatClampNeg)).toNatClampNeg)) 62 ((4 * ((σ 63 x2.toNatClampNeg) - 48)) + (σ 67 ((σ 63 x2.toNatClampNeg) - 48).toNatClampNeg)).toNatClampNeg)) 75 x1.toNatClampNeg x2) h)
    · have h := rl_ift q29 h
      exact rl_Gsub [1, 2, 3, 0] rfl (rw_Mo_layOut_J44 Γ hO hr hk x1 x2 s0  _  hRC  σ h)
set_option maxHeartbeats 4000000 in
set_option maxRecDepth 100000 in
theorem rw_Mo_layOut_L4 {p : Program} {l : Launch} {e : Env} {s : State} {m : MethodId} {args : Array Value} {below : List Frame} {meth : Method} {c : Code} {E : rl_E} (Γ : CallFix p m c nc_Mo_layOut 8 s args rl_TT nR_Mo) (hO : rl_Ok E s) (hr : meth.sig.returnType = none) (hk : meth.locks = false)    {r : Int32 × rl_M}  : ∀ (n : Nat) (x1 : Int32) (x2 : Int32) (σ : rl_M), rf_Mo_layOut_L4   n x1 x2 σ = some r → rl_G p l e nr_Mo_layOut s m args below meth c 8 E 0 0 (rl_QM below args s E rl_rv r) σ 4 [(0, .ref (E.1 59)), (1, .int x1), (2, .int x2)] [] := by
  intro n
  induction n with
  | zero =>
    intro x1 x2 σ h
    exact (rl_ns (show none = some r from h)).elim
  | succ n ih =>
    intro x1 x2 σ h
    unfold rf_Mo_layOut_L4 at h
    refine rl_iload_n (pc := 4) Γ nd_Mo_layOut_4 2 rfl ?_
    refine rl_aload_n (pc := 5) Γ nd_Mo_layOut_5 0 rfl ?_
    refine rl_get (pc := 6) Γ nd_Mo_layOut_6 hO (k := 7) (rl_o59 E) rfl (by decide) rfl ⟨ni_Mo, nf_Mo_91⟩ ?_
    refine rl_icmp_ge (tgt := 288) (pc := 9) Γ nd_Mo_layOut_9 (by decide) (fun q1 => ?_) (fun q1 => ?_)
    · have h := rl_ift q1 h
      exact rl_vret (pc := 288) Γ nd_Mo_layOut_288 hr hk h
    · have h := rl_iff q1 h
      refine rl_aload_n (pc := 12) Γ nd_Mo_layOut_12 0 rfl ?_
      refine rl_get (pc := 13) Γ nd_Mo_layOut_13 hO (k := 8) (rl_o59 E) rfl (by decide) rfl ⟨ni_Mo, nf_Mo_26⟩ ?_
      refine rl_iload_n (pc := 16) Γ nd_Mo_layOut_16 2 rfl ?_
      obtain ⟨q2, h⟩ := rl_if h
      refine rl_ild (pc := 17) Γ nd_Mo_layOut_17 hO (rl_a63 E) (rl_ib_in q2) ?_
      refine rl_bipush (v := 124) (pc := 18) Γ nd_Mo_layOut_18 (by decide) ?_
      refine rl_icmp_ne (tgt := 27) (pc := 20) Γ nd_Mo_layOut_20 (by decide) (fun q3 => ?_) (fun q3 => ?_)
      · have h := rl_iff q3 h
        refine rl_iconst (v := 0) (pc := 27) Γ nd_Mo_layOut_27 (by decide) ?_
        exact rl_Gsub [0, 1, 2] rfl (rw_Mo_layOut_J28 Γ hO hr hk x1 x2 0  _  ih  σ h)
      · have h := rl_ift q3 h
        refine rl_iconst (v := 1) (pc := 23) Γ nd_Mo_layOut_23 (by decide) ?_
        refine rl_goto (tgt := 28) (pc := 24) Γ nd_Mo_layOut_24 (by decide) ?_
        exact rl_Gsub [0, 1, 2] rfl (rw_Mo_layOut_J28 Γ hO hr hk x1 x2 1  _  ih  σ h)
set_option maxHeartbeats 4000000 in
set_option maxRecDepth 100000 in
theorem rw_Mo_layOut (l : Launch) (E : rl_E)   (σ : rl_M) (r : Int32 × rl_M) (h : rf_Mo_layOut  σ = some r) : Met l ny_Mo_layOut nw_Mo_layOut nr_Mo_layOut (rl_P E [.ref (E.1 59)] σ) (rl_Q E (rl_rv r.1) r.2) 0 0 (rl_A E) := by
  refine Met.ofW (cc := nc_Mo_layOut) (maxL := 8) (ret := none) (by decide) rfl ?_
  intro p e s m args below meth c s₁ B hml hv
  obtain ⟨rfl, hP, hO⟩ := hv
  have Γ : CallFix p m c nc_Mo_layOut 8 s ([.ref (E.1 59)] : List Value).toArray rl_TT nR_Mo := ⟨B.exec, B.bytes, hml, findClass_of_methodNamed B.named, fun w hw => atoms_spec (ws := nw_Mo_layOut) B.pre w (List.mem_cons_of_mem _ hw)⟩
  have hr := B.returns
  have hk := B.notSynchronized
  refine rl_start (R := nr_Mo_layOut) (Q := rl_QM below _ s E rl_rv r) (nL := 8) (av := [.ref (E.1 59)]) (σ := σ) hP (Nat.le_of_ble_eq_true rfl) ?_
  unfold rf_Mo_layOut at h
  refine rl_iconst (v := 0) (pc := 0) Γ nd_Mo_layOut_0 (by decide) ?_
  refine rl_istore_n (L' := [(1, .int 0), (0, .ref (E.1 59))]) (pc := 1) Γ nd_Mo_layOut_1 (by decide) rfl ?_
  refine rl_iconst (v := 0) (pc := 2) Γ nd_Mo_layOut_2 (by decide) ?_
  refine rl_istore_n (L' := [(2, .int 0), (1, .int 0), (0, .ref (E.1 59))]) (pc := 3) Γ nd_Mo_layOut_3 (by decide) rfl ?_
  refine rl_Gsub [2, 1, 0] rfl (rw_Mo_layOut_L4 Γ hO hr hk     10000 0 0 σ h)
def rf_Mo_findCorners_J127 (x1 : Int32) (x2 : Int32) (x3 : Int32) (s0 : Int32) (s1 : Int32) (s2 : Int32) (RC : Int32 → rl_M → Option (Int32 × rl_M))  (σ : rl_M) : Option (Int32 × rl_M) := (if rl_ib s2 16 = true then (if rl_ib x1 16 = true then (if rl_ib x1 16 = true then (if ((rl_su σ 71 s2.toNatClampNeg (s1 + s0)) 63 x1.toNatClampNeg) = 124 then (if rl_ib x3 16 = true then RC (x1 + (-1)) (rl_su (rl_su σ 71 s2.toNatClampNeg (s1 + s0)) 72 x3.toNatClampNeg (((rl_su σ 71 s2.toNatClampNeg (s1 + s0)) 72 x1.toNatClampNeg) + 0)) else none) else (if rl_ib x2 16 = true then (if rl_ib x3 16 = true then RC (x1 + (-1)) (rl_su (rl_su σ 71 s2.toNatClampNeg (s1 + s0)) 72 x3.toNatClampNeg (((rl_su σ 71 s2.toNatClampNeg (s1 + s0)) 72 x1.toNatClampNeg) + ((rl_su σ 71 s2.toNatClampNeg (s1 + s0)) 70 x2.toNatClampNeg))) else none) else none)) else none) else none) else none)
def rf_Mo_findCorners_J57 (x1 : Int32) (RC : Int32 → rl_M → Option (Int32 × rl_M))  (σ : rl_M) : Option (Int32 × rl_M) := (if rl_ib x1 16 = true then (if rl_ib x1 16 = true then (if rl_ib x1 16 = true then (if rl_ib (σ 73 x1.toNatClampNeg) 16 = true then (if rl_ib x1 16 = true then (if rl_ib (σ 73 x1.toNatClampNeg) 16 = true then (if rl_ib x1 16 = true then (if rl_ib x1 16 = true then (if ((rl_su (rl_su σ 71 (σ 73 x1.toNatClampNeg).toNatClampNeg (σ 71 x1.toNatClampNeg)) 72 (σ 73 x1.toNatClampNeg).toNatClampNeg ((rl_su σ 71 (σ 73 x1.toNatClampNeg).toNatClampNeg (σ 71 x1.toNatClampNeg)) 72 x1.toNatClampNeg)) 63 x1.toNatClampNeg) = 124 then (if rl_ib (σ 73 x1.toNatClampNeg) 16 = true then rf_Mo_findCorners_J127 x1 (σ 73 x1.toNatClampNeg) (σ 74 x1.toNatClampNeg) ((rl_su (rl_su σ 71 (σ 73 x1.toNatClampNeg).toNatClampNeg (σ 71 x1.toNatClampNeg)) 72 (σ 73 x1.toNatClampNeg).toNatClampNeg ((rl_su σ 71 (σ 73 x1.toNatClampNeg).toNatClampNeg (σ 71 x1.toNatClampNeg)) 72 x1.toNatClampNeg)) 69 (σ 73 x1.toNatClampNeg).toNatClampNeg) ((rl_su (rl_su σ 71 (σ 73 x1.toNatClampNeg).toNatClampNeg (σ 71 x1.toNatClampNeg)) 72 (σ 73 x1.toNatClampNeg).toNatClampNeg ((rl_su σ 71 (σ 73 x1.toNatClampNeg).toNatClampNeg (σ 71 x1.toNatClampNeg)) 72 x1.toNatClampNeg)) 71 x1.toNatClampNeg) (σ 74 x1.toNatClampNeg) RC  (rl_su (rl_su σ 71 (σ 73 x1.toNatClampNeg).toNatClampNeg (σ 71 x1.toNatClampNeg)) 72 (σ 73 x1.toNatClampNeg).toNatClampNeg ((rl_su σ 71 (σ 73 x1.toNatClampNeg).toNatClampNeg (σ 71 x1.toNatClampNeg)) 72 x1.toNatClampNeg)) else none) else rf_Mo_findCorners_J127 x1 (σ 73 x1.toNatClampNeg) (σ 74 x1.toNatClampNeg) 0 ((rl_su (rl_su σ 71 (σ 73 x1.toNatClampNeg).toNatClampNeg (σ 71 x1.toNatClampNeg)) 72 (σ 73 x1.toNatClampNeg).toNatClampNeg ((rl_su σ 71 (σ 73 x1.toNatClampNeg).toNatClampNeg (σ 71 x1.toNatClampNeg)) 72 x1.toNatClampNeg)) 71 x1.toNatClampNeg) (σ 74 x1.toNatClampNeg) RC  (rl_su (rl_su σ 71 (σ 73 x1.toNatClampNeg).toNatClampNeg (σ 71 x1.toNatClampNeg)) 72 (σ 73 x1.toNatClampNeg).toNatClampNeg ((rl_su σ 71 (σ 73 x1.toNatClampNeg).toNatClampNeg (σ 71 x1.toNatClampNeg)) 72 x1.toNatClampNeg))) else none) else none) else none) else none) else none) else none) else none) else none)
def rf_Mo_findCorners_L31   : Nat → Int32 → rl_M → Option (Int32 × rl_M)
  | 0, _, _ => none
  | n + 1, x1, σ => (if x1 < 0 then some (0, σ) else (if rl_ib x1 16 = true then (if (σ 63 x1.toNatClampNeg) = 124 then rf_Mo_findCorners_J57 x1 (rf_Mo_findCorners_L31   n)  σ else (if rl_ib x1 16 = true then (if (σ 63 x1.toNatClampNeg) = 45 then rf_Mo_findCorners_J57 x1 (rf_Mo_findCorners_L31   n)  σ else rf_Mo_findCorners_L31   n (x1 + (-1)) σ) else none)) else none))
def rf_Mo_findCorners  (σ : rl_M) : Option (Int32 × rl_M) := (if rl_ib ((σ 59 7) - 1) 16 = true then (if rl_ib (((rl_su σ 71 ((σ 59 7) - 1).toNatClampNeg 0) 59 7) - 1) 16 = true then rf_Mo_findCorners_L31   10000 (((rl_su (rl_su σ 71 ((σ 59 7) - 1).toNatClampNeg 0) 72 (((rl_su σ 71 ((σ 59 7) - 1).toNatClampNeg 0) 59 7) - 1).toNatClampNeg 0) 59 7) - 1) (rl_su (rl_su σ 71 ((σ 59 7) - 1).toNatClampNeg 0) 72 (((rl_su σ 71 ((σ 59 7) - 1).toNatClampNeg 0) 59 7) - 1).toNatClampNeg 0) else none) else none)
set_option maxHeartbeats 4000000 in
set_option maxRecDepth 100000 in
theorem rw_Mo_findCorners_J127 {p : Program} {l : Launch} {e : Env} {s : State} {m : MethodId} {args : Array Value} {below : List Frame} {meth : Method} {c : Code} {E : rl_E} (Γ : CallFix p m c nc_Mo_findCorners 4 s args rl_TT nR_Mo) (hO : rl_Ok E s) (hr : meth.sig.returnType = none) (hk : meth.locks = false)  (x1 : Int32) (x2 : Int32) (x3 : Int32) (s0 : Int32) (s1 : Int32) (s2 : Int32)  (RC : Int32 → rl_M → Option (Int32 × rl_M))  {r : Int32 × rl_M} (hRC : ∀ (x1 : Int32) (σ : rl_M), RC x1 σ = some r → rl_G p l e nr_Mo_findCorners s m args below meth c 4 E 0 0 (rl_QM below args s E rl_rv r) σ 31 [(0, .ref (E.1 59)), (1, .int x1)] [])  (σ : rl_M) (h : rf_Mo_findCorners_J127 x1 x2 x3 s0 s1 s2 RC  σ = some r) : rl_G p l e nr_Mo_findCorners s m args below meth c 4 E 0 0 (rl_QM below args s E rl_rv r) σ 127 [(0, .ref (E.1 59)), (1, .int x1), (2, .int x2), (3, .int x3)] [.int s0, .int s1, .int s2, .ref (E.1 71)] := by
  unfold rf_Mo_findCorners_J127 at h
  refine rl_iadd (pc := 127) Γ nd_Mo_findCorners_127 ?_
  obtain ⟨q15, h⟩ := rl_if h
  refine rl_ist (pc := 128) Γ nd_Mo_findCorners_128 hO (rl_a71 E) (rl_ib_in q15) ?_
  refine rl_aload_n (pc := 129) Γ nd_Mo_findCorners_129 0 rfl ?_
  refine rl_get (pc := 130) Γ nd_Mo_findCorners_130 hO (k := 21) (rl_o59 E) rfl (by decide) rfl ⟨ni_Mo, nf_Mo_53⟩ ?_
  refine rl_iload_n (pc := 133) Γ nd_Mo_findCorners_133 3 rfl ?_
  refine rl_aload_n (pc := 134) Γ nd_Mo_findCorners_134 0 rfl ?_
  refine rl_get (pc := 135) Γ nd_Mo_findCorners_135 hO (k := 21) (rl_o59 E) rfl (by decide) rfl ⟨ni_Mo, nf_Mo_53⟩ ?_
  refine rl_iload_n (pc := 138) Γ nd_Mo_findCorners_138 1 rfl ?_
  obtain ⟨q16, h⟩ := rl_if h
  refine rl_ild (pc := 139) Γ nd_Mo_findCorners_139 hO (rl_a72 E) (rl_ib_in q16) ?_
  refine rl_aload_n (pc := 140) Γ nd_Mo_findCorners_140 0 rfl ?_
  refine rl_get (pc := 141) Γ nd_Mo_findCorners_141 hO (k := 8) (rl_o59 E) rfl (by decide) rfl ⟨ni_Mo, nf_Mo_26⟩ ?_
  refine rl_iload_n (pc := 144) Γ nd_Mo_findCorners_144 1 rfl ?_
  obtain ⟨q17, h⟩ := rl_if h
  refine rl_ild (pc := 145) Γ nd_Mo_findCorners_145 hO (rl_a63 E) (rl_ib_in q17) ?_
  refine rl_bipush (v := 124) (pc := 146) Γ nd_Mo_findCorners_146 (by decide) ?_
  refine rl_icmp_ne (tgt := 155) (pc := 148) Γ nd_Mo_findCorners_148 (by decide) (fun q18 => ?_) (fun q18 => ?_)
  · have h := rl_iff q18 h
    refine rl_aload_n (pc := 155) Γ nd_Mo_findCorners_155 0 rfl ?_
    refine rl_get (pc := 156) Γ nd_Mo_findCorners_156 hO (k := 19) (rl_o59 E) rfl (by decide) rfl ⟨ni_Mo, nf_Mo_47⟩ ?_
    refine rl_iload_n (pc := 159) Γ nd_Mo_findCorners_159 2 rfl ?_
    obtain ⟨q19, h⟩ := rl_if h
    refine rl_ild (pc := 160) Γ nd_Mo_findCorners_160 hO (rl_a70 E) (rl_ib_in q19) ?_
    refine rl_iadd (pc := 161) Γ nd_Mo_findCorners_161 ?_
    obtain ⟨q20, h⟩ := rl_if h
    refine rl_ist (pc := 162) Γ nd_Mo_findCorners_162 hO (rl_a72 E) (rl_ib_in q20) ?_
    refine rl_iinc (v := x1 + (-1)) (L' := [(1, .int (x1 + (-1))), (0, .ref (E.1 59)), (2, .int x2), (3, .int x3)]) (pc := 163) Γ nd_Mo_findCorners_163 1 rfl rfl (by decide) rfl ?_
    refine rl_goto (tgt := 31) (pc := 166) Γ nd_Mo_findCorners_166 (by decide) ?_
    exact rl_Gsub [1, 0] rfl (hRC (x1 + (-1)) (rl_su (rl_su σ 71 s2.toNatClampNeg (s1 + s0)) 72 x3.toNatClampNeg (((rl_su σ 71 s2.toNatClampNeg (s1 + s0)) 72 x1.toNatClampNeg) + ((rl_su σ 71 s2.toNatClampNeg (s1 + s0)) 70 x2.toNatClampNeg))) h)
  · have h := rl_ift q18 h
    refine rl_iconst (v := 0) (pc := 151) Γ nd_Mo_findCorners_151 (by decide) ?_
    refine rl_goto (tgt := 161) (pc := 152) Γ nd_Mo_findCorners_152 (by decide) ?_
    refine rl_iadd (pc := 161) Γ nd_Mo_findCorners_161 ?_
    obtain ⟨q21, h⟩ := rl_if h
    refine rl_ist (pc := 162) Γ nd_Mo_findCorners_162 hO (rl_a72 E) (rl_ib_in q21) ?_
    refine rl_iinc (v := x1 + (-1)) (L' := [(1, .int (x1 + (-1))), (0, .ref (E.1 59)), (2, .int x2), (3, .int x3)]) (pc := 163) Γ nd_Mo_findCorners_163 1 rfl rfl (by decide) rfl ?_
    refine rl_goto (tgt := 31) (pc := 166) Γ nd_Mo_findCorners_166 (by decide) ?_
    exact rl_Gsub [1, 0] rfl (hRC (x1 + (-1)) (rl_su (rl_su σ 71 s2.toNatClampNeg (s1 + s0)) 72 x3.toNatClampNeg (((rl_su σ 71 s2.toNatClampNeg (s1 + s0)) 72 x1.toNatClampNeg) + 0)) h)
set_option maxHeartbeats 4000000 in
set_option maxRecDepth 100000 in
theorem rw_Mo_findCorners_J57 {p : Program} {l : Launch} {e : Env} {s : State} {m : MethodId} {args : Array Value} {below : List Frame} {meth : Method} {c : Code} {E : rl_E} (Γ : CallFix p m c nc_Mo_findCorners 4 s args rl_TT nR_Mo) (hO : rl_Ok E s) (hr : meth.sig.returnType = none) (hk : meth.locks = false)  (x1 : Int32)  (RC : Int32 → rl_M → Option (Int32 × rl_M))  {r : Int32 × rl_M} (hRC : ∀ (x1 : Int32) (σ : rl_M), RC x1 σ = some r → rl_G p l e nr_Mo_findCorners s m args below meth c 4 E 0 0 (rl_QM below args s E rl_rv r) σ 31 [(0, .ref (E.1 59)), (1, .int x1)] [])  (σ : rl_M) (h : rf_Mo_findCorners_J57 x1 RC  σ = some r) : rl_G p l e nr_Mo_findCorners s m args below meth c 4 E 0 0 (rl_QM below args s E rl_rv r) σ 57 [(0, .ref (E.1 59)), (1, .int x1)] [] := by
  unfold rf_Mo_findCorners_J57 at h
  refine rl_aload_n (pc := 57) Γ nd_Mo_findCorners_57 0 rfl ?_
  refine rl_get (pc := 58) Γ nd_Mo_findCorners_58 hO (k := 22) (rl_o59 E) rfl (by decide) rfl ⟨ni_Mo, nf_Mo_56⟩ ?_
  refine rl_iload_n (pc := 61) Γ nd_Mo_findCorners_61 1 rfl ?_
  obtain ⟨q6, h⟩ := rl_if h
  refine rl_ild (pc := 62) Γ nd_Mo_findCorners_62 hO (rl_a73 E) (rl_ib_in q6) ?_
  refine rl_istore_n (L' := [(2, .int (σ 73 x1.toNatClampNeg)), (0, .ref (E.1 59)), (1, .int x1)]) (pc := 63) Γ nd_Mo_findCorners_63 (by decide) rfl ?_
  refine rl_aload_n (pc := 64) Γ nd_Mo_findCorners_64 1 rfl ?_
  refine rl_get (pc := 65) Γ nd_Mo_findCorners_65 hO (k := 23) (rl_o59 E) rfl (by decide) rfl ⟨ni_Mo, nf_Mo_59⟩ ?_
  refine rl_iload_n (pc := 68) Γ nd_Mo_findCorners_68 2 rfl ?_
  obtain ⟨q7, h⟩ := rl_if h
  refine rl_ild (pc := 69) Γ nd_Mo_findCorners_69 hO (rl_a74 E) (rl_ib_in q7) ?_
  refine rl_istore_n (L' := [(3, .int (σ 74 x1.toNatClampNeg)), (2, .int (σ 73 x1.toNatClampNeg)), (0, .ref (E.1 59)), (1, .int x1)]) (pc := 70) Γ nd_Mo_findCorners_70 (by decide) rfl ?_
  refine rl_aload_n (pc := 71) Γ nd_Mo_findCorners_71 2 rfl ?_
  refine rl_get (pc := 72) Γ nd_Mo_findCorners_72 hO (k := 20) (rl_o59 E) rfl (by decide) rfl ⟨ni_Mo, nf_Mo_50⟩ ?_
  refine rl_iload_n (pc := 75) Γ nd_Mo_findCorners_75 1 rfl ?_
  refine rl_aload_n (pc := 76) Γ nd_Mo_findCorners_76 2 rfl ?_
  refine rl_get (pc := 77) Γ nd_Mo_findCorners_77 hO (k := 20) (rl_o59 E) rfl (by decide) rfl ⟨ni_Mo, nf_Mo_50⟩ ?_
  refine rl_iload_n (pc := 80) Γ nd_Mo_findCorners_80 3 rfl ?_
  obtain ⟨q8, h⟩ := rl_if h
  refine rl_ild (pc := 81) Γ nd_Mo_findCorners_81 hO (rl_a71 E) (rl_ib_in q8) ?_
  obtain ⟨q9, h⟩ := rl_if h
  refine rl_ist (pc := 82) Γ nd_Mo_findCorners_82 hO (rl_a71 E) (rl_ib_in q9) ?_
  refine rl_aload_n (pc := 83) Γ nd_Mo_findCorners_83 2 rfl ?_
  refine rl_get (pc := 84) Γ nd_Mo_findCorners_84 hO (k := 21) (rl_o59 E) rfl (by decide) rfl ⟨ni_Mo, nf_Mo_53⟩ ?_
  refine rl_iload_n (pc := 87) Γ nd_Mo_findCorners_87 1 rfl ?_
  refine rl_aload_n (pc := 88) Γ nd_Mo_findCorners_88 2 rfl ?_
  refine rl_get (pc := 89) Γ nd_Mo_findCorners_89 hO (k := 21) (rl_o59 E) rfl (by decide) rfl ⟨ni_Mo, nf_Mo_53⟩ ?_
  refine rl_iload_n (pc := 92) Γ nd_Mo_findCorners_92 3 rfl ?_
  obtain ⟨q10, h⟩ := rl_if h
  refine rl_ild (pc := 93) Γ nd_Mo_findCorners_93 hO (rl_a72 E) (rl_ib_in q10) ?_
  obtain ⟨q11, h⟩ := rl_if h
  refine rl_ist (pc := 94) Γ nd_Mo_findCorners_94 hO (rl_a72 E) (rl_ib_in q11) ?_
  refine rl_aload_n (pc := 95) Γ nd_Mo_findCorners_95 2 rfl ?_
  refine rl_get (pc := 96) Γ nd_Mo_findCorners_96 hO (k := 20) (rl_o59 E) rfl (by decide) rfl ⟨ni_Mo, nf_Mo_50⟩ ?_
  refine rl_iload_n (pc := 99) Γ nd_Mo_findCorners_99 0 rfl ?_
  refine rl_aload_n (pc := 100) Γ nd_Mo_findCorners_100 2 rfl ?_
  refine rl_get (pc := 101) Γ nd_Mo_findCorners_101 hO (k := 20) (rl_o59 E) rfl (by decide) rfl ⟨ni_Mo, nf_Mo_50⟩ ?_
  refine rl_iload_n (pc := 104) Γ nd_Mo_findCorners_104 3 rfl ?_
  obtain ⟨q12, h⟩ := rl_if h
  refine rl_ild (pc := 105) Γ nd_Mo_findCorners_105 hO (rl_a71 E) (rl_ib_in q12) ?_
  refine rl_aload_n (pc := 106) Γ nd_Mo_findCorners_106 2 rfl ?_
  refine rl_get (pc := 107) Γ nd_Mo_findCorners_107 hO (k := 8) (rl_o59 E) rfl (by decide) rfl ⟨ni_Mo, nf_Mo_26⟩ ?_
  refine rl_iload_n (pc := 110) Γ nd_Mo_findCorners_110 3 rfl ?_
  obtain ⟨q13, h⟩ := rl_if h
  refine rl_ild (pc := 111) Γ nd_Mo_findCorners_111 hO (rl_a63 E) (rl_ib_in q13) ?_
  refine rl_bipush (v := 124) (pc := 112) Γ nd_Mo_findCorners_112 (by decide) ?_
  refine rl_icmp_ne (tgt := 126) (pc := 114) Γ nd_Mo_findCorners_114 (by decide) (fun q14 => ?_) (fun q14 => ?_)
  · have h := rl_iff q14 h
    refine rl_iconst (v := 0) (pc := 126) Γ nd_Mo_findCorners_126 (by decide) ?_
    exact rl_Gsub [2, 3, 1, 0] rfl (rw_Mo_findCorners_J127 Γ hO hr hk x1 (σ 73 x1.toNatClampNeg) (σ 74 x1.toNatClampNeg) 0 ((rl_su (rl_su σ 71 (σ 73 x1.toNatClampNeg).toNatClampNeg (σ 71 x1.toNatClampNeg)) 72 (σ 73 x1.toNatClampNeg).toNatClampNeg ((rl_su σ 71 (σ 73 x1.toNatClampNeg).toNatClampNeg (σ 71 x1.toNatClampNeg)) 72 x1.toNatClampNeg)) 71 x1.toNatClampNeg) (σ 74 x1.toNatClampNeg)  _  hRC  (rl_su (rl_su σ 71 (σ 73 x1.toNatClampNeg).toNatClampNeg (σ 71 x1.toNatClampNeg)) 72 (σ 73 x1.toNatClampNeg).toNatClampNeg ((rl_su σ 71 (σ 73 x1.toNatClampNeg).toNatClampNeg (σ 71 x1.toNatClampNeg)) 72 x1.toNatClampNeg)) h)
  · have h := rl_ift q14 h
    refine rl_aload_n (pc := 117) Γ nd_Mo_findCorners_117 2 rfl ?_
    refine rl_get (pc := 118) Γ nd_Mo_findCorners_118 hO (k := 18) (rl_o59 E) rfl (by decide) rfl ⟨ni_Mo, nf_Mo_44⟩ ?_
    refine rl_iload_n (pc := 121) Γ nd_Mo_findCorners_121 1 rfl ?_
    obtain ⟨q22, h⟩ := rl_if h
    refine rl_ild (pc := 122) Γ nd_Mo_findCorners_122 hO (rl_a69 E) (rl_ib_in q22) ?_
    refine rl_goto (tgt := 127) (pc := 123) Γ nd_Mo_findCorners_123 (by decide) ?_
    exact rl_Gsub [2, 3, 1, 0] rfl (rw_Mo_findCorners_J127 Γ hO hr hk x1 (σ 73 x1.toNatClampNeg) (σ 74 x1.toNatClampNeg) ((rl_su (rl_su σ 71 (σ 73 x1.toNatClampNeg).toNatClampNeg (σ 71 x1.toNatClampNeg)) 72 (σ 73 x1.toNatClampNeg).toNatClampNeg ((rl_su σ 71 (σ 73 x1.toNatClampNeg).toNatClampNeg (σ 71 x1.toNatClampNeg)) 72 x1.toNatClampNeg)) 69 (σ 73 x1.toNatClampNeg).toNatClampNeg) ((rl_su (rl_su σ 71 (σ 73 x1.toNatClampNeg).toNatClampNeg (σ 71 x1.toNatClampNeg)) 72 (σ 73 x1.toNatClampNeg).toNatClampNeg ((rl_su σ 71 (σ 73 x1.toNatClampNeg).toNatClampNeg (σ 71 x1.toNatClampNeg)) 72 x1.toNatClampNeg)) 71 x1.toNatClampNeg) (σ 74 x1.toNatClampNeg)  _  hRC  (rl_su (rl_su σ 71 (σ 73 x1.toNatClampNeg).toNatClampNeg (σ 71 x1.toNatClampNeg)) 72 (σ 73 x1.toNatClampNeg).toNatClampNeg ((rl_su σ 71 (σ 73 x1.toNatClampNeg).toNatClampNeg (σ 71 x1.toNatClampNeg)) 72 x1.toNatClampNeg)) h)
set_option maxHeartbeats 4000000 in
set_option maxRecDepth 100000 in
theorem rw_Mo_findCorners_L31 {p : Program} {l : Launch} {e : Env} {s : State} {m : MethodId} {args : Array Value} {below : List Frame} {meth : Method} {c : Code} {E : rl_E} (Γ : CallFix p m c nc_Mo_findCorners 4 s args rl_TT nR_Mo) (hO : rl_Ok E s) (hr : meth.sig.returnType = none) (hk : meth.locks = false)    {r : Int32 × rl_M}  : ∀ (n : Nat) (x1 : Int32) (σ : rl_M), rf_Mo_findCorners_L31   n x1 σ = some r → rl_G p l e nr_Mo_findCorners s m args below meth c 4 E 0 0 (rl_QM below args s E rl_rv r) σ 31 [(0, .ref (E.1 59)), (1, .int x1)] [] := by
  intro n
  induction n with
  | zero =>
    intro x1 σ h
    exact (rl_ns (show none = some r from h)).elim
  | succ n ih =>
    intro x1 σ h
    unfold rf_Mo_findCorners_L31 at h
    refine rl_iload_n (pc := 31) Γ nd_Mo_findCorners_31 1 rfl ?_
    refine rl_if_lt (tgt := 169) (pc := 32) Γ nd_Mo_findCorners_32 (by decide) (fun q3 => ?_) (fun q3 => ?_)
    · have h := rl_ift q3 h
      exact rl_vret (pc := 169) Γ nd_Mo_findCorners_169 hr hk h
    · have h := rl_iff q3 h
      refine rl_aload_n (pc := 35) Γ nd_Mo_findCorners_35 0 rfl ?_
      refine rl_get (pc := 36) Γ nd_Mo_findCorners_36 hO (k := 8) (rl_o59 E) rfl (by decide) rfl ⟨ni_Mo, nf_Mo_26⟩ ?_
      refine rl_iload_n (pc := 39) Γ nd_Mo_findCorners_39 1 rfl ?_
      obtain ⟨q4, h⟩ := rl_if h
      refine rl_ild (pc := 40) Γ nd_Mo_findCorners_40 hO (rl_a63 E) (rl_ib_in q4) ?_
      refine rl_bipush (v := 124) (pc := 41) Γ nd_Mo_findCorners_41 (by decide) ?_
      refine rl_icmp_eq (tgt := 57) (pc := 43) Γ nd_Mo_findCorners_43 (by decide) (fun q5 => ?_) (fun q5 => ?_)
      · have h := rl_ift q5 h
        exact rl_Gsub [0, 1] rfl (rw_Mo_findCorners_J57 Γ hO hr hk x1  _  ih  σ h)
      · have h := rl_iff q5 h
        refine rl_aload_n (pc := 46) Γ nd_Mo_findCorners_46 0 rfl ?_
        refine rl_get (pc := 47) Γ nd_Mo_findCorners_47 hO (k := 8) (rl_o59 E) rfl (by decide) rfl ⟨ni_Mo, nf_Mo_26⟩ ?_
        refine rl_iload_n (pc := 50) Γ nd_Mo_findCorners_50 1 rfl ?_
        obtain ⟨q23, h⟩ := rl_if h
        refine rl_ild (pc := 51) Γ nd_Mo_findCorners_51 hO (rl_a63 E) (rl_ib_in q23) ?_
        refine rl_bipush (v := 45) (pc := 52) Γ nd_Mo_findCorners_52 (by decide) ?_
        refine rl_icmp_ne (tgt := 163) (pc := 54) Γ nd_Mo_findCorners_54 (by decide) (fun q24 => ?_) (fun q24 => ?_)
        · have h := rl_iff q24 h
          refine rl_iinc (v := x1 + (-1)) (L' := [(1, .int (x1 + (-1))), (0, .ref (E.1 59))]) (pc := 163) Γ nd_Mo_findCorners_163 1 rfl rfl (by decide) rfl ?_
          refine rl_goto (tgt := 31) (pc := 166) Γ nd_Mo_findCorners_166 (by decide) ?_
          exact rl_Gsub [1, 0] rfl (ih (x1 + (-1)) σ h)
        · have h := rl_ift q24 h
          exact rl_Gsub [0, 1] rfl (rw_Mo_findCorners_J57 Γ hO hr hk x1  _  ih  σ h)
set_option maxHeartbeats 4000000 in
set_option maxRecDepth 100000 in
theorem rw_Mo_findCorners (l : Launch) (E : rl_E)   (σ : rl_M) (r : Int32 × rl_M) (h : rf_Mo_findCorners  σ = some r) : Met l ny_Mo_findCorners nw_Mo_findCorners nr_Mo_findCorners (rl_P E [.ref (E.1 59)] σ) (rl_Q E (rl_rv r.1) r.2) 0 0 (rl_A E) := by
  refine Met.ofW (cc := nc_Mo_findCorners) (maxL := 4) (ret := none) (by decide) rfl ?_
  intro p e s m args below meth c s₁ B hml hv
  obtain ⟨rfl, hP, hO⟩ := hv
  have Γ : CallFix p m c nc_Mo_findCorners 4 s ([.ref (E.1 59)] : List Value).toArray rl_TT nR_Mo := ⟨B.exec, B.bytes, hml, findClass_of_methodNamed B.named, fun w hw => atoms_spec (ws := nw_Mo_findCorners) B.pre w (List.mem_cons_of_mem _ hw)⟩
  have hr := B.returns
  have hk := B.notSynchronized
  refine rl_start (R := nr_Mo_findCorners) (Q := rl_QM below _ s E rl_rv r) (nL := 4) (av := [.ref (E.1 59)]) (σ := σ) hP (Nat.le_of_ble_eq_true rfl) ?_
  unfold rf_Mo_findCorners at h
  refine rl_aload_n (pc := 0) Γ nd_Mo_findCorners_0 0 rfl ?_
  refine rl_get (pc := 1) Γ nd_Mo_findCorners_1 hO (k := 20) (rl_o59 E) rfl (by decide) rfl ⟨ni_Mo, nf_Mo_50⟩ ?_
  refine rl_aload_n (pc := 4) Γ nd_Mo_findCorners_4 0 rfl ?_
  refine rl_get (pc := 5) Γ nd_Mo_findCorners_5 hO (k := 7) (rl_o59 E) rfl (by decide) rfl ⟨ni_Mo, nf_Mo_91⟩ ?_
  refine rl_iconst (v := 1) (pc := 8) Γ nd_Mo_findCorners_8 (by decide) ?_
  refine rl_isub (pc := 9) Γ nd_Mo_findCorners_9 ?_
  refine rl_iconst (v := 0) (pc := 10) Γ nd_Mo_findCorners_10 (by decide) ?_
  obtain ⟨q1, h⟩ := rl_if h
  refine rl_ist (pc := 11) Γ nd_Mo_findCorners_11 hO (rl_a71 E) (rl_ib_in q1) ?_
  refine rl_aload_n (pc := 12) Γ nd_Mo_findCorners_12 0 rfl ?_
  refine rl_get (pc := 13) Γ nd_Mo_findCorners_13 hO (k := 21) (rl_o59 E) rfl (by decide) rfl ⟨ni_Mo, nf_Mo_53⟩ ?_
  refine rl_aload_n (pc := 16) Γ nd_Mo_findCorners_16 0 rfl ?_
  refine rl_get (pc := 17) Γ nd_Mo_findCorners_17 hO (k := 7) (rl_o59 E) rfl (by decide) rfl ⟨ni_Mo, nf_Mo_91⟩ ?_
  refine rl_iconst (v := 1) (pc := 20) Γ nd_Mo_findCorners_20 (by decide) ?_
  refine rl_isub (pc := 21) Γ nd_Mo_findCorners_21 ?_
  refine rl_iconst (v := 0) (pc := 22) Γ nd_Mo_findCorners_22 (by decide) ?_
  obtain ⟨q2, h⟩ := rl_if h
  refine rl_ist (pc := 23) Γ nd_Mo_findCorners_23 hO (rl_a72 E) (rl_ib_in q2) ?_
  refine rl_aload_n (pc := 24) Γ nd_Mo_findCorners_24 0 rfl ?_
  refine rl_get (pc := 25) Γ nd_Mo_findCorners_25 hO (k := 7) (rl_o59 E) rfl (by decide) rfl ⟨ni_Mo, nf_Mo_91⟩ ?_
  refine rl_iconst (v := 1) (pc := 28) Γ nd_Mo_findCorners_28 (by decide) ?_
  refine rl_isub (pc := 29) Γ nd_Mo_findCorners_29 ?_
  refine rl_istore_n (L' := [(1, .int (((rl_su (rl_su σ 71 ((σ 59 7) - 1).toNatClampNeg 0) 72 (((rl_su σ 71 ((σ 59 7) - 1).toNatClampNeg 0) 59 7) - 1).toNatClampNeg 0) 59 7) - 1)), (0, .ref (E.1 59))]) (pc := 30) Γ nd_Mo_findCorners_30 (by decide) rfl ?_
  refine rl_Gsub [1, 0] rfl (rw_Mo_findCorners_L31 Γ hO hr hk     10000 (((rl_su (rl_su σ 71 ((σ 59 7) - 1).toNatClampNeg 0) 72 (((rl_su σ 71 ((σ 59 7) - 1).toNatClampNeg 0) 59 7) - 1).toNatClampNeg 0) 59 7) - 1) (rl_su (rl_su σ 71 ((σ 59 7) - 1).toNatClampNeg 0) 72 (((rl_su σ 71 ((σ 59 7) - 1).toNatClampNeg 0) 59 7) - 1).toNatClampNeg 0) h)
