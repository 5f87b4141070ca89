def rf_Cu_widthAt (a0 : Nat) (x1 : Int32) (σ : rl_M) : Option (Int32 × rl_M) := (if x1 < 0 then some ((-1), σ) else (if (σ a0 0) ≤ x1 then some ((-1), σ) else (if rl_ib x1 24 = true then some (σ (a0 + 1) x1.toNatClampNeg, σ) else none)))
set_option maxHeartbeats 4000000 in
set_option maxRecDepth 100000 in
theorem rw_Cu_widthAt (l : Launch) (E : rl_E) (a0 : Nat) (x1 : Int32) (ha0 : rl_cvb a0 = true) (σ : rl_M) (r : Int32 × rl_M) (h : rf_Cu_widthAt a0 x1 σ = some r) : Met l ny_Cu_widthAt nw_Cu_widthAt nr_Cu_widthAt (rl_P E [.ref (E.1 a0), .int x1] σ) (rl_Q E (rl_ri r.1) r.2) 0 0 (rl_A E) := by
  refine Met.ofW (cc := nc_Cu_widthAt) (maxL := 2) (ret := (some .int)) (by decide) rfl ?_
  intro p e s m args below meth c s₁ B hml hv
  obtain ⟨rfl, hP, hO⟩ := hv
  have Γ : CallFix p m c nc_Cu_widthAt 2 s ([.ref (E.1 a0), .int x1] : List Value).toArray rl_TT nR_Cu := ⟨B.exec, B.bytes, hml, findClass_of_methodNamed B.named, fun w hw => atoms_spec (ws := nw_Cu_widthAt) B.pre w (List.mem_cons_of_mem _ hw)⟩
  have hr := B.returns
  have hk := B.notSynchronized
  refine rl_start (R := nr_Cu_widthAt) (Q := rl_QM below _ s E rl_ri r) (nL := 2) (av := [.ref (E.1 a0), .int x1]) (σ := σ) hP (Nat.le_of_ble_eq_true rfl) ?_
  unfold rf_Cu_widthAt at h
  refine rl_iload_n (pc := 0) Γ nd_Cu_widthAt_0 1 rfl ?_
  refine rl_if_lt (tgt := 21) (pc := 1) Γ nd_Cu_widthAt_1 (by decide) (fun q1 => ?_) (fun q1 => ?_)
  · have h := rl_ift q1 h
    refine rl_iconst (v := (-1)) (pc := 21) Γ nd_Cu_widthAt_21 (by decide) ?_
    exact rl_iret (pc := 22) Γ nd_Cu_widthAt_22 hr hk h
  · have h := rl_iff q1 h
    refine rl_iload_n (pc := 4) Γ nd_Cu_widthAt_4 1 rfl ?_
    refine rl_aload_n (pc := 5) Γ nd_Cu_widthAt_5 0 rfl ?_
    refine rl_get (pc := 6) Γ nd_Cu_widthAt_6 hO (k := 0) (rl_oC ha0) rfl (by decide) rfl ⟨ni_Cu, nf_Cu_9⟩ ?_
    refine rl_icmp_ge (tgt := 21) (pc := 9) Γ nd_Cu_widthAt_9 (by decide) (fun q2 => ?_) (fun q2 => ?_)
    · have h := rl_ift q2 h
      refine rl_iconst (v := (-1)) (pc := 21) Γ nd_Cu_widthAt_21 (by decide) ?_
      exact rl_iret (pc := 22) Γ nd_Cu_widthAt_22 hr hk h
    · have h := rl_iff q2 h
      refine rl_aload_n (pc := 12) Γ nd_Cu_widthAt_12 0 rfl ?_
      refine rl_get (pc := 13) Γ nd_Cu_widthAt_13 hO (k := 1) (rl_oC ha0) rfl (by decide) rfl ⟨ni_Cu, nf_Cu_15⟩ ?_
      refine rl_iload_n (pc := 16) Γ nd_Cu_widthAt_16 1 rfl ?_
      obtain ⟨q3, h⟩ := rl_if h
      refine rl_ild (pc := 17) Γ nd_Cu_widthAt_17 hO (rl_aC1 ha0) (rl_ib_in q3) ?_
      refine rl_goto (tgt := 22) (pc := 18) Γ nd_Cu_widthAt_18 (by decide) ?_
      exact rl_iret (pc := 22) Γ nd_Cu_widthAt_22 hr hk h
def rf_Cu_heightAt (a0 : Nat) (x1 : Int32) (σ : rl_M) : Option (Int32 × rl_M) := (if x1 < 0 then some ((-1), σ) else (if (σ a0 0) ≤ x1 then some ((-1), σ) else (if rl_ib x1 24 = true then some (σ (a0 + 2) x1.toNatClampNeg, σ) else none)))
set_option maxHeartbeats 4000000 in
set_option maxRecDepth 100000 in
theorem rw_Cu_heightAt (l : Launch) (E : rl_E) (a0 : Nat) (x1 : Int32) (ha0 : rl_cvb a0 = true) (σ : rl_M) (r : Int32 × rl_M) (h : rf_Cu_heightAt a0 x1 σ = some r) : Met l ny_Cu_heightAt nw_Cu_heightAt nr_Cu_heightAt (rl_P E [.ref (E.1 a0), .int x1] σ) (rl_Q E (rl_ri r.1) r.2) 0 0 (rl_A E) := by
  refine Met.ofW (cc := nc_Cu_heightAt) (maxL := 2) (ret := (some .int)) (by decide) rfl ?_
  intro p e s m args below meth c s₁ B hml hv
  obtain ⟨rfl, hP, hO⟩ := hv
  have Γ : CallFix p m c nc_Cu_heightAt 2 s ([.ref (E.1 a0), .int x1] : List Value).toArray rl_TT nR_Cu := ⟨B.exec, B.bytes, hml, findClass_of_methodNamed B.named, fun w hw => atoms_spec (ws := nw_Cu_heightAt) B.pre w (List.mem_cons_of_mem _ hw)⟩
  have hr := B.returns
  have hk := B.notSynchronized
  refine rl_start (R := nr_Cu_heightAt) (Q := rl_QM below _ s E rl_ri r) (nL := 2) (av := [.ref (E.1 a0), .int x1]) (σ := σ) hP (Nat.le_of_ble_eq_true rfl) ?_
  unfold rf_Cu_heightAt at h
  refine rl_iload_n (pc := 0) Γ nd_Cu_heightAt_0 1 rfl ?_
  refine rl_if_lt (tgt := 21) (pc := 1) Γ nd_Cu_heightAt_1 (by decide) (fun q1 => ?_) (fun q1 => ?_)
  · have h := rl_ift q1 h
    refine rl_iconst (v := (-1)) (pc := 21) Γ nd_Cu_heightAt_21 (by decide) ?_
    exact rl_iret (pc := 22) Γ nd_Cu_heightAt_22 hr hk h
  · have h := rl_iff q1 h
    refine rl_iload_n (pc := 4) Γ nd_Cu_heightAt_4 1 rfl ?_
    refine rl_aload_n (pc := 5) Γ nd_Cu_heightAt_5 0 rfl ?_
    refine rl_get (pc := 6) Γ nd_Cu_heightAt_6 hO (k := 0) (rl_oC ha0) rfl (by decide) rfl ⟨ni_Cu, nf_Cu_9⟩ ?_
    refine rl_icmp_ge (tgt := 21) (pc := 9) Γ nd_Cu_heightAt_9 (by decide) (fun q2 => ?_) (fun q2 => ?_)
    · have h := rl_ift q2 h
      refine rl_iconst (v := (-1)) (pc := 21) Γ nd_Cu_heightAt_21 (by decide) ?_
      exact rl_iret (pc := 22) Γ nd_Cu_heightAt_22 hr hk h
    · have h := rl_iff q2 h
      refine rl_aload_n (pc := 12) Γ nd_Cu_heightAt_12 0 rfl ?_
      refine rl_get (pc := 13) Γ nd_Cu_heightAt_13 hO (k := 2) (rl_oC ha0) rfl (by decide) rfl ⟨ni_Cu, nf_Cu_19⟩ ?_
      refine rl_iload_n (pc := 16) Γ nd_Cu_heightAt_16 1 rfl ?_
      obtain ⟨q3, h⟩ := rl_if h
      refine rl_ild (pc := 17) Γ nd_Cu_heightAt_17 hO (rl_aC2 ha0) (rl_ib_in q3) ?_
      refine rl_goto (tgt := 22) (pc := 18) Γ nd_Cu_heightAt_18 (by decide) ?_
      exact rl_iret (pc := 22) Γ nd_Cu_heightAt_22 hr hk h
def rf_Cu_clear (a0 : Nat) (σ : rl_M) : Option (Int32 × rl_M) := some (0, rl_su σ a0 0 0)
set_option maxHeartbeats 4000000 in
set_option maxRecDepth 100000 in
theorem rw_Cu_clear (l : Launch) (E : rl_E) (a0 : Nat) (ha0 : rl_cvb a0 = true) (σ : rl_M) (r : Int32 × rl_M) (h : rf_Cu_clear a0 σ = some r) : Met l ny_Cu_clear nw_Cu_clear nr_Cu_clear (rl_P E [.ref (E.1 a0)] σ) (rl_Q E (rl_rv r.1) r.2) 0 0 (rl_A E) := by
  refine Met.ofW (cc := nc_Cu_clear) (maxL := 1) (ret := none) (by decide) rfl ?_
  intro p e s m args below meth c s₁ B hml hv
  obtain ⟨rfl, hP, hO⟩ := hv
  have Γ : CallFix p m c nc_Cu_clear 1 s ([.ref (E.1 a0)] : List Value).toArray rl_TT nR_Cu := ⟨B.exec, B.bytes, hml, findClass_of_methodNamed B.named, fun w hw => atoms_spec (ws := nw_Cu_clear) B.pre w (List.mem_cons_of_mem _ hw)⟩
  have hr := B.returns
  have hk := B.notSynchronized
  refine rl_start (R := nr_Cu_clear) (Q := rl_QM below _ s E rl_rv r) (nL := 1) (av := [.ref (E.1 a0)]) (σ := σ) hP (Nat.le_of_ble_eq_true rfl) ?_
  unfold rf_Cu_clear at h
  refine rl_aload_n (pc := 0) Γ nd_Cu_clear_0 0 rfl ?_
  refine rl_iconst (v := 0) (pc := 1) Γ nd_Cu_clear_1 (by decide) ?_
  refine rl_put (pc := 2) Γ nd_Cu_clear_2 hO (k := 0) (rl_oC ha0) rfl (by decide) (fun _ _ => rfl) ⟨ni_Cu, nf_Cu_9⟩ nt_Cu nto_Cu nn_Cu rfl (fun _ => Nat.le_of_ble_eq_true rfl) rl_ni ?_
  exact rl_vret (pc := 5) Γ nd_Cu_clear_5 hr hk h
def rf_Cu_append (a0 : Nat) (x1 : Int32) (x2 : Int32) (σ : rl_M) : Option (Int32 × rl_M) := (if 24 ≤ (σ a0 0) then some (0, σ) else (if rl_ib (σ a0 0) 24 = true then (if rl_ib ((rl_su σ (a0 + 1) (σ a0 0).toNatClampNeg x1) a0 0) 24 = true then some (0, rl_su (rl_su (rl_su σ (a0 + 1) (σ a0 0).toNatClampNeg x1) (a0 + 2) ((rl_su σ (a0 + 1) (σ a0 0).toNatClampNeg x1) a0 0).toNatClampNeg x2) a0 0 (((rl_su (rl_su σ (a0 + 1) (σ a0 0).toNatClampNeg x1) (a0 + 2) ((rl_su σ (a0 + 1) (σ a0 0).toNatClampNeg x1) a0 0).toNatClampNeg x2) a0 0) + 1)) else none) else none))
set_option maxHeartbeats 4000000 in
set_option maxRecDepth 100000 in
theorem rw_Cu_append (l : Launch) (E : rl_E) (a0 : Nat) (x1 : Int32) (x2 : Int32) (ha0 : rl_cvb a0 = true) (σ : rl_M) (r : Int32 × rl_M) (h : rf_Cu_append a0 x1 x2 σ = some r) : Met l ny_Cu_append nw_Cu_append nr_Cu_append (rl_P E [.ref (E.1 a0), .int x1, .int x2] σ) (rl_Q E (rl_rv r.1) r.2) 0 0 (rl_A E) := by
  refine Met.ofW (cc := nc_Cu_append) (maxL := 3) (ret := none) (by decide) rfl ?_
  intro p e s m args below meth c s₁ B hml hv
  obtain ⟨rfl, hP, hO⟩ := hv
  have Γ : CallFix p m c nc_Cu_append 3 s ([.ref (E.1 a0), .int x1, .int x2] : List Value).toArray rl_TT nR_Cu := ⟨B.exec, B.bytes, hml, findClass_of_methodNamed B.named, fun w hw => atoms_spec (ws := nw_Cu_append) B.pre w (List.mem_cons_of_mem _ hw)⟩
  have hr := B.returns
  have hk := B.notSynchronized
  refine rl_start (R := nr_Cu_append) (Q := rl_QM below _ s E rl_rv r) (nL := 3) (av := [.ref (E.1 a0), .int x1, .int x2]) (σ := σ) hP (Nat.le_of_ble_eq_true rfl) ?_
  unfold rf_Cu_append at h
  refine rl_aload_n (pc := 0) Γ nd_Cu_append_0 0 rfl ?_
  refine rl_get (pc := 1) Γ nd_Cu_append_1 hO (k := 0) (rl_oC ha0) rfl (by decide) rfl ⟨ni_Cu, nf_Cu_9⟩ ?_
  refine rl_bipush (v := 24) (pc := 4) Γ nd_Cu_append_4 (by decide) ?_
  refine rl_icmp_ge (tgt := 39) (pc := 6) Γ nd_Cu_append_6 (by decide) (fun q1 => ?_) (fun q1 => ?_)
  · have h := rl_ift q1 h
    exact rl_vret (pc := 39) Γ nd_Cu_append_39 hr hk h
  · have h := rl_iff q1 h
    refine rl_aload_n (pc := 9) Γ nd_Cu_append_9 0 rfl ?_
    refine rl_get (pc := 10) Γ nd_Cu_append_10 hO (k := 1) (rl_oC ha0) rfl (by decide) rfl ⟨ni_Cu, nf_Cu_15⟩ ?_
    refine rl_aload_n (pc := 13) Γ nd_Cu_append_13 0 rfl ?_
    refine rl_get (pc := 14) Γ nd_Cu_append_14 hO (k := 0) (rl_oC ha0) rfl (by decide) rfl ⟨ni_Cu, nf_Cu_9⟩ ?_
    refine rl_iload_n (pc := 17) Γ nd_Cu_append_17 1 rfl ?_
    obtain ⟨q2, h⟩ := rl_if h
    refine rl_ist (pc := 18) Γ nd_Cu_append_18 hO (rl_aC1 ha0) (rl_ib_in q2) ?_
    refine rl_aload_n (pc := 19) Γ nd_Cu_append_19 0 rfl ?_
    refine rl_get (pc := 20) Γ nd_Cu_append_20 hO (k := 2) (rl_oC ha0) rfl (by decide) rfl ⟨ni_Cu, nf_Cu_19⟩ ?_
    refine rl_aload_n (pc := 23) Γ nd_Cu_append_23 0 rfl ?_
    refine rl_get (pc := 24) Γ nd_Cu_append_24 hO (k := 0) (rl_oC ha0) rfl (by decide) rfl ⟨ni_Cu, nf_Cu_9⟩ ?_
    refine rl_iload_n (pc := 27) Γ nd_Cu_append_27 2 rfl ?_
    obtain ⟨q3, h⟩ := rl_if h
    refine rl_ist (pc := 28) Γ nd_Cu_append_28 hO (rl_aC2 ha0) (rl_ib_in q3) ?_
    refine rl_aload_n (pc := 29) Γ nd_Cu_append_29 0 rfl ?_
    refine rl_dup (pc := 30) Γ nd_Cu_append_30 rfl ?_
    refine rl_get (pc := 31) Γ nd_Cu_append_31 hO (k := 0) (rl_oC ha0) rfl (by decide) rfl ⟨ni_Cu, nf_Cu_9⟩ ?_
    refine rl_iconst (v := 1) (pc := 34) Γ nd_Cu_append_34 (by decide) ?_
    refine rl_iadd (pc := 35) Γ nd_Cu_append_35 ?_
    refine rl_put (pc := 36) Γ nd_Cu_append_36 hO (k := 0) (rl_oC ha0) rfl (by decide) (fun _ _ => rfl) ⟨ni_Cu, nf_Cu_9⟩ nt_Cu nto_Cu nn_Cu rfl (fun _ => Nat.le_of_ble_eq_true rfl) rl_ni ?_
    exact rl_vret (pc := 39) Γ nd_Cu_append_39 hr hk h
def rf_Cu_hasWithin_L2 (a0 : Nat) (x1 : Int32) (x2 : Int32)  : Nat → Int32 → rl_M → Option (Int32 × rl_M)
  | 0, _, _ => none
  | n + 1, x3, σ => (if (σ a0 0) ≤ x3 then some (0, σ) else (if rl_ib x3 24 = true then (if x1 < (σ (a0 + 1) x3.toNatClampNeg) then rf_Cu_hasWithin_L2 a0 x1 x2  n (x3 + 1) σ else (if rl_ib x3 24 = true then (if x2 < (σ (a0 + 2) x3.toNatClampNeg) then rf_Cu_hasWithin_L2 a0 x1 x2  n (x3 + 1) σ else some (1, σ)) else none)) else none))
def rf_Cu_hasWithin (a0 : Nat) (x1 : Int32) (x2 : Int32) (σ : rl_M) : Option (Int32 × rl_M) := rf_Cu_hasWithin_L2 a0 x1 x2  10000 0 σ
set_option maxHeartbeats 4000000 in
set_option maxRecDepth 100000 in
theorem rw_Cu_hasWithin_L2 {p : Program} {l : Launch} {e : Env} {s : State} {m : MethodId} {args : Array Value} {below : List Frame} {meth : Method} {c : Code} {E : rl_E} (Γ : CallFix p m c nc_Cu_hasWithin 4 s args rl_TT nR_Cu) (hO : rl_Ok E s) (hr : meth.sig.returnType = (some .boolean)) (hk : meth.locks = false) (a0 : Nat) (x1 : Int32) (x2 : Int32) (ha0 : rl_cvb a0 = true)  {r : Int32 × rl_M}  : ∀ (n : Nat) (x3 : Int32) (σ : rl_M), rf_Cu_hasWithin_L2 a0 x1 x2  n x3 σ = some r → rl_G p l e nr_Cu_hasWithin s m args below meth c 4 E 0 0 (rl_QM below args s E rl_ri r) σ 2 [(0, .ref (E.1 a0)), (1, .int x1), (2, .int x2), (3, .int x3)] [] := by
  intro n
  induction n with
  | zero =>
    intro x3 σ h
    exact (rl_ns (show none = some r from h)).elim
  | succ n ih =>
    intro x3 σ h
    unfold rf_Cu_hasWithin_L2 at h
    refine rl_iload_n (pc := 2) Γ nd_Cu_hasWithin_2 3 rfl ?_
    refine rl_aload_n (pc := 3) Γ nd_Cu_hasWithin_3 0 rfl ?_
    refine rl_get (pc := 4) Γ nd_Cu_hasWithin_4 hO (k := 0) (rl_oC ha0) rfl (by decide) rfl ⟨ni_Cu, nf_Cu_9⟩ ?_
    refine rl_icmp_ge (tgt := 38) (pc := 7) Γ nd_Cu_hasWithin_7 (by decide) (fun q1 => ?_) (fun q1 => ?_)
    · have h := rl_ift q1 h
      refine rl_iconst (v := 0) (pc := 38) Γ nd_Cu_hasWithin_38 (by decide) ?_
      exact rl_zret (pc := 39) Γ nd_Cu_hasWithin_39 hr hk (by decide) h
    · have h := rl_iff q1 h
      refine rl_aload_n (pc := 10) Γ nd_Cu_hasWithin_10 0 rfl ?_
      refine rl_get (pc := 11) Γ nd_Cu_hasWithin_11 hO (k := 1) (rl_oC ha0) rfl (by decide) rfl ⟨ni_Cu, nf_Cu_15⟩ ?_
      refine rl_iload_n (pc := 14) Γ nd_Cu_hasWithin_14 3 rfl ?_
      obtain ⟨q2, h⟩ := rl_if h
      refine rl_ild (pc := 15) Γ nd_Cu_hasWithin_15 hO (rl_aC1 ha0) (rl_ib_in q2) ?_
      refine rl_iload_n (pc := 16) Γ nd_Cu_hasWithin_16 1 rfl ?_
      refine rl_icmp_gt (tgt := 32) (pc := 17) Γ nd_Cu_hasWithin_17 (by decide) (fun q3 => ?_) (fun q3 => ?_)
      · have h := rl_ift q3 h
        refine rl_iinc (v := x3 + 1) (L' := [(3, .int (x3 + 1)), (0, .ref (E.1 a0)), (1, .int x1), (2, .int x2)]) (pc := 32) Γ nd_Cu_hasWithin_32 3 rfl rfl (by decide) rfl ?_
        refine rl_goto (tgt := 2) (pc := 35) Γ nd_Cu_hasWithin_35 (by decide) ?_
        exact rl_Gsub [1, 2, 3, 0] rfl (ih (x3 + 1) σ h)
      · have h := rl_iff q3 h
        refine rl_aload_n (pc := 20) Γ nd_Cu_hasWithin_20 0 rfl ?_
        refine rl_get (pc := 21) Γ nd_Cu_hasWithin_21 hO (k := 2) (rl_oC ha0) rfl (by decide) rfl ⟨ni_Cu, nf_Cu_19⟩ ?_
        refine rl_iload_n (pc := 24) Γ nd_Cu_hasWithin_24 3 rfl ?_
        obtain ⟨q4, h⟩ := rl_if h
        refine rl_ild (pc := 25) Γ nd_Cu_hasWithin_25 hO (rl_aC2 ha0) (rl_ib_in q4) ?_
        refine rl_iload_n (pc := 26) Γ nd_Cu_hasWithin_26 2 rfl ?_
        refine rl_icmp_gt (tgt := 32) (pc := 27) Γ nd_Cu_hasWithin_27 (by decide) (fun q5 => ?_) (fun q5 => ?_)
        · have h := rl_ift q5 h
          refine rl_iinc (v := x3 + 1) (L' := [(3, .int (x3 + 1)), (0, .ref (E.1 a0)), (1, .int x1), (2, .int x2)]) (pc := 32) Γ nd_Cu_hasWithin_32 3 rfl rfl (by decide) rfl ?_
          refine rl_goto (tgt := 2) (pc := 35) Γ nd_Cu_hasWithin_35 (by decide) ?_
          exact rl_Gsub [1, 2, 3, 0] rfl (ih (x3 + 1) σ h)
        · have h := rl_iff q5 h
          refine rl_iconst (v := 1) (pc := 30) Γ nd_Cu_hasWithin_30 (by decide) ?_
          exact rl_zret (pc := 31) Γ nd_Cu_hasWithin_31 hr hk (by decide) h
set_option maxHeartbeats 4000000 in
set_option maxRecDepth 100000 in
theorem rw_Cu_hasWithin (l : Launch) (E : rl_E) (a0 : Nat) (x1 : Int32) (x2 : Int32) (ha0 : rl_cvb a0 = true) (σ : rl_M) (r : Int32 × rl_M) (h : rf_Cu_hasWithin a0 x1 x2 σ = some r) : Met l ny_Cu_hasWithin nw_Cu_hasWithin nr_Cu_hasWithin (rl_P E [.ref (E.1 a0), .int x1, .int x2] σ) (rl_Q E (rl_ri r.1) r.2) 0 0 (rl_A E) := by
  refine Met.ofW (cc := nc_Cu_hasWithin) (maxL := 4) (ret := (some .boolean)) (by decide) rfl ?_
  intro p e s m args below meth c s₁ B hml hv
  obtain ⟨rfl, hP, hO⟩ := hv
  have Γ : CallFix p m c nc_Cu_hasWithin 4 s ([.ref (E.1 a0), .int x1, .int x2] : List Value).toArray rl_TT nR_Cu := ⟨B.exec, B.bytes, hml, findClass_of_methodNamed B.named, fun w hw => atoms_spec (ws := nw_Cu_hasWithin) B.pre w (List.mem_cons_of_mem _ hw)⟩
  have hr := B.returns
  have hk := B.notSynchronized
  refine rl_start (R := nr_Cu_hasWithin) (Q := rl_QM below _ s E rl_ri r) (nL := 4) (av := [.ref (E.1 a0), .int x1, .int x2]) (σ := σ) hP (Nat.le_of_ble_eq_true rfl) ?_
  unfold rf_Cu_hasWithin at h
  refine rl_iconst (v := 0) (pc := 0) Γ nd_Cu_hasWithin_0 (by decide) ?_
  refine rl_istore_n (L' := [(3, .int 0), (0, .ref (E.1 a0)), (1, .int x1), (2, .int x2)]) (pc := 1) Γ nd_Cu_hasWithin_1 (by decide) rfl ?_
  refine rl_Gsub [1, 2, 3, 0] rfl (rw_Cu_hasWithin_L2 Γ hO hr hk a0 x1 x2 ha0   10000 0 σ h)
def rf_Cu_dropAround_J41 (a0 : Nat) (x1 : Int32) (x2 : Int32) (x3 : Int32) (x4 : Int32) (RC : Int32 → rl_M → Option (Int32 × rl_M))  (σ : rl_M) : Option (Int32 × rl_M) := (if rl_ib x4 24 = true then (if rl_ib x4 24 = true then ((rf_Cu_append a0 (σ (a0 + 1) x4.toNatClampNeg) (σ (a0 + 2) x4.toNatClampNeg) σ).bind (fun q6 => RC (x4 + 1) q6.2)) else none) else none)
def rf_Cu_dropAround_L13 (a0 : Nat) (x1 : Int32) (x2 : Int32) (x3 : Int32)  : Nat → Int32 → rl_M → Option (Int32 × rl_M)
  | 0, _, _ => none
  | n + 1, x4, σ => (if x3 ≤ x4 then some (0, σ) else (if rl_ib x4 24 = true then (if (σ (a0 + 1) x4.toNatClampNeg) < x1 then rf_Cu_dropAround_J41 a0 x1 x2 x3 x4 (rf_Cu_dropAround_L13 a0 x1 x2 x3  n)  σ else (if rl_ib x4 24 = true then (if x2 ≤ (σ (a0 + 2) x4.toNatClampNeg) then rf_Cu_dropAround_L13 a0 x1 x2 x3  n (x4 + 1) σ else rf_Cu_dropAround_J41 a0 x1 x2 x3 x4 (rf_Cu_dropAround_L13 a0 x1 x2 x3  n)  σ) else none)) else none))
def rf_Cu_dropAround (a0 : Nat) (x1 : Int32) (x2 : Int32) (σ : rl_M) : Option (Int32 × rl_M) := rf_Cu_dropAround_L13 a0 x1 x2 (σ a0 0)  10000 0 (rl_su σ a0 0 0)
set_option maxHeartbeats 4000000 in
set_option maxRecDepth 100000 in
theorem rw_Cu_dropAround_J41 {p : Program} {l : Launch} {e : Env} {s : State} {m : MethodId} {args : Array Value} {below : List Frame} {meth : Method} {c : Code} {E : rl_E} (Γ : CallFix p m c nc_Cu_dropAround 5 s args rl_TT nR_Cu) (hO : rl_Ok E s) (hr : meth.sig.returnType = none) (hk : meth.locks = false)  (a0 : Nat) (x1 : Int32) (x2 : Int32) (x3 : Int32) (x4 : Int32) (ha0 : rl_cvb a0 = true) (RC : Int32 → rl_M → Option (Int32 × rl_M))  {r : Int32 × rl_M} (hRC : ∀ (x4 : Int32) (σ : rl_M), RC x4 σ = some r → rl_G p l e nr_Cu_dropAround s m args below meth c 5 E 0 0 (rl_QM below args s E rl_rv r) σ 13 [(0, .ref (E.1 a0)), (1, .int x1), (2, .int x2), (3, .int x3), (4, .int x4)] [])  (σ : rl_M) (h : rf_Cu_dropAround_J41 a0 x1 x2 x3 x4 RC  σ = some r) : rl_G p l e nr_Cu_dropAround s m args below meth c 5 E 0 0 (rl_QM below args s E rl_rv r) σ 41 [(0, .ref (E.1 a0)), (1, .int x1), (2, .int x2), (3, .int x3), (4, .int x4)] [] := by
  unfold rf_Cu_dropAround_J41 at h
  refine rl_aload_n (pc := 41) Γ nd_Cu_dropAround_41 0 rfl ?_
  refine rl_aload_n (pc := 42) Γ nd_Cu_dropAround_42 0 rfl ?_
  refine rl_get (pc := 43) Γ nd_Cu_dropAround_43 hO (k := 1) (rl_oC ha0) rfl (by decide) rfl ⟨ni_Cu, nf_Cu_15⟩ ?_
  refine rl_iload (pc := 46) Γ nd_Cu_dropAround_46 4 rfl ?_
  obtain ⟨q4, h⟩ := rl_if h
  refine rl_ild (pc := 48) Γ nd_Cu_dropAround_48 hO (rl_aC1 ha0) (rl_ib_in q4) ?_
  refine rl_aload_n (pc := 49) Γ nd_Cu_dropAround_49 0 rfl ?_
  refine rl_get (pc := 50) Γ nd_Cu_dropAround_50 hO (k := 2) (rl_oC ha0) rfl (by decide) rfl ⟨ni_Cu, nf_Cu_19⟩ ?_
  refine rl_iload (pc := 53) Γ nd_Cu_dropAround_53 4 rfl ?_
  obtain ⟨q5, h⟩ := rl_if h
  refine rl_ild (pc := 55) Γ nd_Cu_dropAround_55 hO (rl_aC2 ha0) (rl_ib_in q5) ?_
  obtain ⟨q6, q6h, h⟩ := rl_bd h
  refine rl_callVv (As := [.int (σ (a0 + 1) x4.toNatClampNeg), .int (σ (a0 + 2) x4.toNatClampNeg)]) (pc := 56) Γ nd_Cu_dropAround_56 hO (rw_Cu_append l E a0 (σ (a0 + 1) x4.toNatClampNeg) (σ (a0 + 2) x4.toNatClampNeg) ha0 σ q6 q6h) 2 nm_Cu_30 nm_im_Cu_append nm_se_Cu_append nm_ini_Cu nh_Cu_append (rl_oC ha0) rfl ⟨rfl, rfl⟩ (by decide +kernel) (Nat.le_of_ble_eq_true rfl) (Nat.le_of_ble_eq_true rfl) ⟨Nat.zero_le _, Nat.zero_le _⟩ (Nat.le_of_ble_eq_true rfl) rfl rfl ?_
  refine rl_iinc (v := x4 + 1) (L' := [(4, .int (x4 + 1)), (0, .ref (E.1 a0)), (1, .int x1), (2, .int x2), (3, .int x3)]) (pc := 59) Γ nd_Cu_dropAround_59 4 rfl rfl (by decide) rfl ?_
  refine rl_goto (tgt := 13) (pc := 62) Γ nd_Cu_dropAround_62 (by decide) ?_
  exact rl_Gsub [1, 2, 3, 4, 0] rfl (hRC (x4 + 1) q6.2 h)
set_option maxHeartbeats 4000000 in
set_option maxRecDepth 100000 in
theorem rw_Cu_dropAround_L13 {p : Program} {l : Launch} {e : Env} {s : State} {m : MethodId} {args : Array Value} {below : List Frame} {meth : Method} {c : Code} {E : rl_E} (Γ : CallFix p m c nc_Cu_dropAround 5 s args rl_TT nR_Cu) (hO : rl_Ok E s) (hr : meth.sig.returnType = none) (hk : meth.locks = false) (a0 : Nat) (x1 : Int32) (x2 : Int32) (x3 : Int32) (ha0 : rl_cvb a0 = true)  {r : Int32 × rl_M}  : ∀ (n : Nat) (x4 : Int32) (σ : rl_M), rf_Cu_dropAround_L13 a0 x1 x2 x3  n x4 σ = some r → rl_G p l e nr_Cu_dropAround s m args below meth c 5 E 0 0 (rl_QM below args s E rl_rv r) σ 13 [(0, .ref (E.1 a0)), (1, .int x1), (2, .int x2), (3, .int x3), (4, .int x4)] [] := by
  intro n
  induction n with
  | zero =>
    intro x4 σ h
    exact (rl_ns (show none = some r from h)).elim
  | succ n ih =>
    intro x4 σ h
    unfold rf_Cu_dropAround_L13 at h
    refine rl_iload (pc := 13) Γ nd_Cu_dropAround_13 4 rfl ?_
    refine rl_iload_n (pc := 15) Γ nd_Cu_dropAround_15 3 rfl ?_
    refine rl_icmp_ge (tgt := 65) (pc := 16) Γ nd_Cu_dropAround_16 (by decide) (fun q1 => ?_) (fun q1 => ?_)
    · have h := rl_ift q1 h
      exact rl_vret (pc := 65) Γ nd_Cu_dropAround_65 hr hk h
    · have h := rl_iff q1 h
      refine rl_aload_n (pc := 19) Γ nd_Cu_dropAround_19 0 rfl ?_
      refine rl_get (pc := 20) Γ nd_Cu_dropAround_20 hO (k := 1) (rl_oC ha0) rfl (by decide) rfl ⟨ni_Cu, nf_Cu_15⟩ ?_
      refine rl_iload (pc := 23) Γ nd_Cu_dropAround_23 4 rfl ?_
      obtain ⟨q2, h⟩ := rl_if h
      refine rl_ild (pc := 25) Γ nd_Cu_dropAround_25 hO (rl_aC1 ha0) (rl_ib_in q2) ?_
      refine rl_iload_n (pc := 26) Γ nd_Cu_dropAround_26 1 rfl ?_
      refine rl_icmp_lt (tgt := 41) (pc := 27) Γ nd_Cu_dropAround_27 (by decide) (fun q3 => ?_) (fun q3 => ?_)
      · have h := rl_ift q3 h
        exact rl_Gsub [0, 1, 2, 3, 4] rfl (rw_Cu_dropAround_J41 Γ hO hr hk a0 x1 x2 x3 x4 ha0 _  ih  σ h)
      · have h := rl_iff q3 h
        refine rl_aload_n (pc := 30) Γ nd_Cu_dropAround_30 0 rfl ?_
        refine rl_get (pc := 31) Γ nd_Cu_dropAround_31 hO (k := 2) (rl_oC ha0) rfl (by decide) rfl ⟨ni_Cu, nf_Cu_19⟩ ?_
        refine rl_iload (pc := 34) Γ nd_Cu_dropAround_34 4 rfl ?_
        obtain ⟨q7, h⟩ := rl_if h
        refine rl_ild (pc := 36) Γ nd_Cu_dropAround_36 hO (rl_aC2 ha0) (rl_ib_in q7) ?_
        refine rl_iload_n (pc := 37) Γ nd_Cu_dropAround_37 2 rfl ?_
        refine rl_icmp_ge (tgt := 59) (pc := 38) Γ nd_Cu_dropAround_38 (by decide) (fun q8 => ?_) (fun q8 => ?_)
        · have h := rl_ift q8 h
          refine rl_iinc (v := x4 + 1) (L' := [(4, .int (x4 + 1)), (0, .ref (E.1 a0)), (1, .int x1), (2, .int x2), (3, .int x3)]) (pc := 59) Γ nd_Cu_dropAround_59 4 rfl rfl (by decide) rfl ?_
          refine rl_goto (tgt := 13) (pc := 62) Γ nd_Cu_dropAround_62 (by decide) ?_
          exact rl_Gsub [1, 2, 3, 4, 0] rfl (ih (x4 + 1) σ h)
        · have h := rl_iff q8 h
          exact rl_Gsub [0, 1, 2, 3, 4] rfl (rw_Cu_dropAround_J41 Γ hO hr hk a0 x1 x2 x3 x4 ha0 _  ih  σ h)
set_option maxHeartbeats 4000000 in
set_option maxRecDepth 100000 in
theorem rw_Cu_dropAround (l : Launch) (E : rl_E) (a0 : Nat) (x1 : Int32) (x2 : Int32) (ha0 : rl_cvb a0 = true) (σ : rl_M) (r : Int32 × rl_M) (h : rf_Cu_dropAround a0 x1 x2 σ = some r) : Met l ny_Cu_dropAround nw_Cu_dropAround nr_Cu_dropAround (rl_P E [.ref (E.1 a0), .int x1, .int x2] σ) (rl_Q E (rl_rv r.1) r.2) 0 0 (rl_A E) := by
  refine Met.ofW (cc := nc_Cu_dropAround) (maxL := 5) (ret := none) (by decide) rfl ?_
  intro p e s m args below meth c s₁ B hml hv
  obtain ⟨rfl, hP, hO⟩ := hv
  have Γ : CallFix p m c nc_Cu_dropAround 5 s ([.ref (E.1 a0), .int x1, .int x2] : List Value).toArray rl_TT nR_Cu := ⟨B.exec, B.bytes, hml, findClass_of_methodNamed B.named, fun w hw => atoms_spec (ws := nw_Cu_dropAround) B.pre w (List.mem_cons_of_mem _ hw)⟩
  have hr := B.returns
  have hk := B.notSynchronized
  refine rl_start (R := nr_Cu_dropAround) (Q := rl_QM below _ s E rl_rv r) (nL := 5) (av := [.ref (E.1 a0), .int x1, .int x2]) (σ := σ) hP (Nat.le_of_ble_eq_true rfl) ?_
  unfold rf_Cu_dropAround at h
  refine rl_aload_n (pc := 0) Γ nd_Cu_dropAround_0 0 rfl ?_
  refine rl_get (pc := 1) Γ nd_Cu_dropAround_1 hO (k := 0) (rl_oC ha0) rfl (by decide) rfl ⟨ni_Cu, nf_Cu_9⟩ ?_
  refine rl_istore_n (L' := [(3, .int (σ a0 0)), (0, .ref (E.1 a0)), (1, .int x1), (2, .int x2)]) (pc := 4) Γ nd_Cu_dropAround_4 (by decide) rfl ?_
  refine rl_aload_n (pc := 5) Γ nd_Cu_dropAround_5 1 rfl ?_
  refine rl_iconst (v := 0) (pc := 6) Γ nd_Cu_dropAround_6 (by decide) ?_
  refine rl_put (pc := 7) Γ nd_Cu_dropAround_7 hO (k := 0) (rl_oC ha0) rfl (by decide) (fun _ _ => rfl) ⟨ni_Cu, nf_Cu_9⟩ nt_Cu nto_Cu nn_Cu rfl (fun _ => Nat.le_of_ble_eq_true rfl) rl_ni ?_
  refine rl_iconst (v := 0) (pc := 10) Γ nd_Cu_dropAround_10 (by decide) ?_
  refine rl_istore (L' := [(4, .int 0), (3, .int (σ a0 0)), (0, .ref (E.1 a0)), (1, .int x1), (2, .int x2)]) (pc := 11) Γ nd_Cu_dropAround_11 (by decide) rfl ?_
  refine rl_Gsub [2, 3, 4, 1, 0] rfl (rw_Cu_dropAround_L13 Γ hO hr hk a0 x1 x2 (σ a0 0) ha0   10000 0 (rl_su σ a0 0 0) h)
def rf_Cu_exchangeOutlines (a0 : Nat) (x1 : Int32) (x2 : Int32) (σ : rl_M) : Option (Int32 × rl_M) := (if rl_ib x1 24 = true then (if rl_ib x1 24 = true then (if rl_ib x2 24 = true then (if rl_ib x1 24 = true then (if rl_ib x2 24 = true then (if rl_ib x1 24 = true then (if rl_ib x2 24 = true then (if rl_ib x2 24 = true then some (0, rl_su (rl_su (rl_su (rl_su σ (a0 + 1) x1.toNatClampNeg (σ (a0 + 1) x2.toNatClampNeg)) (a0 + 2) x1.toNatClampNeg ((rl_su σ (a0 + 1) x1.toNatClampNeg (σ (a0 + 1) x2.toNatClampNeg)) (a0 + 2) x2.toNatClampNeg)) (a0 + 1) x2.toNatClampNeg (σ (a0 + 1) x1.toNatClampNeg)) (a0 + 2) x2.toNatClampNeg (σ (a0 + 2) x1.toNatClampNeg)) else none) else none) else none) else none) else none) else none) else none) else none)
set_option maxHeartbeats 4000000 in
set_option maxRecDepth 100000 in
theorem rw_Cu_exchangeOutlines (l : Launch) (E : rl_E) (a0 : Nat) (x1 : Int32) (x2 : Int32) (ha0 : rl_cvb a0 = true) (σ : rl_M) (r : Int32 × rl_M) (h : rf_Cu_exchangeOutlines a0 x1 x2 σ = some r) : Met l ny_Cu_exchangeOutlines nw_Cu_exchangeOutlines nr_Cu_exchangeOutlines (rl_P E [.ref (E.1 a0), .int x1, .int x2] σ) (rl_Q E (rl_rv r.1) r.2) 0 0 (rl_A E) := by
  refine Met.ofW (cc := nc_Cu_exchangeOutlines) (maxL := 5) (ret := none) (by decide) rfl ?_
  intro p e s m args below meth c s₁ B hml hv
  obtain ⟨rfl, hP, hO⟩ := hv
  have Γ : CallFix p m c nc_Cu_exchangeOutlines 5 s ([.ref (E.1 a0), .int x1, .int x2] : List Value).toArray rl_TT nR_Cu := ⟨B.exec, B.bytes, hml, findClass_of_methodNamed B.named, fun w hw => atoms_spec (ws := nw_Cu_exchangeOutlines) B.pre w (List.mem_cons_of_mem _ hw)⟩
  have hr := B.returns
  have hk := B.notSynchronized
  refine rl_start (R := nr_Cu_exchangeOutlines) (Q := rl_QM below _ s E rl_rv r) (nL := 5) (av := [.ref (E.1 a0), .int x1, .int x2]) (σ := σ) hP (Nat.le_of_ble_eq_true rfl) ?_
  unfold rf_Cu_exchangeOutlines at h
  refine rl_aload_n (pc := 0) Γ nd_Cu_exchangeOutlines_0 0 rfl ?_
  refine rl_get (pc := 1) Γ nd_Cu_exchangeOutlines_1 hO (k := 1) (rl_oC ha0) rfl (by decide) rfl ⟨ni_Cu, nf_Cu_15⟩ ?_
  refine rl_iload_n (pc := 4) Γ nd_Cu_exchangeOutlines_4 1 rfl ?_
  obtain ⟨q1, h⟩ := rl_if h
  refine rl_ild (pc := 5) Γ nd_Cu_exchangeOutlines_5 hO (rl_aC1 ha0) (rl_ib_in q1) ?_
  refine rl_istore_n (L' := [(3, .int (σ (a0 + 1) x1.toNatClampNeg)), (0, .ref (E.1 a0)), (1, .int x1), (2, .int x2)]) (pc := 6) Γ nd_Cu_exchangeOutlines_6 (by decide) rfl ?_
  refine rl_aload_n (pc := 7) Γ nd_Cu_exchangeOutlines_7 1 rfl ?_
  refine rl_get (pc := 8) Γ nd_Cu_exchangeOutlines_8 hO (k := 2) (rl_oC ha0) rfl (by decide) rfl ⟨ni_Cu, nf_Cu_19⟩ ?_
  refine rl_iload_n (pc := 11) Γ nd_Cu_exchangeOutlines_11 2 rfl ?_
  obtain ⟨q2, h⟩ := rl_if h
  refine rl_ild (pc := 12) Γ nd_Cu_exchangeOutlines_12 hO (rl_aC2 ha0) (rl_ib_in q2) ?_
  refine rl_istore (L' := [(4, .int (σ (a0 + 2) x1.toNatClampNeg)), (3, .int (σ (a0 + 1) x1.toNatClampNeg)), (0, .ref (E.1 a0)), (1, .int x1), (2, .int x2)]) (pc := 13) Γ nd_Cu_exchangeOutlines_13 (by decide) rfl ?_
  refine rl_aload_n (pc := 15) Γ nd_Cu_exchangeOutlines_15 2 rfl ?_
  refine rl_get (pc := 16) Γ nd_Cu_exchangeOutlines_16 hO (k := 1) (rl_oC ha0) rfl (by decide) rfl ⟨ni_Cu, nf_Cu_15⟩ ?_
  refine rl_iload_n (pc := 19) Γ nd_Cu_exchangeOutlines_19 3 rfl ?_
  refine rl_aload_n (pc := 20) Γ nd_Cu_exchangeOutlines_20 2 rfl ?_
  refine rl_get (pc := 21) Γ nd_Cu_exchangeOutlines_21 hO (k := 1) (rl_oC ha0) rfl (by decide) rfl ⟨ni_Cu, nf_Cu_15⟩ ?_
  refine rl_iload_n (pc := 24) Γ nd_Cu_exchangeOutlines_24 4 rfl ?_
  obtain ⟨q3, h⟩ := rl_if h
  refine rl_ild (pc := 25) Γ nd_Cu_exchangeOutlines_25 hO (rl_aC1 ha0) (rl_ib_in q3) ?_
  obtain ⟨q4, h⟩ := rl_if h
  refine rl_ist (pc := 26) Γ nd_Cu_exchangeOutlines_26 hO (rl_aC1 ha0) (rl_ib_in q4) ?_
  refine rl_aload_n (pc := 27) Γ nd_Cu_exchangeOutlines_27 2 rfl ?_
  refine rl_get (pc := 28) Γ nd_Cu_exchangeOutlines_28 hO (k := 2) (rl_oC ha0) rfl (by decide) rfl ⟨ni_Cu, nf_Cu_19⟩ ?_
  refine rl_iload_n (pc := 31) Γ nd_Cu_exchangeOutlines_31 3 rfl ?_
  refine rl_aload_n (pc := 32) Γ nd_Cu_exchangeOutlines_32 2 rfl ?_
  refine rl_get (pc := 33) Γ nd_Cu_exchangeOutlines_33 hO (k := 2) (rl_oC ha0) rfl (by decide) rfl ⟨ni_Cu, nf_Cu_19⟩ ?_
  refine rl_iload_n (pc := 36) Γ nd_Cu_exchangeOutlines_36 4 rfl ?_
  obtain ⟨q5, h⟩ := rl_if h
  refine rl_ild (pc := 37) Γ nd_Cu_exchangeOutlines_37 hO (rl_aC2 ha0) (rl_ib_in q5) ?_
  obtain ⟨q6, h⟩ := rl_if h
  refine rl_ist (pc := 38) Γ nd_Cu_exchangeOutlines_38 hO (rl_aC2 ha0) (rl_ib_in q6) ?_
  refine rl_aload_n (pc := 39) Γ nd_Cu_exchangeOutlines_39 2 rfl ?_
  refine rl_get (pc := 40) Γ nd_Cu_exchangeOutlines_40 hO (k := 1) (rl_oC ha0) rfl (by decide) rfl ⟨ni_Cu, nf_Cu_15⟩ ?_
  refine rl_iload_n (pc := 43) Γ nd_Cu_exchangeOutlines_43 4 rfl ?_
  refine rl_iload_n (pc := 44) Γ nd_Cu_exchangeOutlines_44 1 rfl ?_
  obtain ⟨q7, h⟩ := rl_if h
  refine rl_ist (pc := 45) Γ nd_Cu_exchangeOutlines_45 hO (rl_aC1 ha0) (rl_ib_in q7) ?_
  refine rl_aload_n (pc := 46) Γ nd_Cu_exchangeOutlines_46 2 rfl ?_
  refine rl_get (pc := 47) Γ nd_Cu_exchangeOutlines_47 hO (k := 2) (rl_oC ha0) rfl (by decide) rfl ⟨ni_Cu, nf_Cu_19⟩ ?_
  refine rl_iload_n (pc := 50) Γ nd_Cu_exchangeOutlines_50 4 rfl ?_
  refine rl_iload (pc := 51) Γ nd_Cu_exchangeOutlines_51 0 rfl ?_
  obtain ⟨q8, h⟩ := rl_if h
  refine rl_ist (pc := 53) Γ nd_Cu_exchangeOutlines_53 hO (rl_aC2 ha0) (rl_ib_in q8) ?_
  exact rl_vret (pc := 54) Γ nd_Cu_exchangeOutlines_54 hr hk h
def rf_Cu_offer_L29 (a0 : Nat)  : Nat → Int32 → rl_M → Option (Int32 × rl_M)
  | 0, _, _ => none
  | n + 1, x3, σ => (if x3 ≤ 0 then some (0, σ) else (if rl_ib (x3 - 1) 24 = true then (if rl_ib x3 24 = true then (if (σ (a0 + 1) (x3 - 1).toNatClampNeg) ≤ (σ (a0 + 1) x3.toNatClampNeg) then some (0, σ) else ((rf_Cu_exchangeOutlines a0 (x3 - 1) x3 σ).bind (fun q9 => rf_Cu_offer_L29 a0  n (x3 + (-1)) q9.2))) else none) else none))
def rf_Cu_offer (a0 : Nat) (x1 : Int32) (x2 : Int32) (σ : rl_M) : Option (Int32 × rl_M) := ((rf_Cu_hasWithin a0 x1 x2 σ).bind (fun q1 => (if q1.1 = 0 then ((rf_Cu_dropAround a0 x1 x2 q1.2).bind (fun q3 => ((rf_Cu_append a0 x1 x2 q3.2).bind (fun q4 => rf_Cu_offer_L29 a0  10000 ((q4.2 a0 0) - 1) q4.2)))) else some (0, q1.2))))
set_option maxHeartbeats 4000000 in
set_option maxRecDepth 100000 in
theorem rw_Cu_offer_L29 {p : Program} {l : Launch} {e : Env} {s : State} {m : MethodId} {args : Array Value} {below : List Frame} {meth : Method} {c : Code} {E : rl_E} (Γ : CallFix p m c nc_Cu_offer 4 s args rl_TT nR_Cu) (hO : rl_Ok E s) (hr : meth.sig.returnType = none) (hk : meth.locks = false) (a0 : Nat) (ha0 : rl_cvb a0 = true)  {r : Int32 × rl_M}  : ∀ (n : Nat) (x3 : Int32) (σ : rl_M), rf_Cu_offer_L29 a0  n x3 σ = some r → rl_G p l e nr_Cu_offer s m args below meth c 4 E 0 0 (rl_QM below args s E rl_rv r) σ 29 [(0, .ref (E.1 a0)), (3, .int x3)] [] := by
  intro n
  induction n with
  | zero =>
    intro x3 σ h
    exact (rl_ns (show none = some r from h)).elim
  | succ n ih =>
    intro x3 σ h
    unfold rf_Cu_offer_L29 at h
    refine rl_iload_n (pc := 29) Γ nd_Cu_offer_29 1 rfl ?_
    refine rl_if_le (tgt := 64) (pc := 30) Γ nd_Cu_offer_30 (by decide) (fun q5 => ?_) (fun q5 => ?_)
    · have h := rl_ift q5 h
      exact rl_vret (pc := 64) Γ nd_Cu_offer_64 hr hk h
    · have h := rl_iff q5 h
      refine rl_aload_n (pc := 33) Γ nd_Cu_offer_33 0 rfl ?_
      refine rl_get (pc := 34) Γ nd_Cu_offer_34 hO (k := 1) (rl_oC ha0) rfl (by decide) rfl ⟨ni_Cu, nf_Cu_15⟩ ?_
      refine rl_iload_n (pc := 37) Γ nd_Cu_offer_37 1 rfl ?_
      refine rl_iconst (v := 1) (pc := 38) Γ nd_Cu_offer_38 (by decide) ?_
      refine rl_isub (pc := 39) Γ nd_Cu_offer_39 ?_
      obtain ⟨q6, h⟩ := rl_if h
      refine rl_ild (pc := 40) Γ nd_Cu_offer_40 hO (rl_aC1 ha0) (rl_ib_in q6) ?_
      refine rl_aload_n (pc := 41) Γ nd_Cu_offer_41 0 rfl ?_
      refine rl_get (pc := 42) Γ nd_Cu_offer_42 hO (k := 1) (rl_oC ha0) rfl (by decide) rfl ⟨ni_Cu, nf_Cu_15⟩ ?_
      refine rl_iload_n (pc := 45) Γ nd_Cu_offer_45 1 rfl ?_
      obtain ⟨q7, h⟩ := rl_if h
      refine rl_ild (pc := 46) Γ nd_Cu_offer_46 hO (rl_aC1 ha0) (rl_ib_in q7) ?_
      refine rl_icmp_le (tgt := 64) (pc := 47) Γ nd_Cu_offer_47 (by decide) (fun q8 => ?_) (fun q8 => ?_)
      · have h := rl_ift q8 h
        exact rl_vret (pc := 64) Γ nd_Cu_offer_64 hr hk h
      · have h := rl_iff q8 h
        refine rl_aload_n (pc := 50) Γ nd_Cu_offer_50 0 rfl ?_
        refine rl_iload_n (pc := 51) Γ nd_Cu_offer_51 1 rfl ?_
        refine rl_iconst (v := 1) (pc := 52) Γ nd_Cu_offer_52 (by decide) ?_
        refine rl_isub (pc := 53) Γ nd_Cu_offer_53 ?_
        refine rl_iload_n (pc := 54) Γ nd_Cu_offer_54 1 rfl ?_
        obtain ⟨q9, q9h, h⟩ := rl_bd h
        refine rl_callVv (As := [.int (x3 - 1), .int x3]) (pc := 55) Γ nd_Cu_offer_55 hO (rw_Cu_exchangeOutlines l E a0 (x3 - 1) x3 ha0 σ q9 q9h) 2 nm_Cu_33 nm_im_Cu_exchangeOutlines nm_se_Cu_exchangeOutlines nm_ini_Cu nh_Cu_exchangeOutlines (rl_oC ha0) rfl ⟨rfl, rfl⟩ (by decide +kernel) (Nat.le_of_ble_eq_true rfl) (Nat.le_of_ble_eq_true rfl) ⟨Nat.zero_le _, Nat.zero_le _⟩ (Nat.le_of_ble_eq_true rfl) rfl rfl ?_
        refine rl_iinc (v := x3 + (-1)) (L' := [(3, .int (x3 + (-1))), (0, .ref (E.1 a0))]) (pc := 58) Γ nd_Cu_offer_58 1 rfl rfl (by decide) rfl ?_
        refine rl_goto (tgt := 29) (pc := 61) Γ nd_Cu_offer_61 (by decide) ?_
        exact rl_Gsub [1, 0] rfl (ih (x3 + (-1)) q9.2 h)
set_option maxHeartbeats 4000000 in
set_option maxRecDepth 100000 in
theorem rw_Cu_offer (l : Launch) (E : rl_E) (a0 : Nat) (x1 : Int32) (x2 : Int32) (ha0 : rl_cvb a0 = true) (σ : rl_M) (r : Int32 × rl_M) (h : rf_Cu_offer a0 x1 x2 σ = some r) : Met l ny_Cu_offer nw_Cu_offer nr_Cu_offer (rl_P E [.ref (E.1 a0), .int x1, .int x2] σ) (rl_Q E (rl_rv r.1) r.2) 0 0 (rl_A E) := by
  refine Met.ofW (cc := nc_Cu_offer) (maxL := 4) (ret := none) (by decide) rfl ?_
  intro p e s m args below meth c s₁ B hml hv
  obtain ⟨rfl, hP, hO⟩ := hv
  have Γ : CallFix p m c nc_Cu_offer 4 s ([.ref (E.1 a0), .int x1, .int x2] : List Value).toArray rl_TT nR_Cu := ⟨B.exec, B.bytes, hml, findClass_of_methodNamed B.named, fun w hw => atoms_spec (ws := nw_Cu_offer) B.pre w (List.mem_cons_of_mem _ hw)⟩
  have hr := B.returns
  have hk := B.notSynchronized
  refine rl_start (R := nr_Cu_offer) (Q := rl_QM below _ s E rl_rv r) (nL := 4) (av := [.ref (E.1 a0), .int x1, .int x2]) (σ := σ) hP (Nat.le_of_ble_eq_true rfl) ?_
  unfold rf_Cu_offer at h
  refine rl_aload_n (pc := 0) Γ nd_Cu_offer_0 0 rfl ?_
  refine rl_iload_n (pc := 1) Γ nd_Cu_offer_1 1 rfl ?_
  refine rl_iload_n (pc := 2) Γ nd_Cu_offer_2 2 rfl ?_
  obtain ⟨q1, q1h, h⟩ := rl_bd h
  refine rl_callVi (As := [.int x1, .int x2]) (pc := 3) Γ nd_Cu_offer_3 hO (rw_Cu_hasWithin l E a0 x1 x2 ha0 σ q1 q1h) 2 nm_Cu_22 nm_im_Cu_hasWithin nm_se_Cu_hasWithin nm_ini_Cu nh_Cu_hasWithin (rl_oC ha0) rfl ⟨rfl, rfl⟩ (by decide +kernel) (Nat.le_of_ble_eq_true rfl) (Nat.le_of_ble_eq_true rfl) ⟨Nat.zero_le _, Nat.zero_le _⟩ (Nat.le_of_ble_eq_true rfl) rfl rfl ?_
  refine rl_if_eq (tgt := 10) (pc := 6) Γ nd_Cu_offer_6 (by decide) (fun q2 => ?_) (fun q2 => ?_)
  · have h := rl_ift q2 h
    refine rl_aload_n (pc := 10) Γ nd_Cu_offer_10 0 rfl ?_
    refine rl_iload_n (pc := 11) Γ nd_Cu_offer_11 1 rfl ?_
    refine rl_iload_n (pc := 12) Γ nd_Cu_offer_12 2 rfl ?_
    obtain ⟨q3, q3h, h⟩ := rl_bd h
    refine rl_callVv (As := [.int x1, .int x2]) (pc := 13) Γ nd_Cu_offer_13 hO (rw_Cu_dropAround l E a0 x1 x2 ha0 q1.2 q3 q3h) 2 nm_Cu_26 nm_im_Cu_dropAround nm_se_Cu_dropAround nm_ini_Cu nh_Cu_dropAround (rl_oC ha0) rfl ⟨rfl, rfl⟩ (by decide +kernel) (Nat.le_of_ble_eq_true rfl) (Nat.le_of_ble_eq_true rfl) ⟨Nat.zero_le _, Nat.zero_le _⟩ (Nat.le_of_ble_eq_true rfl) rfl rfl ?_
    refine rl_aload_n (pc := 16) Γ nd_Cu_offer_16 0 rfl ?_
    refine rl_iload_n (pc := 17) Γ nd_Cu_offer_17 1 rfl ?_
    refine rl_iload_n (pc := 18) Γ nd_Cu_offer_18 2 rfl ?_
    obtain ⟨q4, q4h, h⟩ := rl_bd h
    refine rl_callVv (As := [.int x1, .int x2]) (pc := 19) Γ nd_Cu_offer_19 hO (rw_Cu_append l E a0 x1 x2 ha0 q3.2 q4 q4h) 2 nm_Cu_30 nm_im_Cu_append nm_se_Cu_append nm_ini_Cu nh_Cu_append (rl_oC ha0) rfl ⟨rfl, rfl⟩ (by decide +kernel) (Nat.le_of_ble_eq_true rfl) (Nat.le_of_ble_eq_true rfl) ⟨Nat.zero_le _, Nat.zero_le _⟩ (Nat.le_of_ble_eq_true rfl) rfl rfl ?_
    refine rl_aload_n (pc := 22) Γ nd_Cu_offer_22 0 rfl ?_
    refine rl_get (pc := 23) Γ nd_Cu_offer_23 hO (k := 0) (rl_oC ha0) rfl (by decide) rfl ⟨ni_Cu, nf_Cu_9⟩ ?_
    refine rl_iconst (v := 1) (pc := 26) Γ nd_Cu_offer_26 (by decide) ?_
    refine rl_isub (pc := 27) Γ nd_Cu_offer_27 ?_
    refine rl_istore_n (L' := [(3, .int ((q4.2 a0 0) - 1)), (0, .ref (E.1 a0)), (1, .int x1), (2, .int x2)]) (pc := 28) Γ nd_Cu_offer_28 (by decide) rfl ?_
    refine rl_Gsub [1, 0] rfl (rw_Cu_offer_L29 Γ hO hr hk a0 ha0   10000 ((q4.2 a0 0) - 1) q4.2 h)
  · have h := rl_iff q2 h
    exact rl_vret (pc := 9) Γ nd_Cu_offer_9 hr hk h
def rf_Cu_joinBeside_L9 (a0 : Nat) (a1 : Nat) (a2 : Nat)  : Nat → Int32 → Int32 → rl_M → Option (Int32 × rl_M)
  | 0, _, _, _ => none
  | n + 1, x3, x4, σ => (if (σ a1 0) ≤ x3 then some (0, σ) else (if (σ a2 0) ≤ x4 then some (0, σ) else (if rl_ib x3 24 = true then (if rl_ib x4 24 = true then (if rl_ib x3 24 = true then (if rl_ib x4 24 = true then ((rf_Cu_append a0 ((σ (a1 + 1) x3.toNatClampNeg) + (σ (a2 + 1) x4.toNatClampNeg)) (if (σ (a1 + 2) x3.toNatClampNeg) < (σ (a2 + 2) x4.toNatClampNeg) then (σ (a2 + 2) x4.toNatClampNeg) else (σ (a1 + 2) x3.toNatClampNeg)) σ).bind (fun q8 => (if (σ (a1 + 2) x3.toNatClampNeg) < (σ (a2 + 2) x4.toNatClampNeg) then (if (σ (a2 + 2) x4.toNatClampNeg) < (σ (a1 + 2) x3.toNatClampNeg) then rf_Cu_joinBeside_L9 a0 a1 a2  n x3 x4 q8.2 else rf_Cu_joinBeside_L9 a0 a1 a2  n x3 (x4 + 1) q8.2) else (if (σ (a2 + 2) x4.toNatClampNeg) < (σ (a1 + 2) x3.toNatClampNeg) then rf_Cu_joinBeside_L9 a0 a1 a2  n (x3 + 1) x4 q8.2 else rf_Cu_joinBeside_L9 a0 a1 a2  n (x3 + 1) (x4 + 1) q8.2)))) else none) else none) else none) else none)))
def rf_Cu_joinBeside (a0 : Nat) (a1 : Nat) (a2 : Nat) (σ : rl_M) : Option (Int32 × rl_M) := ((rf_Cu_clear a0 σ).bind (fun q1 => rf_Cu_joinBeside_L9 a0 a1 a2  10000 0 0 q1.2))
set_option maxHeartbeats 4000000 in
set_option maxRecDepth 100000 in
theorem rw_Cu_joinBeside_L9 {p : Program} {l : Launch} {e : Env} {s : State} {m : MethodId} {args : Array Value} {below : List Frame} {meth : Method} {c : Code} {E : rl_E} (Γ : CallFix p m c nc_Cu_joinBeside 7 s args rl_TT nR_Cu) (hO : rl_Ok E s) (hr : meth.sig.returnType = none) (hk : meth.locks = false) (a0 : Nat) (a1 : Nat) (a2 : Nat) (ha0 : rl_cvb a0 = true) (ha1 : rl_cvb a1 = true) (ha2 : rl_cvb a2 = true)  {r : Int32 × rl_M}  : ∀ (n : Nat) (x3 : Int32) (x4 : Int32) (σ : rl_M), rf_Cu_joinBeside_L9 a0 a1 a2  n x3 x4 σ = some r → rl_G p l e nr_Cu_joinBeside s m args below meth c 7 E 0 0 (rl_QM below args s E rl_rv r) σ 9 [(0, .ref (E.1 a0)), (1, .ref (E.1 a1)), (2, .ref (E.1 a2)), (3, .int x3), (4, .int x4)] [] := by
  intro n
  induction n with
  | zero =>
    intro x3 x4 σ h
    exact (rl_ns (show none = some r from h)).elim
  | succ n ih =>
    intro x3 x4 σ h
    unfold rf_Cu_joinBeside_L9 at h
    refine rl_iload_n (pc := 9) Γ nd_Cu_joinBeside_9 3 rfl ?_
    refine rl_aload_n (pc := 10) Γ nd_Cu_joinBeside_10 1 rfl ?_
    refine rl_get (pc := 11) Γ nd_Cu_joinBeside_11 hO (k := 0) (rl_oC ha1) rfl (by decide) rfl ⟨ni_Cu, nf_Cu_9⟩ ?_
    refine rl_icmp_ge (tgt := 91) (pc := 14) Γ nd_Cu_joinBeside_14 (by decide) (fun q2 => ?_) (fun q2 => ?_)
    · have h := rl_ift q2 h
      exact rl_vret (pc := 91) Γ nd_Cu_joinBeside_91 hr hk h
    · have h := rl_iff q2 h
      refine rl_iload (pc := 17) Γ nd_Cu_joinBeside_17 4 rfl ?_
      refine rl_aload_n (pc := 19) Γ nd_Cu_joinBeside_19 2 rfl ?_
      refine rl_get (pc := 20) Γ nd_Cu_joinBeside_20 hO (k := 0) (rl_oC ha2) rfl (by decide) rfl ⟨ni_Cu, nf_Cu_9⟩ ?_
      refine rl_icmp_ge (tgt := 91) (pc := 23) Γ nd_Cu_joinBeside_23 (by decide) (fun q3 => ?_) (fun q3 => ?_)
      · have h := rl_ift q3 h
        exact rl_vret (pc := 91) Γ nd_Cu_joinBeside_91 hr hk h
      · have h := rl_iff q3 h
        refine rl_aload_n (pc := 26) Γ nd_Cu_joinBeside_26 1 rfl ?_
        refine rl_get (pc := 27) Γ nd_Cu_joinBeside_27 hO (k := 2) (rl_oC ha1) rfl (by decide) rfl ⟨ni_Cu, nf_Cu_19⟩ ?_
        refine rl_iload_n (pc := 30) Γ nd_Cu_joinBeside_30 3 rfl ?_
        obtain ⟨q4, h⟩ := rl_if h
        refine rl_ild (pc := 31) Γ nd_Cu_joinBeside_31 hO (rl_aC2 ha1) (rl_ib_in q4) ?_
        refine rl_istore (L' := [(5, .int (σ (a1 + 2) x3.toNatClampNeg)), (0, .ref (E.1 a0)), (1, .ref (E.1 a1)), (2, .ref (E.1 a2)), (3, .int x3), (4, .int x4)]) (pc := 32) Γ nd_Cu_joinBeside_32 (by decide) rfl ?_
        refine rl_aload_n (pc := 34) Γ nd_Cu_joinBeside_34 3 rfl ?_
        refine rl_get (pc := 35) Γ nd_Cu_joinBeside_35 hO (k := 2) (rl_oC ha2) rfl (by decide) rfl ⟨ni_Cu, nf_Cu_19⟩ ?_
        refine rl_iload (pc := 38) Γ nd_Cu_joinBeside_38 5 rfl ?_
        obtain ⟨q5, h⟩ := rl_if h
        refine rl_ild (pc := 40) Γ nd_Cu_joinBeside_40 hO (rl_aC2 ha2) (rl_ib_in q5) ?_
        refine rl_istore (L' := [(6, .int (σ (a2 + 2) x4.toNatClampNeg)), (5, .int (σ (a1 + 2) x3.toNatClampNeg)), (0, .ref (E.1 a0)), (1, .ref (E.1 a1)), (2, .ref (E.1 a2)), (3, .int x3), (4, .int x4)]) (pc := 41) Γ nd_Cu_joinBeside_41 (by decide) rfl ?_
        refine rl_aload_n (pc := 43) Γ nd_Cu_joinBeside_43 2 rfl ?_
        refine rl_aload_n (pc := 44) Γ nd_Cu_joinBeside_44 3 rfl ?_
        refine rl_get (pc := 45) Γ nd_Cu_joinBeside_45 hO (k := 1) (rl_oC ha1) rfl (by decide) rfl ⟨ni_Cu, nf_Cu_15⟩ ?_
        refine rl_iload_n (pc := 48) Γ nd_Cu_joinBeside_48 5 rfl ?_
        obtain ⟨q6, h⟩ := rl_if h
        refine rl_ild (pc := 49) Γ nd_Cu_joinBeside_49 hO (rl_aC1 ha1) (rl_ib_in q6) ?_
        refine rl_aload_n (pc := 50) Γ nd_Cu_joinBeside_50 4 rfl ?_
        refine rl_get (pc := 51) Γ nd_Cu_joinBeside_51 hO (k := 1) (rl_oC ha2) rfl (by decide) rfl ⟨ni_Cu, nf_Cu_15⟩ ?_
        refine rl_iload (pc := 54) Γ nd_Cu_joinBeside_54 6 rfl ?_
        obtain ⟨q7, h⟩ := rl_if h
        refine rl_ild (pc := 56) Γ nd_Cu_joinBeside_56 hO (rl_aC1 ha2) (rl_ib_in q7) ?_
        refine rl_iadd (pc := 57) Γ nd_Cu_joinBeside_57 ?_
        refine rl_iload (pc := 58) Γ nd_Cu_joinBeside_58 1 rfl ?_
        refine rl_iload (pc := 60) Γ nd_Cu_joinBeside_60 0 rfl ?_
        refine rl_mmax (pc := 62) Γ nd_Cu_joinBeside_62 (Γ.2.2.2.2 _ nm_Cu_39) (Γ.2.2.2.2 _ nm_static_max) (Γ.2.2.2.2 _ nm_ini_Math) (Γ.2.2.2.2 _ nm_code_max) (Nat.le_of_ble_eq_true rfl) (Nat.le_of_ble_eq_true rfl) ⟨Nat.zero_le _, Nat.zero_le _⟩ ?_
        obtain ⟨q8, q8h, h⟩ := rl_bd h
        refine rl_callVv (As := [.int ((σ (a1 + 1) x3.toNatClampNeg) + (σ (a2 + 1) x4.toNatClampNeg)), .int (if (σ (a1 + 2) x3.toNatClampNeg) < (σ (a2 + 2) x4.toNatClampNeg) then (σ (a2 + 2) x4.toNatClampNeg) else (σ (a1 + 2) x3.toNatClampNeg))]) (pc := 65) Γ nd_Cu_joinBeside_65 hO (rw_Cu_append l E a0 ((σ (a1 + 1) x3.toNatClampNeg) + (σ (a2 + 1) x4.toNatClampNeg)) (if (σ (a1 + 2) x3.toNatClampNeg) < (σ (a2 + 2) x4.toNatClampNeg) then (σ (a2 + 2) x4.toNatClampNeg) else (σ (a1 + 2) x3.toNatClampNeg)) ha0 σ q8 q8h) 2 nm_Cu_30 nm_im_Cu_append nm_se_Cu_append nm_ini_Cu nh_Cu_append (rl_oC ha0) rfl ⟨rfl, rfl⟩ (by decide +kernel) (Nat.le_of_ble_eq_true rfl) (Nat.le_of_ble_eq_true rfl) ⟨Nat.zero_le _, Nat.zero_le _⟩ (Nat.le_of_ble_eq_true rfl) rfl rfl ?_
        refine rl_iload (pc := 68) Γ nd_Cu_joinBeside_68 1 rfl ?_
        refine rl_iload (pc := 70) Γ nd_Cu_joinBeside_70 0 rfl ?_
        refine rl_icmp_lt (tgt := 78) (pc := 72) Γ nd_Cu_joinBeside_72 (by decide) (fun q9 => ?_) (fun q9 => ?_)
        · have h := rl_ift q9 h
          refine rl_iload (pc := 78) Γ nd_Cu_joinBeside_78 0 rfl ?_
          refine rl_iload (pc := 80) Γ nd_Cu_joinBeside_80 1 rfl ?_
          refine rl_icmp_lt (tgt := 88) (pc := 82) Γ nd_Cu_joinBeside_82 (by decide) (fun q10 => ?_) (fun q10 => ?_)
          · have h := rl_ift q10 h
            refine rl_goto (tgt := 9) (pc := 88) Γ nd_Cu_joinBeside_88 (by decide) ?_
            exact rl_Gsub [2, 3, 4, 5, 6] rfl (ih x3 x4 q8.2 h)
          · have h := rl_iff q10 h
            refine rl_iinc (v := x4 + 1) (L' := [(4, .int (x4 + 1)), (6, .int (σ (a2 + 2) x4.toNatClampNeg)), (5, .int (σ (a1 + 2) x3.toNatClampNeg)), (0, .ref (E.1 a0)), (1, .ref (E.1 a1)), (2, .ref (E.1 a2)), (3, .int x3)]) (pc := 85) Γ nd_Cu_joinBeside_85 6 rfl rfl (by decide) rfl ?_
            refine rl_goto (tgt := 9) (pc := 88) Γ nd_Cu_joinBeside_88 (by decide) ?_
            exact rl_Gsub [3, 4, 5, 6, 0] rfl (ih x3 (x4 + 1) q8.2 h)
        · have h := rl_iff q9 h
          refine rl_iinc (v := x3 + 1) (L' := [(3, .int (x3 + 1)), (6, .int (σ (a2 + 2) x4.toNatClampNeg)), (5, .int (σ (a1 + 2) x3.toNatClampNeg)), (0, .ref (E.1 a0)), (1, .ref (E.1 a1)), (2, .ref (E.1 a2)), (4, .int x4)]) (pc := 75) Γ nd_Cu_joinBeside_75 5 rfl rfl (by decide) rfl ?_
          refine rl_iload (pc := 78) Γ nd_Cu_joinBeside_78 1 rfl ?_
          refine rl_iload (pc := 80) Γ nd_Cu_joinBeside_80 2 rfl ?_
          refine rl_icmp_lt (tgt := 88) (pc := 82) Γ nd_Cu_joinBeside_82 (by decide) (fun q11 => ?_) (fun q11 => ?_)
          · have h := rl_ift q11 h
            refine rl_goto (tgt := 9) (pc := 88) Γ nd_Cu_joinBeside_88 (by decide) ?_
            exact rl_Gsub [3, 4, 5, 0, 6] rfl (ih (x3 + 1) x4 q8.2 h)
          · have h := rl_iff q11 h
            refine rl_iinc (v := x4 + 1) (L' := [(4, .int (x4 + 1)), (3, .int (x3 + 1)), (6, .int (σ (a2 + 2) x4.toNatClampNeg)), (5, .int (σ (a1 + 2) x3.toNatClampNeg)), (0, .ref (E.1 a0)), (1, .ref (E.1 a1)), (2, .ref (E.1 a2))]) (pc := 85) Γ nd_Cu_joinBeside_85 6 rfl rfl (by decide) rfl ?_
            refine rl_goto (tgt := 9) (pc := 88) Γ nd_Cu_joinBeside_88 (by decide) ?_
            exact rl_Gsub [4, 5, 6, 1, 0] rfl (ih (x3 + 1) (x4 + 1) q8.2 h)
set_option maxHeartbeats 4000000 in
set_option maxRecDepth 100000 in
theorem rw_Cu_joinBeside (l : Launch) (E : rl_E) (a0 : Nat) (a1 : Nat) (a2 : Nat) (ha0 : rl_cvb a0 = true) (ha1 : rl_cvb a1 = true) (ha2 : rl_cvb a2 = true) (σ : rl_M) (r : Int32 × rl_M) (h : rf_Cu_joinBeside a0 a1 a2 σ = some r) : Met l ny_Cu_joinBeside nw_Cu_joinBeside nr_Cu_joinBeside (rl_P E [.ref (E.1 a0), .ref (E.1 a1), .ref (E.1 a2)] σ) (rl_Q E (rl_rv r.1) r.2) 0 0 (rl_A E) := by
  refine Met.ofW (cc := nc_Cu_joinBeside) (maxL := 7) (ret := none) (by decide) rfl ?_
  intro p e s m args below meth c s₁ B hml hv
  obtain ⟨rfl, hP, hO⟩ := hv
  have Γ : CallFix p m c nc_Cu_joinBeside 7 s ([.ref (E.1 a0), .ref (E.1 a1), .ref (E.1 a2)] : List Value).toArray rl_TT nR_Cu := ⟨B.exec, B.bytes, hml, findClass_of_methodNamed B.named, fun w hw => atoms_spec (ws := nw_Cu_joinBeside) B.pre w (List.mem_cons_of_mem _ hw)⟩
  have hr := B.returns
  have hk := B.notSynchronized
  refine rl_start (R := nr_Cu_joinBeside) (Q := rl_QM below _ s E rl_rv r) (nL := 7) (av := [.ref (E.1 a0), .ref (E.1 a1), .ref (E.1 a2)]) (σ := σ) hP (Nat.le_of_ble_eq_true rfl) ?_
  unfold rf_Cu_joinBeside at h
  refine rl_aload_n (pc := 0) Γ nd_Cu_joinBeside_0 0 rfl ?_
  obtain ⟨q1, q1h, h⟩ := rl_bd h
  refine rl_callVv (As := []) (pc := 1) Γ nd_Cu_joinBeside_1 hO (rw_Cu_clear l E a0 ha0 σ q1 q1h) 0 nm_Cu_36 nm_im_Cu_clear nm_se_Cu_clear nm_ini_Cu nh_Cu_clear (rl_oC ha0) rfl ⟨rfl, rfl⟩ (by decide +kernel) (Nat.le_of_ble_eq_true rfl) (Nat.le_of_ble_eq_true rfl) ⟨Nat.zero_le _, Nat.zero_le _⟩ (Nat.le_of_ble_eq_true rfl) rfl rfl ?_
  refine rl_iconst (v := 0) (pc := 4) Γ nd_Cu_joinBeside_4 (by decide) ?_
  refine rl_istore_n (L' := [(3, .int 0), (0, .ref (E.1 a0)), (1, .ref (E.1 a1)), (2, .ref (E.1 a2))]) (pc := 5) Γ nd_Cu_joinBeside_5 (by decide) rfl ?_
  refine rl_iconst (v := 0) (pc := 6) Γ nd_Cu_joinBeside_6 (by decide) ?_
  refine rl_istore (L' := [(4, .int 0), (3, .int 0), (0, .ref (E.1 a0)), (1, .ref (E.1 a1)), (2, .ref (E.1 a2))]) (pc := 7) Γ nd_Cu_joinBeside_7 (by decide) rfl ?_
  refine rl_Gsub [2, 3, 4, 1, 0] rfl (rw_Cu_joinBeside_L9 Γ hO hr hk a0 a1 a2 ha0 ha1 ha2   10000 0 0 q1.2 h)
