/-- one round of the law: the call that the first int names, with the four behind it -/
def lf (o P1 P2 P3 P4 : Int32) (σ : rl_M) : Option rl_M :=
  if o &&& 15 = 0 then lf_0 P1 P2 P3 P4 σ else
  if o &&& 15 = 1 then lf_1 P1 P2 P3 P4 σ else
  if o &&& 15 = 2 then lf_2 P1 P2 P3 P4 σ else
  if o &&& 15 = 3 then lf_3 P1 P2 P3 P4 σ else
  if o &&& 15 = 4 then lf_4 P1 P2 P3 P4 σ else
  if o &&& 15 = 5 then lf_5 P1 P2 P3 P4 σ else
  if o &&& 15 = 6 then lf_6 P1 P2 P3 P4 σ else
  if o &&& 15 = 7 then lf_7 P1 P2 P3 P4 σ else
  if o &&& 15 = 8 then lf_8 P1 P2 P3 P4 σ else
  if o &&& 15 = 9 then lf_9 P1 P2 P3 P4 σ else
  if o &&& 15 = 10 then lf_10 P1 P2 P3 P4 σ else
  if o &&& 15 = 11 then lf_11 P1 P2 P3 P4 σ else
  if o &&& 15 = 12 then lf_12 P1 P2 P3 P4 σ else
  if o &&& 15 = 13 then lf_13 P1 P2 P3 P4 σ else
  some σ
theorem rl_vin {a Ln t : Nat} (hL : Ln ≤ 2560) (h : a < Ln) : vp_in (nI a) Ln := vp_in_nI h (by omega)
theorem rl_out14 {x : Int32} (h0 : ¬ x = 0) (h1 : ¬ x = 1) (h2 : ¬ x = 2) (h3 : ¬ x = 3) (h4 : ¬ x = 4) (h5 : ¬ x = 5) (h6 : ¬ x = 6) (h7 : ¬ x = 7) (h8 : ¬ x = 8) (h9 : ¬ x = 9) (h10 : ¬ x = 10) (h11 : ¬ x = 11) (h12 : ¬ x = 12) (h13 : ¬ x = 13) : x.toInt < 0 ∨ 13 < x.toInt := by
  have a0 := lv_neT (a := 0) h0 rfl
  have a1 := lv_neT (a := 1) h1 rfl
  have a2 := lv_neT (a := 2) h2 rfl
  have a3 := lv_neT (a := 3) h3 rfl
  have a4 := lv_neT (a := 4) h4 rfl
  have a5 := lv_neT (a := 5) h5 rfl
  have a6 := lv_neT (a := 6) h6 rfl
  have a7 := lv_neT (a := 7) h7 rfl
  have a8 := lv_neT (a := 8) h8 rfl
  have a9 := lv_neT (a := 9) h9 rfl
  have a10 := lv_neT (a := 10) h10 rfl
  have a11 := lv_neT (a := 11) h11 rfl
  have a12 := lv_neT (a := 12) h12 rfl
  have a13 := lv_neT (a := 13) h13 rfl
  omega
set_option maxHeartbeats 4000000 in
set_option maxRecDepth 100000 in
/-- THE LAW'S LOOP, over any invariant that every round keeps -/
theorem law_loop {p : Program} {l : Launch} {e : Env} {s : State} {m : MethodId} {below : List Frame} {meth : Method} {c : Code} {E : rl_E} {b0 Ln : Nat} {xs : Nat → Int32} (Inv : rl_M → Prop) (hstep : ∀ (o P1 P2 P3 P4 : Int32) (σ : rl_M), Inv σ → ∃ τ, lf o P1 P2 P3 P4 σ = some τ ∧ Inv τ)
    (hL : Ln ≤ 2560) (C0 : lw_At p s m meth c b0 Ln xs) (hO : rl_Ok E s) (hlq : rl_Lq l) (hE : ∀ q, rl_A E q → s.heap.size ≤ q) :
    ∀ (n t : Nat) (x4 : Int32) (σ : rl_M), 5 * t ≤ Ln → Ln < 5 * (t + n) → x4 = nI (5 * t) → Inv σ → rl_G p l e room_1 s m #[Value.ref b0] below meth c 7 E (79 + t) (1518 + 6 * t) (lw_Z below #[Value.ref b0] s) σ 23 [(0, .ref b0), (1, .ref (E.1 0)), (2, .ref (E.1 59)), (3, .ref (E.1 78)), (4, .int x4)] [] := by
  obtain ⟨hx, hb, hr, hml, hown, hts, hX, hbl, hlocks, hgv⟩ := C0
  have Γ : CallFix p m c code 7 s #[Value.ref b0] rl_TT nR_La := ⟨hx, hb, hml, hown, fun w h => hts w (List.mem_filter.mp h).1⟩
  have hbA : ¬ rl_A E b0 := fun h => Nat.lt_irrefl _ (Nat.lt_of_lt_of_le hbl (hE _ h))
  intro n
  induction n with
  | zero =>
    intro t x4 σ h1 h2
    exact absurd h2 (by omega)
  | succ n ih =>
    intro t x4 σ h1 h2 ex hI
    refine rl_iload (pc := 23) Γ nd_law_23 4 rfl ?_
    refine rl_aload_n (pc := 25) Γ nd_law_25 0 rfl ?_
    refine rl_slen (pc := 26) Γ nd_law_26 hX hbl hbA ?_
    refine rl_iconst (v := 5) (pc := 27) Γ nd_law_27 (by decide) ?_
    refine rl_isub (pc := 28) Γ nd_law_28 ?_
    have hsub : (nI Ln - 5).toInt = (Ln : Int) - 5 := pk_sub_toInt (a := Ln) (b := 5) (by omega) (by omega)
    have hx4 : x4.toInt = ((5 * t : Nat) : Int) := by rw [ex]; exact nI_toInt (by omega)
    refine rl_icmp_gt (pc := 29) (tgt := 947) Γ nd_law_29 (by decide) (fun q => ?_) (fun q => ?_)
    · refine rl_iconst (v := 1) (pc := 947) Γ nd_law_947 (by decide) ?_
      intro H locs ls h1 h2 h3
      refine va_forget (fun q hq => hE _ (h2.2.2 q hq)) ?_
      refine W.widen (k := 601024) (n := 7293034) (by omega) (by omega) ?_
      exact lw_ret hx hb hr hlocks nd_law_948
    · have hlt : 5 * t + 5 ≤ Ln := by
        rw [Int32.lt_iff_toInt_lt, hsub, hx4] at q
        omega
      have ee : ∀ j : Nat, j < 5 → nI (5 * t) + nI j = nI (5 * t + j) := fun j _ => nI_add _ _
      have hv0 : vp_in x4 Ln := by rw [ex]; exact rl_vin (t := t) hL (by omega)
      have hv1 : vp_in (x4 + 1) Ln := by rw [ex]; show vp_in (nI (5 * t) + nI 1) Ln; rw [nI_add]; exact rl_vin (t := t) hL (by omega)
      have hv2 : vp_in (x4 + 2) Ln := by rw [ex]; show vp_in (nI (5 * t) + nI 2) Ln; rw [nI_add]; exact rl_vin (t := t) hL (by omega)
      have hv3 : vp_in (x4 + 3) Ln := by rw [ex]; show vp_in (nI (5 * t) + nI 3) Ln; rw [nI_add]; exact rl_vin (t := t) hL (by omega)
      have hv4 : vp_in (x4 + 4) Ln := by rw [ex]; show vp_in (nI (5 * t) + nI 4) Ln; rw [nI_add]; exact rl_vin (t := t) hL (by omega)
      have hcl : 79 + t + 1 ≤ room_1.cells ∧ 1518 + 6 * t + 6 ≤ room_1.slots := ⟨by show _ ≤ 601024; omega, by show _ ≤ 7293034; omega⟩
      refine rl_aload_n (pc := 32) Γ nd_law_32 0 rfl ?_
      refine rl_iload (pc := 33) Γ nd_law_33 4 rfl ?_
      refine rl_sld (pc := 35) Γ nd_law_35 hX hbl hbA hv0 ?_
      refine rl_bipush (v := 15) (pc := 36) Γ nd_law_36 (by decide) ?_
      refine rl_iand (pc := 38) Γ nd_law_38 ?_
      obtain ⟨τ, hτ, hIτ⟩ := hstep (xs x4.toNatClampNeg) (xs (x4 + 1).toNatClampNeg) (xs (x4 + 2).toNatClampNeg) (xs (x4 + 3).toNatClampNeg) (xs (x4 + 4).toNatClampNeg) σ hI
      have kk : rl_G p l e room_1 s m #[Value.ref b0] below meth c 7 E (79 + t + 1) (1518 + 6 * t + 6) (lw_Z below #[Value.ref b0] s) τ 941 [(0, .ref b0), (1, .ref (E.1 0)), (2, .ref (E.1 59)), (3, .ref (E.1 78)), (4, .int x4)] [] := by
        refine rl_iinc (v := x4 + 5) (L' := [(4, .int (x4 + 5)), (0, .ref b0), (1, .ref (E.1 0)), (2, .ref (E.1 59)), (3, .ref (E.1 78))]) (pc := 941) Γ nd_law_941 4 rfl rfl (by decide) rfl ?_
        refine rl_goto (tgt := 23) (pc := 944) Γ nd_law_944 (by decide) ?_
        refine rl_Gsub [1, 2, 3, 4, 0] rfl ?_
        exact ih (t + 1) (x4 + 5) τ (by omega) (by omega) (by rw [ex]; show nI (5 * t) + nI 5 = _; rw [nI_add]; congr 1) hIτ
      generalize hx : xs x4.toNatClampNeg = o at hτ ⊢
      unfold lf at hτ
      by_cases z0 : o &&& 15 = 0
      · have hτ := rl_ift z0 hτ
        refine rl_swIn (tgt := 108) (off := 69) (k := 0) (pc := 39) Γ nd_law_39 z0 (by decide) (by decide) (by decide) (by decide) ?_
        exact lw_0 Γ hO hlq hX hbl hbA hv1 hv2 hv3 hv4 hcl hτ kk
      have hτ := rl_iff z0 hτ
      by_cases z1 : o &&& 15 = 1
      · have hτ := rl_ift z1 hτ
        refine rl_swIn (tgt := 152) (off := 113) (k := 1) (pc := 39) Γ nd_law_39 z1 (by decide) (by decide) (by decide) (by decide) ?_
        exact lw_1 Γ hO hlq hX hbl hbA hv1 hv2 hv3 hv4 hcl hτ kk
      have hτ := rl_iff z1 hτ
      by_cases z2 : o &&& 15 = 2
      · have hτ := rl_ift z2 hτ
        refine rl_swIn (tgt := 232) (off := 193) (k := 2) (pc := 39) Γ nd_law_39 z2 (by decide) (by decide) (by decide) (by decide) ?_
        exact lw_2 Γ hO hlq hX hbl hbA hv1 hv2 hv3 hv4 hcl hτ kk
      have hτ := rl_iff z2 hτ
      by_cases z3 : o &&& 15 = 3
      · have hτ := rl_ift z3 hτ
        refine rl_swIn (tgt := 280) (off := 241) (k := 3) (pc := 39) Γ nd_law_39 z3 (by decide) (by decide) (by decide) (by decide) ?_
        exact lw_3 Γ hO hlq hX hbl hbA hv1 hv2 hv3 hv4 hcl hτ kk
      have hτ := rl_iff z3 hτ
      by_cases z4 : o &&& 15 = 4
      · have hτ := rl_ift z4 hτ
        refine rl_swIn (tgt := 381) (off := 342) (k := 4) (pc := 39) Γ nd_law_39 z4 (by decide) (by decide) (by decide) (by decide) ?_
        exact lw_4 Γ hO hlq hX hbl hbA hv1 hv2 hv3 hv4 hcl hτ kk
      have hτ := rl_iff z4 hτ
      by_cases z5 : o &&& 15 = 5
      · have hτ := rl_ift z5 hτ
        refine rl_swIn (tgt := 437) (off := 398) (k := 5) (pc := 39) Γ nd_law_39 z5 (by decide) (by decide) (by decide) (by decide) ?_
        exact lw_5 Γ hO hlq hX hbl hbA hv1 hv2 hv3 hv4 hcl hτ kk
      have hτ := rl_iff z5 hτ
      by_cases z6 : o &&& 15 = 6
      · have hτ := rl_ift z6 hτ
        refine rl_swIn (tgt := 505) (off := 466) (k := 6) (pc := 39) Γ nd_law_39 z6 (by decide) (by decide) (by decide) (by decide) ?_
        exact lw_6 Γ hO hlq hX hbl hbA hv1 hv2 hv3 hv4 hcl hτ kk
      have hτ := rl_iff z6 hτ
      by_cases z7 : o &&& 15 = 7
      · have hτ := rl_ift z7 hτ
        refine rl_swIn (tgt := 573) (off := 534) (k := 7) (pc := 39) Γ nd_law_39 z7 (by decide) (by decide) (by decide) (by decide) ?_
        exact lw_7 Γ hO hlq hX hbl hbA hv1 hv2 hv3 hv4 hcl hτ kk
      have hτ := rl_iff z7 hτ
      by_cases z8 : o &&& 15 = 8
      · have hτ := rl_ift z8 hτ
        refine rl_swIn (tgt := 641) (off := 602) (k := 8) (pc := 39) Γ nd_law_39 z8 (by decide) (by decide) (by decide) (by decide) ?_
        exact lw_8 Γ hO hlq hX hbl hbA hv1 hv2 hv3 hv4 hcl hτ kk
      have hτ := rl_iff z8 hτ
      by_cases z9 : o &&& 15 = 9
      · have hτ := rl_ift z9 hτ
        refine rl_swIn (tgt := 721) (off := 682) (k := 9) (pc := 39) Γ nd_law_39 z9 (by decide) (by decide) (by decide) (by decide) ?_
        exact lw_9 Γ hO hlq hX hbl hbA hv1 hv2 hv3 hv4 hcl hτ kk
      have hτ := rl_iff z9 hτ
      by_cases z10 : o &&& 15 = 10
      · have hτ := rl_ift z10 hτ
        refine rl_swIn (tgt := 784) (off := 745) (k := 10) (pc := 39) Γ nd_law_39 z10 (by decide) (by decide) (by decide) (by decide) ?_
        exact lw_10 Γ hO hlq hX hbl hbA hv1 hv2 hv3 hv4 hcl hτ kk
      have hτ := rl_iff z10 hτ
      by_cases z11 : o &&& 15 = 11
      · have hτ := rl_ift z11 hτ
        refine rl_swIn (tgt := 797) (off := 758) (k := 11) (pc := 39) Γ nd_law_39 z11 (by decide) (by decide) (by decide) (by decide) ?_
        exact lw_11 Γ hO hlq hX hbl hbA hv1 hv2 hv3 hv4 hcl hτ kk
      have hτ := rl_iff z11 hτ
      by_cases z12 : o &&& 15 = 12
      · have hτ := rl_ift z12 hτ
        refine rl_swIn (tgt := 872) (off := 833) (k := 12) (pc := 39) Γ nd_law_39 z12 (by decide) (by decide) (by decide) (by decide) ?_
        exact lw_12 Γ hO hlq hX hbl hbA hv1 hv2 hv3 hv4 hcl hτ kk
      have hτ := rl_iff z12 hτ
      by_cases z13 : o &&& 15 = 13
      · have hτ := rl_ift z13 hτ
        refine rl_swIn (tgt := 885) (off := 846) (k := 13) (pc := 39) Γ nd_law_39 z13 (by decide) (by decide) (by decide) (by decide) ?_
        exact lw_13 Γ hO hlq hX hbl hbA hv1 hv2 hv3 hv4 hcl hτ kk
      have hτ := rl_iff z13 hτ
      cases hτ
      refine rl_swOut (tgt := 941) (pc := 39) Γ nd_law_39 (rl_out14 z0 z1 z2 z3 z4 z5 z6 z7 z8 z9 z10 z11 z12 z13) (by decide) ?_
      exact rl_widen (Nat.le_add_right _ 1) (Nat.le_add_right _ 6) kk
