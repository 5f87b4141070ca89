/-- what place() answers of a room at node k -/
def z_pj (A : z_A) (t : Lean.Data.AC.Expr) (c : Nat → Nat) (k r j : Nat) : Int32 := if j = 0 then nI (c r) else if j = 1 then nI (z_xy (z_ag A) (z_as A) c 0 t 0 0 k).1 else if j = 2 then nI (z_xy (z_ag A) (z_as A) c 0 t 0 0 k).2 else if j = 3 then nI (z_as A r (c r)).1 else nI (z_as A r (c r)).2
def z_PV (A : z_A) (r j : Nat) (v : Int32) : Prop := (∃ t c k, z_Ba A t c ∧ k ≤ z_nd t ∧ z_ag A k = 48 + r ∧ v = z_pj A t c k r j) ∨ ((∀ t c, z_Ba A t c → ¬ r ∈ z_rm t) ∧ v = -1)
theorem z_PV_u {A : z_A} {r j : Nat} {v v' : Int32} (ok : z_Ok A) (h1 : r < 6) (h : z_PV A r j v) (h' : z_PV A r j v') : v = v' := by
  have out : ∀ t c a, z_Ba A t c → a ≤ z_nd t → z_ag A a = 48 + r → (∀ t c, z_Ba A t c → ¬ r ∈ z_rm t) → False := by
    intro t c a hb ha ga hn
    have ot := ok.2.2.2 t hb.1
    exact hn t c hb (z_in h1 t 0 a ot.2.1 (by omega) (by omega) ga)
  rcases h with ⟨t, c, a, e1, e2, e4, e6⟩ | ⟨e1, e2⟩
  · rcases h' with ⟨t', c', a', f1, f2, f4, f6⟩ | ⟨f1, f2⟩
    · obtain ⟨rfl, hcc⟩ := z_Ba_u ok e1 f1
      have ot := ok.2.2.2 t e1.1
      have ea := z_one h1 t 0 a a' ot.2.1 ot.2.2.1 (by omega) (by omega) e4 (by omega) (by omega) f4
      subst ea
      have hcr : ∀ r ∈ z_rm t, c r = c' r := fun r hr => hcc r (ot.2.2.2 r hr).1
      rw [e6, f6]
      unfold z_pj
      rw [z_xy_c t 0 0 0 a hcr, hcc r h1]
    · exact (out t c a e1 e2 e4 f1).elim
  · rcases h' with ⟨t', c', a', f1, f2, f4, f6⟩ | ⟨f1, f2⟩
    · exact (out t' c' a' f1 f2 f4 e1).elim
    · rw [e2, f2]
theorem z_rpC {σ : rl_M} {A : z_A} {r j : Nat} (ok : z_Ok A) (hc : z_Cs σ A) (hs : z_Set σ A) (h1 : r < 6) (hj : j ≤ 4) : ∃ v, rf_Pl_readPlace (nI r) (nI j) σ = some (v, σ) ∧ z_PV A r j v := by
  rcases hs with ⟨e1, e2⟩ | ⟨t, c, i, b1, b2, b3, b4⟩
  · refine ⟨-1, ?_, Or.inr ⟨fun t c hb => (e2 _ (z_Ba_Pa ok hb)).elim, rfl⟩⟩
    unfold rf_Pl_readPlace
    simp only [z_nop0 e1, z_hasn, Option.bind_some, if_true]
  · have n1 := z_nop b3 b4 h1
    have ct := hc.ct ok b1.1
    have ot := ok.2.2.2 t b1.1
    rcases z_ndc hc h1 with ⟨t1, a, a1, a2, a3, a4, a5⟩ | ⟨a1, a2⟩
    · have e : t1 = t := Option.some.inj (a1.symm.trans b1.1)
      subst e
      have x1 := z_Co_xy t1 0 0 0 b2.2.2 a (by omega) (by omega)
      have s1 := z_leaf (c := c) h1 a4 t1 0 ot.2.1 ot.2.2.1 (by omega) (by omega) b2.1
      have c16 := b2.2.1 r a2 a a3 a4
      have om := ot.1
      have h8 := ct.2.1.1
      refine ⟨z_pj A t1 c a r j, ?_, Or.inl ⟨t1, c, a, b1, a3, a4, rfl⟩⟩
      have nw := z_nw h8 om (k := a) (by omega) s1
      have nh := z_nh h8 om (k := a) (by omega) s1
      have hh := z_has h8 om (k := a) (by omega)
      have x11 := x1.1
      have x12 := x1.2
      have hj5 : j = 0 ∨ j = 1 ∨ j = 2 ∨ j = 3 ∨ j = 4 := by omega
      unfold rf_Pl_readPlace z_pj
      rcases hj5 with rfl | rfl | rfl | rfl | rfl <;> simp (disch := omega) only [n1, a5, hh, c16, x11, x12, nw, nh, z_lt, z_le, z_eq, z_ltl, z_lel, z_llt, z_lle, z_eql, z_add, z_addl, z_ladd, z_mul, z_mull, z_lmul, z_sub, z_subl, z_cl, z_ib, z_nm, z_m1, z_mlt, if_pos, if_neg, ge_iff_le, gt_iff_lt, ite_true, ite_false, if_true, if_false, Option.bind_some, z_10, eq_self]
    · refine ⟨-1, ?_, Or.inr ⟨fun t' c' hb => a1 t' hb.1, rfl⟩⟩
      unfold rf_Pl_readPlace
      simp only [n1, a2, z_hasn, Option.bind_some, if_true]
theorem z_case5 (P1 P2 P3 P4 : Int32) (σ : rl_M) (h : z_Inv σ) : ∃ τ, lf_5 P1 P2 P3 P4 σ = some τ ∧ z_Inv τ := by
  obtain ⟨A, ok, hc, hr, hf⟩ := h
  have e1 := z_120
  have hN := ok.1.1
  have J1 : ∀ τ : rl_M, rf_Mo_place_J22 P1 P2 τ = some (0, rl_su τ 59 0 1) := by
    intro τ
    unfold rf_Mo_place_J22 rf_Mo_place_J23
    rw [z_su_s, if_neg z_101]
  have bad : wf_place P1 P2 σ = some (1, σ) → rf_Mo_place P1 P2 σ = some (0, rl_su σ 59 0 1) → ∃ τ, lf_5 P1 P2 P3 P4 σ = some τ ∧ z_Inv τ := by
    intro h1 h2
    exact ⟨rl_su σ 59 0 1, z_fin h1 h2 (by rw [z_su_s]) (fun h => absurd h (by decide)), z_keep ok hc hr hf z_FX_0⟩
  rcases z_wr P1 (z_aN A) (by omega) with ⟨r, a1, a2, -, a4, a5, -⟩ | ⟨-, a4, a5, -⟩
  · have a4' := a4 σ hc.1
    rcases z_wi P2 0 4 (by omega) (by omega) with ⟨j, b1, b2, b3, b4, b5⟩ | ⟨b4, b5⟩
    · have b4' : ∀ σ, rf_Ro_needWithin P2 0 4 σ = some (0, 0, σ) := b4
      have b5' : ∀ σ, rf_Mo_isIn P2 0 4 σ = some (1, σ) := b5
      obtain ⟨τ, t1, t2, t3, t4, t5, t6⟩ := z_Sl ok hc hf
      have hr1 := z_FC_78 t6 hr
      subst a2 b3
      obtain ⟨v, v1, v2⟩ := z_rpC (r := r) (j := j) ok t2 t5 (by omega) b2
      have w1 : wf_place (nI r) (nI j) σ = some (0, rl_su τ 78 0 v) := by
        unfold wf_place rf_Ro_place
        simp only [a4', b4', Option.bind_some, if_true, t1, v1]
      have hr2 : z_Rs (rl_su (rl_su τ 78 0 v) 59 0 0) A := z_Rs_x (z_FX_8.tr z_FX_0) hr1
      have a5' := a5 (rl_su τ 78 0 v) (z_Rs_x z_FX_8 hr1).1
      obtain ⟨υ, u1, u2, u3, u4⟩ := z_Fb ok hr2
      have m1 : rf_Mo_place (nI r) (nI j) (rl_su τ 78 0 v) = some (v, υ) := by
        unfold rf_Mo_place rf_Mo_place_J23
        simp only [a5', b5', Option.bind_some, z_10, if_false, z_su_s, if_pos z_000, u1]
        rcases z_plc ok u2 (show r < 6 by omega) with ⟨t', k, d1, d2, d3, d4, d5⟩ | ⟨d1, d2⟩
        · rcases u3 with ⟨c1, c2⟩ | ⟨t, c, c1, c2, c3, c4, c5, c6, c7⟩
          · have hv := z_PV_u ok (by omega) v2 (Or.inr ⟨fun t c hb => (c2 _ (z_Ba_Pa ok hb)).elim, rfl⟩)
            simp only [d5, Option.bind_some, c1, if_true, hv]
          · have e : t' = t := Option.some.inj (d1.symm.trans c1.1)
            subst e
            have ot := ok.2.2.2 t' c1.1
            have om := ot.1
            have hv := z_PV_u ok (by omega) v2 (Or.inl ⟨t', c, k, c1, d3, d4, rfl⟩)
            have x1 := z_Co_xy t' 0 0 0 c7 k (by omega) (by omega)
            have s1 := z_leafR (c := c) (show r < 6 by omega) d4 t' 0 ot.2.1 ot.2.2.1 (by omega) (by omega) c6
            have x11 := x1.1
            have x12 := x1.2
            have s11 := s1.1
            have s12 := s1.2
            have c68 := c5 r (by omega)
            have hj5 : j = 0 ∨ j = 1 ∨ j = 2 ∨ j = 3 ∨ j = 4 := by omega
            rw [hv]
            unfold z_pj
            rcases hj5 with rfl | rfl | rfl | rfl | rfl <;> simp (disch := omega) only [d5, c2, c68, x11, x12, s11, s12, z_lt, z_le, z_eq, z_ltl, z_lel, z_llt, z_lle, z_eql, z_add, z_addl, z_ladd, z_mul, z_mull, z_lmul, z_sub, z_subl, z_cl, z_ib, z_nm, z_m1, z_mlt, if_pos, if_neg, ge_iff_le, gt_iff_lt, ite_true, ite_false, if_true, if_false, Option.bind_some, z_10, eq_self]
        · have hv := z_PV_u ok (by omega) v2 (Or.inr ⟨fun t c hb => d1 t hb.1, rfl⟩)
          rcases u3 with ⟨c1, c2⟩ | ⟨t, c, c1, c2, c3⟩
          · simp only [d2, Option.bind_some, c1, if_true, hv]
          · simp only [d2, Option.bind_some, c2, z_10, if_false, z_0m, hv]
      refine ⟨υ, z_fin w1 m1 ?_ (fun _ => ?_), z_keep ok t2 hr1 t3 ((z_FX_8.tr z_FX_0).tr u4.fx)⟩
      · rw [u4.2 0 (by omega) (by omega) (by omega), z_su_s]
      · rw [u4.1 78 (by omega), z_su_c (by omega), z_su_s]
    · have b4' : ∀ σ, rf_Ro_needWithin P2 0 4 σ = some (1, 0, σ) := b4
      have b5' : ∀ σ, rf_Mo_isIn P2 0 4 σ = some (0, σ) := b5
      have a5' := a5 σ hr.1
      refine bad ?_ ?_
      · unfold wf_place rf_Ro_place
        simp only [a4', b4', Option.bind_some, if_true, e1.1, if_false]
      · unfold rf_Mo_place
        simp only [a5', b5', Option.bind_some, z_10, if_false, if_true, J1]
  · have a4' := a4 σ hc.1
    have a5' := a5 σ hr.1
    refine bad ?_ ?_
    · unfold wf_place rf_Ro_place
      simp only [a4', Option.bind_some, e1.1, if_false, if_true]
    · unfold rf_Mo_place
      simp only [a5', Option.bind_some, if_true, J1]
theorem z_o154 (len : Nat) (hl : len ≤ 16) : ∀ (d x : Nat) (σ : rl_M) (f : Nat), x + d = len → d < f → ∃ τ, rf_Mo_order_L154 (nI len) f (nI x) σ = some (-1, τ) ∧ (∀ q, q < len → τ 63 q = if x ≤ q then σ 77 q else σ 63 q) ∧ (∀ e, e ≠ 63 → τ e = σ e) := by
  intro d
  induction d with
  | zero =>
    intro x σ f hx hf
    refine ⟨σ, ?_, fun q hq => by rw [if_neg (by omega)], fun _ _ => rfl⟩
    obtain ⟨f, rfl⟩ : ∃ g, f = g + 1 := ⟨f - 1, by omega⟩
    unfold rf_Mo_order_L154
    simp (disch := omega) only [z_lt, z_le, z_eq, z_ltl, z_lel, z_llt, z_lle, z_eql, z_add, z_addl, z_ladd, z_mul, z_mull, z_lmul, z_sub, z_subl, z_cl, z_ib, z_nm, z_m1, z_mlt, if_pos, if_neg, ge_iff_le, gt_iff_lt, ite_true, ite_false, if_true, if_false, Option.bind_some, z_10, eq_self]
  | succ d ih =>
    intro x σ f hx hf
    obtain ⟨f, rfl⟩ : ∃ g, f = g + 1 := ⟨f - 1, by omega⟩
    obtain ⟨τ, t1, t2, t3⟩ := ih (x + 1) (rl_su σ 63 x (σ 77 x)) f (by omega) (by omega)
    refine ⟨τ, ?_, ?_, fun e he => (t3 e he).trans (z_su_ce he)⟩
    · unfold rf_Mo_order_L154
      simp (disch := omega) only [z_lt, z_le, z_eq, z_ltl, z_lel, z_llt, z_lle, z_eql, z_add, z_addl, z_ladd, z_mul, z_mull, z_lmul, z_sub, z_subl, z_cl, z_ib, z_nm, z_m1, z_mlt, if_pos, if_neg, ge_iff_le, gt_iff_lt, ite_true, ite_false, if_true, if_false, Option.bind_some, z_10, eq_self, t1]
    · intro q hq
      rw [t2 q hq]
      by_cases c1 : x + 1 ≤ q
      · rw [if_pos c1, if_pos (by omega), z_su_c (by omega)]
      · rw [if_neg c1]
        by_cases c2 : x ≤ q
        · have e : q = x := by omega
          subst e
          rw [if_pos (by omega), z_su_s]
        · rw [if_neg c2, z_su_j (by omega)]
theorem z_Cs_3 {σ τ : rl_M} {A : z_A} (h : ∀ c, 3 ≤ c → c < 59 → τ c = σ c) (hc : z_Cs σ A) : z_Cs τ A := by
  obtain ⟨h1, h2, h3, h4, h5⟩ := hc
  exact ⟨by rw [h 4 (by omega) (by omega)]; exact h1, z_Sz_e (h 5 (by omega) (by omega)) (h 6 (by omega) (by omega)) (h 7 (by omega) (by omega)) h2, by rw [h 3 (by omega) (by omega)]; exact h3, z_Co1_e (fun c h1 h2 => h c (by omega) (by omega)) h4, z_Cw_e (fun c h1 h2 => h c (by omega) (by omega)) h5⟩
theorem z_case3 (P1 P2 P3 P4 : Int32) (σ : rl_M) (h : z_Inv σ) : ∃ τ, lf_3 P1 P2 P3 P4 σ = some τ ∧ z_Inv τ := by
  obtain ⟨A, ok, hc, hr, hf⟩ := h
  unfold lf_3
  generalize ((P1.toInt64 <<< ((32 : Int32).toInt64 &&& 63)) ||| (P2.toInt64 &&& 4294967295)) = la
  generalize ((P3.toInt64 <<< ((32 : Int32).toInt64 &&& 63)) ||| (P4.toInt64 &&& 4294967295)) = lb
  have l1 := z_bl_l la 8
  have l2 := z_bl_l lb 8
  -- the class reads the signs
  obtain ⟨τ1, a1, a2, a3, a4⟩ := z_ab la 8 (rl_su σ 1 0 0) [] (by omega) (by rw [z_su_s]; rfl) (fun i b h => by simp at h) (by simp)
  rw [List.nil_append] at a2 a3
  obtain ⟨τ2, b1, b2, b3, b4⟩ := z_ab lb 8 τ1 (z_bl la 8) (by omega) a2 a3 (by omega)
  have hMl : (z_bl la 8 ++ z_bl lb 8).length ≤ 16 := by rw [List.length_append]; omega
  have hMb : ∀ b ∈ z_bl la 8 ++ z_bl lb 8, b ≤ 255 := by
    intro b hb
    rcases List.mem_append.mp hb with h | h
    · exact z_bl_b la 8 b h
    · exact z_bl_b lb 8 b h
  generalize hM : z_bl la 8 ++ z_bl lb 8 = M at b2 b3 hMl hMb
  have c2 : ∀ e, e ≠ 1 → e ≠ 2 → τ2 e = σ e := fun e h1 h2 => by rw [b4 e h1 h2, a4 e h1 h2, z_su_ce h1]
  have hc2 : z_Cs τ2 A := z_Cs_3 (fun c h1 h2 => c2 c (by omega) (by omega)) hc
  have hr2 : z_Rs τ2 A := z_Rs_c (fun c h1 h2 => c2 c (by omega) (by omega)) hr
  have hf2 : z_Fg τ2 A := z_Fg_l ok (fun c hh => c2 c (by omega) (by omega)) hf
  have e7 : nI 8 + (-1) = (7 : Int32) := by decide
  have e56 : nI (8 * 8) + (-8) = (56 : Int32) := by decide
  have ad1 : rf_Sr_addBytes la (rl_su σ 1 0 0) = some (0, τ1) := by
    have := a1 10000 (by omega)
    rw [e7] at this
    unfold rf_Sr_addBytes
    exact this
  have ad2 : rf_Sr_addBytes lb τ1 = some (0, τ2) := by
    have := b1 10000 (by omega)
    rw [e7] at this
    unfold rf_Sr_addBytes
    exact this
  -- the reference does
  have ref : ∀ υ : rl_M, z_Rs υ A → ∃ ω, (∀ K : Int32 → Int32 → rl_M → Option (Int32 × rl_M), ((rf_Mo_gather la 0 (rl_su υ 59 0 0)).bind (fun q1 => ((rf_Mo_gather lb q1.1 q1.2).bind (fun q2 => K q2.1 0 q2.2)))) = K (nI M.length) 0 ω) ∧ z_Row (ω 77) M ∧ ∀ e, e ≠ 77 → ω e = (rl_su υ 59 0 0) e := by
    intro υ hυ
    obtain ⟨ω1, d1, d2, d3⟩ := z_ga la 8 (rl_su υ 59 0 0) [] (by omega) (fun i b h => by simp at h) (by simp)
    rw [List.nil_append] at d2
    obtain ⟨ω2, f1, f2, f3⟩ := z_ga lb 8 ω1 (z_bl la 8) (by omega) d2 (by omega)
    rw [hM] at f2
    refine ⟨ω2, ?_, f2, fun e he => by rw [f3 e he, d3 e he]⟩
    intro K
    have g1 : rf_Mo_gather la 0 (rl_su υ 59 0 0) = some (nI (z_bl la 8).length, ω1) := by
      have := d1 10000 (by omega)
      rw [List.nil_append, e56, List.length_nil] at this
      unfold rf_Mo_gather
      exact this
    have g2 : rf_Mo_gather lb (nI (z_bl la 8).length) ω1 = some (nI M.length, ω2) := by
      have := f1 10000 (by omega)
      rw [hM, e56] at this
      unfold rf_Mo_gather
      exact this
    simp only [g1, g2, Option.bind_some]
  have refo : ∀ υ ω : rl_M, z_Rs υ A → z_Row (ω 77) M → (∀ e, e ≠ 77 → ω e = (rl_su υ 59 0 0) e) → ∀ K : Int32 → rl_M → Option (Int32 × rl_M), ((z_chk (z_an A) M 0 0 0).1 = 1 ∧ rf_Mo_order_L27 (nI M.length) K 10000 0 0 0 ω = some (nI (z_chk (z_an A) M 0 0 0).2, ω)) ∨ ((z_chk (z_an A) M 0 0 0).1 = 0 ∧ rf_Mo_order_L27 (nI M.length) K 10000 0 0 0 ω = K (nI (z_chk (z_an A) M 0 0 0).2) ω) := by
    intro υ ω hυ hω he K
    have hx : z_Rs ω A := z_Rs_x ⟨fun c hh => by rw [he c (by omega), z_su_ce (by omega)], fun j hj => by rw [he 59 (by omega), z_su_j (by omega)]⟩ hυ
    exact z_of (s := z_as A) (N := z_aN A) K hx.2.1 hx.1 ok.1.1 ok.1.2.1 M hω hMl hMb M [] 0 0 10000 rfl (by simp) (by omega) (by omega)
  have K0 : ∀ ω : rl_M, (fun (q11y3 : Int32) (q11m : rl_M) => (if q11y3 = 1 then some ((-1 : Int32), q11m) else some (q11m 1 0, q11m))) (nI (z_chk (z_an A) M 0 0 0).2) ω = (if nI (z_chk (z_an A) M 0 0 0).2 = 1 then some ((-1 : Int32), ω) else some (ω 1 0, ω)) := fun _ => rfl
  rcases z_ff (s := z_as A) (n := z_an A) (fun (q11y3 : Int32) (q11m : rl_M) => (if q11y3 = 1 then some ((-1), q11m) else some (q11m 1 0, q11m))) hc2.2.1 M b2 b3 hMl hMb M [] 0 0 10000 rfl (by simp) (by omega) (by omega) with ⟨e1, e2, e3⟩ | ⟨e1, e2, e3⟩
  · -- a sign cannot stand
    have w1 : rf_Ro_order la lb σ = some (nI (z_chk (z_an A) M 0 0 0).2, τ2) := by
      unfold rf_Ro_order rf_Sr_clear rf_Sr_firstFault
      have e2' : rf_Sr_firstFault_L7 (fun (q11y3 : Int32) (q11m : rl_M) => (if q11y3 = 1 then some ((-1), q11m) else some (q11m 1 0, q11m))) 10000 0 0 0 τ2 = some (nI (z_chk (z_an A) M 0 0 0).2, τ2) := e2
      simp only [Option.bind_some, ad1, ad2, e2', if_neg (z_nI_m1 (show (z_chk (z_an A) M 0 0 0).2 < 2147483648 by simp only [List.length_nil] at e3; omega))]
    obtain ⟨ω, d1, d2, d3⟩ := ref τ2 hr2
    have m1 : rf_Mo_order la lb τ2 = some (nI (z_chk (z_an A) M 0 0 0).2, ω) := by
      unfold rf_Mo_order
      refine (d1 (fun x y m => rf_Mo_order_L27 x (fun (q16y6 : Int32) (q16m : rl_M) => (if q16y6 = 1 then rf_Mo_order_L154 x 10000 0 (rl_su q16m 59 7 x) else some (x, q16m))) 10000 0 0 y m)).trans ?_
      rcases refo τ2 ω hr2 d2 d3 (fun (q16y6 : Int32) (q16m : rl_M) => (if q16y6 = 1 then rf_Mo_order_L154 (nI M.length) 10000 0 (rl_su q16m 59 7 (nI M.length)) else some (nI M.length, q16m))) with ⟨g1, g2⟩ | ⟨g1, g2⟩
      · exact g2
      · rw [List.length_nil] at e1; omega
    refine ⟨ω, ?_, z_keep ok hc2 hr2 hf2 ⟨fun c hh => by rw [d3 c (by omega), z_su_ce (by omega)], fun j hj => by rw [d3 59 (by omega), z_su_j (by omega)]⟩⟩
    simp only [w1, m1, Option.bind_some, if_true]
  · by_cases q : (z_chk (z_an A) M 0 0 0).2 = 1
    · -- an order
      have hch : z_chk (z_an A) M 0 0 0 = (0, 1) := Prod.ext e1 q
      have hg : ∀ (i b : Nat), M[i]? = some b → (fun k => (M[k]?).getD 0) i = b := fun i b hb => by simp only [hb, Option.getD_some]
      obtain ⟨t, t1, t2, t3, t4, t5⟩ := z_tree (n := z_an A) hg hch
      have row : ∀ (f : Nat → Int32), z_Row f M → ∀ k, k < z_nd t + 1 → f k = nI ((fun k => (M[k]?).getD 0) k) := by
        intro f hf k hk
        have hk2 : k < M.length := by omega
        have := hf k M[k] (List.getElem?_eq_getElem hk2)
        simp only [List.getElem?_eq_getElem hk2, Option.getD_some]
        exact this
      have g255 : ∀ k, k < z_nd t + 1 → (fun k => (M[k]?).getD 0) k ≤ 255 := by
        intro k hk
        have hk2 : k < M.length := by omega
        simp only [List.getElem?_eq_getElem hk2, Option.getD_some]
        exact hMb _ (List.getElem_mem hk2)
      obtain ⟨τ3, u1, u2, u3, u4, u5, u6⟩ := z_build (g := fun k => (M[k]?).getD 0) (σ := τ2) t3 (by rw [b2, t2]) (row _ b3) t1 t4
      have ff : rf_Sr_firstFault τ2 = some (-1, τ2) := by
        unfold rf_Sr_firstFault
        refine Eq.trans e2 ?_
        simp only [List.length_nil, q]
        rfl
      have w1 : rf_Ro_order la lb σ = some (-1, rl_su (rl_su τ3 3 4 0) 3 5 0) := by
        unfold rf_Ro_order rf_Sr_clear rf_Pl_forget
        simp only [Option.bind_some, ad1, ad2, ff, if_true, u1]
      generalize hσ : rl_su (rl_su τ3 3 4 0) 3 5 0 = τ4 at w1
      have k1 : ∀ e, e ≠ 3 → (e < 8 ∨ 14 < e) → e ≠ 1 → e ≠ 2 → τ4 e = σ e := fun e h1 h2 h3 h4 => by
        rw [← hσ, z_su_ce h1, z_su_ce h1, u6 e h2]; exact c2 e h3 h4
      have k2 : ∀ e, e ≠ 3 → τ4 e = τ3 e := fun e h1 => by rw [← hσ, z_su_ce h1, z_su_ce h1]
      have hr4 : z_Rs τ4 A := z_Rs_c (fun c h1 h2 => k1 c (by omega) (by omega) (by omega) (by omega)) hr
      obtain ⟨ω, d1, d2, d3⟩ := ref τ4 hr4
      obtain ⟨ω2, p1, p2, p3⟩ := z_o154 M.length hMl M.length 0 (rl_su ω 59 7 (nI M.length)) 10000 (by omega) (by omega)
      have m1 : rf_Mo_order la lb τ4 = some (-1, ω2) := by
        unfold rf_Mo_order
        refine (d1 (fun x y m => rf_Mo_order_L27 x (fun (q16y6 : Int32) (q16m : rl_M) => (if q16y6 = 1 then rf_Mo_order_L154 x 10000 0 (rl_su q16m 59 7 x) else some (x, q16m))) 10000 0 0 y m)).trans ?_
        rcases refo τ4 ω hr4 d2 d3 (fun (q16y6 : Int32) (q16m : rl_M) => (if q16y6 = 1 then rf_Mo_order_L154 (nI M.length) 10000 0 (rl_su q16m 59 7 (nI M.length)) else some (nI M.length, q16m))) with ⟨g1, g2⟩ | ⟨g1, g2⟩
        · rw [List.length_nil] at e1; omega
        · refine g2.trans ?_
          rw [q, if_pos (show nI 1 = 1 from rfl)]
          exact p1
      have k3 : ∀ e, e ≠ 63 → e ≠ 59 → e ≠ 77 → ω2 e = τ4 e := fun e h1 h2 h3 => by rw [p3 e h1, z_su_ce h2, d3 e h3, z_su_ce h2]
      have k59 : ∀ j, j ≠ 0 → j ≠ 7 → ω2 59 j = σ 59 j := fun j h0 h7 => by rw [p3 59 (by omega), z_su_j h7, d3 59 (by omega), z_su_j h0, k1 59 (by omega) (by omega) (by omega) (by omega)]
      refine ⟨ω2, ?_, (z_aN A, z_an A, z_as A, A.2.2.2.1, (fun k => (M[k]?).getD 0), some t, A.2.2.2.2.2.2), ⟨ok.1, ok.2.1, ok.2.2.1, ?_⟩, ?_, ?_, Or.inl ⟨?_, ?_⟩⟩
      · simp only [w1, m1, Option.bind_some, if_true]
      · intro t' ht
        have : t = t' := Option.some.inj ht
        subst this
        exact ⟨t3, t1, t4, t5⟩
      · obtain ⟨g1, g2, g3, g4, g5⟩ := hc
        have kk : ∀ e, e < 59 → e ≠ 3 → (e < 8 ∨ 14 < e) → e ≠ 1 → e ≠ 2 → ω2 e = σ e := fun e h h1 h2 h3 h4 => (k3 e (by omega) (by omega) (by omega)).trans (k1 e h1 h2 h3 h4)
        refine ⟨by rw [kk 4 (by omega) (by omega) (by omega) (by omega) (by omega)]; exact g1, z_Sz_e (kk 5 (by omega) (by omega) (by omega) (by omega) (by omega)) (kk 6 (by omega) (by omega) (by omega) (by omega) (by omega)) (kk 7 (by omega) (by omega) (by omega) (by omega) (by omega)) g2, ⟨?_, ?_⟩, ⟨fun hn => by simp at hn, fun t' ht => ?_⟩, z_Cw_e (fun c h1 h2 => kk c (by omega) (by omega) (by omega) (by omega) (by omega)) g5⟩
        · rw [k3 3 (by omega) (by omega) (by omega), ← hσ, z_su_j (by omega), z_su_j (by omega), u6 3 (by omega), c2 3 (by omega) (by omega)]; exact g3.1
        · rw [k3 3 (by omega) (by omega) (by omega), ← hσ, z_su_j (by omega), z_su_j (by omega), u6 3 (by omega), c2 3 (by omega) (by omega)]; exact g3.2
        · have : t = t' := Option.some.inj ht
          subst this
          have k4 : ∀ e, 8 ≤ e → e ≤ 14 → ω2 e = τ3 e := fun e h1 h2 => (k3 e (by omega) (by omega) (by omega)).trans (k2 e (by omega))
          refine ⟨?_, ?_, by rw [k4 12 (by omega) (by omega)]; exact u4, ?_⟩
          · unfold z_Or at *; rw [k4 8 (by omega) (by omega), k4 9 (by omega) (by omega)]; exact u2
          · exact z_Tr_g t 0 (fun j _ _ => by rw [k4 10 (by omega) (by omega), k4 11 (by omega) (by omega)]; exact ⟨rfl, rfl⟩) (fun j _ _ => by rw [k4 12 (by omega) (by omega)]) u3
          · unfold z_Rn at *; rw [k4 14 (by omega) (by omega)]; exact u5
      · obtain ⟨g1, g2, g3, g4, g5⟩ := hr
        have kk : ∀ e, 60 ≤ e → e ≠ 63 → e ≠ 77 → ω2 e = σ e := fun e h h1 h2 => (k3 e h1 (by omega) h2).trans (k1 e (by omega) (by omega) (by omega) (by omega))
        refine ⟨by rw [k59 1 (by omega) (by omega)]; exact g1, z_Sq_e (kk 60 (by omega) (by omega) (by omega)) (kk 61 (by omega) (by omega) (by omega)) (kk 62 (by omega) (by omega) (by omega)) g2, ⟨by rw [k59 5 (by omega) (by omega)]; exact g3.1, by rw [k59 6 (by omega) (by omega)]; exact g3.2⟩, ⟨fun hn => by simp at hn, fun t' ht => ?_⟩, z_Rw_e (k59 9 (by omega) (by omega)) (fun c h1 h2 => kk c (by omega) (by omega) (by omega)) g5⟩
        have : t = t' := Option.some.inj ht
        subst this
        refine ⟨by rw [p3 59 (by omega), z_su_s, t2], fun k hk => ⟨?_, g255 k hk⟩⟩
        rw [p2 k (by omega), if_pos (by omega), z_su_c (by omega)]
        exact row _ d2 k hk
      · rw [k3 3 (by omega) (by omega) (by omega), ← hσ, z_su_j (by omega), z_su_s]
      · rw [k3 3 (by omega) (by omega) (by omega), ← hσ, z_su_s]
    · -- not just one part
      have hq1 : ¬ (nI (z_chk (z_an A) M 0 0 0).2 = 1) := by
        simp only [List.length_nil] at e3
        rw [z_eql (by omega) (by omega)]; exact q
      have ff : rf_Sr_firstFault τ2 = some (nI M.length, τ2) := by
        unfold rf_Sr_firstFault
        refine Eq.trans e2 ?_
        simp only [List.length_nil, if_neg hq1, b2]
      have w1 : rf_Ro_order la lb σ = some (nI M.length, τ2) := by
        unfold rf_Ro_order rf_Sr_clear
        simp only [Option.bind_some, ad1, ad2, ff, if_neg (z_nI_m1 (show M.length < 2147483648 by omega))]
      obtain ⟨ω, d1, d2, d3⟩ := ref τ2 hr2
      have m1 : rf_Mo_order la lb τ2 = some (nI M.length, ω) := by
        unfold rf_Mo_order
        refine (d1 (fun x y m => rf_Mo_order_L27 x (fun (q16y6 : Int32) (q16m : rl_M) => (if q16y6 = 1 then rf_Mo_order_L154 x 10000 0 (rl_su q16m 59 7 x) else some (x, q16m))) 10000 0 0 y m)).trans ?_
        rcases refo τ2 ω hr2 d2 d3 (fun (q16y6 : Int32) (q16m : rl_M) => (if q16y6 = 1 then rf_Mo_order_L154 (nI M.length) 10000 0 (rl_su q16m 59 7 (nI M.length)) else some (nI M.length, q16m))) with ⟨g1, g2⟩ | ⟨g1, g2⟩
        · rw [List.length_nil] at e1; omega
        · refine g2.trans ?_
          simp only [if_neg hq1]
      refine ⟨ω, ?_, z_keep ok hc2 hr2 hf2 ⟨fun c hh => by rw [d3 c (by omega), z_su_ce (by omega)], fun j hj => by rw [d3 59 (by omega), z_su_j (by omega)]⟩⟩
      simp only [w1, m1, Option.bind_some, if_true]
