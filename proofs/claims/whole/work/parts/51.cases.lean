theorem z_ord {σ : rl_M} {A : z_A} (ok : z_Ok A) (hc : z_Cs σ A) (hr : z_Rs σ A) : ∃ m, m ≤ 11 ∧ (σ 8 0 = nI m ∧ ∀ k, k < m → σ 9 k = nI (z_ag A k)) ∧ (σ 59 7 = nI m ∧ ∀ k, k < m → σ 63 k = nI (z_ag A k)) := by
  cases e : z_ao A with
  | none => exact ⟨0, by omega, ⟨(hc.2.2.2.1.1 e).1, fun k hk => by omega⟩, hr.2.2.2.1.1 e, fun k hk => by omega⟩
  | some t =>
    have a := hc.2.2.2.1.2 t e
    have b := hr.2.2.2.1.2 t e
    exact ⟨z_nd t + 1, (ok.2.2.2 t e).1, a.1, b.1, fun k hk => (b.2 k hk).1⟩
theorem z_case13 (P1 P2 P3 P4 : Int32) (σ : rl_M) (h : z_Inv σ) : ∃ τ, lf_13 P1 P2 P3 P4 σ = some τ ∧ z_Inv τ := by
  obtain ⟨A, ok, hc, hr, hf⟩ := h
  have e1 := z_120
  rcases z_i32 P1 with hneg | ⟨k, hk, rfl⟩
  · have h0 : ¬ (0 ≤ P1) := (z_neg hneg 0 (by omega)).2.1
    have w1 : wf_sign P1 σ = some (1, σ) := by
      unfold wf_sign rf_Ro_sign rf_Ro_needNotBelowZero
      simp only [if_neg h0, Option.bind_some, e1.1, if_false, if_true]
    have m1 : rf_Mo_sign P1 σ = some (0, rl_su σ 59 0 1) := by
      unfold rf_Mo_sign rf_Mo_sign_J10
      rw [if_neg h0, z_su_s, if_neg (by decide)]
    exact ⟨_, z_fin w1 m1 (by rw [z_su_s]) (fun h => absurd h (by decide)), z_keep ok hc hr hf z_FX_0⟩
  · obtain ⟨m, hm, ⟨a1, a2⟩, b1, b2⟩ := z_ord ok hc hr
    have h0 := (z_ge0 k hk).1
    by_cases q : k < m
    · have w1 : wf_sign (nI k) σ = some (0, rl_su σ 78 0 (nI (z_ag A k))) := by
        unfold wf_sign rf_Ro_sign rf_Ro_needNotBelowZero
        simp only [if_pos h0, Option.bind_some, if_true, z_sign a1 hm q, a2 k q]
      have m1 : rf_Mo_sign (nI k) (rl_su σ 78 0 (nI (z_ag A k))) = some (nI (z_ag A k), rl_su (rl_su σ 78 0 (nI (z_ag A k))) 59 0 0) := by
        unfold rf_Mo_sign rf_Mo_sign_J10
        have e0 := z_000
        have b3 := b2 k q
        simp (disch := omega) only [h0, z_su_c, z_su_s, z_su_j, e0, b1, b3, z_lt, z_le, z_eq, z_ltl, z_lel, z_llt, z_lle, z_eql, z_add, z_addl, z_ladd, z_mul, z_mull, z_lmul, z_sub, z_subl, z_cl, z_ib, z_nm, z_m1, z_mlt, if_pos, if_neg, ge_iff_le, gt_iff_lt, ite_true, ite_false, if_true, if_false, Option.bind_some, z_10, eq_self]
      exact ⟨_, z_fin w1 m1 (by rw [z_su_s]) (fun _ => by rw [z_su_c (by omega), z_su_s]), z_keep ok hc hr hf (z_FX_8.tr z_FX_0)⟩
    · have hh : rf_St_has (nI k) σ = some (0, σ) := by
        unfold rf_St_has
        simp (disch := omega) only [a1, z_lt, z_le, z_eq, z_ltl, z_lel, z_llt, z_lle, z_eql, z_add, z_addl, z_ladd, z_mul, z_mull, z_lmul, z_sub, z_subl, z_cl, z_ib, z_nm, z_m1, z_mlt, if_pos, if_neg, ge_iff_le, gt_iff_lt, ite_true, ite_false, if_true, if_false, Option.bind_some, z_10, eq_self]
      have w1 : wf_sign (nI k) σ = some (0, rl_su σ 78 0 (-1)) := by
        unfold wf_sign rf_Ro_sign rf_Ro_needNotBelowZero rf_St_signAt
        simp only [if_pos h0, Option.bind_some, if_true, hh]
      have m1 : rf_Mo_sign (nI k) (rl_su σ 78 0 (-1)) = some (-1, rl_su (rl_su σ 78 0 (-1)) 59 0 0) := by
        unfold rf_Mo_sign rf_Mo_sign_J10
        have e0 := z_000
        simp (disch := omega) only [h0, z_su_c, z_su_s, z_su_j, e0, b1, z_lt, z_le, z_eq, z_ltl, z_lel, z_llt, z_lle, z_eql, z_add, z_addl, z_ladd, z_mul, z_mull, z_lmul, z_sub, z_subl, z_cl, z_ib, z_nm, z_m1, z_mlt, if_pos, if_neg, ge_iff_le, gt_iff_lt, ite_true, ite_false, if_true, if_false, Option.bind_some, z_10, eq_self]
      exact ⟨_, z_fin w1 m1 (by rw [z_su_s]) (fun _ => by rw [z_su_c (by omega), z_su_s]), z_keep ok hc hr hf (z_FX_8.tr z_FX_0)⟩
theorem z_case8 (P1 P2 P3 P4 : Int32) (σ : rl_M) (h : z_Inv σ) : ∃ τ, lf_8 P1 P2 P3 P4 σ = some τ ∧ z_Inv τ := by
  obtain ⟨A, ok, hc, hr, hf⟩ := h
  have e1 := z_120
  have hN := ok.1.1
  have bad : wf_wish P1 P2 P3 σ = some (1, σ) → rf_Mo_wish P1 P2 P3 σ = some (0, rl_su σ 59 0 1) → ∃ τ, lf_8 P1 P2 P3 P4 σ = some τ ∧ z_Inv τ := by
    intro h1 h2
    exact ⟨rl_su σ 59 0 1, z_fin h1 h2 (by rw [z_su_s]) (fun h => absurd h (by decide)), z_keep ok hc hr hf z_FX_0⟩
  have J1 : ∀ τ : rl_M, rf_Mo_wish_J35 P1 P2 P3 τ = some (0, rl_su τ 59 0 1) := by
    intro τ
    unfold rf_Mo_wish_J35 rf_Mo_wish_J36 rf_Mo_wish_J62
    rw [if_pos rfl, z_su_s, if_neg (by decide)]
  rcases z_two P1 P2 (z_aN A) (by omega) with ⟨r1, r2, a1, a2, a3, a4, a5, a6, a7, a8⟩ | ⟨a7, a8⟩
  · have a7' := a7 σ hc.1
    have a8' := a8 σ hr.1
    rcases z_wi P3 1 60 (by omega) (by omega) with ⟨l, b1, b2, b3, b4, b5⟩ | ⟨b4, b5⟩
    · have b4' : ∀ σ, rf_Ro_needWithin P3 1 60 σ = some (0, 0, σ) := b4
      have b5' : ∀ σ, rf_Mo_isIn P3 1 60 σ = some (1, σ) := b5
      have hk10 := ok.2.2.1.1
      have hw := hc.2.2.2.2.1
      have hv := hr.2.2.2.2.1
      by_cases q : z_ak A < 10
      · have w1 : wf_wish P1 P2 P3 σ = some (0, rl_su (rl_su (rl_su (rl_su (rl_su σ 20 (z_ak A) P1) 21 (z_ak A) P2) 22 (z_ak A) P3) 19 0 (nI (z_ak A + 1))) 78 0 (nI (z_ak A))) := by
          unfold wf_wish rf_Ro_wish rf_Wl_add
          simp (disch := omega) only [a7', b4', hw, z_lt, z_le, z_eq, z_ltl, z_lel, z_llt, z_lle, z_eql, z_add, z_addl, z_ladd, z_mul, z_mull, z_lmul, z_sub, z_subl, z_cl, z_ib, z_nm, z_m1, z_mlt, if_pos, if_neg, ge_iff_le, gt_iff_lt, ite_true, ite_false, if_true, if_false, Option.bind_some, z_10, eq_self, z_su_c, z_su_s, z_su_j]
        generalize hσ : rl_su (rl_su (rl_su (rl_su (rl_su σ 20 (z_ak A) P1) 21 (z_ak A) P2) 22 (z_ak A) P3) 19 0 (nI (z_ak A + 1))) 78 0 (nI (z_ak A)) = σ2 at w1
        have g1 : ∀ c, c ≠ 19 → c ≠ 20 → c ≠ 21 → c ≠ 22 → c ≠ 78 → σ2 c = σ c := fun c h1 h2 h3 h4 h5 => by
          rw [← hσ, z_su_ce h5, z_su_ce h1, z_su_ce h4, z_su_ce h3, z_su_ce h2]
        have a8'' := a8 σ2 (by rw [g1 59 (by omega) (by omega) (by omega) (by omega) (by omega)]; exact hr.1)
        have hv' : σ2 59 9 = nI (z_ak A) := by rw [g1 59 (by omega) (by omega) (by omega) (by omega) (by omega)]; exact hv
        have m1 : rf_Mo_wish P1 P2 P3 σ2 = some (nI (z_ak A), rl_su (rl_su (rl_su (rl_su (rl_su σ2 59 0 0) 64 (z_ak A) P1) 65 (z_ak A) P2) 66 (z_ak A) P3) 59 9 (nI (z_ak A + 1))) := by
          unfold rf_Mo_wish rf_Mo_wish_J36 rf_Mo_wish_J62
          have e0 := z_000
          simp (disch := omega) only [a8''.1, a8''.2, a6, b5', hv', z_lt, z_le, z_eq, z_ltl, z_lel, z_llt, z_lle, z_eql, z_add, z_addl, z_ladd, z_mul, z_mull, z_lmul, z_sub, z_subl, z_cl, z_ib, z_nm, z_m1, z_mlt, if_pos, if_neg, ge_iff_le, gt_iff_lt, ite_true, ite_false, if_true, if_false, Option.bind_some, z_10, eq_self, z_su_c, z_su_s, z_su_j, e0, Nat.add_sub_cancel]
        generalize hτ : rl_su (rl_su (rl_su (rl_su (rl_su σ2 59 0 0) 64 (z_ak A) P1) 65 (z_ak A) P2) 66 (z_ak A) P3) 59 9 (nI (z_ak A + 1)) = τ at m1
        have g2 : ∀ c, c ≠ 19 → c ≠ 20 → c ≠ 21 → c ≠ 22 → c ≠ 78 → c ≠ 59 → c ≠ 64 → c ≠ 65 → c ≠ 66 → τ c = σ c := fun c h1 h2 h3 h4 h5 h6 h7 h8 h9 => by
          rw [← hτ, z_su_ce h6, z_su_ce h9, z_su_ce h8, z_su_ce h7, z_su_ce h6]; exact g1 c h1 h2 h3 h4 h5
        have g59 : ∀ j, j ≠ 0 → j ≠ 9 → τ 59 j = σ 59 j := fun j hj h9 => by
          rw [← hτ, z_su_j h9, z_su_c (by omega), z_su_c (by omega), z_su_c (by omega), z_su_j hj, g1 59 (by omega) (by omega) (by omega) (by omega) (by omega)]
        refine ⟨τ, z_fin w1 m1 ?_ (fun _ => ?_), (z_aN A, z_an A, z_as A, A.2.2.2.1, z_ag A, z_ao A, z_ak A + 1, fun i => if i = z_ak A then r1 else z_a1 A i, fun i => if i = z_ak A then r2 else z_a2 A i, fun i => if i = z_ak A then l else z_a3 A i), ⟨ok.1, ok.2.1, ⟨?_, ?_⟩, ok.2.2.2⟩, ?_, ?_, ?_⟩
        · rw [← hτ]; simp (disch := omega) only [z_su_c, z_su_s, z_su_j]
        · rw [← hτ, z_su_c (by omega), z_su_c (by omega), z_su_c (by omega), z_su_c (by omega), z_su_c (by omega), ← hσ, z_su_s]
        · show z_ak A + 1 ≤ 10; omega
        · intro i hi
          have hi' : i < z_ak A + 1 := hi
          show (if i = z_ak A then r1 else z_a1 A i) < z_aN A ∧ (if i = z_ak A then r2 else z_a2 A i) < z_aN A ∧ 1 ≤ (if i = z_ak A then l else z_a3 A i) ∧ (if i = z_ak A then l else z_a3 A i) ≤ 60
          by_cases e : i = z_ak A
          · rw [if_pos e, if_pos e, if_pos e]; exact ⟨a1, a2, b1, b2⟩
          · rw [if_neg e, if_neg e, if_neg e]; exact ok.2.2.1.2 i (by omega)
        · obtain ⟨c1, c2, c3, c4, c5⟩ := hc
          refine ⟨by rw [g2 4 (by omega) (by omega) (by omega) (by omega) (by omega) (by omega) (by omega) (by omega) (by omega)]; exact c1, z_Sz_e (g2 5 (by omega) (by omega) (by omega) (by omega) (by omega) (by omega) (by omega) (by omega) (by omega)) (g2 6 (by omega) (by omega) (by omega) (by omega) (by omega) (by omega) (by omega) (by omega) (by omega)) (g2 7 (by omega) (by omega) (by omega) (by omega) (by omega) (by omega) (by omega) (by omega) (by omega)) c2, by rw [g2 3 (by omega) (by omega) (by omega) (by omega) (by omega) (by omega) (by omega) (by omega) (by omega)]; exact c3, z_Co1_e (fun c h1 h2 => g2 c (by omega) (by omega) (by omega) (by omega) (by omega) (by omega) (by omega) (by omega) (by omega)) c4, ⟨?_, ?_⟩⟩
          · show τ 19 0 = nI (z_ak A + 1)
            rw [← hτ, z_su_c (by omega), z_su_c (by omega), z_su_c (by omega), z_su_c (by omega), z_su_c (by omega), ← hσ, z_su_c (by omega), z_su_s]
          · intro i hi
            have hi' : i < z_ak A + 1 := hi
            show τ 20 i = nI (if i = z_ak A then r1 else z_a1 A i) ∧ τ 21 i = nI (if i = z_ak A then r2 else z_a2 A i) ∧ τ 22 i = nI (if i = z_ak A then l else z_a3 A i)
            rw [← hτ, z_su_ce (show (20 : Nat) ≠ 59 by omega), z_su_ce (show (20 : Nat) ≠ 66 by omega), z_su_ce (show (20 : Nat) ≠ 65 by omega), z_su_ce (show (20 : Nat) ≠ 64 by omega), z_su_ce (show (20 : Nat) ≠ 59 by omega), z_su_ce (show (21 : Nat) ≠ 59 by omega), z_su_ce (show (21 : Nat) ≠ 66 by omega), z_su_ce (show (21 : Nat) ≠ 65 by omega), z_su_ce (show (21 : Nat) ≠ 64 by omega), z_su_ce (show (21 : Nat) ≠ 59 by omega), z_su_ce (show (22 : Nat) ≠ 59 by omega), z_su_ce (show (22 : Nat) ≠ 66 by omega), z_su_ce (show (22 : Nat) ≠ 65 by omega), z_su_ce (show (22 : Nat) ≠ 64 by omega), z_su_ce (show (22 : Nat) ≠ 59 by omega), ← hσ]
            by_cases e : i = z_ak A
            · subst e
              simp (disch := omega) only [z_su_c, z_su_s, z_su_j, if_true]
              exact ⟨a4, a5, b3⟩
            · simp (disch := omega) only [z_su_c, z_su_s, z_su_j, if_neg e]
              exact c5.2 i (by omega)
        · obtain ⟨c1, c2, c3, c4, c5⟩ := hr
          refine ⟨by rw [g59 1 (by omega) (by omega)]; exact c1, z_Sq_e (g2 60 (by omega) (by omega) (by omega) (by omega) (by omega) (by omega) (by omega) (by omega) (by omega)) (g2 61 (by omega) (by omega) (by omega) (by omega) (by omega) (by omega) (by omega) (by omega) (by omega)) (g2 62 (by omega) (by omega) (by omega) (by omega) (by omega) (by omega) (by omega) (by omega) (by omega)) c2, ⟨by rw [g59 5 (by omega) (by omega)]; exact c3.1, by rw [g59 6 (by omega) (by omega)]; exact c3.2⟩, z_Ro1_e (g59 7 (by omega) (by omega)) (g2 63 (by omega) (by omega) (by omega) (by omega) (by omega) (by omega) (by omega) (by omega) (by omega)) c4, ⟨?_, ?_⟩⟩
          · show τ 59 9 = nI (z_ak A + 1)
            rw [← hτ, z_su_s]
          · intro i hi
            have hi' : i < z_ak A + 1 := hi
            show τ 64 i = nI (if i = z_ak A then r1 else z_a1 A i) ∧ τ 65 i = nI (if i = z_ak A then r2 else z_a2 A i) ∧ τ 66 i = nI (if i = z_ak A then l else z_a3 A i)
            have g64 := g1 64 (by omega) (by omega) (by omega) (by omega) (by omega)
            have g65 := g1 65 (by omega) (by omega) (by omega) (by omega) (by omega)
            have g66 := g1 66 (by omega) (by omega) (by omega) (by omega) (by omega)
            rw [← hτ]
            by_cases e : i = z_ak A
            · subst e
              simp (disch := omega) only [z_su_c, z_su_s, z_su_j, if_true]
              exact ⟨a4, a5, b3⟩
            · simp (disch := omega) only [z_su_c, z_su_s, z_su_j, if_neg e, g64, g65, g66]
              exact c5.2 i (by omega)
        · have ff : z_Fg τ A := z_Fg_l ok (fun c hh => g2 c (by omega) (by omega) (by omega) (by omega) (by omega) (by omega) (by omega) (by omega) (by omega)) hf
          exact ff
      · have w1 : wf_wish P1 P2 P3 σ = some (2, σ) := by
          unfold wf_wish rf_Ro_wish
          simp (disch := omega) only [a7', b4', hw, z_lt, z_le, z_eq, z_ltl, z_lel, z_llt, z_lle, z_eql, z_add, z_addl, z_ladd, z_mul, z_mull, z_lmul, z_sub, z_subl, z_cl, z_ib, z_nm, z_m1, z_mlt, if_pos, if_neg, ge_iff_le, gt_iff_lt, ite_true, ite_false, if_true, if_false, Option.bind_some, z_10, eq_self]
        have m1 : rf_Mo_wish P1 P2 P3 σ = some (0, rl_su σ 59 0 2) := by
          unfold rf_Mo_wish rf_Mo_wish_J36 rf_Mo_wish_J62
          have e0 := z_102
          simp (disch := omega) only [a8'.1, a8'.2, a6, b5', hv, z_lt, z_le, z_eq, z_ltl, z_lel, z_llt, z_lle, z_eql, z_add, z_addl, z_ladd, z_mul, z_mull, z_lmul, z_sub, z_subl, z_cl, z_ib, z_nm, z_m1, z_mlt, if_pos, if_neg, ge_iff_le, gt_iff_lt, ite_true, ite_false, if_true, if_false, Option.bind_some, z_10, eq_self, z_su_c, z_su_s, z_su_j, e0]
        exact ⟨rl_su σ 59 0 2, z_fin w1 m1 (by rw [z_su_s]) (fun h => absurd h (by decide)), z_keep ok hc hr hf z_FX_0⟩
    · have b4' : ∀ σ, rf_Ro_needWithin P3 1 60 σ = some (1, 0, σ) := b4
      have b5' : ∀ σ, rf_Mo_isIn P3 1 60 σ = some (0, σ) := b5
      refine bad ?_ ?_
      · unfold wf_wish rf_Ro_wish
        simp only [a7', b4', Option.bind_some, if_true, e1.1, if_false]
      · unfold rf_Mo_wish
        simp only [a8'.1, a8'.2, a6, b5', Option.bind_some, z_10, if_false, if_true, J1]
  · have a7' := a7 σ hc.1
    refine bad ?_ ?_
    · unfold wf_wish rf_Ro_wish
      simp only [a7', Option.bind_some, e1.1, if_false, if_true]
    · unfold rf_Mo_wish
      rcases a8 σ hr.1 with a | ⟨a, a | ⟨a', a''⟩⟩
      · simp only [a, Option.bind_some, if_true, J1]
      · rename_i b
        simp only [b, a, Option.bind_some, z_10, if_false, if_true, J1]
      · simp only [a, a', if_pos a'', Option.bind_some, z_10, if_false, if_true, J1]
theorem z_bo_ev {A : z_A} {t : Lean.Data.AC.Expr} {c : Nat → Nat} {p : Nat × Nat} (ok : z_Ok A) (h : z_BO (z_Pa A) p) (hb : z_Ba A t c) : p = z_ev (z_ag A) (z_as A) c 0 t := by
  have rk := ok.rk hb.1
  refine z_bo_u rk ⟨(z_Pa_some hb.1 p).mp h.1, fun q hq => h.2 q ((z_Pa_some hb.1 q).mpr hq)⟩ (z_best_bo rk hb.2)
theorem z_Ba_Pa {A : z_A} {t : Lean.Data.AC.Expr} {c : Nat → Nat} (ok : z_Ok A) (hb : z_Ba A t c) : z_Pa A (z_ev (z_ag A) (z_as A) c 0 t) :=
  ⟨t, hb.1, z_Pf_ev (ok.rk hb.1) hb.2.1 hb.2.2.1⟩
theorem z_FC_78 {σ τ : rl_M} {A : z_A} (h : z_FC σ τ) (hr : z_Rs σ A) : z_Rs τ A := z_Rs_c (fun c h1 h2 => h.1 c (by omega)) hr
theorem z_case4 (P1 P2 P3 P4 : Int32) (σ : rl_M) (h : z_Inv σ) : ∃ τ, lf_4 P1 P2 P3 P4 σ = some τ ∧ z_Inv τ := by
  obtain ⟨A, ok, hc, hr, hf⟩ := h
  have e1 := z_120
  rcases z_wi P1 0 2 (by omega) (by omega) with ⟨k, a1, a2, a3, a4, a5⟩ | ⟨a4, a5⟩
  · have a4' : ∀ σ, rf_Ro_needWithin P1 0 2 σ = some (0, 0, σ) := a4
    have a5' : ∀ σ, rf_Mo_isIn P1 0 2 σ = some (1, σ) := a5
    obtain ⟨τ, t1, t2, t3, t4, t5, t6⟩ := z_M ok hc hf
    have hr1 := z_FC_78 t6 hr
    have ref : ∀ v : Int32, ∃ υ, rf_Mo_findBest (rl_su (rl_su τ 78 0 v) 59 0 0) = some (0, υ) ∧ z_Fd υ A ∧ z_FX τ υ ∧ υ 59 0 = 0 ∧ υ 78 0 = v := by
      intro v
      obtain ⟨υ, u1, u2, u3, u4⟩ := z_Fb ok (z_Rs_x (z_FX_8.tr z_FX_0) hr1 : z_Rs (rl_su (rl_su τ 78 0 v) 59 0 0) A)
      exact ⟨υ, u1, u3, (z_FX_8.tr z_FX_0).tr u4.fx, by rw [u4.2 0 (by omega) (by omega) (by omega), z_su_s], by rw [u4.1 78 (by omega), z_su_c (by omega), z_su_s]⟩
    rcases z_bo t5 with ⟨b1, b2⟩ | ⟨i, p, b1, b2, b3, b4, b5⟩
    · have w1 : wf_best P1 σ = some (0, rl_su τ 78 0 (-1)) := by
        unfold wf_best rf_Ro_best
        simp only [a4', t1, z_hb0 b1, Option.bind_some, if_true]
      obtain ⟨υ, u1, u2, u3, u4, u5⟩ := ref (-1)
      rcases u2 with ⟨c1, c2⟩ | ⟨t, c, c1, c2⟩
      · have m1 : rf_Mo_best P1 (rl_su τ 78 0 (-1)) = some (-1, υ) := by
          unfold rf_Mo_best rf_Mo_best_J15
          simp only [a5', Option.bind_some, z_10, if_false, z_su_s, if_pos z_000, u1, c1, if_true]
        exact ⟨υ, z_fin w1 m1 u4 (fun _ => u5), z_keep ok t2 hr1 t3 u3⟩
      · exact (b2 _ (z_Ba_Pa ok c1)).elim
    · have hbb := z_hb1 b1 b2
      have bp := b3.1
      obtain ⟨t, et, hpf⟩ := bp
      have p1 := z_Pf_1 (ok.rk et) hpf
      have pW := hpf.2
      have bW := ok.2.1
      have bw : rf_Pl_bestWidth τ = some (nI p.1, τ) := by unfold rf_Pl_bestWidth; rw [b4]; rfl
      have bh : rf_Pl_bestHeight τ = some (nI p.2, τ) := by unfold rf_Pl_bestHeight; rw [b5]; rfl
      have ba : rf_Pl_bestArea τ = some (nI (p.1 * p.2), τ) := by
        unfold rf_Pl_bestArea
        simp only [hbb, bw, bh, Option.bind_some, z_10, if_false, z_mul]
      have k3 : k = 0 ∨ k = 1 ∨ k = 2 := by omega
      have fin : ∀ v : Int32, wf_best P1 σ = some (0, rl_su τ 78 0 v) → (∀ υ : rl_M, υ 59 16 = nI p.1 → υ 59 17 = nI p.2 → (if P1 = 0 then some ((υ 59 16) * (υ 59 17), υ) else (if P1 = 1 then some (υ 59 16, υ) else some (υ 59 17, υ))) = some (v, υ)) → ∃ τ, lf_4 P1 P2 P3 P4 σ = some τ ∧ z_Inv τ := by
        intro v w1 hv
        obtain ⟨υ, u1, u2, u3, u4, u5⟩ := ref v
        rcases u2 with ⟨c1, c2⟩ | ⟨t', c, c1, c2, c3, c4, c5⟩
        · exact (c2 _ b3.1).elim
        · have pe := z_bo_ev ok b3 c1
          rw [← pe] at c3 c4
          have m1 : rf_Mo_best P1 (rl_su τ 78 0 v) = some (v, υ) := by
            unfold rf_Mo_best rf_Mo_best_J15
            simp only [a5', Option.bind_some, z_10, if_false, z_su_s, if_pos z_000, u1, c2]
            exact hv υ c3 c4
          exact ⟨υ, z_fin w1 m1 u4 (fun _ => u5), z_keep ok t2 hr1 t3 u3⟩
      have q10 : ¬ ((nI 1 : Int32) = 0) := by decide
      have q20 : ¬ ((nI 2 : Int32) = 0) := by decide
      have q21 : ¬ ((nI 2 : Int32) = 1) := by decide
      rcases k3 with rfl | rfl | rfl
      · refine fin (nI (p.1 * p.2)) ?_ (fun υ h16 h17 => ?_)
        · unfold wf_best rf_Ro_best
          simp only [a4', t1, hbb, ba, Option.bind_some, if_true, z_10, if_false]
          rw [a3]; rfl
        · rw [a3, h16, h17, z_mul]; rfl
      · refine fin (nI p.1) ?_ (fun υ h16 h17 => ?_)
        · unfold wf_best rf_Ro_best
          simp only [a4', t1, hbb, bw, Option.bind_some, if_true, z_10, if_false]
          rw [a3, if_neg q10]; rfl
        · rw [a3, h16, h17, if_neg q10]; rfl
      · refine fin (nI p.2) ?_ (fun υ h16 h17 => ?_)
        · unfold wf_best rf_Ro_best
          simp only [a4', t1, hbb, bh, Option.bind_some, if_true, z_10, if_false]
          rw [a3, if_neg q20, if_neg q21]; rfl
        · rw [a3, h16, h17, if_neg q20, if_neg q21]
  · have a4' : ∀ σ, rf_Ro_needWithin P1 0 2 σ = some (1, 0, σ) := a4
    have a5' : ∀ σ, rf_Mo_isIn P1 0 2 σ = some (0, σ) := a5
    have w1 : wf_best P1 σ = some (1, σ) := by
      unfold wf_best rf_Ro_best
      simp only [a4', Option.bind_some, e1.1, if_false, if_true]
    have m1 : rf_Mo_best P1 σ = some (0, rl_su σ 59 0 1) := by
      unfold rf_Mo_best rf_Mo_best_J15
      simp only [a5', Option.bind_some, if_true, z_su_s, if_neg z_101]
    exact ⟨_, z_fin w1 m1 (by rw [z_su_s]) (fun h => absurd h (by decide)), z_keep ok hc hr hf z_FX_0⟩
theorem z_case6 (P1 P2 P3 P4 : Int32) (σ : rl_M) (h : z_Inv σ) : ∃ τ, lf_6 P1 P2 P3 P4 σ = some τ ∧ z_Inv τ := by
  obtain ⟨A, ok, hc, hr, hf⟩ := h
  have e1 := z_120
  rcases z_i32 P1 with hneg | ⟨k, hk, rfl⟩
  · have h0 : ¬ (0 ≤ P1) := (z_neg hneg 0 (by omega)).2.1
    have w1 : wf_outline P1 P2 σ = some (1, σ) := by
      unfold wf_outline rf_Ro_outline rf_Ro_needNotBelowZero
      simp only [if_neg h0, Option.bind_some, e1.1, if_false, if_true]
    have m1 : rf_Mo_outline P1 P2 σ = some (0, rl_su σ 59 0 1) := by
      unfold rf_Mo_outline
      rw [if_pos hneg, z_su_s, if_neg z_101]
    exact ⟨_, z_fin w1 m1 (by rw [z_su_s]) (fun h => absurd h (by decide)), z_keep ok hc hr hf z_FX_0⟩
  · have h0 := z_ge0 k hk
    rcases z_wi P2 0 1 (by omega) (by omega) with ⟨j, a1, a2, a3, a4, a5⟩ | ⟨a4, a5⟩
    · have a4' : ∀ σ, rf_Ro_needWithin P2 0 1 σ = some (0, 0, σ) := a4
      have hj : P2 = 0 ∨ P2 = 1 := by
        have : j = 0 ∨ j = 1 := by omega
        rcases this with rfl | rfl
        · exact Or.inl a3
        · exact Or.inr a3
      obtain ⟨τ, t1, t2, t3, t4, t5, t6⟩ := z_M ok hc hf
      have hr1 := z_FC_78 t6 hr
      obtain ⟨F, y, f1, f2, f3, f4⟩ := t5
      -- the class's answer
      have cls : ∃ v, wf_outline (nI k) P2 σ = some (0, rl_su τ 78 0 v) ∧ (∀ p, F[k]? = some p → v = if P2 = 0 then nI p.1 else nI p.2) ∧ (F[k]? = none → v = -1) := by
        have f1' := f1.1
        cases hg : F[k]? with
        | none =>
          have hlen : F.length ≤ k := List.getElem?_eq_none_iff.mp hg
          refine ⟨-1, ?_, fun p hp => by simp at hp, fun _ => rfl⟩
          have wa : rf_Cu_widthAt 56 (nI k) τ = some (-1, τ) := by
            unfold rf_Cu_widthAt
            simp (disch := omega) only [f1', z_lt, z_le, z_eq, z_ltl, z_lel, z_llt, z_lle, z_eql, z_add, z_addl, z_ladd, z_mul, z_mull, z_lmul, z_sub, z_subl, z_cl, z_ib, z_nm, z_m1, z_mlt, if_pos, if_neg, ge_iff_le, gt_iff_lt, ite_true, ite_false, if_true, if_false, Option.bind_some, z_10, eq_self]
          have ha : rf_Cu_heightAt 56 (nI k) τ = some (-1, τ) := by
            unfold rf_Cu_heightAt
            simp (disch := omega) only [f1', z_lt, z_le, z_eq, z_ltl, z_lel, z_llt, z_lle, z_eql, z_add, z_addl, z_ladd, z_mul, z_mull, z_lmul, z_sub, z_subl, z_cl, z_ib, z_nm, z_m1, z_mlt, if_pos, if_neg, ge_iff_le, gt_iff_lt, ite_true, ite_false, if_true, if_false, Option.bind_some, z_10, eq_self]
          unfold wf_outline rf_Ro_outline rf_Ro_needNotBelowZero
          rcases hj with rfl | rfl
          · simp only [if_pos h0.1, Option.bind_some, if_true, a4', t1, wa]
          · simp only [if_pos h0.1, Option.bind_some, if_true, a4', t1, z_10, if_false, ha]
        | some p =>
          have hlen : k < F.length := (List.getElem?_eq_some_iff.mp hg).1
          have hm := f1.2 k p hg
          have hm1 := hm.1
          have hm2 := hm.2
          refine ⟨if P2 = 0 then nI p.1 else nI p.2, ?_, fun q hq => by rw [← Option.some.inj hq], fun h => by simp at h⟩
          have wa : rf_Cu_widthAt 56 (nI k) τ = some (nI p.1, τ) := by
            unfold rf_Cu_widthAt
            simp (disch := omega) only [f1', hm1, z_lt, z_le, z_eq, z_ltl, z_lel, z_llt, z_lle, z_eql, z_add, z_addl, z_ladd, z_mul, z_mull, z_lmul, z_sub, z_subl, z_cl, z_ib, z_nm, z_m1, z_mlt, if_pos, if_neg, ge_iff_le, gt_iff_lt, ite_true, ite_false, if_true, if_false, Option.bind_some, z_10, eq_self]
          have ha : rf_Cu_heightAt 56 (nI k) τ = some (nI p.2, τ) := by
            unfold rf_Cu_heightAt
            simp (disch := omega) only [f1', hm2, z_lt, z_le, z_eq, z_ltl, z_lel, z_llt, z_lle, z_eql, z_add, z_addl, z_ladd, z_mul, z_mull, z_lmul, z_sub, z_subl, z_cl, z_ib, z_nm, z_m1, z_mlt, if_pos, if_neg, ge_iff_le, gt_iff_lt, ite_true, ite_false, if_true, if_false, Option.bind_some, z_10, eq_self]
          unfold wf_outline rf_Ro_outline rf_Ro_needNotBelowZero
          rcases hj with rfl | rfl
          · simp only [if_pos h0.1, Option.bind_some, if_true, a4', t1, wa]
          · simp only [if_pos h0.1, Option.bind_some, if_true, a4', t1, z_10, if_false, ha]
      obtain ⟨v, w1, w2, w3⟩ := cls
      have same : ∀ v', (∀ p, F[k]? = some p → v' = if P2 = 0 then nI p.1 else nI p.2) → (F[k]? = none → v' = -1) → v = v' := by
        intro v' h1 h2
        cases hg : F[k]? with
        | none => rw [w3 hg, h2 hg]
        | some p => rw [w2 p hg, h1 p hg]
      have hr2 : z_Rs (rl_su τ 78 0 v) A := z_Rs_x z_FX_8 hr1
      cases e : z_ao A with
      | none =>
        obtain ⟨υ, u1, u2⟩ := z_outR0 (σ := rl_su τ 78 0 v) hj hk (hr2.2.2.2.1.1 e)
        have hF : F = [] := by
          cases F with
          | nil => rfl
          | cons p F => exact ((z_Pa_none e p).mp (f3.1 p (by simp))).elim
        have hv := same (-1) (fun p hp => by rw [hF] at hp; simp at hp) (fun _ => rfl)
        refine ⟨υ, z_fin w1 u1 ?_ (fun _ => ?_), z_keep ok t2 hr1 t3 ((z_FX_8.tr z_FX_0).tr u2.fx)⟩
        · rw [u2.2 0 (by omega) (by omega) (by omega), z_su_s]
        · rw [u2.1 78 (by omega), z_su_c (by omega), z_su_s, hv]
      | some t =>
        obtain ⟨v', υ, u1, u2, u3, u4⟩ := z_outR (σ := rl_su τ 78 0 v) hj hk (ok.rk e) (hr2.rc ok e) f2 (z_Rep_x f3 (z_Pa_some e))
        have hv := same v' u2 u3
        refine ⟨υ, z_fin w1 u1 ?_ (fun _ => ?_), z_keep ok t2 hr1 t3 ((z_FX_8.tr z_FX_0).tr u4.fx)⟩
        · rw [u4.2 0 (by omega) (by omega) (by omega), z_su_s]
        · rw [u4.1 78 (by omega), z_su_c (by omega), z_su_s, hv]
    · have a4' : ∀ σ, rf_Ro_needWithin P2 0 1 σ = some (1, 0, σ) := a4
      have a5' : ∀ σ, rf_Mo_isIn P2 0 1 σ = some (0, σ) := a5
      have w1 : wf_outline (nI k) P2 σ = some (1, σ) := by
        unfold wf_outline rf_Ro_outline rf_Ro_needNotBelowZero
        simp only [if_pos h0.1, a4', Option.bind_some, e1.1, if_false, if_true]
      have m1 : rf_Mo_outline (nI k) P2 σ = some (0, rl_su σ 59 0 1) := by
        unfold rf_Mo_outline
        rw [if_neg h0.2, a5']
        simp only [Option.bind_some, if_true, z_su_s, if_neg z_101]
      exact ⟨_, z_fin w1 m1 (by rw [z_su_s]) (fun h => absurd h (by decide)), z_keep ok hc hr hf z_FX_0⟩
