theorem z_Sz_e {σ τ : rl_M} {n : Nat → Nat} {s : Nat → Nat → Nat × Nat} (e5 : τ 5 = σ 5) (e6 : τ 6 = σ 6) (e7 : τ 7 = σ 7) (h : z_Sz σ n s) : z_Sz τ n s := by
  unfold z_Sz at *; rw [e5, e6, e7]; exact h
theorem z_Co1_e {σ τ : rl_M} {g : Nat → Nat} {o : Option Lean.Data.AC.Expr} (e : ∀ c, 8 ≤ c → c ≤ 14 → τ c = σ c) (h : z_Co1 σ g o) : z_Co1 τ g o := by
  refine ⟨fun hn => ?_, fun t ht => ?_⟩
  · rw [e 8 (by omega) (by omega), e 14 (by omega) (by omega)]; exact h.1 hn
  · obtain ⟨a1, a2, a3, a4⟩ := h.2 t ht
    refine ⟨?_, ?_, by rw [e 12 (by omega) (by omega)]; exact a3, ?_⟩
    · unfold z_Or at *; rw [e 8 (by omega) (by omega), e 9 (by omega) (by omega)]; exact a1
    · exact z_Tr_g t 0 (fun j _ _ => by rw [e 10 (by omega) (by omega), e 11 (by omega) (by omega)]; exact ⟨rfl, rfl⟩) (fun j _ _ => by rw [e 12 (by omega) (by omega)]) a2
    · unfold z_Rn at *; rw [e 14 (by omega) (by omega)]; exact a4
theorem z_Cw_e {σ τ : rl_M} {k : Nat} {a1 a2 a3 : Nat → Nat} (e : ∀ c, 19 ≤ c → c ≤ 22 → τ c = σ c) (h : z_Cw σ k a1 a2 a3) : z_Cw τ k a1 a2 a3 := by
  unfold z_Cw at *; rw [e 19 (by omega) (by omega), e 20 (by omega) (by omega), e 21 (by omega) (by omega), e 22 (by omega) (by omega)]; exact h
theorem z_Sq_e {σ τ : rl_M} {n : Nat → Nat} {s : Nat → Nat → Nat × Nat} (e5 : τ 60 = σ 60) (e6 : τ 61 = σ 61) (e7 : τ 62 = σ 62) (h : z_Sq σ n s) : z_Sq τ n s := by
  unfold z_Sq at *; rw [e5, e6, e7]; exact h
theorem z_Ro1_e {σ τ : rl_M} {g : Nat → Nat} {o : Option Lean.Data.AC.Expr} (e7 : τ 59 7 = σ 59 7) (e63 : τ 63 = σ 63) (h : z_Ro1 σ g o) : z_Ro1 τ g o := by
  refine ⟨fun hn => by rw [e7]; exact h.1 hn, fun t ht => ?_⟩
  have := h.2 t ht
  unfold z_Mo at *; rw [e7, e63]; exact this
theorem z_Rw_e {σ τ : rl_M} {k : Nat} {a1 a2 a3 : Nat → Nat} (e9 : τ 59 9 = σ 59 9) (e : ∀ c, 64 ≤ c → c ≤ 66 → τ c = σ c) (h : z_Rw σ k a1 a2 a3) : z_Rw τ k a1 a2 a3 := by
  unfold z_Rw at *; rw [e9, e 64 (by omega) (by omega), e 65 (by omega) (by omega), e 66 (by omega) (by omega)]; exact h
theorem z_120 : ¬ ((1 : Nat) = 0) ∧ ¬ ((2 : Nat) = 0) ∧ ¬ ((2 : Nat) = 1) := by omega
/-- two rooms, or not: both sides see it -/
theorem z_two (x y : Int32) (N : Nat) (hN : N ≤ 1000) :
    (∃ r1 r2, r1 < N ∧ r2 < N ∧ r1 ≠ r2 ∧ x = nI r1 ∧ y = nI r2 ∧ ¬ x = y ∧ (∀ σ : rl_M, σ 4 0 = nI N → rf_Ro_needTwoRooms x y σ = some (0, 0, σ)) ∧ ∀ σ : rl_M, σ 59 1 = nI N → rf_Mo_isRoom x σ = some (1, σ) ∧ rf_Mo_isRoom y σ = some (1, σ)) ∨
    ((∀ σ : rl_M, σ 4 0 = nI N → rf_Ro_needTwoRooms x y σ = some (1, 0, σ)) ∧ ∀ σ : rl_M, σ 59 1 = nI N → rf_Mo_isRoom x σ = some (0, σ) ∨ (rf_Mo_isRoom x σ = some (1, σ) ∧ (rf_Mo_isRoom y σ = some (0, σ) ∨ (rf_Mo_isRoom y σ = some (1, σ) ∧ x = y)))) := by
  have e1 := z_120
  rcases z_wr x N hN with ⟨r1, a1, a2, a3, a4, a5, a6⟩ | ⟨a3, a4, a5, a6⟩
  · rcases z_wr y N hN with ⟨r2, b1, b2, b3, b4, b5, b6⟩ | ⟨b3, b4, b5, b6⟩
    · by_cases q : x = y
      · right
        refine ⟨fun σ h => ?_, fun σ h => Or.inr ⟨a5 σ h, Or.inr ⟨b5 σ h, q⟩⟩⟩
        unfold rf_Ro_needTwoRooms
        simp only [a4 σ h, b4 σ h, Option.bind_some, if_true, if_pos q]
      · left
        refine ⟨r1, r2, a1, b1, fun e => q (by rw [a2, b2, e]), a2, b2, q, fun σ h => ?_, fun σ h => ⟨a5 σ h, b5 σ h⟩⟩
        unfold rf_Ro_needTwoRooms
        simp only [a4 σ h, b4 σ h, Option.bind_some, if_true, if_neg q]
    · right
      refine ⟨fun σ h => ?_, fun σ h => Or.inr ⟨a5 σ h, Or.inl (b5 σ h)⟩⟩
      unfold rf_Ro_needTwoRooms
      simp only [a4 σ h, b4 σ h, Option.bind_some, if_true, e1.1, if_false]
  · right
    refine ⟨fun σ h => ?_, fun σ h => Or.inl (a5 σ h)⟩
    unfold rf_Ro_needTwoRooms
    simp only [a4 σ h, Option.bind_some, e1.1, if_false]
theorem z_case2 (P1 P2 P3 P4 : Int32) (σ : rl_M) (h : z_Inv σ) : ∃ τ, lf_2 P1 P2 P3 P4 σ = some τ ∧ z_Inv τ := by
  obtain ⟨A, ok, hc, hr, hf⟩ := h
  have e1 := z_120
  have bad : wf_lot P1 P2 σ = some (1, σ) → rf_Mo_lot P1 P2 σ = some (0, rl_su σ 59 0 1) → ∃ τ, lf_2 P1 P2 P3 P4 σ = some τ ∧ z_Inv τ := by
    intro h1 h2
    refine ⟨rl_su σ 59 0 1, ?_, z_keep ok hc hr hf z_FX_0⟩
    unfold lf_2
    rw [h1]
    simp only [Option.bind_some, h2, rf_Mo_thrown, z_su_s, if_true]
  have J1 : ∀ τ : rl_M, rf_Mo_lot_J27 P1 P2 τ = some (0, rl_su τ 59 0 1) := by
    intro τ
    unfold rf_Mo_lot_J27 rf_Mo_lot_J28
    rw [z_su_s, if_neg (by decide)]
  rcases z_wi P1 1 400 (by omega) (by omega) with ⟨w, a1, a2, a3, a4, a5⟩ | ⟨a4, a5⟩
  · have a4' : ∀ σ, rf_Ro_needWithin P1 1 400 σ = some (0, 0, σ) := a4
    have a5' : ∀ σ, rf_Mo_isIn P1 1 400 σ = some (1, σ) := a5
    rcases z_wi P2 1 400 (by omega) (by omega) with ⟨h, b1, b2, b3, b4, b5⟩ | ⟨b4, b5⟩
    · have b4' : ∀ σ, rf_Ro_needWithin P2 1 400 σ = some (0, 0, σ) := b4
      have b5' : ∀ σ, rf_Mo_isIn P2 1 400 σ = some (1, σ) := b5
      have w1 : wf_lot P1 P2 σ = some (0, rl_su (rl_su (rl_su (rl_su σ 3 2 P1) 3 3 P2) 3 4 0) 3 5 0) := by
        unfold wf_lot rf_Ro_lot rf_Pl_setLot rf_Pl_forget
        simp only [a4', b4', Option.bind_some, if_true]
      have m1 : rf_Mo_lot P1 P2 (rl_su (rl_su (rl_su (rl_su σ 3 2 P1) 3 3 P2) 3 4 0) 3 5 0) = some (0, rl_su (rl_su (rl_su (rl_su (rl_su (rl_su (rl_su σ 3 2 P1) 3 3 P2) 3 4 0) 3 5 0) 59 0 0) 59 5 P1) 59 6 P2) := by
        unfold rf_Mo_lot rf_Mo_lot_J28
        simp only [a5', b5', Option.bind_some, z_10, if_false, z_su_s, if_true]
      generalize hτ : rl_su (rl_su (rl_su (rl_su (rl_su (rl_su (rl_su σ 3 2 P1) 3 3 P2) 3 4 0) 3 5 0) 59 0 0) 59 5 P1) 59 6 P2 = τ at m1
      have fe : ∀ c, c ≠ 3 → c ≠ 59 → τ c = σ c := fun c h1 h2 => by
        rw [← hτ, z_su_ce h2, z_su_ce h2, z_su_ce h2, z_su_ce h1, z_su_ce h1, z_su_ce h1, z_su_ce h1]
      have f59 : ∀ j, j ≠ 0 → j ≠ 5 → j ≠ 6 → τ 59 j = σ 59 j := fun j j0 j5 j6 => by
        rw [← hτ, z_su_j j6, z_su_j j5, z_su_j j0, z_su_c (by omega), z_su_c (by omega), z_su_c (by omega), z_su_c (by omega)]
      refine ⟨τ, ?_, (z_aN A, z_an A, z_as A, (w, h), A.2.2.2.2), ⟨ok.1, ⟨a2, b2⟩, ok.2.2.1, ok.2.2.2⟩, ?_, ?_, Or.inl ⟨?_, ?_⟩⟩
      · unfold lf_2
        rw [w1]
        have e0 : τ 59 0 = 0 := by rw [← hτ, z_su_j (by omega), z_su_j (by omega), z_su_s]
        simp only [Option.bind_some, m1, rf_Mo_thrown, e0, if_true]
      · obtain ⟨c1, c2, c3, c4, c5⟩ := hc
        refine ⟨by rw [fe 4 (by omega) (by omega)]; exact c1, z_Sz_e (fe 5 (by omega) (by omega)) (fe 6 (by omega) (by omega)) (fe 7 (by omega) (by omega)) c2, ⟨?_, ?_⟩, z_Co1_e (fun c h1 h2 => fe c (by omega) (by omega)) c4, z_Cw_e (fun c h1 h2 => fe c (by omega) (by omega)) c5⟩
        · show τ 3 2 = nI w
          rw [← hτ]
          simp (disch := omega) only [z_su_c, z_su_s, z_su_j]
          exact a3
        · show τ 3 3 = nI h
          rw [← hτ]
          simp (disch := omega) only [z_su_c, z_su_s, z_su_j]
          exact b3
      · obtain ⟨c1, c2, c3, c4, c5⟩ := hr
        refine ⟨by rw [f59 1 (by omega) (by omega) (by omega)]; exact c1, z_Sq_e (fe 60 (by omega) (by omega)) (fe 61 (by omega) (by omega)) (fe 62 (by omega) (by omega)) c2, ⟨?_, ?_⟩, z_Ro1_e (f59 7 (by omega) (by omega) (by omega)) (fe 63 (by omega) (by omega)) c4, z_Rw_e (f59 9 (by omega) (by omega) (by omega)) (fun c h1 h2 => fe c (by omega) (by omega)) c5⟩
        · show τ 59 5 = nI w
          rw [← hτ]
          simp (disch := omega) only [z_su_c, z_su_s, z_su_j]
          exact a3
        · show τ 59 6 = nI h
          rw [← hτ]
          simp (disch := omega) only [z_su_c, z_su_s, z_su_j]
          exact b3
      · rw [← hτ]
        simp (disch := omega) only [z_su_c, z_su_s, z_su_j]
      · rw [← hτ]
        simp (disch := omega) only [z_su_c, z_su_s, z_su_j]
    · have b4' : ∀ σ, rf_Ro_needWithin P2 1 400 σ = some (1, 0, σ) := b4
      have b5' : ∀ σ, rf_Mo_isIn P2 1 400 σ = some (0, σ) := b5
      refine bad ?_ ?_
      · unfold wf_lot rf_Ro_lot
        simp only [a4', b4', Option.bind_some, if_true, e1.1, if_false]
      · unfold rf_Mo_lot
        simp only [a5', b5', Option.bind_some, z_10, if_false, if_true, J1]
  · have a4' : ∀ σ, rf_Ro_needWithin P1 1 400 σ = some (1, 0, σ) := a4
    have a5' : ∀ σ, rf_Mo_isIn P1 1 400 σ = some (0, σ) := a5
    refine bad ?_ ?_
    · unfold wf_lot rf_Ro_lot
      simp only [a4', Option.bind_some, if_true, e1.1, if_false]
    · unfold rf_Mo_lot
      simp only [a5', Option.bind_some, if_true, J1]
theorem z_case1 (P1 P2 P3 P4 : Int32) (σ : rl_M) (h : z_Inv σ) : ∃ τ, lf_1 P1 P2 P3 P4 σ = some τ ∧ z_Inv τ := by
  obtain ⟨A, ok, hc, hr, hf⟩ := h
  have e1 := z_120
  have hN := ok.1.1
  have bad : wf_size P1 P2 P3 σ = some (1, σ) → rf_Mo_size P1 P2 P3 σ = some (0, rl_su σ 59 0 1) → ∃ τ, lf_1 P1 P2 P3 P4 σ = some τ ∧ z_Inv τ := by
    intro h1 h2
    exact ⟨rl_su σ 59 0 1, z_fin h1 h2 (by rw [z_su_s]) (fun h => absurd h (by decide)), z_keep ok hc hr hf z_FX_0⟩
  have J1 : ∀ τ : rl_M, rf_Mo_size_J29 P1 P2 P3 τ = some (0, rl_su τ 59 0 1) := by
    intro τ
    unfold rf_Mo_size_J29 rf_Mo_size_J48
    rw [z_su_s, if_neg (by decide)]
  rcases z_wr P1 (z_aN A) (by omega) with ⟨r, a1, a2, -, a4, a5, -⟩ | ⟨-, a4, a5, -⟩
  · have a4' := a4 σ hc.1
    have a5' := a5 σ hr.1
    rcases z_wi P2 1 60 (by omega) (by omega) with ⟨w, b1, b2, b3, b4, b5⟩ | ⟨b4, b5⟩
    · have b4' : ∀ σ, rf_Ro_needWithin P2 1 60 σ = some (0, 0, σ) := b4
      have b5' : ∀ σ, rf_Mo_isIn P2 1 60 σ = some (1, σ) := b5
      rcases z_wi P3 1 60 (by omega) (by omega) with ⟨h, c1, c2, c3, c4, c5⟩ | ⟨c4, c5⟩
      · have c4' : ∀ σ, rf_Ro_needWithin P3 1 60 σ = some (0, 0, σ) := c4
        have c5' : ∀ σ, rf_Mo_isIn P3 1 60 σ = some (1, σ) := c5
        have hr6 : r < 6 := by omega
        have hso := z_so hc.2.1 hr6
        have h60 := (hr.2.1 r hr6).1
        have n4 := (ok.1.2.2 r hr6).1
        subst a2 b3 c3
        by_cases q : z_an A r < 4
        · have fo : z_Sz (rl_su (rl_su σ 3 4 0) 3 5 0) (z_an A) (z_as A) := z_Sz_e (by rw [z_su_ce (by omega), z_su_ce (by omega)]) (by rw [z_su_ce (by omega), z_su_ce (by omega)]) (by rw [z_su_ce (by omega), z_su_ce (by omega)]) hc.2.1
          have hso2 := z_so fo hr6
          have w1 : wf_size (nI r) (nI w) (nI h) σ = some (0, rl_su (rl_su (rl_su (rl_su (rl_su (rl_su σ 3 4 0) 3 5 0) 6 (r * 4 + z_an A r) (nI w)) 7 (r * 4 + z_an A r) (nI h)) 5 r (nI (z_an A r + 1))) 78 0 (nI (z_an A r))) := by
            unfold wf_size rf_Ro_size rf_Pl_forget rf_Rl_addSize rf_Rl_slot rf_Rl_slot_J24
            simp (disch := omega) only [a4', b4', c4', hso, hso2, z_lt, z_le, z_eq, z_ltl, z_lel, z_llt, z_lle, z_eql, z_add, z_addl, z_ladd, z_mul, z_mull, z_lmul, z_sub, z_subl, z_cl, z_ib, z_nm, z_m1, z_mlt, if_pos, if_neg, ge_iff_le, gt_iff_lt, ite_true, ite_false, if_true, if_false, Option.bind_some, z_10, eq_self]
          generalize hσ : rl_su (rl_su (rl_su (rl_su (rl_su (rl_su σ 3 4 0) 3 5 0) 6 (r * 4 + z_an A r) (nI w)) 7 (r * 4 + z_an A r) (nI h)) 5 r (nI (z_an A r + 1))) 78 0 (nI (z_an A r)) = σ2 at w1
          have g1 : ∀ c, c ≠ 3 → c ≠ 5 → c ≠ 6 → c ≠ 7 → c ≠ 78 → σ2 c = σ c := fun c h1 h2 h3 h4 h5 => by
            rw [← hσ, z_su_ce h5, z_su_ce h2, z_su_ce h4, z_su_ce h3, z_su_ce h1, z_su_ce h1]
          have a5'' := a5 σ2 (by rw [g1 59 (by omega) (by omega) (by omega) (by omega) (by omega)]; exact hr.1)
          have h60' : σ2 60 r = nI (z_an A r) := by rw [g1 60 (by omega) (by omega) (by omega) (by omega) (by omega)]; exact h60
          have m1 : rf_Mo_size (nI r) (nI w) (nI h) σ2 = some (nI (z_an A r), rl_su (rl_su (rl_su (rl_su σ2 59 0 0) 61 (4 * r + z_an A r) (nI w)) 62 (4 * r + z_an A r) (nI h)) 60 r (nI (z_an A r + 1))) := by
            unfold rf_Mo_size rf_Mo_size_J48
            have e0 := z_000
            simp (disch := omega) only [a5'', b5', c5', h60', z_lt, z_le, z_eq, z_ltl, z_lel, z_llt, z_lle, z_eql, z_add, z_addl, z_ladd, z_mul, z_mull, z_lmul, z_sub, z_subl, z_cl, z_ib, z_nm, z_m1, z_mlt, if_pos, if_neg, ge_iff_le, gt_iff_lt, ite_true, ite_false, if_true, if_false, Option.bind_some, z_10, eq_self, z_su_c, z_su_s, z_su_j, e0, Nat.add_sub_cancel]
          generalize hτ : rl_su (rl_su (rl_su (rl_su σ2 59 0 0) 61 (4 * r + z_an A r) (nI w)) 62 (4 * r + z_an A r) (nI h)) 60 r (nI (z_an A r + 1)) = τ at m1
          have g2 : ∀ c, c ≠ 3 → c ≠ 5 → c ≠ 6 → c ≠ 7 → c ≠ 78 → c ≠ 59 → c ≠ 60 → c ≠ 61 → c ≠ 62 → τ c = σ c := fun c h1 h2 h3 h4 h5 h6 h7 h8 h9 => by
            rw [← hτ, z_su_ce h7, z_su_ce h9, z_su_ce h8, z_su_ce h6]; exact g1 c h1 h2 h3 h4 h5
          have g59 : ∀ j, j ≠ 0 → τ 59 j = σ 59 j := fun j hj => by
            rw [← hτ, z_su_c (by omega), z_su_c (by omega), z_su_c (by omega), z_su_j hj, g1 59 (by omega) (by omega) (by omega) (by omega) (by omega)]
          have g3 : ∀ j, j ≠ 4 → j ≠ 5 → τ 3 j = σ 3 j := fun j j4 j5 => by
            rw [← hτ, z_su_c (by omega), z_su_c (by omega), z_su_c (by omega), z_su_c (by omega), ← hσ]
            simp (disch := omega) only [z_su_c, z_su_s, z_su_j]
          have t5 : ∀ x, τ 5 x = if x = r then nI (z_an A r + 1) else σ 5 x := fun x => by
            rw [← hτ, z_su_c (by omega), z_su_c (by omega), z_su_c (by omega), z_su_c (by omega), ← hσ, z_su_c (by omega)]
            by_cases e : x = r
            · subst e; rw [z_su_s, if_pos rfl]
            · rw [z_su_j e, if_neg e, z_su_c (by omega), z_su_c (by omega), z_su_c (by omega), z_su_c (by omega)]
          have t6 : ∀ x, τ 6 x = if x = 4 * r + z_an A r then nI w else σ 6 x := fun x => by
            rw [← hτ, z_su_c (by omega), z_su_c (by omega), z_su_c (by omega), z_su_c (by omega), ← hσ, z_su_c (by omega), z_su_c (by omega), z_su_c (by omega)]
            by_cases e : x = 4 * r + z_an A r
            · rw [if_pos e, show x = r * 4 + z_an A r by omega, z_su_s]
            · rw [z_su_j (by omega), if_neg e, z_su_c (by omega), z_su_c (by omega)]
          have t7 : ∀ x, τ 7 x = if x = 4 * r + z_an A r then nI h else σ 7 x := fun x => by
            rw [← hτ, z_su_c (by omega), z_su_c (by omega), z_su_c (by omega), z_su_c (by omega), ← hσ, z_su_c (by omega), z_su_c (by omega)]
            by_cases e : x = 4 * r + z_an A r
            · rw [if_pos e, show x = r * 4 + z_an A r by omega, z_su_s]
            · rw [z_su_j (by omega), if_neg e, z_su_c (by omega), z_su_c (by omega), z_su_c (by omega)]
          have t60 : ∀ x, τ 60 x = if x = r then nI (z_an A r + 1) else σ 60 x := fun x => by
            rw [← hτ]
            by_cases e : x = r
            · subst e; rw [z_su_s, if_pos rfl]
            · rw [z_su_j e, if_neg e, z_su_c (by omega), z_su_c (by omega), z_su_c (by omega), g1 60 (by omega) (by omega) (by omega) (by omega) (by omega)]
          have t61 : ∀ x, τ 61 x = if x = 4 * r + z_an A r then nI w else σ 61 x := fun x => by
            rw [← hτ, z_su_c (by omega), z_su_c (by omega)]
            by_cases e : x = 4 * r + z_an A r
            · subst e; rw [z_su_s, if_pos rfl]
            · rw [z_su_j e, if_neg e, z_su_c (by omega), g1 61 (by omega) (by omega) (by omega) (by omega) (by omega)]
          have t62 : ∀ x, τ 62 x = if x = 4 * r + z_an A r then nI h else σ 62 x := fun x => by
            rw [← hτ, z_su_c (by omega)]
            by_cases e : x = 4 * r + z_an A r
            · subst e; rw [z_su_s, if_pos rfl]
            · rw [z_su_j e, if_neg e, z_su_c (by omega), z_su_c (by omega), g1 62 (by omega) (by omega) (by omega) (by omega) (by omega)]
          refine ⟨τ, z_fin w1 m1 ?_ (fun _ => ?_), (z_aN A, fun q => if q = r then z_an A r + 1 else z_an A q, fun q j => if q = r ∧ j = z_an A r then (w, h) else z_as A q j, A.2.2.2), ⟨⟨hN, ?_, ?_⟩, ok.2.1, ok.2.2.1, ?_⟩, ?_, ?_, Or.inl ⟨?_, ?_⟩⟩
          · rw [← hτ]; simp (disch := omega) only [z_su_c, z_su_s, z_su_j]
          · rw [← hτ, z_su_c (by omega), z_su_c (by omega), z_su_c (by omega), z_su_c (by omega), ← hσ, z_su_s]
          · intro x h1 h2
            have h1' : z_aN A ≤ x := h1
            show (if x = r then z_an A r + 1 else z_an A x) = 0
            rw [if_neg (by omega)]
            exact ok.1.2.1 x h1' h2
          · intro x hx
            have ox := ok.1.2.2 x hx
            show (if x = r then z_an A r + 1 else z_an A x) ≤ 4 ∧ ∀ j, j < (if x = r then z_an A r + 1 else z_an A x) → z_Bs (if x = r ∧ j = z_an A r then (w, h) else z_as A x j) 1
            by_cases e : x = r
            · rw [if_pos e]
              refine ⟨by omega, fun j hj => ?_⟩
              by_cases e2 : j = z_an A r
              · rw [if_pos ⟨e, e2⟩]; unfold z_Bs; simp only; omega
              · rw [if_neg (fun h => e2 h.2)]; exact ox.2 j (by rw [e]; omega)
            · rw [if_neg e]
              refine ⟨ox.1, fun j hj => ?_⟩
              rw [if_neg (fun h => e h.1)]; exact ox.2 j hj
          · intro t ht
            have ot := ok.2.2.2 t ht
            refine ⟨ot.1, ot.2.1, ot.2.2.1, fun x hx => ⟨(ot.2.2.2 x hx).1, ?_⟩⟩
            show (if x = r then z_an A r + 1 else z_an A x) ≠ 0
            by_cases e : x = r
            · rw [if_pos e]; omega
            · rw [if_neg e]; exact (ot.2.2.2 x hx).2
          · obtain ⟨c1, c2, c3, c4, c5⟩ := hc
            refine ⟨by rw [g2 4 (by omega) (by omega) (by omega) (by omega) (by omega) (by omega) (by omega) (by omega) (by omega)]; exact c1, ?_, ⟨by rw [g3 2 (by omega) (by omega)]; exact c3.1, by rw [g3 3 (by omega) (by omega)]; exact c3.2⟩, z_Co1_e (fun c h1 h2 => g2 c (by omega) (by omega) (by omega) (by omega) (by omega) (by omega) (by omega) (by omega) (by omega)) c4, z_Cw_e (fun c h1 h2 => g2 c (by omega) (by omega) (by omega) (by omega) (by omega) (by omega) (by omega) (by omega) (by omega)) c5⟩
            intro x hx
            obtain ⟨d1, d2, d3⟩ := c2 x hx
            show τ 5 x = nI (if x = r then z_an A r + 1 else z_an A x) ∧ (if x = r then z_an A r + 1 else z_an A x) ≤ 4 ∧ ∀ j, j < 4 → τ 6 (4 * x + j) = nI (if x = r ∧ j = z_an A r then (w, h) else z_as A x j).1 ∧ τ 7 (4 * x + j) = nI (if x = r ∧ j = z_an A r then (w, h) else z_as A x j).2
            refine ⟨?_, ?_, fun j hj => ⟨?_, ?_⟩⟩
            · rw [t5]; by_cases e : x = r
              · rw [if_pos e, if_pos e]
              · rw [if_neg e, if_neg e]; exact d1
            · by_cases e : x = r
              · rw [if_pos e]; omega
              · rw [if_neg e]; exact d2
            · rw [t6]; by_cases e : x = r ∧ j = z_an A r
              · rw [if_pos e, if_pos (by omega)]
              · rw [if_neg e, if_neg (by omega)]; exact (d3 j hj).1
            · rw [t7]; by_cases e : x = r ∧ j = z_an A r
              · rw [if_pos e, if_pos (by omega)]
              · rw [if_neg e, if_neg (by omega)]; exact (d3 j hj).2
          · obtain ⟨c1, c2, c3, c4, c5⟩ := hr
            refine ⟨by rw [g59 1 (by omega)]; exact c1, ?_, ⟨by rw [g59 5 (by omega)]; exact c3.1, by rw [g59 6 (by omega)]; exact c3.2⟩, z_Ro1_e (g59 7 (by omega)) (g2 63 (by omega) (by omega) (by omega) (by omega) (by omega) (by omega) (by omega) (by omega) (by omega)) c4, z_Rw_e (g59 9 (by omega)) (fun c h1 h2 => g2 c (by omega) (by omega) (by omega) (by omega) (by omega) (by omega) (by omega) (by omega) (by omega)) c5⟩
            intro x hx
            obtain ⟨d1, d2, d3⟩ := c2 x hx
            show τ 60 x = nI (if x = r then z_an A r + 1 else z_an A x) ∧ (if x = r then z_an A r + 1 else z_an A x) ≤ 4 ∧ ∀ j, j < 4 → τ 61 (4 * x + j) = nI (if x = r ∧ j = z_an A r then (w, h) else z_as A x j).1 ∧ τ 62 (4 * x + j) = nI (if x = r ∧ j = z_an A r then (w, h) else z_as A x j).2
            refine ⟨?_, ?_, fun j hj => ⟨?_, ?_⟩⟩
            · rw [t60]; by_cases e : x = r
              · rw [if_pos e, if_pos e]
              · rw [if_neg e, if_neg e]; exact d1
            · by_cases e : x = r
              · rw [if_pos e]; omega
              · rw [if_neg e]; exact d2
            · rw [t61]; by_cases e : x = r ∧ j = z_an A r
              · rw [if_pos e, if_pos (by omega)]
              · rw [if_neg e, if_neg (by omega)]; exact (d3 j hj).1
            · rw [t62]; by_cases e : x = r ∧ j = z_an A r
              · rw [if_pos e, if_pos (by omega)]
              · rw [if_neg e, if_neg (by omega)]; exact (d3 j hj).2
          · rw [← hτ, z_su_c (by omega), z_su_c (by omega), z_su_c (by omega), z_su_c (by omega), ← hσ]
            simp (disch := omega) only [z_su_c, z_su_s, z_su_j]
          · rw [← hτ, z_su_c (by omega), z_su_c (by omega), z_su_c (by omega), z_su_c (by omega), ← hσ]
            simp (disch := omega) only [z_su_c, z_su_s, z_su_j]
        · have w1 : wf_size (nI r) (nI w) (nI h) σ = some (2, σ) := by
            unfold wf_size rf_Ro_size
            simp (disch := omega) only [a4', b4', c4', hso, z_lt, z_le, z_eq, z_ltl, z_lel, z_llt, z_lle, z_eql, z_add, z_addl, z_ladd, z_mul, z_mull, z_lmul, z_sub, z_subl, z_cl, z_ib, z_nm, z_m1, z_mlt, if_pos, if_neg, ge_iff_le, gt_iff_lt, ite_true, ite_false, if_true, if_false, Option.bind_some, z_10, eq_self]
          have m1 : rf_Mo_size (nI r) (nI w) (nI h) σ = some (0, rl_su σ 59 0 2) := by
            unfold rf_Mo_size rf_Mo_size_J48
            have e0 := z_102
            simp (disch := omega) only [a5', b5', c5', h60, z_lt, z_le, z_eq, z_ltl, z_lel, z_llt, z_lle, z_eql, z_add, z_addl, z_ladd, z_mul, z_mull, z_lmul, z_sub, z_subl, z_cl, z_ib, z_nm, z_m1, z_mlt, if_pos, if_neg, ge_iff_le, gt_iff_lt, ite_true, ite_false, if_true, if_false, Option.bind_some, z_10, eq_self, z_su_c, z_su_s, z_su_j, e0]
          exact ⟨rl_su σ 59 0 2, z_fin w1 m1 (by rw [z_su_s]) (fun h => absurd h (by decide)), z_keep ok hc hr hf z_FX_0⟩
      · have c4' : ∀ σ, rf_Ro_needWithin P3 1 60 σ = some (1, 0, σ) := c4
        have c5' : ∀ σ, rf_Mo_isIn P3 1 60 σ = some (0, σ) := c5
        refine bad ?_ ?_
        · unfold wf_size rf_Ro_size
          simp only [a4', b4', c4', Option.bind_some, if_true, e1.1, if_false]
        · unfold rf_Mo_size
          simp only [a5', b5', c5', Option.bind_some, z_10, if_false, if_true, J1]
    · have b4' : ∀ σ, rf_Ro_needWithin P2 1 60 σ = some (1, 0, σ) := b4
      have b5' : ∀ σ, rf_Mo_isIn P2 1 60 σ = some (0, σ) := b5
      refine bad ?_ ?_
      · unfold wf_size rf_Ro_size
        simp only [a4', b4', Option.bind_some, if_true, e1.1, if_false]
      · unfold rf_Mo_size
        simp only [a5', b5', Option.bind_some, z_10, if_false, if_true, J1]
  · have a4' := a4 σ hc.1
    have a5' := a5 σ hr.1
    refine bad ?_ ?_
    · unfold wf_size rf_Ro_size
      simp only [a4', Option.bind_some, e1.1, if_false, if_true]
    · unfold rf_Mo_size
      simp only [a5', Option.bind_some, if_true, J1]
