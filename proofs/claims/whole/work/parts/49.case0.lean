theorem z_i32 (x : Int32) : x < 0 ∨ ∃ r, r < 2147483648 ∧ x = nI r := by
  have e : (0 : Int32).toInt = 0 := by decide
  have b := x.toInt_lt
  by_cases h : x < 0
  · exact Or.inl h
  · right
    rw [Int32.lt_iff_toInt_lt, e] at h
    refine ⟨x.toInt.toNat, by omega, ?_⟩
    apply Int32.toInt_inj.mp
    rw [nI_toInt (by omega)]
    omega
theorem z_neg {x : Int32} (h : x < 0) (a : Nat) (ha : a < 2147483648) : x < nI a ∧ ¬ nI a ≤ x ∧ ¬ x = nI a := by
  have e : (0 : Int32).toInt = 0 := by decide
  have b := nI_toInt (n := a) (by omega)
  rw [Int32.lt_iff_toInt_lt, e] at h
  refine ⟨?_, ?_, ?_⟩
  · rw [Int32.lt_iff_toInt_lt, b]; omega
  · rw [Int32.le_iff_toInt_le, b]; omega
  · intro hx; rw [hx, b] at h; omega
theorem z_ge0 (r : Nat) (h : r < 2147483648) : (0 : Int32) ≤ nI r ∧ ¬ nI r < 0 := by
  have a : (nI 0 ≤ nI r) ↔ 0 ≤ r := z_le (by omega) h
  have b : (nI r < nI 0) ↔ r < 0 := z_lt h (by omega)
  exact ⟨a.mpr (Nat.zero_le _), fun hh => Nat.not_lt_zero _ (b.mp hh)⟩
/-- a number within its bounds, or not: both sides see it -/
theorem z_wi (x : Int32) (lo hi : Nat) (hlo : lo ≤ 1000) (hhi : hi ≤ 1000) :
    (∃ r, lo ≤ r ∧ r ≤ hi ∧ x = nI r ∧ (∀ σ, rf_Ro_needWithin x (nI lo) (nI hi) σ = some (0, 0, σ)) ∧ ∀ σ, rf_Mo_isIn x (nI lo) (nI hi) σ = some (1, σ)) ∨
    ((∀ σ, rf_Ro_needWithin x (nI lo) (nI hi) σ = some (1, 0, σ)) ∧ ∀ σ, rf_Mo_isIn x (nI lo) (nI hi) σ = some (0, σ)) := by
  rcases z_i32 x with h | ⟨r, h, rfl⟩
  · right
    have h1 := (z_neg h lo (by omega)).1
    refine ⟨fun σ => ?_, fun σ => ?_⟩
    · unfold rf_Ro_needWithin; rw [if_pos h1]
    · unfold rf_Mo_isIn; rw [if_pos h1]
  · by_cases c1 : r < lo
    · right
      refine ⟨fun σ => ?_, fun σ => ?_⟩
      · unfold rf_Ro_needWithin; simp (disch := omega) only [z_lt, z_le, z_eq, z_ltl, z_lel, z_llt, z_lle, z_eql, z_add, z_addl, z_ladd, z_mul, z_mull, z_lmul, z_sub, z_subl, z_cl, z_ib, z_nm, z_m1, z_mlt, if_pos, if_neg, ge_iff_le, gt_iff_lt, ite_true, ite_false, if_true, if_false, Option.bind_some, z_10, eq_self]
      · unfold rf_Mo_isIn; simp (disch := omega) only [z_lt, z_le, z_eq, z_ltl, z_lel, z_llt, z_lle, z_eql, z_add, z_addl, z_ladd, z_mul, z_mull, z_lmul, z_sub, z_subl, z_cl, z_ib, z_nm, z_m1, z_mlt, if_pos, if_neg, ge_iff_le, gt_iff_lt, ite_true, ite_false, if_true, if_false, Option.bind_some, z_10, eq_self]
    · by_cases c2 : r ≤ hi
      · left
        refine ⟨r, by omega, c2, rfl, fun σ => ?_, fun σ => ?_⟩
        · unfold rf_Ro_needWithin; simp (disch := omega) only [z_lt, z_le, z_eq, z_ltl, z_lel, z_llt, z_lle, z_eql, z_add, z_addl, z_ladd, z_mul, z_mull, z_lmul, z_sub, z_subl, z_cl, z_ib, z_nm, z_m1, z_mlt, if_pos, if_neg, ge_iff_le, gt_iff_lt, ite_true, ite_false, if_true, if_false, Option.bind_some, z_10, eq_self]
        · unfold rf_Mo_isIn; simp (disch := omega) only [z_lt, z_le, z_eq, z_ltl, z_lel, z_llt, z_lle, z_eql, z_add, z_addl, z_ladd, z_mul, z_mull, z_lmul, z_sub, z_subl, z_cl, z_ib, z_nm, z_m1, z_mlt, if_pos, if_neg, ge_iff_le, gt_iff_lt, ite_true, ite_false, if_true, if_false, Option.bind_some, z_10, eq_self]
      · right
        refine ⟨fun σ => ?_, fun σ => ?_⟩
        · unfold rf_Ro_needWithin; simp (disch := omega) only [z_lt, z_le, z_eq, z_ltl, z_lel, z_llt, z_lle, z_eql, z_add, z_addl, z_ladd, z_mul, z_mull, z_lmul, z_sub, z_subl, z_cl, z_ib, z_nm, z_m1, z_mlt, if_pos, if_neg, ge_iff_le, gt_iff_lt, ite_true, ite_false, if_true, if_false, Option.bind_some, z_10, eq_self]
        · unfold rf_Mo_isIn; simp (disch := omega) only [z_lt, z_le, z_eq, z_ltl, z_lel, z_llt, z_lle, z_eql, z_add, z_addl, z_ladd, z_mul, z_mull, z_lmul, z_sub, z_subl, z_cl, z_ib, z_nm, z_m1, z_mlt, if_pos, if_neg, ge_iff_le, gt_iff_lt, ite_true, ite_false, if_true, if_false, Option.bind_some, z_10, eq_self]
theorem z_le1 {r N : Nat} (hr : r < 2147483648) (hN : N < 2147483648) : (nI r ≤ nI N - 1) ↔ r < N := by
  cases N with
  | zero =>
    rw [z_0s1]
    have e : (-1 : Int32).toInt = -1 := by decide
    rw [Int32.le_iff_toInt_le, nI_toInt (by omega), e]
    omega
  | succ k =>
    rw [z_subl (by omega), Nat.add_sub_cancel, z_le (by omega) (by omega)]
    omega
/-- a room's number, or not: both sides see it -/
theorem z_wr (x : Int32) (N : Nat) (hN : N ≤ 1000) :
    (∃ r, r < N ∧ x = nI r ∧ (∀ σ, rf_Ro_needWithin x 0 (nI N - 1) σ = some (0, 0, σ)) ∧ (∀ σ : rl_M, σ 4 0 = nI N → rf_Ro_needRoom x σ = some (0, 0, σ)) ∧ (∀ σ : rl_M, σ 59 1 = nI N → rf_Mo_isRoom x σ = some (1, σ)) ∧ ∀ σ : rl_M, rf_Mo_isIn x 0 (nI N - 1) σ = some (1, σ)) ∨
    ((∀ σ, rf_Ro_needWithin x 0 (nI N - 1) σ = some (1, 0, σ)) ∧ (∀ σ : rl_M, σ 4 0 = nI N → rf_Ro_needRoom x σ = some (1, 0, σ)) ∧ (∀ σ : rl_M, σ 59 1 = nI N → rf_Mo_isRoom x σ = some (0, σ)) ∧ ∀ σ : rl_M, rf_Mo_isIn x 0 (nI N - 1) σ = some (0, σ)) := by
  have e10 : ¬ ((1 : Nat) = 0) := by omega
  rcases z_i32 x with h | ⟨r, h, rfl⟩
  · right
    refine ⟨fun σ => ?_, fun σ hσ => ?_, fun σ hσ => ?_, fun σ => ?_⟩
    · unfold rf_Ro_needWithin; rw [if_pos h]
    · unfold rf_Ro_needRoom rf_Ro_needWithin; rw [if_pos h]; rfl
    · unfold rf_Mo_isRoom; rw [if_pos h]
    · unfold rf_Mo_isIn; rw [if_pos h]
  · have g0 := (z_ge0 r h).2
    have l1 := z_le1 (r := r) (N := N) h (by omega)
    by_cases c : r < N
    · left
      have l2 := l1.mpr c
      have l3 : ¬ (nI N - 1 < nI r) := by
        rw [Int32.lt_iff_toInt_lt]; rw [Int32.le_iff_toInt_le] at l2; omega
      have l4 : ¬ (nI N ≤ nI r) := by rw [z_le (by omega) (by omega)]; omega
      refine ⟨r, c, rfl, fun σ => ?_, fun σ hσ => ?_, fun σ hσ => ?_, fun σ => ?_⟩
      · unfold rf_Ro_needWithin; rw [if_neg g0, if_pos l2]
      · unfold rf_Ro_needRoom rf_Ro_needWithin; rw [hσ, if_neg g0, if_pos l2]; rfl
      · unfold rf_Mo_isRoom; rw [hσ, if_neg g0, if_neg l4]
      · unfold rf_Mo_isIn; rw [if_neg g0, if_neg l3]
    · right
      have l2 : ¬ nI r ≤ nI N - 1 := fun hh => c (l1.mp hh)
      have l3 : nI N - 1 < nI r := by
        rw [Int32.lt_iff_toInt_lt]; rw [Int32.le_iff_toInt_le] at l2; omega
      have l4 : nI N ≤ nI r := by rw [z_le (by omega) (by omega)]; omega
      refine ⟨fun σ => ?_, fun σ hσ => ?_, fun σ hσ => ?_, fun σ => ?_⟩
      · unfold rf_Ro_needWithin; rw [if_neg g0, if_neg l2]
      · unfold rf_Ro_needRoom rf_Ro_needWithin; rw [hσ, if_neg g0, if_neg l2]; rfl
      · unfold rf_Mo_isRoom; rw [hσ, if_neg g0, if_pos l4]
      · unfold rf_Mo_isIn; rw [if_neg g0, if_pos l3]
/-- what may change without touching the state -/
def z_FX (σ τ : rl_M) : Prop := (∀ c, c < 59 ∨ (60 ≤ c ∧ c ≤ 66) → τ c = σ c) ∧ ∀ j, j = 1 ∨ j = 5 ∨ j = 6 ∨ j = 7 ∨ j = 9 → τ 59 j = σ 59 j
theorem z_FX.rf {σ : rl_M} : z_FX σ σ := ⟨fun _ _ => rfl, fun _ _ => rfl⟩
theorem z_FX.tr {σ τ υ : rl_M} (h : z_FX σ τ) (h2 : z_FX τ υ) : z_FX σ υ := ⟨fun c hc => (h2.1 c hc).trans (h.1 c hc), fun j hj => (h2.2 j hj).trans (h.2 j hj)⟩
theorem z_FM.fx {σ τ : rl_M} (h : z_FM σ τ) : z_FX σ τ := ⟨fun c hc => h.1 c (by omega), fun j hj => h.2 j (by omega) (by omega) (by omega)⟩
theorem z_FX_0 {σ : rl_M} {v : Int32} : z_FX σ (rl_su σ 59 0 v) := ⟨fun c hc => z_su_ce (by omega), fun j hj => z_su_j (by omega)⟩
theorem z_FX_8 {σ : rl_M} {v : Int32} : z_FX σ (rl_su σ 78 0 v) := ⟨fun c hc => z_su_ce (by omega), fun j hj => z_su_c (by omega)⟩
theorem z_Rs_x {σ τ : rl_M} {A : z_A} (h : z_FX σ τ) (hc : z_Rs σ A) : z_Rs τ A := by
  obtain ⟨h1, h2, h3, h4, h5⟩ := hc
  refine ⟨by rw [h.2 1 (by omega)]; exact h1, ?_, ⟨by rw [h.2 5 (by omega)]; exact h3.1, by rw [h.2 6 (by omega)]; exact h3.2⟩, ⟨fun hn => by rw [h.2 7 (by omega)]; exact h4.1 hn, fun t ht => ?_⟩, ?_⟩
  · unfold z_Sq at *; rw [h.1 60 (by omega), h.1 61 (by omega), h.1 62 (by omega)]; exact h2
  · have := h4.2 t ht
    unfold z_Mo at *; rw [h.2 7 (by omega), h.1 63 (by omega)]; exact this
  · unfold z_Rw at *; rw [h.2 9 (by omega), h.1 64 (by omega), h.1 65 (by omega), h.1 66 (by omega)]; exact h5
theorem z_keep {σ τ : rl_M} {A : z_A} (ok : z_Ok A) (hc : z_Cs σ A) (hr : z_Rs σ A) (hf : z_Fg σ A) (h : z_FX σ τ) : z_Inv τ :=
  ⟨A, ok, z_Cs_l (fun c hh => h.1 c (Or.inl hh)) hc, z_Rs_x h hr, z_Fg_l ok (fun c hh => h.1 c (by omega)) hf⟩
theorem z_fin {w : Option (Int32 × rl_M)} {m : rl_M → Option (Int32 × rl_M)} {k v : Int32} {τ υ : rl_M} (h1 : w = some (k, τ)) (h2 : m τ = some (v, υ)) (h3 : υ 59 0 = k) (h4 : k = 0 → υ 78 0 = v) :
    (w.bind (fun q1 => ((m q1.2).bind (fun q2 => ((rf_Mo_thrown q2.2).bind (fun q3 => (if q3.1 = q1.1 then (if q1.1 = 0 then (if (lg_cmp ((q3.2 78 0).toInt64) q2.1.toInt64) = 0 then some q3.2 else none) else some q3.2) else none))))))) = some υ := by
  rw [h1]
  simp only [Option.bind_some, h2, rf_Mo_thrown, h3, if_true]
  by_cases q : k = 0
  · rw [if_pos q, h4 q, if_pos ((lg_cmp_eq _ _).mpr rfl)]
  · rw [if_neg q]
theorem z_fin2 {w : Option (Int32 × rl_M)} {m : rl_M → Option (Int32 × rl_M)} {k v : Int32} {τ υ : rl_M} (h1 : w = some (k, τ)) (h2 : m τ = some (v, υ)) (h3 : υ 59 0 = k) (h4 : k = 0 → υ 78 0 = v ∧ (v = 0 ∨ v = 1)) :
    (w.bind (fun q1 => ((m q1.2).bind (fun q2 => ((rf_Mo_thrown q2.2).bind (fun q3 => (if q3.1 = q1.1 then (if q1.1 = 0 then (if q2.1 = 0 then (if (lg_cmp ((q3.2 78 0).toInt64) 0) = 0 then some q3.2 else none) else (if (lg_cmp ((q3.2 78 0).toInt64) 1) = 0 then some q3.2 else none)) else some q3.2) else none))))))) = some υ := by
  rw [h1]
  simp only [Option.bind_some, h2, rf_Mo_thrown, h3, if_true]
  by_cases q : k = 0
  · rw [if_pos q, (h4 q).1]
    rcases (h4 q).2 with e | e
    · subst e; rfl
    · subst e; rfl
  · rw [if_neg q]
theorem z_101 : ¬ ((1 : Int32) ≤ 0) := by decide
theorem z_102 : ¬ ((2 : Int32) ≤ 0) := by decide
theorem z_000 : ((0 : Int32) ≤ 0) := by decide
theorem z_case0 (P1 P2 P3 P4 : Int32) (σ : rl_M) (h : z_Inv σ) : ∃ τ, lf_0 P1 P2 P3 P4 σ = some τ ∧ z_Inv τ := by
  obtain ⟨A, ok, hc, hr, hf⟩ := h
  have hN := ok.1.1
  by_cases q : z_aN A < 6
  · have w1 : wf_room σ = some (0, rl_su (rl_su σ 4 0 (nI (z_aN A + 1))) 78 0 (nI (z_aN A))) := by
      unfold wf_room rf_Ro_room
      rw [hc.1, z_t1 σ _ hc.1 q]
      simp (disch := omega) only [z_lt, z_le, z_eq, z_ltl, z_lel, z_llt, z_lle, z_eql, z_add, z_addl, z_ladd, z_mul, z_mull, z_lmul, z_sub, z_subl, z_cl, z_ib, z_nm, z_m1, z_mlt, if_pos, if_neg, ge_iff_le, gt_iff_lt, ite_true, ite_false, if_true, if_false, Option.bind_some, z_10, eq_self]
    have m1 : rf_Mo_room (rl_su (rl_su σ 4 0 (nI (z_aN A + 1))) 78 0 (nI (z_aN A))) = some (nI (z_aN A), rl_su (rl_su (rl_su (rl_su σ 4 0 (nI (z_aN A + 1))) 78 0 (nI (z_aN A))) 59 0 0) 59 1 (nI (z_aN A + 1))) := by
      unfold rf_Mo_room rf_Mo_room_J15
      have e := hr.1
      have e0 := z_000
      simp (disch := omega) only [z_su_c, z_su_s, z_su_j, e, z_lt, z_le, z_eq, z_ltl, z_lel, z_llt, z_lle, z_eql, z_add, z_addl, z_ladd, z_mul, z_mull, z_lmul, z_sub, z_subl, z_cl, z_ib, z_nm, z_m1, z_mlt, if_pos, if_neg, ge_iff_le, gt_iff_lt, ite_true, ite_false, if_true, if_false, Option.bind_some, z_10, eq_self, e0, Nat.add_sub_cancel]
    refine ⟨_, z_fin w1 m1 (by simp (disch := omega) only [z_su_c, z_su_s, z_su_j]) (fun _ => by simp (disch := omega) only [z_su_c, z_su_s, z_su_j]), (z_aN A + 1, A.2), ?_, ?_, ?_, ?_⟩
    · refine ⟨⟨by show z_aN A + 1 ≤ 6; omega, fun r h1 h2 => ok.1.2.1 r (by have : z_aN A + 1 ≤ r := h1; omega) h2, ok.1.2.2⟩, ok.2.1, ⟨ok.2.2.1.1, fun i hi => ?_⟩, ok.2.2.2⟩
      have := ok.2.2.1.2 i hi
      exact ⟨Nat.lt_succ_of_lt this.1, Nat.lt_succ_of_lt this.2.1, this.2.2⟩
    · have e : ∀ c, c ≠ 4 → c ≠ 59 → c ≠ 78 → (rl_su (rl_su (rl_su (rl_su σ 4 0 (nI (z_aN A + 1))) 78 0 (nI (z_aN A))) 59 0 0) 59 1 (nI (z_aN A + 1))) c = σ c := fun c h1 h2 h3 => by rw [z_su_ce h2, z_su_ce h2, z_su_ce h3, z_su_ce h1]
      obtain ⟨h1, h2, h3, h4, h5⟩ := hc
      refine ⟨by simp (disch := omega) only [z_su_c, z_su_s, z_su_j], ?_, by rw [e 3 (by omega) (by omega) (by omega)]; exact h3, ⟨fun hn => ?_, fun t ht => ?_⟩, ?_⟩
      · unfold z_Sz at *; rw [e 5 (by omega) (by omega) (by omega), e 6 (by omega) (by omega) (by omega), e 7 (by omega) (by omega) (by omega)]; exact h2
      · rw [e 8 (by omega) (by omega) (by omega), e 14 (by omega) (by omega) (by omega)]; exact h4.1 hn
      · obtain ⟨a1, a2, a3, a4⟩ := h4.2 t ht
        refine ⟨?_, ?_, by rw [e 12 (by omega) (by omega) (by omega)]; exact a3, ?_⟩
        · unfold z_Or at *; rw [e 8 (by omega) (by omega) (by omega), e 9 (by omega) (by omega) (by omega)]; exact a1
        · exact z_Tr_g t 0 (fun j _ _ => by rw [e 10 (by omega) (by omega) (by omega), e 11 (by omega) (by omega) (by omega)]; exact ⟨rfl, rfl⟩) (fun j _ _ => by rw [e 12 (by omega) (by omega) (by omega)]) a2
        · unfold z_Rn at *; rw [e 14 (by omega) (by omega) (by omega)]; exact a4
      · unfold z_Cw at *; rw [e 19 (by omega) (by omega) (by omega), e 20 (by omega) (by omega) (by omega), e 21 (by omega) (by omega) (by omega), e 22 (by omega) (by omega) (by omega)]; exact h5
    · have e : ∀ c, c ≠ 4 → c ≠ 59 → c ≠ 78 → (rl_su (rl_su (rl_su (rl_su σ 4 0 (nI (z_aN A + 1))) 78 0 (nI (z_aN A))) 59 0 0) 59 1 (nI (z_aN A + 1))) c = σ c := fun c h1 h2 h3 => by rw [z_su_ce h2, z_su_ce h2, z_su_ce h3, z_su_ce h1]
      have e2 : ∀ j, j ≠ 0 → j ≠ 1 → (rl_su (rl_su (rl_su (rl_su σ 4 0 (nI (z_aN A + 1))) 78 0 (nI (z_aN A))) 59 0 0) 59 1 (nI (z_aN A + 1))) 59 j = σ 59 j := fun j h0 h1 => by rw [z_su_j h1, z_su_j h0, z_su_c (by omega), z_su_c (by omega)]
      obtain ⟨h1, h2, h3, h4, h5⟩ := hr
      refine ⟨by rw [z_su_s], ?_, ⟨by rw [e2 5 (by omega) (by omega)]; exact h3.1, by rw [e2 6 (by omega) (by omega)]; exact h3.2⟩, ⟨fun hn => by rw [e2 7 (by omega) (by omega)]; exact h4.1 hn, fun t ht => ?_⟩, ?_⟩
      · unfold z_Sq at *; rw [e 60 (by omega) (by omega) (by omega), e 61 (by omega) (by omega) (by omega), e 62 (by omega) (by omega) (by omega)]; exact h2
      · have := h4.2 t ht
        unfold z_Mo at *; rw [e2 7 (by omega) (by omega), e 63 (by omega) (by omega) (by omega)]; exact this
      · unfold z_Rw at *; rw [e2 9 (by omega) (by omega), e 64 (by omega) (by omega) (by omega), e 65 (by omega) (by omega) (by omega), e 66 (by omega) (by omega) (by omega)]; exact h5
    · have ff : z_Fg (rl_su (rl_su (rl_su (rl_su σ 4 0 (nI (z_aN A + 1))) 78 0 (nI (z_aN A))) 59 0 0) 59 1 (nI (z_aN A + 1))) A := z_Fg_l ok (fun c hh => by rw [z_su_ce (by omega), z_su_ce (by omega), z_su_ce (by omega), z_su_ce (by omega)]) hf
      exact ff
  · have w1 : wf_room σ = some (1, σ) := by
      unfold wf_room rf_Ro_room
      rw [hc.1]
      simp (disch := omega) only [z_lt, z_le, z_eq, z_ltl, z_lel, z_llt, z_lle, z_eql, z_add, z_addl, z_ladd, z_mul, z_mull, z_lmul, z_sub, z_subl, z_cl, z_ib, z_nm, z_m1, z_mlt, if_pos, if_neg, ge_iff_le, gt_iff_lt, ite_true, ite_false, if_true, if_false, Option.bind_some, z_10, eq_self]
    have m1 : rf_Mo_room σ = some (0, rl_su σ 59 0 1) := by
      unfold rf_Mo_room rf_Mo_room_J15
      rw [hr.1, show z_aN A = 6 by omega]
      have e0 := z_101
      simp (disch := omega) only [z_su_c, z_su_s, z_su_j, z_lt, z_le, z_eq, z_ltl, z_lel, z_llt, z_lle, z_eql, z_add, z_addl, z_ladd, z_mul, z_mull, z_lmul, z_sub, z_subl, z_cl, z_ib, z_nm, z_m1, z_mlt, if_pos, if_neg, ge_iff_le, gt_iff_lt, ite_true, ite_false, if_true, if_false, Option.bind_some, z_10, eq_self, e0]
    exact ⟨_, z_fin w1 m1 (by rw [z_su_s]) (fun h => absurd h (by decide)), z_keep ok hc hr hf z_FX_0⟩
