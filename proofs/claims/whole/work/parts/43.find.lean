def z_ft (g : Nat → Nat) (s : Nat → Nat → Nat × Nat) (t : Lean.Data.AC.Expr) (W H : Nat) (c : Nat → Nat) : Prop := (z_ev g s c 0 t).1 ≤ W ∧ (z_ev g s c 0 t).2 ≤ H
/-- b is not worse than c -/
def z_zl (g : Nat → Nat) (s : Nat → Nat → Nat × Nat) (t : Lean.Data.AC.Expr) (c c' : Nat → Nat) : Prop := (z_ev g s c 0 t).1 * (z_ev g s c 0 t).2 < (z_ev g s c' 0 t).1 * (z_ev g s c' 0 t).2 ∨ ((z_ev g s c 0 t).1 * (z_ev g s c 0 t).2 = (z_ev g s c' 0 t).1 * (z_ev g s c' 0 t).2 ∧ ((z_ev g s c 0 t).1 < (z_ev g s c' 0 t).1 ∨ ((z_ev g s c 0 t).1 = (z_ev g s c' 0 t).1 ∧ z_cd c ≤ z_cd c')))
def z_S (n : Nat → Nat) (t : Lean.Data.AC.Expr) (k : Nat) (c : Nat → Nat) : Prop := z_Ch n t c ∧ z_cd c < k
/-- the best choice of those in S, as the reference holds it -/
def z_Bf (σ : rl_M) (g : Nat → Nat) (s : Nat → Nat → Nat × Nat) (t : Lean.Data.AC.Expr) (W H : Nat) (S : (Nat → Nat) → Prop) : Prop :=
  (σ 59 15 = 0 ∧ ∀ c, S c → ¬ z_ft g s t W H c) ∨ (∃ b, σ 59 15 = 1 ∧ σ 59 16 = nI (z_ev g s b 0 t).1 ∧ σ 59 17 = nI (z_ev g s b 0 t).2 ∧ (∀ q, q < 6 → σ 68 q = nI (b q)) ∧ S b ∧ z_ft g s t W H b ∧ ∀ c, S c → z_ft g s t W H c → z_zl g s t b c)
theorem z_Bf_S {σ : rl_M} {g : Nat → Nat} {s : Nat → Nat → Nat × Nat} {t : Lean.Data.AC.Expr} {W H : Nat} {S S' : (Nat → Nat) → Prop} (h : z_Bf σ g s t W H S) (e : ∀ c, S c ↔ S' c) : z_Bf σ g s t W H S' := by
  rcases h with ⟨h1, h2⟩ | ⟨b, h1, h2, h3, h4, h5, h6, h7⟩
  · exact Or.inl ⟨h1, fun c hc => h2 c ((e c).mpr hc)⟩
  · exact Or.inr ⟨b, h1, h2, h3, h4, (e b).mp h5, h6, fun c hc => h7 c ((e c).mpr hc)⟩
theorem z_Bf_f {σ τ : rl_M} {g : Nat → Nat} {s : Nat → Nat → Nat × Nat} {t : Lean.Data.AC.Expr} {W H : Nat} {S : (Nat → Nat) → Prop} (h : z_Bf σ g s t W H S) (e1 : τ 59 = σ 59) (e2 : τ 68 = σ 68) : z_Bf τ g s t W H S := by
  unfold z_Bf at *; rw [e1, e2]; exact h
theorem z_fits1 {g : Nat → Nat} {s : Nat → Nat → Nat × Nat} {n c : Nat → Nat} {t : Lean.Data.AC.Expr} {W H : Nat} {σ : rl_M} (hC : z_Rc σ g s n t W H) (hl : z_La σ g s c 0 t) (hb : z_Bs (z_ev g s c 0 t) 6) (h : z_ft g s t W H c) : rf_Mo_fits σ = some (1, σ) := by
  obtain ⟨h1, h2, h3, h4, h5, h6, h7, h8⟩ := hC
  obtain ⟨a1, a2⟩ := z_La_top hl
  rw [Nat.zero_add] at a1 a2
  unfold z_ft at h
  unfold z_Bs at hb
  unfold rf_Mo_fits
  simp (disch := omega) only [h2.1, h5, h6, a1, a2, z_lt, z_le, z_eq, z_ltl, z_lel, z_llt, z_lle, z_eql, z_add, z_addl, z_ladd, z_mul, z_mull, z_lmul, z_sub, z_subl, z_cl, z_ib, z_nm, z_m1, z_mlt, if_pos, if_neg, ge_iff_le, gt_iff_lt, ite_true, ite_false, if_true, if_false, Option.bind_some, z_10, eq_self, Nat.add_sub_cancel]
theorem z_fits0 {g : Nat → Nat} {s : Nat → Nat → Nat × Nat} {n c : Nat → Nat} {t : Lean.Data.AC.Expr} {W H : Nat} {σ : rl_M} (hC : z_Rc σ g s n t W H) (hl : z_La σ g s c 0 t) (hb : z_Bs (z_ev g s c 0 t) 6) (h : ¬ z_ft g s t W H c) : rf_Mo_fits σ = some (0, σ) := by
  obtain ⟨h1, h2, h3, h4, h5, h6, h7, h8⟩ := hC
  obtain ⟨a1, a2⟩ := z_La_top hl
  rw [Nat.zero_add] at a1 a2
  unfold z_ft at h
  unfold z_Bs at hb
  unfold rf_Mo_fits
  by_cases q : W < (z_ev g s c 0 t).1
  · simp (disch := omega) only [h2.1, h5, h6, a1, a2, z_lt, z_le, z_eq, z_ltl, z_lel, z_llt, z_lle, z_eql, z_add, z_addl, z_ladd, z_mul, z_mull, z_lmul, z_sub, z_subl, z_cl, z_ib, z_nm, z_m1, z_mlt, if_pos, if_neg, ge_iff_le, gt_iff_lt, ite_true, ite_false, if_true, if_false, Option.bind_some, z_10, eq_self, Nat.add_sub_cancel]
  · simp (disch := omega) only [h2.1, h5, h6, a1, a2, z_lt, z_le, z_eq, z_ltl, z_lel, z_llt, z_lle, z_eql, z_add, z_addl, z_ladd, z_mul, z_mull, z_lmul, z_sub, z_subl, z_cl, z_ib, z_nm, z_m1, z_mlt, if_pos, if_neg, ge_iff_le, gt_iff_lt, ite_true, ite_false, if_true, if_false, Option.bind_some, z_10, eq_self, Nat.add_sub_cancel]
theorem z_ch_la {g : Nat → Nat} {s : Nat → Nat → Nat × Nat} {n c : Nat → Nat} {t : Lean.Data.AC.Expr} {W H : Nat} {σ : rl_M} (hk : z_Rk n s t) (hC : z_Rc σ g s n t W H) (h67 : ∀ q, q < 6 → σ 67 q = nI (c q)) (hc : z_Ch n t c) :
    (∃ τ, rf_Mo_layOut σ = some (0, τ) ∧ z_La τ g s c 0 t ∧ z_FL σ τ) ∧ z_Bs (z_ev g s c 0 t) 6 := by
  obtain ⟨h1, h2, h3, h4, h5, h6, h7, h8⟩ := hC
  have hlt := z_Ch_lt hk hc
  refine ⟨z_lay (n := n) h1 h2 h3 (fun r hr => ?_) h4, ?_⟩
  · have a := hk.2.1 r hr
    have b := hlt r hr
    have d := hk.2.2 r a.1
    exact ⟨a.1, h67 r a.1, by omega, a.2.2 _ b⟩
  · have nl := z_nl t
    have := z_ev_b (g := g) (s := s) (c := c) t 0 (fun r hr => (hk.2.1 r hr).2.2 _ (hlt r hr))
    unfold z_Bs at *
    omega
theorem z_FL.fm {σ τ : rl_M} (h : z_FL σ τ) : z_FM σ τ := ⟨fun e he => h e (by omega) (by omega) (by omega) (by omega) (by omega), fun j _ _ _ => by rw [h 59 (by omega) (by omega) (by omega) (by omega) (by omega)]⟩
theorem z_ev6 {g : Nat → Nat} {s : Nat → Nat → Nat × Nat} {n c c' : Nat → Nat} {t : Lean.Data.AC.Expr} (hk : z_Rk n s t) (h : ∀ q, q < 6 → c q = c' q) : z_ev g s c 0 t = z_ev g s c' 0 t :=
  z_ev_c t 0 (fun r hr => h r (hk.2.1 r hr).1)
theorem z_Seq {g : Nat → Nat} {s : Nat → Nat → Nat × Nat} {n c c' : Nat → Nat} {t : Lean.Data.AC.Expr} (hk : z_Rk n s t) (hc : z_Ch n t c) (h : z_S n t (z_cd c + 1) c') : z_S n t (z_cd c) c' ∨ (z_cd c' = z_cd c ∧ z_ev g s c' 0 t = z_ev g s c 0 t) := by
  by_cases q : z_cd c' < z_cd c
  · exact Or.inl ⟨h.1, q⟩
  · have e : z_cd c' = z_cd c := by have := h.2; omega
    refine Or.inr ⟨e, z_ev6 hk (z_cd_eq e (fun q hq => ?_) (fun q hq => ?_))⟩
    · have := h.1 q hq; have := z_u3 hk hq; omega
    · have := hc q hq; have := z_u3 hk hq; omega
theorem z_fbr {g : Nat → Nat} {s : Nat → Nat → Nat × Nat} {n c : Nat → Nat} {t : Lean.Data.AC.Expr} {W H : Nat} {σ : rl_M} (hk : z_Rk n s t) (hC : z_Rc σ g s n t W H) (h67 : ∀ q, q < 6 → σ 67 q = nI (c q)) (hc : z_Ch n t c) (hB : z_Bf σ g s t W H (z_S n t (z_cd c))) :
    ∃ τ, z_FM σ τ ∧ (∀ q, q < 6 → τ 67 q = nI (c q)) ∧ z_Bf τ g s t W H (z_S n t (z_cd c + 1)) ∧ ∀ (K : rl_M → Option (Int32 × rl_M)) (f : Nat), rf_Mo_findBest_L22 K (f + 1) 1 σ = (rf_Mo_nextChoice τ).bind (fun q => rf_Mo_findBest_L22 K f q.1 q.2) := by
  obtain ⟨⟨τ1, t1, t2, t3⟩, hb⟩ := z_ch_la hk hC h67 hc
  have hC1 := z_Rc_f t3.fm hC
  have h671 : ∀ q, q < 6 → τ1 67 q = nI (c q) := fun q hq => by rw [t3 67 (by omega) (by omega) (by omega) (by omega) (by omega)]; exact h67 q hq
  have hB1 : z_Bf τ1 g s t W H (z_S n t (z_cd c)) := z_Bf_f hB (t3 59 (by omega) (by omega) (by omega) (by omega) (by omega)) (t3 68 (by omega) (by omega) (by omega) (by omega) (by omega))
  obtain ⟨a1, a2⟩ := z_La_top t2
  rw [Nat.zero_add] at a1 a2
  have hC2 := hC1
  obtain ⟨g1, g2, g3, g4, g5, g6, g7, g8⟩ := hC2
  have g21 := g2.1
  have hb' := hb
  unfold z_Bs at hb'
  have ar : (z_ev g s c 0 t).1 * (z_ev g s c 0 t).2 ≤ 360 * 360 := Nat.mul_le_mul (by omega) (by omega)
  -- the choice is kept where it fits and is better
  have take : z_ft g s t W H c → (∀ c', z_S n t (z_cd c) c' → z_ft g s t W H c' → z_zl g s t c c') → (∀ (K : rl_M → Option (Int32 × rl_M)) (f : Nat), rf_Mo_findBest_L22 K (f + 1) 1 σ = rf_Mo_findBest_J104 (nI (z_ev g s c 0 t).1) (nI (z_ev g s c 0 t).2) 1 (rf_Mo_findBest_L22 K f) K τ1) →
      ∃ τ, z_FM σ τ ∧ (∀ q, q < 6 → τ 67 q = nI (c q)) ∧ z_Bf τ g s t W H (z_S n t (z_cd c + 1)) ∧ ∀ (K : rl_M → Option (Int32 × rl_M)) (f : Nat), rf_Mo_findBest_L22 K (f + 1) 1 σ = (rf_Mo_nextChoice τ).bind (fun q => rf_Mo_findBest_L22 K f q.1 q.2) := by
    intro hft hz he
    obtain ⟨τ, u1, u2, u3⟩ := z_cp68 6 0 (rl_su (rl_su (rl_su τ1 59 15 1) 59 16 (nI (z_ev g s c 0 t).1)) 59 17 (nI (z_ev g s c 0 t).2)) (by omega)
    refine ⟨τ, ⟨?_, ?_⟩, ?_, ?_, ?_⟩
    · intro e hee
      rw [u3 e (by omega), z_su_ce (by omega), z_su_ce (by omega), z_su_ce (by omega)]
      exact t3.fm.1 e hee
    · intro j j1 j2 j3
      rw [u3 59 (by omega), z_su_j j3, z_su_j j2, z_su_j j1]
      exact t3.fm.2 j j1 j2 j3
    · intro q hq
      rw [u3 67 (by omega), z_su_ce (by omega), z_su_ce (by omega), z_su_ce (by omega)]
      exact h671 q hq
    · refine Or.inr ⟨c, ?_, ?_, ?_, ?_, ⟨hc, by omega⟩, hft, ?_⟩
      · rw [u3 59 (by omega), z_su_j (by omega), z_su_j (by omega), z_su_s]
      · rw [u3 59 (by omega), z_su_j (by omega), z_su_s]
      · rw [u3 59 (by omega), z_su_s]
      · intro q hq
        rw [u2 q hq, if_pos (by omega), z_su_c (by omega), z_su_c (by omega), z_su_c (by omega)]
        exact h671 q hq
      · intro c' h1 h2
        rcases z_Seq (g := g) hk hc h1 with h | ⟨h, h'⟩
        · exact hz c' h h2
        · unfold z_zl; rw [h']; omega
    · intro K f
      rw [he K f]
      unfold rf_Mo_findBest_J104
      have uu := u1 (fun q16m => (rf_Mo_nextChoice q16m).bind (fun q17 => rf_Mo_findBest_L22 K f q17.1 q17.2)) 10000 (by omega)
      simp only [z_fits1 hC1 t2 hb hft, Option.bind_some, z_10, if_false]
      exact uu
  -- it is left where it doesn't fit, or isn't better
  have leave : (¬ z_ft g s t W H c ∨ ∃ b, z_zl g s t b c ∧ z_ft g s t W H b ∧ z_S n t (z_cd c) b ∧ τ1 59 15 = 1 ∧ τ1 59 16 = nI (z_ev g s b 0 t).1 ∧ τ1 59 17 = nI (z_ev g s b 0 t).2 ∧ (∀ q, q < 6 → τ1 68 q = nI (b q)) ∧ ∀ c', z_S n t (z_cd c) c' → z_ft g s t W H c' → z_zl g s t b c') → (∀ (K : rl_M → Option (Int32 × rl_M)) (f : Nat), rf_Mo_findBest_L22 K (f + 1) 1 σ = (rf_Mo_nextChoice τ1).bind (fun q => rf_Mo_findBest_L22 K f q.1 q.2)) →
      ∃ τ, z_FM σ τ ∧ (∀ q, q < 6 → τ 67 q = nI (c q)) ∧ z_Bf τ g s t W H (z_S n t (z_cd c + 1)) ∧ ∀ (K : rl_M → Option (Int32 × rl_M)) (f : Nat), rf_Mo_findBest_L22 K (f + 1) 1 σ = (rf_Mo_nextChoice τ).bind (fun q => rf_Mo_findBest_L22 K f q.1 q.2) := by
    intro hn he
    refine ⟨τ1, t3.fm, h671, ?_, he⟩
    rcases hn with hn | ⟨b, d1, d2, d3, d4, d5, d6, d7, d8⟩
    · have nf : ∀ c', z_cd c' = z_cd c ∧ z_ev g s c' 0 t = z_ev g s c 0 t → ¬ z_ft g s t W H c' := by
        rintro c' ⟨_, h⟩ h2
        unfold z_ft at hn h2
        rw [h] at h2
        exact hn h2
      rcases hB1 with ⟨h1, h2⟩ | ⟨b, h1, h2, h3, h4, h5, h6, h7⟩
      · refine Or.inl ⟨h1, fun c' hc' => ?_⟩
        rcases z_Seq (g := g) hk hc hc' with h | h
        · exact h2 c' h
        · exact nf c' h
      · refine Or.inr ⟨b, h1, h2, h3, h4, ⟨h5.1, by have := h5.2; omega⟩, h6, fun c' hc' hf' => ?_⟩
        rcases z_Seq (g := g) hk hc hc' with h | h
        · exact h7 c' h hf'
        · exact (nf c' h hf').elim
    · refine Or.inr ⟨b, d4, d5, d6, d7, ⟨d3.1, by have := d3.2; omega⟩, d2, fun c' hc' hf' => ?_⟩
      rcases z_Seq (g := g) hk hc hc' with h | ⟨h, h'⟩
      · exact d8 c' h hf'
      · unfold z_zl at *; rw [h', h]; exact d1
  have j0 : ∀ (s0 : Int32) (RC : Int32 → rl_M → Option (Int32 × rl_M)) (K : rl_M → Option (Int32 × rl_M)) (x y : Int32), ¬ z_ft g s t W H c ∨ s0 = 0 → rf_Mo_findBest_J104 x y s0 RC K τ1 = (rf_Mo_nextChoice τ1).bind (fun q => RC q.1 q.2) := by
    intro s0 RC K x y h
    unfold rf_Mo_findBest_J104
    by_cases hft : z_ft g s t W H c
    · have h0 : s0 = 0 := h.resolve_left (fun h => h hft)
      subst h0
      simp only [z_fits1 hC1 t2 hb hft, Option.bind_some, z_10, if_false, if_true]
    · simp only [z_fits0 hC1 t2 hb hft, Option.bind_some, if_true]
  rcases hB1 with ⟨h1, h2⟩ | ⟨b, h1, h2, h3, h4, h5, h6, h7⟩
  · have he : ∀ (K : rl_M → Option (Int32 × rl_M)) (f : Nat), rf_Mo_findBest_L22 K (f + 1) 1 σ = rf_Mo_findBest_J104 (nI (z_ev g s c 0 t).1) (nI (z_ev g s c 0 t).2) 1 (rf_Mo_findBest_L22 K f) K τ1 := by
      intro K f
      conv => lhs; unfold rf_Mo_findBest_L22
      unfold rf_Mo_findBest_J99
      simp (disch := omega) only [t1, g21, h1, a1, a2, z_lt, z_le, z_eq, z_ltl, z_lel, z_llt, z_lle, z_eql, z_add, z_addl, z_ladd, z_mul, z_mull, z_lmul, z_sub, z_subl, z_cl, z_ib, z_nm, z_m1, z_mlt, if_pos, if_neg, ge_iff_le, gt_iff_lt, ite_true, ite_false, if_true, if_false, Option.bind_some, z_10, eq_self, Nat.add_sub_cancel]
    by_cases hft : z_ft g s t W H c
    · exact take hft (fun c' hc' hf' => (h2 c' hc' hf').elim) he
    · exact leave (Or.inl hft) (fun K f => (he K f).trans (j0 1 _ _ _ _ (Or.inl hft)))
  · unfold z_ft at h6
    have br : (z_ev g s b 0 t).1 * (z_ev g s b 0 t).2 ≤ 400 * 400 := Nat.mul_le_mul (by omega) (by omega)
    have cdb := h5.2
    by_cases better : (z_ev g s c 0 t).1 * (z_ev g s c 0 t).2 < (z_ev g s b 0 t).1 * (z_ev g s b 0 t).2 ∨ ((z_ev g s c 0 t).1 * (z_ev g s c 0 t).2 = (z_ev g s b 0 t).1 * (z_ev g s b 0 t).2 ∧ (z_ev g s c 0 t).1 < (z_ev g s b 0 t).1)
    · have he : ∀ (K : rl_M → Option (Int32 × rl_M)) (f : Nat), rf_Mo_findBest_L22 K (f + 1) 1 σ = rf_Mo_findBest_J104 (nI (z_ev g s c 0 t).1) (nI (z_ev g s c 0 t).2) 1 (rf_Mo_findBest_L22 K f) K τ1 := by
        intro K f
        conv => lhs; unfold rf_Mo_findBest_L22
        unfold rf_Mo_findBest_J99
        by_cases q1 : (z_ev g s c 0 t).1 * (z_ev g s c 0 t).2 < (z_ev g s b 0 t).1 * (z_ev g s b 0 t).2
        · simp (disch := omega) only [t1, g21, h1, h2, h3, a1, a2, z_lt, z_le, z_eq, z_ltl, z_lel, z_llt, z_lle, z_eql, z_add, z_addl, z_ladd, z_mul, z_mull, z_lmul, z_sub, z_subl, z_cl, z_ib, z_nm, z_m1, z_mlt, if_pos, if_neg, ge_iff_le, gt_iff_lt, ite_true, ite_false, if_true, if_false, Option.bind_some, z_10, eq_self, Nat.add_sub_cancel]
        · simp (disch := omega) only [t1, g21, h1, h2, h3, a1, a2, z_lt, z_le, z_eq, z_ltl, z_lel, z_llt, z_lle, z_eql, z_add, z_addl, z_ladd, z_mul, z_mull, z_lmul, z_sub, z_subl, z_cl, z_ib, z_nm, z_m1, z_mlt, if_pos, if_neg, ge_iff_le, gt_iff_lt, ite_true, ite_false, if_true, if_false, Option.bind_some, z_10, eq_self, Nat.add_sub_cancel]
      by_cases hft : z_ft g s t W H c
      · refine take hft (fun c' hc' hf' => ?_) he
        have := h7 c' hc' hf'
        unfold z_zl at *
        omega
      · exact leave (Or.inl hft) (fun K f => (he K f).trans (j0 1 _ _ _ _ (Or.inl hft)))
    · have he : ∀ (K : rl_M → Option (Int32 × rl_M)) (f : Nat), rf_Mo_findBest_L22 K (f + 1) 1 σ = rf_Mo_findBest_J104 (nI (z_ev g s c 0 t).1) (nI (z_ev g s c 0 t).2) 0 (rf_Mo_findBest_L22 K f) K τ1 := by
        intro K f
        conv => lhs; unfold rf_Mo_findBest_L22
        unfold rf_Mo_findBest_J103
        by_cases q1 : (z_ev g s c 0 t).1 * (z_ev g s c 0 t).2 = (z_ev g s b 0 t).1 * (z_ev g s b 0 t).2
        · simp (disch := omega) only [t1, g21, h1, h2, h3, a1, a2, z_lt, z_le, z_eq, z_ltl, z_lel, z_llt, z_lle, z_eql, z_add, z_addl, z_ladd, z_mul, z_mull, z_lmul, z_sub, z_subl, z_cl, z_ib, z_nm, z_m1, z_mlt, if_pos, if_neg, ge_iff_le, gt_iff_lt, ite_true, ite_false, if_true, if_false, Option.bind_some, z_10, eq_self, Nat.add_sub_cancel]
        · simp (disch := omega) only [t1, g21, h1, h2, h3, a1, a2, z_lt, z_le, z_eq, z_ltl, z_lel, z_llt, z_lle, z_eql, z_add, z_addl, z_ladd, z_mul, z_mull, z_lmul, z_sub, z_subl, z_cl, z_ib, z_nm, z_m1, z_mlt, if_pos, if_neg, ge_iff_le, gt_iff_lt, ite_true, ite_false, if_true, if_false, Option.bind_some, z_10, eq_self, Nat.add_sub_cancel]
      refine leave (Or.inr ⟨b, ?_, h6, h5, h1, h2, h3, h4, h7⟩) (fun K f => (he K f).trans (j0 0 _ _ _ _ (Or.inr rfl)))
      unfold z_zl
      omega
theorem z_fb22 {g : Nat → Nat} {s : Nat → Nat → Nat × Nat} {n : Nat → Nat} {t : Lean.Data.AC.Expr} {W H : Nat} (hk : z_Rk n s t) : ∀ (d : Nat) (σ : rl_M) (c : Nat → Nat), 4095 ≤ z_cd c + d → z_Rc σ g s n t W H → (∀ q, q < 6 → σ 67 q = nI (c q)) → z_Ch n t c → z_Bf σ g s t W H (z_S n t (z_cd c)) →
    ∃ τ, (∀ (K : rl_M → Option (Int32 × rl_M)) (f : Nat), d + 2 ≤ f → rf_Mo_findBest_L22 K f 1 σ = K τ) ∧ z_FM σ τ ∧ z_Bf τ g s t W H (z_Ch n t) := by
  intro d
  induction d with
  | zero =>
    intro σ c hd hC h67 hc hB
    obtain ⟨τ, t1, t2, t3, t4⟩ := z_fbr hk hC h67 hc hB
    have hC1 := z_Rc_f t1 hC
    rcases z_next hk hC1 t2 hc with ⟨υ, c', u1, u2, u3, u4, u5, u6⟩ | ⟨υ, u1, u2, u3⟩
    · exfalso
      have b0 := u3 0 (by omega); have b1 := u3 1 (by omega); have b2 := u3 2 (by omega); have b3 := u3 3 (by omega); have b4 := u3 4 (by omega); have b5 := u3 5 (by omega)
      have d0 := z_u3 hk (show 0 < 6 by omega); have d1 := z_u3 hk (show 1 < 6 by omega); have d2 := z_u3 hk (show 2 < 6 by omega); have d3 := z_u3 hk (show 3 < 6 by omega); have d4 := z_u3 hk (show 4 < 6 by omega); have d5 := z_u3 hk (show 5 < 6 by omega)
      have : z_cd c' ≤ 4095 := by unfold z_cd; omega
      omega
    · refine ⟨υ, ?_, t1.tr ⟨fun e he => u3 e (by omega), fun j _ _ _ => by rw [u3 59 (by omega)]⟩, z_Bf_f (z_Bf_S t3 (fun c' => ⟨fun h => h.1, fun h => ⟨h, by have := u2 c' h; omega⟩⟩)) (u3 59 (by omega)) (u3 68 (by omega))⟩
      intro K f hf
      obtain ⟨f, rfl⟩ : ∃ g, f = g + 2 := ⟨f - 2, by omega⟩
      rw [t4 K (f + 1), u1]
      simp only [Option.bind_some]
      unfold rf_Mo_findBest_L22
      simp only [if_true]
  | succ d ih =>
    intro σ c hd hC h67 hc hB
    obtain ⟨τ, t1, t2, t3, t4⟩ := z_fbr hk hC h67 hc hB
    have hC1 := z_Rc_f t1 hC
    rcases z_next hk hC1 t2 hc with ⟨υ, c', u1, u2, u3, u4, u5, u6⟩ | ⟨υ, u1, u2, u3⟩
    · have fm : z_FM τ υ := ⟨fun e he => u6 e (by omega), fun j _ _ _ => by rw [u6 59 (by omega)]⟩
      obtain ⟨ω, w1, w2, w3⟩ := ih υ c' (by omega) (z_Rc_f fm hC1) u2 u3 (z_Bf_f (z_Bf_S t3 (fun c'' => ⟨fun h => ⟨h.1, by have := h.2; omega⟩, fun h => ⟨h.1, by
        have h1 := h.2
        by_cases q : z_cd c < z_cd c''
        · have := u5 c'' h.1 q; omega
        · omega⟩⟩)) (u6 59 (by omega)) (u6 68 (by omega)))
      refine ⟨ω, ?_, (t1.tr fm).tr w2, w3⟩
      intro K f hf
      obtain ⟨f, rfl⟩ : ∃ g, f = g + 1 := ⟨f - 1, by omega⟩
      rw [t4 K f, u1]
      simp only [Option.bind_some]
      exact w1 K f (by omega)
    · refine ⟨υ, ?_, t1.tr ⟨fun e he => u3 e (by omega), fun j _ _ _ => by rw [u3 59 (by omega)]⟩, z_Bf_f (z_Bf_S t3 (fun c' => ⟨fun h => h.1, fun h => ⟨h, by have := u2 c' h; omega⟩⟩)) (u3 59 (by omega)) (u3 68 (by omega))⟩
      intro K f hf
      obtain ⟨f, rfl⟩ : ∃ g, f = g + 2 := ⟨f - 2, by omega⟩
      rw [t4 K (f + 1), u1]
      simp only [Option.bind_some]
      unfold rf_Mo_findBest_L22
      simp only [if_true]
theorem z_find {g : Nat → Nat} {s : Nat → Nat → Nat × Nat} {n : Nat → Nat} {t : Lean.Data.AC.Expr} {W H : Nat} {σ : rl_M} (hk : z_Rk n s t) (hC : z_Rc σ g s n t W H) :
    ∃ τ, rf_Mo_findBest σ = some (0, τ) ∧ z_FM σ τ ∧ ((τ 59 15 = 0 ∧ ∀ p, ¬ z_Pf g s n t W H p) ∨ ∃ c, z_Best g s n t W H c ∧ τ 59 15 = 1 ∧ τ 59 16 = nI (z_ev g s c 0 t).1 ∧ τ 59 17 = nI (z_ev g s c 0 t).2 ∧ (∀ q, q < 6 → τ 68 q = nI (c q)) ∧ z_La τ g s c 0 t ∧ z_Co (τ 71) (τ 72) g s c 0 t 0 0) := by
  obtain ⟨τ0, a1, a2, a3⟩ := z_fch 6 0 (rl_su σ 59 15 0) 10000 (by omega) (by omega)
  have fm0 : z_FM σ τ0 := ⟨fun e he => by rw [a3 e (by omega), z_su_ce (by omega)], fun j h1 h2 h3 => by rw [a3 59 (by omega), z_su_j h1]⟩
  have hC0 := z_Rc_f fm0 hC
  obtain ⟨τ, t1, t2, t3⟩ := z_fb22 hk 4095 τ0 (fun _ => 0) (by omega) hC0 (fun q hq => by rw [a2 q hq, if_pos (by omega)]; rfl) (fun q hq => Nat.zero_le _) (Or.inl ⟨by rw [a3 59 (by omega), z_su_s], fun c hc => by have h := hc.2; have e : z_cd (fun _ => 0) = 0 := rfl; omega⟩)
  have hC1 := z_Rc_f t2 hC0
  have e7 := hC0.2.1.1
  have hm11 := hC0.1
  rcases t3 with ⟨h1, h2⟩ | ⟨b, h1, h2, h3, h4, h5, h6, h7⟩
  · refine ⟨τ, ?_, fm0.tr t2, Or.inl ⟨h1, ?_⟩⟩
    · unfold rf_Mo_findBest rf_Mo_firstChoice
      have a1' : rf_Mo_firstChoice_L2 10000 0 (rl_su σ 59 15 0) = some (0, τ0) := a1
      rw [a1']
      simp (disch := omega) only [e7, z_lt, z_le, z_eq, z_ltl, z_lel, z_llt, z_lle, z_eql, z_add, z_addl, z_ladd, z_mul, z_mull, z_lmul, z_sub, z_subl, z_cl, z_ib, z_nm, z_m1, z_mlt, if_pos, if_neg, ge_iff_le, gt_iff_lt, ite_true, ite_false, if_true, if_false, Option.bind_some, z_10, eq_self]
      refine (t1 _ 10000 (by omega)).trans ?_
      simp only [h1, if_true]
    · intro p hp
      obtain ⟨c, c1, c2⟩ := z_Pf_of hk hp
      refine h2 c c1 ?_
      unfold z_ft; rw [c2]; exact hp.2
  · obtain ⟨τ2, u1, u2, u3⟩ := z_cp67 6 0 τ (by omega)
    have fm2 : z_FM τ τ2 := ⟨fun e he => u3 e (by omega), fun j _ _ _ => by rw [u3 59 (by omega)]⟩
    have hC2 := z_Rc_f fm2 hC1
    obtain ⟨⟨τ3, v1, v2, v3⟩, hb⟩ := z_ch_la hk hC2 (fun q hq => by rw [u2 q hq, if_pos (by omega)]; exact h4 q hq) h5
    have hC3 := z_Rc_f v3.fm hC2
    obtain ⟨τ4, w1, w2, w3⟩ := z_corn hC3.1 hC3.2.1 hC3.2.2.2.1 v2
    have fm4 : z_FM τ3 τ4 := ⟨fun e he => w3 e (by omega) (by omega), fun j _ _ _ => by rw [w3 59 (by omega) (by omega)]⟩
    have e59 : τ4 59 = τ 59 := by rw [w3 59 (by omega) (by omega), v3 59 (by omega) (by omega) (by omega) (by omega) (by omega), u3 59 (by omega)]
    have e68 : τ4 68 = τ 68 := by rw [w3 68 (by omega) (by omega), v3 68 (by omega) (by omega) (by omega) (by omega) (by omega), u3 68 (by omega)]
    refine ⟨τ4, ?_, (((fm0.tr t2).tr fm2).tr v3.fm).tr fm4, Or.inr ⟨b, ⟨h5, h6, h7⟩, by rw [e59]; exact h1, by rw [e59]; exact h2, by rw [e59]; exact h3, fun q hq => by rw [e68]; exact h4 q hq, ?_, w2⟩⟩
    · unfold rf_Mo_findBest rf_Mo_firstChoice
      have a1' : rf_Mo_firstChoice_L2 10000 0 (rl_su σ 59 15 0) = some (0, τ0) := a1
      rw [a1']
      simp (disch := omega) only [e7, z_lt, z_le, z_eq, z_ltl, z_lel, z_llt, z_lle, z_eql, z_add, z_addl, z_ladd, z_mul, z_mull, z_lmul, z_sub, z_subl, z_cl, z_ib, z_nm, z_m1, z_mlt, if_pos, if_neg, ge_iff_le, gt_iff_lt, ite_true, ite_false, if_true, if_false, Option.bind_some, z_10, eq_self]
      refine (t1 _ 10000 (by omega)).trans ?_
      simp only [h1, z_10, if_false]
      refine (u1 _ 10000 (by omega)).trans ?_
      simp only [v1, w1, Option.bind_some]
    · exact z_La_f t 0 (fun j _ _ => by rw [w3 69 (by omega) (by omega), w3 70 (by omega) (by omega), w3 73 (by omega) (by omega), w3 74 (by omega) (by omega)]; exact ⟨rfl, rfl, rfl, rfl⟩) v2
theorem z_find0 {σ : rl_M} (h7 : σ 59 7 = nI 0) : ∃ τ, rf_Mo_findBest σ = some (0, τ) ∧ z_FM σ τ ∧ τ 59 15 = 0 := by
  obtain ⟨τ0, a1, a2, a3⟩ := z_fch 6 0 (rl_su σ 59 15 0) 10000 (by omega) (by omega)
  have fm0 : z_FM σ τ0 := ⟨fun e he => by rw [a3 e (by omega), z_su_ce (by omega)], fun j h1 h2 h3 => by rw [a3 59 (by omega), z_su_j h1]⟩
  have e7 : τ0 59 7 = nI 0 := by rw [fm0.2 7 (by omega) (by omega) (by omega)]; exact h7
  have e15 : τ0 59 15 = 0 := by rw [a3 59 (by omega), z_su_s]
  refine ⟨τ0, ?_, fm0, e15⟩
  unfold rf_Mo_findBest rf_Mo_firstChoice
  have a1' : rf_Mo_firstChoice_L2 10000 0 (rl_su σ 59 15 0) = some (0, τ0) := a1
  have e0 : nI 0 ≤ 0 := by decide
  rw [a1']
  simp only [Option.bind_some, e7, e0, if_true]
  unfold rf_Mo_findBest_L22
  simp only [if_true, e15]
