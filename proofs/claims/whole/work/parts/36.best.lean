theorem z_tfit (σ : rl_M) (a0 a1 w h : Nat) (d1 : a1 + 2 < a0 ∨ a0 + 2 < a1) (hw : w < 2147483648) (hh : h < 2147483648) {L : List (Nat × Nat)} {P : Nat × Nat → Prop} (hc : z_Cv σ a1 L) (hs : z_Sm L) (hr : z_Rep L P) :
    ∃ τ M, rf_Cu_takeFitting a0 a1 (nI w) (nI h) σ = some (0, τ) ∧ z_Cv τ a0 M ∧ M.length ≤ 24 ∧ z_Rep M (fun p => P p ∧ p.1 ≤ w ∧ p.2 ≤ h) ∧ z_F a0 σ τ := by
  have F0 : z_F a0 σ (rl_su σ a0 0 (nI 0)) := z_F_cl
  have l1 := hs.1
  obtain ⟨τ, t1, t2, t3⟩ := z_tf a0 a1 w h d1 hw hh L [] [] (rl_su σ a0 0 (nI 0)) 10000 (F0.cv hc d1) hs z_Cv_nil (by simp) (by omega)
  rw [List.nil_append] at t2
  refine ⟨τ, _, ?_, t2, ?_, ⟨?_, ?_, hr.2.2.filter _⟩, F0.tr t3⟩
  · unfold rf_Cu_takeFitting
    rw [z_cl0, Option.bind_some]
    exact t1
  · have := List.length_filter_le (fun p => decide (p.1 ≤ w ∧ p.2 ≤ h)) L
    omega
  · intro p hp
    rw [List.mem_filter] at hp
    exact ⟨hr.1 p hp.1, of_decide_eq_true hp.2⟩
  · rintro p ⟨h1, h2, h3⟩
    obtain ⟨q, hq, e⟩ := hr.2.1 p h1
    exact ⟨q, List.mem_filter.mpr ⟨hq, decide_eq_true ⟨by omega, by omega⟩⟩, e⟩
theorem z_least (σ : rl_M) (a : Nat) {L : List (Nat × Nat)} (hc : z_Cv σ a L) (hl : L.length ≤ 24) (hb : ∀ p ∈ L, p.1 ≤ 400 ∧ p.2 ≤ 400) :
    ∃ x y, rf_Cu_leastArea a σ = some (x, σ) ∧ z_bst L x y :=
  z_la a σ L [] (-1) (nI 160001) 10000 hc hl hb (by omega) (Or.inl ⟨rfl, rfl, rfl⟩)
/-- what measure() has left: the outlines that fit, and the best one's number -/
def z_Ms (σ : rl_M) (Pf : Nat × Nat → Prop) : Prop := ∃ F y, z_Cv σ 56 F ∧ F.length ≤ 24 ∧ z_Rep F Pf ∧ z_bst F (σ 3 8) y
def z_FC (σ τ : rl_M) : Prop := (∀ c, (c < 16 ∧ c ≠ 3) ∨ (19 ≤ c ∧ c < 23) ∨ 59 ≤ c → τ c = σ c) ∧ (∀ j, j ≠ 4 → j ≠ 5 → j ≠ 8 → τ 3 j = σ 3 j)
theorem z_FC.tr {σ τ υ : rl_M} (h : z_FC σ τ) (h2 : z_FC τ υ) : z_FC σ υ := ⟨fun c hc => (h2.1 c hc).trans (h.1 c hc), fun j h4 h5 h8 => (h2.2 j h4 h5 h8).trans (h.2 j h4 h5 h8)⟩
theorem z_FC.rf {σ : rl_M} : z_FC σ σ := ⟨fun _ _ => rfl, fun _ _ _ _ => rfl⟩
theorem z_msT {g : Nat → Nat} {s : Nat → Nat → Nat × Nat} {n : Nat → Nat} {t : Lean.Data.AC.Expr} {σ : rl_M} {W H : Nat} (h34 : σ 3 4 = 0) (hm : z_nd t + 1 ≤ 11) (ho : z_Or σ g (z_nd t + 1)) (hs : z_Sz σ n s) (ht : z_Tr σ 0 t) (hf : z_Fl g 0 t) (hb : ∀ r ∈ z_rm t, ∀ j, j < n r → z_Bs (s r j) 1) (hW : σ 3 2 = nI W) (hH : σ 3 3 = nI H) (bW : W ≤ 400) (bH : H ≤ 400) :
    ∃ τ, rf_Pl_measure σ = some (0, τ) ∧ z_CA g s (fun r j => j < n r) τ 0 t ∧ z_Ms τ (fun p => z_out g s (fun r j => j < n r) 0 t p ∧ p.1 ≤ W ∧ p.2 ≤ H) ∧ τ 3 4 = 1 ∧ τ 3 5 = σ 3 5 ∧ z_FC σ τ := by
  obtain ⟨τ, t1, t2, t3⟩ := z_ms hm t 0 σ ho hs ht hf hb (by omega)
  obtain ⟨f, hf1⟩ : ∃ f, 10000 = (f + 1) + (z_nd t + 1) := ⟨9998 - z_nd t, by omega⟩
  have nl := z_nl t
  obtain ⟨L, a1, a2, a3⟩ := z_CA_top t2
  rw [Nat.zero_add] at a1
  have h8 : τ 8 0 = nI (z_nd t + 1) := by rw [t3.lo 8 (by omega)]; exact ho.1
  have h32 : τ 3 2 = nI W := by rw [t3.lo 3 (by omega)]; exact hW
  have h33 : τ 3 3 = nI H := by rw [t3.lo 3 (by omega)]; exact hH
  have F0 : z_F 56 τ (rl_su τ 56 0 (nI 0)) := z_F_cl
  obtain ⟨υ, M, u1, u2, u3, u4, u5⟩ := z_tfit (rl_su τ 56 0 (nI 0)) 56 (23 + 3 * z_nd t) W H (by omega) (by omega) (by omega) (F0.cv a1 (by omega)) ⟨by omega, fun p hp => z_Bs_6 (z_out_b t 0 p hb (a2.1 p hp)) (by omega)⟩ a2
  obtain ⟨x, y, v1, v2⟩ := z_least υ 56 u2 u3 (fun p hp => by have := (u4.1 p hp).2; omega)
  have Ft := F0.tr u5
  refine ⟨rl_su (rl_su υ 3 8 x) 3 4 1, ?_, ?_, ?_, ?_, ?_, ?_, ?_⟩
  · unfold rf_Pl_measure
    rw [if_pos h34, hf1]
    refine (t1 _ (f + 1)).trans ?_
    conv => lhs; unfold rf_Pl_measure_L10
    have hh : rf_St_has (nI (z_nd t)) (rl_su τ 56 0 (nI 0)) = some (1, rl_su τ 56 0 (nI 0)) := z_has (m := z_nd t + 1) (by rw [F0 8 (by omega) (by omega) (by omega)]; exact h8) hm (by omega)
    have g2 : (rl_su τ 56 0 (nI 0)) 3 2 = nI W := by rw [F0 3 (by omega) (by omega) (by omega)]; exact h32
    have g3 : (rl_su τ 56 0 (nI 0)) 3 3 = nI H := by rw [F0 3 (by omega) (by omega) (by omega)]; exact h33
    simp (disch := omega) only [h8, z_lt, z_le, z_eq, z_ltl, z_lel, z_llt, z_lle, z_eql, z_add, z_addl, z_ladd, z_mul, z_mull, z_lmul, z_sub, z_subl, z_cl, z_ib, z_nm, z_m1, z_mlt, if_pos, if_neg, ge_iff_le, gt_iff_lt, ite_true, ite_false, if_true, if_false, Option.bind_some, z_10, eq_self, Nat.zero_add, Nat.add_sub_cancel, z_cl0, hh, z_cv, g2, g3, u1, v1]
  · refine z_CA_f t 0 (fun c h1 h2 => ?_) t2
    rw [z_su_ce (by omega), z_su_ce (by omega), Ft c (by omega) (by omega) (by omega)]
  · refine ⟨M, y, z_Cv_c u2 (by rw [z_su_ce (by omega), z_su_ce (by omega)]) (by rw [z_su_ce (by omega), z_su_ce (by omega)]) (by rw [z_su_ce (by omega), z_su_ce (by omega)]), u3, u4, ?_⟩
    simp (disch := omega) only [z_su_c, z_su_s, z_su_j]
    exact v2
  · rw [z_su_s]
  · simp (disch := omega) only [z_su_c, z_su_s, z_su_j]
    rw [Ft 3 (by omega) (by omega) (by omega), t3.lo 3 (by omega)]
  · intro c hc
    rw [z_su_ce (by omega), z_su_ce (by omega), Ft c (by omega) (by omega) (by omega), t3 c (by omega)]
  · intro j h4 h5 h8
    simp (disch := omega) only [z_su_c, z_su_s, z_su_j]
    rw [Ft 3 (by omega) (by omega) (by omega), t3.lo 3 (by omega)]
theorem z_ms0 {σ : rl_M} (h34 : σ 3 4 = 0) (h8 : σ 8 0 = nI 0) :
    ∃ τ, rf_Pl_measure σ = some (0, τ) ∧ z_Ms τ (fun _ => False) ∧ τ 3 4 = 1 ∧ τ 3 5 = σ 3 5 ∧ z_FC σ τ := by
  have F0 : z_F 56 σ (rl_su σ 56 0 (nI 0)) := z_F_cl
  obtain ⟨x, y, v1, v2⟩ := z_least (rl_su σ 56 0 (nI 0)) 56 (L := []) z_Cv_nil (by simp) (by simp)
  refine ⟨rl_su (rl_su (rl_su σ 56 0 (nI 0)) 3 8 x) 3 4 1, ?_, ?_, ?_, ?_, ?_, ?_⟩
  · unfold rf_Pl_measure
    rw [if_pos h34]
    conv => lhs; unfold rf_Pl_measure_L10
    have e0 : (0 : Int32) ≤ 0 := by decide
    have e1 : nI 0 ≤ 0 := by decide
    simp only [h8, e1, if_true, z_cl0, Option.bind_some, z_0s1, z_hasn, v1]
  · refine ⟨[], y, z_Cv_c (z_Cv_nil (σ := σ)) (by rw [z_su_ce (by omega), z_su_ce (by omega)]) (by rw [z_su_ce (by omega), z_su_ce (by omega)]) (by rw [z_su_ce (by omega), z_su_ce (by omega)]), by simp, ⟨by simp, fun p hp => hp.elim, by simp⟩, ?_⟩
    simp (disch := omega) only [z_su_c, z_su_s, z_su_j]
    exact v2
  · rw [z_su_s]
  · simp (disch := omega) only [z_su_c, z_su_s, z_su_j]
  · intro c hc
    rw [z_su_ce (by omega), z_su_ce (by omega), F0 c (by omega) (by omega) (by omega)]
  · intro j h4 h5 h8
    simp (disch := omega) only [z_su_c, z_su_s, z_su_j]
theorem z_ms1 {σ : rl_M} (h34 : σ 3 4 = 1) : rf_Pl_measure σ = some (0, σ) := by
  unfold rf_Pl_measure
  rw [h34]; rfl
/-- the best outline, or none -/
def z_BO (Pf : Nat × Nat → Prop) (p : Nat × Nat) : Prop := Pf p ∧ ∀ q, Pf q → p.1 * p.2 < q.1 * q.2 ∨ (p.1 * p.2 = q.1 * q.2 ∧ p.1 ≤ q.1)
theorem z_bo {σ : rl_M} {Pf : Nat × Nat → Prop} (h : z_Ms σ Pf) : (σ 3 8 = -1 ∧ ∀ p, ¬ Pf p) ∨ ∃ i p, σ 3 8 = nI i ∧ i < 24 ∧ z_BO Pf p ∧ rf_Cu_widthAt 56 (σ 3 8) σ = some (nI p.1, σ) ∧ rf_Cu_heightAt 56 (σ 3 8) σ = some (nI p.2, σ) := by
  obtain ⟨F, y, h1, h2, h3, h4⟩ := h
  rcases h4 with ⟨e1, e2, e3⟩ | ⟨A1, p, A2, e1, e2, e3, e4, e5⟩
  · left
    refine ⟨e2, fun p hp => ?_⟩
    obtain ⟨q, hq, _⟩ := h3.2.1 p hp
    rw [e1] at hq
    simp at hq
  · right
    subst e1
    have c1 := h1.1
    have m1 := z_Cv_mid h1
    simp only [List.length_append, List.length_cons] at h2 c1
    have pw := List.pairwise_append.mp h3.2.2
    have pw2 := List.pairwise_cons.mp pw.2.1
    refine ⟨A1.length, p, e2, by omega, ⟨h3.1 p (by simp), ?_⟩, ?_, ?_⟩
    · intro q hq
      obtain ⟨r, hr, er⟩ := h3.2.1 q hq
      have ea : r.1 * r.2 ≤ q.1 * q.2 := Nat.mul_le_mul er.1 er.2
      rcases List.mem_append.mp hr with h | h
      · have := e4 r h; left; omega
      · rcases List.mem_cons.mp h with h | h
        · subst h; omega
        · have := e5 r h
          have := (pw2.1 r h).1
          omega
    · unfold rf_Cu_widthAt
      rw [e2]
      simp (disch := omega) only [c1, m1.1, m1.2, z_lt, z_le, z_eq, z_ltl, z_lel, z_llt, z_lle, z_eql, z_add, z_addl, z_ladd, z_mul, z_mull, z_lmul, z_sub, z_subl, z_cl, z_ib, z_nm, z_m1, z_mlt, if_pos, if_neg, ge_iff_le, gt_iff_lt, ite_true, ite_false, if_true, if_false, Option.bind_some, z_10, eq_self]
    · unfold rf_Cu_heightAt
      rw [e2]
      simp (disch := omega) only [c1, m1.1, m1.2, z_lt, z_le, z_eq, z_ltl, z_lel, z_llt, z_lle, z_eql, z_add, z_addl, z_ladd, z_mul, z_mull, z_lmul, z_sub, z_subl, z_cl, z_ib, z_nm, z_m1, z_mlt, if_pos, if_neg, ge_iff_le, gt_iff_lt, ite_true, ite_false, if_true, if_false, Option.bind_some, z_10, eq_self]
