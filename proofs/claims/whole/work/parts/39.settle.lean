def z_Rn (σ : rl_M) (g : Nat → Nat) (t : Lean.Data.AC.Expr) : Prop := ∀ r, r < 6 → (r ∈ z_rm t ∧ ∃ k, k ≤ z_nd t ∧ σ 14 r = nI k ∧ g k = 48 + r) ∨ (¬ r ∈ z_rm t ∧ σ 14 r = -1)
/-- the class's cells of an order -/
def z_Ct (σ : rl_M) (g : Nat → Nat) (s : Nat → Nat → Nat × Nat) (n : Nat → Nat) (t : Lean.Data.AC.Expr) (N : Nat) : Prop :=
  z_nd t + 1 ≤ 11 ∧ z_Or σ g (z_nd t + 1) ∧ z_Sz σ n s ∧ z_Tr σ 0 t ∧ σ 12 (z_nd t) = -1 ∧ z_Fl g 0 t ∧ z_Rn σ g t ∧ σ 4 0 = nI N ∧ N ≤ 6 ∧ ∀ r ∈ z_rm t, r < N
theorem z_Ct_f {σ τ : rl_M} {g : Nat → Nat} {s : Nat → Nat → Nat × Nat} {n : Nat → Nat} {t : Lean.Data.AC.Expr} {N : Nat} (e : ∀ c, c < 16 → c ≠ 3 → τ c = σ c) (h : z_Ct σ g s n t N) : z_Ct τ g s n t N := by
  obtain ⟨h1, h2, h3, h4, h5, h6, h7, h8, h9⟩ := h
  refine ⟨h1, ?_, ?_, ?_, ?_, h6, ?_, ?_, h9⟩
  · unfold z_Or at *; rw [e 8 (by omega) (by omega), e 9 (by omega) (by omega)]; exact h2
  · unfold z_Sz at *; rw [e 5 (by omega) (by omega), e 6 (by omega) (by omega), e 7 (by omega) (by omega)]; exact h3
  · have : ∀ (t : Lean.Data.AC.Expr) (i : Nat), z_Tr σ i t → z_Tr τ i t := by
      intro t
      induction t with
      | var r => intro i h; trivial
      | op l r il ir =>
        intro i h
        refine ⟨il i h.1, ir _ h.2.1, ?_⟩
        rw [e 10 (by omega) (by omega), e 11 (by omega) (by omega), e 12 (by omega) (by omega)]
        exact h.2.2
    exact this t 0 h4
  · rw [e 12 (by omega) (by omega)]; exact h5
  · unfold z_Rn at *; rw [e 14 (by omega) (by omega)]; exact h7
  · rw [e 4 (by omega) (by omega)]; exact h8
/-- rooms below x are pinned to c -/
def z_Dk (n c : Nat → Nat) (x : Nat) : Nat → Nat → Prop := fun q j => j < n q ∧ (q < x → j = c q)
theorem z_cF1 {g : Nat → Nat} {s : Nat → Nat → Nat × Nat} {n : Nat → Nat} {t : Lean.Data.AC.Expr} {W H : Nat} {c : Nat → Nat} (hk : z_Rk n s t) (hB : z_Best g s n t W H c) {x : Nat} (hx : x ∈ z_rm t) : ∀ j, j < c x → ∀ p, z_out g s (z_Dp (z_Dk n c x) x j) 0 t p → ¬ (p.1 ≤ (z_ev g s c 0 t).1 ∧ p.2 ≤ (z_ev g s c 0 t).2) := by
  intro j hj p hp hle
  obtain ⟨c', h1, h2⟩ := z_ev_out t 0 p hk.1 hp
  have hcx := z_Ch_lt hk hB.1 x hx
  have hx6 := (hk.2.1 x hx).1
  have hxx : c' x = j := by
    have := h1 x hx
    simpa only [z_Dp, if_true] using this
  have hlt : ∀ q ∈ z_rm t, c' q < n q := by
    intro q hq
    by_cases e : q = x
    · subst e; omega
    · have := h1 q hq
      simp only [z_Dp, if_neg e] at this
      exact this.1
  have hc'' := z_Ch_of (s := s) hlt
  have key := hB.2.2 _ hc'' (by rw [z_ev_of, h2]; have := hB.2.1; omega)
  rw [z_ev_of, h2] at key
  have ea : p.1 * p.2 ≤ (z_ev g s c 0 t).1 * (z_ev g s c 0 t).2 := Nat.mul_le_mul hle.1 hle.2
  have code : z_cd (fun q => if q ∈ z_rm t then c' q else 0) < z_cd c := by
    refine z_cd_lt hx6 ?_ ?_ ?_
    · intro q hq
      by_cases e : q ∈ z_rm t
      · have := h1 q e
        simp only [z_Dp, if_neg (show ¬ q = x by omega)] at this
        simp only [if_pos e]
        exact this.2 hq
      · have := hB.1 q (by omega)
        unfold z_u at this
        rw [if_neg e] at this
        simp only [if_neg e]; omega
    · simp only [if_pos hx]; omega
    · intro q hq
      have h3 := hc'' q hq
      have h4 := z_u3 hk hq
      exact Nat.le_trans h3 h4
  omega
theorem z_cF2 {g : Nat → Nat} {s : Nat → Nat → Nat × Nat} {n : Nat → Nat} {t : Lean.Data.AC.Expr} {W H : Nat} {c : Nat → Nat} (hk : z_Rk n s t) (hB : z_Best g s n t W H c) {x : Nat} : z_out g s (z_Dp (z_Dk n c x) x (c x)) 0 t (z_ev g s c 0 t) := by
  refine z_out_ev t 0 (fun q hq => ?_)
  by_cases e : q = x
  · subst e; simp only [z_Dp, if_true]
  · simp only [z_Dp, if_neg e]
    exact ⟨z_Ch_lt hk hB.1 q hq, fun _ => rfl⟩
theorem z_bob {g : Nat → Nat} {s : Nat → Nat → Nat × Nat} {n : Nat → Nat} {t : Lean.Data.AC.Expr} {W H : Nat} {c : Nat → Nat} {σ : rl_M} (hk : z_Rk n s t) (hB : z_Best g s n t W H c) (hM : z_Ms σ (z_Pf g s n t W H)) :
    (∃ i, σ 3 8 = nI i ∧ i < 24) ∧ rf_Pl_bestWidth σ = some (nI (z_ev g s c 0 t).1, σ) ∧ rf_Pl_bestHeight σ = some (nI (z_ev g s c 0 t).2, σ) := by
  have hb := z_best_bo hk hB
  rcases z_bo hM with ⟨e1, e2⟩ | ⟨i, p, e1, e2, e3, e4, e5⟩
  · exact (e2 _ hb.1).elim
  · have := z_bo_u hk e3 hb
    subst this
    refine ⟨⟨i, e1, e2⟩, ?_, ?_⟩
    · unfold rf_Pl_bestWidth; rw [e4]; rfl
    · unfold rf_Pl_bestHeight; rw [e5]; rfl
theorem z_choose {g : Nat → Nat} {s : Nat → Nat → Nat × Nat} {n : Nat → Nat} {t : Lean.Data.AC.Expr} {N W H : Nat} {c : Nat → Nat} {σ : rl_M} (hC : z_Ct σ g s n t N) (hk : z_Rk n s t) (hB : z_Best g s n t W H c) (bW : W ≤ 400) (bH : H ≤ 400) (hM : z_Ms σ (z_Pf g s n t W H)) {x k : Nat} (hx : x ∈ z_rm t) (hkt : k ≤ z_nd t) (hgk : g k = 48 + x) (hc : z_CA g s (z_Dk n c x) σ 0 t) :
    ∃ τ, rf_Pl_chooseFirstSize (nI k) (nI x) σ = some (0, τ) ∧ z_CA g s (z_Dk n c (x + 1)) τ 0 t ∧ τ 16 k = nI (c x) ∧ z_FS k (z_nd t) σ τ := by
  obtain ⟨h1, h2, h3, h4, h5, h6, h7, h8, h9⟩ := hC
  have hx2 := hk.2.1 x hx
  have hcx := z_Ch_lt hk hB.1 x hx
  obtain ⟨-, b1, b2⟩ := z_bob hk hB hM
  have fit := hB.2.1
  obtain ⟨τ, t1, t2, t3, t4⟩ := z_c56 (n := n) (D := z_Dk n c x) (jc := c x) (bw := (z_ev g s c 0 t).1) (bh := (z_ev g s c 0 t).2) h1 hx2.1 hgk hkt h6 hk.1 (fun q hq i hi => (hk.2.1 q hq).2.2 i hi.1) hx2.2.2 hcx (by omega) (by omega) (z_cF1 hk hB hx) (z_cF2 hk hB) (c x) 0 σ 10000 (z_Dk n c x) (by omega) (by have := hk.2.2 x hx2.1; omega) h2 h3 h4 h5 (fun q hq e i => Iff.rfl) (fun i hi => hx2.2.2 i hi.1) hc
  refine ⟨τ, ?_, ?_, t3, t4⟩
  · unfold rf_Pl_chooseFirstSize
    have e8 := h2.1
    have ha := z_has h2.1 h1 (k := k) (by omega)
    have hb := z_has h2.1 h1 (k := z_nd t) (by omega)
    have n10 : ∀ τ : rl_M, ¬ ((1, τ) : Int32 × rl_M).1 = 0 := fun _ => by simp only [z_10, not_false_eq_true]
    rw [ha, Option.bind_some, if_neg (n10 σ), e8, z_subl (by omega), Nat.add_sub_cancel, hb, Option.bind_some, if_neg (n10 σ), if_pos ((z_ib (by omega)).mpr (by omega)), b1, Option.bind_some, b2, Option.bind_some, z_cv (by omega)]
    exact t1
  · refine z_CA_D t 0 (fun q hq i => ?_) t2
    by_cases e : q = x
    · subst e
      simp only [z_Dp, if_true, z_Dk]
      exact ⟨fun h => ⟨by omega, fun _ => h⟩, fun h => h.2 (by omega)⟩
    · simp only [z_Dp, if_neg e, z_Dk]
      exact ⟨fun h => ⟨h.1, fun h2 => h.2 (by omega)⟩, fun h => ⟨h.1, fun h2 => h.2 (by omega)⟩⟩
theorem z_no {σ : rl_M} {x : Nat} (hx : x < 6) : rf_St_nodeOf (nI x) σ = some (σ 14 x, σ) := by
  unfold rf_St_nodeOf
  simp (disch := omega) only [z_lt, z_le, z_eq, z_ltl, z_lel, z_llt, z_lle, z_eql, z_add, z_addl, z_ladd, z_mul, z_mull, z_lmul, z_sub, z_subl, z_cl, z_ib, z_nm, z_m1, z_mlt, if_pos, if_neg, ge_iff_le, gt_iff_lt, ite_true, ite_false, if_true, if_false, Option.bind_some, z_10, eq_self]
theorem z_set21 {g : Nat → Nat} {s : Nat → Nat → Nat × Nat} {n : Nat → Nat} {t : Lean.Data.AC.Expr} {N W H : Nat} {c : Nat → Nat} (hk : z_Rk n s t) (hB : z_Best g s n t W H c) (bW : W ≤ 400) (bH : H ≤ 400) : ∀ (d x : Nat) (σ : rl_M), x + d = N → z_Ct σ g s n t N → z_Ms σ (z_Pf g s n t W H) → z_CA g s (z_Dk n c x) σ 0 t → (∀ r, r < x → r ∈ z_rm t → ∀ k, k ≤ z_nd t → g k = 48 + r → σ 16 k = nI (c r)) →
    ∃ τ, (∀ (K : rl_M → Option (Int32 × rl_M)) (f : Nat), d < f → rf_Pl_settle_L21 K f (nI x) σ = K τ) ∧ z_CA g s (z_Dk n c N) τ 0 t ∧ (∀ r, r < N → r ∈ z_rm t → ∀ k, k ≤ z_nd t → g k = 48 + r → τ 16 k = nI (c r)) ∧ (∀ c, c ≠ 16 → (c < 23 ∨ 23 + 3 * z_nd t + 2 < c) → τ c = σ c) := by
  intro d
  induction d with
  | zero =>
    intro x σ hxd hC hM hc h16
    have e : x = N := by omega
    subst e
    refine ⟨σ, ?_, hc, h16, fun _ _ _ => rfl⟩
    intro K f hf
    obtain ⟨f, rfl⟩ : ∃ g, f = g + 1 := ⟨f - 1, by omega⟩
    obtain ⟨h1, h2, h3, h4, h5, h6, h7, h8, h9, h10⟩ := hC
    unfold rf_Pl_settle_L21
    simp (disch := omega) only [h8, z_lt, z_le, z_eq, z_ltl, z_lel, z_llt, z_lle, z_eql, z_add, z_addl, z_ladd, z_mul, z_mull, z_lmul, z_sub, z_subl, z_cl, z_ib, z_nm, z_m1, z_mlt, if_pos, if_neg, ge_iff_le, gt_iff_lt, ite_true, ite_false, if_true, if_false, Option.bind_some, z_10, eq_self]
  | succ d ih =>
    intro x σ hxd hC hM hc h16
    have hC' := hC
    obtain ⟨h1, h2, h3, h4, h5, h6, h7, h8, h9, h10⟩ := hC'
    rcases h7 x (by omega) with ⟨a1, k, a2, a3, a4⟩ | ⟨a1, a2⟩
    · obtain ⟨τ, t1, t2, t3, t4⟩ := z_choose hC hk hB bW bH hM a1 a2 a4 hc
      have hM2 : z_Ms τ (z_Pf g s n t W H) := by
        obtain ⟨F, y, m1, m2, m3, m4⟩ := hM
        refine ⟨F, y, z_Cv_c m1 (t4.1 _ (by omega) (by omega)) (t4.1 _ (by omega) (by omega)) (t4.1 _ (by omega) (by omega)), m2, m3, ?_⟩
        rw [t4.1 3 (by omega) (by omega)]; exact m4
      obtain ⟨υ, u1, u2, u3, u4⟩ := ih (x + 1) τ (by omega) (z_Ct_f (fun c hc _ => t4.l6 c hc) hC) hM2 t2 (by
        intro r hr hrm k' hk' hgk'
        by_cases e : r = x
        · subst e
          have : k' = k := z_one (hk.2.1 r hrm).1 t 0 k' k h6 hk.1 (by omega) (by omega) hgk' (by omega) (by omega) a4
          subst this; exact t3
        · have hne : k' ≠ k := by intro h; subst h; omega
          rw [t4.2 k' hne]
          exact h16 r (by omega) hrm k' hk' hgk')
      refine ⟨υ, ?_, u2, u3, fun c h1 h2 => (u4 c h1 h2).trans (t4.1 c h1 h2)⟩
      intro K f hf
      obtain ⟨f, rfl⟩ : ∃ g, f = g + 1 := ⟨f - 1, by omega⟩
      have uu := u1 K f (by omega)
      unfold rf_Pl_settle_L21
      simp (disch := omega) only [h8, z_lt, z_le, z_eq, z_ltl, z_lel, z_llt, z_lle, z_eql, z_add, z_addl, z_ladd, z_mul, z_mull, z_lmul, z_sub, z_subl, z_cl, z_ib, z_nm, z_m1, z_mlt, if_pos, if_neg, ge_iff_le, gt_iff_lt, ite_true, ite_false, if_true, if_false, Option.bind_some, z_10, eq_self, z_no (show x < 6 by omega), a3, t1, uu]
    · obtain ⟨υ, u1, u2, u3, u4⟩ := ih (x + 1) σ (by omega) hC hM (z_CA_D t 0 (fun q hq i => by
          have hne : q ≠ x := fun h => a1 (h ▸ hq)
          simp only [z_Dk]
          exact ⟨fun h => ⟨h.1, fun h2 => h.2 (by omega)⟩, fun h => ⟨h.1, fun h2 => h.2 (by omega)⟩⟩) hc) (by
        intro r hr hrm k' hk' hgk'
        have hne : r ≠ x := fun h => a1 (h ▸ hrm)
        exact h16 r (by omega) hrm k' hk' hgk')
      refine ⟨υ, ?_, u2, u3, u4⟩
      intro K f hf
      obtain ⟨f, rfl⟩ : ∃ g, f = g + 1 := ⟨f - 1, by omega⟩
      have uu := u1 K f (by omega)
      have hcf : rf_Pl_chooseFirstSize (-1) (nI x) σ = some (0, σ) := by
        unfold rf_Pl_chooseFirstSize
        rw [z_hasn]; rfl
      unfold rf_Pl_settle_L21
      simp (disch := omega) only [h8, z_lt, z_le, z_eq, z_ltl, z_lel, z_llt, z_lle, z_eql, z_add, z_addl, z_ladd, z_mul, z_mull, z_lmul, z_sub, z_subl, z_cl, z_ib, z_nm, z_m1, z_mlt, if_pos, if_neg, ge_iff_le, gt_iff_lt, ite_true, ite_false, if_true, if_false, Option.bind_some, z_10, eq_self, z_no (show x < 6 by omega), a2, hcf, uu]
