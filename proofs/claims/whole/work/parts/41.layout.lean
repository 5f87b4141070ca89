/-- the order's signs in the reference -/
def z_Mo (σ : rl_M) (g : Nat → Nat) (m : Nat) : Prop := σ 59 7 = nI m ∧ ∀ k, k < m → σ 63 k = nI (g k) ∧ g k ≤ 255
def z_Sq (σ : rl_M) (n : Nat → Nat) (s : Nat → Nat → Nat × Nat) : Prop := ∀ r, r < 6 → σ 60 r = nI (n r) ∧ n r ≤ 4 ∧ ∀ j, j < 4 → σ 61 (4 * r + j) = nI (s r j).1 ∧ σ 62 (4 * r + j) = nI (s r j).2
theorem z_pl2 {σ : rl_M} {g : Nat → Nat} {m r : Nat} (hm : m ≤ 11) (hr : r < 6) (h : z_Mo σ g m) : ∀ (d x f : Nat), x + d = m → d < f → (∀ k, x ≤ k → k < m → g k ≠ 48 + r) → rf_Mo_placeOf_L2 (nI r) f (nI x) σ = some (-1, σ) := by
  intro d
  induction d with
  | zero =>
    intro x f hx hf hg
    obtain ⟨f, rfl⟩ : ∃ g, f = g + 1 := ⟨f - 1, by omega⟩
    unfold rf_Mo_placeOf_L2
    simp (disch := omega) only [h.1, z_lt, z_le, z_eq, z_ltl, z_lel, z_llt, z_lle, z_eql, z_add, z_addl, z_ladd, z_mul, z_mull, z_lmul, z_sub, z_subl, z_cl, z_ib, z_nm, z_m1, z_mlt, if_pos, if_neg, ge_iff_le, gt_iff_lt, ite_true, ite_false, if_true, if_false, Option.bind_some, z_10, eq_self]
  | succ d ih =>
    intro x f hx hf hg
    obtain ⟨f, rfl⟩ : ∃ g, f = g + 1 := ⟨f - 1, by omega⟩
    have hi := ih (x + 1) f (by omega) (by omega) (fun k h1 h2 => hg k (by omega) h2)
    have e := h.2 x (by omega)
    have e1 := e.1
    have e2 := e.2
    have e3 := hg x (by omega) (by omega)
    unfold rf_Mo_placeOf_L2
    simp (disch := omega) only [h.1, e1, z_lt, z_le, z_eq, z_ltl, z_lel, z_llt, z_lle, z_eql, z_add, z_addl, z_ladd, z_mul, z_mull, z_lmul, z_sub, z_subl, z_cl, z_ib, z_nm, z_m1, z_mlt, if_pos, if_neg, ge_iff_le, gt_iff_lt, ite_true, ite_false, if_true, if_false, Option.bind_some, z_10, eq_self, hi]
theorem z_pl1 {σ : rl_M} {g : Nat → Nat} {m r k : Nat} (hm : m ≤ 11) (hr : r < 6) (h : z_Mo σ g m) (hk : k < m) (hgk : g k = 48 + r) : ∀ (d x f : Nat), x + d = k → d < f → (∀ j, x ≤ j → j < k → g j ≠ 48 + r) → rf_Mo_placeOf_L2 (nI r) f (nI x) σ = some (nI k, σ) := by
  intro d
  induction d with
  | zero =>
    intro x f hx hf hg
    obtain ⟨f, rfl⟩ : ∃ g, f = g + 1 := ⟨f - 1, by omega⟩
    have e : x = k := by omega
    subst e
    have e1 := (h.2 x hk).1
    unfold rf_Mo_placeOf_L2
    simp (disch := omega) only [h.1, e1, hgk, z_lt, z_le, z_eq, z_ltl, z_lel, z_llt, z_lle, z_eql, z_add, z_addl, z_ladd, z_mul, z_mull, z_lmul, z_sub, z_subl, z_cl, z_ib, z_nm, z_m1, z_mlt, if_pos, if_neg, ge_iff_le, gt_iff_lt, ite_true, ite_false, if_true, if_false, Option.bind_some, z_10, eq_self]
  | succ d ih =>
    intro x f hx hf hg
    obtain ⟨f, rfl⟩ : ∃ g, f = g + 1 := ⟨f - 1, by omega⟩
    have hi := ih (x + 1) f (by omega) (by omega) (fun j h1 h2 => hg j (by omega) h2)
    have e := h.2 x (by omega)
    have e1 := e.1
    have e2 := e.2
    have e3 := hg x (by omega) (by omega)
    unfold rf_Mo_placeOf_L2
    simp (disch := omega) only [h.1, e1, z_lt, z_le, z_eq, z_ltl, z_lel, z_llt, z_lle, z_eql, z_add, z_addl, z_ladd, z_mul, z_mull, z_lmul, z_sub, z_subl, z_cl, z_ib, z_nm, z_m1, z_mlt, if_pos, if_neg, ge_iff_le, gt_iff_lt, ite_true, ite_false, if_true, if_false, Option.bind_some, z_10, eq_self, hi]
theorem z_place {σ : rl_M} {g : Nat → Nat} {t : Lean.Data.AC.Expr} {r : Nat} (hm : z_nd t + 1 ≤ 11) (hr : r < 6) (h : z_Mo σ g (z_nd t + 1)) (hf : z_Fl g 0 t) (hn : (z_rm t).Nodup) :
    (r ∈ z_rm t ∧ ∃ k, k ≤ z_nd t ∧ g k = 48 + r ∧ rf_Mo_placeOf (nI r) σ = some (nI k, σ)) ∨ (¬ r ∈ z_rm t ∧ rf_Mo_placeOf (nI r) σ = some (-1, σ)) := by
  by_cases q : r ∈ z_rm t
  · left
    obtain ⟨k, h1, h2, h3⟩ := z_at t 0 hf q
    refine ⟨q, k, by omega, h3, ?_⟩
    exact z_pl1 hm hr h (by omega) h3 k 0 10000 (by omega) (by omega) (fun j h4 h5 h6 => by
      have := z_one hr t 0 j k hf hn (by omega) (by omega) h6 h1 h2 h3
      omega)
  · right
    refine ⟨q, ?_⟩
    exact z_pl2 hm hr h (z_nd t + 1) 0 10000 (by omega) (by omega) (fun k h4 h5 h6 => q (z_in hr t 0 k hf (by omega) (by omega) h6))
theorem z_place0 {σ : rl_M} {r : Nat} (hr : r < 6) (h : σ 59 7 = nI 0) : rf_Mo_placeOf (nI r) σ = some (-1, σ) :=
  z_pl2 (g := fun _ => 0) (m := 0) (by omega) hr ⟨h, fun k hk => by omega⟩ 0 0 10000 (by omega) (by omega) (fun k h1 h2 => by omega)
/-- the reference's parts for the choice c -/
def z_La (σ : rl_M) (g : Nat → Nat) (s : Nat → Nat → Nat × Nat) (c : Nat → Nat) : Nat → Lean.Data.AC.Expr → Prop
  | i, .var r => σ 69 i = nI (s r (c r)).1 ∧ σ 70 i = nI (s r (c r)).2
  | i, .op l r => z_La σ g s c i l ∧ z_La σ g s c (i + z_nd l + 1) r ∧ (σ 69 (i + (z_nd l + z_nd r + 2)) = nI (z_ev g s c i (.op l r)).1 ∧ σ 70 (i + (z_nd l + z_nd r + 2)) = nI (z_ev g s c i (.op l r)).2) ∧ σ 73 (i + (z_nd l + z_nd r + 2)) = nI (i + z_nd l) ∧ σ 74 (i + (z_nd l + z_nd r + 2)) = nI (i + z_nd l + 1 + z_nd r)
theorem z_La_top {σ : rl_M} {g : Nat → Nat} {s : Nat → Nat → Nat × Nat} {c : Nat → Nat} {t : Lean.Data.AC.Expr} {i : Nat} (h : z_La σ g s c i t) : σ 69 (i + z_nd t) = nI (z_ev g s c i t).1 ∧ σ 70 (i + z_nd t) = nI (z_ev g s c i t).2 := by
  cases t with
  | var r => exact h
  | op l r => exact h.2.2.1
theorem z_La_f {σ τ : rl_M} {g : Nat → Nat} {s : Nat → Nat → Nat × Nat} {c : Nat → Nat} : ∀ (t : Lean.Data.AC.Expr) (i : Nat), (∀ j, i ≤ j → j ≤ i + z_nd t → τ 69 j = σ 69 j ∧ τ 70 j = σ 70 j ∧ τ 73 j = σ 73 j ∧ τ 74 j = σ 74 j) → z_La σ g s c i t → z_La τ g s c i t := by
  intro t
  induction t with
  | var r =>
    intro i e h
    have e1 := e i (by omega) (by omega)
    exact ⟨e1.1.trans h.1, e1.2.1.trans h.2⟩
  | op l r il ir =>
    intro i e h
    simp only [z_nd] at e
    have e1 := e (i + (z_nd l + z_nd r + 2)) (by omega) (by omega)
    exact ⟨il i (fun j h1 h2 => e j h1 (by omega)) h.1, ir _ (fun j h1 h2 => e j (by omega) (by omega)) h.2.1, ⟨e1.1.trans h.2.2.1.1, e1.2.1.trans h.2.2.1.2⟩, e1.2.2.1.trans h.2.2.2.1, e1.2.2.2.trans h.2.2.2.2⟩
theorem z_ev_b {g : Nat → Nat} {s : Nat → Nat → Nat × Nat} {c : Nat → Nat} (t : Lean.Data.AC.Expr) (i : Nat) (h : ∀ r ∈ z_rm t, z_Bs (s r (c r)) 1) : z_Bs (z_ev g s c i t) (z_lv t) :=
  z_out_b (D := fun q j => j = c q) t i _ (fun r hr j e => by subst e; exact h r hr) (z_out_ev t i (fun q _ => rfl))
def z_FL (σ τ : rl_M) : Prop := ∀ e, e ≠ 69 → e ≠ 70 → e ≠ 73 → e ≠ 74 → e ≠ 75 → τ e = σ e
theorem z_lo {g : Nat → Nat} {s : Nat → Nat → Nat × Nat} {n c : Nat → Nat} {m : Nat} (hm : m ≤ 11) : ∀ (t : Lean.Data.AC.Expr) (i q : Nat) (σ : rl_M), z_Mo σ g m → z_Sq σ n s → (∀ r ∈ z_rm t, r < 6 ∧ σ 67 r = nI (c r) ∧ c r < 4 ∧ z_Bs (s r (c r)) 1) → z_Fl g i t → i + z_nd t < m → q + z_lv t ≤ 7 →
    ∃ τ, (∀ f, rf_Mo_layOut_L4 (f + (z_nd t + 1)) (nI q) (nI i) σ = rf_Mo_layOut_L4 f (nI (q + 1)) (nI (i + z_nd t + 1)) τ) ∧ z_La τ g s c i t ∧ τ 75 q = nI (i + z_nd t) ∧ (∀ j, j < q → τ 75 j = σ 75 j) ∧ z_FL σ τ ∧ (∀ j, (j < i ∨ i + z_nd t < j) → τ 69 j = σ 69 j ∧ τ 70 j = σ 70 j ∧ τ 73 j = σ 73 j ∧ τ 74 j = σ 74 j) := by
  intro t
  induction t with
  | var r =>
    intro i q σ ho hs hc hf hi hq
    simp only [z_nd, z_lv, Nat.add_zero, Nat.zero_add] at hi hq ⊢
    obtain ⟨h1, h2, h3, h4⟩ := hc r (by simp [z_rm])
    have e63 : σ 63 i = nI (48 + r) := ((ho.2 i hi).1).trans (congrArg nI hf.1)
    have e61 := ((hs r h1).2.2 (c r) h3).1
    have e62 := ((hs r h1).2.2 (c r) h3).2
    refine ⟨rl_su (rl_su (rl_su σ 69 i (nI (s r (c r)).1)) 70 i (nI (s r (c r)).2)) 75 q (nI i), ?_, ⟨?_, ?_⟩, ?_, ?_, ?_, ?_⟩
    · intro f
      conv => lhs; unfold rf_Mo_layOut_L4
      unfold rf_Mo_layOut_J28
      simp (disch := omega) only [ho.1, e63, h2, e61, e62, z_lt, z_le, z_eq, z_ltl, z_lel, z_llt, z_lle, z_eql, z_add, z_addl, z_ladd, z_mul, z_mull, z_lmul, z_sub, z_subl, z_cl, z_ib, z_nm, z_m1, z_mlt, if_pos, if_neg, ge_iff_le, gt_iff_lt, ite_true, ite_false, if_true, if_false, Option.bind_some, z_10, eq_self, z_su_c, z_su_s, z_su_j, Nat.add_sub_cancel_left]
    · simp (disch := omega) only [z_su_c, z_su_s, z_su_j]
    · simp (disch := omega) only [z_su_c, z_su_s, z_su_j]
    · rw [z_su_s]
    · intro j hj
      simp (disch := omega) only [z_su_c, z_su_s, z_su_j]
    · intro e h69 h70 h73 h74 h75
      rw [z_su_ce h75, z_su_ce h70, z_su_ce h69]
    · intro j hj
      simp (disch := omega) only [z_su_c, z_su_s, z_su_j]
      exact ⟨trivial, trivial, trivial, trivial⟩
  | op l r il ir =>
    intro i q σ ho hs hc hf hi hq
    have nl := z_nl l
    have nr := z_nl r
    simp only [z_nd] at hi
    simp only [z_lv] at hq
    obtain ⟨τ1, t1, t2, t3, t4, t5, t6⟩ := il i q σ ho hs (fun x hx => hc x (by simp [z_rm, hx])) hf.1 (by omega) (by omega)
    have ho1 : z_Mo τ1 g m := by unfold z_Mo at *; rw [t5 59 (by omega) (by omega) (by omega) (by omega) (by omega), t5 63 (by omega) (by omega) (by omega) (by omega) (by omega)]; exact ho
    have hs1 : z_Sq τ1 n s := by unfold z_Sq at *; rw [t5 60 (by omega) (by omega) (by omega) (by omega) (by omega), t5 61 (by omega) (by omega) (by omega) (by omega) (by omega), t5 62 (by omega) (by omega) (by omega) (by omega) (by omega)]; exact hs
    obtain ⟨τ2, u1, u2, u3, u4, u5, u6⟩ := ir (i + z_nd l + 1) (q + 1) τ1 ho1 hs1 (fun x hx => by rw [t5 67 (by omega) (by omega) (by omega) (by omega) (by omega)]; exact hc x (by simp [z_rm, hx])) hf.2.1 (by omega) (by omega)
    have ho2 : z_Mo τ2 g m := by unfold z_Mo at *; rw [u5 59 (by omega) (by omega) (by omega) (by omega) (by omega), u5 63 (by omega) (by omega) (by omega) (by omega) (by omega)]; exact ho1
    have hl2 : z_La τ2 g s c i l := z_La_f l i (fun j h1 h2 => u6 j (by omega)) t2
    obtain ⟨a1, a2⟩ := z_La_top hl2
    obtain ⟨b1, b2⟩ := z_La_top u2
    have s1 : τ2 75 q = nI (i + z_nd l) := (u4 q (by omega)).trans t3
    have ba := z_ev_b (g := g) (s := s) (c := c) l i (fun x hx => (hc x (by simp [z_rm, hx])).2.2.2)
    have bb := z_ev_b (g := g) (s := s) (c := c) r (i + z_nd l + 1) (fun x hx => (hc x (by simp [z_rm, hx])).2.2.2)
    have hv := hf.2.2
    have e63 := (ho2.2 _ hi).1
    have hev : z_ev g s c i (.op l r) = z_cb (g (i + (z_nd l + z_nd r + 2))) (z_ev g s c i l) (z_ev g s c (i + z_nd l + 1) r) := rfl
    unfold z_Bs at ba bb
    generalize z_ev g s c i l = A at a1 a2 ba hev
    generalize z_ev g s c (i + z_nd l + 1) r = B at b1 b2 bb hev
    generalize hkk : i + (z_nd l + z_nd r + 2) = k at *
    refine ⟨rl_su (rl_su (rl_su (rl_su (rl_su τ2 73 k (nI (i + z_nd l))) 74 k (nI (i + z_nd l + 1 + z_nd r))) 69 k (nI (z_ev g s c i (.op l r)).1)) 70 k (nI (z_ev g s c i (.op l r)).2)) 75 q (nI k), ?_, ⟨?_, ?_, ⟨?_, ?_⟩, ?_, ?_⟩, ?_, ?_, ?_, ?_⟩
    · intro f
      have e : f + (z_nd (.op l r) + 1) = (f + 1 + (z_nd r + 1)) + (z_nd l + 1) := by simp only [z_nd]; omega
      rw [e, t1, u1]
      have e2 : i + z_nd l + 1 + z_nd r + 1 = k := by omega
      have e3 : i + z_nd (.op l r) = k := by simp only [z_nd]; omega
      rw [e2, e3]
      conv => lhs; unfold rf_Mo_layOut_L4
      unfold rf_Mo_layOut_J28
      rw [hev]
      have e6 : q + 1 + 1 - 2 = q := by omega
      rcases hv with hv | hv
      · rw [hv] at e63 ⊢
        simp (disch := omega) only [ho2.1, e63, z_lt, z_le, z_eq, z_ltl, z_lel, z_llt, z_lle, z_eql, z_add, z_addl, z_ladd, z_mul, z_mull, z_lmul, z_sub, z_subl, z_cl, z_ib, z_nm, z_m1, z_mlt, if_pos, if_neg, ge_iff_le, gt_iff_lt, ite_true, ite_false, if_true, if_false, Option.bind_some, z_10, eq_self]
        unfold rf_Mo_layOut_J44 rf_Mo_layOut_J114 rf_Mo_layOut_J150 rf_Mo_layOut_J181 rf_Mo_layOut_J211
        by_cases q1 : A.1 ≤ B.1 <;> by_cases q2 : A.2 ≤ B.2
        · have e4 : max A.2 B.2 = B.2 := by omega
          simp (disch := omega) only [s1, u3, a1, a2, b1, b2, z_lt, z_le, z_eq, z_ltl, z_lel, z_llt, z_lle, z_eql, z_add, z_addl, z_ladd, z_mul, z_mull, z_lmul, z_sub, z_subl, z_cl, z_ib, z_nm, z_m1, z_mlt, if_pos, if_neg, ge_iff_le, gt_iff_lt, ite_true, ite_false, if_true, if_false, Option.bind_some, z_10, eq_self, z_su_c, z_su_s, z_su_j, z_m2, e6, Nat.add_sub_cancel, z_cb, e4]
        · have e4 : max A.2 B.2 = A.2 := by omega
          simp (disch := omega) only [s1, u3, a1, a2, b1, b2, z_lt, z_le, z_eq, z_ltl, z_lel, z_llt, z_lle, z_eql, z_add, z_addl, z_ladd, z_mul, z_mull, z_lmul, z_sub, z_subl, z_cl, z_ib, z_nm, z_m1, z_mlt, if_pos, if_neg, ge_iff_le, gt_iff_lt, ite_true, ite_false, if_true, if_false, Option.bind_some, z_10, eq_self, z_su_c, z_su_s, z_su_j, z_m2, e6, Nat.add_sub_cancel, z_cb, e4]
        · have e4 : max A.2 B.2 = B.2 := by omega
          simp (disch := omega) only [s1, u3, a1, a2, b1, b2, z_lt, z_le, z_eq, z_ltl, z_lel, z_llt, z_lle, z_eql, z_add, z_addl, z_ladd, z_mul, z_mull, z_lmul, z_sub, z_subl, z_cl, z_ib, z_nm, z_m1, z_mlt, if_pos, if_neg, ge_iff_le, gt_iff_lt, ite_true, ite_false, if_true, if_false, Option.bind_some, z_10, eq_self, z_su_c, z_su_s, z_su_j, z_m2, e6, Nat.add_sub_cancel, z_cb, e4]
        · have e4 : max A.2 B.2 = A.2 := by omega
          simp (disch := omega) only [s1, u3, a1, a2, b1, b2, z_lt, z_le, z_eq, z_ltl, z_lel, z_llt, z_lle, z_eql, z_add, z_addl, z_ladd, z_mul, z_mull, z_lmul, z_sub, z_subl, z_cl, z_ib, z_nm, z_m1, z_mlt, if_pos, if_neg, ge_iff_le, gt_iff_lt, ite_true, ite_false, if_true, if_false, Option.bind_some, z_10, eq_self, z_su_c, z_su_s, z_su_j, z_m2, e6, Nat.add_sub_cancel, z_cb, e4]
      · rw [hv] at e63 ⊢
        simp (disch := omega) only [ho2.1, e63, z_lt, z_le, z_eq, z_ltl, z_lel, z_llt, z_lle, z_eql, z_add, z_addl, z_ladd, z_mul, z_mull, z_lmul, z_sub, z_subl, z_cl, z_ib, z_nm, z_m1, z_mlt, if_pos, if_neg, ge_iff_le, gt_iff_lt, ite_true, ite_false, if_true, if_false, Option.bind_some, z_10, eq_self]
        unfold rf_Mo_layOut_J44 rf_Mo_layOut_J114 rf_Mo_layOut_J150 rf_Mo_layOut_J181 rf_Mo_layOut_J211
        have e5 : ¬ (45 = 124) := by omega
        by_cases q1 : A.1 ≤ B.1 <;> by_cases q2 : A.2 ≤ B.2
        · have e4 : max A.1 B.1 = B.1 := by omega
          simp (disch := omega) only [s1, u3, a1, a2, b1, b2, z_lt, z_le, z_eq, z_ltl, z_lel, z_llt, z_lle, z_eql, z_add, z_addl, z_ladd, z_mul, z_mull, z_lmul, z_sub, z_subl, z_cl, z_ib, z_nm, z_m1, z_mlt, if_pos, if_neg, ge_iff_le, gt_iff_lt, ite_true, ite_false, if_true, if_false, Option.bind_some, z_10, eq_self, z_su_c, z_su_s, z_su_j, z_m2, e6, Nat.add_sub_cancel, z_cb, e4, e5]
        · have e4 : max A.1 B.1 = B.1 := by omega
          simp (disch := omega) only [s1, u3, a1, a2, b1, b2, z_lt, z_le, z_eq, z_ltl, z_lel, z_llt, z_lle, z_eql, z_add, z_addl, z_ladd, z_mul, z_mull, z_lmul, z_sub, z_subl, z_cl, z_ib, z_nm, z_m1, z_mlt, if_pos, if_neg, ge_iff_le, gt_iff_lt, ite_true, ite_false, if_true, if_false, Option.bind_some, z_10, eq_self, z_su_c, z_su_s, z_su_j, z_m2, e6, Nat.add_sub_cancel, z_cb, e4, e5]
        · have e4 : max A.1 B.1 = A.1 := by omega
          simp (disch := omega) only [s1, u3, a1, a2, b1, b2, z_lt, z_le, z_eq, z_ltl, z_lel, z_llt, z_lle, z_eql, z_add, z_addl, z_ladd, z_mul, z_mull, z_lmul, z_sub, z_subl, z_cl, z_ib, z_nm, z_m1, z_mlt, if_pos, if_neg, ge_iff_le, gt_iff_lt, ite_true, ite_false, if_true, if_false, Option.bind_some, z_10, eq_self, z_su_c, z_su_s, z_su_j, z_m2, e6, Nat.add_sub_cancel, z_cb, e4, e5]
        · have e4 : max A.1 B.1 = A.1 := by omega
          simp (disch := omega) only [s1, u3, a1, a2, b1, b2, z_lt, z_le, z_eq, z_ltl, z_lel, z_llt, z_lle, z_eql, z_add, z_addl, z_ladd, z_mul, z_mull, z_lmul, z_sub, z_subl, z_cl, z_ib, z_nm, z_m1, z_mlt, if_pos, if_neg, ge_iff_le, gt_iff_lt, ite_true, ite_false, if_true, if_false, Option.bind_some, z_10, eq_self, z_su_c, z_su_s, z_su_j, z_m2, e6, Nat.add_sub_cancel, z_cb, e4, e5]
    · refine z_La_f l i (fun j h1 h2 => ?_) hl2
      simp (disch := omega) only [z_su_c, z_su_s, z_su_j]
      exact ⟨trivial, trivial, trivial, trivial⟩
    · refine z_La_f r _ (fun j h1 h2 => ?_) u2
      simp (disch := omega) only [z_su_c, z_su_s, z_su_j]
      exact ⟨trivial, trivial, trivial, trivial⟩
    · rw [hkk]; simp (disch := omega) only [z_su_c, z_su_s, z_su_j]
    · rw [hkk]; simp (disch := omega) only [z_su_c, z_su_s, z_su_j]
    · rw [hkk]; simp (disch := omega) only [z_su_c, z_su_s, z_su_j]
    · rw [hkk]; simp (disch := omega) only [z_su_c, z_su_s, z_su_j]
    · rw [z_su_s, ← hkk]; rfl
    · intro j hj
      simp (disch := omega) only [z_su_c, z_su_s, z_su_j]
      rw [u4 j (by omega), t4 j hj]
    · intro e h69 h70 h73 h74 h75
      rw [z_su_ce h75, z_su_ce h70, z_su_ce h69, z_su_ce h74, z_su_ce h73, u5 e h69 h70 h73 h74 h75, t5 e h69 h70 h73 h74 h75]
    · intro j hj
      simp only [z_nd] at hj
      have g1 := u6 j (by omega)
      have g2 := t6 j (by omega)
      simp (disch := omega) only [z_su_c, z_su_s, z_su_j]
      exact ⟨g1.1.trans g2.1, g1.2.1.trans g2.2.1, g1.2.2.1.trans g2.2.2.1, g1.2.2.2.trans g2.2.2.2⟩
theorem z_lay {g : Nat → Nat} {s : Nat → Nat → Nat × Nat} {n c : Nat → Nat} {t : Lean.Data.AC.Expr} {σ : rl_M} (hm : z_nd t + 1 ≤ 11) (ho : z_Mo σ g (z_nd t + 1)) (hs : z_Sq σ n s) (hc : ∀ r ∈ z_rm t, r < 6 ∧ σ 67 r = nI (c r) ∧ c r < 4 ∧ z_Bs (s r (c r)) 1) (hf : z_Fl g 0 t) :
    ∃ τ, rf_Mo_layOut σ = some (0, τ) ∧ z_La τ g s c 0 t ∧ z_FL σ τ := by
  have nl := z_nl t
  obtain ⟨τ, t1, t2, t3, t4, t5, t6⟩ := z_lo (n := n) hm t 0 0 σ ho hs hc hf (by omega) (by omega)
  refine ⟨τ, ?_, t2, t5⟩
  obtain ⟨f, hf1⟩ : ∃ f, 10000 = (f + 1) + (z_nd t + 1) := ⟨9998 - z_nd t, by omega⟩
  unfold rf_Mo_layOut
  rw [hf1]
  refine (t1 (f + 1)).trans ?_
  have e : τ 59 7 = nI (z_nd t + 1) := by rw [t5 59 (by omega) (by omega) (by omega) (by omega) (by omega)]; exact ho.1
  unfold rf_Mo_layOut_L4
  simp (disch := omega) only [e, z_lt, z_le, z_eq, z_ltl, z_lel, z_llt, z_lle, z_eql, z_add, z_addl, z_ladd, z_mul, z_mull, z_lmul, z_sub, z_subl, z_cl, z_ib, z_nm, z_m1, z_mlt, if_pos, if_neg, ge_iff_le, gt_iff_lt, ite_true, ite_false, if_true, if_false, Option.bind_some, z_10, eq_self]
