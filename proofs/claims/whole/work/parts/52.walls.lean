theorem z_xy_c {g : Nat → Nat} {s : Nat → Nat → Nat × Nat} {c c' : Nat → Nat} : ∀ (t : Lean.Data.AC.Expr) (i x y j : Nat), (∀ r ∈ z_rm t, c r = c' r) → z_xy g s c i t x y j = z_xy g s c' i t x y j := by
  intro t
  induction t with
  | var r => intro i x y j h; rfl
  | op l r il ir =>
    intro i x y j h
    simp only [z_xy]
    rw [z_ev_c l i (fun q hq => h q (by simp [z_rm, hq])), il i x y j (fun q hq => h q (by simp [z_rm, hq])), ir _ _ _ j (fun q hq => h q (by simp [z_rm, hq]))]
theorem z_ndc {σ : rl_M} {A : z_A} (hc : z_Cs σ A) {r : Nat} (hr : r < 6) : (∃ t k, z_ao A = some t ∧ r ∈ z_rm t ∧ k ≤ z_nd t ∧ z_ag A k = 48 + r ∧ σ 14 r = nI k) ∨ ((∀ t, z_ao A = some t → ¬ r ∈ z_rm t) ∧ σ 14 r = -1) := by
  cases e : z_ao A with
  | none => exact Or.inr ⟨fun t ht => by simp at ht, (hc.2.2.2.1.1 e).2 r hr⟩
  | some t =>
    rcases (hc.2.2.2.1.2 t e).2.2.2 r hr with ⟨a1, k, a2, a3, a4⟩ | ⟨a1, a2⟩
    · exact Or.inl ⟨t, k, rfl, a1, a2, a4, a3⟩
    · exact Or.inr ⟨fun t' ht => by have := Option.some.inj ht; subst this; exact a1, a2⟩
theorem z_plc {σ : rl_M} {A : z_A} (ok : z_Ok A) (hr : z_Rs σ A) {r : Nat} (h6 : r < 6) : (∃ t k, z_ao A = some t ∧ r ∈ z_rm t ∧ k ≤ z_nd t ∧ z_ag A k = 48 + r ∧ rf_Mo_placeOf (nI r) σ = some (nI k, σ)) ∨ ((∀ t, z_ao A = some t → ¬ r ∈ z_rm t) ∧ rf_Mo_placeOf (nI r) σ = some (-1, σ)) := by
  cases e : z_ao A with
  | none => exact Or.inr ⟨fun t ht => by simp at ht, z_place0 h6 (hr.2.2.2.1.1 e)⟩
  | some t =>
    have ot := ok.2.2.2 t e
    rcases z_place ot.1 h6 (hr.2.2.2.1.2 t e) ot.2.1 ot.2.2.1 with ⟨a1, k, a2, a3, a4⟩ | ⟨a1, a2⟩
    · exact Or.inl ⟨t, k, rfl, a1, a2, a3, a4⟩
    · exact Or.inr ⟨fun t' ht => by have := Option.some.inj ht; subst this; exact a1, a2⟩
/-- the wall of two rooms at the nodes a and b -/
def z_ww (A : z_A) (t : Lean.Data.AC.Expr) (c : Nat → Nat) (a r1 b r2 : Nat) : Nat := z_wl (z_xy (z_ag A) (z_as A) c 0 t 0 0 a) (z_as A r1 (c r1)) (z_xy (z_ag A) (z_as A) c 0 t 0 0 b) (z_as A r2 (c r2))
def z_WV (A : z_A) (r1 r2 : Nat) (v : Int32) : Prop := (∃ t c a b, z_Ba A t c ∧ a ≤ z_nd t ∧ b ≤ z_nd t ∧ z_ag A a = 48 + r1 ∧ z_ag A b = 48 + r2 ∧ v = nI (z_ww A t c a r1 b r2)) ∨ ((∀ t c, z_Ba A t c → ¬ r1 ∈ z_rm t ∨ ¬ r2 ∈ z_rm t) ∧ v = -1)
theorem z_Ba_u {A : z_A} {t t' : Lean.Data.AC.Expr} {c c' : Nat → Nat} (ok : z_Ok A) (h : z_Ba A t c) (h' : z_Ba A t' c') : t = t' ∧ ∀ q, q < 6 → c q = c' q := by
  have e : t = t' := Option.some.inj (h.1.symm.trans h'.1)
  subst e
  exact ⟨rfl, z_best_u (ok.rk h.1) h.2 h'.2⟩
theorem z_WV_u {A : z_A} {r1 r2 : Nat} {v v' : Int32} (ok : z_Ok A) (h1 : r1 < 6) (h2 : r2 < 6) (h : z_WV A r1 r2 v) (h' : z_WV A r1 r2 v') : v = v' := by
  have out : ∀ t c a b, z_Ba A t c → a ≤ z_nd t → b ≤ z_nd t → z_ag A a = 48 + r1 → z_ag A b = 48 + r2 → (∀ t c, z_Ba A t c → ¬ r1 ∈ z_rm t ∨ ¬ r2 ∈ z_rm t) → False := by
    intro t c a b hb ha hbb ga gb hn
    have ot := ok.2.2.2 t hb.1
    rcases hn t c hb with h | h
    · exact h (z_in h1 t 0 a ot.2.1 (by omega) (by omega) ga)
    · exact h (z_in h2 t 0 b ot.2.1 (by omega) (by omega) gb)
  rcases h with ⟨t, c, a, b, e1, e2, e3, e4, e5, e6⟩ | ⟨e1, e2⟩
  · rcases h' with ⟨t', c', a', b', f1, f2, f3, f4, f5, f6⟩ | ⟨f1, f2⟩
    · obtain ⟨rfl, hcc⟩ := z_Ba_u ok e1 f1
      have ot := ok.2.2.2 t e1.1
      have ea := z_one h1 t 0 a a' ot.2.1 ot.2.2.1 (by omega) (by omega) e4 (by omega) (by omega) f4
      have eb := z_one h2 t 0 b b' ot.2.1 ot.2.2.1 (by omega) (by omega) e5 (by omega) (by omega) f5
      subst ea eb
      have hcr : ∀ r ∈ z_rm t, c r = c' r := fun r hr => hcc r (ot.2.2.2 r hr).1
      rw [e6, f6]
      unfold z_ww
      rw [z_xy_c t 0 0 0 a hcr, z_xy_c t 0 0 0 b hcr, hcc r1 h1, hcc r2 h2]
    · exact (out t c a b e1 e2 e3 e4 e5 f1).elim
  · rcases h' with ⟨t', c', a', b', f1, f2, f3, f4, f5, f6⟩ | ⟨f1, f2⟩
    · exact (out t' c' a' b' f1 f2 f3 f4 f5 e1).elim
    · rw [e2, f2]
theorem z_Bas {A : z_A} {t : Lean.Data.AC.Expr} {c : Nat → Nat} (ok : z_Ok A) (h : z_Ba A t c) : ∀ r ∈ z_rm t, z_Bs (z_as A r (c r)) 1 := by
  intro r hr
  have rk := ok.rk h.1
  exact (rk.2.1 r hr).2.2 _ (z_Ch_lt rk h.2.1 r hr)
theorem z_xyb {A : z_A} {t : Lean.Data.AC.Expr} {c : Nat → Nat} (ok : z_Ok A) (h : z_Ba A t c) (j : Nat) : (z_xy (z_ag A) (z_as A) c 0 t 0 0 j).1 ≤ 1000 ∧ (z_xy (z_ag A) (z_as A) c 0 t 0 0 j).2 ≤ 1000 := by
  have b := z_xy_b (g := z_ag A) (s := z_as A) (c := c) t 0 0 0 j (z_Bas ok h)
  have nl := z_nl t
  have := (ok.2.2.2 t h.1).1
  omega
theorem z_wwb {A : z_A} {t : Lean.Data.AC.Expr} {c : Nat → Nat} {a b r1 r2 : Nat} (ok : z_Ok A) (h : z_Ba A t c) (h1 : r1 ∈ z_rm t) : z_ww A t c a r1 b r2 ≤ 2000 := by
  unfold z_ww z_wl
  have x := z_xyb ok h a
  have s1 := z_Bas ok h r1 h1
  unfold z_Bs at s1
  have b1 := z_ov_b (a := (z_xy (z_ag A) (z_as A) c 0 t 0 0 a).2) (al := (z_as A r1 (c r1)).2) (b := (z_xy (z_ag A) (z_as A) c 0 t 0 0 b).2) (bl := (z_as A r2 (c r2)).2) x.2 (by omega)
  have b2 := z_ov_b (a := (z_xy (z_ag A) (z_as A) c 0 t 0 0 a).1) (al := (z_as A r1 (c r1)).1) (b := (z_xy (z_ag A) (z_as A) c 0 t 0 0 b).1) (bl := (z_as A r2 (c r2)).1) x.1 (by omega)
  split <;> split <;> omega
theorem z_wC {σ : rl_M} {A : z_A} {r1 r2 : Nat} (ok : z_Ok A) (hc : z_Cs σ A) (hs : z_Set σ A) (h1 : r1 < 6) (h2 : r2 < 6) : ∃ v, rf_Pl_sharedWall (nI r1) (nI r2) σ = some (v, σ) ∧ z_WV A r1 r2 v := by
  rcases hs with ⟨e1, e2⟩ | ⟨t, c, i, b1, b2, b3, b4⟩
  · exact ⟨-1, z_shC0 (Or.inl ⟨z_nop0 e1, -1, z_nop0 e1⟩), Or.inr ⟨fun t c hb => (e2 _ (z_Ba_Pa ok hb)).elim, rfl⟩⟩
  · have n1 := z_nop b3 b4 h1
    have n2 := z_nop b3 b4 h2
    have ct := hc.ct ok b1.1
    have ot := ok.2.2.2 t b1.1
    rcases z_ndc hc h1 with ⟨t1, a, a1, a2, a3, a4, a5⟩ | ⟨a1, a2⟩
    · have e : t1 = t := Option.some.inj (a1.symm.trans b1.1)
      subst e
      rcases z_ndc hc h2 with ⟨t2, b, d1, d2, d3, d4, d5⟩ | ⟨d1, d2⟩
      · have e : t2 = t1 := Option.some.inj (d1.symm.trans b1.1)
        subst e
        have x1 := z_Co_xy t2 0 0 0 b2.2.2 a (by omega) (by omega)
        have x2 := z_Co_xy t2 0 0 0 b2.2.2 b (by omega) (by omega)
        have s1 := z_leaf (c := c) h1 a4 t2 0 ot.2.1 ot.2.2.1 (by omega) (by omega) b2.1
        have s2 := z_leaf (c := c) h2 d4 t2 0 ot.2.1 ot.2.2.1 (by omega) (by omega) b2.1
        have q1 := z_Bas ok b1 r1 a2
        have q2 := z_Bas ok b1 r2 d2
        unfold z_Bs at q1 q2
        have y1 := z_xyb ok b1 a
        have y2 := z_xyb ok b1 b
        refine ⟨_, z_shC b3 b4 ct.2.1.1 ct.1 h1 h2 (by omega) (by omega) a5 d5 y1.1 y1.2 (by omega) (by omega) y2.1 y2.2 (by omega) (by omega) x1.1 x1.2 s1 x2.1 x2.2 s2, Or.inl ⟨t2, c, a, b, b1, a3, d3, a4, d4, rfl⟩⟩
      · refine ⟨-1, z_shC0 (Or.inr ⟨by rw [n2, d2], a, z_nd t1 + 1, by rw [n1, a5], ct.2.1.1, ct.1, by omega⟩), Or.inr ⟨fun t' c' hb => Or.inr (d1 t' hb.1), rfl⟩⟩
    · exact ⟨-1, z_shC0 (Or.inl ⟨by rw [n1, a2], _, n2⟩), Or.inr ⟨fun t' c' hb => Or.inl (a1 t' hb.1), rfl⟩⟩
theorem z_wR {σ : rl_M} {A : z_A} {r1 r2 : Nat} (ok : z_Ok A) (hr : z_Rs σ A) (hf : z_Fd σ A) (h1 : r1 < 6) (h2 : r2 < 6) : ∃ v x y, z_WV A r1 r2 v ∧ rf_Mo_placeOf (nI r1) σ = some (x, σ) ∧ rf_Mo_placeOf (nI r2) σ = some (y, σ) ∧
    ((v = -1 ∧ (σ 59 15 = 0 ∨ (σ 59 15 = 1 ∧ (x = -1 ∨ ((∃ a, a < 11 ∧ x = nI a) ∧ y = -1))))) ∨ (σ 59 15 = 1 ∧ ∃ a b w, x = nI a ∧ y = nI b ∧ a < 11 ∧ b < 11 ∧ w ≤ 2000 ∧ v = nI w ∧ rf_Mo_shared x y σ = some (v, σ))) := by
  rcases z_plc ok hr h1 with ⟨t1, a, a1, a2, a3, a4, a5⟩ | ⟨a1, a2⟩ <;> rcases z_plc ok hr h2 with ⟨t2, b, d1, d2, d3, d4, d5⟩ | ⟨d1, d2⟩ <;> rcases hf with ⟨e1, e2⟩ | ⟨t, c, b1, b2, b3, b4, b5, b6, b7⟩
  · exact ⟨-1, _, _, Or.inr ⟨fun t c hb => (e2 _ (z_Ba_Pa ok hb)).elim, rfl⟩, a5, d5, Or.inl ⟨rfl, Or.inl e1⟩⟩
  · have ot := ok.2.2.2 t b1.1
    have e : t1 = t := Option.some.inj (a1.symm.trans b1.1)
    subst e
    have e : t2 = t1 := Option.some.inj (d1.symm.trans b1.1)
    subst e
    have x1 := z_Co_xy t2 0 0 0 b7 a (by omega) (by omega)
    have x2 := z_Co_xy t2 0 0 0 b7 b (by omega) (by omega)
    have s1 := z_leafR (c := c) h1 a4 t2 0 ot.2.1 ot.2.2.1 (by omega) (by omega) b6
    have s2 := z_leafR (c := c) h2 d4 t2 0 ot.2.1 ot.2.2.1 (by omega) (by omega) b6
    have q1 := z_Bas ok b1 r1 a2
    have q2 := z_Bas ok b1 r2 d2
    unfold z_Bs at q1 q2
    have y1 := z_xyb ok b1 a
    have y2 := z_xyb ok b1 b
    have om := ot.1
    exact ⟨nI (z_ww A t2 c a r1 b r2), _, _, Or.inl ⟨t2, c, a, b, b1, a3, d3, a4, d4, rfl⟩, a5, d5, Or.inr ⟨b2, a, b, _, rfl, rfl, by omega, by omega, z_wwb ok b1 a2, rfl, z_shR (by omega) (by omega) y1.1 y1.2 (by omega) (by omega) y2.1 y2.2 (by omega) (by omega) x1.1 x1.2 s1.1 s1.2 x2.1 x2.2 s2.1 s2.2⟩⟩
  · exact ⟨-1, _, _, Or.inr ⟨fun t c hb => (e2 _ (z_Ba_Pa ok hb)).elim, rfl⟩, a5, d2, Or.inl ⟨rfl, Or.inl e1⟩⟩
  · have om := (ok.2.2.2 t1 a1).1
    exact ⟨-1, _, _, Or.inr ⟨fun t' c' hb => Or.inr (d1 t' hb.1), rfl⟩, a5, d2, Or.inl ⟨rfl, Or.inr ⟨b2, Or.inr ⟨⟨a, by omega, rfl⟩, rfl⟩⟩⟩⟩
  · exact ⟨-1, _, _, Or.inr ⟨fun t c hb => (e2 _ (z_Ba_Pa ok hb)).elim, rfl⟩, a2, d5, Or.inl ⟨rfl, Or.inl e1⟩⟩
  · exact ⟨-1, _, _, Or.inr ⟨fun t' c' hb => Or.inl (a1 t' hb.1), rfl⟩, a2, d5, Or.inl ⟨rfl, Or.inr ⟨b2, Or.inl rfl⟩⟩⟩
  · exact ⟨-1, _, _, Or.inr ⟨fun t c hb => (e2 _ (z_Ba_Pa ok hb)).elim, rfl⟩, a2, d2, Or.inl ⟨rfl, Or.inl e1⟩⟩
  · exact ⟨-1, _, _, Or.inr ⟨fun t' c' hb => Or.inl (a1 t' hb.1), rfl⟩, a2, d2, Or.inl ⟨rfl, Or.inr ⟨b2, Or.inl rfl⟩⟩⟩
theorem z_m10 : ((-1 : Int32) < 0) := by decide
theorem z_m1z : ¬ ((-1 : Int32) = 0) := by decide
theorem z_case7 (P1 P2 P3 P4 : Int32) (σ : rl_M) (h : z_Inv σ) : ∃ τ, lf_7 P1 P2 P3 P4 σ = some τ ∧ z_Inv τ := by
  obtain ⟨A, ok, hc, hr, hf⟩ := h
  have e1 := z_120
  have hN := ok.1.1
  have J1 : ∀ τ : rl_M, rf_Mo_wall_J26 P1 P2 τ = some (0, rl_su τ 59 0 1) := by
    intro τ
    unfold rf_Mo_wall_J26 rf_Mo_wall_J27
    rw [z_su_s, if_neg z_101]
  rcases z_two P1 P2 (z_aN A) (by omega) with ⟨r1, r2, a1, a2, a3, a4, a5, a6, a7, a8⟩ | ⟨a7, a8⟩
  · have a7' := a7 σ hc.1
    obtain ⟨τ, t1, t2, t3, t4, t5, t6⟩ := z_Sl ok hc hf
    have hr1 := z_FC_78 t6 hr
    subst a4 a5
    obtain ⟨v, v1, v2⟩ := z_wC (r1 := r1) (r2 := r2) ok t2 t5 (by omega) (by omega)
    have w1 : wf_wall (nI r1) (nI r2) σ = some (0, rl_su τ 78 0 v) := by
      unfold wf_wall rf_Ro_wall
      simp only [a7', Option.bind_some, if_true, t1, v1]
    have hr2 : z_Rs (rl_su (rl_su τ 78 0 v) 59 0 0) A := z_Rs_x (z_FX_8.tr z_FX_0) hr1
    have a8' := a8 (rl_su τ 78 0 v) (z_Rs_x z_FX_8 hr1).1
    obtain ⟨υ, u1, u2, u3, u4⟩ := z_Fb ok hr2
    obtain ⟨v', x, y, x1, x2, x3, x4⟩ := z_wR (r1 := r1) (r2 := r2) ok u2 u3 (by omega) (by omega)
    have hv : v = v' := z_WV_u ok (by omega) (by omega) v2 x1
    subst hv
    have m1 : rf_Mo_wall (nI r1) (nI r2) (rl_su τ 78 0 v) = some (v, υ) := by
      unfold rf_Mo_wall rf_Mo_wall_J27
      simp only [a8'.1, a8'.2, Option.bind_some, z_10, if_false, if_neg a6, z_su_s, if_pos z_000, u1, x2, x3]
      rcases x4 with ⟨rfl, h15 | ⟨h15, rfl | ⟨⟨a, b1, rfl⟩, rfl⟩⟩⟩ | ⟨h15, a, b, w, rfl, rfl, b1, b2, b3, rfl, b4⟩
      · simp only [h15, if_true]
      · simp only [h15, z_10, if_false, if_pos z_m10]
      · simp (disch := omega) only [h15, z_lt, z_le, z_eq, z_ltl, z_lel, z_llt, z_lle, z_eql, z_add, z_addl, z_ladd, z_mul, z_mull, z_lmul, z_sub, z_subl, z_cl, z_ib, z_nm, z_m1, z_mlt, if_pos, if_neg, ge_iff_le, gt_iff_lt, ite_true, ite_false, if_true, if_false, Option.bind_some, z_10, eq_self, z_0m]
      · simp (disch := omega) only [h15, z_lt, z_le, z_eq, z_ltl, z_lel, z_llt, z_lle, z_eql, z_add, z_addl, z_ladd, z_mul, z_mull, z_lmul, z_sub, z_subl, z_cl, z_ib, z_nm, z_m1, z_mlt, if_pos, if_neg, ge_iff_le, gt_iff_lt, ite_true, ite_false, if_true, if_false, Option.bind_some, z_10, eq_self, b4]
    refine ⟨υ, z_fin w1 m1 ?_ (fun _ => ?_), z_keep ok t2 hr1 t3 ((z_FX_8.tr z_FX_0).tr u4.fx)⟩
    · rw [u4.2 0 (by omega) (by omega) (by omega), z_su_s]
    · rw [u4.1 78 (by omega), z_su_c (by omega), z_su_s]
  · have a7' := a7 σ hc.1
    have w1 : wf_wall P1 P2 σ = some (1, σ) := by
      unfold wf_wall rf_Ro_wall
      simp only [a7', Option.bind_some, e1.1, if_false, if_true]
    have m1 : rf_Mo_wall P1 P2 σ = some (0, rl_su σ 59 0 1) := by
      unfold rf_Mo_wall
      rcases a8 σ hr.1 with a | ⟨a, b | ⟨a', a''⟩⟩
      · simp only [a, Option.bind_some, if_true, J1]
      · simp only [b, a, Option.bind_some, z_10, if_false, if_true, J1]
      · simp only [a, a', if_pos a'', Option.bind_some, z_10, if_false, if_true, J1]
    exact ⟨_, z_fin w1 m1 (by rw [z_su_s]) (fun h => absurd h (by decide)), z_keep ok hc hr hf z_FX_0⟩
/-- wish i is met -/
def z_Mt (A : z_A) (i : Nat) : Prop := ∃ x, z_WV A (z_a1 A i) (z_a2 A i) (nI x) ∧ x ≤ 2000 ∧ z_a3 A i ≤ x
theorem z_nI_m1 {x : Nat} (h : x < 2147483648) : ¬ nI x = -1 := fun e => (z_nm h).mp e
theorem z_imC {σ : rl_M} {A : z_A} {i : Nat} (ok : z_Ok A) (hc : z_Cs σ A) (hs : z_Set σ A) (hi : i < z_ak A) : (z_Mt A i ∧ rf_Wl_isMetIn (nI i) σ = some (1, σ)) ∨ (¬ z_Mt A i ∧ rf_Wl_isMetIn (nI i) σ = some (0, σ)) := by
  have hk := ok.2.2.1.1
  obtain ⟨w1, w2, w3, w4⟩ := ok.2.2.1.2 i hi
  have hN := ok.1.1
  obtain ⟨c1, c2⟩ := hc.2.2.2.2
  obtain ⟨d1, d2, d3⟩ := c2 i hi
  obtain ⟨v, v1, v2⟩ := z_wC (r1 := z_a1 A i) (r2 := z_a2 A i) ok hc hs (by omega) (by omega)
  have key : ∀ b : Int32, (if v < nI (z_a3 A i) then some (0, σ) else some (1, σ)) = some (b, σ) → rf_Wl_isMetIn (nI i) σ = some (b, σ) := by
    intro b hb
    unfold rf_Wl_isMetIn
    simp (disch := omega) only [c1, d1, d2, d3, z_lt, z_le, z_eq, z_ltl, z_lel, z_llt, z_lle, z_eql, z_add, z_addl, z_ladd, z_mul, z_mull, z_lmul, z_sub, z_subl, z_cl, z_ib, z_nm, z_m1, z_mlt, if_pos, if_neg, ge_iff_le, gt_iff_lt, ite_true, ite_false, if_true, if_false, Option.bind_some, z_10, eq_self, v1]
    exact hb
  have v2' := v2
  rcases v2 with ⟨t, c, a, b, e1, e2, e3, e4, e5, e6⟩ | ⟨e1, e2⟩
  · have bw := z_wwb (a := a) (b := b) (r2 := z_a2 A i) ok e1 (z_in (by omega) t 0 a (ok.2.2.2 t e1.1).2.1 (by omega) (by omega) e4)
    by_cases q : z_a3 A i ≤ z_ww A t c a (z_a1 A i) b (z_a2 A i)
    · left
      refine ⟨⟨_, e6 ▸ v2', bw, q⟩, key 1 ?_⟩
      rw [e6, if_neg]
      rw [z_lt (by omega) (by omega)]; omega
    · right
      refine ⟨?_, key 0 ?_⟩
      · rintro ⟨x, x1, x2, x3⟩
        have := z_WV_u ok (by omega) (by omega) v2' x1
        rw [e6, z_eq (by omega) (by omega)] at this
        omega
      · rw [e6, if_pos]
        rw [z_lt (by omega) (by omega)]; omega
  · right
    refine ⟨?_, key 0 ?_⟩
    · rintro ⟨x, x1, x2, x3⟩
      have := z_WV_u ok (by omega) (by omega) v2' x1
      rw [e2] at this
      exact z_nI_m1 (by omega) this.symm
    · rw [e2, if_pos ((z_m1l (by omega)).mpr trivial)]
theorem z_imR {σ : rl_M} {A : z_A} {i : Nat} (ok : z_Ok A) (hr : z_Rs σ A) (hf : z_Fd σ A) (hi : i < z_ak A) : (z_Mt A i ∧ rf_Mo_isMet (nI i) σ = some (1, σ)) ∨ (¬ z_Mt A i ∧ rf_Mo_isMet (nI i) σ = some (0, σ)) := by
  have hk := ok.2.2.1.1
  obtain ⟨w1, w2, w3, w4⟩ := ok.2.2.1.2 i hi
  have hN := ok.1.1
  obtain ⟨c1, c2⟩ := hr.2.2.2.2
  obtain ⟨d1, d2, d3⟩ := c2 i hi
  obtain ⟨v, x, y, x1, x2, x3, x4⟩ := z_wR (r1 := z_a1 A i) (r2 := z_a2 A i) ok hr hf (by omega) (by omega)
  rcases x4 with ⟨rfl, x4⟩ | ⟨h15, a, b, w, rfl, rfl, b1, b2, b3, rfl, b4⟩
  · right
    refine ⟨?_, ?_⟩
    · rintro ⟨z, z1, z2, z3⟩
      have := z_WV_u ok (by omega) (by omega) x1 z1
      exact z_nI_m1 (by omega) this.symm
    · unfold rf_Mo_isMet
      rcases x4 with h15 | ⟨h15, rfl | ⟨⟨a, b1, rfl⟩, rfl⟩⟩
      · simp (disch := omega) only [d1, d2, z_lt, z_le, z_eq, z_ltl, z_lel, z_llt, z_lle, z_eql, z_add, z_addl, z_ladd, z_mul, z_mull, z_lmul, z_sub, z_subl, z_cl, z_ib, z_nm, z_m1, z_mlt, if_pos, if_neg, ge_iff_le, gt_iff_lt, ite_true, ite_false, if_true, if_false, Option.bind_some, z_10, eq_self, x2, x3, h15]
      · simp (disch := omega) only [d1, d2, z_lt, z_le, z_eq, z_ltl, z_lel, z_llt, z_lle, z_eql, z_add, z_addl, z_ladd, z_mul, z_mull, z_lmul, z_sub, z_subl, z_cl, z_ib, z_nm, z_m1, z_mlt, if_pos, if_neg, ge_iff_le, gt_iff_lt, ite_true, ite_false, if_true, if_false, Option.bind_some, z_10, eq_self, x2, x3, h15]
      · simp (disch := omega) only [d1, d2, z_lt, z_le, z_eq, z_ltl, z_lel, z_llt, z_lle, z_eql, z_add, z_addl, z_ladd, z_mul, z_mull, z_lmul, z_sub, z_subl, z_cl, z_ib, z_nm, z_m1, z_mlt, if_pos, if_neg, ge_iff_le, gt_iff_lt, ite_true, ite_false, if_true, if_false, Option.bind_some, z_10, eq_self, x2, x3, h15]
  · by_cases q : z_a3 A i ≤ w
    · left
      refine ⟨⟨w, x1, b3, q⟩, ?_⟩
      unfold rf_Mo_isMet
      simp (disch := omega) only [d1, d2, d3, z_lt, z_le, z_eq, z_ltl, z_lel, z_llt, z_lle, z_eql, z_add, z_addl, z_ladd, z_mul, z_mull, z_lmul, z_sub, z_subl, z_cl, z_ib, z_nm, z_m1, z_mlt, if_pos, if_neg, ge_iff_le, gt_iff_lt, ite_true, ite_false, if_true, if_false, Option.bind_some, z_10, eq_self, x2, x3, h15, b4]
    · right
      refine ⟨?_, ?_⟩
      · rintro ⟨z, z1, z2, z3⟩
        have := z_WV_u ok (by omega) (by omega) x1 z1
        rw [z_eq (by omega) (by omega)] at this
        omega
      · unfold rf_Mo_isMet
        simp (disch := omega) only [d1, d2, d3, z_lt, z_le, z_eq, z_ltl, z_lel, z_llt, z_lle, z_eql, z_add, z_addl, z_ladd, z_mul, z_mull, z_lmul, z_sub, z_subl, z_cl, z_ib, z_nm, z_m1, z_mlt, if_pos, if_neg, ge_iff_le, gt_iff_lt, ite_true, ite_false, if_true, if_false, Option.bind_some, z_10, eq_self, x2, x3, h15, b4]
noncomputable def z_cm (P : Nat → Prop) : Nat → Nat
  | 0 => 0
  | k + 1 => z_cm P k + @ite Nat (P k) (Classical.propDecidable (P k)) 1 0
theorem z_cm_t {P : Nat → Prop} {k : Nat} (h : P k) : z_cm P (k + 1) = z_cm P k + 1 := by
  simp only [z_cm]; rw [if_pos h]
theorem z_cm_f {P : Nat → Prop} {k : Nat} (h : ¬ P k) : z_cm P (k + 1) = z_cm P k := by
  simp only [z_cm]; rw [if_neg h, Nat.add_zero]
theorem z_cm_b (P : Nat → Prop) : ∀ k, z_cm P k ≤ k := by
  intro k
  induction k with
  | zero => exact Nat.le_refl _
  | succ k ih =>
    by_cases h : P k
    · rw [z_cm_t h]; omega
    · rw [z_cm_f h]; omega
theorem z_cmC {σ : rl_M} {k : Nat} {P : Nat → Prop} (hk : k ≤ 10) (h19 : σ 19 0 = nI k) (hP : ∀ i, i < k → (P i ∧ rf_Wl_isMetIn (nI i) σ = some (1, σ)) ∨ (¬ P i ∧ rf_Wl_isMetIn (nI i) σ = some (0, σ))) : ∀ (d i f : Nat), i + d = k → d < f → rf_Wl_countMetIn_L4 f (nI (z_cm P i)) (nI i) σ = some (nI (z_cm P k), σ) := by
  intro d
  induction d with
  | zero =>
    intro i f hi hf
    obtain ⟨f, rfl⟩ : ∃ g, f = g + 1 := ⟨f - 1, by omega⟩
    have e : i = k := by omega
    subst e
    unfold rf_Wl_countMetIn_L4
    simp (disch := omega) only [h19, z_lt, z_le, z_eq, z_ltl, z_lel, z_llt, z_lle, z_eql, z_add, z_addl, z_ladd, z_mul, z_mull, z_lmul, z_sub, z_subl, z_cl, z_ib, z_nm, z_m1, z_mlt, if_pos, if_neg, ge_iff_le, gt_iff_lt, ite_true, ite_false, if_true, if_false, Option.bind_some, z_10, eq_self]
  | succ d ih =>
    intro i f hi hf
    obtain ⟨f, rfl⟩ : ∃ g, f = g + 1 := ⟨f - 1, by omega⟩
    have hi2 := ih (i + 1) f (by omega) (by omega)
    have cb := z_cm_b P i
    rcases hP i (by omega) with ⟨p1, p2⟩ | ⟨p1, p2⟩
    · rw [z_cm_t p1] at hi2
      unfold rf_Wl_countMetIn_L4
      simp (disch := omega) only [h19, p2, z_lt, z_le, z_eq, z_ltl, z_lel, z_llt, z_lle, z_eql, z_add, z_addl, z_ladd, z_mul, z_mull, z_lmul, z_sub, z_subl, z_cl, z_ib, z_nm, z_m1, z_mlt, if_pos, if_neg, ge_iff_le, gt_iff_lt, ite_true, ite_false, if_true, if_false, Option.bind_some, z_10, eq_self, hi2]
    · rw [z_cm_f p1] at hi2
      unfold rf_Wl_countMetIn_L4
      simp (disch := omega) only [h19, p2, z_lt, z_le, z_eq, z_ltl, z_lel, z_llt, z_lle, z_eql, z_add, z_addl, z_ladd, z_mul, z_mull, z_lmul, z_sub, z_subl, z_cl, z_ib, z_nm, z_m1, z_mlt, if_pos, if_neg, ge_iff_le, gt_iff_lt, ite_true, ite_false, if_true, if_false, Option.bind_some, z_10, eq_self, hi2]
theorem z_cmR {σ : rl_M} {k : Nat} {P : Nat → Prop} (hk : k ≤ 10) (h19 : σ 59 9 = nI k) (hP : ∀ i, i < k → (P i ∧ rf_Mo_isMet (nI i) σ = some (1, σ)) ∨ (¬ P i ∧ rf_Mo_isMet (nI i) σ = some (0, σ))) : ∀ (d i f : Nat), i + d = k → d < f → rf_Mo_allMet_L8 f (nI (z_cm P i)) (nI i) σ = some (nI (z_cm P k), σ) := by
  intro d
  induction d with
  | zero =>
    intro i f hi hf
    obtain ⟨f, rfl⟩ : ∃ g, f = g + 1 := ⟨f - 1, by omega⟩
    have e : i = k := by omega
    subst e
    unfold rf_Mo_allMet_L8
    simp (disch := omega) only [h19, z_lt, z_le, z_eq, z_ltl, z_lel, z_llt, z_lle, z_eql, z_add, z_addl, z_ladd, z_mul, z_mull, z_lmul, z_sub, z_subl, z_cl, z_ib, z_nm, z_m1, z_mlt, if_pos, if_neg, ge_iff_le, gt_iff_lt, ite_true, ite_false, if_true, if_false, Option.bind_some, z_10, eq_self]
  | succ d ih =>
    intro i f hi hf
    obtain ⟨f, rfl⟩ : ∃ g, f = g + 1 := ⟨f - 1, by omega⟩
    have hi2 := ih (i + 1) f (by omega) (by omega)
    have cb := z_cm_b P i
    rcases hP i (by omega) with ⟨p1, p2⟩ | ⟨p1, p2⟩
    · rw [z_cm_t p1] at hi2
      unfold rf_Mo_allMet_L8
      simp (disch := omega) only [h19, p2, z_lt, z_le, z_eq, z_ltl, z_lel, z_llt, z_lle, z_eql, z_add, z_addl, z_ladd, z_mul, z_mull, z_lmul, z_sub, z_subl, z_cl, z_ib, z_nm, z_m1, z_mlt, if_pos, if_neg, ge_iff_le, gt_iff_lt, ite_true, ite_false, if_true, if_false, Option.bind_some, z_10, eq_self, hi2]
    · rw [z_cm_f p1] at hi2
      unfold rf_Mo_allMet_L8
      simp (disch := omega) only [h19, p2, z_lt, z_le, z_eq, z_ltl, z_lel, z_llt, z_lle, z_eql, z_add, z_addl, z_ladd, z_mul, z_mull, z_lmul, z_sub, z_subl, z_cl, z_ib, z_nm, z_m1, z_mlt, if_pos, if_neg, ge_iff_le, gt_iff_lt, ite_true, ite_false, if_true, if_false, Option.bind_some, z_10, eq_self, Nat.add_zero, hi2]
theorem z_ctC {σ : rl_M} {A : z_A} (ok : z_Ok A) (hc : z_Cs σ A) (hs : z_Set σ A) : rf_Wl_countMetIn σ = some (nI (z_cm (z_Mt A) (z_ak A)), σ) :=
  z_cmC ok.2.2.1.1 hc.2.2.2.2.1 (fun i hi => z_imC ok hc hs hi) (z_ak A) 0 10000 (by omega) (by have := ok.2.2.1.1; omega)
theorem z_amR {σ : rl_M} {A : z_A} (ok : z_Ok A) (hr : z_Rs σ A) : ∃ τ, rf_Mo_allMet σ = some (nI (z_cm (z_Mt A) (z_ak A)), τ) ∧ z_Rs τ A ∧ z_Fd τ A ∧ z_FM σ τ := by
  obtain ⟨τ, t1, t2, t3, t4⟩ := z_Fb ok hr
  refine ⟨τ, ?_, t2, t3, t4⟩
  unfold rf_Mo_allMet
  rw [t1, Option.bind_some]
  exact z_cmR ok.2.2.1.1 t2.2.2.2.2.1 (fun i hi => z_imR ok t2 t3 hi) (z_ak A) 0 10000 (by omega) (by have := ok.2.2.1.1; omega)
theorem z_case9 (P1 P2 P3 P4 : Int32) (σ : rl_M) (h : z_Inv σ) : ∃ τ, lf_9 P1 P2 P3 P4 σ = some τ ∧ z_Inv τ := by
  obtain ⟨A, ok, hc, hr, hf⟩ := h
  have e1 := z_120
  have hk := ok.2.2.1.1
  rcases z_wr P1 (z_ak A) (by omega) with ⟨i, a1, a2, a3, -, -, a6⟩ | ⟨a3, -, -, a6⟩
  · subst a2
    obtain ⟨τ, t1, t2, t3, t4, t5, t6⟩ := z_Sl ok hc hf
    have hr1 := z_FC_78 t6 hr
    have c19 := hc.2.2.2.2.1
    have zb1 : rl_zb 1 = true := by decide
    have zb0 : rl_zb 0 = true := by decide
    have go : ∀ v : Int32, rl_zb v = true → (v = 0 ∨ v = 1) → rf_Wl_isMetIn (nI i) τ = some (v, τ) → (∀ υ : rl_M, z_Rs υ A → z_Fd υ A → rf_Mo_isMet (nI i) υ = some (v, υ)) → ∃ τ, lf_9 (nI i) P2 P3 P4 σ = some τ ∧ z_Inv τ := by
      intro v zb v01 i1 i2
      have w1 : wf_met (nI i) σ = some (0, rl_su τ 78 0 v) := by
        unfold wf_met rf_Ro_met0
        simp only [c19, a3, Option.bind_some, if_true, t1, i1, zb]
        rcases v01 with rfl | rfl
        · simp only [if_true]
        · simp only [z_10, if_false]
      have hr2 : z_Rs (rl_su (rl_su τ 78 0 v) 59 0 0) A := z_Rs_x (z_FX_8.tr z_FX_0) hr1
      have h9 : (rl_su τ 78 0 v) 59 9 = nI (z_ak A) := (z_Rs_x z_FX_8 hr1 : z_Rs (rl_su τ 78 0 v) A).2.2.2.2.1
      obtain ⟨υ, u1, u2, u3, u4⟩ := z_Fb ok hr2
      have m1 : rf_Mo_met0 (nI i) (rl_su τ 78 0 v) = some (v, υ) := by
        unfold rf_Mo_met0 rf_Mo_met0_J20
        simp only [h9, a6, Option.bind_some, z_10, if_false, z_su_s, if_pos z_000, u1, i2 υ u2 u3, zb, if_true]
      refine ⟨υ, z_fin2 w1 m1 ?_ (fun _ => ⟨?_, v01⟩), z_keep ok t2 hr1 t3 ((z_FX_8.tr z_FX_0).tr u4.fx)⟩
      · rw [u4.2 0 (by omega) (by omega) (by omega), z_su_s]
      · rw [u4.1 78 (by omega), z_su_c (by omega), z_su_s]
    rcases z_imC ok t2 t5 a1 with ⟨p1, p2⟩ | ⟨p1, p2⟩
    · refine go 1 zb1 (Or.inr rfl) p2 (fun υ h1 h2 => ?_)
      rcases z_imR ok h1 h2 a1 with ⟨q1, q2⟩ | ⟨q1, q2⟩
      · exact q2
      · exact (q1 p1).elim
    · refine go 0 zb0 (Or.inl rfl) p2 (fun υ h1 h2 => ?_)
      rcases z_imR ok h1 h2 a1 with ⟨q1, q2⟩ | ⟨q1, q2⟩
      · exact (p1 q1).elim
      · exact q2
  · have c19 := hc.2.2.2.2.1
    have h9 := hr.2.2.2.2.1
    have w1 : wf_met P1 σ = some (1, σ) := by
      unfold wf_met rf_Ro_met0
      simp only [c19, a3, Option.bind_some, e1.1, if_false, if_true]
    have m1 : rf_Mo_met0 P1 σ = some (0, rl_su σ 59 0 1) := by
      unfold rf_Mo_met0 rf_Mo_met0_J20
      simp only [h9, a6, Option.bind_some, if_true, z_su_s, if_neg z_101]
    exact ⟨_, z_fin2 w1 m1 (by rw [z_su_s]) (fun h => absurd h (by decide)), z_keep ok hc hr hf z_FX_0⟩
theorem z_case10 (P1 P2 P3 P4 : Int32) (σ : rl_M) (h : z_Inv σ) : ∃ τ, lf_10 P1 P2 P3 P4 σ = some τ ∧ z_Inv τ := by
  obtain ⟨A, ok, hc, hr, hf⟩ := h
  obtain ⟨τ, t1, t2, t3, t4, t5, t6⟩ := z_Sl ok hc hf
  have hr1 := z_FC_78 t6 hr
  obtain ⟨υ, u1, u2, u3, u4⟩ := z_amR ok (z_Rs_x z_FX_0 hr1 : z_Rs (rl_su τ 59 0 0) A)
  refine ⟨υ, ?_, z_keep ok t2 hr1 t3 (z_FX_0.tr u4.fx)⟩
  unfold lf_10 rf_Ro_met1 rf_Mo_met1
  simp only [t1, Option.bind_some, z_ctC ok t2 t5, u1, if_true]
