def z_dx (v w : Nat) : Nat := if v = 124 then w else 0
def z_dy (v h : Nat) : Nat := if v = 124 then 0 else h
/-- the corners of the parts -/
def z_Co (fx fy : Nat → Int32) (g : Nat → Nat) (s : Nat → Nat → Nat × Nat) (c : Nat → Nat) : Nat → Lean.Data.AC.Expr → Nat → Nat → Prop
  | i, .var _, x, y => fx i = nI x ∧ fy i = nI y
  | i, .op l r, x, y => (fx (i + (z_nd l + z_nd r + 2)) = nI x ∧ fy (i + (z_nd l + z_nd r + 2)) = nI y) ∧ z_Co fx fy g s c i l x y ∧
      z_Co fx fy g s c (i + z_nd l + 1) r (x + z_dx (g (i + (z_nd l + z_nd r + 2))) (z_ev g s c i l).1) (y + z_dy (g (i + (z_nd l + z_nd r + 2))) (z_ev g s c i l).2)
theorem z_Co_f {fx fy fx' fy' : Nat → Int32} {g : Nat → Nat} {s : Nat → Nat → Nat × Nat} {c : Nat → Nat} : ∀ (t : Lean.Data.AC.Expr) (i x y : Nat), (∀ j, i ≤ j → j ≤ i + z_nd t → fx' j = fx j ∧ fy' j = fy j) → z_Co fx fy g s c i t x y → z_Co fx' fy' g s c i t x y := by
  intro t
  induction t with
  | var r =>
    intro i x y e h
    have e1 := e i (by omega) (by omega)
    exact ⟨e1.1.trans h.1, e1.2.trans h.2⟩
  | op l r il ir =>
    intro i x y e h
    simp only [z_nd] at e
    have e1 := e (i + (z_nd l + z_nd r + 2)) (by omega) (by omega)
    exact ⟨⟨e1.1.trans h.1.1, e1.2.trans h.1.2⟩, il i x y (fun j h1 h2 => e j h1 (by omega)) h.2.1, ir _ _ _ (fun j h1 h2 => e j (by omega) (by omega)) h.2.2⟩
theorem z_Co_u {fx fy fx' fy' : Nat → Int32} {g : Nat → Nat} {s : Nat → Nat → Nat × Nat} {c : Nat → Nat} : ∀ (t : Lean.Data.AC.Expr) (i x y : Nat), z_Co fx fy g s c i t x y → z_Co fx' fy' g s c i t x y → ∀ j, i ≤ j → j ≤ i + z_nd t → fx j = fx' j ∧ fy j = fy' j := by
  intro t
  induction t with
  | var r =>
    intro i x y h h' j h1 h2
    simp only [z_nd] at h2
    have e : j = i := by omega
    subst e
    exact ⟨h.1.trans h'.1.symm, h.2.trans h'.2.symm⟩
  | op l r il ir =>
    intro i x y h h' j h1 h2
    simp only [z_nd] at h2
    by_cases c1 : j ≤ i + z_nd l
    · exact il i x y h.2.1 h'.2.1 j h1 c1
    · by_cases c2 : j ≤ i + z_nd l + 1 + z_nd r
      · exact ir _ _ _ h.2.2 h'.2.2 j (by omega) c2
      · have e : j = i + (z_nd l + z_nd r + 2) := by omega
        subst e
        exact ⟨h.1.1.trans h'.1.1.symm, h.1.2.trans h'.1.2.symm⟩
theorem z_Co_top {fx fy : Nat → Int32} {g : Nat → Nat} {s : Nat → Nat → Nat × Nat} {c : Nat → Nat} {t : Lean.Data.AC.Expr} {i x y : Nat} (h : z_Co fx fy g s c i t x y) : fx (i + z_nd t) = nI x ∧ fy (i + z_nd t) = nI y := by
  cases t with
  | var r => exact h
  | op l r => exact h.1
theorem z_out_1 {g : Nat → Nat} {s : Nat → Nat → Nat × Nat} {D : Nat → Nat → Prop} {c : Nat → Nat} : ∀ (t : Lean.Data.AC.Expr) (i : Nat) (p : Nat × Nat), (∀ q ∈ z_rm t, ∀ j, D q j → j = c q) → z_out g s D i t p → p = z_ev g s c i t := by
  intro t
  induction t with
  | var r =>
    rintro i p hd ⟨j, hj, e⟩
    have := hd r (by simp [z_rm]) j hj
    subst this; exact e
  | op l r il ir =>
    rintro i p hd ⟨a, b, ha, hb, e⟩
    have e1 := il i a (fun q hq => hd q (by simp [z_rm, hq])) ha
    have e2 := ir _ b (fun q hq => hd q (by simp [z_rm, hq])) hb
    rw [e, e1, e2]; rfl
/-- node k's curve is one outline -/
def z_S1 (σ : rl_M) (k : Nat) (p : Nat × Nat) : Prop := σ (23 + 3 * k) 0 = nI 1 ∧ σ (23 + 3 * k + 1) 0 = nI p.1 ∧ σ (23 + 3 * k + 2) 0 = nI p.2
theorem z_sing {g : Nat → Nat} {s : Nat → Nat → Nat × Nat} {c : Nat → Nat} {σ : rl_M} {t : Lean.Data.AC.Expr} {i k l : Nat} (h : z_Has σ k (z_out g s (fun q j => j = c q) i t) l) : z_S1 σ k (z_ev g s c i t) := by
  obtain ⟨L, h1, h2, h3⟩ := h
  have ho : z_out g s (fun q j => j = c q) i t (z_ev g s c i t) := z_out_ev t i (fun q _ => rfl)
  obtain ⟨q, hq, _⟩ := h2.2.1 _ ho
  cases L with
  | nil => simp at hq
  | cons a L =>
    have ea := z_out_1 t i a (fun q _ j h => h) (h2.1 a (by simp))
    cases L with
    | nil =>
      subst ea
      exact ⟨h1.1, h1.2 0 _ rfl⟩
    | cons b L =>
      have eb := z_out_1 t i b (fun q _ j h => h) (h2.1 b (by simp))
      have := ((List.pairwise_cons.mp h2.2.2).1 b (by simp)).1
      rw [ea, eb] at this
      omega
theorem z_nw {σ : rl_M} {m k : Nat} {p : Nat × Nat} (h : σ 8 0 = nI m) (hm : m ≤ 11) (hk : k < m) (h1 : z_S1 σ k p) : rf_Pl_nodeWidth (nI k) σ = some (nI p.1, σ) := by
  unfold rf_Pl_nodeWidth
  rw [z_has h hm hk]
  have e0 : ¬ ((0 : Int32) < 0) := by decide
  have e1 : ¬ (nI 1 ≤ (0 : Int32)) := by decide
  have e2 : rl_ib 0 24 = true := by decide
  have e3 : (0 : Int32).toNatClampNeg = 0 := by decide
  simp (disch := omega) only [z_lt, z_le, z_eq, z_ltl, z_lel, z_llt, z_lle, z_eql, z_add, z_addl, z_ladd, z_mul, z_mull, z_lmul, z_sub, z_subl, z_cl, z_ib, z_nm, z_m1, z_mlt, if_pos, if_neg, ge_iff_le, gt_iff_lt, ite_true, ite_false, if_true, if_false, Option.bind_some, z_10, eq_self, z_cv]
  unfold rf_Cu_widthAt
  simp only [h1.1, h1.2.1, e0, e1, e2, e3, if_true, if_false, Option.bind_some]
theorem z_nh {σ : rl_M} {m k : Nat} {p : Nat × Nat} (h : σ 8 0 = nI m) (hm : m ≤ 11) (hk : k < m) (h1 : z_S1 σ k p) : rf_Pl_nodeHeight (nI k) σ = some (nI p.2, σ) := by
  unfold rf_Pl_nodeHeight
  rw [z_has h hm hk]
  have e0 : ¬ ((0 : Int32) < 0) := by decide
  have e1 : ¬ (nI 1 ≤ (0 : Int32)) := by decide
  have e2 : rl_ib 0 24 = true := by decide
  have e3 : (0 : Int32).toNatClampNeg = 0 := by decide
  simp (disch := omega) only [z_lt, z_le, z_eq, z_ltl, z_lel, z_llt, z_lle, z_eql, z_add, z_addl, z_ladd, z_mul, z_mull, z_lmul, z_sub, z_subl, z_cl, z_ib, z_nm, z_m1, z_mlt, if_pos, if_neg, ge_iff_le, gt_iff_lt, ite_true, ite_false, if_true, if_false, Option.bind_some, z_10, eq_self, z_cv]
  unfold rf_Cu_heightAt
  simp only [h1.1, h1.2.2, e0, e1, e2, e3, if_true, if_false, Option.bind_some]
theorem z_S1_f {σ τ : rl_M} {k : Nat} {p : Nat × Nat} (h : z_S1 σ k p) (e : ∀ c, 23 ≤ c → τ c = σ c) : z_S1 τ k p := by
  unfold z_S1 at *
  rw [e _ (by omega), e _ (by omega), e _ (by omega)]; exact h
/-- the corners of a node's two parts -/
def z_c4 (σ : rl_M) (a b xa ya xb yb : Nat) : rl_M := rl_su (rl_su (rl_su (rl_su σ 17 a (nI xa)) 18 a (nI ya)) 17 b (nI xb)) 18 b (nI yb)
theorem z_scp {σ : rl_M} {m k a b v x y : Nat} {p : Nat × Nat} (h8 : σ 8 0 = nI m) (hm : m ≤ 11) (hk : k < m) (ha : a < k) (hb : b < k) (h9 : σ 9 k = nI v) (hv : v = 124 ∨ v = 45) (hx : σ 17 k = nI x) (hy : σ 18 k = nI y) (h1 : z_S1 σ a p) :
    rf_Pl_setCornersOfParts (nI k) (nI a) (nI b) σ = some (0, z_c4 σ a b x y (x + z_dx v p.1) (y + z_dy v p.2)) := by
  have f1 : ∀ c, 23 ≤ c → (rl_su (rl_su σ 17 a (nI x)) 18 a (nI y)) c = σ c := fun c hc => by rw [z_su_ce (by omega), z_su_ce (by omega)]
  have f2 : ∀ w, ∀ c, 23 ≤ c → (rl_su (rl_su (rl_su σ 17 a (nI x)) 18 a (nI y)) 17 b w) c = σ c := fun w c hc => by rw [z_su_ce (by omega), z_su_ce (by omega), z_su_ce (by omega)]
  have g1 : (rl_su (rl_su σ 17 a (nI x)) 18 a (nI y)) 8 0 = nI m := by rw [z_su_c (by omega), z_su_c (by omega)]; exact h8
  have g2 : ∀ w, (rl_su (rl_su (rl_su σ 17 a (nI x)) 18 a (nI y)) 17 b w) 8 0 = nI m := fun w => by rw [z_su_c (by omega), z_su_c (by omega), z_su_c (by omega)]; exact h8
  have w1 := z_nw g1 hm (k := a) (by omega) (z_S1_f h1 f1)
  have w2 := fun w => z_nh (g2 w) hm (k := a) (by omega) (z_S1_f h1 (f2 w))
  unfold rf_Pl_setCornersOfParts
  rcases hv with rfl | rfl
  · simp (disch := omega) only [z_has h8 hm, z_sign h8 hm hk, h9, z_lt, z_le, z_eq, z_ltl, z_lel, z_llt, z_lle, z_eql, z_add, z_addl, z_ladd, z_mul, z_mull, z_lmul, z_sub, z_subl, z_cl, z_ib, z_nm, z_m1, z_mlt, if_pos, if_neg, ge_iff_le, gt_iff_lt, ite_true, ite_false, if_true, if_false, Option.bind_some, z_10, eq_self]
    unfold rf_Pl_setCornersOfParts_J52 rf_Pl_setCornersOfParts_J103
    simp (disch := omega) only [hx, hy, w1, z_lt, z_le, z_eq, z_ltl, z_lel, z_llt, z_lle, z_eql, z_add, z_addl, z_ladd, z_mul, z_mull, z_lmul, z_sub, z_subl, z_cl, z_ib, z_nm, z_m1, z_mlt, if_pos, if_neg, ge_iff_le, gt_iff_lt, ite_true, ite_false, if_true, if_false, Option.bind_some, z_10, eq_self, z_su_c, z_su_s, z_su_j, z_c4, z_dx, z_dy, Nat.add_zero]
  · simp (disch := omega) only [z_has h8 hm, z_sign h8 hm hk, h9, z_lt, z_le, z_eq, z_ltl, z_lel, z_llt, z_lle, z_eql, z_add, z_addl, z_ladd, z_mul, z_mull, z_lmul, z_sub, z_subl, z_cl, z_ib, z_nm, z_m1, z_mlt, if_pos, if_neg, ge_iff_le, gt_iff_lt, ite_true, ite_false, if_true, if_false, Option.bind_some, z_10, eq_self]
    unfold rf_Pl_setCornersOfParts_J52 rf_Pl_setCornersOfParts_J103
    simp (disch := omega) only [hx, hy, w2, z_lt, z_le, z_eq, z_ltl, z_lel, z_llt, z_lle, z_eql, z_add, z_addl, z_ladd, z_mul, z_mull, z_lmul, z_sub, z_subl, z_cl, z_ib, z_nm, z_m1, z_mlt, if_pos, if_neg, ge_iff_le, gt_iff_lt, ite_true, ite_false, if_true, if_false, Option.bind_some, z_10, eq_self, z_su_c, z_su_s, z_su_j, z_c4, z_dx, z_dy, Nat.add_zero]
theorem z_sc {g : Nat → Nat} {s : Nat → Nat → Nat × Nat} {c : Nat → Nat} {m : Nat} (hm : m ≤ 11) : ∀ (t : Lean.Data.AC.Expr) (i : Nat) (σ : rl_M) (x y : Nat), z_Or σ g m → z_Tr σ i t → z_Fl g i t → i + z_nd t < m → z_CA g s (fun q j => j = c q) σ i t → σ 17 (i + z_nd t) = nI x → σ 18 (i + z_nd t) = nI y →
    ∃ τ, (∀ f, rf_Pl_setCorners_L38 (f + (z_nd t + 1)) (nI (i + z_nd t)) σ = rf_Pl_setCorners_L38 f (nI i + (-1)) τ) ∧ z_Co (τ 17) (τ 18) g s c i t x y ∧ (∀ e, e ≠ 17 → e ≠ 18 → τ e = σ e) ∧ (∀ j, (j < i ∨ i + z_nd t < j) → τ 17 j = σ 17 j ∧ τ 18 j = σ 18 j) := by
  intro t
  induction t with
  | var r =>
    intro i σ x y ho ht hf hi hc hx hy
    simp only [z_nd, Nat.add_zero, Nat.zero_add] at hi hx hy ⊢
    refine ⟨σ, ?_, ⟨hx, hy⟩, fun _ _ _ => rfl, fun _ _ => ⟨rfl, rfl⟩⟩
    intro f
    have hr6 : r < 6 := hf.2
    conv => lhs; unfold rf_Pl_setCorners_L38
    simp (disch := omega) only [z_ra_r ho.1 hm hi ((ho.2 i hi).trans (congrArg nI hf.1)) hf.2, z_lt, z_le, z_eq, z_ltl, z_lel, z_llt, z_lle, z_eql, z_add, z_addl, z_ladd, z_mul, z_mull, z_lmul, z_sub, z_subl, z_cl, z_ib, z_nm, z_mlt, if_pos, if_neg, ge_iff_le, gt_iff_lt, ite_true, ite_false, if_true, if_false, Option.bind_some, z_10, eq_self]
  | op l r il ir =>
    intro i σ x y ho ht hf hi hc hx hy
    simp only [z_nd] at hi hx hy
    have h1 : z_S1 σ (i + z_nd l) (z_ev g s c i l) := z_sing (z_CA_top hc.1)
    have st := z_scp (k := i + (z_nd l + z_nd r + 2)) (a := i + z_nd l) (b := i + z_nd l + 1 + z_nd r) ho.1 hm hi (by omega) (by omega) (ho.2 _ hi) hf.2.2 hx hy h1
    generalize hτ : z_c4 σ (i + z_nd l) (i + z_nd l + 1 + z_nd r) x y (x + z_dx (g (i + (z_nd l + z_nd r + 2))) (z_ev g s c i l).1) (y + z_dy (g (i + (z_nd l + z_nd r + 2))) (z_ev g s c i l).2) = τ at st
    have f0 : ∀ e, e ≠ 17 → e ≠ 18 → τ e = σ e := fun e h1 h2 => by
      rw [← hτ]; unfold z_c4; rw [z_su_ce h2, z_su_ce h1, z_su_ce h2, z_su_ce h1]
    have fj : ∀ j, j ≠ i + z_nd l → j ≠ i + z_nd l + 1 + z_nd r → τ 17 j = σ 17 j ∧ τ 18 j = σ 18 j := fun j h1 h2 => by
      rw [← hτ]; unfold z_c4
      simp (disch := omega) only [z_su_c, z_su_s, z_su_j]
      exact ⟨trivial, trivial⟩
    have ca : τ 17 (i + z_nd l) = nI x ∧ τ 18 (i + z_nd l) = nI y := by
      rw [← hτ]; unfold z_c4
      simp (disch := omega) only [z_su_c, z_su_s, z_su_j]
      exact ⟨trivial, trivial⟩
    have cb : τ 17 (i + z_nd l + 1 + z_nd r) = nI (x + z_dx (g (i + (z_nd l + z_nd r + 2))) (z_ev g s c i l).1) ∧ τ 18 (i + z_nd l + 1 + z_nd r) = nI (y + z_dy (g (i + (z_nd l + z_nd r + 2))) (z_ev g s c i l).2) := by
      rw [← hτ]; unfold z_c4
      simp (disch := omega) only [z_su_c, z_su_s, z_su_j]
      exact ⟨trivial, trivial⟩
    have l6 : ∀ e, e < 16 → τ e = σ e := fun e he => f0 e (by omega) (by omega)
    obtain ⟨τ2, t1, t2, t3, t4⟩ := ir (i + z_nd l + 1) τ _ _ (z_Or_f l6 ho) (z_Tr_f l6 _ _ ht.2.1) hf.2.1 (by omega) (z_CA_f r _ (fun e h1 h2 => f0 e (by omega) (by omega)) hc.2.1) cb.1 cb.2
    have l62 : ∀ e, e < 16 → τ2 e = σ e := fun e he => (t3 e (by omega) (by omega)).trans (l6 e he)
    have ca2 := t4 (i + z_nd l) (by omega)
    obtain ⟨τ3, u1, u2, u3, u4⟩ := il i τ2 x y (z_Or_f l62 ho) (z_Tr_f l62 _ _ ht.1) hf.1 (by omega) (z_CA_f l _ (fun e h1 h2 => (t3 e (by omega) (by omega)).trans (f0 e (by omega) (by omega))) hc.1) (ca2.1.trans ca.1) (ca2.2.trans ca.2)
    refine ⟨τ3, ?_, ⟨?_, u2, ?_⟩, fun e h1 h2 => (u3 e h1 h2).trans ((t3 e h1 h2).trans (f0 e h1 h2)), ?_⟩
    · intro f
      have e : f + (z_nd (.op l r) + 1) = (f + (z_nd l + 1) + (z_nd r + 1)) + 1 := by simp only [z_nd]; omega
      rw [e]
      conv => lhs; unfold rf_Pl_setCorners_L38
      simp only [z_nd]
      simp (disch := omega) only [z_ra_j ho.1 hm hi (ho.2 _ hi) hf.2.2, z_first ho.1 hm hi, z_second ho.1 hm hi, ht.2.2.1, ht.2.2.2.1, st, z_lt, z_le, z_eq, z_ltl, z_lel, z_llt, z_lle, z_eql, z_add, z_addl, z_ladd, z_mul, z_mull, z_lmul, z_sub, z_subl, z_cl, z_ib, z_nm, z_m1, z_mlt, if_pos, if_neg, ge_iff_le, gt_iff_lt, ite_true, ite_false, if_true, if_false, Option.bind_some, z_10, eq_self]
      have e2 : i + (z_nd l + z_nd r + 2) - 1 = i + z_nd l + 1 + z_nd r := by omega
      rw [e2, t1, z_pm, u1]
    · have a := u4 (i + (z_nd l + z_nd r + 2)) (by omega)
      have b := t4 (i + (z_nd l + z_nd r + 2)) (by omega)
      have d := fj (i + (z_nd l + z_nd r + 2)) (by omega) (by omega)
      exact ⟨a.1.trans (b.1.trans (d.1.trans hx)), a.2.trans (b.2.trans (d.2.trans hy))⟩
    · exact z_Co_f r _ _ _ (fun j h1 h2 => u4 j (by omega)) t2
    · intro j hj
      simp only [z_nd] at hj
      have a := u4 j (by omega)
      have b := t4 j (by omega)
      have d := fj j (by omega) (by omega)
      exact ⟨a.1.trans (b.1.trans d.1), a.2.trans (b.2.trans d.2)⟩
/-- what settle() has left for the choice c -/
def z_Dn (σ : rl_M) (g : Nat → Nat) (s : Nat → Nat → Nat × Nat) (t : Lean.Data.AC.Expr) (c : Nat → Nat) : Prop :=
  z_CA g s (fun q j => j = c q) σ 0 t ∧ (∀ r ∈ z_rm t, ∀ k, k ≤ z_nd t → g k = 48 + r → σ 16 k = nI (c r)) ∧ z_Co (σ 17) (σ 18) g s c 0 t 0 0
theorem z_hb1 {σ : rl_M} {i : Nat} (h : σ 3 8 = nI i) (hi : i < 24) : rf_Pl_hasBest σ = some (1, σ) := by
  unfold rf_Pl_hasBest
  rw [h]
  simp (disch := omega) only [z_lt, z_le, z_eq, z_ltl, z_lel, z_llt, z_lle, z_eql, z_add, z_addl, z_ladd, z_mul, z_mull, z_lmul, z_sub, z_subl, z_cl, z_ib, z_nm, z_m1, z_mlt, if_pos, if_neg, ge_iff_le, gt_iff_lt, ite_true, ite_false, if_true, if_false, Option.bind_some, z_10, eq_self]
theorem z_hb0 {σ : rl_M} (h : σ 3 8 = -1) : rf_Pl_hasBest σ = some (0, σ) := by
  unfold rf_Pl_hasBest
  rw [h, if_pos rfl]
theorem z_settle {g : Nat → Nat} {s : Nat → Nat → Nat × Nat} {n : Nat → Nat} {t : Lean.Data.AC.Expr} {N W H : Nat} {c : Nat → Nat} {σ : rl_M} (h4 : σ 3 4 = 1) (h5 : σ 3 5 = 0) (hC : z_Ct σ g s n t N) (hk : z_Rk n s t) (hB : z_Best g s n t W H c) (bW : W ≤ 400) (bH : H ≤ 400) (hM : z_Ms σ (z_Pf g s n t W H)) (hc : z_CA g s (fun q j => j < n q) σ 0 t) :
    ∃ τ, rf_Pl_settle σ = some (0, τ) ∧ z_Dn τ g s t c ∧ z_Ms τ (z_Pf g s n t W H) ∧ τ 3 4 = 1 ∧ τ 3 5 = 1 ∧ z_FC σ τ := by
  obtain ⟨⟨i, b1, b2⟩, -, -⟩ := z_bob hk hB hM
  obtain ⟨τ, t1, t2, t3, t4⟩ := z_set21 hk hB bW bH N 0 σ (by omega) hC hM (z_CA_D t 0 (fun q hq i => by simp only [z_Dk]; exact ⟨fun h => ⟨h, fun h2 => by omega⟩, fun h => h.1⟩) hc) (fun r hr => by omega)
  obtain ⟨h1, h2, h3, h4', h5', h6, h7, h8, h9, h10⟩ := hC
  have l6 : ∀ e, e < 16 → τ e = σ e := fun e he => t4 e (by omega) (by omega)
  have hca : z_CA g s (fun q j => j = c q) τ 0 t := z_CA_D t 0 (fun q hq i => by
    simp only [z_Dk]
    have := z_Ch_lt hk hB.1 q hq
    exact ⟨fun h => h.2 (h10 q hq), fun h => ⟨by omega, fun _ => h⟩⟩) t2
  have f0 : ∀ e, e ≠ 17 → e ≠ 18 → (rl_su (rl_su τ 17 (z_nd t) 0) 18 (z_nd t) 0) e = τ e := fun e h1 h2 => by rw [z_su_ce h2, z_su_ce h1]
  have l62 : ∀ e, e < 16 → (rl_su (rl_su τ 17 (z_nd t) 0) 18 (z_nd t) 0) e = σ e := fun e he => (f0 e (by omega) (by omega)).trans (l6 e he)
  obtain ⟨υ, u1, u2, u3, u4⟩ := z_sc (c := c) h1 t 0 (rl_su (rl_su τ 17 (z_nd t) 0) 18 (z_nd t) 0) 0 0 (z_Or_f l62 h2) (z_Tr_f l62 _ _ h4') h6 (by omega) (z_CA_f t 0 (fun e h1 h2 => f0 e (by omega) (by omega)) hca) (by rw [Nat.zero_add, z_su_c (by omega), z_su_s]; rfl) (by rw [Nat.zero_add, z_su_s]; rfl)
  have fu : ∀ e, e ≠ 17 → e ≠ 18 → υ e = τ e := fun e h1 h2 => (u3 e h1 h2).trans (f0 e h1 h2)
  have ho2 := z_Or_f l6 h2
  have hh := z_has ho2.1 h1 (k := z_nd t) (by omega)
  refine ⟨rl_su υ 3 5 1, ?_, ⟨?_, ?_, ?_⟩, ?_, ?_, ?_, ?_, ?_⟩
  · unfold rf_Pl_settle
    rw [z_ms1 h4]
    simp only [Option.bind_some, h5, if_true, z_hb1 b1 b2, z_10, if_false]
    refine (t1 _ 10000 (by omega)).trans ?_
    have sc : rf_Pl_setCorners τ = some (0, υ) := by
      unfold rf_Pl_setCorners
      simp (disch := omega) only [ho2.1, z_lt, z_le, z_eq, z_ltl, z_lel, z_llt, z_lle, z_eql, z_add, z_addl, z_ladd, z_mul, z_mull, z_lmul, z_sub, z_subl, z_cl, z_ib, z_nm, z_m1, z_mlt, if_pos, if_neg, ge_iff_le, gt_iff_lt, ite_true, ite_false, if_true, if_false, Option.bind_some, z_10, eq_self, Nat.add_sub_cancel, hh]
      obtain ⟨f, hf⟩ : ∃ f, 10000 = (f + 1) + (z_nd t + 1) := ⟨9998 - z_nd t, by omega⟩
      have e := u1 (f + 1)
      rw [← hf, Nat.zero_add] at e
      rw [e, show nI 0 + (-1) = (-1 : Int32) from z_0m1]
      unfold rf_Pl_setCorners_L38
      simp only [z_mlt, if_true]
    simp only [sc, Option.bind_some]
  · exact z_CA_f t 0 (fun e h1 h2 => by rw [z_su_ce (by omega)]; exact fu e (by omega) (by omega)) hca
  · intro r hr k hkt hg
    rw [z_su_c (by omega), fu 16 (by omega) (by omega)]
    exact t3 r (h10 r hr) hr k hkt hg
  · rw [z_su_ce (by omega), z_su_ce (by omega)]
    exact u2
  · obtain ⟨F, y, m1, m2, m3, m4⟩ := hM
    have fz : ∀ e, 56 ≤ e → e < 59 → (rl_su υ 3 5 1) e = σ e := fun e h1 h2 => by rw [z_su_ce (by omega), fu e (by omega) (by omega), t4 e (by omega) (by omega)]
    refine ⟨F, y, z_Cv_c m1 (fz _ (by omega) (by omega)) (fz _ (by omega) (by omega)) (fz _ (by omega) (by omega)), m2, m3, ?_⟩
    rw [z_su_j (by omega), fu 3 (by omega) (by omega), t4 3 (by omega) (by omega)]
    exact m4
  · rw [z_su_j (by omega), fu 3 (by omega) (by omega), t4 3 (by omega) (by omega)]; exact h4
  · rw [z_su_s]
  · intro e he
    rw [z_su_ce (by omega), fu e (by omega) (by omega), t4 e (by omega) (by omega)]
  · intro j j4 j5 j8
    rw [z_su_j (by omega), fu 3 (by omega) (by omega), t4 3 (by omega) (by omega)]
