def z_c5 (σ : rl_M) (a b xa ya xb yb : Nat) : rl_M := rl_su (rl_su (rl_su (rl_su σ 71 a (nI xa)) 72 a (nI ya)) 71 b (nI xb)) 72 b (nI yb)
theorem z_fcs {σ : rl_M} {k a b v x y : Nat} {p : Nat × Nat} (RC : Int32 → rl_M → Option (Int32 × rl_M)) (hk : k < 11) (ha : a < k) (hb : b < k) (h63 : σ 63 k = nI v) (hv : v = 124 ∨ v = 45) (h73 : σ 73 k = nI a) (h74 : σ 74 k = nI b) (hx : σ 71 k = nI x) (hy : σ 72 k = nI y) (hw : σ 69 a = nI p.1) (hh : σ 70 a = nI p.2) :
    rf_Mo_findCorners_J57 (nI k) RC σ = RC (nI (k - 1)) (z_c5 σ a b x y (x + z_dx v p.1) (y + z_dy v p.2)) := by
  unfold rf_Mo_findCorners_J57 rf_Mo_findCorners_J127
  rcases hv with rfl | rfl
  · simp (disch := omega) only [h63, h73, h74, hx, hy, hw, hh, z_lt, z_le, z_eq, z_ltl, z_lel, z_llt, z_lle, z_eql, z_add, z_addl, z_ladd, z_mul, z_mull, z_lmul, z_sub, z_subl, z_cl, z_ib, z_nm, z_m1, z_mlt, if_pos, if_neg, ge_iff_le, gt_iff_lt, ite_true, ite_false, if_true, if_false, Option.bind_some, z_10, eq_self, z_su_c, z_su_s, z_su_j, z_c5, z_dx, z_dy, Nat.add_zero]
  · have e5 : ¬ (45 = 124) := by omega
    simp (disch := omega) only [h63, h73, h74, hx, hy, hw, hh, z_lt, z_le, z_eq, z_ltl, z_lel, z_llt, z_lle, z_eql, z_add, z_addl, z_ladd, z_mul, z_mull, z_lmul, z_sub, z_subl, z_cl, z_ib, z_nm, z_m1, z_mlt, if_pos, if_neg, ge_iff_le, gt_iff_lt, ite_true, ite_false, if_true, if_false, Option.bind_some, z_10, eq_self, z_su_c, z_su_s, z_su_j, z_c5, z_dx, z_dy, Nat.add_zero, e5]
theorem z_fc {g : Nat → Nat} {s : Nat → Nat → Nat × Nat} {c : Nat → Nat} {m : Nat} (hm : m ≤ 11) : ∀ (t : Lean.Data.AC.Expr) (i : Nat) (σ : rl_M) (x y : Nat), z_Mo σ g m → z_Fl g i t → i + z_nd t < m → z_La σ g s c i t → σ 71 (i + z_nd t) = nI x → σ 72 (i + z_nd t) = nI y →
    ∃ τ, (∀ f, rf_Mo_findCorners_L31 (f + (z_nd t + 1)) (nI (i + z_nd t)) σ = rf_Mo_findCorners_L31 f (nI i + (-1)) τ) ∧ z_Co (τ 71) (τ 72) g s c i t x y ∧ (∀ e, e ≠ 71 → e ≠ 72 → τ e = σ e) ∧ (∀ j, (j < i ∨ i + z_nd t < j) → τ 71 j = σ 71 j ∧ τ 72 j = σ 72 j) := by
  intro t
  induction t with
  | var r =>
    intro i σ x y ho hf hi hc hx hy
    simp only [z_nd, Nat.add_zero, Nat.zero_add] at hi hx hy ⊢
    refine ⟨σ, ?_, ⟨hx, hy⟩, fun _ _ _ => rfl, fun _ _ => ⟨rfl, rfl⟩⟩
    intro f
    have hr : r < 6 := hf.2
    have e63 : σ 63 i = nI (48 + r) := ((ho.2 i hi).1).trans (congrArg nI hf.1)
    conv => lhs; unfold rf_Mo_findCorners_L31
    simp (disch := omega) only [e63, z_lt, z_le, z_eq, z_ltl, z_lel, z_llt, z_lle, z_eql, z_add, z_addl, z_ladd, z_mul, z_mull, z_lmul, z_sub, z_subl, z_cl, z_ib, z_nm, z_mlt, if_pos, if_neg, ge_iff_le, gt_iff_lt, ite_true, ite_false, if_true, if_false, Option.bind_some, z_10, eq_self]
  | op l r il ir =>
    intro i σ x y ho hf hi hc hx hy
    simp only [z_nd] at hi hx hy
    have h1 := z_La_top hc.1
    have e63 := (ho.2 _ hi).1
    have hv := hf.2.2
    have st := fun RC => z_fcs (k := i + (z_nd l + z_nd r + 2)) (a := i + z_nd l) (b := i + z_nd l + 1 + z_nd r) (p := z_ev g s c i l) RC (by omega) (by omega) (by omega) e63 hv hc.2.2.2.1 hc.2.2.2.2 hx hy h1.1 h1.2
    generalize hτ : z_c5 σ (i + z_nd l) (i + z_nd l + 1 + z_nd r) x y (x + z_dx (g (i + (z_nd l + z_nd r + 2))) (z_ev g s c i l).1) (y + z_dy (g (i + (z_nd l + z_nd r + 2))) (z_ev g s c i l).2) = τ at st
    have f0 : ∀ e, e ≠ 71 → e ≠ 72 → τ e = σ e := fun e h1 h2 => by
      rw [← hτ]; unfold z_c5; rw [z_su_ce h2, z_su_ce h1, z_su_ce h2, z_su_ce h1]
    have fj : ∀ j, j ≠ i + z_nd l → j ≠ i + z_nd l + 1 + z_nd r → τ 71 j = σ 71 j ∧ τ 72 j = σ 72 j := fun j h1 h2 => by
      rw [← hτ]; unfold z_c5
      simp (disch := omega) only [z_su_c, z_su_s, z_su_j]
      exact ⟨trivial, trivial⟩
    have ca : τ 71 (i + z_nd l) = nI x ∧ τ 72 (i + z_nd l) = nI y := by
      rw [← hτ]; unfold z_c5
      simp (disch := omega) only [z_su_c, z_su_s, z_su_j]
      exact ⟨trivial, trivial⟩
    have cb : τ 71 (i + z_nd l + 1 + z_nd r) = nI (x + z_dx (g (i + (z_nd l + z_nd r + 2))) (z_ev g s c i l).1) ∧ τ 72 (i + z_nd l + 1 + z_nd r) = nI (y + z_dy (g (i + (z_nd l + z_nd r + 2))) (z_ev g s c i l).2) := by
      rw [← hτ]; unfold z_c5
      simp (disch := omega) only [z_su_c, z_su_s, z_su_j]
      exact ⟨trivial, trivial⟩
    have mo : ∀ υ : rl_M, (∀ e, e ≠ 71 → e ≠ 72 → υ e = σ e) → z_Mo υ g m := fun υ h => by
      unfold z_Mo at *; rw [h 59 (by omega) (by omega), h 63 (by omega) (by omega)]; exact ho
    have la : ∀ υ : rl_M, (∀ e, e ≠ 71 → e ≠ 72 → υ e = σ e) → ∀ (u : Lean.Data.AC.Expr) (j : Nat), z_La σ g s c j u → z_La υ g s c j u := fun υ h u j hu =>
      z_La_f u j (fun x _ _ => by rw [h 69 (by omega) (by omega), h 70 (by omega) (by omega), h 73 (by omega) (by omega), h 74 (by omega) (by omega)]; exact ⟨rfl, rfl, rfl, rfl⟩) hu
    obtain ⟨τ2, t1, t2, t3, t4⟩ := ir (i + z_nd l + 1) τ _ _ (mo τ f0) hf.2.1 (by omega) (la τ f0 r _ hc.2.1) cb.1 cb.2
    have f2 : ∀ e, e ≠ 71 → e ≠ 72 → τ2 e = σ e := fun e h1 h2 => (t3 e h1 h2).trans (f0 e h1 h2)
    have ca2 := t4 (i + z_nd l) (by omega)
    obtain ⟨τ3, u1, u2, u3, u4⟩ := il i τ2 x y (mo τ2 f2) hf.1 (by omega) (la τ2 f2 l _ hc.1) (ca2.1.trans ca.1) (ca2.2.trans ca.2)
    refine ⟨τ3, ?_, ⟨?_, u2, ?_⟩, fun e h1 h2 => (u3 e h1 h2).trans (f2 e h1 h2), ?_⟩
    · intro f
      have e : f + (z_nd (.op l r) + 1) = (f + (z_nd l + 1) + (z_nd r + 1)) + 1 := by simp only [z_nd]; omega
      rw [e]
      conv => lhs; unfold rf_Mo_findCorners_L31
      simp only [z_nd]
      have e2 : i + (z_nd l + z_nd r + 2) - 1 = i + z_nd l + 1 + z_nd r := by omega
      rcases hv with hv | hv
      · rw [hv] at e63
        simp (disch := omega) only [e63, st, z_lt, z_le, z_eq, z_ltl, z_lel, z_llt, z_lle, z_eql, z_add, z_addl, z_ladd, z_mul, z_mull, z_lmul, z_sub, z_subl, z_cl, z_ib, z_nm, z_m1, z_mlt, if_pos, if_neg, ge_iff_le, gt_iff_lt, ite_true, ite_false, if_true, if_false, Option.bind_some, z_10, eq_self]
        rw [e2, t1, z_pm, u1]
      · rw [hv] at e63
        simp (disch := omega) only [e63, st, z_lt, z_le, z_eq, z_ltl, z_lel, z_llt, z_lle, z_eql, z_add, z_addl, z_ladd, z_mul, z_mull, z_lmul, z_sub, z_subl, z_cl, z_ib, z_nm, z_m1, z_mlt, if_pos, if_neg, ge_iff_le, gt_iff_lt, ite_true, ite_false, if_true, if_false, Option.bind_some, z_10, eq_self]
        rw [e2, t1, z_pm, u1]
    · have a := u4 (i + (z_nd l + z_nd r + 2)) (by omega)
      have b := t4 (i + (z_nd l + z_nd r + 2)) (by omega)
      have d := fj (i + (z_nd l + z_nd r + 2)) (by omega) (by omega)
      exact ⟨a.1.trans (b.1.trans (d.1.trans hx)), a.2.trans (b.2.trans (d.2.trans hy))⟩
    · exact z_Co_f r _ _ _ (fun j h1 h2 => u4 j (by omega)) t2
    · intro j hj
      simp only [z_nd] at hj
      have a := u4 j (by omega)
      have b := t4 j (by omega)
      have d := fj j (by omega) (by omega)
      exact ⟨a.1.trans (b.1.trans d.1), a.2.trans (b.2.trans d.2)⟩
theorem z_corn {g : Nat → Nat} {s : Nat → Nat → Nat × Nat} {c : Nat → Nat} {t : Lean.Data.AC.Expr} {σ : rl_M} (hm : z_nd t + 1 ≤ 11) (ho : z_Mo σ g (z_nd t + 1)) (hf : z_Fl g 0 t) (hl : z_La σ g s c 0 t) :
    ∃ τ, rf_Mo_findCorners σ = some (0, τ) ∧ z_Co (τ 71) (τ 72) g s c 0 t 0 0 ∧ (∀ e, e ≠ 71 → e ≠ 72 → τ e = σ e) := by
  have f0 : ∀ e, e ≠ 71 → e ≠ 72 → (rl_su (rl_su σ 71 (z_nd t) 0) 72 (z_nd t) 0) e = σ e := fun e h1 h2 => by rw [z_su_ce h2, z_su_ce h1]
  obtain ⟨τ, t1, t2, t3, t4⟩ := z_fc (c := c) (s := s) hm t 0 (rl_su (rl_su σ 71 (z_nd t) 0) 72 (z_nd t) 0) 0 0 (by unfold z_Mo at *; rw [f0 59 (by omega) (by omega), f0 63 (by omega) (by omega)]; exact ho) hf (by omega) (z_La_f t 0 (fun x _ _ => by rw [f0 69 (by omega) (by omega), f0 70 (by omega) (by omega), f0 73 (by omega) (by omega), f0 74 (by omega) (by omega)]; exact ⟨rfl, rfl, rfl, rfl⟩) hl) (by rw [Nat.zero_add, z_su_c (by omega), z_su_s]; rfl) (by rw [Nat.zero_add, z_su_s]; rfl)
  refine ⟨τ, ?_, t2, fun e h1 h2 => (t3 e h1 h2).trans (f0 e h1 h2)⟩
  unfold rf_Mo_findCorners
  simp (disch := omega) only [ho.1, z_lt, z_le, z_eq, z_ltl, z_lel, z_llt, z_lle, z_eql, z_add, z_addl, z_ladd, z_mul, z_mull, z_lmul, z_sub, z_subl, z_cl, z_ib, z_nm, z_m1, z_mlt, if_pos, if_neg, ge_iff_le, gt_iff_lt, ite_true, ite_false, if_true, if_false, Option.bind_some, z_10, eq_self, z_su_c, z_su_s, z_su_j, Nat.add_sub_cancel]
  obtain ⟨f, hf⟩ : ∃ f, 10000 = (f + 1) + (z_nd t + 1) := ⟨9998 - z_nd t, by omega⟩
  have e := t1 (f + 1)
  rw [← hf, Nat.zero_add] at e
  rw [e, show nI 0 + (-1) = (-1 : Int32) from z_0m1]
  unfold rf_Mo_findCorners_L31
  simp only [z_mlt, if_true]
theorem z_cp68 : ∀ (d x : Nat) (σ : rl_M), x + d = 6 → ∃ τ, (∀ (K : rl_M → Option (Int32 × rl_M)) (f : Nat), d < f → rf_Mo_findBest_L136 K f (nI x) σ = K τ) ∧ (∀ q, q < 6 → τ 68 q = if x ≤ q then σ 67 q else σ 68 q) ∧ (∀ e, e ≠ 68 → τ e = σ e) := by
  intro d
  induction d with
  | zero =>
    intro x σ hx
    refine ⟨σ, ?_, fun q hq => by rw [if_neg (by omega)], fun _ _ => rfl⟩
    intro K f hf
    obtain ⟨f, rfl⟩ : ∃ g, f = g + 1 := ⟨f - 1, by omega⟩
    unfold rf_Mo_findBest_L136
    simp (disch := omega) only [z_lt, z_le, z_eq, z_ltl, z_lel, z_llt, z_lle, z_eql, z_add, z_addl, z_ladd, z_mul, z_mull, z_lmul, z_sub, z_subl, z_cl, z_ib, z_nm, z_m1, z_mlt, if_pos, if_neg, ge_iff_le, gt_iff_lt, ite_true, ite_false, if_true, if_false, Option.bind_some, z_10, eq_self]
  | succ d ih =>
    intro x σ hx
    obtain ⟨τ, t1, t2, t3⟩ := ih (x + 1) (rl_su σ 68 x (σ 67 x)) (by omega)
    refine ⟨τ, ?_, ?_, fun e he => (t3 e he).trans (z_su_ce he)⟩
    · intro K f hf
      obtain ⟨f, rfl⟩ : ∃ g, f = g + 1 := ⟨f - 1, by omega⟩
      have u := t1 K f (by omega)
      unfold rf_Mo_findBest_L136
      simp (disch := omega) only [z_lt, z_le, z_eq, z_ltl, z_lel, z_llt, z_lle, z_eql, z_add, z_addl, z_ladd, z_mul, z_mull, z_lmul, z_sub, z_subl, z_cl, z_ib, z_nm, z_m1, z_mlt, if_pos, if_neg, ge_iff_le, gt_iff_lt, ite_true, ite_false, if_true, if_false, Option.bind_some, z_10, eq_self, u]
    · intro q hq
      rw [t2 q hq]
      by_cases c1 : x + 1 ≤ q
      · rw [if_pos c1, if_pos (by omega), z_su_c (by omega)]
      · rw [if_neg c1]
        by_cases c2 : x ≤ q
        · have e : q = x := by omega
          subst e
          rw [if_pos (by omega), z_su_s]
        · rw [if_neg c2, z_su_j (by omega)]
theorem z_cp67 : ∀ (d x : Nat) (σ : rl_M), x + d = 6 → ∃ τ, (∀ (K : rl_M → Option (Int32 × rl_M)) (f : Nat), d < f → rf_Mo_findBest_L180 K f (nI x) σ = K τ) ∧ (∀ q, q < 6 → τ 67 q = if x ≤ q then σ 68 q else σ 67 q) ∧ (∀ e, e ≠ 67 → τ e = σ e) := by
  intro d
  induction d with
  | zero =>
    intro x σ hx
    refine ⟨σ, ?_, fun q hq => by rw [if_neg (by omega)], fun _ _ => rfl⟩
    intro K f hf
    obtain ⟨f, rfl⟩ : ∃ g, f = g + 1 := ⟨f - 1, by omega⟩
    unfold rf_Mo_findBest_L180
    simp (disch := omega) only [z_lt, z_le, z_eq, z_ltl, z_lel, z_llt, z_lle, z_eql, z_add, z_addl, z_ladd, z_mul, z_mull, z_lmul, z_sub, z_subl, z_cl, z_ib, z_nm, z_m1, z_mlt, if_pos, if_neg, ge_iff_le, gt_iff_lt, ite_true, ite_false, if_true, if_false, Option.bind_some, z_10, eq_self]
  | succ d ih =>
    intro x σ hx
    obtain ⟨τ, t1, t2, t3⟩ := ih (x + 1) (rl_su σ 67 x (σ 68 x)) (by omega)
    refine ⟨τ, ?_, ?_, fun e he => (t3 e he).trans (z_su_ce he)⟩
    · intro K f hf
      obtain ⟨f, rfl⟩ : ∃ g, f = g + 1 := ⟨f - 1, by omega⟩
      have u := t1 K f (by omega)
      unfold rf_Mo_findBest_L180
      simp (disch := omega) only [z_lt, z_le, z_eq, z_ltl, z_lel, z_llt, z_lle, z_eql, z_add, z_addl, z_ladd, z_mul, z_mull, z_lmul, z_sub, z_subl, z_cl, z_ib, z_nm, z_m1, z_mlt, if_pos, if_neg, ge_iff_le, gt_iff_lt, ite_true, ite_false, if_true, if_false, Option.bind_some, z_10, eq_self, u]
    · intro q hq
      rw [t2 q hq]
      by_cases c1 : x + 1 ≤ q
      · rw [if_pos c1, if_pos (by omega), z_su_c (by omega)]
      · rw [if_neg c1]
        by_cases c2 : x ≤ q
        · have e : q = x := by omega
          subst e
          rw [if_pos (by omega), z_su_s]
        · rw [if_neg c2, z_su_j (by omega)]
theorem z_fch : ∀ (d x : Nat) (σ : rl_M) (f : Nat), x + d = 6 → d < f → ∃ τ, rf_Mo_firstChoice_L2 f (nI x) σ = some (0, τ) ∧ (∀ q, q < 6 → τ 67 q = if x ≤ q then 0 else σ 67 q) ∧ (∀ e, e ≠ 67 → τ e = σ e) := by
  intro d
  induction d with
  | zero =>
    intro x σ f hx hf
    refine ⟨σ, ?_, fun q hq => by rw [if_neg (by omega)], fun _ _ => rfl⟩
    obtain ⟨f, rfl⟩ : ∃ g, f = g + 1 := ⟨f - 1, by omega⟩
    unfold rf_Mo_firstChoice_L2
    simp (disch := omega) only [z_lt, z_le, z_eq, z_ltl, z_lel, z_llt, z_lle, z_eql, z_add, z_addl, z_ladd, z_mul, z_mull, z_lmul, z_sub, z_subl, z_cl, z_ib, z_nm, z_m1, z_mlt, if_pos, if_neg, ge_iff_le, gt_iff_lt, ite_true, ite_false, if_true, if_false, Option.bind_some, z_10, eq_self]
  | succ d ih =>
    intro x σ f hx hf
    obtain ⟨f, rfl⟩ : ∃ g, f = g + 1 := ⟨f - 1, by omega⟩
    obtain ⟨τ, t1, t2, t3⟩ := ih (x + 1) (rl_su σ 67 x 0) f (by omega) (by omega)
    refine ⟨τ, ?_, ?_, fun e he => (t3 e he).trans (z_su_ce he)⟩
    · unfold rf_Mo_firstChoice_L2
      simp (disch := omega) only [z_lt, z_le, z_eq, z_ltl, z_lel, z_llt, z_lle, z_eql, z_add, z_addl, z_ladd, z_mul, z_mull, z_lmul, z_sub, z_subl, z_cl, z_ib, z_nm, z_m1, z_mlt, if_pos, if_neg, ge_iff_le, gt_iff_lt, ite_true, ite_false, if_true, if_false, Option.bind_some, z_10, eq_self, t1]
    · intro q hq
      rw [t2 q hq]
      by_cases c1 : x + 1 ≤ q
      · rw [if_pos c1, if_pos (by omega)]
      · rw [if_neg c1]
        by_cases c2 : x ≤ q
        · have e : q = x := by omega
          subst e
          rw [if_pos (by omega), z_su_s]
        · rw [if_neg c2, z_su_j (by omega)]
/-- the reference's cells of an order -/
def z_Rc (σ : rl_M) (g : Nat → Nat) (s : Nat → Nat → Nat × Nat) (n : Nat → Nat) (t : Lean.Data.AC.Expr) (W H : Nat) : Prop :=
  z_nd t + 1 ≤ 11 ∧ z_Mo σ g (z_nd t + 1) ∧ z_Sq σ n s ∧ z_Fl g 0 t ∧ σ 59 5 = nI W ∧ σ 59 6 = nI H ∧ W ≤ 400 ∧ H ≤ 400
def z_FM (σ τ : rl_M) : Prop := (∀ e, e < 59 ∨ (60 ≤ e ∧ e ≤ 66) ∨ 77 ≤ e → τ e = σ e) ∧ ∀ j, j ≠ 15 → j ≠ 16 → j ≠ 17 → τ 59 j = σ 59 j
theorem z_FM.tr {σ τ υ : rl_M} (h : z_FM σ τ) (h2 : z_FM τ υ) : z_FM σ υ := ⟨fun e he => (h2.1 e he).trans (h.1 e he), fun j a b c => (h2.2 j a b c).trans (h.2 j a b c)⟩
theorem z_FM.rf {σ : rl_M} : z_FM σ σ := ⟨fun _ _ => rfl, fun _ _ _ _ => rfl⟩
theorem z_Rc_f {σ τ : rl_M} {g : Nat → Nat} {s : Nat → Nat → Nat × Nat} {n : Nat → Nat} {t : Lean.Data.AC.Expr} {W H : Nat} (e : z_FM σ τ) (h : z_Rc σ g s n t W H) : z_Rc τ g s n t W H := by
  obtain ⟨h1, h2, h3, h4, h5, h6, h7⟩ := h
  refine ⟨h1, ?_, ?_, h4, ?_, ?_, h7⟩
  · unfold z_Mo at *; rw [e.2 7 (by omega) (by omega) (by omega), e.1 63 (by omega)]; exact h2
  · unfold z_Sq at *; rw [e.1 60 (by omega), e.1 61 (by omega), e.1 62 (by omega)]; exact h3
  · rw [e.2 5 (by omega) (by omega) (by omega)]; exact h5
  · rw [e.2 6 (by omega) (by omega) (by omega)]; exact h6
theorem z_nx {g : Nat → Nat} {s : Nat → Nat → Nat × Nat} {n : Nat → Nat} {t : Lean.Data.AC.Expr} {W H : Nat} (hk : z_Rk n s t) : ∀ (k : Nat) (σ : rl_M) (c : Nat → Nat), k ≤ 6 → z_Rc σ g s n t W H → (∀ q, q < 6 → σ 67 q = nI (c q)) → z_Ch n t c → (∀ q, k ≤ q → q < 6 → c q = 0) →
    (∃ (τ : rl_M) (c' : Nat → Nat) (r : Nat), r < k ∧ (∀ f, k < f → rf_Mo_nextChoice_L2 f (nI k + (-1)) σ = some (1, τ)) ∧ (∀ q, q < 6 → τ 67 q = nI (c' q)) ∧ c' r = c r + 1 ∧ c r + 1 ≤ z_u n t r ∧ (∀ q, q < r → c' q = c q) ∧ (∀ q, r < q → q < 6 → c' q = 0) ∧ (∀ q, r < q → q < k → c q = z_u n t q) ∧ ∀ e, e ≠ 67 → τ e = σ e) ∨
    (∃ τ, (∀ f, k < f → rf_Mo_nextChoice_L2 f (nI k + (-1)) σ = some (0, τ)) ∧ (∀ q, q < k → c q = z_u n t q) ∧ ∀ e, e ≠ 67 → τ e = σ e) := by
  intro k
  induction k with
  | zero =>
    intro σ c hk6 hC h67 hc h0
    right
    refine ⟨σ, ?_, fun q hq => by omega, fun _ _ => rfl⟩
    intro f hf
    obtain ⟨f, rfl⟩ : ∃ g, f = g + 1 := ⟨f - 1, by omega⟩
    unfold rf_Mo_nextChoice_L2
    simp only [z_0m1, z_mlt, if_true]
  | succ k ih =>
    intro σ c hk6 hC h67 hc h0
    have hC' := hC
    obtain ⟨h1, h2, h3, h4, h5, h6, h7⟩ := hC'
    have e67 := h67 k (by omega)
    have e60 := (h3 k (by omega)).1
    have hn4 := (h3 k (by omega)).2.1
    have hck := hc k (by omega)
    have hu3 := z_u3 hk (show k < 6 by omega)
    rcases z_place h1 (show k < 6 by omega) h2 h4 hk.1 with ⟨a1, kk, a2, a3, a4⟩ | ⟨a1, a2⟩
    · have huk : z_u n t k = n k - 1 := by unfold z_u; rw [if_pos a1]
      have hn1 := (hk.2.1 k a1).2.1
      by_cases q : c k + 1 < n k
      · left
        refine ⟨rl_su σ 67 k (nI (c k + 1)), fun q => if q = k then c k + 1 else c q, k, by omega, ?_, ?_, by simp, by omega, fun q hq => if_neg (by omega), ?_, fun q h1 h2 => by omega, fun e he => z_su_ce he⟩
        · intro f hf
          obtain ⟨f, rfl⟩ : ∃ g, f = g + 1 := ⟨f - 1, by omega⟩
          unfold rf_Mo_nextChoice_L2
          simp (disch := omega) only [z_pm, a4, e67, e60, z_lt, z_le, z_eq, z_ltl, z_lel, z_llt, z_lle, z_eql, z_add, z_addl, z_ladd, z_mul, z_mull, z_lmul, z_sub, z_subl, z_cl, z_ib, z_nm, z_mlt, if_pos, if_neg, ge_iff_le, gt_iff_lt, ite_true, ite_false, if_true, if_false, Option.bind_some, z_su_c, z_su_s, z_su_j]
        · intro q hq
          by_cases e : q = k
          · subst e; rw [z_su_s]; simp
          · rw [z_su_j e]; simp only [if_neg e]; exact h67 q hq
        · intro q h1 h2
          simp only [if_neg (show ¬ q = k by omega)]
          exact h0 q (by omega) h2
      · have hkz : c k = z_u n t k := by omega
        have hrec := ih (rl_su (rl_su σ 67 k (nI (c k + 1))) 67 k 0) (fun q => if q = k then 0 else c q) (by omega) (z_Rc_f ⟨fun e he => by rw [z_su_ce (by omega), z_su_ce (by omega)], fun j _ _ _ => by rw [z_su_c (by omega), z_su_c (by omega)]⟩ hC) (by
          intro q hq
          by_cases e : q = k
          · subst e; rw [z_su_s]; simp only [if_true]; rfl
          · rw [z_su_j e, z_su_j e]; simp only [if_neg e]; exact h67 q hq) (by
          intro q hq
          by_cases e : q = k
          · simp only [if_pos e]; omega
          · simp only [if_neg e]; exact hc q hq) (by
          intro q h1 h2
          by_cases e : q = k
          · simp only [if_pos e]
          · simp only [if_neg e]; exact h0 q (by omega) h2)
        have stp : ∀ f, rf_Mo_nextChoice_L2 (f + 1) (nI (k + 1) + (-1)) σ = rf_Mo_nextChoice_L2 f (nI k + (-1)) (rl_su (rl_su σ 67 k (nI (c k + 1))) 67 k 0) := by
          intro f
          conv => lhs; unfold rf_Mo_nextChoice_L2
          simp (disch := omega) only [z_pm, a4, e67, e60, z_lt, z_le, z_eq, z_ltl, z_lel, z_llt, z_lle, z_eql, z_add, z_addl, z_ladd, z_mul, z_mull, z_lmul, z_sub, z_subl, z_cl, z_ib, z_nm, z_mlt, if_pos, if_neg, ge_iff_le, gt_iff_lt, ite_true, ite_false, if_true, if_false, Option.bind_some, z_su_c, z_su_s, z_su_j]
        rcases hrec with ⟨τ, c', r, b1, b2, b3, b4, b5, b6, b7, b8, b9⟩ | ⟨τ, b1, b2, b3⟩
        · left
          refine ⟨τ, c', r, by omega, ?_, b3, ?_, ?_, ?_, b7, ?_, fun e he => by rw [b9 e he, z_su_ce he, z_su_ce he]⟩
          · intro f hf
            obtain ⟨f, rfl⟩ : ∃ g, f = g + 1 := ⟨f - 1, by omega⟩
            rw [stp f, b2 f (by omega)]
          · simpa only [if_neg (show ¬ r = k by omega)] using b4
          · simpa only [if_neg (show ¬ r = k by omega)] using b5
          · intro q hq
            have := b6 q hq
            simpa only [if_neg (show ¬ q = k by omega)] using this
          · intro q q1 q2
            by_cases e : q = k
            · subst e; exact hkz
            · have := b8 q q1 (by omega)
              simpa only [if_neg e] using this
        · right
          refine ⟨τ, ?_, ?_, fun e he => by rw [b3 e he, z_su_ce he, z_su_ce he]⟩
          · intro f hf
            obtain ⟨f, rfl⟩ : ∃ g, f = g + 1 := ⟨f - 1, by omega⟩
            rw [stp f, b1 f (by omega)]
          · intro q hq
            by_cases e : q = k
            · subst e; exact hkz
            · have := b2 q (by omega)
              simpa only [if_neg e] using this
    · have huk : z_u n t k = 0 := by unfold z_u; rw [if_neg a1]
      have stp : ∀ f, rf_Mo_nextChoice_L2 (f + 1) (nI (k + 1) + (-1)) σ = rf_Mo_nextChoice_L2 f (nI k + (-1)) σ := by
        intro f
        conv => lhs; unfold rf_Mo_nextChoice_L2
        simp (disch := omega) only [z_pm, a2, z_lt, z_le, z_eq, z_ltl, z_lel, z_llt, z_lle, z_eql, z_add, z_addl, z_ladd, z_mul, z_mull, z_lmul, z_sub, z_subl, z_cl, z_ib, z_nm, z_mlt, if_pos, if_neg, ge_iff_le, gt_iff_lt, ite_true, ite_false, if_true, if_false, Option.bind_some]
      rcases ih σ c (by omega) hC h67 hc (fun q h1 h2 => by
          by_cases e : q = k
          · subst e; omega
          · exact h0 q (by omega) h2) with ⟨τ, c', r, b1, b2, b3, b4, b5, b6, b7, b8, b9⟩ | ⟨τ, b1, b2, b3⟩
      · left
        refine ⟨τ, c', r, by omega, ?_, b3, b4, b5, b6, b7, ?_, b9⟩
        · intro f hf
          obtain ⟨f, rfl⟩ : ∃ g, f = g + 1 := ⟨f - 1, by omega⟩
          rw [stp f, b2 f (by omega)]
        · intro q q1 q2
          by_cases e : q = k
          · subst e; omega
          · exact b8 q q1 (by omega)
      · right
        refine ⟨τ, ?_, ?_, b3⟩
        · intro f hf
          obtain ⟨f, rfl⟩ : ∃ g, f = g + 1 := ⟨f - 1, by omega⟩
          rw [stp f, b1 f (by omega)]
        · intro q hq
          by_cases e : q = k
          · subst e; omega
          · exact b2 q (by omega)
theorem z_cdm {c c' c'' u : Nat → Nat} {r : Nat} (hr : r < 6) (h1 : c' r = c r + 1) (h2 : ∀ q, q < r → c' q = c q) (h3 : ∀ q, r < q → q < 6 → c' q = 0) (h4 : ∀ q, r < q → q < 6 → c q = u q) (h5 : ∀ q, q < 6 → c'' q ≤ u q) (h6 : z_cd c < z_cd c'') : z_cd c' ≤ z_cd c'' := by
  have a0 := h5 0 (by omega); have a1 := h5 1 (by omega); have a2 := h5 2 (by omega); have a3 := h5 3 (by omega); have a4 := h5 4 (by omega); have a5 := h5 5 (by omega)
  unfold z_cd at *
  have hr6 : r = 0 ∨ r = 1 ∨ r = 2 ∨ r = 3 ∨ r = 4 ∨ r = 5 := by omega
  rcases hr6 with rfl | rfl | rfl | rfl | rfl | rfl
  · have := h3 1 (by omega) (by omega); have := h3 2 (by omega) (by omega); have := h3 3 (by omega) (by omega); have := h3 4 (by omega) (by omega); have := h3 5 (by omega) (by omega)
    have := h4 1 (by omega) (by omega); have := h4 2 (by omega) (by omega); have := h4 3 (by omega) (by omega); have := h4 4 (by omega) (by omega); have := h4 5 (by omega) (by omega)
    omega
  · have := h2 0 (by omega); have := h3 2 (by omega) (by omega); have := h3 3 (by omega) (by omega); have := h3 4 (by omega) (by omega); have := h3 5 (by omega) (by omega)
    have := h4 2 (by omega) (by omega); have := h4 3 (by omega) (by omega); have := h4 4 (by omega) (by omega); have := h4 5 (by omega) (by omega)
    omega
  · have := h2 0 (by omega); have := h2 1 (by omega); have := h3 3 (by omega) (by omega); have := h3 4 (by omega) (by omega); have := h3 5 (by omega) (by omega)
    have := h4 3 (by omega) (by omega); have := h4 4 (by omega) (by omega); have := h4 5 (by omega) (by omega)
    omega
  · have := h2 0 (by omega); have := h2 1 (by omega); have := h2 2 (by omega); have := h3 4 (by omega) (by omega); have := h3 5 (by omega) (by omega)
    have := h4 4 (by omega) (by omega); have := h4 5 (by omega) (by omega)
    omega
  · have := h2 0 (by omega); have := h2 1 (by omega); have := h2 2 (by omega); have := h2 3 (by omega); have := h3 5 (by omega) (by omega)
    have := h4 5 (by omega) (by omega)
    omega
  · have := h2 0 (by omega); have := h2 1 (by omega); have := h2 2 (by omega); have := h2 3 (by omega); have := h2 4 (by omega)
    omega
/-- one turn to the next choice -/
theorem z_next {g : Nat → Nat} {s : Nat → Nat → Nat × Nat} {n : Nat → Nat} {t : Lean.Data.AC.Expr} {W H : Nat} {σ : rl_M} {c : Nat → Nat} (hk : z_Rk n s t) (hC : z_Rc σ g s n t W H) (h67 : ∀ q, q < 6 → σ 67 q = nI (c q)) (hc : z_Ch n t c) :
    (∃ τ c', rf_Mo_nextChoice σ = some (1, τ) ∧ (∀ q, q < 6 → τ 67 q = nI (c' q)) ∧ z_Ch n t c' ∧ z_cd c < z_cd c' ∧ (∀ c'', z_Ch n t c'' → z_cd c < z_cd c'' → z_cd c' ≤ z_cd c'') ∧ ∀ e, e ≠ 67 → τ e = σ e) ∨
    (∃ τ, rf_Mo_nextChoice σ = some (0, τ) ∧ (∀ c'', z_Ch n t c'' → z_cd c'' ≤ z_cd c) ∧ ∀ e, e ≠ 67 → τ e = σ e) := by
  rcases z_nx hk 6 σ c (by omega) hC h67 hc (fun q h1 h2 => by omega) with ⟨τ, c', r, b1, b2, b3, b4, b5, b6, b7, b8, b9⟩ | ⟨τ, b1, b2, b3⟩
  · left
    refine ⟨τ, c', ?_, b3, ?_, ?_, fun c'' h1 h2 => z_cdm b1 b4 b6 b7 b8 h1 h2, b9⟩
    · exact b2 10000 (by omega)
    · intro q hq
      rcases Nat.lt_trichotomy q r with h | h | h
      · rw [b6 q h]; exact hc q hq
      · subst h; omega
      · rw [b7 q h hq]; omega
    · refine z_cd_lt b1 (fun q hq => (b6 q hq).symm) (by omega) (fun q hq => ?_)
      have := hc q hq; have := z_u3 hk hq; omega
  · right
    refine ⟨τ, b1 10000 (by omega), ?_, b3⟩
    intro c'' h
    have a0 := h 0 (by omega); have a1 := h 1 (by omega); have a2 := h 2 (by omega); have a3 := h 3 (by omega); have a4 := h 4 (by omega); have a5 := h 5 (by omega)
    have d0 := b2 0 (by omega); have d1 := b2 1 (by omega); have d2 := b2 2 (by omega); have d3 := b2 3 (by omega); have d4 := b2 4 (by omega); have d5 := b2 5 (by omega)
    unfold z_cd
    omega
