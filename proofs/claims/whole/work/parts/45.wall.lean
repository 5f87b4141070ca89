theorem z_clip {A B : Nat} (hA : A < 2147483648) (hB : B < 2147483648) : (if (nI A - nI B) < 0 then (0 : Int32) else nI A - nI B) = nI (A - B) := by
  by_cases q : A < B
  · have h : nI A - nI B < 0 := by
      have e : (0 : Int32).toInt = 0 := by decide
      have a := nI_toInt (n := A) (by omega)
      have b := nI_toInt (n := B) (by omega)
      rw [Int32.lt_iff_toInt_lt, Jvm.Kit.i32_sub (by rw [a, b]; omega) (by rw [a, b]; omega), a, b, e]
      omega
    rw [if_pos h, show A - B = 0 by omega]; rfl
  · rw [z_sub (by omega), if_neg]
    rw [z_ltl (by omega) (by omega)]; omega
theorem z_m1l {a : Nat} (h : a < 2147483648) : ((-1 : Int32) < nI a) ↔ True := by
  rw [Int32.lt_iff_toInt_lt, nI_toInt (by omega)]
  have : (-1 : Int32).toInt = -1 := by decide
  rw [this]; constructor
  · intro _; trivial
  · intro _; omega
theorem z_0m : ((0 : Int32) ≤ -1) ↔ False := by decide
/-- the corner of node j -/
def z_xy (g : Nat → Nat) (s : Nat → Nat → Nat × Nat) (c : Nat → Nat) : Nat → Lean.Data.AC.Expr → Nat → Nat → Nat → Nat × Nat
  | _, .var _, x, y, _ => (x, y)
  | i, .op l r, x, y, j => if j ≤ i + z_nd l then z_xy g s c i l x y j else if j ≤ i + z_nd l + 1 + z_nd r then z_xy g s c (i + z_nd l + 1) r (x + z_dx (g (i + (z_nd l + z_nd r + 2))) (z_ev g s c i l).1) (y + z_dy (g (i + (z_nd l + z_nd r + 2))) (z_ev g s c i l).2) j else (x, y)
theorem z_Co_xy {fx fy : Nat → Int32} {g : Nat → Nat} {s : Nat → Nat → Nat × Nat} {c : Nat → Nat} : ∀ (t : Lean.Data.AC.Expr) (i x y : Nat), z_Co fx fy g s c i t x y → ∀ j, i ≤ j → j ≤ i + z_nd t → fx j = nI (z_xy g s c i t x y j).1 ∧ fy j = nI (z_xy g s c i t x y j).2 := by
  intro t
  induction t with
  | var r =>
    intro i x y h j h1 h2
    simp only [z_nd] at h2
    have e : j = i := by omega
    subst e
    exact h
  | op l r il ir =>
    intro i x y h j h1 h2
    simp only [z_nd] at h2
    simp only [z_xy]
    by_cases c1 : j ≤ i + z_nd l
    · rw [if_pos c1]; exact il i x y h.2.1 j h1 c1
    · rw [if_neg c1]
      by_cases c2 : j ≤ i + z_nd l + 1 + z_nd r
      · rw [if_pos c2]; exact ir _ _ _ h.2.2 j (by omega) c2
      · rw [if_neg c2]
        have e : j = i + (z_nd l + z_nd r + 2) := by omega
        subst e
        exact h.1
theorem z_xy_b {g : Nat → Nat} {s : Nat → Nat → Nat × Nat} {c : Nat → Nat} : ∀ (t : Lean.Data.AC.Expr) (i x y j : Nat), (∀ r ∈ z_rm t, z_Bs (s r (c r)) 1) → (z_xy g s c i t x y j).1 ≤ x + 60 * z_lv t ∧ (z_xy g s c i t x y j).2 ≤ y + 60 * z_lv t := by
  intro t
  induction t with
  | var r => intro i x y j hb; simp only [z_xy]; omega
  | op l r il ir =>
    intro i x y j hb
    have b1 := z_ev_b (g := g) (s := s) (c := c) l i (fun q hq => hb q (by simp [z_rm, hq]))
    have h1 := il i x y j (fun q hq => hb q (by simp [z_rm, hq]))
    have h2 := ir (i + z_nd l + 1) (x + z_dx (g (i + (z_nd l + z_nd r + 2))) (z_ev g s c i l).1) (y + z_dy (g (i + (z_nd l + z_nd r + 2))) (z_ev g s c i l).2) j (fun q hq => hb q (by simp [z_rm, hq]))
    have d1 : z_dx (g (i + (z_nd l + z_nd r + 2))) (z_ev g s c i l).1 ≤ (z_ev g s c i l).1 := by unfold z_dx; split <;> omega
    have d2 : z_dy (g (i + (z_nd l + z_nd r + 2))) (z_ev g s c i l).2 ≤ (z_ev g s c i l).2 := by unfold z_dy; split <;> omega
    unfold z_Bs at b1
    simp only [z_xy, z_lv]
    split
    · omega
    · split
      · omega
      · simp only; omega
theorem z_leaf {g : Nat → Nat} {s : Nat → Nat → Nat × Nat} {c : Nat → Nat} {σ : rl_M} {r k : Nat} (hr : r < 6) (hk : g k = 48 + r) : ∀ (t : Lean.Data.AC.Expr) (i : Nat), z_Fl g i t → (z_rm t).Nodup → i ≤ k → k ≤ i + z_nd t → z_CA g s (fun q j => j = c q) σ i t → z_S1 σ k (s r (c r)) := by
  intro t
  induction t with
  | var q =>
    intro i hf hn h1 h2 hc
    simp only [z_nd] at h2
    have e : k = i := by omega
    subst e
    have e2 : q = r := by have := hf.1; omega
    subst e2
    exact z_sing hc
  | op l q il iq =>
    intro i hf hn h1 h2 hc
    have nd := z_nda (A := z_rm l) (B := z_rm q) hn
    rcases z_side hr hf hn h1 h2 hk with ⟨a1, a2⟩ | ⟨a1, a2, a3, a4⟩
    · exact il i hf.1 nd.1 h1 a2 hc.1
    · exact iq _ hf.2.1 nd.2.1 a3 a4 hc.2.1
theorem z_leafR {g : Nat → Nat} {s : Nat → Nat → Nat × Nat} {c : Nat → Nat} {σ : rl_M} {r k : Nat} (hr : r < 6) (hk : g k = 48 + r) : ∀ (t : Lean.Data.AC.Expr) (i : Nat), z_Fl g i t → (z_rm t).Nodup → i ≤ k → k ≤ i + z_nd t → z_La σ g s c i t → σ 69 k = nI (s r (c r)).1 ∧ σ 70 k = nI (s r (c r)).2 := by
  intro t
  induction t with
  | var q =>
    intro i hf hn h1 h2 hc
    simp only [z_nd] at h2
    have e : k = i := by omega
    subst e
    have e2 : q = r := by have := hf.1; omega
    subst e2
    exact hc
  | op l q il iq =>
    intro i hf hn h1 h2 hc
    have nd := z_nda (A := z_rm l) (B := z_rm q) hn
    rcases z_side hr hf hn h1 h2 hk with ⟨a1, a2⟩ | ⟨a1, a2, a3, a4⟩
    · exact il i hf.1 nd.1 h1 a2 hc.1
    · exact iq _ hf.2.1 nd.2.1 a3 a4 hc.2.1
def z_ov (a al b bl : Nat) : Nat := min (a + al) (b + bl) - max a b
/-- the wall that two rooms share: corners u, v and sizes p, q -/
def z_wl (u p v q : Nat × Nat) : Nat := max (if u.1 + p.1 = v.1 ∨ v.1 + q.1 = u.1 then z_ov u.2 p.2 v.2 q.2 else 0) (if u.2 + p.2 = v.2 ∨ v.2 + q.2 = u.2 then z_ov u.1 p.1 v.1 q.1 else 0)
theorem z_ovr {a al b bl : Nat} {σ : rl_M} (h1 : a ≤ 1000) (h2 : al ≤ 1000) (h3 : b ≤ 1000) (h4 : bl ≤ 1000) : rf_Mo_overlap (nI a) (nI al) (nI b) (nI bl) σ = some (nI (z_ov a al b bl), σ) := by
  unfold rf_Mo_overlap rf_Mo_overlap_J10 rf_Mo_overlap_J30 z_ov
  by_cases c1 : a ≤ b
  · have e1 : max a b = b := by omega
    by_cases c2 : b + bl ≤ a + al
    · have e2 : min (a + al) (b + bl) = b + bl := by omega
      by_cases c3 : b + bl ≤ b
      · simp (disch := omega) only [z_lt, z_le, z_eq, z_ltl, z_lel, z_llt, z_lle, z_eql, z_add, z_addl, z_ladd, z_mul, z_mull, z_lmul, z_sub, z_subl, z_cl, z_ib, z_nm, z_m1, z_mlt, if_pos, if_neg, ge_iff_le, gt_iff_lt, ite_true, ite_false, if_true, if_false, Option.bind_some, z_10, eq_self, e1, e2]
        rw [show b + bl - b = 0 by omega]; rfl
      · simp (disch := omega) only [z_lt, z_le, z_eq, z_ltl, z_lel, z_llt, z_lle, z_eql, z_add, z_addl, z_ladd, z_mul, z_mull, z_lmul, z_sub, z_subl, z_cl, z_ib, z_nm, z_m1, z_mlt, if_pos, if_neg, ge_iff_le, gt_iff_lt, ite_true, ite_false, if_true, if_false, Option.bind_some, z_10, eq_self, e1, e2]
    · have e2 : min (a + al) (b + bl) = a + al := by omega
      by_cases c3 : a + al ≤ b
      · simp (disch := omega) only [z_lt, z_le, z_eq, z_ltl, z_lel, z_llt, z_lle, z_eql, z_add, z_addl, z_ladd, z_mul, z_mull, z_lmul, z_sub, z_subl, z_cl, z_ib, z_nm, z_m1, z_mlt, if_pos, if_neg, ge_iff_le, gt_iff_lt, ite_true, ite_false, if_true, if_false, Option.bind_some, z_10, eq_self, e1, e2]
        rw [show a + al - b = 0 by omega]; rfl
      · simp (disch := omega) only [z_lt, z_le, z_eq, z_ltl, z_lel, z_llt, z_lle, z_eql, z_add, z_addl, z_ladd, z_mul, z_mull, z_lmul, z_sub, z_subl, z_cl, z_ib, z_nm, z_m1, z_mlt, if_pos, if_neg, ge_iff_le, gt_iff_lt, ite_true, ite_false, if_true, if_false, Option.bind_some, z_10, eq_self, e1, e2]
  · have e1 : max a b = a := by omega
    by_cases c2 : b + bl ≤ a + al
    · have e2 : min (a + al) (b + bl) = b + bl := by omega
      by_cases c3 : b + bl ≤ a
      · simp (disch := omega) only [z_lt, z_le, z_eq, z_ltl, z_lel, z_llt, z_lle, z_eql, z_add, z_addl, z_ladd, z_mul, z_mull, z_lmul, z_sub, z_subl, z_cl, z_ib, z_nm, z_m1, z_mlt, if_pos, if_neg, ge_iff_le, gt_iff_lt, ite_true, ite_false, if_true, if_false, Option.bind_some, z_10, eq_self, e1, e2]
        rw [show b + bl - a = 0 by omega]; rfl
      · simp (disch := omega) only [z_lt, z_le, z_eq, z_ltl, z_lel, z_llt, z_lle, z_eql, z_add, z_addl, z_ladd, z_mul, z_mull, z_lmul, z_sub, z_subl, z_cl, z_ib, z_nm, z_m1, z_mlt, if_pos, if_neg, ge_iff_le, gt_iff_lt, ite_true, ite_false, if_true, if_false, Option.bind_some, z_10, eq_self, e1, e2]
    · have e2 : min (a + al) (b + bl) = a + al := by omega
      by_cases c3 : a + al ≤ a
      · simp (disch := omega) only [z_lt, z_le, z_eq, z_ltl, z_lel, z_llt, z_lle, z_eql, z_add, z_addl, z_ladd, z_mul, z_mull, z_lmul, z_sub, z_subl, z_cl, z_ib, z_nm, z_m1, z_mlt, if_pos, if_neg, ge_iff_le, gt_iff_lt, ite_true, ite_false, if_true, if_false, Option.bind_some, z_10, eq_self, e1, e2]
        rw [show a + al - a = 0 by omega]; rfl
      · simp (disch := omega) only [z_lt, z_le, z_eq, z_ltl, z_lel, z_llt, z_lle, z_eql, z_add, z_addl, z_ladd, z_mul, z_mull, z_lmul, z_sub, z_subl, z_cl, z_ib, z_nm, z_m1, z_mlt, if_pos, if_neg, ge_iff_le, gt_iff_lt, ite_true, ite_false, if_true, if_false, Option.bind_some, z_10, eq_self, e1, e2]
theorem z_ov_b {a al b bl : Nat} (h1 : a ≤ 1000) (h2 : al ≤ 1000) : z_ov a al b bl ≤ 2000 := by
  unfold z_ov; omega
theorem z_shR {σ : rl_M} {a b : Nat} {u p v q : Nat × Nat} (ha : a < 11) (hb : b < 11) (hu1 : u.1 ≤ 1000) (hu2 : u.2 ≤ 1000) (hp1 : p.1 ≤ 1000) (hp2 : p.2 ≤ 1000) (hv1 : v.1 ≤ 1000) (hv2 : v.2 ≤ 1000) (hq1 : q.1 ≤ 1000) (hq2 : q.2 ≤ 1000)
    (e1 : σ 71 a = nI u.1) (e2 : σ 72 a = nI u.2) (e3 : σ 69 a = nI p.1) (e4 : σ 70 a = nI p.2) (f1 : σ 71 b = nI v.1) (f2 : σ 72 b = nI v.2) (f3 : σ 69 b = nI q.1) (f4 : σ 70 b = nI q.2) : rf_Mo_shared (nI a) (nI b) σ = some (nI (z_wl u p v q), σ) := by
  have o1 := z_ovr (σ := σ) hu2 hp2 hv2 hq2
  have o2 := z_ovr (σ := σ) hu1 hp1 hv1 hq1
  have b1 := z_ov_b (a := u.2) (al := p.2) (b := v.2) (bl := q.2) hu2 hp2
  have b2 := z_ov_b (a := u.1) (al := p.1) (b := v.1) (bl := q.1) hu1 hp1
  have J136 : ∀ x : Nat, x ≤ 2000 → rf_Mo_shared_J136 (nI a) (nI b) 0 (nI x) σ = some (nI x, σ) ∧ rf_Mo_shared_J136 (nI a) (nI b) 1 (nI x) σ = some (nI (max x (z_ov u.1 p.1 v.1 q.1)), σ) := by
    intro x hx
    unfold rf_Mo_shared_J136
    refine ⟨?_, ?_⟩
    · by_cases c : x ≤ 0
      · simp (disch := omega) only [z_lt, z_le, z_eq, z_ltl, z_lel, z_llt, z_lle, z_eql, z_add, z_addl, z_ladd, z_mul, z_mull, z_lmul, z_sub, z_subl, z_cl, z_ib, z_nm, z_m1, z_mlt, if_pos, if_neg, ge_iff_le, gt_iff_lt, ite_true, ite_false, if_true, if_false, Option.bind_some, z_10, eq_self]
        rw [show x = 0 by omega]; rfl
      · simp (disch := omega) only [z_lt, z_le, z_eq, z_ltl, z_lel, z_llt, z_lle, z_eql, z_add, z_addl, z_ladd, z_mul, z_mull, z_lmul, z_sub, z_subl, z_cl, z_ib, z_nm, z_m1, z_mlt, if_pos, if_neg, ge_iff_le, gt_iff_lt, ite_true, ite_false, if_true, if_false, Option.bind_some, z_10, eq_self]
    · by_cases c : x ≤ z_ov u.1 p.1 v.1 q.1
      · have e : max x (z_ov u.1 p.1 v.1 q.1) = z_ov u.1 p.1 v.1 q.1 := by omega
        simp (disch := omega) only [z_lt, z_le, z_eq, z_ltl, z_lel, z_llt, z_lle, z_eql, z_add, z_addl, z_ladd, z_mul, z_mull, z_lmul, z_sub, z_subl, z_cl, z_ib, z_nm, z_m1, z_mlt, if_pos, if_neg, ge_iff_le, gt_iff_lt, ite_true, ite_false, if_true, if_false, Option.bind_some, z_10, eq_self, e1, e3, f1, f3, o2, e]
      · have e : max x (z_ov u.1 p.1 v.1 q.1) = x := by omega
        simp (disch := omega) only [z_lt, z_le, z_eq, z_ltl, z_lel, z_llt, z_lle, z_eql, z_add, z_addl, z_ladd, z_mul, z_mull, z_lmul, z_sub, z_subl, z_cl, z_ib, z_nm, z_m1, z_mlt, if_pos, if_neg, ge_iff_le, gt_iff_lt, ite_true, ite_false, if_true, if_false, Option.bind_some, z_10, eq_self, e1, e3, f1, f3, o2, e]
  have J99 : ∀ y : Int32, rf_Mo_shared_J99 (nI a) (nI b) 0 y σ = rf_Mo_shared_J136 (nI a) (nI b) y (nI 0) σ ∧ rf_Mo_shared_J99 (nI a) (nI b) 1 y σ = rf_Mo_shared_J136 (nI a) (nI b) y (nI (z_ov u.2 p.2 v.2 q.2)) σ := by
    intro y
    unfold rf_Mo_shared_J99
    refine ⟨?_, ?_⟩
    · simp only [if_true]; rfl
    · simp (disch := omega) only [z_lt, z_le, z_eq, z_ltl, z_lel, z_llt, z_lle, z_eql, z_add, z_addl, z_ladd, z_mul, z_mull, z_lmul, z_sub, z_subl, z_cl, z_ib, z_nm, z_m1, z_mlt, if_pos, if_neg, ge_iff_le, gt_iff_lt, ite_true, ite_false, if_true, if_false, Option.bind_some, z_10, eq_self, e2, e4, f2, f4, o1]
  have J49 : ∀ x : Int32, (u.2 + p.2 = v.2 ∨ v.2 + q.2 = u.2 → rf_Mo_shared_J49 (nI a) (nI b) x σ = rf_Mo_shared_J99 (nI a) (nI b) x 1 σ) ∧ (¬ (u.2 + p.2 = v.2 ∨ v.2 + q.2 = u.2) → rf_Mo_shared_J49 (nI a) (nI b) x σ = rf_Mo_shared_J99 (nI a) (nI b) x 0 σ) := by
    intro x
    unfold rf_Mo_shared_J49 rf_Mo_shared_J94
    refine ⟨fun h => ?_, fun h => ?_⟩
    · by_cases c : u.2 + p.2 = v.2
      · simp (disch := omega) only [z_lt, z_le, z_eq, z_ltl, z_lel, z_llt, z_lle, z_eql, z_add, z_addl, z_ladd, z_mul, z_mull, z_lmul, z_sub, z_subl, z_cl, z_ib, z_nm, z_m1, z_mlt, if_pos, if_neg, ge_iff_le, gt_iff_lt, ite_true, ite_false, if_true, if_false, Option.bind_some, z_10, eq_self, e2, e4, f2, f4]
      · simp (disch := omega) only [z_lt, z_le, z_eq, z_ltl, z_lel, z_llt, z_lle, z_eql, z_add, z_addl, z_ladd, z_mul, z_mull, z_lmul, z_sub, z_subl, z_cl, z_ib, z_nm, z_m1, z_mlt, if_pos, if_neg, ge_iff_le, gt_iff_lt, ite_true, ite_false, if_true, if_false, Option.bind_some, z_10, eq_self, e2, e4, f2, f4]
    · simp (disch := omega) only [z_lt, z_le, z_eq, z_ltl, z_lel, z_llt, z_lle, z_eql, z_add, z_addl, z_ladd, z_mul, z_mull, z_lmul, z_sub, z_subl, z_cl, z_ib, z_nm, z_m1, z_mlt, if_pos, if_neg, ge_iff_le, gt_iff_lt, ite_true, ite_false, if_true, if_false, Option.bind_some, z_10, eq_self, e2, e4, f2, f4]
  have S : (u.1 + p.1 = v.1 ∨ v.1 + q.1 = u.1 → rf_Mo_shared (nI a) (nI b) σ = rf_Mo_shared_J49 (nI a) (nI b) 1 σ) ∧ (¬ (u.1 + p.1 = v.1 ∨ v.1 + q.1 = u.1) → rf_Mo_shared (nI a) (nI b) σ = rf_Mo_shared_J49 (nI a) (nI b) 0 σ) := by
    unfold rf_Mo_shared rf_Mo_shared_J44
    refine ⟨fun h => ?_, fun h => ?_⟩
    · by_cases c : u.1 + p.1 = v.1
      · simp (disch := omega) only [z_lt, z_le, z_eq, z_ltl, z_lel, z_llt, z_lle, z_eql, z_add, z_addl, z_ladd, z_mul, z_mull, z_lmul, z_sub, z_subl, z_cl, z_ib, z_nm, z_m1, z_mlt, if_pos, if_neg, ge_iff_le, gt_iff_lt, ite_true, ite_false, if_true, if_false, Option.bind_some, z_10, eq_self, e1, e3, f1, f3]
      · simp (disch := omega) only [z_lt, z_le, z_eq, z_ltl, z_lel, z_llt, z_lle, z_eql, z_add, z_addl, z_ladd, z_mul, z_mull, z_lmul, z_sub, z_subl, z_cl, z_ib, z_nm, z_m1, z_mlt, if_pos, if_neg, ge_iff_le, gt_iff_lt, ite_true, ite_false, if_true, if_false, Option.bind_some, z_10, eq_self, e1, e3, f1, f3]
    · simp (disch := omega) only [z_lt, z_le, z_eq, z_ltl, z_lel, z_llt, z_lle, z_eql, z_add, z_addl, z_ladd, z_mul, z_mull, z_lmul, z_sub, z_subl, z_cl, z_ib, z_nm, z_m1, z_mlt, if_pos, if_neg, ge_iff_le, gt_iff_lt, ite_true, ite_false, if_true, if_false, Option.bind_some, z_10, eq_self, e1, e3, f1, f3]
  unfold z_wl
  by_cases c1 : u.1 + p.1 = v.1 ∨ v.1 + q.1 = u.1 <;> by_cases c2 : u.2 + p.2 = v.2 ∨ v.2 + q.2 = u.2
  · rw [S.1 c1, (J49 1).1 c2, (J99 1).2, (J136 _ b1).2, if_pos c1, if_pos c2]
  · rw [S.1 c1, (J49 1).2 c2, (J99 0).2, (J136 _ b1).1, if_pos c1, if_neg c2, show max (z_ov u.2 p.2 v.2 q.2) 0 = z_ov u.2 p.2 v.2 q.2 by omega]
  · rw [S.2 c1, (J49 0).1 c2, (J99 1).1, (J136 0 (by omega)).2, if_neg c1, if_pos c2]
  · rw [S.2 c1, (J49 0).2 c2, (J99 0).1, (J136 0 (by omega)).1, if_neg c1, if_neg c2, show max 0 0 = 0 by omega]
theorem z_nop {σ : rl_M} {i r : Nat} (h38 : σ 3 8 = nI i) (hi : i < 24) (hr : r < 6) : rf_Pl_nodeOfPlaced (nI r) σ = some (σ 14 r, σ) := by
  unfold rf_Pl_nodeOfPlaced
  rw [z_hb1 h38 hi]
  simp only [Option.bind_some, z_10, if_false, z_no hr]
theorem z_nop0 {σ : rl_M} {x : Int32} (h38 : σ 3 8 = -1) : rf_Pl_nodeOfPlaced x σ = some (-1, σ) := by
  unfold rf_Pl_nodeOfPlaced
  rw [z_hb0 h38]
  simp only [Option.bind_some, if_true]
theorem z_shC {σ : rl_M} {a b i m r1 r2 : Nat} {u p v q : Nat × Nat} (h38 : σ 3 8 = nI i) (hi : i < 24) (h8 : σ 8 0 = nI m) (hm : m ≤ 11) (hr1 : r1 < 6) (hr2 : r2 < 6) (ha : a < m) (hb : b < m) (h14 : σ 14 r1 = nI a) (h14' : σ 14 r2 = nI b) (hu1 : u.1 ≤ 1000) (hu2 : u.2 ≤ 1000) (hp1 : p.1 ≤ 1000) (hp2 : p.2 ≤ 1000) (hv1 : v.1 ≤ 1000) (hv2 : v.2 ≤ 1000) (hq1 : q.1 ≤ 1000) (hq2 : q.2 ≤ 1000)
    (e1 : σ 17 a = nI u.1) (e2 : σ 18 a = nI u.2) (s1 : z_S1 σ a p) (f1 : σ 17 b = nI v.1) (f2 : σ 18 b = nI v.2) (s2 : z_S1 σ b q) : rf_Pl_sharedWall (nI r1) (nI r2) σ = some (nI (z_wl u p v q), σ) := by
  have J1 : rf_Pl_sharedWall_J124 (nI a) (nI b) (nI (u.2 + p.2)) (nI (v.2 + q.2)) σ = some (nI (z_ov u.2 p.2 v.2 q.2), σ) := by
    unfold rf_Pl_sharedWall_J124 z_ov
    by_cases c1 : v.2 + q.2 < u.2 + p.2 <;> by_cases c2 : u.2 < v.2
    · rw [show min (u.2 + p.2) (v.2 + q.2) = v.2 + q.2 by omega, show max u.2 v.2 = v.2 by omega, ← z_clip (by omega) (by omega)]
      simp (disch := omega) only [z_lt, z_le, z_eq, z_ltl, z_lel, z_llt, z_lle, z_eql, z_add, z_addl, z_ladd, z_mul, z_mull, z_lmul, z_sub, z_subl, z_cl, z_ib, z_nm, z_m1, z_mlt, if_pos, if_neg, ge_iff_le, gt_iff_lt, ite_true, ite_false, if_true, if_false, Option.bind_some, z_10, eq_self, e2, f2]
    · rw [show min (u.2 + p.2) (v.2 + q.2) = v.2 + q.2 by omega, show max u.2 v.2 = u.2 by omega, ← z_clip (by omega) (by omega)]
      simp (disch := omega) only [z_lt, z_le, z_eq, z_ltl, z_lel, z_llt, z_lle, z_eql, z_add, z_addl, z_ladd, z_mul, z_mull, z_lmul, z_sub, z_subl, z_cl, z_ib, z_nm, z_m1, z_mlt, if_pos, if_neg, ge_iff_le, gt_iff_lt, ite_true, ite_false, if_true, if_false, Option.bind_some, z_10, eq_self, e2, f2]
    · rw [show min (u.2 + p.2) (v.2 + q.2) = u.2 + p.2 by omega, show max u.2 v.2 = v.2 by omega, ← z_clip (by omega) (by omega)]
      simp (disch := omega) only [z_lt, z_le, z_eq, z_ltl, z_lel, z_llt, z_lle, z_eql, z_add, z_addl, z_ladd, z_mul, z_mull, z_lmul, z_sub, z_subl, z_cl, z_ib, z_nm, z_m1, z_mlt, if_pos, if_neg, ge_iff_le, gt_iff_lt, ite_true, ite_false, if_true, if_false, Option.bind_some, z_10, eq_self, e2, f2]
    · rw [show min (u.2 + p.2) (v.2 + q.2) = u.2 + p.2 by omega, show max u.2 v.2 = u.2 by omega, ← z_clip (by omega) (by omega)]
      simp (disch := omega) only [z_lt, z_le, z_eq, z_ltl, z_lel, z_llt, z_lle, z_eql, z_add, z_addl, z_ladd, z_mul, z_mull, z_lmul, z_sub, z_subl, z_cl, z_ib, z_nm, z_m1, z_mlt, if_pos, if_neg, ge_iff_le, gt_iff_lt, ite_true, ite_false, if_true, if_false, Option.bind_some, z_10, eq_self, e2, f2]
  have J2 : rf_Pl_sharedWall_J176 (nI a) (nI b) (nI (u.1 + p.1)) (nI (v.1 + q.1)) σ = some (nI (z_ov u.1 p.1 v.1 q.1), σ) := by
    unfold rf_Pl_sharedWall_J176 z_ov
    by_cases c1 : v.1 + q.1 < u.1 + p.1 <;> by_cases c2 : u.1 < v.1
    · rw [show min (u.1 + p.1) (v.1 + q.1) = v.1 + q.1 by omega, show max u.1 v.1 = v.1 by omega, ← z_clip (by omega) (by omega)]
      simp (disch := omega) only [z_lt, z_le, z_eq, z_ltl, z_lel, z_llt, z_lle, z_eql, z_add, z_addl, z_ladd, z_mul, z_mull, z_lmul, z_sub, z_subl, z_cl, z_ib, z_nm, z_m1, z_mlt, if_pos, if_neg, ge_iff_le, gt_iff_lt, ite_true, ite_false, if_true, if_false, Option.bind_some, z_10, eq_self, e1, f1]
    · rw [show min (u.1 + p.1) (v.1 + q.1) = v.1 + q.1 by omega, show max u.1 v.1 = u.1 by omega, ← z_clip (by omega) (by omega)]
      simp (disch := omega) only [z_lt, z_le, z_eq, z_ltl, z_lel, z_llt, z_lle, z_eql, z_add, z_addl, z_ladd, z_mul, z_mull, z_lmul, z_sub, z_subl, z_cl, z_ib, z_nm, z_m1, z_mlt, if_pos, if_neg, ge_iff_le, gt_iff_lt, ite_true, ite_false, if_true, if_false, Option.bind_some, z_10, eq_self, e1, f1]
    · rw [show min (u.1 + p.1) (v.1 + q.1) = u.1 + p.1 by omega, show max u.1 v.1 = v.1 by omega, ← z_clip (by omega) (by omega)]
      simp (disch := omega) only [z_lt, z_le, z_eq, z_ltl, z_lel, z_llt, z_lle, z_eql, z_add, z_addl, z_ladd, z_mul, z_mull, z_lmul, z_sub, z_subl, z_cl, z_ib, z_nm, z_m1, z_mlt, if_pos, if_neg, ge_iff_le, gt_iff_lt, ite_true, ite_false, if_true, if_false, Option.bind_some, z_10, eq_self, e1, f1]
    · rw [show min (u.1 + p.1) (v.1 + q.1) = u.1 + p.1 by omega, show max u.1 v.1 = u.1 by omega, ← z_clip (by omega) (by omega)]
      simp (disch := omega) only [z_lt, z_le, z_eq, z_ltl, z_lel, z_llt, z_lle, z_eql, z_add, z_addl, z_ladd, z_mul, z_mull, z_lmul, z_sub, z_subl, z_cl, z_ib, z_nm, z_m1, z_mlt, if_pos, if_neg, ge_iff_le, gt_iff_lt, ite_true, ite_false, if_true, if_false, Option.bind_some, z_10, eq_self, e1, f1]
  have na := z_has h8 hm ha
  have nb := z_has h8 hm hb
  have wa := z_nw h8 hm ha s1
  have wb := z_nw h8 hm hb s2
  have ga := z_nh h8 hm ha s1
  have gb := z_nh h8 hm hb s2
  have n10 : ¬ ((1 : Int32) = 0) := by decide
  have ia : rl_ib (nI a) 11 = true := (z_ib (by omega)).mpr (by omega)
  have ib : rl_ib (nI b) 11 = true := (z_ib (by omega)).mpr (by omega)
  have ka : (nI a).toNatClampNeg = a := z_cl (by omega)
  have kb : (nI b).toNatClampNeg = b := z_cl (by omega)
  unfold rf_Pl_sharedWall
  rw [z_nop h38 hi hr1, h14, Option.bind_some]
  dsimp only
  rw [z_nop h38 hi hr2, h14', Option.bind_some]
  dsimp only
  rw [na, Option.bind_some]
  dsimp only
  rw [if_neg n10, nb, Option.bind_some]
  dsimp only
  rw [if_neg n10, if_pos ia, wa, Option.bind_some]
  dsimp only
  rw [if_pos ib, wb, Option.bind_some]
  dsimp only
  rw [if_pos ia, ga, Option.bind_some]
  dsimp only
  rw [if_pos ib, gb, Option.bind_some]
  dsimp only
  rw [if_pos ib, if_pos ia, if_pos ib, if_pos ia, ka, kb]
  simp (disch := omega) only [e1, e2, f1, f2, z_add, J1, J2, z_eq]
  by_cases c1 : u.1 + p.1 = v.1
  · rw [if_pos c1]
    congr 3
    unfold z_wl z_ov
    rw [if_pos (Or.inl c1)]
    split <;> omega
  · rw [if_neg c1]
    by_cases c2 : v.1 + q.1 = u.1
    · rw [if_pos c2]
      congr 3
      unfold z_wl z_ov
      rw [if_pos (Or.inr c2)]
      split <;> omega
    · rw [if_neg c2]
      have e : ¬ (u.1 + p.1 = v.1 ∨ v.1 + q.1 = u.1) := by omega
      by_cases c3 : u.2 + p.2 = v.2
      · rw [if_pos c3]
        congr 3
        unfold z_wl
        rw [if_neg e, if_pos (Or.inl c3)]
        omega
      · rw [if_neg c3]
        by_cases c4 : v.2 + q.2 = u.2
        · rw [if_pos c4]
          congr 3
          unfold z_wl
          rw [if_neg e, if_pos (Or.inr c4)]
          omega
        · rw [if_neg c4]
          have e' : ¬ (u.2 + p.2 = v.2 ∨ v.2 + q.2 = u.2) := by omega
          unfold z_wl
          rw [if_neg e, if_neg e']
          rfl
theorem z_shC0 {σ : rl_M} {x y : Int32} (h : (rf_Pl_nodeOfPlaced x σ = some (-1, σ) ∧ ∃ w, rf_Pl_nodeOfPlaced y σ = some (w, σ)) ∨ (rf_Pl_nodeOfPlaced y σ = some (-1, σ) ∧ ∃ a m, rf_Pl_nodeOfPlaced x σ = some (nI a, σ) ∧ σ 8 0 = nI m ∧ m ≤ 11 ∧ a < m)) : rf_Pl_sharedWall x y σ = some (-1, σ) := by
  unfold rf_Pl_sharedWall
  rcases h with ⟨h1, w, h2⟩ | ⟨h1, a, m, h2, h3, h4, h5⟩
  · simp only [h1, h2, Option.bind_some, z_hasn, if_true]
  · simp only [h1, h2, Option.bind_some, z_has h3 h4 h5, z_hasn, if_true, z_10, if_false]
