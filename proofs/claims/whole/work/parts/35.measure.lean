theorem z_10 : ((1 : Int32) = 0) ↔ False := by decide
def z_nd : Lean.Data.AC.Expr → Nat
  | .var _ => 0
  | .op l r => z_nd l + z_nd r + 2
def z_lv : Lean.Data.AC.Expr → Nat
  | .var _ => 1
  | .op l r => z_lv l + z_lv r
def z_rm : Lean.Data.AC.Expr → List Nat
  | .var x => [x]
  | .op l r => z_rm l ++ z_rm r
theorem z_nl (t : Lean.Data.AC.Expr) : z_nd t + 2 = 2 * z_lv t := by
  induction t with
  | var x => rfl
  | op l r il ir => simp only [z_nd, z_lv]; omega
/-- what a sign makes of two outlines -/
def z_cb (v : Nat) (a b : Nat × Nat) : Nat × Nat := if v = 124 then (a.1 + b.1, max a.2 b.2) else (max a.1 b.1, a.2 + b.2)
def z_ev (g : Nat → Nat) (s : Nat → Nat → Nat × Nat) (c : Nat → Nat) : Nat → Lean.Data.AC.Expr → Nat × Nat
  | _, .var r => s r (c r)
  | i, .op l r => z_cb (g (i + (z_nd l + z_nd r + 2))) (z_ev g s c i l) (z_ev g s c (i + z_nd l + 1) r)
/-- the signs from i on are those of the tree -/
def z_Fl (g : Nat → Nat) : Nat → Lean.Data.AC.Expr → Prop
  | i, .var r => g i = 48 + r ∧ r < 6
  | i, .op l r => z_Fl g i l ∧ z_Fl g (i + z_nd l + 1) r ∧ (g (i + (z_nd l + z_nd r + 2)) = 124 ∨ g (i + (z_nd l + z_nd r + 2)) = 45)
/-- the outlines that a part can have where room r may take the sizes j with D r j -/
def z_out (g : Nat → Nat) (s : Nat → Nat → Nat × Nat) (D : Nat → Nat → Prop) : Nat → Lean.Data.AC.Expr → Nat × Nat → Prop
  | _, .var r, p => ∃ j, D r j ∧ p = s r j
  | i, .op l r, p => ∃ a b, z_out g s D i l a ∧ z_out g s D (i + z_nd l + 1) r b ∧ p = z_cb (g (i + (z_nd l + z_nd r + 2))) a b
def z_Bs (p : Nat × Nat) (k : Nat) : Prop := 1 ≤ p.1 ∧ p.1 ≤ 60 * k ∧ 1 ≤ p.2 ∧ p.2 ≤ 60 * k
theorem z_cb_b {v : Nat} {a b : Nat × Nat} {k l : Nat} (ha : z_Bs a k) (hb : z_Bs b l) : z_Bs (z_cb v a b) (k + l) := by
  unfold z_Bs z_cb at *
  split
  · simp only; omega
  · simp only; omega
theorem z_out_b {g : Nat → Nat} {s : Nat → Nat → Nat × Nat} {D : Nat → Nat → Prop} : ∀ (t : Lean.Data.AC.Expr) (i : Nat) (p : Nat × Nat), (∀ r ∈ z_rm t, ∀ j, D r j → z_Bs (s r j) 1) → z_out g s D i t p → z_Bs p (z_lv t) := by
  intro t
  induction t with
  | var r =>
    rintro i p hb ⟨j, hj, e⟩
    subst e
    exact hb r (by simp [z_rm]) j hj
  | op l r il ir =>
    rintro i p hb ⟨a, b, ha, hb2, e⟩
    subst e
    exact z_cb_b (il i a (fun q hq => hb q (by simp [z_rm, hq])) ha) (ir _ b (fun q hq => hb q (by simp [z_rm, hq])) hb2)
theorem z_out_D {g : Nat → Nat} {s : Nat → Nat → Nat × Nat} {D D' : Nat → Nat → Prop} : ∀ (t : Lean.Data.AC.Expr) (i : Nat) (p : Nat × Nat), (∀ r ∈ z_rm t, ∀ j, D r j → D' r j) → z_out g s D i t p → z_out g s D' i t p := by
  intro t
  induction t with
  | var r =>
    rintro i p hd ⟨j, hj, e⟩
    exact ⟨j, hd r (by simp [z_rm]) j hj, e⟩
  | op l r il ir =>
    rintro i p hd ⟨a, b, ha, hb, e⟩
    exact ⟨a, b, il i a (fun q hq => hd q (by simp [z_rm, hq])) ha, ir _ b (fun q hq => hd q (by simp [z_rm, hq])) hb, e⟩
/-- node k's curve stands for P -/
def z_Has (σ : rl_M) (k : Nat) (P : Nat × Nat → Prop) (l : Nat) : Prop := ∃ L, z_Cv σ (23 + 3 * k) L ∧ z_Rep L P ∧ L.length ≤ 4 * l
theorem z_Has_x {σ : rl_M} {k l : Nat} {P Q : Nat × Nat → Prop} (h : z_Has σ k P l) (e : ∀ p, P p ↔ Q p) : z_Has σ k Q l := by
  obtain ⟨L, h1, h2, h3⟩ := h
  exact ⟨L, h1, z_Rep_x h2 e, h3⟩
theorem z_Has_f {σ τ : rl_M} {k l : Nat} {P : Nat × Nat → Prop} (h : z_Has σ k P l) (e : ∀ c, 23 + 3 * k ≤ c → c ≤ 23 + 3 * k + 2 → τ c = σ c) : z_Has τ k P l := by
  obtain ⟨L, h1, h2, h3⟩ := h
  exact ⟨L, z_Cv_c h1 (e _ (by omega) (by omega)) (e _ (by omega) (by omega)) (e _ (by omega) (by omega)), h2, h3⟩
def z_CA (g : Nat → Nat) (s : Nat → Nat → Nat × Nat) (D : Nat → Nat → Prop) (σ : rl_M) : Nat → Lean.Data.AC.Expr → Prop
  | i, .var r => z_Has σ i (z_out g s D i (.var r)) 1
  | i, .op l r => z_CA g s D σ i l ∧ z_CA g s D σ (i + z_nd l + 1) r ∧ z_Has σ (i + (z_nd l + z_nd r + 2)) (z_out g s D i (.op l r)) (z_lv l + z_lv r)
theorem z_CA_top {g : Nat → Nat} {s : Nat → Nat → Nat × Nat} {D : Nat → Nat → Prop} {σ : rl_M} {i : Nat} {t : Lean.Data.AC.Expr} (h : z_CA g s D σ i t) : z_Has σ (i + z_nd t) (z_out g s D i t) (z_lv t) := by
  cases t with
  | var r => exact h
  | op l r => exact h.2.2
theorem z_CA_f {g : Nat → Nat} {s : Nat → Nat → Nat × Nat} {D : Nat → Nat → Prop} {σ τ : rl_M} : ∀ (t : Lean.Data.AC.Expr) (i : Nat), (∀ c, 23 + 3 * i ≤ c → c ≤ 23 + 3 * (i + z_nd t) + 2 → τ c = σ c) → z_CA g s D σ i t → z_CA g s D τ i t := by
  intro t
  induction t with
  | var r => intro i e h; exact z_Has_f h (fun c h1 h2 => e c h1 (by simp only [z_nd]; omega))
  | op l r il ir =>
    intro i e h
    simp only [z_nd] at e
    exact ⟨il i (fun c h1 h2 => e c h1 (by omega)) h.1, ir _ (fun c h1 h2 => e c (by omega) (by omega)) h.2.1, z_Has_f h.2.2 (fun c h1 h2 => e c (by omega) (by omega))⟩
theorem z_CA_D {g : Nat → Nat} {s : Nat → Nat → Nat × Nat} {D D' : Nat → Nat → Prop} {σ : rl_M} : ∀ (t : Lean.Data.AC.Expr) (i : Nat), (∀ r ∈ z_rm t, ∀ j, D r j ↔ D' r j) → z_CA g s D σ i t → z_CA g s D' σ i t := by
  intro t
  induction t with
  | var r => intro i e h; exact z_Has_x h (fun p => ⟨z_out_D _ _ p (fun q hq j => (e q hq j).mp), z_out_D _ _ p (fun q hq j => (e q hq j).mpr)⟩)
  | op l r il ir =>
    intro i e h
    exact ⟨il i (fun q hq => e q (by simp [z_rm, hq])) h.1, ir _ (fun q hq => e q (by simp [z_rm, hq])) h.2.1, z_Has_x h.2.2 (fun p => ⟨z_out_D _ _ p (fun q hq j => (e q hq j).mp), z_out_D _ _ p (fun q hq j => (e q hq j).mpr)⟩)⟩
/-- the order's signs in the class -/
def z_Or (σ : rl_M) (g : Nat → Nat) (m : Nat) : Prop := σ 8 0 = nI m ∧ ∀ k, k < m → σ 9 k = nI (g k)
def z_Tr (σ : rl_M) : Nat → Lean.Data.AC.Expr → Prop
  | _, .var _ => True
  | i, .op l r => z_Tr σ i l ∧ z_Tr σ (i + z_nd l + 1) r ∧ σ 10 (i + (z_nd l + z_nd r + 2)) = nI (i + z_nd l) ∧ σ 11 (i + (z_nd l + z_nd r + 2)) = nI (i + z_nd l + 1 + z_nd r) ∧ σ 12 (i + z_nd l) = nI (i + (z_nd l + z_nd r + 2)) ∧ σ 12 (i + z_nd l + 1 + z_nd r) = nI (i + (z_nd l + z_nd r + 2))
def z_Sz (σ : rl_M) (n : Nat → Nat) (s : Nat → Nat → Nat × Nat) : Prop := ∀ r, r < 6 → σ 5 r = nI (n r) ∧ n r ≤ 4 ∧ ∀ j, j < 4 → σ 6 (4 * r + j) = nI (s r j).1 ∧ σ 7 (4 * r + j) = nI (s r j).2
theorem z_Or_f {σ τ : rl_M} {g : Nat → Nat} {m : Nat} (e : ∀ c, c < 16 → τ c = σ c) (h : z_Or σ g m) : z_Or τ g m := by
  unfold z_Or at *
  rw [e 8 (by omega), e 9 (by omega)]; exact h
theorem z_Sz_f {σ τ : rl_M} {n : Nat → Nat} {s : Nat → Nat → Nat × Nat} (e : ∀ c, c < 16 → τ c = σ c) (h : z_Sz σ n s) : z_Sz τ n s := by
  unfold z_Sz at *
  rw [e 5 (by omega), e 6 (by omega), e 7 (by omega)]; exact h
theorem z_Tr_f {σ τ : rl_M} (e : ∀ c, c < 16 → τ c = σ c) : ∀ (t : Lean.Data.AC.Expr) (i : Nat), z_Tr σ i t → z_Tr τ i t := by
  intro t
  induction t with
  | var r => intro i h; trivial
  | op l r il ir =>
    intro i h
    refine ⟨il i h.1, ir _ h.2.1, ?_⟩
    rw [e 10 (by omega), e 11 (by omega), e 12 (by omega)]
    exact h.2.2
theorem z_has {σ : rl_M} {m k : Nat} (h : σ 8 0 = nI m) (hm : m ≤ 11) (hk : k < m) : rf_St_has (nI k) σ = some (1, σ) := by
  unfold rf_St_has
  simp (disch := omega) only [h, z_lt, z_le, z_eq, z_ltl, z_lel, z_llt, z_lle, z_eql, z_add, z_addl, z_ladd, z_mul, z_mull, z_lmul, z_sub, z_subl, z_cl, z_ib, z_nm, z_m1, z_mlt, if_pos, if_neg, ge_iff_le, gt_iff_lt, ite_true, ite_false, if_true, if_false, Option.bind_some]
theorem z_hasn (σ : rl_M) : rf_St_has (-1) σ = some (0, σ) := by
  unfold rf_St_has
  simp only [z_mlt, if_true]
theorem z_first {σ : rl_M} {m k : Nat} (h : σ 8 0 = nI m) (hm : m ≤ 11) (hk : k < m) : rf_St_firstOf (nI k) σ = some (σ 10 k, σ) := by
  unfold rf_St_firstOf
  rw [z_has h hm hk]
  simp (disch := omega) only [z_lt, z_le, z_eq, z_ltl, z_lel, z_llt, z_lle, z_eql, z_add, z_addl, z_ladd, z_mul, z_mull, z_lmul, z_sub, z_subl, z_cl, z_ib, z_nm, z_m1, z_mlt, if_pos, if_neg, ge_iff_le, gt_iff_lt, ite_true, ite_false, if_true, if_false, Option.bind_some, z_10, eq_self]
theorem z_second {σ : rl_M} {m k : Nat} (h : σ 8 0 = nI m) (hm : m ≤ 11) (hk : k < m) : rf_St_secondOf (nI k) σ = some (σ 11 k, σ) := by
  unfold rf_St_secondOf
  rw [z_has h hm hk]
  simp (disch := omega) only [z_lt, z_le, z_eq, z_ltl, z_lel, z_llt, z_lle, z_eql, z_add, z_addl, z_ladd, z_mul, z_mull, z_lmul, z_sub, z_subl, z_cl, z_ib, z_nm, z_m1, z_mlt, if_pos, if_neg, ge_iff_le, gt_iff_lt, ite_true, ite_false, if_true, if_false, Option.bind_some, z_10, eq_self]
theorem z_parent {σ : rl_M} {m k : Nat} (h : σ 8 0 = nI m) (hm : m ≤ 11) (hk : k < m) : rf_St_parentOf (nI k) σ = some (σ 12 k, σ) := by
  unfold rf_St_parentOf
  rw [z_has h hm hk]
  simp (disch := omega) only [z_lt, z_le, z_eq, z_ltl, z_lel, z_llt, z_lle, z_eql, z_add, z_addl, z_ladd, z_mul, z_mull, z_lmul, z_sub, z_subl, z_cl, z_ib, z_nm, z_m1, z_mlt, if_pos, if_neg, ge_iff_le, gt_iff_lt, ite_true, ite_false, if_true, if_false, Option.bind_some, z_10, eq_self]
theorem z_sign {σ : rl_M} {m k : Nat} (h : σ 8 0 = nI m) (hm : m ≤ 11) (hk : k < m) : rf_St_signAt (nI k) σ = some (σ 9 k, σ) := by
  unfold rf_St_signAt
  rw [z_has h hm hk]
  simp (disch := omega) only [z_lt, z_le, z_eq, z_ltl, z_lel, z_llt, z_lle, z_eql, z_add, z_addl, z_ladd, z_mul, z_mull, z_lmul, z_sub, z_subl, z_cl, z_ib, z_nm, z_m1, z_mlt, if_pos, if_neg, ge_iff_le, gt_iff_lt, ite_true, ite_false, if_true, if_false, Option.bind_some, z_10, eq_self]
theorem z_ra_r {σ : rl_M} {m k r : Nat} (h : σ 8 0 = nI m) (hm : m ≤ 11) (hk : k < m) (h9 : σ 9 k = nI (48 + r)) (hr : r < 6) : rf_St_roomAt (nI k) σ = some (nI r, σ) := by
  unfold rf_St_roomAt
  rw [z_sign h hm hk, h9]
  unfold rf_Ro_roomOfSign
  simp (disch := omega) only [z_lt, z_le, z_eq, z_ltl, z_lel, z_llt, z_lle, z_eql, z_add, z_addl, z_ladd, z_mul, z_mull, z_lmul, z_sub, z_subl, z_cl, z_ib, z_nm, z_m1, z_mlt, if_pos, if_neg, ge_iff_le, gt_iff_lt, ite_true, ite_false, if_true, if_false, Option.bind_some, z_10, eq_self, Nat.add_sub_cancel_left]
theorem z_ra_j {σ : rl_M} {m k v : Nat} (h : σ 8 0 = nI m) (hm : m ≤ 11) (hk : k < m) (h9 : σ 9 k = nI v) (hv : v = 124 ∨ v = 45) : rf_St_roomAt (nI k) σ = some (-1, σ) := by
  unfold rf_St_roomAt
  rw [z_sign h hm hk, h9]
  unfold rf_Ro_roomOfSign
  rcases hv with rfl | rfl
  · simp (disch := omega) only [z_lt, z_le, z_eq, z_ltl, z_lel, z_llt, z_lle, z_eql, z_add, z_addl, z_ladd, z_mul, z_mull, z_lmul, z_sub, z_subl, z_cl, z_ib, z_nm, z_m1, z_mlt, if_pos, if_neg, ge_iff_le, gt_iff_lt, ite_true, ite_false, if_true, if_false, Option.bind_some, z_10, eq_self]
  · simp (disch := omega) only [z_lt, z_le, z_eq, z_ltl, z_lel, z_llt, z_lle, z_eql, z_add, z_addl, z_ladd, z_mul, z_mull, z_lmul, z_sub, z_subl, z_cl, z_ib, z_nm, z_m1, z_mlt, if_pos, if_neg, ge_iff_le, gt_iff_lt, ite_true, ite_false, if_true, if_false, Option.bind_some, z_10, eq_self]
theorem z_cv {k : Nat} (h : k < 2147483648) : rl_cv (nI k) = 23 + 3 * k := by
  unfold rl_cv; rw [z_cl h]
theorem z_so {σ : rl_M} {n : Nat → Nat} {s : Nat → Nat → Nat × Nat} {r : Nat} (h : z_Sz σ n s) (hr : r < 6) : rf_Rl_sizesOf (nI r) σ = some (nI (n r), σ) := by
  unfold rf_Rl_sizesOf
  simp (disch := omega) only [z_lt, z_le, z_eq, z_ltl, z_lel, z_llt, z_lle, z_eql, z_add, z_addl, z_ladd, z_mul, z_mull, z_lmul, z_sub, z_subl, z_cl, z_ib, z_nm, z_m1, z_mlt, if_pos, if_neg, ge_iff_le, gt_iff_lt, ite_true, ite_false, if_true, if_false, Option.bind_some, z_10, eq_self, (h r hr).1]
theorem z_wo {σ : rl_M} {n : Nat → Nat} {s : Nat → Nat → Nat × Nat} {r j : Nat} (h : z_Sz σ n s) (hr : r < 6) (hj : j < 4) : rf_Rl_widthOf (nI r) (nI j) σ = some (nI (s r j).1, σ) := by
  unfold rf_Rl_widthOf rf_Rl_slot rf_Rl_slot_J24
  have e := ((h r hr).2.2 j hj).1
  rw [show 4 * r + j = r * 4 + j by omega] at e
  simp (disch := omega) only [z_lt, z_le, z_eq, z_ltl, z_lel, z_llt, z_lle, z_eql, z_add, z_addl, z_ladd, z_mul, z_mull, z_lmul, z_sub, z_subl, z_cl, z_ib, z_nm, z_m1, z_mlt, if_pos, if_neg, ge_iff_le, gt_iff_lt, ite_true, ite_false, if_true, if_false, Option.bind_some, z_10, eq_self, e]
theorem z_ho {σ : rl_M} {n : Nat → Nat} {s : Nat → Nat → Nat × Nat} {r j : Nat} (h : z_Sz σ n s) (hr : r < 6) (hj : j < 4) : rf_Rl_heightOf (nI r) (nI j) σ = some (nI (s r j).2, σ) := by
  unfold rf_Rl_heightOf rf_Rl_slot rf_Rl_slot_J24
  have e := ((h r hr).2.2 j hj).2
  rw [show 4 * r + j = r * 4 + j by omega] at e
  simp (disch := omega) only [z_lt, z_le, z_eq, z_ltl, z_lel, z_llt, z_lle, z_eql, z_add, z_addl, z_ladd, z_mul, z_mull, z_lmul, z_sub, z_subl, z_cl, z_ib, z_nm, z_m1, z_mlt, if_pos, if_neg, ge_iff_le, gt_iff_lt, ite_true, ite_false, if_true, if_false, Option.bind_some, z_10, eq_self, e]
theorem z_ts (k r : Nat) (hk : k < 11) (hr : r < 6) {n : Nat → Nat} {s : Nat → Nat → Nat × Nat} (hb : ∀ j, j < n r → z_Bs (s r j) 1) : ∀ (d j : Nat) (σ : rl_M) (f : Nat) (L : List (Nat × Nat)), j + d = n r → d < f → z_Sz σ n s → z_Cv σ (23 + 3 * k) L → z_Rep L (fun p => ∃ i, i < j ∧ p = s r i) → L.length ≤ j →
    ∃ τ M, rf_Pl_takeSizes_L23 (nI k) (nI r) f (nI j) σ = some (0, τ) ∧ z_Cv τ (23 + 3 * k) M ∧ z_Rep M (fun p => ∃ i, i < n r ∧ p = s r i) ∧ M.length ≤ n r ∧ z_F (23 + 3 * k) σ τ := by
  intro d
  induction d with
  | zero =>
    intro j σ f L hj hf hs hc hrep hl
    obtain ⟨f, rfl⟩ : ∃ g, f = g + 1 := ⟨f - 1, by omega⟩
    have h4 := (hs r hr).2.1
    have e : j = n r := by omega
    subst e
    refine ⟨σ, L, ?_, hc, hrep, hl, z_F.rf⟩
    unfold rf_Pl_takeSizes_L23
    rw [z_so hs hr]
    simp (disch := omega) only [z_lt, z_le, z_eq, z_ltl, z_lel, z_llt, z_lle, z_eql, z_add, z_addl, z_ladd, z_mul, z_mull, z_lmul, z_sub, z_subl, z_cl, z_ib, z_nm, z_m1, z_mlt, if_pos, if_neg, ge_iff_le, gt_iff_lt, ite_true, ite_false, if_true, if_false, Option.bind_some, z_10, eq_self]
  | succ d ih =>
    intro j σ f L hj hf hs hc hrep hl
    obtain ⟨f, rfl⟩ : ∃ g, f = g + 1 := ⟨f - 1, by omega⟩
    have h4 := (hs r hr).2.1
    have hbj := hb j (by omega)
    unfold z_Bs at hbj
    obtain ⟨τ, M, t1, t2, t3, t4, t5, t6⟩ := z_offer σ (23 + 3 * k) (s r j).1 (s r j).2 (by omega) (by omega) hc ⟨by omega, by
      intro p hp
      obtain ⟨i, hi, e⟩ := hrep.1 p hp
      have := hb i (by omega)
      unfold z_Bs at this
      subst e; omega⟩ (by omega) hrep
    have fr : ∀ c, c < 16 → τ c = σ c := fun c hc => t6 c (by omega) (by omega) (by omega)
    obtain ⟨υ, M', u1, u2, u3, u4, u5⟩ := ih (j + 1) τ f M (by omega) (by omega) (z_Sz_f fr hs) t2 (z_Rep_x t5 (by
      intro p
      constructor
      · rintro (⟨i, hi, e⟩ | e)
        · exact ⟨i, by omega, e⟩
        · exact ⟨j, by omega, e⟩
      · rintro ⟨i, hi, e⟩
        by_cases q : i < j
        · exact Or.inl ⟨i, q, e⟩
        · have : i = j := by omega
          subst this
          exact Or.inr e)) (by omega)
    refine ⟨υ, M', ?_, u2, u3, u4, t6.tr u5⟩
    unfold rf_Pl_takeSizes_L23
    rw [z_so hs hr]
    simp (disch := omega) only [z_lt, z_le, z_eq, z_ltl, z_lel, z_llt, z_lle, z_eql, z_add, z_addl, z_ladd, z_mul, z_mull, z_lmul, z_sub, z_subl, z_cl, z_ib, z_nm, z_m1, z_mlt, if_pos, if_neg, ge_iff_le, gt_iff_lt, ite_true, ite_false, if_true, if_false, Option.bind_some, z_10, eq_self, z_wo hs hr, z_ho hs hr, z_cv, t1, u1]
theorem z_take {σ : rl_M} {m k r : Nat} (h8 : σ 8 0 = nI m) (hm : m ≤ 11) (hk : k < m) (hr : r < 6) {n : Nat → Nat} {s : Nat → Nat → Nat × Nat} (hs : z_Sz σ n s) (hb : ∀ j, j < n r → z_Bs (s r j) 1) :
    ∃ τ, rf_Pl_takeSizes (nI k) (nI r) σ = some (0, τ) ∧ z_Has τ k (fun p => ∃ i, i < n r ∧ p = s r i) 1 ∧ z_F (23 + 3 * k) σ τ := by
  have F0 : z_F (23 + 3 * k) σ (rl_su σ (23 + 3 * k) 0 (nI 0)) := z_F_cl
  have fr : ∀ c, c < 16 → (rl_su σ (23 + 3 * k) 0 (nI 0)) c = σ c := fun c hc => F0 c (by omega) (by omega) (by omega)
  have h4 := (hs r hr).2.1
  obtain ⟨τ, M, t1, t2, t3, t4, t5⟩ := z_ts k r (by omega) hr hb (n r) 0 (rl_su σ (23 + 3 * k) 0 (nI 0)) 10000 [] (by omega) (by omega) (z_Sz_f fr hs) z_Cv_nil ⟨by simp, by rintro p ⟨i, hi, e⟩; omega, by simp⟩ (by simp)
  refine ⟨τ, ?_, ⟨M, t2, t3, by omega⟩, F0.tr t5⟩
  unfold rf_Pl_takeSizes
  rw [z_has h8 hm hk]
  simp (disch := omega) only [z_lt, z_le, z_eq, z_ltl, z_lel, z_llt, z_lle, z_eql, z_add, z_addl, z_ladd, z_mul, z_mull, z_lmul, z_sub, z_subl, z_cl, z_ib, z_nm, z_m1, z_mlt, if_pos, if_neg, ge_iff_le, gt_iff_lt, ite_true, ite_false, if_true, if_false, Option.bind_some, z_10, eq_self, z_cv, z_cl0]
  exact t1
theorem z_plj {σ : rl_M} {m k k1 k2 v l1 l2 : Nat} {P Q : Nat × Nat → Prop} (h8 : σ 8 0 = nI m) (hm : m ≤ 11) (hk : k < m) (h1 : k1 < k) (h2 : k2 < k) (h9 : σ 9 k = nI v) (hv : v = 124 ∨ v = 45) (h10 : σ 10 k = nI k1) (h11 : σ 11 k = nI k2) (H1 : z_Has σ k1 P l1) (H2 : z_Has σ k2 Q l2) (b1 : ∀ p, P p → p.1 ≤ 1000 ∧ p.2 ≤ 1000) (b2 : ∀ p, Q p → p.1 ≤ 1000 ∧ p.2 ≤ 1000) (hl : l1 + l2 ≤ 6) :
    ∃ τ, rf_Pl_join (nI k) σ = some (0, τ) ∧ z_Has τ k (fun p => ∃ a b, P a ∧ Q b ∧ p = z_cb v a b) (l1 + l2) ∧ z_F (23 + 3 * k) σ τ := by
  obtain ⟨A, hA, rA, lA⟩ := H1
  obtain ⟨B, hB, rB, lB⟩ := H2
  have sA : z_Sm A := ⟨by omega, fun p hp => b1 p (rA.1 p hp)⟩
  have sB : z_Sm B := ⟨by omega, fun p hp => b2 p (rB.1 p hp)⟩
  rcases hv with rfl | rfl
  · obtain ⟨τ, M, t1, t2, t3, t4, t5⟩ := z_beside σ (23 + 3 * k) (23 + 3 * k1) (23 + 3 * k2) (by omega) (by omega) hA hB sA sB (by omega) rA rB
    refine ⟨τ, ?_, ⟨M, t2, z_Rep_x t4 (fun p => by simp only [z_cb, if_true]), by omega⟩, t5⟩
    unfold rf_Pl_join
    simp (disch := omega) only [z_first h8 hm hk, z_second h8 hm hk, z_sign h8 hm hk, h9, h10, h11, z_has h8 hm, z_lt, z_le, z_eq, z_ltl, z_lel, z_llt, z_lle, z_eql, z_add, z_addl, z_ladd, z_mul, z_mull, z_lmul, z_sub, z_subl, z_cl, z_ib, z_nm, z_m1, z_mlt, if_pos, if_neg, ge_iff_le, gt_iff_lt, ite_true, ite_false, if_true, if_false, Option.bind_some, z_10, eq_self, z_cv, t1]
  · obtain ⟨τ, M, t1, t2, t3, t4, t5⟩ := z_above σ (23 + 3 * k) (23 + 3 * k1) (23 + 3 * k2) (by omega) (by omega) hA hB sA sB (by omega) rA rB
    refine ⟨τ, ?_, ⟨M, t2, z_Rep_x t4 (fun p => by simp [z_cb]), by omega⟩, t5⟩
    unfold rf_Pl_join
    simp (disch := omega) only [z_first h8 hm hk, z_second h8 hm hk, z_sign h8 hm hk, h9, h10, h11, z_has h8 hm, z_lt, z_le, z_eq, z_ltl, z_lel, z_llt, z_lle, z_eql, z_add, z_addl, z_ladd, z_mul, z_mull, z_lmul, z_sub, z_subl, z_cl, z_ib, z_nm, z_m1, z_mlt, if_pos, if_neg, ge_iff_le, gt_iff_lt, ite_true, ite_false, if_true, if_false, Option.bind_some, z_10, eq_self, z_cv, t1]
/-- only the curves of the nodes lo .. hi differ -/
def z_FR (lo hi : Nat) (σ τ : rl_M) : Prop := ∀ c, (c < 23 + 3 * lo ∨ 23 + 3 * hi + 2 < c) → τ c = σ c
theorem z_FR.tr {lo hi : Nat} {σ τ υ : rl_M} (h : z_FR lo hi σ τ) (h2 : z_FR lo hi τ υ) : z_FR lo hi σ υ := fun c hc => (h2 c hc).trans (h c hc)
theorem z_FR.wk {lo hi lo' hi' : Nat} {σ τ : rl_M} (h : z_FR lo hi σ τ) (h1 : lo' ≤ lo) (h2 : hi ≤ hi') : z_FR lo' hi' σ τ := fun c hc => h c (by omega)
theorem z_F.fr {k : Nat} {σ τ : rl_M} (h : z_F (23 + 3 * k) σ τ) : z_FR k k σ τ := fun c hc => h c (by omega) (by omega) (by omega)
theorem z_FR.lo {lo hi : Nat} {σ τ : rl_M} (h : z_FR lo hi σ τ) : ∀ c, c < 23 → τ c = σ c := fun c hc => h c (by omega)
theorem z_FR.l6 {lo hi : Nat} {σ τ : rl_M} (h : z_FR lo hi σ τ) : ∀ c, c < 16 → τ c = σ c := fun c hc => h c (by omega)
theorem z_FR.rf {lo hi : Nat} {σ : rl_M} : z_FR lo hi σ σ := fun _ _ => rfl
theorem z_Bs_6 {p : Nat × Nat} {k : Nat} (h : z_Bs p k) (hk : k ≤ 6) : p.1 ≤ 1000 ∧ p.2 ≤ 1000 := by
  unfold z_Bs at h; omega
theorem z_ms {g : Nat → Nat} {s : Nat → Nat → Nat × Nat} {n : Nat → Nat} {m : Nat} (hm : m ≤ 11) : ∀ (t : Lean.Data.AC.Expr) (i : Nat) (σ : rl_M), z_Or σ g m → z_Sz σ n s → z_Tr σ i t → z_Fl g i t → (∀ r ∈ z_rm t, ∀ j, j < n r → z_Bs (s r j) 1) → i + z_nd t < m →
    ∃ τ, (∀ (K : rl_M → Option (Int32 × rl_M)) (f : Nat), rf_Pl_measure_L10 K (f + (z_nd t + 1)) (nI i) σ = rf_Pl_measure_L10 K f (nI (i + z_nd t + 1)) τ) ∧ z_CA g s (fun r j => j < n r) τ i t ∧ z_FR i (i + z_nd t) σ τ := by
  intro t
  induction t with
  | var r =>
    intro i σ ho hs ht hf hb hi
    simp only [z_nd, Nat.add_zero, Nat.zero_add] at hi ⊢
    obtain ⟨τ, t1, t2, t3⟩ := z_take ho.1 hm hi hf.2 hs (hb r (by simp [z_rm]))
    refine ⟨τ, ?_, z_Has_x t2 (fun p => Iff.rfl), t3.fr⟩
    intro K f
    have hr6 : r < 6 := hf.2
    conv => lhs; unfold rf_Pl_measure_L10
    simp (disch := omega) only [z_ra_r ho.1 hm hi ((ho.2 i hi).trans (congrArg nI hf.1)) hf.2, ho.1, z_lt, z_le, z_eq, z_ltl, z_lel, z_llt, z_lle, z_eql, z_add, z_addl, z_ladd, z_mul, z_mull, z_lmul, z_sub, z_subl, z_cl, z_ib, z_nm, z_m1, z_mlt, if_pos, if_neg, ge_iff_le, gt_iff_lt, ite_true, ite_false, if_true, if_false, Option.bind_some, z_10, eq_self, t1]
  | op l r il ir =>
    intro i σ ho hs ht hf hb hi
    have nl := z_nl (.op l r)
    have hb' := hb
    simp only [z_nd] at hi
    simp only [z_nd, z_lv] at nl
    obtain ⟨τ1, t1, t2, t3⟩ := il i σ ho hs ht.1 hf.1 (fun q hq => hb q (by simp [z_rm, hq])) (by omega)
    obtain ⟨τ2, u1, u2, u3⟩ := ir (i + z_nd l + 1) τ1 (z_Or_f t3.l6 ho) (z_Sz_f t3.l6 hs) (z_Tr_f t3.l6 _ _ ht.2.1) hf.2.1 (fun q hq => hb q (by simp [z_rm, hq])) (by omega)
    have t2' : z_CA g s (fun r j => j < n r) τ2 i l := z_CA_f l i (fun c h1 h2 => u3 c (by omega)) t2
    have fr : ∀ c, c < 16 → τ2 c = σ c := fun c hc => (u3.l6 c hc).trans (t3.l6 c hc)
    have ho2 := z_Or_f fr ho
    have ht2 := z_Tr_f fr _ _ ht
    obtain ⟨τ3, v1, v2, v3⟩ := z_plj (k := i + (z_nd l + z_nd r + 2)) ho2.1 hm hi (by omega) (by omega) (ho2.2 _ hi) hf.2.2 ht2.2.2.1 ht2.2.2.2.1 (z_CA_top t2') (z_CA_top u2)
      (fun p hp => z_Bs_6 (z_out_b l i p (fun q hq => hb q (by simp [z_rm, hq])) hp) (by omega)) (fun p hp => z_Bs_6 (z_out_b r _ p (fun q hq => hb q (by simp [z_rm, hq])) hp) (by omega)) (by omega)
    refine ⟨τ3, ?_, ⟨z_CA_f l i (fun c h1 h2 => v3.fr c (by omega)) t2', z_CA_f r _ (fun c h1 h2 => v3.fr c (by omega)) u2, z_Has_x v2 (fun p => Iff.rfl)⟩, ?_⟩
    · intro K f
      have e : f + (z_nd (.op l r) + 1) = (f + 1 + (z_nd r + 1)) + (z_nd l + 1) := by simp only [z_nd]; omega
      rw [e, t1, u1]
      have e2 : i + z_nd l + 1 + z_nd r + 1 = i + (z_nd l + z_nd r + 2) := by omega
      rw [e2]
      conv => lhs; unfold rf_Pl_measure_L10
      simp (disch := omega) only [z_ra_j ho2.1 hm hi (ho2.2 _ hi) hf.2.2, ho2.1, z_lt, z_le, z_eq, z_ltl, z_lel, z_llt, z_lle, z_eql, z_add, z_addl, z_ladd, z_mul, z_mull, z_lmul, z_sub, z_subl, z_cl, z_ib, z_nm, z_m1, z_mlt, if_pos, if_neg, ge_iff_le, gt_iff_lt, ite_true, ite_false, if_true, if_false, Option.bind_some, z_10, eq_self, v1, z_nd]
    · simp only [z_nd]
      exact ((t3.wk (by omega) (by omega)).tr (u3.wk (by omega) (by omega))).tr (v3.fr.wk (by omega) (by omega))
