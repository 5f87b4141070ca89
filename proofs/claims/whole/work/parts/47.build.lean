/-- the parts of a row of k signs, the last first -/
def z_Stk (g : Nat → Nat) : Nat → List Lean.Data.AC.Expr → Prop
  | k, [] => k = 0
  | k, t :: ts => ∃ i, i + z_nd t + 1 = k ∧ z_Fl g i t ∧ z_Stk g i ts
def z_rs : List Lean.Data.AC.Expr → List Nat
  | [] => []
  | t :: ts => z_rs ts ++ z_rm t
theorem z_stk {g n : Nat → Nat} : ∀ (L : List Nat) (k : Nat) (ts : List Lean.Data.AC.Expr) (s p : Nat), z_Stk g k ts → (∀ i b, L[i]? = some b → g (k + i) = b) → (z_rs ts).Nodup → (∀ r ∈ z_rs ts, r < 6 ∧ n r ≠ 0) → s < 64 → (∀ r, r < 6 → (s / 2 ^ r % 2 = 0 ↔ ¬ r ∈ z_rs ts)) → z_chk n L k ts.length s = (0, p) →
    ∃ ts', z_Stk g (k + L.length) ts' ∧ ts'.length = p ∧ (z_rs ts').Nodup ∧ (∀ r ∈ z_rs ts', r < 6 ∧ n r ≠ 0) := by
  intro L
  induction L with
  | nil =>
    intro k ts s p hS hg hn hr hs hb hc
    simp only [z_chk, Prod.mk.injEq] at hc
    exact ⟨ts, by simpa using hS, hc.2, hn, hr⟩
  | cons x L ih =>
    intro k ts s p hS hg hn hr hs hb hc
    have gk : g k = x := by have := hg 0 x (by simp); simpa using this
    have hg' : ∀ i b, L[i]? = some b → g (k + 1 + i) = b := fun i b h => by
      have := hg (i + 1) b (by simpa using h)
      rwa [show k + 1 + i = k + (i + 1) by omega]
    simp only [z_chk] at hc
    by_cases c1 : x = 124 ∨ x = 45
    · rw [if_pos c1] at hc
      by_cases c2 : ts.length < 2
      · rw [if_pos c2] at hc
        simp at hc
      · rw [if_neg c2] at hc
        match ts, hS, hn, hr, hb, hc, c2 with
        | [], _, _, _, _, _, c2 => simp at c2
        | [_], _, _, _, _, _, c2 => simp at c2
        | t2 :: t1 :: ts, hS, hn, hr, hb, hc, c2 =>
          obtain ⟨i2, e2, f2, i1, e1, f1, hS⟩ := hS
          have er : z_rs (Lean.Data.AC.Expr.op t1 t2 :: ts) = z_rs (t2 :: t1 :: ts) := by
            simp only [z_rs, z_rm, List.append_assoc]
          have hk : i1 + (z_nd t1 + z_nd t2 + 2) = k := by omega
          have r := ih (k + 1) (Lean.Data.AC.Expr.op t1 t2 :: ts) s p ⟨i1, by simp only [z_nd]; omega, ⟨f1, by rw [show i1 + z_nd t1 + 1 = i2 by omega]; exact f2, by rw [hk, gk]; exact c1⟩, hS⟩ hg' (by rw [er]; exact hn) (by rw [er]; exact hr) hs (by rw [er]; exact hb) (by
            simp only [List.length_cons] at hc ⊢
            rw [show ts.length + 1 + 1 - 1 = ts.length + 1 by omega] at hc
            exact hc)
          simp only [List.length_cons]
          rw [show k + (L.length + 1) = k + 1 + L.length by omega]
          exact r
    · rw [if_neg c1] at hc
      by_cases c2 : 48 ≤ x ∧ x < 54 ∧ n (x - 48) ≠ 0 ∧ s / 2 ^ (x - 48) % 2 = 0
      · rw [if_pos c2] at hc
        obtain ⟨d1, d2, d3, d4⟩ := c2
        have t4 := z_bt4 ⟨s, hs⟩ ⟨x - 48, by omega⟩ d4
        simp only at t4
        have nin := (hb (x - 48) (by omega)).mp d4
        have r := ih (k + 1) (Lean.Data.AC.Expr.var (x - 48) :: ts) (s + 2 ^ (x - 48)) p ⟨k, rfl, ⟨by omega, by omega⟩, hS⟩ hg' (by
            simp only [z_rs, z_rm]
            refine List.pairwise_append.mpr ⟨hn, by simp, ?_⟩
            intro a ha b hb2
            rw [List.mem_singleton] at hb2
            subst hb2
            exact fun e => nin (e ▸ ha)) (by
            intro q hq
            simp only [z_rs, z_rm] at hq
            rcases List.mem_append.mp hq with h | h
            · exact hr q h
            · rw [List.mem_singleton] at h; subst h; exact ⟨by omega, d3⟩) t4.1 (by
            intro q hq
            have t5 := t4.2 ⟨q, hq⟩
            simp only [Fin.mk.injEq] at t5
            simp only [z_rs, z_rm, List.mem_append, List.mem_singleton]
            by_cases e : q = x - 48
            · rw [if_pos e] at t5
              rw [t5]
              constructor
              · intro h; omega
              · intro h; exact (h (Or.inr e)).elim
            · rw [if_neg e] at t5
              rw [t5, hb q hq]
              constructor
              · intro h h2; rcases h2 with h2 | h2
                · exact h h2
                · exact e h2
              · intro h h2; exact h (Or.inl h2)) hc
        simp only [List.length_cons]
        rw [show k + (L.length + 1) = k + 1 + L.length by omega]
        exact r
      · rw [if_neg c2] at hc
        simp at hc
theorem z_nd6 : ∀ (k : Nat) (L : List Nat), L.Nodup → (∀ x ∈ L, x < k) → L.length ≤ k := by
  intro k
  induction k with
  | zero =>
    intro L hn hx
    cases L with
    | nil => simp
    | cons a L => have := hx a (by simp); omega
  | succ k ih =>
    intro L hn hx
    by_cases q : k ∈ L
    · have h := ih (L.erase k) (hn.erase k) (by
        intro x h
        have h2 := (hn.mem_erase_iff).mp h
        have := hx x h2.2
        have := h2.1
        omega)
      rw [List.length_erase_of_mem q] at h
      omega
    · have h := ih L hn (by
        intro x h
        have h2 := hx x h
        have : x ≠ k := fun e => q (e ▸ h)
        omega)
      omega
theorem z_lr (t : Lean.Data.AC.Expr) : (z_rm t).length = z_lv t := by
  induction t with
  | var x => rfl
  | op l r il ir => simp only [z_rm, z_lv, List.length_append]; omega
theorem z_tree {g n : Nat → Nat} {L : List Nat} (hg : ∀ i b, L[i]? = some b → g i = b) (h : z_chk n L 0 0 0 = (0, 1)) : ∃ t, z_Fl g 0 t ∧ z_nd t + 1 = L.length ∧ z_nd t + 1 ≤ 11 ∧ (z_rm t).Nodup ∧ ∀ r ∈ z_rm t, r < 6 ∧ n r ≠ 0 := by
  obtain ⟨ts, h1, h2, h3, h4⟩ := z_stk (g := g) L 0 [] 0 1 rfl (fun i b hb => by rw [Nat.zero_add]; exact hg i b hb) (by simp [z_rs]) (by simp [z_rs]) (by omega) (by
    intro r hr
    have : 0 / 2 ^ r % 2 = 0 := by rw [Nat.zero_div]
    simp [z_rs, this]) h
  match ts, h1, h2, h3, h4 with
  | [], _, h2, _, _ => simp at h2
  | [t], h1, _, h3, h4 =>
    obtain ⟨i, e1, e2, e3⟩ := h1
    have e3' : i = 0 := e3
    subst e3'
    simp only [z_rs, List.nil_append] at h3 h4
    have l6 := z_nd6 6 (z_rm t) h3 (fun x hx => (h4 x hx).1)
    have nl := z_nl t
    rw [z_lr t] at l6
    exact ⟨t, e2, by omega, by omega, h3, h4⟩
  | _ :: _ :: _, _, h2, _, _ => simp at h2
theorem z_fg : ∀ (d x : Nat) (σ : rl_M) (f : Nat), x + d = 6 → d < f → ∃ τ, rf_St_forgetRooms_L2 f (nI x) σ = some (0, τ) ∧ (∀ q, q < 6 → τ 14 q = if x ≤ q then -1 else σ 14 q) ∧ (∀ e, e ≠ 14 → τ e = σ e) := by
  intro d
  induction d with
  | zero =>
    intro x σ f hx hf
    refine ⟨σ, ?_, fun q hq => by rw [if_neg (by omega)], fun _ _ => rfl⟩
    obtain ⟨f, rfl⟩ : ∃ g, f = g + 1 := ⟨f - 1, by omega⟩
    unfold rf_St_forgetRooms_L2
    simp (disch := omega) only [z_lt, z_le, z_eq, z_ltl, z_lel, z_llt, z_lle, z_eql, z_add, z_addl, z_ladd, z_mul, z_mull, z_lmul, z_sub, z_subl, z_cl, z_ib, z_nm, z_m1, z_mlt, if_pos, if_neg, ge_iff_le, gt_iff_lt, ite_true, ite_false, if_true, if_false, Option.bind_some, z_10, eq_self]
  | succ d ih =>
    intro x σ f hx hf
    obtain ⟨f, rfl⟩ : ∃ g, f = g + 1 := ⟨f - 1, by omega⟩
    obtain ⟨τ, t1, t2, t3⟩ := ih (x + 1) (rl_su σ 14 x (-1)) f (by omega) (by omega)
    refine ⟨τ, ?_, ?_, fun e he => (t3 e he).trans (z_su_ce he)⟩
    · unfold rf_St_forgetRooms_L2
      simp (disch := omega) only [z_lt, z_le, z_eq, z_ltl, z_lel, z_llt, z_lle, z_eql, z_add, z_addl, z_ladd, z_mul, z_mull, z_lmul, z_sub, z_subl, z_cl, z_ib, z_nm, z_m1, z_mlt, if_pos, if_neg, ge_iff_le, gt_iff_lt, ite_true, ite_false, if_true, if_false, Option.bind_some, z_10, eq_self, t1]
    · intro q hq
      rw [t2 q hq]
      by_cases c1 : x + 1 ≤ q
      · rw [if_pos c1, if_pos (by omega)]
      · rw [if_neg c1]
        by_cases c2 : x ≤ q
        · have e : q = x := by omega
          subst e
          rw [if_pos (by omega), z_su_s]
        · rw [if_neg c2, z_su_j (by omega)]
theorem z_Tr_g {σ τ : rl_M} : ∀ (t : Lean.Data.AC.Expr) (i : Nat), (∀ j, i ≤ j → j ≤ i + z_nd t → τ 10 j = σ 10 j ∧ τ 11 j = σ 11 j) → (∀ j, i ≤ j → j < i + z_nd t → τ 12 j = σ 12 j) → z_Tr σ i t → z_Tr τ i t := by
  intro t
  induction t with
  | var r => intro i e e2 h; trivial
  | op l r il ir =>
    intro i e e2 h
    simp only [z_nd] at e e2
    have a := e (i + (z_nd l + z_nd r + 2)) (by omega) (by omega)
    have b := e2 (i + z_nd l) (by omega) (by omega)
    have d := e2 (i + z_nd l + 1 + z_nd r) (by omega) (by omega)
    exact ⟨il i (fun j h1 h2 => e j h1 (by omega)) (fun j h1 h2 => e2 j h1 (by omega)) h.1, ir _ (fun j h1 h2 => e j (by omega) (by omega)) (fun j h1 h2 => e2 j (by omega) (by omega)) h.2.1, a.1.trans h.2.2.1, a.2.trans h.2.2.2.1, b.trans h.2.2.2.2.1, d.trans h.2.2.2.2.2⟩
theorem z_bd {g : Nat → Nat} {m : Nat} (hm : m ≤ 11) : ∀ (t : Lean.Data.AC.Expr) (i q : Nat) (σ : rl_M), σ 8 0 = nI m → σ 1 0 = nI m → (∀ k, k < m → σ 2 k = nI (g k)) → z_Fl g i t → (z_rm t).Nodup → i + z_nd t < m → q + z_lv t ≤ 7 →
    ∃ τ, (∀ f, rf_St_build_L21 (f + (z_nd t + 1)) (nI q) (nI i) σ = rf_St_build_L21 f (nI (q + 1)) (nI (i + z_nd t + 1)) τ) ∧ (∀ k, i ≤ k → k ≤ i + z_nd t → τ 9 k = nI (g k)) ∧ z_Tr τ i t ∧ τ 12 (i + z_nd t) = -1 ∧ τ 13 q = nI (i + z_nd t) ∧ (∀ j, j < q → τ 13 j = σ 13 j) ∧ (∀ r ∈ z_rm t, ∃ k, i ≤ k ∧ k ≤ i + z_nd t ∧ τ 14 r = nI k ∧ g k = 48 + r) ∧ (∀ r, ¬ r ∈ z_rm t → τ 14 r = σ 14 r) ∧ (∀ e, (e < 9 ∨ 14 < e) → τ e = σ e) ∧ (∀ j, (j < i ∨ i + z_nd t < j) → τ 9 j = σ 9 j ∧ τ 10 j = σ 10 j ∧ τ 11 j = σ 11 j ∧ τ 12 j = σ 12 j) := by
  intro t
  induction t with
  | var r =>
    intro i q σ h8 h1 h2 hf hn hi hq
    simp only [z_nd, z_lv, Nat.add_zero, Nat.zero_add] at hi hq ⊢
    have hr : r < 6 := hf.2
    have e2 : σ 2 i = nI (48 + r) := (h2 i hi).trans (congrArg nI hf.1)
    refine ⟨rl_su (rl_su (rl_su (rl_su σ 9 i (nI (48 + r))) 14 r (nI i)) 12 i (-1)) 13 q (nI i), ?_, ?_, trivial, ?_, ?_, ?_, ?_, ?_, ?_, ?_⟩
    · intro f
      conv => lhs; unfold rf_St_build_L21
      unfold rf_Sr_signAt rf_St_setSign rf_Ro_roomOfSign rf_Ro_joins
      simp (disch := omega) only [h8, h1, e2, z_lt, z_le, z_eq, z_ltl, z_lel, z_llt, z_lle, z_eql, z_add, z_addl, z_ladd, z_mul, z_mull, z_lmul, z_sub, z_subl, z_cl, z_ib, z_nm, z_m1, z_mlt, if_pos, if_neg, ge_iff_le, gt_iff_lt, ite_true, ite_false, if_true, if_false, Option.bind_some, z_10, eq_self, z_su_c, z_su_s, z_su_j, Nat.add_sub_cancel_left]
    · intro k h1 h2
      have e : k = i := by omega
      subst e
      rw [z_su_c (by omega), z_su_c (by omega), z_su_c (by omega), z_su_s, hf.1]
    · simp (disch := omega) only [z_su_c, z_su_s, z_su_j]
    · rw [z_su_s]
    · intro j hj
      simp (disch := omega) only [z_su_c, z_su_s, z_su_j]
    · intro x hx
      simp only [z_rm, List.mem_singleton] at hx
      subst hx
      exact ⟨i, by omega, by omega, by simp (disch := omega) only [z_su_c, z_su_s, z_su_j], hf.1⟩
    · intro x hx
      simp only [z_rm, List.mem_singleton] at hx
      simp (disch := omega) only [z_su_c, z_su_s, z_su_j]
    · intro e he
      rw [z_su_ce (by omega), z_su_ce (by omega), z_su_ce (by omega), z_su_ce (by omega)]
    · intro j hj
      simp (disch := omega) only [z_su_c, z_su_s, z_su_j]
      exact ⟨trivial, trivial, trivial, trivial⟩
  | op l r il ir =>
    intro i q σ h8 h1 h2 hf hn hi hq
    have nd := z_nda (A := z_rm l) (B := z_rm r) hn
    have nl := z_nl l
    have nr := z_nl r
    simp only [z_nd] at hi
    simp only [z_lv] at hq
    obtain ⟨τ1, t1, t2, t3, t4, t5, t6, t7, t8, t9, t10⟩ := il i q σ h8 h1 h2 hf.1 nd.1 (by omega) (by omega)
    obtain ⟨τ2, u1, u2, u3, u4, u5, u6, u7, u8, u9, u10⟩ := ir (i + z_nd l + 1) (q + 1) τ1 (by rw [t9 8 (by omega)]; exact h8) (by rw [t9 1 (by omega)]; exact h1) (fun k hk => by rw [t9 2 (by omega)]; exact h2 k hk) hf.2.1 nd.2.1 (by omega) (by omega)
    have s1 : τ2 13 q = nI (i + z_nd l) := (u6 q (by omega)).trans t5
    have h8' : τ2 8 0 = nI m := by rw [u9 8 (by omega), t9 8 (by omega)]; exact h8
    have h1' : τ2 1 0 = nI m := by rw [u9 1 (by omega), t9 1 (by omega)]; exact h1
    have e2 : τ2 2 (i + (z_nd l + z_nd r + 2)) = nI (g (i + (z_nd l + z_nd r + 2))) := by rw [u9 2 (by omega), t9 2 (by omega)]; exact h2 _ hi
    have hv := hf.2.2
    have tl : z_Tr τ2 i l := z_Tr_g l i (fun j h1 h2 => ⟨(u10 j (by omega)).2.1, (u10 j (by omega)).2.2.1⟩) (fun j h1 h2 => (u10 j (by omega)).2.2.2) t3
    generalize hkk : i + (z_nd l + z_nd r + 2) = k at *
    refine ⟨rl_su (rl_su (rl_su (rl_su (rl_su (rl_su (rl_su τ2 9 k (nI (g k))) 12 k (-1)) 10 k (nI (i + z_nd l))) 11 k (nI (i + z_nd l + 1 + z_nd r))) 12 (i + z_nd l) (nI k)) 12 (i + z_nd l + 1 + z_nd r) (nI k)) 13 q (nI k), ?_, ?_, ⟨?_, ?_, ?_, ?_, ?_, ?_⟩, ?_, ?_, ?_, ?_, ?_, ?_, ?_⟩
    · intro f
      have e : f + (z_nd (.op l r) + 1) = (f + 1 + (z_nd r + 1)) + (z_nd l + 1) := by simp only [z_nd]; omega
      rw [e, t1, u1]
      have e4 : i + z_nd l + 1 + z_nd r + 1 = k := by omega
      have e3 : i + z_nd (.op l r) = k := by simp only [z_nd]; omega
      rw [e4, e3]
      conv => lhs; unfold rf_St_build_L21
      unfold rf_Sr_signAt rf_St_setSign rf_Ro_roomOfSign rf_Ro_joins rf_St_link
      have e6 : q + 1 + 1 - 2 = q := by omega
      rcases hv with hv | hv
      · rw [hv] at e2 ⊢
        simp (disch := omega) only [h8', h1', e2, s1, u5, z_lt, z_le, z_eq, z_ltl, z_lel, z_llt, z_lle, z_eql, z_add, z_addl, z_ladd, z_mul, z_mull, z_lmul, z_sub, z_subl, z_cl, z_ib, z_nm, z_m1, z_mlt, if_pos, if_neg, ge_iff_le, gt_iff_lt, ite_true, ite_false, if_true, if_false, Option.bind_some, z_10, eq_self, z_su_c, z_su_s, z_su_j, z_m2, e6, Nat.add_sub_cancel]
      · rw [hv] at e2 ⊢
        simp (disch := omega) only [h8', h1', e2, s1, u5, z_lt, z_le, z_eq, z_ltl, z_lel, z_llt, z_lle, z_eql, z_add, z_addl, z_ladd, z_mul, z_mull, z_lmul, z_sub, z_subl, z_cl, z_ib, z_nm, z_m1, z_mlt, if_pos, if_neg, ge_iff_le, gt_iff_lt, ite_true, ite_false, if_true, if_false, Option.bind_some, z_10, eq_self, z_su_c, z_su_s, z_su_j, z_m2, e6, Nat.add_sub_cancel]
    · intro j h1 h2
      simp only [z_nd] at h2
      by_cases c1 : j = k
      · subst c1; simp (disch := omega) only [z_su_c, z_su_s, z_su_j]
      · simp (disch := omega) only [z_su_c, z_su_s, z_su_j]
        by_cases c2 : j ≤ i + z_nd l
        · rw [(u10 j (by omega)).1]; exact t2 j h1 c2
        · exact u2 j (by omega) (by omega)
    · refine z_Tr_g l i (fun j h1 h2 => ?_) (fun j h1 h2 => ?_) tl
      · simp (disch := omega) only [z_su_c, z_su_s, z_su_j]
        exact ⟨trivial, trivial⟩
      · simp (disch := omega) only [z_su_c, z_su_s, z_su_j]
    · refine z_Tr_g r _ (fun j h1 h2 => ?_) (fun j h1 h2 => ?_) u3
      · simp (disch := omega) only [z_su_c, z_su_s, z_su_j]
        exact ⟨trivial, trivial⟩
      · simp (disch := omega) only [z_su_c, z_su_s, z_su_j]
    · rw [hkk]; simp (disch := omega) only [z_su_c, z_su_s, z_su_j]
    · rw [hkk]; simp (disch := omega) only [z_su_c, z_su_s, z_su_j]
    · rw [hkk]; simp (disch := omega) only [z_su_c, z_su_s, z_su_j]
    · rw [hkk]; simp (disch := omega) only [z_su_c, z_su_s, z_su_j]
    · have e3 : i + z_nd (.op l r) = k := by simp only [z_nd]; omega
      rw [e3]; simp (disch := omega) only [z_su_c, z_su_s, z_su_j]
    · have e3 : i + z_nd (.op l r) = k := by simp only [z_nd]; omega
      rw [e3, z_su_s]
    · intro j hj
      simp (disch := omega) only [z_su_c, z_su_s, z_su_j]
      rw [u6 j (by omega), t6 j hj]
    · intro x hx
      simp only [z_rm] at hx
      simp only [z_nd]
      rcases List.mem_append.mp hx with h | h
      · obtain ⟨y, y1, y2, y3, y4⟩ := t7 x h
        refine ⟨y, by omega, by omega, ?_, y4⟩
        simp (disch := omega) only [z_su_c, z_su_s, z_su_j]
        rw [u8 x (nd.2.2 x h)]; exact y3
      · obtain ⟨y, y1, y2, y3, y4⟩ := u7 x h
        refine ⟨y, by omega, by omega, ?_, y4⟩
        simp (disch := omega) only [z_su_c, z_su_s, z_su_j]
        exact y3
    · intro x hx
      simp only [z_rm, List.mem_append] at hx
      simp (disch := omega) only [z_su_c, z_su_s, z_su_j]
      rw [u8 x (fun h => hx (Or.inr h)), t8 x (fun h => hx (Or.inl h))]
    · intro e he
      rw [z_su_ce (by omega), z_su_ce (by omega), z_su_ce (by omega), z_su_ce (by omega), z_su_ce (by omega), z_su_ce (by omega), z_su_ce (by omega), u9 e he, t9 e he]
    · intro j hj
      simp only [z_nd] at hj
      have g1 := u10 j (by omega)
      have g2 := t10 j (by omega)
      simp (disch := omega) only [z_su_c, z_su_s, z_su_j]
      exact ⟨g1.1.trans g2.1, g1.2.1.trans g2.2.1, g1.2.2.1.trans g2.2.2.1, g1.2.2.2.trans g2.2.2.2⟩
theorem z_build {g : Nat → Nat} {t : Lean.Data.AC.Expr} {σ : rl_M} (hm : z_nd t + 1 ≤ 11) (h1 : σ 1 0 = nI (z_nd t + 1)) (h2 : ∀ k, k < z_nd t + 1 → σ 2 k = nI (g k)) (hf : z_Fl g 0 t) (hn : (z_rm t).Nodup) :
    ∃ τ, rf_St_build σ = some (0, τ) ∧ z_Or τ g (z_nd t + 1) ∧ z_Tr τ 0 t ∧ τ 12 (z_nd t) = -1 ∧ z_Rn τ g t ∧ ∀ e, (e < 8 ∨ 14 < e) → τ e = σ e := by
  have nl := z_nl t
  have f0 : ∀ e, e ≠ 8 → (rl_su σ 8 0 (nI (z_nd t + 1))) e = σ e := fun e he => z_su_ce he
  obtain ⟨τ1, a1, a2, a3⟩ := z_fg 6 0 (rl_su σ 8 0 (nI (z_nd t + 1))) 10000 (by omega) (by omega)
  obtain ⟨τ, t1, t2, t3, t4, t5, t6, t7, t8, t9, t10⟩ := z_bd (g := g) hm t 0 0 τ1 (by rw [a3 8 (by omega), z_su_s]) (by rw [a3 1 (by omega), f0 1 (by omega)]; exact h1) (fun k hk => by rw [a3 2 (by omega), f0 2 (by omega)]; exact h2 k hk) hf hn (by omega) (by omega)
  rw [Nat.zero_add] at t4
  refine ⟨τ, ?_, ⟨?_, fun k hk => t2 k (by omega) (by omega)⟩, t3, t4, ?_, fun e he => by rw [t9 e (by omega), a3 e (by omega), f0 e (by omega)]⟩
  · unfold rf_St_build
    have e11 : ¬ (11 < z_nd t + 1) := by omega
    rw [h1]
    have e : (if 11 < nI (z_nd t + 1) then (11 : Int32) else nI (z_nd t + 1)) = nI (z_nd t + 1) := by
      rw [if_neg]
      rw [z_llt (by omega) (by omega)]; exact e11
    rw [e]
    have a1' : rf_St_forgetRooms (rl_su σ 8 0 (nI (z_nd t + 1))) = some (0, τ1) := a1
    rw [a1']
    simp only [Option.bind_some]
    obtain ⟨f, hf⟩ : ∃ f, 10000 = (f + 1) + (z_nd t + 1) := ⟨9998 - z_nd t, by omega⟩
    rw [hf]
    refine (t1 (f + 1)).trans ?_
    have e8 : τ 8 0 = nI (z_nd t + 1) := by rw [t9 8 (by omega), a3 8 (by omega), z_su_s]
    unfold rf_St_build_L21
    simp (disch := omega) only [e8, z_lt, z_le, z_eq, z_ltl, z_lel, z_llt, z_lle, z_eql, z_add, z_addl, z_ladd, z_mul, z_mull, z_lmul, z_sub, z_subl, z_cl, z_ib, z_nm, z_m1, z_mlt, if_pos, if_neg, ge_iff_le, gt_iff_lt, ite_true, ite_false, if_true, if_false, Option.bind_some, z_10, eq_self]
  · rw [t9 8 (by omega), a3 8 (by omega), z_su_s]
  · intro r hr
    by_cases q : r ∈ z_rm t
    · obtain ⟨k, k1, k2, k3, k4⟩ := t7 r q
      exact Or.inl ⟨q, k, by omega, k3, k4⟩
    · refine Or.inr ⟨q, ?_⟩
      rw [t8 r q, a2 r hr, if_pos (by omega)]
