theorem z_nda {A B : List Nat} (h : (A ++ B).Nodup) : A.Nodup ∧ B.Nodup ∧ ∀ a, a ∈ A → ¬ a ∈ B := by
  have h2 := List.pairwise_append.mp h
  exact ⟨h2.1, h2.2.1, fun a ha hb => h2.2.2 a ha a hb rfl⟩
theorem z_ev_c {g : Nat → Nat} {s : Nat → Nat → Nat × Nat} {c c' : Nat → Nat} : ∀ (t : Lean.Data.AC.Expr) (i : Nat), (∀ r ∈ z_rm t, c r = c' r) → z_ev g s c i t = z_ev g s c' i t := by
  intro t
  induction t with
  | var r => intro i h; simp only [z_ev]; rw [h r (by simp [z_rm])]
  | op l r il ir =>
    intro i h
    simp only [z_ev]
    rw [il i (fun q hq => h q (by simp [z_rm, hq])), ir _ (fun q hq => h q (by simp [z_rm, hq]))]
theorem z_out_ev {g : Nat → Nat} {s : Nat → Nat → Nat × Nat} {D : Nat → Nat → Prop} {c : Nat → Nat} : ∀ (t : Lean.Data.AC.Expr) (i : Nat), (∀ r ∈ z_rm t, D r (c r)) → z_out g s D i t (z_ev g s c i t) := by
  intro t
  induction t with
  | var r => intro i h; exact ⟨c r, h r (by simp [z_rm]), rfl⟩
  | op l r il ir =>
    intro i h
    exact ⟨_, _, il i (fun q hq => h q (by simp [z_rm, hq])), ir _ (fun q hq => h q (by simp [z_rm, hq])), rfl⟩
theorem z_ev_out {g : Nat → Nat} {s : Nat → Nat → Nat × Nat} {D : Nat → Nat → Prop} : ∀ (t : Lean.Data.AC.Expr) (i : Nat) (p : Nat × Nat), (z_rm t).Nodup → z_out g s D i t p → ∃ c : Nat → Nat, (∀ r ∈ z_rm t, D r (c r)) ∧ z_ev g s c i t = p := by
  intro t
  induction t with
  | var r =>
    rintro i p hn ⟨j, hj, e⟩
    refine ⟨fun _ => j, ?_, e.symm⟩
    intro q hq
    simp only [z_rm, List.mem_singleton] at hq
    subst hq; exact hj
  | op l r il ir =>
    rintro i p hn ⟨a, b, ha, hb, e⟩
    have nd := z_nda (A := z_rm l) (B := z_rm r) hn
    obtain ⟨c1, d1, e1⟩ := il i a nd.1 ha
    obtain ⟨c2, d2, e2⟩ := ir _ b nd.2.1 hb
    refine ⟨fun q => if q ∈ z_rm l then c1 q else c2 q, ?_, ?_⟩
    · intro q hq
      by_cases h : q ∈ z_rm l
      · simp only [if_pos h]; exact d1 q h
      · simp only [if_neg h]
        refine d2 q ?_
        simp only [z_rm, List.mem_append] at hq
        exact hq.resolve_left h
    · simp only [z_ev]
      rw [e, ← e1, ← e2]
      congr 1
      · exact z_ev_c l i (fun q hq => by simp only [if_pos hq])
      · exact z_ev_c r _ (fun q hq => by simp only [if_neg (fun h => nd.2.2 q h hq)])
/-- the greatest size number that a choice may give room r -/
def z_u (n : Nat → Nat) (t : Lean.Data.AC.Expr) (r : Nat) : Nat := if r ∈ z_rm t then n r - 1 else 0
def z_Ch (n : Nat → Nat) (t : Lean.Data.AC.Expr) (c : Nat → Nat) : Prop := ∀ q, q < 6 → c q ≤ z_u n t q
/-- a choice as a number: the order by the size numbers -/
def z_cd (c : Nat → Nat) : Nat := 1024 * c 0 + 256 * c 1 + 64 * c 2 + 16 * c 3 + 4 * c 4 + c 5
def z_Best (g : Nat → Nat) (s : Nat → Nat → Nat × Nat) (n : Nat → Nat) (t : Lean.Data.AC.Expr) (W H : Nat) (c : Nat → Nat) : Prop :=
  z_Ch n t c ∧ ((z_ev g s c 0 t).1 ≤ W ∧ (z_ev g s c 0 t).2 ≤ H) ∧ ∀ c', z_Ch n t c' → (z_ev g s c' 0 t).1 ≤ W ∧ (z_ev g s c' 0 t).2 ≤ H →
    (z_ev g s c 0 t).1 * (z_ev g s c 0 t).2 < (z_ev g s c' 0 t).1 * (z_ev g s c' 0 t).2 ∨ ((z_ev g s c 0 t).1 * (z_ev g s c 0 t).2 = (z_ev g s c' 0 t).1 * (z_ev g s c' 0 t).2 ∧ ((z_ev g s c 0 t).1 < (z_ev g s c' 0 t).1 ∨ ((z_ev g s c 0 t).1 = (z_ev g s c' 0 t).1 ∧ z_cd c ≤ z_cd c')))
/-- what the rooms of an order are -/
def z_Rk (n : Nat → Nat) (s : Nat → Nat → Nat × Nat) (t : Lean.Data.AC.Expr) : Prop := (z_rm t).Nodup ∧ (∀ r ∈ z_rm t, r < 6 ∧ 1 ≤ n r ∧ ∀ j, j < n r → z_Bs (s r j) 1) ∧ ∀ r, r < 6 → n r ≤ 4
def z_Pf (g : Nat → Nat) (s : Nat → Nat → Nat × Nat) (n : Nat → Nat) (t : Lean.Data.AC.Expr) (W H : Nat) (p : Nat × Nat) : Prop := z_out g s (fun r j => j < n r) 0 t p ∧ p.1 ≤ W ∧ p.2 ≤ H
theorem z_u3 {n : Nat → Nat} {s : Nat → Nat → Nat × Nat} {t : Lean.Data.AC.Expr} (hk : z_Rk n s t) {q : Nat} (hq : q < 6) : z_u n t q ≤ 3 := by
  unfold z_u
  have := hk.2.2 q hq
  split <;> omega
theorem z_Ch_lt {n : Nat → Nat} {s : Nat → Nat → Nat × Nat} {t : Lean.Data.AC.Expr} {c : Nat → Nat} (hk : z_Rk n s t) (h : z_Ch n t c) : ∀ r ∈ z_rm t, c r < n r := by
  intro r hr
  have h1 := hk.2.1 r hr
  have h2 := h r h1.1
  unfold z_u at h2
  rw [if_pos hr] at h2
  omega
theorem z_Ch_of {n : Nat → Nat} {s : Nat → Nat → Nat × Nat} {t : Lean.Data.AC.Expr} {c : Nat → Nat} (h : ∀ r ∈ z_rm t, c r < n r) : z_Ch n t (fun q => if q ∈ z_rm t then c q else 0) := by
  intro q _
  unfold z_u
  by_cases hq : q ∈ z_rm t
  · simp only [if_pos hq]; have := h q hq; omega
  · simp only [if_neg hq]; omega
theorem z_ev_of {g : Nat → Nat} {s : Nat → Nat → Nat × Nat} {t : Lean.Data.AC.Expr} {c : Nat → Nat} {i : Nat} : z_ev g s (fun q => if q ∈ z_rm t then c q else 0) i t = z_ev g s c i t :=
  z_ev_c t i (fun q hq => by simp only [if_pos hq])
theorem z_cd_lt {c c' : Nat → Nat} {r : Nat} (hr : r < 6) (h : ∀ q, q < r → c' q = c q) (h2 : c' r < c r) (h3 : ∀ q, q < 6 → c' q ≤ 3) : z_cd c' < z_cd c := by
  have a0 := h 0; have a1 := h 1; have a2 := h 2; have a3 := h 3; have a4 := h 4
  have b0 := h3 0 (by omega); have b1 := h3 1 (by omega); have b2 := h3 2 (by omega); have b3 := h3 3 (by omega); have b4 := h3 4 (by omega); have b5 := h3 5 (by omega)
  unfold z_cd
  have hr6 : r = 0 ∨ r = 1 ∨ r = 2 ∨ r = 3 ∨ r = 4 ∨ r = 5 := by omega
  rcases hr6 with rfl | rfl | rfl | rfl | rfl | rfl
  · omega
  · have := a0 (by omega); omega
  · have := a0 (by omega); have := a1 (by omega); omega
  · have := a0 (by omega); have := a1 (by omega); have := a2 (by omega); omega
  · have := a0 (by omega); have := a1 (by omega); have := a2 (by omega); have := a3 (by omega); omega
  · have := a0 (by omega); have := a1 (by omega); have := a2 (by omega); have := a3 (by omega); have := a4 (by omega); omega
theorem z_cd_eq {c c' : Nat → Nat} (h : z_cd c = z_cd c') (h2 : ∀ q, q < 6 → c q ≤ 3) (h3 : ∀ q, q < 6 → c' q ≤ 3) : ∀ q, q < 6 → c q = c' q := by
  have b0 := h3 0 (by omega); have b1 := h3 1 (by omega); have b2 := h3 2 (by omega); have b3 := h3 3 (by omega); have b4 := h3 4 (by omega); have b5 := h3 5 (by omega)
  have a0 := h2 0 (by omega); have a1 := h2 1 (by omega); have a2 := h2 2 (by omega); have a3 := h2 3 (by omega); have a4 := h2 4 (by omega); have a5 := h2 5 (by omega)
  unfold z_cd at h
  intro q hq
  have hq6 : q = 0 ∨ q = 1 ∨ q = 2 ∨ q = 3 ∨ q = 4 ∨ q = 5 := by omega
  rcases hq6 with rfl | rfl | rfl | rfl | rfl | rfl <;> omega
theorem z_min (f : (Nat → Nat) → Nat) (P : (Nat → Nat) → Prop) : ∀ (k : Nat) (c : Nat → Nat), P c → f c ≤ k → ∃ c, P c ∧ ∀ c', P c' → f c ≤ f c' := by
  intro k
  induction k with
  | zero => intro c hc h; exact ⟨c, hc, fun c' _ => by omega⟩
  | succ k ih =>
    intro c hc h
    by_cases q : ∃ c', P c' ∧ f c' ≤ k
    · obtain ⟨c', h1, h2⟩ := q
      exact ih c' h1 h2
    · refine ⟨c, hc, fun c' h1 => ?_⟩
      by_cases h2 : f c' ≤ k
      · exact (q ⟨c', h1, h2⟩).elim
      · omega
theorem z_Pf_ev {g : Nat → Nat} {s : Nat → Nat → Nat × Nat} {n : Nat → Nat} {t : Lean.Data.AC.Expr} {W H : Nat} {c : Nat → Nat} (hk : z_Rk n s t) (hc : z_Ch n t c) (hf : (z_ev g s c 0 t).1 ≤ W ∧ (z_ev g s c 0 t).2 ≤ H) : z_Pf g s n t W H (z_ev g s c 0 t) :=
  ⟨z_out_ev t 0 (z_Ch_lt hk hc), hf⟩
theorem z_Pf_of {g : Nat → Nat} {s : Nat → Nat → Nat × Nat} {n : Nat → Nat} {t : Lean.Data.AC.Expr} {W H : Nat} {p : Nat × Nat} (hk : z_Rk n s t) (h : z_Pf g s n t W H p) : ∃ c, z_Ch n t c ∧ z_ev g s c 0 t = p := by
  obtain ⟨c, h1, h2⟩ := z_ev_out t 0 p hk.1 h.1
  exact ⟨_, z_Ch_of (s := s) h1, z_ev_of.trans h2⟩
theorem z_Pf_1 {g : Nat → Nat} {s : Nat → Nat → Nat × Nat} {n : Nat → Nat} {t : Lean.Data.AC.Expr} {W H : Nat} {p : Nat × Nat} (hk : z_Rk n s t) (h : z_Pf g s n t W H p) : 1 ≤ p.1 ∧ 1 ≤ p.2 := by
  have := z_out_b t 0 p (fun r hr => (hk.2.1 r hr).2.2) h.1
  unfold z_Bs at this; omega
theorem z_pair {p q : Nat × Nat} (h1 : 1 ≤ p.1) (h : p.1 * p.2 = q.1 * q.2) (e : p.1 = q.1) : p = q := by
  rw [← e] at h
  exact Prod.ext e (Nat.eq_of_mul_eq_mul_left h1 h)
theorem z_best_ex {g : Nat → Nat} {s : Nat → Nat → Nat × Nat} {n : Nat → Nat} {t : Lean.Data.AC.Expr} {W H : Nat} {p : Nat × Nat} (hk : z_Rk n s t) (h : z_BO (z_Pf g s n t W H) p) : ∃ c, z_Best g s n t W H c ∧ z_ev g s c 0 t = p := by
  obtain ⟨c0, h1, h2⟩ := z_Pf_of hk h.1
  obtain ⟨c, ⟨h3, h4⟩, h5⟩ := z_min z_cd (fun c => z_Ch n t c ∧ z_ev g s c 0 t = p) (z_cd c0) c0 ⟨h1, h2⟩ (Nat.le_refl _)
  refine ⟨c, ⟨h3, ?_, ?_⟩, h4⟩
  · rw [h4]; exact h.1.2
  · intro c' hc' hf'
    rw [h4]
    rcases h.2 _ (z_Pf_ev hk hc' hf') with a | ⟨a, b⟩
    · exact Or.inl a
    · refine Or.inr ⟨a, ?_⟩
      rcases Nat.lt_or_ge p.1 (z_ev g s c' 0 t).1 with d | d
      · exact Or.inl d
      · have e : p.1 = (z_ev g s c' 0 t).1 := by omega
        exact Or.inr ⟨e, h5 c' ⟨hc', (z_pair (z_Pf_1 hk h.1).1 a e).symm⟩⟩
theorem z_best_bo {g : Nat → Nat} {s : Nat → Nat → Nat × Nat} {n : Nat → Nat} {t : Lean.Data.AC.Expr} {W H : Nat} {c : Nat → Nat} (hk : z_Rk n s t) (h : z_Best g s n t W H c) : z_BO (z_Pf g s n t W H) (z_ev g s c 0 t) := by
  refine ⟨z_Pf_ev hk h.1 h.2.1, ?_⟩
  intro q hq
  obtain ⟨c', h1, h2⟩ := z_Pf_of hk hq
  have := h.2.2 c' h1 (by rw [h2]; exact hq.2)
  rw [h2] at this
  omega
theorem z_bo_u {g : Nat → Nat} {s : Nat → Nat → Nat × Nat} {n : Nat → Nat} {t : Lean.Data.AC.Expr} {W H : Nat} {p q : Nat × Nat} (hk : z_Rk n s t) (h : z_BO (z_Pf g s n t W H) p) (h2 : z_BO (z_Pf g s n t W H) q) : p = q := by
  have a := h.2 q h2.1
  have b := h2.2 p h.1
  exact z_pair (z_Pf_1 hk h.1).1 (by omega) (by omega)
theorem z_best_u {g : Nat → Nat} {s : Nat → Nat → Nat × Nat} {n : Nat → Nat} {t : Lean.Data.AC.Expr} {W H : Nat} {c c' : Nat → Nat} (hk : z_Rk n s t) (h : z_Best g s n t W H c) (h2 : z_Best g s n t W H c') : ∀ q, q < 6 → c q = c' q := by
  have a := h.2.2 c' h2.1 h2.2.1
  have b := h2.2.2 c h.1 h.2.1
  refine z_cd_eq (by omega) (fun q hq => ?_) (fun q hq => ?_)
  · have := h.1 q hq; have := z_u3 hk hq; omega
  · have := h2.1 q hq; have := z_u3 hk hq; omega
theorem z_in {g : Nat → Nat} {r : Nat} (hr : r < 6) : ∀ (t : Lean.Data.AC.Expr) (i k : Nat), z_Fl g i t → i ≤ k → k ≤ i + z_nd t → g k = 48 + r → r ∈ z_rm t := by
  intro t
  induction t with
  | var q =>
    intro i k hf h1 h2 h3
    simp only [z_nd] at h2
    have e : k = i := by omega
    subst e
    have := hf.1
    simp only [z_rm, List.mem_singleton]; omega
  | op l q il iq =>
    intro i k hf h1 h2 h3
    simp only [z_nd] at h2
    simp only [z_rm, List.mem_append]
    by_cases c1 : k ≤ i + z_nd l
    · exact Or.inl (il i k hf.1 h1 c1 h3)
    · by_cases c2 : k ≤ i + z_nd l + 1 + z_nd q
      · exact Or.inr (iq _ k hf.2.1 (by omega) c2 h3)
      · have e : k = i + (z_nd l + z_nd q + 2) := by omega
        subst e
        rcases hf.2.2 with h | h <;> omega
theorem z_at {g : Nat → Nat} {r : Nat} : ∀ (t : Lean.Data.AC.Expr) (i : Nat), z_Fl g i t → r ∈ z_rm t → ∃ k, i ≤ k ∧ k ≤ i + z_nd t ∧ g k = 48 + r := by
  intro t
  induction t with
  | var q =>
    intro i hf h
    simp only [z_rm, List.mem_singleton] at h
    subst h
    exact ⟨i, Nat.le_refl _, by omega, hf.1⟩
  | op l q il iq =>
    intro i hf h
    simp only [z_rm, List.mem_append] at h
    simp only [z_nd]
    rcases h with h | h
    · obtain ⟨k, h1, h2, h3⟩ := il i hf.1 h
      exact ⟨k, h1, by omega, h3⟩
    · obtain ⟨k, h1, h2, h3⟩ := iq _ hf.2.1 h
      exact ⟨k, by omega, by omega, h3⟩
/-- where a room's sign stands in a joined part -/
theorem z_side {g : Nat → Nat} {r i k : Nat} {l q : Lean.Data.AC.Expr} (hr : r < 6) (hf : z_Fl g i (.op l q)) (hn : (z_rm (.op l q)).Nodup) (h1 : i ≤ k) (h2 : k ≤ i + (z_nd l + z_nd q + 2)) (h3 : g k = 48 + r) : (r ∈ z_rm l ∧ k ≤ i + z_nd l) ∨ (r ∈ z_rm q ∧ ¬ r ∈ z_rm l ∧ i + z_nd l + 1 ≤ k ∧ k ≤ i + z_nd l + 1 + z_nd q) := by
  have nd := z_nda (A := z_rm l) (B := z_rm q) hn
  by_cases c1 : k ≤ i + z_nd l
  · exact Or.inl ⟨z_in hr l i k hf.1 h1 c1 h3, c1⟩
  · by_cases c2 : k ≤ i + z_nd l + 1 + z_nd q
    · have := z_in hr q _ k hf.2.1 (by omega) c2 h3
      exact Or.inr ⟨this, fun h => nd.2.2 r h this, by omega, c2⟩
    · have e : k = i + (z_nd l + z_nd q + 2) := by omega
      subst e
      rcases hf.2.2 with h | h <;> omega
theorem z_one {g : Nat → Nat} {r : Nat} (hr : r < 6) : ∀ (t : Lean.Data.AC.Expr) (i k k' : Nat), z_Fl g i t → (z_rm t).Nodup → i ≤ k → k ≤ i + z_nd t → g k = 48 + r → i ≤ k' → k' ≤ i + z_nd t → g k' = 48 + r → k = k' := by
  intro t
  induction t with
  | var q => intro i k k' hf hn h1 h2 h3 h4 h5 h6; simp only [z_nd] at h2 h5; omega
  | op l q il iq =>
    intro i k k' hf hn h1 h2 h3 h4 h5 h6
    have nd := z_nda (A := z_rm l) (B := z_rm q) hn
    rcases z_side hr hf hn h1 h2 h3 with ⟨a1, a2⟩ | ⟨a1, a2, a3, a4⟩ <;> rcases z_side hr hf hn h4 h5 h6 with ⟨b1, b2⟩ | ⟨b1, b2, b3, b4⟩
    · exact il i k k' hf.1 nd.1 h1 a2 h3 h4 b2 h6
    · exact (b2 a1).elim
    · exact (a2 b1).elim
    · exact iq _ k k' hf.2.1 nd.2.1 a3 a4 h3 b3 b4 h6
