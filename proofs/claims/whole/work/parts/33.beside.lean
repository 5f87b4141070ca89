/-- the merge of two curves side by side -/
def z_mb : Nat → List (Nat × Nat) → List (Nat × Nat) → List (Nat × Nat)
  | 0, _, _ => []
  | _ + 1, [], _ => []
  | _ + 1, _ :: _, [] => []
  | f + 1, a :: A, b :: B => (a.1 + b.1, max a.2 b.2) :: (if b.2 < a.2 then z_mb f A (b :: B) else if a.2 < b.2 then z_mb f (a :: A) B else z_mb f A B)
def z_J (A B M : List (Nat × Nat)) : Prop := (∀ q ∈ M, ∃ a ∈ A, ∃ b ∈ B, q = (a.1 + b.1, max a.2 b.2)) ∧ (∀ a ∈ A, ∀ b ∈ B, ∃ q ∈ M, q.1 ≤ a.1 + b.1 ∧ q.2 ≤ max a.2 b.2) ∧ M.Pairwise (fun p q => p.1 < q.1 ∧ q.2 < p.2) ∧ M.length ≤ A.length + B.length
theorem z_J_cons {A B A1 B1 M : List (Nat × Nat)} {a b : Nat × Nat} (hM : z_J A1 B1 M) (ha : a ∈ A) (hb : b ∈ B) (i : ∀ x ∈ A1, x ∈ A) (j : ∀ x ∈ B1, x ∈ B)
    (s : ∀ x ∈ A1, ∀ y ∈ B1, a.1 + b.1 < x.1 + y.1 ∧ max x.2 y.2 < max a.2 b.2)
    (c : ∀ x ∈ A, ∀ y ∈ B, (x ∈ A1 ∧ y ∈ B1) ∨ (a.1 + b.1 ≤ x.1 + y.1 ∧ max a.2 b.2 ≤ max x.2 y.2))
    (l : A1.length + B1.length + 1 ≤ A.length + B.length) : z_J A B ((a.1 + b.1, max a.2 b.2) :: M) := by
  refine ⟨?_, ?_, ?_, ?_⟩
  · intro q hq
    rcases List.mem_cons.mp hq with h | h
    · exact ⟨a, ha, b, hb, h⟩
    · obtain ⟨x, hx, y, hy, e⟩ := hM.1 q h
      exact ⟨x, i x hx, y, j y hy, e⟩
  · intro x hx y hy
    rcases c x hx y hy with h | h
    · obtain ⟨q, hq, e⟩ := hM.2.1 x h.1 y h.2
      exact ⟨q, List.mem_cons_of_mem _ hq, e⟩
    · exact ⟨_, List.mem_cons_self, h⟩
  · rw [List.pairwise_cons]
    refine ⟨?_, hM.2.2.1⟩
    intro q hq
    obtain ⟨x, hx, y, hy, e⟩ := hM.1 q hq
    subst e
    exact s x hx y hy
  · have := hM.2.2.2
    simp only [List.length_cons]; omega
theorem z_hd {a : Nat × Nat} {A : List (Nat × Nat)} (h : ∀ x ∈ A, a.1 < x.1 ∧ x.2 < a.2) : ∀ x ∈ a :: A, a.1 ≤ x.1 ∧ x.2 ≤ a.2 := by
  intro x hx
  rcases List.mem_cons.mp hx with e | e
  · subst e; exact ⟨Nat.le_refl _, Nat.le_refl _⟩
  · have := h x e; omega
theorem z_mb_J : ∀ (f : Nat) (A B : List (Nat × Nat)), A.length + B.length ≤ f → A.Pairwise (fun p q => p.1 < q.1 ∧ q.2 < p.2) → B.Pairwise (fun p q => p.1 < q.1 ∧ q.2 < p.2) → z_J A B (z_mb f A B) := by
  intro f
  induction f with
  | zero =>
    intro A B h _ _
    have hA : A = [] := List.length_eq_zero_iff.mp (by omega)
    subst hA
    refine ⟨?_, ?_, ?_, ?_⟩ <;> simp [z_mb]
  | succ f ih =>
    intro A B h pa pb
    cases A with
    | nil => refine ⟨?_, ?_, ?_, ?_⟩ <;> simp [z_mb]
    | cons a A =>
      cases B with
      | nil => refine ⟨?_, ?_, ?_, ?_⟩ <;> simp [z_mb]
      | cons b B =>
        simp only [List.length_cons] at h
        have qa := List.pairwise_cons.mp pa
        have qb := List.pairwise_cons.mp pb
        have ga := z_hd qa.1
        have gb := z_hd qb.1
        rw [z_mb]
        by_cases c1 : b.2 < a.2
        · rw [if_pos c1]
          refine z_J_cons (ih A (b :: B) (by simp only [List.length_cons]; omega) qa.2 pb) List.mem_cons_self List.mem_cons_self (fun x hx => List.mem_cons_of_mem _ hx) (fun x hx => hx) ?_ ?_ (by simp only [List.length_cons]; omega)
          · intro x hx y hy
            have e1 := qa.1 x hx
            have e2 := gb y hy
            omega
          · intro x hx y hy
            have e2 := gb y hy
            rcases List.mem_cons.mp hx with e | e
            · subst e; refine Or.inr ?_; omega
            · exact Or.inl ⟨e, hy⟩
        · rw [if_neg c1]
          by_cases c2 : a.2 < b.2
          · rw [if_pos c2]
            refine z_J_cons (ih (a :: A) B (by simp only [List.length_cons]; omega) pa qb.2) List.mem_cons_self List.mem_cons_self (fun x hx => hx) (fun x hx => List.mem_cons_of_mem _ hx) ?_ ?_ (by simp only [List.length_cons]; omega)
            · intro x hx y hy
              have e1 := ga x hx
              have e2 := qb.1 y hy
              omega
            · intro x hx y hy
              have e1 := ga x hx
              rcases List.mem_cons.mp hy with e | e
              · subst e; refine Or.inr ?_; omega
              · exact Or.inl ⟨hx, e⟩
          · rw [if_neg c2]
            refine z_J_cons (ih A B (by omega) qa.2 qb.2) List.mem_cons_self List.mem_cons_self (fun x hx => List.mem_cons_of_mem _ hx) (fun x hx => List.mem_cons_of_mem _ hx) ?_ ?_ (by simp only [List.length_cons]; omega)
            · intro x hx y hy
              have e1 := qa.1 x hx
              have e2 := qb.1 y hy
              omega
            · intro x hx y hy
              have e1 := ga x hx
              have e2 := gb y hy
              rcases List.mem_cons.mp hx with e | e
              · subst e; refine Or.inr ?_; omega
              · rcases List.mem_cons.mp hy with e' | e'
                · subst e'; refine Or.inr ?_; omega
                · exact Or.inl ⟨e, e'⟩
theorem z_mb_rep {f : Nat} {A B : List (Nat × Nat)} {P Q : Nat × Nat → Prop} (h : A.length + B.length ≤ f) (hA : z_Rep A P) (hB : z_Rep B Q) :
    z_Rep (z_mb f A B) (fun p => ∃ a b, P a ∧ Q b ∧ p = (a.1 + b.1, max a.2 b.2)) := by
  have J := z_mb_J f A B h hA.2.2 hB.2.2
  refine ⟨?_, ?_, J.2.2.1⟩
  · intro p hp
    obtain ⟨a, ha, b, hb, e⟩ := J.1 p hp
    exact ⟨a, b, hA.1 a ha, hB.1 b hb, e⟩
  · rintro p ⟨a, b, ha, hb, e⟩
    subst e
    obtain ⟨a', ha', e1⟩ := hA.2.1 a ha
    obtain ⟨b', hb', e2⟩ := hB.2.1 b hb
    obtain ⟨q, hq, e3⟩ := J.2.1 a' ha' b' hb'
    refine ⟨q, hq, ?_, ?_⟩
    · show q.1 ≤ a.1 + b.1; omega
    · show q.2 ≤ max a.2 b.2; omega
theorem z_jb (a0 a1 a2 : Nat) (d1 : a1 + 2 < a0 ∨ a0 + 2 < a1) (d2 : a2 + 2 < a0 ∨ a0 + 2 < a2) : ∀ (f : Nat) (A B A' B' O : List (Nat × Nat)) (σ : rl_M), A.length + B.length < f → z_Cv σ a1 (A' ++ A) → z_Cv σ a2 (B' ++ B) → z_Cv σ a0 O →
    z_Sm (A' ++ A) → z_Sm (B' ++ B) → O.length + A.length + B.length ≤ 24 →
    ∃ τ, rf_Cu_joinBeside_L9 a0 a1 a2 f (nI A'.length) (nI B'.length) σ = some (0, τ) ∧ z_Cv τ a0 (O ++ z_mb f A B) ∧ z_F a0 σ τ := by
  intro f
  induction f with
  | zero => intro A B A' B' O σ hf; omega
  | succ f ih =>
    intro A B A' B' O σ hf hA hB hO sA sB hl
    have c1 := hA.1
    have c2 := hB.1
    have l1 := sA.1
    have l2 := sB.1
    simp only [List.length_append] at c1 c2 l1 l2
    cases A with
    | nil =>
      refine ⟨σ, ?_, by simpa [z_mb] using hO, z_F.rf⟩
      unfold rf_Cu_joinBeside_L9
      simp only [List.length_nil, Nat.add_zero] at c1 l1
      simp (disch := omega) only [c1, z_lt, z_le, z_eq, z_ltl, z_lel, z_llt, z_lle, z_eql, z_add, z_addl, z_ladd, z_mul, z_mull, z_lmul, z_sub, z_subl, z_cl, z_ib, z_nm, z_m1, z_mlt, if_pos, if_neg, ge_iff_le, gt_iff_lt, ite_true, ite_false, if_true, if_false, Option.bind_some]
    | cons a A =>
      simp only [List.length_cons] at c1 l1 hl hf
      cases B with
      | nil =>
        refine ⟨σ, ?_, by simpa [z_mb] using hO, z_F.rf⟩
        unfold rf_Cu_joinBeside_L9
        simp only [List.length_nil, Nat.add_zero] at c2 l2
        simp (disch := omega) only [c1, c2, z_lt, z_le, z_eq, z_ltl, z_lel, z_llt, z_lle, z_eql, z_add, z_addl, z_ladd, z_mul, z_mull, z_lmul, z_sub, z_subl, z_cl, z_ib, z_nm, z_m1, z_mlt, if_pos, if_neg, ge_iff_le, gt_iff_lt, ite_true, ite_false, if_true, if_false, Option.bind_some]
      | cons b B =>
        simp only [List.length_cons] at c2 l2 hl hf
        have ba := sA.2 a (by simp)
        have bb := sB.2 b (by simp)
        have m1 := z_Cv_mid hA
        have m2 := z_Cv_mid hB
        have hap := z_app σ a0 O.length (a.1 + b.1) (max a.2 b.2) hO.1 (by omega)
        have hO' := z_Cv_ap (w := a.1 + b.1) (h := max a.2 b.2) hO
        have hA2 := (z_F_ap (σ := σ) (a := a0) (n := O.length) (w := a.1 + b.1) (h := max a.2 b.2)).cv hA d1
        have hB2 := (z_F_ap (σ := σ) (a := a0) (n := O.length) (w := a.1 + b.1) (h := max a.2 b.2)).cv hB d2
        rw [z_mb]
        by_cases q1 : b.2 < a.2
        · have e : max a.2 b.2 = a.2 := by omega
          obtain ⟨τ, t1, t2, t3⟩ := ih A (b :: B) (A' ++ [a]) B' (O ++ [(a.1 + b.1, max a.2 b.2)]) _ (by simp only [List.length_cons]; omega) (by simpa using hA2) hB2 hO' (by simpa using sA) sB (by simp; omega)
          refine ⟨τ, ?_, ?_, z_F_ap.tr t3⟩
          · simp only [List.length_append, List.length_singleton] at t1
            unfold rf_Cu_joinBeside_L9
            rw [e] at hap t1
            simp (disch := omega) only [c1, c2, m1.1, m1.2, m2.1, m2.2, z_lt, z_le, z_eq, z_ltl, z_lel, z_llt, z_lle, z_eql, z_add, z_addl, z_ladd, z_mul, z_mull, z_lmul, z_sub, z_subl, z_cl, z_ib, z_nm, z_m1, z_mlt, if_pos, if_neg, ge_iff_le, gt_iff_lt, ite_true, ite_false, if_true, if_false, Option.bind_some, hap, t1]
          · rw [if_pos q1]; simpa using t2
        · by_cases q2 : a.2 < b.2
          · have e : max a.2 b.2 = b.2 := by omega
            obtain ⟨τ, t1, t2, t3⟩ := ih (a :: A) B A' (B' ++ [b]) (O ++ [(a.1 + b.1, max a.2 b.2)]) _ (by simp only [List.length_cons]; omega) hA2 (by simpa using hB2) hO' sA (by simpa using sB) (by simp; omega)
            refine ⟨τ, ?_, ?_, z_F_ap.tr t3⟩
            · simp only [List.length_append, List.length_singleton] at t1
              unfold rf_Cu_joinBeside_L9
              rw [e] at hap t1
              simp (disch := omega) only [c1, c2, m1.1, m1.2, m2.1, m2.2, z_lt, z_le, z_eq, z_ltl, z_lel, z_llt, z_lle, z_eql, z_add, z_addl, z_ladd, z_mul, z_mull, z_lmul, z_sub, z_subl, z_cl, z_ib, z_nm, z_m1, z_mlt, if_pos, if_neg, ge_iff_le, gt_iff_lt, ite_true, ite_false, if_true, if_false, Option.bind_some, hap, t1]
            · rw [if_neg q1, if_pos q2]; simpa using t2
          · have e : max a.2 b.2 = a.2 := by omega
            obtain ⟨τ, t1, t2, t3⟩ := ih A B (A' ++ [a]) (B' ++ [b]) (O ++ [(a.1 + b.1, max a.2 b.2)]) _ (by omega) (by simpa using hA2) (by simpa using hB2) hO' (by simpa using sA) (by simpa using sB) (by simp; omega)
            refine ⟨τ, ?_, ?_, z_F_ap.tr t3⟩
            · simp only [List.length_append, List.length_singleton] at t1
              unfold rf_Cu_joinBeside_L9
              rw [e] at hap t1
              simp (disch := omega) only [c1, c2, m1.1, m1.2, m2.1, m2.2, z_lt, z_le, z_eq, z_ltl, z_lel, z_llt, z_lle, z_eql, z_add, z_addl, z_ladd, z_mul, z_mull, z_lmul, z_sub, z_subl, z_cl, z_ib, z_nm, z_m1, z_mlt, if_pos, if_neg, ge_iff_le, gt_iff_lt, ite_true, ite_false, if_true, if_false, Option.bind_some, hap, t1]
            · rw [if_neg q1, if_neg q2]; simpa using t2
theorem z_beside (σ : rl_M) (a0 a1 a2 : Nat) (d1 : a1 + 2 < a0 ∨ a0 + 2 < a1) (d2 : a2 + 2 < a0 ∨ a0 + 2 < a2) {A B : List (Nat × Nat)} {P Q : Nat × Nat → Prop} (hA : z_Cv σ a1 A) (hB : z_Cv σ a2 B) (sA : z_Sm A) (sB : z_Sm B) (l : A.length + B.length ≤ 24) (rA : z_Rep A P) (rB : z_Rep B Q) :
    ∃ τ M, rf_Cu_joinBeside a0 a1 a2 σ = some (0, τ) ∧ z_Cv τ a0 M ∧ M.length ≤ A.length + B.length ∧ z_Rep M (fun p => ∃ a b, P a ∧ Q b ∧ p = (a.1 + b.1, max a.2 b.2)) ∧ z_F a0 σ τ := by
  have F0 : z_F a0 σ (rl_su σ a0 0 (nI 0)) := z_F_cl
  obtain ⟨τ, t1, t2, t3⟩ := z_jb a0 a1 a2 d1 d2 10000 A B [] [] [] (rl_su σ a0 0 (nI 0)) (by omega) (F0.cv hA d1) (F0.cv hB d2) z_Cv_nil sA sB (by simp only [List.length_nil]; omega)
  refine ⟨τ, z_mb 10000 A B, ?_, by simpa using t2, (z_mb_J 10000 A B (by omega) rA.2.2 rB.2.2).2.2.2, z_mb_rep (by omega) rA rB, F0.tr t3⟩
  unfold rf_Cu_joinBeside
  rw [z_cl0, Option.bind_some]
  exact t1
