theorem z_hwt (σ : rl_M) (a w h : Nat) (hw : w < 2147483648) (hh : h < 2147483648) {L : List (Nat × Nat)} (hc : z_Cv σ a L) (hs : z_Sm L) :
    rf_Cu_hasWithin a (nI w) (nI h) σ = some (if L.any (fun p => p.1 ≤ w && p.2 ≤ h) then 1 else 0, σ) := by
  have h1 := hs.1
  exact z_hw a w h hw hh L [] σ 10000 hc hs (by omega)
/-- what a curve stands for: every outline of it is one of P, each of P lies around one of it, the widths grow and the heights fall -/
def z_Rep (L : List (Nat × Nat)) (P : Nat × Nat → Prop) : Prop := (∀ p ∈ L, P p) ∧ (∀ p, P p → ∃ q ∈ L, q.1 ≤ p.1 ∧ q.2 ≤ p.2) ∧ L.Pairwise (fun p q => p.1 < q.1 ∧ q.2 < p.2)
theorem z_Rep_x {L : List (Nat × Nat)} {P Q : Nat × Nat → Prop} (h : z_Rep L P) (e : ∀ p, P p ↔ Q p) : z_Rep L Q :=
  ⟨fun p hp => (e p).mp (h.1 p hp), fun p hp => h.2.1 p ((e p).mpr hp), h.2.2⟩
theorem z_last {A : List (Nat × Nat)} {w : Nat} (hp : A.Pairwise (fun p q => p.1 < q.1 ∧ q.2 < p.2)) (hl : ∀ q, A.getLast? = some q → q.1 ≤ w) : ∀ q ∈ A, q.1 ≤ w := by
  intro q hq
  have hne : A ≠ [] := List.ne_nil_of_mem hq
  obtain ⟨A', r, rfl⟩ : ∃ A' r, A = A' ++ [r] := ⟨A.dropLast, A.getLast hne, (List.dropLast_concat_getLast _).symm⟩
  have hr := hl r (by simp)
  rw [List.pairwise_append] at hp
  simp at hq
  rcases hq with h | h
  · have := (hp.2.2 q h r (by simp)).1; omega
  · subst h; exact hr
theorem z_offer (σ : rl_M) (a w h : Nat) (hw : w ≤ 1000) (hh : h ≤ 1000) {L : List (Nat × Nat)} {P : Nat × Nat → Prop} (hc : z_Cv σ a L) (hs : z_Sm L) (hl : L.length < 24) (hr : z_Rep L P) :
    ∃ τ M, rf_Cu_offer a (nI w) (nI h) σ = some (0, τ) ∧ z_Cv τ a M ∧ M.length ≤ L.length + 1 ∧ (∀ p ∈ M, p.1 ≤ 1000 ∧ p.2 ≤ 1000) ∧ z_Rep M (fun p => P p ∨ p = (w, h)) ∧ z_F a σ τ := by
  have hhw := z_hwt σ a w h (by omega) (by omega) hc hs
  by_cases c : L.any (fun p => p.1 ≤ w && p.2 ≤ h) = true
  · refine ⟨σ, L, ?_, hc, by omega, hs.2, ?_, z_F.rf⟩
    · unfold rf_Cu_offer
      rw [hhw]
      simp [c]
    · refine ⟨fun p hp => Or.inl (hr.1 p hp), ?_, hr.2.2⟩
      intro p hp
      rcases hp with h1 | h1
      · exact hr.2.1 p h1
      · subst h1
        obtain ⟨q, q1, q2⟩ := List.any_eq_true.mp c
        simp at q2
        exact ⟨q, q1, q2⟩
  · have c' : ∀ q ∈ L, ¬ (q.1 ≤ w ∧ q.2 ≤ h) := by
      intro q hq hx
      apply c
      rw [List.any_eq_true]
      exact ⟨q, hq, by simpa using hx⟩
    obtain ⟨τ1, t1, t2, t3⟩ := z_drop σ a w h (by omega) (by omega) hc hs
    generalize hF : L.filter (fun q => q.1 < w || q.2 < h) = F at t2
    have fl : F.length ≤ L.length := by rw [← hF]; exact List.length_filter_le _ _
    have fm : ∀ q ∈ F, q ∈ L ∧ (q.1 < w ∨ q.2 < h) := by
      intro q hq; rw [← hF] at hq; simpa using hq
    have fm' : ∀ q ∈ L, (q.1 < w ∨ q.2 < h) → q ∈ F := by
      intro q hq hx; rw [← hF]; simpa using ⟨hq, hx⟩
    have fp : F.Pairwise (fun p q => p.1 < q.1 ∧ q.2 < p.2) := by rw [← hF]; exact hr.2.2.filter _
    have hap := z_app τ1 a F.length w h t2.1 (by omega)
    obtain ⟨τ2, A1, A2, u1, u2, u3, u4, u5, u6⟩ := z_bub a (w, h) F.length F [] (z_ap τ1 a F.length w h) 10000 rfl (z_Cv_ap t2) ⟨by simp; omega, by
      intro r hr2; simp at hr2; rcases hr2 with h1 | h1
      · exact hs.2 r (fm r h1).1
      · subst h1; exact ⟨hw, hh⟩⟩ (by omega)
    have hcnt : (z_ap τ1 a F.length w h) a 0 = nI (F.length + 1) := by unfold z_ap; rw [z_su_s]
    refine ⟨τ2, A1 ++ (w, h) :: A2, ?_, by simpa using u3, ?_, ?_, ⟨?_, ?_, ?_⟩, t3.tr (z_F_ap.tr u6)⟩
    · unfold rf_Cu_offer
      rw [hhw]
      simp only [c, Bool.false_eq_true, if_false, Option.bind_some, if_true, t1, hap, hcnt]
      simp (disch := omega) only [z_lt, z_le, z_eq, z_ltl, z_lel, z_llt, z_lle, z_eql, z_add, z_addl, z_ladd, z_mul, z_mull, z_lmul, z_sub, z_subl, z_cl, z_ib, z_nm, z_m1, z_mlt, if_pos, if_neg, ge_iff_le, gt_iff_lt, ite_true, ite_false, if_true, if_false, Option.bind_some, Nat.add_sub_cancel, u1]
    · rw [u2] at fl; simp at fl ⊢; omega
    · intro p hp
      simp at hp
      rcases hp with h1 | h1 | h1
      · exact hs.2 p (fm p (by rw [u2]; simp [h1])).1
      · subst h1; exact ⟨hw, hh⟩
      · exact hs.2 p (fm p (by rw [u2]; simp [h1])).1
    · intro p hp
      simp at hp
      rcases hp with h1 | h1 | h1
      · exact Or.inl (hr.1 p (fm p (by rw [u2]; simp [h1])).1)
      · exact Or.inr h1
      · exact Or.inl (hr.1 p (fm p (by rw [u2]; simp [h1])).1)
    · intro p hp
      rcases hp with h1 | h1
      · obtain ⟨q, q1, q2⟩ := hr.2.1 p h1
        by_cases d : q.1 < w ∨ q.2 < h
        · have := fm' q q1 d
          rw [u2] at this
          refine ⟨q, ?_, q2⟩
          simp at this ⊢
          rcases this with h | h <;> simp [h]
        · refine ⟨(w, h), by simp, ?_⟩
          simp only
          omega
      · subst h1
        exact ⟨(w, h), by simp, by simp⟩
    · rw [u2, List.pairwise_append] at fp
      have ha1 := z_last fp.1 u5
      rw [List.pairwise_append]
      refine ⟨fp.1, ?_, ?_⟩
      · rw [List.pairwise_cons]
        refine ⟨?_, fp.2.1⟩
        intro q hq
        have e1 := u4 q hq
        have e2 := (fm q (by rw [u2]; simp [hq])).2
        simp only at e1 ⊢
        omega
      · intro p hp q hq
        have e0 := ha1 p hp
        have e1 := fm p (by rw [u2]; simp [hp])
        have e2 := c' p e1.1
        simp at hq
        rcases hq with h1 | h1
        · subst h1
          simp only
          simp only at e0
          omega
        · exact fp.2.2 p hp q h1
