theorem z_init : z_Inv rl_s0 := by
  refine ⟨(0, fun _ => 0, fun _ _ => (0, 0), (400, 400), fun _ => 0, none, 0, fun _ => 0, fun _ => 0, fun _ => 0), ⟨⟨Nat.zero_le _, fun r _ _ => rfl, fun r hr => ⟨Nat.zero_le _, fun j hj => absurd hj (Nat.not_lt_zero _)⟩⟩, ⟨Nat.le_refl _, Nat.le_refl _⟩, ⟨Nat.zero_le _, fun i hi => absurd hi (Nat.not_lt_zero _)⟩, fun t ht => by simp at ht⟩, ⟨rfl, fun r hr => ⟨rfl, Nat.zero_le _, fun j hj => ⟨rfl, rfl⟩⟩, ⟨rfl, rfl⟩, ⟨fun _ => ⟨rfl, fun r hr => ?_⟩, fun t ht => by simp at ht⟩, ⟨rfl, fun i hi => absurd hi (Nat.not_lt_zero _)⟩⟩, ⟨rfl, fun r hr => ⟨rfl, Nat.zero_le _, fun j hj => ⟨rfl, rfl⟩⟩, ⟨rfl, rfl⟩, ⟨fun _ => rfl, fun t ht => by simp at ht⟩, ⟨rfl, fun i hi => absurd hi (Nat.not_lt_zero _)⟩⟩, Or.inl ⟨rfl, rfl⟩⟩
  have h6 : r = 0 ∨ r = 1 ∨ r = 2 ∨ r = 3 ∨ r = 4 ∨ r = 5 := by omega
  rcases h6 with rfl | rfl | rfl | rfl | rfl | rfl <;> rfl
theorem z_step (o P1 P2 P3 P4 : Int32) (σ : rl_M) (h : z_Inv σ) : ∃ τ, lf o P1 P2 P3 P4 σ = some τ ∧ z_Inv τ := by
  unfold lf
  by_cases h0 : o &&& 15 = 0
  · rw [if_pos h0]; exact z_case0 P1 P2 P3 P4 σ h
  rw [if_neg h0]
  by_cases h1 : o &&& 15 = 1
  · rw [if_pos h1]; exact z_case1 P1 P2 P3 P4 σ h
  rw [if_neg h1]
  by_cases h2 : o &&& 15 = 2
  · rw [if_pos h2]; exact z_case2 P1 P2 P3 P4 σ h
  rw [if_neg h2]
  by_cases h3 : o &&& 15 = 3
  · rw [if_pos h3]; exact z_case3 P1 P2 P3 P4 σ h
  rw [if_neg h3]
  by_cases h4 : o &&& 15 = 4
  · rw [if_pos h4]; exact z_case4 P1 P2 P3 P4 σ h
  rw [if_neg h4]
  by_cases h5 : o &&& 15 = 5
  · rw [if_pos h5]; exact z_case5 P1 P2 P3 P4 σ h
  rw [if_neg h5]
  by_cases h6 : o &&& 15 = 6
  · rw [if_pos h6]; exact z_case6 P1 P2 P3 P4 σ h
  rw [if_neg h6]
  by_cases h7 : o &&& 15 = 7
  · rw [if_pos h7]; exact z_case7 P1 P2 P3 P4 σ h
  rw [if_neg h7]
  by_cases h8 : o &&& 15 = 8
  · rw [if_pos h8]; exact z_case8 P1 P2 P3 P4 σ h
  rw [if_neg h8]
  by_cases h9 : o &&& 15 = 9
  · rw [if_pos h9]; exact z_case9 P1 P2 P3 P4 σ h
  rw [if_neg h9]
  by_cases h10 : o &&& 15 = 10
  · rw [if_pos h10]; exact z_case10 P1 P2 P3 P4 σ h
  rw [if_neg h10]
  by_cases h11 : o &&& 15 = 11
  · rw [if_pos h11]; exact z_case11 P1 P2 P3 P4 σ h
  rw [if_neg h11]
  by_cases h12 : o &&& 15 = 12
  · rw [if_pos h12]; exact z_case12 P1 P2 P3 P4 σ h
  rw [if_neg h12]
  by_cases h13 : o &&& 15 = 13
  · rw [if_pos h13]; exact z_case13 P1 P2 P3 P4 σ h
  rw [if_neg h13]
  exact ⟨σ, rfl, h⟩
theorem i_vc : Claimed_1_1 ∧ Claimed_1_2 := claim_open z_Inv z_init z_step
