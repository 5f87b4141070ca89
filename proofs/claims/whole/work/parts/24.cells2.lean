theorem rl_upn {α : Type} {f : Nat → α} {k j : Nat} {v : α} (h : j ≠ k) : va_up f k v j = f j := if_neg h
set_option maxHeartbeats 8000000 in
set_option maxRecDepth 100000 in
theorem law_cellsB {b : Nat} {F : cg_F} {H : Heap} {ct : Nat → va_E} (hP : va_P F.1 rl_Cl (cg_w b (va_up (kf_Mo_init_59 F b (va_up (kf_Ro_init_0 F b (va_up ct 0 (.inr (0, [.null, .null, .null])))) 59 (.inr (7, [.int 0, .int 0, .null, .null, .null, .int 0, .int 0, .int 0, .null, .int 0, .null, .null, .null, .null, .null, .int 0, .int 0, .int 0, .null, .null, .null, .null, .null, .null, .null, .null, .null])))) 78 (.inl (F.2.2.1, 1, .inr (.inl (fun _ => 0))))) 79) H) : ∀ k, 59 ≤ k → k < 79 → va_at F.1 rl_Cl ((rl_Ef b F).1 k, rl_cr (rl_Ef b F) k (rl_s0 k)) H := by
  have h78 : va_at F.1 rl_Cl ((rl_Ef b F).1 78, rl_cr (rl_Ef b F) 78 (rl_s0 78)) H := by
    have h : va_at F.1 rl_Cl (b + 78, .inl (F.2.2.1, 1, .inr (.inl (fun _ => 0)))) H := hP 78 _ (cg_at (Nat.le_of_ble_eq_true rfl))
    have e : (fun j : Nat => (rl_s0 78 j).toInt64) = fun _ => (0 : Int64) := by
      funext j
      show ((0 : Int32)).toInt64 = 0
      decide
    show va_at F.1 rl_Cl (b + 78, .inl (F.2.2.1, 1, .inr (.inl (fun j : Nat => (rl_s0 78 j).toInt64)))) H
    rw [e]
    exact h
  intro k h59 hk
  match k, h59, hk with
  | 59, _, _ => exact hP 59 _ (cg_at (Nat.le_of_ble_eq_true rfl))
  | 60, _, _ => exact hP 60 _ (cg_at (Nat.le_of_ble_eq_true rfl))
  | 61, _, _ => exact hP 61 _ (cg_at (Nat.le_of_ble_eq_true rfl))
  | 62, _, _ => exact hP 62 _ (cg_at (Nat.le_of_ble_eq_true rfl))
  | 63, _, _ => exact hP 63 _ (cg_at (Nat.le_of_ble_eq_true rfl))
  | 64, _, _ => exact hP 64 _ (cg_at (Nat.le_of_ble_eq_true rfl))
  | 65, _, _ => exact hP 65 _ (cg_at (Nat.le_of_ble_eq_true rfl))
  | 66, _, _ => exact hP 66 _ (cg_at (Nat.le_of_ble_eq_true rfl))
  | 67, _, _ => exact hP 67 _ (cg_at (Nat.le_of_ble_eq_true rfl))
  | 68, _, _ => exact hP 68 _ (cg_at (Nat.le_of_ble_eq_true rfl))
  | 69, _, _ => exact hP 69 _ (cg_at (Nat.le_of_ble_eq_true rfl))
  | 70, _, _ => exact hP 70 _ (cg_at (Nat.le_of_ble_eq_true rfl))
  | 71, _, _ => exact hP 71 _ (cg_at (Nat.le_of_ble_eq_true rfl))
  | 72, _, _ => exact hP 72 _ (cg_at (Nat.le_of_ble_eq_true rfl))
  | 73, _, _ => exact hP 73 _ (cg_at (Nat.le_of_ble_eq_true rfl))
  | 74, _, _ => exact hP 74 _ (cg_at (Nat.le_of_ble_eq_true rfl))
  | 75, _, _ => exact hP 75 _ (cg_at (Nat.le_of_ble_eq_true rfl))
  | 76, _, _ => exact hP 76 _ (cg_at (Nat.le_of_ble_eq_true rfl))
  | 77, _, _ => exact hP 77 _ (cg_at (Nat.le_of_ble_eq_true rfl))
  | 78, _, _ => exact h78
  | k + 79, _, hk => exact absurd hk (by omega)
  | 0, h, _ => exact absurd h (by decide)
  | 1, h, _ => exact absurd h (by decide)
  | 2, h, _ => exact absurd h (by decide)
  | 3, h, _ => exact absurd h (by decide)
  | 4, h, _ => exact absurd h (by decide)
  | 5, h, _ => exact absurd h (by decide)
  | 6, h, _ => exact absurd h (by decide)
  | 7, h, _ => exact absurd h (by decide)
  | 8, h, _ => exact absurd h (by decide)
  | 9, h, _ => exact absurd h (by decide)
  | 10, h, _ => exact absurd h (by decide)
  | 11, h, _ => exact absurd h (by decide)
  | 12, h, _ => exact absurd h (by decide)
  | 13, h, _ => exact absurd h (by decide)
  | 14, h, _ => exact absurd h (by decide)
  | 15, h, _ => exact absurd h (by decide)
  | 16, h, _ => exact absurd h (by decide)
  | 17, h, _ => exact absurd h (by decide)
  | 18, h, _ => exact absurd h (by decide)
  | 19, h, _ => exact absurd h (by decide)
  | 20, h, _ => exact absurd h (by decide)
  | 21, h, _ => exact absurd h (by decide)
  | 22, h, _ => exact absurd h (by decide)
  | 23, h, _ => exact absurd h (by decide)
  | 24, h, _ => exact absurd h (by decide)
  | 25, h, _ => exact absurd h (by decide)
  | 26, h, _ => exact absurd h (by decide)
  | 27, h, _ => exact absurd h (by decide)
  | 28, h, _ => exact absurd h (by decide)
  | 29, h, _ => exact absurd h (by decide)
  | 30, h, _ => exact absurd h (by decide)
  | 31, h, _ => exact absurd h (by decide)
  | 32, h, _ => exact absurd h (by decide)
  | 33, h, _ => exact absurd h (by decide)
  | 34, h, _ => exact absurd h (by decide)
  | 35, h, _ => exact absurd h (by decide)
  | 36, h, _ => exact absurd h (by decide)
  | 37, h, _ => exact absurd h (by decide)
  | 38, h, _ => exact absurd h (by decide)
  | 39, h, _ => exact absurd h (by decide)
  | 40, h, _ => exact absurd h (by decide)
  | 41, h, _ => exact absurd h (by decide)
  | 42, h, _ => exact absurd h (by decide)
  | 43, h, _ => exact absurd h (by decide)
  | 44, h, _ => exact absurd h (by decide)
  | 45, h, _ => exact absurd h (by decide)
  | 46, h, _ => exact absurd h (by decide)
  | 47, h, _ => exact absurd h (by decide)
  | 48, h, _ => exact absurd h (by decide)
  | 49, h, _ => exact absurd h (by decide)
  | 50, h, _ => exact absurd h (by decide)
  | 51, h, _ => exact absurd h (by decide)
  | 52, h, _ => exact absurd h (by decide)
  | 53, h, _ => exact absurd h (by decide)
  | 54, h, _ => exact absurd h (by decide)
  | 55, h, _ => exact absurd h (by decide)
  | 56, h, _ => exact absurd h (by decide)
  | 57, h, _ => exact absurd h (by decide)
  | 58, h, _ => exact absurd h (by decide)
set_option maxHeartbeats 8000000 in
set_option maxRecDepth 100000 in
theorem law_cells {b : Nat} {F : cg_F} {H : Heap} {ct : Nat → va_E} (hP : va_P F.1 rl_Cl (cg_w b (va_up (kf_Mo_init_59 F b (va_up (kf_Ro_init_0 F b (va_up ct 0 (.inr (0, [.null, .null, .null])))) 59 (.inr (7, [.int 0, .int 0, .null, .null, .null, .int 0, .int 0, .int 0, .null, .int 0, .null, .null, .null, .null, .null, .int 0, .int 0, .int 0, .null, .null, .null, .null, .null, .null, .null, .null, .null])))) 78 (.inl (F.2.2.1, 1, .inr (.inl (fun _ => 0))))) 79) H) : va_P F.1 rl_Cl (rl_wo (rl_Ef b F) rl_s0) H := by
  have hR : va_P F.1 rl_Cl (cg_w b (kf_Ro_init_0 F b (va_up ct 0 (.inr (0, [.null, .null, .null])))) 59) H := by
    intro j q hq
    obtain ⟨h1, h2⟩ := cg_of hq
    have h := hP j _ (cg_at (by omega))
    rw [h2]
    have e : (va_up (kf_Mo_init_59 F b (va_up (kf_Ro_init_0 F b (va_up ct 0 (.inr (0, [.null, .null, .null])))) 59 (.inr (7, [.int 0, .int 0, .null, .null, .null, .int 0, .int 0, .int 0, .null, .int 0, .null, .null, .null, .null, .null, .int 0, .int 0, .int 0, .null, .null, .null, .null, .null, .null, .null, .null, .null])))) 78 (.inl (F.2.2.1, 1, .inr (.inl (fun _ => 0))))) j = kf_Ro_init_0 F b (va_up ct 0 (.inr (0, [.null, .null, .null]))) j := by
      rw [rl_upn (by omega)]
      unfold kf_Mo_init_59
      repeat rw [rl_upn (by omega)]
    rw [← e]
    exact h
  intro k q hq
  obtain ⟨hk, hq⟩ := rl_wo_of hq
  have hk : k < 79 := hk
  subst hq
  by_cases h : k < 59
  · exact law_cellsA hR k h
  · exact law_cellsB hP k (by omega) hk
