theorem rl_vpq {c : ClassId} {n : Nat} {f g : Nat → Option Nat} (h : ∀ i, i < n → f i = g i) : vp_cell c (n, .inr (.inr (.inr (.inr f)))) = vp_cell c (n, .inr (.inr (.inr (.inr g)))) := by
  rw [vp_cell_q, vp_cell_q]
  unfold arrV
  congr 1
  apply Array.ext
  · simp
  · intro i h1 h2
    simp only [Array.size_ofFn] at h1
    simp only [Array.getElem_ofFn]
    rw [h i h1]
set_option maxHeartbeats 8000000 in
set_option maxRecDepth 100000 in
theorem law_cellsA {b : Nat} {F : cg_F} {H : Heap} {ct : Nat → va_E} (hP : va_P F.1 rl_Cl (cg_w b (kf_Ro_init_0 F b (va_up ct 0 (.inr (0, [.null, .null, .null])))) 59) H) : ∀ k, k < 59 → va_at F.1 rl_Cl ((rl_Ef b F).1 k, rl_cr (rl_Ef b F) k (rl_s0 k)) H := by
  have h15 : va_at F.1 rl_Cl ((rl_Ef b F).1 15, rl_cr (rl_Ef b F) 15 (rl_s0 15)) H := by
    have h : va_at F.1 rl_Cl (b + 15, .inl (F.2.2.2, 11, .inr (.inr (.inr (.inr (va_up (va_up (va_up (va_up (va_up (va_up (va_up (va_up (va_up (va_up (va_up (fun _ => none) 0 (some (b + 22))) 1 (some (b + 25))) 2 (some (b + 28))) 3 (some (b + 31))) 4 (some (b + 34))) 5 (some (b + 37))) 6 (some (b + 40))) 7 (some (b + 43))) 8 (some (b + 46))) 9 (some (b + 49))) 10 (some (b + 52)))))))) H := hP 15 _ (cg_at (Nat.le_of_ble_eq_true rfl))
    have h : H[b + 15]? = some (vp_cell F.2.2.2 (11, .inr (.inr (.inr (.inr (va_up (va_up (va_up (va_up (va_up (va_up (va_up (va_up (va_up (va_up (va_up (fun _ => none) 0 (some (b + 22))) 1 (some (b + 25))) 2 (some (b + 28))) 3 (some (b + 31))) 4 (some (b + 34))) 5 (some (b + 37))) 6 (some (b + 40))) 7 (some (b + 43))) 8 (some (b + 46))) 9 (some (b + 49))) 10 (some (b + 52)))))))) := h
    show H[b + 15]? = some (vp_cell F.2.2.2 (11, .inr (.inr (.inr (.inr (fun i => some (b + rl_pm (23 + 3 * i))))))))
    rw [h, rl_vpq (fun i hi => ?_)]
    rcases (show i = 0 ∨ i = 1 ∨ i = 2 ∨ i = 3 ∨ i = 4 ∨ i = 5 ∨ i = 6 ∨ i = 7 ∨ i = 8 ∨ i = 9 ∨ i = 10 by omega) with rfl | rfl | rfl | rfl | rfl | rfl | rfl | rfl | rfl | rfl | rfl <;> rfl
  intro k hk
  match k, hk with
  | 0, _ => exact hP 0 _ (cg_at (Nat.le_of_ble_eq_true rfl))
  | 1, _ => exact hP 1 _ (cg_at (Nat.le_of_ble_eq_true rfl))
  | 2, _ => exact hP 2 _ (cg_at (Nat.le_of_ble_eq_true rfl))
  | 3, _ => exact hP 3 _ (cg_at (Nat.le_of_ble_eq_true rfl))
  | 4, _ => exact hP 4 _ (cg_at (Nat.le_of_ble_eq_true rfl))
  | 5, _ => exact hP 5 _ (cg_at (Nat.le_of_ble_eq_true rfl))
  | 6, _ => exact hP 6 _ (cg_at (Nat.le_of_ble_eq_true rfl))
  | 7, _ => exact hP 7 _ (cg_at (Nat.le_of_ble_eq_true rfl))
  | 8, _ => exact hP 8 _ (cg_at (Nat.le_of_ble_eq_true rfl))
  | 9, _ => exact hP 9 _ (cg_at (Nat.le_of_ble_eq_true rfl))
  | 10, _ => exact hP 10 _ (cg_at (Nat.le_of_ble_eq_true rfl))
  | 11, _ => exact hP 11 _ (cg_at (Nat.le_of_ble_eq_true rfl))
  | 12, _ => exact hP 12 _ (cg_at (Nat.le_of_ble_eq_true rfl))
  | 13, _ => exact hP 13 _ (cg_at (Nat.le_of_ble_eq_true rfl))
  | 14, _ => exact hP 14 _ (cg_at (Nat.le_of_ble_eq_true rfl))
  | 15, _ => exact h15
  | 16, _ => exact hP 19 _ (cg_at (Nat.le_of_ble_eq_true rfl))
  | 17, _ => exact hP 20 _ (cg_at (Nat.le_of_ble_eq_true rfl))
  | 18, _ => exact hP 21 _ (cg_at (Nat.le_of_ble_eq_true rfl))
  | 19, _ => exact hP 55 _ (cg_at (Nat.le_of_ble_eq_true rfl))
  | 20, _ => exact hP 56 _ (cg_at (Nat.le_of_ble_eq_true rfl))
  | 21, _ => exact hP 57 _ (cg_at (Nat.le_of_ble_eq_true rfl))
  | 22, _ => exact hP 58 _ (cg_at (Nat.le_of_ble_eq_true rfl))
  | 23, _ => exact hP 22 _ (cg_at (Nat.le_of_ble_eq_true rfl))
  | 24, _ => exact hP 23 _ (cg_at (Nat.le_of_ble_eq_true rfl))
  | 25, _ => exact hP 24 _ (cg_at (Nat.le_of_ble_eq_true rfl))
  | 26, _ => exact hP 25 _ (cg_at (Nat.le_of_ble_eq_true rfl))
  | 27, _ => exact hP 26 _ (cg_at (Nat.le_of_ble_eq_true rfl))
  | 28, _ => exact hP 27 _ (cg_at (Nat.le_of_ble_eq_true rfl))
  | 29, _ => exact hP 28 _ (cg_at (Nat.le_of_ble_eq_true rfl))
  | 30, _ => exact hP 29 _ (cg_at (Nat.le_of_ble_eq_true rfl))
  | 31, _ => exact hP 30 _ (cg_at (Nat.le_of_ble_eq_true rfl))
  | 32, _ => exact hP 31 _ (cg_at (Nat.le_of_ble_eq_true rfl))
  | 33, _ => exact hP 32 _ (cg_at (Nat.le_of_ble_eq_true rfl))
  | 34, _ => exact hP 33 _ (cg_at (Nat.le_of_ble_eq_true rfl))
  | 35, _ => exact hP 34 _ (cg_at (Nat.le_of_ble_eq_true rfl))
  | 36, _ => exact hP 35 _ (cg_at (Nat.le_of_ble_eq_true rfl))
  | 37, _ => exact hP 36 _ (cg_at (Nat.le_of_ble_eq_true rfl))
  | 38, _ => exact hP 37 _ (cg_at (Nat.le_of_ble_eq_true rfl))
  | 39, _ => exact hP 38 _ (cg_at (Nat.le_of_ble_eq_true rfl))
  | 40, _ => exact hP 39 _ (cg_at (Nat.le_of_ble_eq_true rfl))
  | 41, _ => exact hP 40 _ (cg_at (Nat.le_of_ble_eq_true rfl))
  | 42, _ => exact hP 41 _ (cg_at (Nat.le_of_ble_eq_true rfl))
  | 43, _ => exact hP 42 _ (cg_at (Nat.le_of_ble_eq_true rfl))
  | 44, _ => exact hP 43 _ (cg_at (Nat.le_of_ble_eq_true rfl))
  | 45, _ => exact hP 44 _ (cg_at (Nat.le_of_ble_eq_true rfl))
  | 46, _ => exact hP 45 _ (cg_at (Nat.le_of_ble_eq_true rfl))
  | 47, _ => exact hP 46 _ (cg_at (Nat.le_of_ble_eq_true rfl))
  | 48, _ => exact hP 47 _ (cg_at (Nat.le_of_ble_eq_true rfl))
  | 49, _ => exact hP 48 _ (cg_at (Nat.le_of_ble_eq_true rfl))
  | 50, _ => exact hP 49 _ (cg_at (Nat.le_of_ble_eq_true rfl))
  | 51, _ => exact hP 50 _ (cg_at (Nat.le_of_ble_eq_true rfl))
  | 52, _ => exact hP 51 _ (cg_at (Nat.le_of_ble_eq_true rfl))
  | 53, _ => exact hP 52 _ (cg_at (Nat.le_of_ble_eq_true rfl))
  | 54, _ => exact hP 53 _ (cg_at (Nat.le_of_ble_eq_true rfl))
  | 55, _ => exact hP 54 _ (cg_at (Nat.le_of_ble_eq_true rfl))
  | 56, _ => exact hP 16 _ (cg_at (Nat.le_of_ble_eq_true rfl))
  | 57, _ => exact hP 17 _ (cg_at (Nat.le_of_ble_eq_true rfl))
  | 58, _ => exact hP 18 _ (cg_at (Nat.le_of_ble_eq_true rfl))
  | k + 59, hk => exact absurd hk (by omega)
