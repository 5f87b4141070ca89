set_option maxHeartbeats 8000000 in
set_option maxRecDepth 100000 in
/-- THE LAW FROM ITS ENTRY, over any invariant that holds at the start and that every round keeps -/
theorem whole_open {p : Program} {e : Env} {s : State} {m : MethodId} {below : List Frame} {meth : Method} {c : Code} (l : Launch) {b Ln : Nat} {xs : Nat → Int32} (Inv : rl_M → Prop) (hinit : Inv rl_s0) (hstep : ∀ (o P1 P2 P3 P4 : Int32) (σ : rl_M), Inv σ → ∃ τ, lf o P1 P2 P3 P4 σ = some τ ∧ Inv τ) (hlq : rl_Lq l) (hL : Ln ≤ 2560) (C0 : lw_At p s m meth c b Ln xs) : W p l e room_1 s m #[Value.ref b] below meth c s.heap [] 0 0 (lw_Z below #[Value.ref b] s) (entryFrame m ([Value.ref b] : List Value).toArray 7) := by
  obtain ⟨F, hO⟩ := law_K C0
  have hOk := law_Ok C0 hO
  obtain ⟨hx, hcb, hr, hml, hown, hts, hX, hbl, hlocks, hgv⟩ := id C0
  have Γ : CallFix p m c code 7 s #[Value.ref b] rl_TT nR_La := ⟨hx, hcb, hml, hown, fun w h => hts w (List.mem_filter.mp h).1⟩
  have hb : s.heap.size ≤ s.heap.size := Nat.le_refl _
  refine cg_start (R := room_1) (nL := 7) (av := [.ref b]) (ct := fun _ => .inr (0, [])) (n := 0) (F := F) (b := s.heap.size) rfl (fun k q h => by simp [cg_w] at h) (Nat.le_of_ble_eq_true rfl) ?_
  refine cg_new (ci := 0) (N := 3) (C := nR_Ro) (T := nT_Ro) (fs := [.null, .null, .null]) (pc := 0) Γ nd_law_0 hO hb ni_Ro nt_Ro nto_Ro ng_La_8 ng_in_Ro nm_ini_Ro rfl (fun j hj => by rcases (show j = 0 ∨ j = 1 ∨ j = 2 by omega) with rfl | rfl | rfl <;> rfl) (Nat.le_of_ble_eq_true rfl) (Nat.le_of_ble_eq_true rfl) ?_
  refine cg_dup (pc := 3) Γ nd_law_3 rfl ?_
  refine cg_callI (a := 0) (n := 1) (pc := 4) Γ nd_law_4 hO (k_Ro_init_0 l F s.heap.size _ rfl) nm_law_53 nm_im_Ro_init nm_ini_Ro nh_Ro_init ⟨rfl, rfl⟩ (by decide +kernel) rfl (Nat.le_of_ble_eq_true rfl) (Nat.le_of_ble_eq_true rfl) ⟨Nat.le_of_ble_eq_true rfl, Nat.le_of_ble_eq_true rfl⟩ (Nat.le_of_ble_eq_true rfl) ?_
  refine cg_astore_n (L' := [(1, .ref (s.heap.size + 0)), (0, .ref b)]) (pc := 7) Γ nd_law_7 (by decide) rfl ?_
  refine cg_new (ci := 7) (N := 27) (C := nR_Mo) (T := nT_Mo) (fs := [.int 0, .int 0, .null, .null, .null, .int 0, .int 0, .int 0, .null, .int 0, .null, .null, .null, .null, .null, .int 0, .int 0, .int 0, .null, .null, .null, .null, .null, .null, .null, .null, .null]) (pc := 8) Γ nd_law_8 hO hb ni_Mo nt_Mo nto_Mo ng_La_54 ng_in_Mo nm_ini_Mo rfl (fun j hj => by rcases (show j = 0 ∨ j = 1 ∨ j = 2 ∨ j = 3 ∨ j = 4 ∨ j = 5 ∨ j = 6 ∨ j = 7 ∨ j = 8 ∨ j = 9 ∨ j = 10 ∨ j = 11 ∨ j = 12 ∨ j = 13 ∨ j = 14 ∨ j = 15 ∨ j = 16 ∨ j = 17 ∨ j = 18 ∨ j = 19 ∨ j = 20 ∨ j = 21 ∨ j = 22 ∨ j = 23 ∨ j = 24 ∨ j = 25 ∨ j = 26 by omega) with rfl | rfl | rfl | rfl | rfl | rfl | rfl | rfl | rfl | rfl | rfl | rfl | rfl | rfl | rfl | rfl | rfl | rfl | rfl | rfl | rfl | rfl | rfl | rfl | rfl | rfl | rfl <;> rfl) (Nat.le_of_ble_eq_true rfl) (Nat.le_of_ble_eq_true rfl) ?_
  refine cg_dup (pc := 11) Γ nd_law_11 rfl ?_
  refine cg_callI (a := 59) (n := 60) (pc := 12) Γ nd_law_12 hO (k_Mo_init_59 l F s.heap.size _ rfl) nm_law_56 nm_im_Mo_init nm_ini_Mo nh_Mo_init ⟨rfl, rfl⟩ (by decide +kernel) rfl (Nat.le_of_ble_eq_true rfl) (Nat.le_of_ble_eq_true rfl) ⟨Nat.le_of_ble_eq_true rfl, Nat.le_of_ble_eq_true rfl⟩ (Nat.le_of_ble_eq_true rfl) ?_
  refine cg_astore_n (L' := [(2, .ref (s.heap.size + 59)), (1, .ref (s.heap.size + 0)), (0, .ref b)]) (pc := 15) Γ nd_law_15 (by decide) rfl ?_
  refine cg_iconst (v := 1) (pc := 16) Γ nd_law_16 (by decide) ?_
  refine cg_newl (N := 1) (pc := 17) Γ nd_law_17 hO hb ng_arr_long (by decide) (by decide) (Nat.le_of_ble_eq_true rfl) (Nat.le_of_ble_eq_true rfl) (Nat.le_of_ble_eq_true rfl) ?_
  refine cg_astore_n (L' := [(3, .ref (s.heap.size + 78)), (2, .ref (s.heap.size + 59)), (1, .ref (s.heap.size + 0)), (0, .ref b)]) (pc := 19) Γ nd_law_19 (by decide) rfl ?_
  refine cg_iconst (v := 0) (pc := 20) Γ nd_law_20 (by decide) ?_
  refine cg_istore (L' := [(4, .int 0), (3, .ref (s.heap.size + 78)), (2, .ref (s.heap.size + 59)), (1, .ref (s.heap.size + 0)), (0, .ref b)]) (pc := 21) Γ nd_law_21 (by decide) rfl ?_
  intro H locs ls hz h1 h2 h3
  have hE : ∀ q, rl_A (rl_Ef s.heap.size F) q → s.heap.size ≤ q := fun q ⟨k, _, h⟩ => by rw [h]; exact Nat.le_add_right _ _
  have hsz : s.heap.size ≤ H.size := by omega
  refine va_forget (fun q hq => h2.2.2 q hq) ?_
  exact law_loop (E := rl_Ef s.heap.size F) Inv hstep hL C0 hOk hlq hE (Ln + 1) 0 0 rl_s0 (Nat.zero_le _) (by omega) nI_0.symm hinit H [] ls (law_cells h1) ⟨hsz, fun q w1 w2 => h2.2.1 q w1 (Nat.not_le.mpr w1), fun q h => by cases h⟩ (lv_sub h3 [4, 3, 2, 1, 0] rfl)
