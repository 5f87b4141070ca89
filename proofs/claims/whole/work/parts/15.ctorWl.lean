def kf_Wl_init_55 (F : cg_F) (b : Nat) (ct : Nat → va_E) : Nat → va_E := va_up (va_up (va_up (va_up (ct) 55 (.inr (5, [.int 0, .ref (b + 56), .ref (b + 57), .ref (b + 58)]))) 56 (.inl (F.2.1, 10, .inl (fun _ => 0)))) 57 (.inl (F.2.1, 10, .inl (fun _ => 0)))) 58 (.inl (F.2.1, 10, .inl (fun _ => 0)))
set_option maxHeartbeats 8000000 in
set_option maxRecDepth 100000 in
theorem k_Wl_init_55 (l : Launch) (F : cg_F) (b : Nat) (ct : Nat → va_E) (h55 : ct 55 = .inr (5, [.int 0, .null, .null, .null])) : Met l ny_Wl_init (.code ny_Wl_init nc_Wl_init 1 none :: rl_TT) { frames := 1, cells := 3, slots := 30, locals := 12 } (cg_P F b [.ref (b + 55)] ct 56) (cg_Q F b (kf_Wl_init_55 F b ct) 59) 3 30 (fun q => b ≤ q) := by
  refine Met.ofW (cc := nc_Wl_init) (maxL := 1) (ret := none) (by decide) rfl ?_
  intro p e s m args below meth c s₁ B hml hv
  obtain ⟨rfl, hz, hP, hO⟩ := hv
  have hb : b ≤ s.heap.size := by omega
  have Γ : CallFix p m c nc_Wl_init 1 s ([.ref (b + 55)] : List Value).toArray rl_TT nR_Wl := ⟨B.exec, B.bytes, hml, findClass_of_methodNamed B.named, fun w hw => atoms_spec B.pre w (List.mem_cons_of_mem _ hw)⟩
  have hr := B.returns
  have hk := B.notSynchronized
  have hin : meth.name = "<init>" := (name_of_methodNamed B.named B.method).1
  refine cg_start (R := { frames := 1, cells := 3, slots := 30, locals := 12 }) (nL := 1) (av := [.ref (b + 55)]) (ct := ct) (n := 56) (F := F) (b := b) hz hP (Nat.le_of_ble_eq_true rfl) ?_
  refine cg_aload_n (pc := 0) Γ nd_Wl_init_0 0 rfl ?_
  refine cg_obj (pc := 1) Γ nd_Wl_init_1 ng_ob_Wl_3 ng_ob_im ng_ob_cd (Nat.le_of_ble_eq_true rfl) (Nat.le_of_ble_eq_true rfl) ?_
  refine cg_aload_n (pc := 4) Γ nd_Wl_init_4 0 rfl ?_
  refine cg_iconst (v := 0) (pc := 5) Γ nd_Wl_init_5 (by decide) ?_
  refine cg_put (fs := [.int 0, .null, .null, .null]) (v := .int 0) (k := 0) (pc := 6) Γ nd_Wl_init_6 hO hb (Nat.le_of_ble_eq_true rfl) (by exact h55) rfl (by decide) ⟨ni_Wl, nf_Wl_9⟩ nt_Wl nto_Wl nn_Wl rfl (Nat.le_of_ble_eq_true rfl) rfl rfl ?_
  refine cg_aload_n (pc := 9) Γ nd_Wl_init_9 0 rfl ?_
  refine cg_bipush (v := 10) (pc := 10) Γ nd_Wl_init_10 (by decide) ?_
  refine cg_newa (N := 10) (pc := 12) Γ nd_Wl_init_12 hO hb ng_arr_int (by decide) (by decide) (Nat.le_of_ble_eq_true rfl) (Nat.le_of_ble_eq_true rfl) (Nat.le_of_ble_eq_true rfl) ?_
  refine cg_putF (fs := [.int 0, .null, .null, .null]) (v := .ref (b + 56)) (k := 1) (pc := 14) Γ nd_Wl_init_14 hO hb hin (Nat.le_of_ble_eq_true rfl) rfl rfl (by decide) ⟨ni_Wl, nf_Wl_15⟩ nt_Wl nto_Wl nn_Wl rfl rfl (Nat.le_of_ble_eq_true rfl) rfl rfl ?_
  refine cg_aload_n (pc := 17) Γ nd_Wl_init_17 0 rfl ?_
  refine cg_bipush (v := 10) (pc := 18) Γ nd_Wl_init_18 (by decide) ?_
  refine cg_newa (N := 10) (pc := 20) Γ nd_Wl_init_20 hO hb ng_arr_int (by decide) (by decide) (Nat.le_of_ble_eq_true rfl) (Nat.le_of_ble_eq_true rfl) (Nat.le_of_ble_eq_true rfl) ?_
  refine cg_putF (fs := [.int 0, .ref (b + 56), .null, .null]) (v := .ref (b + 57)) (k := 2) (pc := 22) Γ nd_Wl_init_22 hO hb hin (Nat.le_of_ble_eq_true rfl) rfl rfl (by decide) ⟨ni_Wl, nf_Wl_19⟩ nt_Wl nto_Wl nn_Wl rfl rfl (Nat.le_of_ble_eq_true rfl) rfl rfl ?_
  refine cg_aload_n (pc := 25) Γ nd_Wl_init_25 0 rfl ?_
  refine cg_bipush (v := 10) (pc := 26) Γ nd_Wl_init_26 (by decide) ?_
  refine cg_newa (N := 10) (pc := 28) Γ nd_Wl_init_28 hO hb ng_arr_int (by decide) (by decide) (Nat.le_of_ble_eq_true rfl) (Nat.le_of_ble_eq_true rfl) (Nat.le_of_ble_eq_true rfl) ?_
  refine cg_putF (fs := [.int 0, .ref (b + 56), .ref (b + 57), .null]) (v := .ref (b + 58)) (k := 3) (pc := 30) Γ nd_Wl_init_30 hO hb hin (Nat.le_of_ble_eq_true rfl) rfl rfl (by decide) ⟨ni_Wl, nf_Wl_22⟩ nt_Wl nto_Wl nn_Wl rfl rfl (Nat.le_of_ble_eq_true rfl) rfl rfl ?_
  exact cg_vretC (ct' := kf_Wl_init_55 F b ct) (pc := 33) Γ nd_Wl_init_33 hr hk ⟨Nat.le_of_ble_eq_true rfl, Nat.le_of_ble_eq_true rfl⟩ (fun k hk => match k, hk with | 0, _ => rfl | 1, _ => rfl | 2, _ => rfl | 3, _ => rfl | 4, _ => rfl | 5, _ => rfl | 6, _ => rfl | 7, _ => rfl | 8, _ => rfl | 9, _ => rfl | 10, _ => rfl | 11, _ => rfl | 12, _ => rfl | 13, _ => rfl | 14, _ => rfl | 15, _ => rfl | 16, _ => rfl | 17, _ => rfl | 18, _ => rfl | 19, _ => rfl | 20, _ => rfl | 21, _ => rfl | 22, _ => rfl | 23, _ => rfl | 24, _ => rfl | 25, _ => rfl | 26, _ => rfl | 27, _ => rfl | 28, _ => rfl | 29, _ => rfl | 30, _ => rfl | 31, _ => rfl | 32, _ => rfl | 33, _ => rfl | 34, _ => rfl | 35, _ => rfl | 36, _ => rfl | 37, _ => rfl | 38, _ => rfl | 39, _ => rfl | 40, _ => rfl | 41, _ => rfl | 42, _ => rfl | 43, _ => rfl | 44, _ => rfl | 45, _ => rfl | 46, _ => rfl | 47, _ => rfl | 48, _ => rfl | 49, _ => rfl | 50, _ => rfl | 51, _ => rfl | 52, _ => rfl | 53, _ => rfl | 54, _ => rfl | 55, _ => rfl | 56, _ => rfl | 57, _ => rfl | 58, _ => rfl | k + 59, hk => absurd hk (by omega))
