def kf_Pl_init_3 (F : cg_F) (b : Nat) (ct : Nat → va_E) : Nat → va_E := va_up (va_up (va_up (va_up (va_up (va_up (va_up (va_up (va_up (va_up (va_up (va_up (va_up (va_up (va_up (va_up (va_up (va_up (va_up (va_up (va_up (va_up (va_up (va_up (va_up (va_up (va_up (va_up (va_up (va_up (va_up (va_up (va_up (va_up (va_up (va_up (va_up (va_up (va_up (va_up (va_up (va_up (va_up (va_up (va_up (va_up (va_up (va_up (va_up (va_up (va_up (va_up (ct) 3 (.inr (2, [.ref (b + 4), .ref (b + 8), .int 400, .int 400, .int 0, .int 0, .ref (b + 15), .ref (b + 16), .int ((-1)), .ref (b + 19), .ref (b + 20), .ref (b + 21)]))) 4 (.inr (3, [.int 0, .ref (b + 5), .ref (b + 6), .ref (b + 7)]))) 5 (.inl (F.2.1, 6, .inl (fun _ => 0)))) 6 (.inl (F.2.1, 24, .inl (fun _ => 0)))) 7 (.inl (F.2.1, 24, .inl (fun _ => 0)))) 8 (.inr (4, [.int 0, .ref (b + 9), .ref (b + 10), .ref (b + 11), .ref (b + 12), .ref (b + 13), .ref (b + 14)]))) 9 (.inl (F.2.1, 11, .inl (fun _ => 0)))) 10 (.inl (F.2.1, 11, .inl (fun _ => 0)))) 11 (.inl (F.2.1, 11, .inl (fun _ => 0)))) 12 (.inl (F.2.1, 11, .inl (fun _ => 0)))) 13 (.inl (F.2.1, 11, .inl (fun _ => 0)))) 14 (.inl (F.2.1, 6, .inl (upd (upd (upd (upd (upd (upd (fun _ => 0) 0 ((-1))) 1 ((-1))) 2 ((-1))) 3 ((-1))) 4 ((-1))) 5 ((-1)))))) 15 (.inl (F.2.2.2, 11, .inr (.inr (.inr (.inr (va_up (va_up (va_up (va_up (va_up (va_up (va_up (va_up (va_up (va_up (va_up (fun _ => none) 0 (some (b + 22))) 1 (some (b + 25))) 2 (some (b + 28))) 3 (some (b + 31))) 4 (some (b + 34))) 5 (some (b + 37))) 6 (some (b + 40))) 7 (some (b + 43))) 8 (some (b + 46))) 9 (some (b + 49))) 10 (some (b + 52))))))))) 16 (.inr (6, [.int 0, .ref (b + 17), .ref (b + 18)]))) 17 (.inl (F.2.1, 24, .inl (fun _ => 0)))) 18 (.inl (F.2.1, 24, .inl (fun _ => 0)))) 19 (.inl (F.2.1, 11, .inl (fun _ => 0)))) 20 (.inl (F.2.1, 11, .inl (fun _ => 0)))) 21 (.inl (F.2.1, 11, .inl (fun _ => 0)))) 22 (.inr (6, [.int 0, .ref (b + 23), .ref (b + 24)]))) 23 (.inl (F.2.1, 24, .inl (fun _ => 0)))) 24 (.inl (F.2.1, 24, .inl (fun _ => 0)))) 25 (.inr (6, [.int 0, .ref (b + 26), .ref (b + 27)]))) 26 (.inl (F.2.1, 24, .inl (fun _ => 0)))) 27 (.inl (F.2.1, 24, .inl (fun _ => 0)))) 28 (.inr (6, [.int 0, .ref (b + 29), .ref (b + 30)]))) 29 (.inl (F.2.1, 24, .inl (fun _ => 0)))) 30 (.inl (F.2.1, 24, .inl (fun _ => 0)))) 31 (.inr (6, [.int 0, .ref (b + 32), .ref (b + 33)]))) 32 (.inl (F.2.1, 24, .inl (fun _ => 0)))) 33 (.inl (F.2.1, 24, .inl (fun _ => 0)))) 34 (.inr (6, [.int 0, .ref (b + 35), .ref (b + 36)]))) 35 (.inl (F.2.1, 24, .inl (fun _ => 0)))) 36 (.inl (F.2.1, 24, .inl (fun _ => 0)))) 37 (.inr (6, [.int 0, .ref (b + 38), .ref (b + 39)]))) 38 (.inl (F.2.1, 24, .inl (fun _ => 0)))) 39 (.inl (F.2.1, 24, .inl (fun _ => 0)))) 40 (.inr (6, [.int 0, .ref (b + 41), .ref (b + 42)]))) 41 (.inl (F.2.1, 24, .inl (fun _ => 0)))) 42 (.inl (F.2.1, 24, .inl (fun _ => 0)))) 43 (.inr (6, [.int 0, .ref (b + 44), .ref (b + 45)]))) 44 (.inl (F.2.1, 24, .inl (fun _ => 0)))) 45 (.inl (F.2.1, 24, .inl (fun _ => 0)))) 46 (.inr (6, [.int 0, .ref (b + 47), .ref (b + 48)]))) 47 (.inl (F.2.1, 24, .inl (fun _ => 0)))) 48 (.inl (F.2.1, 24, .inl (fun _ => 0)))) 49 (.inr (6, [.int 0, .ref (b + 50), .ref (b + 51)]))) 50 (.inl (F.2.1, 24, .inl (fun _ => 0)))) 51 (.inl (F.2.1, 24, .inl (fun _ => 0)))) 52 (.inr (6, [.int 0, .ref (b + 53), .ref (b + 54)]))) 53 (.inl (F.2.1, 24, .inl (fun _ => 0)))) 54 (.inl (F.2.1, 24, .inl (fun _ => 0)))
set_option maxHeartbeats 8000000 in
set_option maxRecDepth 100000 in
theorem k_Pl_init_3 (l : Launch) (F : cg_F) (b : Nat) (ct : Nat → va_E) (h3 : ct 3 = .inr (2, [.null, .null, .int 0, .int 0, .int 0, .int 0, .null, .null, .int 0, .null, .null, .null])) : Met l ny_Pl_init (.code ny_Pl_init nc_Pl_init 2 none :: rl_TT) { frames := 2, cells := 51, slots := 782, locals := 41 } (cg_P F b [.ref (b + 3)] ct 4) (cg_Q F b (kf_Pl_init_3 F b ct) 55) 51 782 (fun q => b ≤ q) := by
  refine Met.ofW (cc := nc_Pl_init) (maxL := 2) (ret := none) (by decide) rfl ?_
  intro p e s m args below meth c s₁ B hml hv
  obtain ⟨rfl, hz, hP, hO⟩ := hv
  have hb : b ≤ s.heap.size := by omega
  have Γ : CallFix p m c nc_Pl_init 2 s ([.ref (b + 3)] : List Value).toArray rl_TT nR_Pl := ⟨B.exec, B.bytes, hml, findClass_of_methodNamed B.named, fun w hw => atoms_spec B.pre w (List.mem_cons_of_mem _ hw)⟩
  have hr := B.returns
  have hk := B.notSynchronized
  have hin : meth.name = "<init>" := (name_of_methodNamed B.named B.method).1
  refine cg_start (R := { frames := 2, cells := 51, slots := 782, locals := 41 }) (nL := 2) (av := [.ref (b + 3)]) (ct := ct) (n := 4) (F := F) (b := b) hz hP (Nat.le_of_ble_eq_true rfl) ?_
  refine cg_aload_n (pc := 0) Γ nd_Pl_init_0 0 rfl ?_
  refine cg_obj (pc := 1) Γ nd_Pl_init_1 ng_ob_Pl_3 ng_ob_im ng_ob_cd (Nat.le_of_ble_eq_true rfl) (Nat.le_of_ble_eq_true rfl) ?_
  refine cg_aload_n (pc := 4) Γ nd_Pl_init_4 0 rfl ?_
  refine cg_new (ci := 3) (N := 4) (C := nR_Rl) (T := nT_Rl) (fs := [.int 0, .null, .null, .null]) (pc := 5) Γ nd_Pl_init_5 hO hb ni_Rl nt_Rl nto_Rl ng_Pl_9 ng_in_Rl nm_ini_Rl rfl (fun j hj => by rcases (show j = 0 ∨ j = 1 ∨ j = 2 ∨ j = 3 by omega) with rfl | rfl | rfl | rfl <;> rfl) (Nat.le_of_ble_eq_true rfl) (Nat.le_of_ble_eq_true rfl) ?_
  refine cg_dup (pc := 8) Γ nd_Pl_init_8 rfl ?_
  refine cg_callIN (a := 4) (n := 5) (pc := 9) Γ nd_Pl_init_9 hO (k_Rl_init_4 l F b _ rfl) hO.2.1.2.1 nm_im_Rl_init nm_ini_Rl nh_Rl_init ⟨rfl, rfl⟩ (by decide +kernel) rfl (Nat.le_of_ble_eq_true rfl) (Nat.le_of_ble_eq_true rfl) ⟨Nat.le_of_ble_eq_true rfl, Nat.le_of_ble_eq_true rfl⟩ (Nat.le_of_ble_eq_true rfl) ?_
  refine cg_putF (fs := [.null, .null, .int 0, .int 0, .int 0, .int 0, .null, .null, .int 0, .null, .null, .null]) (v := .ref (b + 4)) (k := 0) (pc := 12) Γ nd_Pl_init_12 hO hb hin (Nat.le_of_ble_eq_true rfl) (by exact h3) rfl (by decide) ⟨ni_Pl, nf_Pl_12⟩ nt_Pl nto_Pl nn_Pl rfl rfl (Nat.le_of_ble_eq_true rfl) rfl rfl ?_
  refine cg_aload_n (pc := 15) Γ nd_Pl_init_15 0 rfl ?_
  refine cg_new (ci := 4) (N := 7) (C := nR_St) (T := nT_St) (fs := [.int 0, .null, .null, .null, .null, .null, .null]) (pc := 16) Γ nd_Pl_init_16 hO hb ni_St nt_St nto_St ng_Pl_18 ng_in_St nm_ini_St rfl (fun j hj => by rcases (show j = 0 ∨ j = 1 ∨ j = 2 ∨ j = 3 ∨ j = 4 ∨ j = 5 ∨ j = 6 by omega) with rfl | rfl | rfl | rfl | rfl | rfl | rfl <;> rfl) (Nat.le_of_ble_eq_true rfl) (Nat.le_of_ble_eq_true rfl) ?_
  refine cg_dup (pc := 19) Γ nd_Pl_init_19 rfl ?_
  refine cg_callI (a := 8) (n := 9) (pc := 20) Γ nd_Pl_init_20 hO (k_St_init_8 l F b _ rfl) nm_Pl_20 nm_im_St_init nm_ini_St nh_St_init ⟨rfl, rfl⟩ (by decide +kernel) rfl (Nat.le_of_ble_eq_true rfl) (Nat.le_of_ble_eq_true rfl) ⟨Nat.le_of_ble_eq_true rfl, Nat.le_of_ble_eq_true rfl⟩ (Nat.le_of_ble_eq_true rfl) ?_
  refine cg_putF (fs := [.ref (b + 4), .null, .int 0, .int 0, .int 0, .int 0, .null, .null, .int 0, .null, .null, .null]) (v := .ref (b + 8)) (k := 1) (pc := 23) Γ nd_Pl_init_23 hO hb hin (Nat.le_of_ble_eq_true rfl) rfl rfl (by decide) ⟨ni_Pl, nf_Pl_21⟩ nt_Pl nto_Pl nn_Pl rfl rfl (Nat.le_of_ble_eq_true rfl) rfl rfl ?_
  refine cg_aload_n (pc := 26) Γ nd_Pl_init_26 0 rfl ?_
  refine cg_sipush (v := 400) (pc := 27) Γ nd_Pl_init_27 (by decide) ?_
  refine cg_put (fs := [.ref (b + 4), .ref (b + 8), .int 0, .int 0, .int 0, .int 0, .null, .null, .int 0, .null, .null, .null]) (v := .int 400) (k := 2) (pc := 30) Γ nd_Pl_init_30 hO hb (Nat.le_of_ble_eq_true rfl) rfl rfl (by decide) ⟨ni_Pl, nf_Pl_25⟩ nt_Pl nto_Pl nn_Pl rfl (Nat.le_of_ble_eq_true rfl) rfl rfl ?_
  refine cg_aload_n (pc := 33) Γ nd_Pl_init_33 0 rfl ?_
  refine cg_sipush (v := 400) (pc := 34) Γ nd_Pl_init_34 (by decide) ?_
  refine cg_put (fs := [.ref (b + 4), .ref (b + 8), .int 400, .int 0, .int 0, .int 0, .null, .null, .int 0, .null, .null, .null]) (v := .int 400) (k := 3) (pc := 37) Γ nd_Pl_init_37 hO hb (Nat.le_of_ble_eq_true rfl) rfl rfl (by decide) ⟨ni_Pl, nf_Pl_29⟩ nt_Pl nto_Pl nn_Pl rfl (Nat.le_of_ble_eq_true rfl) rfl rfl ?_
  refine cg_aload_n (pc := 40) Γ nd_Pl_init_40 0 rfl ?_
  refine cg_iconst (v := 0) (pc := 41) Γ nd_Pl_init_41 (by decide) ?_
  refine cg_put (fs := [.ref (b + 4), .ref (b + 8), .int 400, .int 400, .int 0, .int 0, .null, .null, .int 0, .null, .null, .null]) (v := .int 0) (k := 4) (pc := 42) Γ nd_Pl_init_42 hO hb (Nat.le_of_ble_eq_true rfl) rfl rfl (by decide) ⟨ni_Pl, nf_Pl_32⟩ nt_Pl nto_Pl nn_Pl rfl (Nat.le_of_ble_eq_true rfl) (by decide) rfl ?_
  refine cg_aload_n (pc := 45) Γ nd_Pl_init_45 0 rfl ?_
  refine cg_iconst (v := 0) (pc := 46) Γ nd_Pl_init_46 (by decide) ?_
  refine cg_put (fs := [.ref (b + 4), .ref (b + 8), .int 400, .int 400, .int 0, .int 0, .null, .null, .int 0, .null, .null, .null]) (v := .int 0) (k := 5) (pc := 47) Γ nd_Pl_init_47 hO hb (Nat.le_of_ble_eq_true rfl) rfl rfl (by decide) ⟨ni_Pl, nf_Pl_36⟩ nt_Pl nto_Pl nn_Pl rfl (Nat.le_of_ble_eq_true rfl) (by decide) rfl ?_
  refine cg_aload_n (pc := 50) Γ nd_Pl_init_50 0 rfl ?_
  refine cg_bipush (v := 11) (pc := 51) Γ nd_Pl_init_51 (by decide) ?_
  refine cg_newq (N := 11) (pc := 53) Γ nd_Pl_init_53 hO hb ng_Pl_39 (by decide) (by decide) (Nat.le_of_ble_eq_true rfl) (Nat.le_of_ble_eq_true rfl) (Nat.le_of_ble_eq_true rfl) ?_
  refine cg_putF (fs := [.ref (b + 4), .ref (b + 8), .int 400, .int 400, .int 0, .int 0, .null, .null, .int 0, .null, .null, .null]) (v := .ref (b + 15)) (k := 6) (pc := 56) Γ nd_Pl_init_56 hO hb hin (Nat.le_of_ble_eq_true rfl) rfl rfl (by decide) ⟨ni_Pl, nf_Pl_41⟩ nt_Pl nto_Pl nn_Pl rfl rfl (Nat.le_of_ble_eq_true rfl) rfl rfl ?_
  refine cg_aload_n (pc := 59) Γ nd_Pl_init_59 0 rfl ?_
  refine cg_new (ci := 6) (N := 3) (C := nR_Cu) (T := nT_Cu) (fs := [.int 0, .null, .null]) (pc := 60) Γ nd_Pl_init_60 hO hb ni_Cu nt_Cu nto_Cu ng_Pl_39 ng_in_Cu nm_ini_Cu rfl (fun j hj => by rcases (show j = 0 ∨ j = 1 ∨ j = 2 by omega) with rfl | rfl | rfl <;> rfl) (Nat.le_of_ble_eq_true rfl) (Nat.le_of_ble_eq_true rfl) ?_
  refine cg_dup (pc := 63) Γ nd_Pl_init_63 rfl ?_
  refine cg_callIN (a := 16) (n := 17) (pc := 64) Γ nd_Pl_init_64 hO (k_Cu_init_16 l F b _ rfl) hO.2.1.2.2.1 nm_im_Cu_init nm_ini_Cu nh_Cu_init ⟨rfl, rfl⟩ (by decide +kernel) rfl (Nat.le_of_ble_eq_true rfl) (Nat.le_of_ble_eq_true rfl) ⟨Nat.le_of_ble_eq_true rfl, Nat.le_of_ble_eq_true rfl⟩ (Nat.le_of_ble_eq_true rfl) ?_
  refine cg_putF (fs := [.ref (b + 4), .ref (b + 8), .int 400, .int 400, .int 0, .int 0, .ref (b + 15), .null, .int 0, .null, .null, .null]) (v := .ref (b + 16)) (k := 7) (pc := 67) Γ nd_Pl_init_67 hO hb hin (Nat.le_of_ble_eq_true rfl) rfl rfl (by decide) ⟨ni_Pl, nf_Pl_46⟩ nt_Pl nto_Pl nn_Pl rfl rfl (Nat.le_of_ble_eq_true rfl) rfl rfl ?_
  refine cg_aload_n (pc := 70) Γ nd_Pl_init_70 0 rfl ?_
  refine cg_iconst (v := (-1)) (pc := 71) Γ nd_Pl_init_71 (by decide) ?_
  refine cg_put (fs := [.ref (b + 4), .ref (b + 8), .int 400, .int 400, .int 0, .int 0, .ref (b + 15), .ref (b + 16), .int 0, .null, .null, .null]) (v := .int ((-1))) (k := 8) (pc := 72) Γ nd_Pl_init_72 hO hb (Nat.le_of_ble_eq_true rfl) rfl rfl (by decide) ⟨ni_Pl, nf_Pl_50⟩ nt_Pl nto_Pl nn_Pl rfl (Nat.le_of_ble_eq_true rfl) rfl rfl ?_
  refine cg_aload_n (pc := 75) Γ nd_Pl_init_75 0 rfl ?_
  refine cg_bipush (v := 11) (pc := 76) Γ nd_Pl_init_76 (by decide) ?_
  refine cg_newa (N := 11) (pc := 78) Γ nd_Pl_init_78 hO hb ng_arr_int (by decide) (by decide) (Nat.le_of_ble_eq_true rfl) (Nat.le_of_ble_eq_true rfl) (Nat.le_of_ble_eq_true rfl) ?_
  refine cg_putF (fs := [.ref (b + 4), .ref (b + 8), .int 400, .int 400, .int 0, .int 0, .ref (b + 15), .ref (b + 16), .int ((-1)), .null, .null, .null]) (v := .ref (b + 19)) (k := 9) (pc := 80) Γ nd_Pl_init_80 hO hb hin (Nat.le_of_ble_eq_true rfl) rfl rfl (by decide) ⟨ni_Pl, nf_Pl_53⟩ nt_Pl nto_Pl nn_Pl rfl rfl (Nat.le_of_ble_eq_true rfl) rfl rfl ?_
  refine cg_aload_n (pc := 83) Γ nd_Pl_init_83 0 rfl ?_
  refine cg_bipush (v := 11) (pc := 84) Γ nd_Pl_init_84 (by decide) ?_
  refine cg_newa (N := 11) (pc := 86) Γ nd_Pl_init_86 hO hb ng_arr_int (by decide) (by decide) (Nat.le_of_ble_eq_true rfl) (Nat.le_of_ble_eq_true rfl) (Nat.le_of_ble_eq_true rfl) ?_
  refine cg_putF (fs := [.ref (b + 4), .ref (b + 8), .int 400, .int 400, .int 0, .int 0, .ref (b + 15), .ref (b + 16), .int ((-1)), .ref (b + 19), .null, .null]) (v := .ref (b + 20)) (k := 10) (pc := 88) Γ nd_Pl_init_88 hO hb hin (Nat.le_of_ble_eq_true rfl) rfl rfl (by decide) ⟨ni_Pl, nf_Pl_57⟩ nt_Pl nto_Pl nn_Pl rfl rfl (Nat.le_of_ble_eq_true rfl) rfl rfl ?_
  refine cg_aload_n (pc := 91) Γ nd_Pl_init_91 0 rfl ?_
  refine cg_bipush (v := 11) (pc := 92) Γ nd_Pl_init_92 (by decide) ?_
  refine cg_newa (N := 11) (pc := 94) Γ nd_Pl_init_94 hO hb ng_arr_int (by decide) (by decide) (Nat.le_of_ble_eq_true rfl) (Nat.le_of_ble_eq_true rfl) (Nat.le_of_ble_eq_true rfl) ?_
  refine cg_putF (fs := [.ref (b + 4), .ref (b + 8), .int 400, .int 400, .int 0, .int 0, .ref (b + 15), .ref (b + 16), .int ((-1)), .ref (b + 19), .ref (b + 20), .null]) (v := .ref (b + 21)) (k := 11) (pc := 96) Γ nd_Pl_init_96 hO hb hin (Nat.le_of_ble_eq_true rfl) rfl rfl (by decide) ⟨ni_Pl, nf_Pl_60⟩ nt_Pl nto_Pl nn_Pl rfl rfl (Nat.le_of_ble_eq_true rfl) rfl rfl ?_
  refine cg_iconst (v := 0) (pc := 99) Γ nd_Pl_init_99 (by decide) ?_
  refine cg_istore_n (L' := [(1, .int 0), (0, .ref (b + 3))]) (pc := 100) Γ nd_Pl_init_100 (by decide) rfl ?_
  refine cg_iload_n (pc := 101) Γ nd_Pl_init_101 0 rfl ?_
  refine cg_bipush (v := 11) (pc := 102) Γ nd_Pl_init_102 (by decide) ?_
  refine cg_icmp_ge (tgt := 126) (pc := 104) Γ nd_Pl_init_104 (by decide) (fun q => absurd q (by decide)) (fun _ => ?_)
  refine cg_aload_n (pc := 107) Γ nd_Pl_init_107 1 rfl ?_
  refine cg_get (fs := [.ref (b + 4), .ref (b + 8), .int 400, .int 400, .int 0, .int 0, .ref (b + 15), .ref (b + 16), .int ((-1)), .ref (b + 19), .ref (b + 20), .ref (b + 21)]) (k := 6) (pc := 108) Γ nd_Pl_init_108 hO (Nat.le_of_ble_eq_true rfl) rfl rfl (by decide) rfl ⟨ni_Pl, nf_Pl_41⟩ ?_
  refine cg_iload_n (pc := 111) Γ nd_Pl_init_111 0 rfl ?_
  refine cg_new (ci := 6) (N := 3) (C := nR_Cu) (T := nT_Cu) (fs := [.int 0, .null, .null]) (pc := 112) Γ nd_Pl_init_112 hO hb ni_Cu nt_Cu nto_Cu ng_Pl_39 ng_in_Cu nm_ini_Cu rfl (fun j hj => by rcases (show j = 0 ∨ j = 1 ∨ j = 2 by omega) with rfl | rfl | rfl <;> rfl) (Nat.le_of_ble_eq_true rfl) (Nat.le_of_ble_eq_true rfl) ?_
  refine cg_dup (pc := 115) Γ nd_Pl_init_115 rfl ?_
  refine cg_callIN (a := 22) (n := 23) (pc := 116) Γ nd_Pl_init_116 hO (k_Cu_init_22 l F b _ rfl) hO.2.1.2.2.1 nm_im_Cu_init nm_ini_Cu nh_Cu_init ⟨rfl, rfl⟩ (by decide +kernel) rfl (Nat.le_of_ble_eq_true rfl) (Nat.le_of_ble_eq_true rfl) ⟨Nat.le_of_ble_eq_true rfl, Nat.le_of_ble_eq_true rfl⟩ (Nat.le_of_ble_eq_true rfl) ?_
  refine cg_ast (f := (fun _ => none)) (vs := [.int 0, .ref (b + 23), .ref (b + 24)]) (pc := 119) Γ nd_Pl_init_119 hO hb (Nat.le_of_ble_eq_true rfl) rfl (Nat.le_of_ble_eq_true rfl) rfl (rl_ib_in (by decide)) ?_
  refine cg_iinc (v := 1) (L' := [(1, .int 1), (0, .ref (b + 3))]) (pc := 120) Γ nd_Pl_init_120 0 rfl (by decide) (by decide) rfl ?_
  refine cg_goto (tgt := 101) (pc := 123) Γ nd_Pl_init_123 (by decide) ?_
  refine cg_iload_n (pc := 101) Γ nd_Pl_init_101 0 rfl ?_
  refine cg_bipush (v := 11) (pc := 102) Γ nd_Pl_init_102 (by decide) ?_
  refine cg_icmp_ge (tgt := 126) (pc := 104) Γ nd_Pl_init_104 (by decide) (fun q => absurd q (by decide)) (fun _ => ?_)
  refine cg_aload_n (pc := 107) Γ nd_Pl_init_107 1 rfl ?_
  refine cg_get (fs := [.ref (b + 4), .ref (b + 8), .int 400, .int 400, .int 0, .int 0, .ref (b + 15), .ref (b + 16), .int ((-1)), .ref (b + 19), .ref (b + 20), .ref (b + 21)]) (k := 6) (pc := 108) Γ nd_Pl_init_108 hO (Nat.le_of_ble_eq_true rfl) rfl rfl (by decide) rfl ⟨ni_Pl, nf_Pl_41⟩ ?_
  refine cg_iload_n (pc := 111) Γ nd_Pl_init_111 0 rfl ?_
  refine cg_new (ci := 6) (N := 3) (C := nR_Cu) (T := nT_Cu) (fs := [.int 0, .null, .null]) (pc := 112) Γ nd_Pl_init_112 hO hb ni_Cu nt_Cu nto_Cu ng_Pl_39 ng_in_Cu nm_ini_Cu rfl (fun j hj => by rcases (show j = 0 ∨ j = 1 ∨ j = 2 by omega) with rfl | rfl | rfl <;> rfl) (Nat.le_of_ble_eq_true rfl) (Nat.le_of_ble_eq_true rfl) ?_
  refine cg_dup (pc := 115) Γ nd_Pl_init_115 rfl ?_
  refine cg_callIN (a := 25) (n := 26) (pc := 116) Γ nd_Pl_init_116 hO (k_Cu_init_25 l F b _ rfl) hO.2.1.2.2.1 nm_im_Cu_init nm_ini_Cu nh_Cu_init ⟨rfl, rfl⟩ (by decide +kernel) rfl (Nat.le_of_ble_eq_true rfl) (Nat.le_of_ble_eq_true rfl) ⟨Nat.le_of_ble_eq_true rfl, Nat.le_of_ble_eq_true rfl⟩ (Nat.le_of_ble_eq_true rfl) ?_
  refine cg_ast (f := (va_up (fun _ => none) 0 (some (b + 22)))) (vs := [.int 0, .ref (b + 26), .ref (b + 27)]) (pc := 119) Γ nd_Pl_init_119 hO hb (Nat.le_of_ble_eq_true rfl) rfl (Nat.le_of_ble_eq_true rfl) rfl (rl_ib_in (by decide)) ?_
  refine cg_iinc (v := 2) (L' := [(1, .int 2), (0, .ref (b + 3))]) (pc := 120) Γ nd_Pl_init_120 0 rfl (by decide) (by decide) rfl ?_
  refine cg_goto (tgt := 101) (pc := 123) Γ nd_Pl_init_123 (by decide) ?_
  refine cg_iload_n (pc := 101) Γ nd_Pl_init_101 0 rfl ?_
  refine cg_bipush (v := 11) (pc := 102) Γ nd_Pl_init_102 (by decide) ?_
  refine cg_icmp_ge (tgt := 126) (pc := 104) Γ nd_Pl_init_104 (by decide) (fun q => absurd q (by decide)) (fun _ => ?_)
  refine cg_aload_n (pc := 107) Γ nd_Pl_init_107 1 rfl ?_
  refine cg_get (fs := [.ref (b + 4), .ref (b + 8), .int 400, .int 400, .int 0, .int 0, .ref (b + 15), .ref (b + 16), .int ((-1)), .ref (b + 19), .ref (b + 20), .ref (b + 21)]) (k := 6) (pc := 108) Γ nd_Pl_init_108 hO (Nat.le_of_ble_eq_true rfl) rfl rfl (by decide) rfl ⟨ni_Pl, nf_Pl_41⟩ ?_
  refine cg_iload_n (pc := 111) Γ nd_Pl_init_111 0 rfl ?_
  refine cg_new (ci := 6) (N := 3) (C := nR_Cu) (T := nT_Cu) (fs := [.int 0, .null, .null]) (pc := 112) Γ nd_Pl_init_112 hO hb ni_Cu nt_Cu nto_Cu ng_Pl_39 ng_in_Cu nm_ini_Cu rfl (fun j hj => by rcases (show j = 0 ∨ j = 1 ∨ j = 2 by omega) with rfl | rfl | rfl <;> rfl) (Nat.le_of_ble_eq_true rfl) (Nat.le_of_ble_eq_true rfl) ?_
  refine cg_dup (pc := 115) Γ nd_Pl_init_115 rfl ?_
  refine cg_callIN (a := 28) (n := 29) (pc := 116) Γ nd_Pl_init_116 hO (k_Cu_init_28 l F b _ rfl) hO.2.1.2.2.1 nm_im_Cu_init nm_ini_Cu nh_Cu_init ⟨rfl, rfl⟩ (by decide +kernel) rfl (Nat.le_of_ble_eq_true rfl) (Nat.le_of_ble_eq_true rfl) ⟨Nat.le_of_ble_eq_true rfl, Nat.le_of_ble_eq_true rfl⟩ (Nat.le_of_ble_eq_true rfl) ?_
  refine cg_ast (f := (va_up (va_up (fun _ => none) 0 (some (b + 22))) 1 (some (b + 25)))) (vs := [.int 0, .ref (b + 29), .ref (b + 30)]) (pc := 119) Γ nd_Pl_init_119 hO hb (Nat.le_of_ble_eq_true rfl) rfl (Nat.le_of_ble_eq_true rfl) rfl (rl_ib_in (by decide)) ?_
  refine cg_iinc (v := 3) (L' := [(1, .int 3), (0, .ref (b + 3))]) (pc := 120) Γ nd_Pl_init_120 0 rfl (by decide) (by decide) rfl ?_
  refine cg_goto (tgt := 101) (pc := 123) Γ nd_Pl_init_123 (by decide) ?_
  refine cg_iload_n (pc := 101) Γ nd_Pl_init_101 0 rfl ?_
  refine cg_bipush (v := 11) (pc := 102) Γ nd_Pl_init_102 (by decide) ?_
  refine cg_icmp_ge (tgt := 126) (pc := 104) Γ nd_Pl_init_104 (by decide) (fun q => absurd q (by decide)) (fun _ => ?_)
  refine cg_aload_n (pc := 107) Γ nd_Pl_init_107 1 rfl ?_
  refine cg_get (fs := [.ref (b + 4), .ref (b + 8), .int 400, .int 400, .int 0, .int 0, .ref (b + 15), .ref (b + 16), .int ((-1)), .ref (b + 19), .ref (b + 20), .ref (b + 21)]) (k := 6) (pc := 108) Γ nd_Pl_init_108 hO (Nat.le_of_ble_eq_true rfl) rfl rfl (by decide) rfl ⟨ni_Pl, nf_Pl_41⟩ ?_
  refine cg_iload_n (pc := 111) Γ nd_Pl_init_111 0 rfl ?_
  refine cg_new (ci := 6) (N := 3) (C := nR_Cu) (T := nT_Cu) (fs := [.int 0, .null, .null]) (pc := 112) Γ nd_Pl_init_112 hO hb ni_Cu nt_Cu nto_Cu ng_Pl_39 ng_in_Cu nm_ini_Cu rfl (fun j hj => by rcases (show j = 0 ∨ j = 1 ∨ j = 2 by omega) with rfl | rfl | rfl <;> rfl) (Nat.le_of_ble_eq_true rfl) (Nat.le_of_ble_eq_true rfl) ?_
  refine cg_dup (pc := 115) Γ nd_Pl_init_115 rfl ?_
  refine cg_callIN (a := 31) (n := 32) (pc := 116) Γ nd_Pl_init_116 hO (k_Cu_init_31 l F b _ rfl) hO.2.1.2.2.1 nm_im_Cu_init nm_ini_Cu nh_Cu_init ⟨rfl, rfl⟩ (by decide +kernel) rfl (Nat.le_of_ble_eq_true rfl) (Nat.le_of_ble_eq_true rfl) ⟨Nat.le_of_ble_eq_true rfl, Nat.le_of_ble_eq_true rfl⟩ (Nat.le_of_ble_eq_true rfl) ?_
  refine cg_ast (f := (va_up (va_up (va_up (fun _ => none) 0 (some (b + 22))) 1 (some (b + 25))) 2 (some (b + 28)))) (vs := [.int 0, .ref (b + 32), .ref (b + 33)]) (pc := 119) Γ nd_Pl_init_119 hO hb (Nat.le_of_ble_eq_true rfl) rfl (Nat.le_of_ble_eq_true rfl) rfl (rl_ib_in (by decide)) ?_
  refine cg_iinc (v := 4) (L' := [(1, .int 4), (0, .ref (b + 3))]) (pc := 120) Γ nd_Pl_init_120 0 rfl (by decide) (by decide) rfl ?_
  refine cg_goto (tgt := 101) (pc := 123) Γ nd_Pl_init_123 (by decide) ?_
  refine cg_iload_n (pc := 101) Γ nd_Pl_init_101 0 rfl ?_
  refine cg_bipush (v := 11) (pc := 102) Γ nd_Pl_init_102 (by decide) ?_
  refine cg_icmp_ge (tgt := 126) (pc := 104) Γ nd_Pl_init_104 (by decide) (fun q => absurd q (by decide)) (fun _ => ?_)
  refine cg_aload_n (pc := 107) Γ nd_Pl_init_107 1 rfl ?_
  refine cg_get (fs := [.ref (b + 4), .ref (b + 8), .int 400, .int 400, .int 0, .int 0, .ref (b + 15), .ref (b + 16), .int ((-1)), .ref (b + 19), .ref (b + 20), .ref (b + 21)]) (k := 6) (pc := 108) Γ nd_Pl_init_108 hO (Nat.le_of_ble_eq_true rfl) rfl rfl (by decide) rfl ⟨ni_Pl, nf_Pl_41⟩ ?_
  refine cg_iload_n (pc := 111) Γ nd_Pl_init_111 0 rfl ?_
  refine cg_new (ci := 6) (N := 3) (C := nR_Cu) (T := nT_Cu) (fs := [.int 0, .null, .null]) (pc := 112) Γ nd_Pl_init_112 hO hb ni_Cu nt_Cu nto_Cu ng_Pl_39 ng_in_Cu nm_ini_Cu rfl (fun j hj => by rcases (show j = 0 ∨ j = 1 ∨ j = 2 by omega) with rfl | rfl | rfl <;> rfl) (Nat.le_of_ble_eq_true rfl) (Nat.le_of_ble_eq_true rfl) ?_
  refine cg_dup (pc := 115) Γ nd_Pl_init_115 rfl ?_
  refine cg_callIN (a := 34) (n := 35) (pc := 116) Γ nd_Pl_init_116 hO (k_Cu_init_34 l F b _ rfl) hO.2.1.2.2.1 nm_im_Cu_init nm_ini_Cu nh_Cu_init ⟨rfl, rfl⟩ (by decide +kernel) rfl (Nat.le_of_ble_eq_true rfl) (Nat.le_of_ble_eq_true rfl) ⟨Nat.le_of_ble_eq_true rfl, Nat.le_of_ble_eq_true rfl⟩ (Nat.le_of_ble_eq_true rfl) ?_
  refine cg_ast (f := (va_up (va_up (va_up (va_up (fun _ => none) 0 (some (b + 22))) 1 (some (b + 25))) 2 (some (b + 28))) 3 (some (b + 31)))) (vs := [.int 0, .ref (b + 35), .ref (b + 36)]) (pc := 119) Γ nd_Pl_init_119 hO hb (Nat.le_of_ble_eq_true rfl) rfl (Nat.le_of_ble_eq_true rfl) rfl (rl_ib_in (by decide)) ?_
  refine cg_iinc (v := 5) (L' := [(1, .int 5), (0, .ref (b + 3))]) (pc := 120) Γ nd_Pl_init_120 0 rfl (by decide) (by decide) rfl ?_
  refine cg_goto (tgt := 101) (pc := 123) Γ nd_Pl_init_123 (by decide) ?_
  refine cg_iload_n (pc := 101) Γ nd_Pl_init_101 0 rfl ?_
  refine cg_bipush (v := 11) (pc := 102) Γ nd_Pl_init_102 (by decide) ?_
  refine cg_icmp_ge (tgt := 126) (pc := 104) Γ nd_Pl_init_104 (by decide) (fun q => absurd q (by decide)) (fun _ => ?_)
  refine cg_aload_n (pc := 107) Γ nd_Pl_init_107 1 rfl ?_
  refine cg_get (fs := [.ref (b + 4), .ref (b + 8), .int 400, .int 400, .int 0, .int 0, .ref (b + 15), .ref (b + 16), .int ((-1)), .ref (b + 19), .ref (b + 20), .ref (b + 21)]) (k := 6) (pc := 108) Γ nd_Pl_init_108 hO (Nat.le_of_ble_eq_true rfl) rfl rfl (by decide) rfl ⟨ni_Pl, nf_Pl_41⟩ ?_
  refine cg_iload_n (pc := 111) Γ nd_Pl_init_111 0 rfl ?_
  refine cg_new (ci := 6) (N := 3) (C := nR_Cu) (T := nT_Cu) (fs := [.int 0, .null, .null]) (pc := 112) Γ nd_Pl_init_112 hO hb ni_Cu nt_Cu nto_Cu ng_Pl_39 ng_in_Cu nm_ini_Cu rfl (fun j hj => by rcases (show j = 0 ∨ j = 1 ∨ j = 2 by omega) with rfl | rfl | rfl <;> rfl) (Nat.le_of_ble_eq_true rfl) (Nat.le_of_ble_eq_true rfl) ?_
  refine cg_dup (pc := 115) Γ nd_Pl_init_115 rfl ?_
  refine cg_callIN (a := 37) (n := 38) (pc := 116) Γ nd_Pl_init_116 hO (k_Cu_init_37 l F b _ rfl) hO.2.1.2.2.1 nm_im_Cu_init nm_ini_Cu nh_Cu_init ⟨rfl, rfl⟩ (by decide +kernel) rfl (Nat.le_of_ble_eq_true rfl) (Nat.le_of_ble_eq_true rfl) ⟨Nat.le_of_ble_eq_true rfl, Nat.le_of_ble_eq_true rfl⟩ (Nat.le_of_ble_eq_true rfl) ?_
  refine cg_ast (f := (va_up (va_up (va_up (va_up (va_up (fun _ => none) 0 (some (b + 22))) 1 (some (b + 25))) 2 (some (b + 28))) 3 (some (b + 31))) 4 (some (b + 34)))) (vs := [.int 0, .ref (b + 38), .ref (b + 39)]) (pc := 119) Γ nd_Pl_init_119 hO hb (Nat.le_of_ble_eq_true rfl) rfl (Nat.le_of_ble_eq_true rfl) rfl (rl_ib_in (by decide)) ?_
  refine cg_iinc (v := 6) (L' := [(1, .int 6), (0, .ref (b + 3))]) (pc := 120) Γ nd_Pl_init_120 0 rfl (by decide) (by decide) rfl ?_
  refine cg_goto (tgt := 101) (pc := 123) Γ nd_Pl_init_123 (by decide) ?_
  refine cg_iload_n (pc := 101) Γ nd_Pl_init_101 0 rfl ?_
  refine cg_bipush (v := 11) (pc := 102) Γ nd_Pl_init_102 (by decide) ?_
  refine cg_icmp_ge (tgt := 126) (pc := 104) Γ nd_Pl_init_104 (by decide) (fun q => absurd q (by decide)) (fun _ => ?_)
  refine cg_aload_n (pc := 107) Γ nd_Pl_init_107 1 rfl ?_
  refine cg_get (fs := [.ref (b + 4), .ref (b + 8), .int 400, .int 400, .int 0, .int 0, .ref (b + 15), .ref (b + 16), .int ((-1)), .ref (b + 19), .ref (b + 20), .ref (b + 21)]) (k := 6) (pc := 108) Γ nd_Pl_init_108 hO (Nat.le_of_ble_eq_true rfl) rfl rfl (by decide) rfl ⟨ni_Pl, nf_Pl_41⟩ ?_
  refine cg_iload_n (pc := 111) Γ nd_Pl_init_111 0 rfl ?_
  refine cg_new (ci := 6) (N := 3) (C := nR_Cu) (T := nT_Cu) (fs := [.int 0, .null, .null]) (pc := 112) Γ nd_Pl_init_112 hO hb ni_Cu nt_Cu nto_Cu ng_Pl_39 ng_in_Cu nm_ini_Cu rfl (fun j hj => by rcases (show j = 0 ∨ j = 1 ∨ j = 2 by omega) with rfl | rfl | rfl <;> rfl) (Nat.le_of_ble_eq_true rfl) (Nat.le_of_ble_eq_true rfl) ?_
  refine cg_dup (pc := 115) Γ nd_Pl_init_115 rfl ?_
  refine cg_callIN (a := 40) (n := 41) (pc := 116) Γ nd_Pl_init_116 hO (k_Cu_init_40 l F b _ rfl) hO.2.1.2.2.1 nm_im_Cu_init nm_ini_Cu nh_Cu_init ⟨rfl, rfl⟩ (by decide +kernel) rfl (Nat.le_of_ble_eq_true rfl) (Nat.le_of_ble_eq_true rfl) ⟨Nat.le_of_ble_eq_true rfl, Nat.le_of_ble_eq_true rfl⟩ (Nat.le_of_ble_eq_true rfl) ?_
  refine cg_ast (f := (va_up (va_up (va_up (va_up (va_up (va_up (fun _ => none) 0 (some (b + 22))) 1 (some (b + 25))) 2 (some (b + 28))) 3 (some (b + 31))) 4 (some (b + 34))) 5 (some (b + 37)))) (vs := [.int 0, .ref (b + 41), .ref (b + 42)]) (pc := 119) Γ nd_Pl_init_119 hO hb (Nat.le_of_ble_eq_true rfl) rfl (Nat.le_of_ble_eq_true rfl) rfl (rl_ib_in (by decide)) ?_
  refine cg_iinc (v := 7) (L' := [(1, .int 7), (0, .ref (b + 3))]) (pc := 120) Γ nd_Pl_init_120 0 rfl (by decide) (by decide) rfl ?_
  refine cg_goto (tgt := 101) (pc := 123) Γ nd_Pl_init_123 (by decide) ?_
  refine cg_iload_n (pc := 101) Γ nd_Pl_init_101 0 rfl ?_
  refine cg_bipush (v := 11) (pc := 102) Γ nd_Pl_init_102 (by decide) ?_
  refine cg_icmp_ge (tgt := 126) (pc := 104) Γ nd_Pl_init_104 (by decide) (fun q => absurd q (by decide)) (fun _ => ?_)
  refine cg_aload_n (pc := 107) Γ nd_Pl_init_107 1 rfl ?_
  refine cg_get (fs := [.ref (b + 4), .ref (b + 8), .int 400, .int 400, .int 0, .int 0, .ref (b + 15), .ref (b + 16), .int ((-1)), .ref (b + 19), .ref (b + 20), .ref (b + 21)]) (k := 6) (pc := 108) Γ nd_Pl_init_108 hO (Nat.le_of_ble_eq_true rfl) rfl rfl (by decide) rfl ⟨ni_Pl, nf_Pl_41⟩ ?_
  refine cg_iload_n (pc := 111) Γ nd_Pl_init_111 0 rfl ?_
  refine cg_new (ci := 6) (N := 3) (C := nR_Cu) (T := nT_Cu) (fs := [.int 0, .null, .null]) (pc := 112) Γ nd_Pl_init_112 hO hb ni_Cu nt_Cu nto_Cu ng_Pl_39 ng_in_Cu nm_ini_Cu rfl (fun j hj => by rcases (show j = 0 ∨ j = 1 ∨ j = 2 by omega) with rfl | rfl | rfl <;> rfl) (Nat.le_of_ble_eq_true rfl) (Nat.le_of_ble_eq_true rfl) ?_
  refine cg_dup (pc := 115) Γ nd_Pl_init_115 rfl ?_
  refine cg_callIN (a := 43) (n := 44) (pc := 116) Γ nd_Pl_init_116 hO (k_Cu_init_43 l F b _ rfl) hO.2.1.2.2.1 nm_im_Cu_init nm_ini_Cu nh_Cu_init ⟨rfl, rfl⟩ (by decide +kernel) rfl (Nat.le_of_ble_eq_true rfl) (Nat.le_of_ble_eq_true rfl) ⟨Nat.le_of_ble_eq_true rfl, Nat.le_of_ble_eq_true rfl⟩ (Nat.le_of_ble_eq_true rfl) ?_
  refine cg_ast (f := (va_up (va_up (va_up (va_up (va_up (va_up (va_up (fun _ => none) 0 (some (b + 22))) 1 (some (b + 25))) 2 (some (b + 28))) 3 (some (b + 31))) 4 (some (b + 34))) 5 (some (b + 37))) 6 (some (b + 40)))) (vs := [.int 0, .ref (b + 44), .ref (b + 45)]) (pc := 119) Γ nd_Pl_init_119 hO hb (Nat.le_of_ble_eq_true rfl) rfl (Nat.le_of_ble_eq_true rfl) rfl (rl_ib_in (by decide)) ?_
  refine cg_iinc (v := 8) (L' := [(1, .int 8), (0, .ref (b + 3))]) (pc := 120) Γ nd_Pl_init_120 0 rfl (by decide) (by decide) rfl ?_
  refine cg_goto (tgt := 101) (pc := 123) Γ nd_Pl_init_123 (by decide) ?_
  refine cg_iload_n (pc := 101) Γ nd_Pl_init_101 0 rfl ?_
  refine cg_bipush (v := 11) (pc := 102) Γ nd_Pl_init_102 (by decide) ?_
  refine cg_icmp_ge (tgt := 126) (pc := 104) Γ nd_Pl_init_104 (by decide) (fun q => absurd q (by decide)) (fun _ => ?_)
  refine cg_aload_n (pc := 107) Γ nd_Pl_init_107 1 rfl ?_
  refine cg_get (fs := [.ref (b + 4), .ref (b + 8), .int 400, .int 400, .int 0, .int 0, .ref (b + 15), .ref (b + 16), .int ((-1)), .ref (b + 19), .ref (b + 20), .ref (b + 21)]) (k := 6) (pc := 108) Γ nd_Pl_init_108 hO (Nat.le_of_ble_eq_true rfl) rfl rfl (by decide) rfl ⟨ni_Pl, nf_Pl_41⟩ ?_
  refine cg_iload_n (pc := 111) Γ nd_Pl_init_111 0 rfl ?_
  refine cg_new (ci := 6) (N := 3) (C := nR_Cu) (T := nT_Cu) (fs := [.int 0, .null, .null]) (pc := 112) Γ nd_Pl_init_112 hO hb ni_Cu nt_Cu nto_Cu ng_Pl_39 ng_in_Cu nm_ini_Cu rfl (fun j hj => by rcases (show j = 0 ∨ j = 1 ∨ j = 2 by omega) with rfl | rfl | rfl <;> rfl) (Nat.le_of_ble_eq_true rfl) (Nat.le_of_ble_eq_true rfl) ?_
  refine cg_dup (pc := 115) Γ nd_Pl_init_115 rfl ?_
  refine cg_callIN (a := 46) (n := 47) (pc := 116) Γ nd_Pl_init_116 hO (k_Cu_init_46 l F b _ rfl) hO.2.1.2.2.1 nm_im_Cu_init nm_ini_Cu nh_Cu_init ⟨rfl, rfl⟩ (by decide +kernel) rfl (Nat.le_of_ble_eq_true rfl) (Nat.le_of_ble_eq_true rfl) ⟨Nat.le_of_ble_eq_true rfl, Nat.le_of_ble_eq_true rfl⟩ (Nat.le_of_ble_eq_true rfl) ?_
  refine cg_ast (f := (va_up (va_up (va_up (va_up (va_up (va_up (va_up (va_up (fun _ => none) 0 (some (b + 22))) 1 (some (b + 25))) 2 (some (b + 28))) 3 (some (b + 31))) 4 (some (b + 34))) 5 (some (b + 37))) 6 (some (b + 40))) 7 (some (b + 43)))) (vs := [.int 0, .ref (b + 47), .ref (b + 48)]) (pc := 119) Γ nd_Pl_init_119 hO hb (Nat.le_of_ble_eq_true rfl) rfl (Nat.le_of_ble_eq_true rfl) rfl (rl_ib_in (by decide)) ?_
  refine cg_iinc (v := 9) (L' := [(1, .int 9), (0, .ref (b + 3))]) (pc := 120) Γ nd_Pl_init_120 0 rfl (by decide) (by decide) rfl ?_
  refine cg_goto (tgt := 101) (pc := 123) Γ nd_Pl_init_123 (by decide) ?_
  refine cg_iload_n (pc := 101) Γ nd_Pl_init_101 0 rfl ?_
  refine cg_bipush (v := 11) (pc := 102) Γ nd_Pl_init_102 (by decide) ?_
  refine cg_icmp_ge (tgt := 126) (pc := 104) Γ nd_Pl_init_104 (by decide) (fun q => absurd q (by decide)) (fun _ => ?_)
  refine cg_aload_n (pc := 107) Γ nd_Pl_init_107 1 rfl ?_
  refine cg_get (fs := [.ref (b + 4), .ref (b + 8), .int 400, .int 400, .int 0, .int 0, .ref (b + 15), .ref (b + 16), .int ((-1)), .ref (b + 19), .ref (b + 20), .ref (b + 21)]) (k := 6) (pc := 108) Γ nd_Pl_init_108 hO (Nat.le_of_ble_eq_true rfl) rfl rfl (by decide) rfl ⟨ni_Pl, nf_Pl_41⟩ ?_
  refine cg_iload_n (pc := 111) Γ nd_Pl_init_111 0 rfl ?_
  refine cg_new (ci := 6) (N := 3) (C := nR_Cu) (T := nT_Cu) (fs := [.int 0, .null, .null]) (pc := 112) Γ nd_Pl_init_112 hO hb ni_Cu nt_Cu nto_Cu ng_Pl_39 ng_in_Cu nm_ini_Cu rfl (fun j hj => by rcases (show j = 0 ∨ j = 1 ∨ j = 2 by omega) with rfl | rfl | rfl <;> rfl) (Nat.le_of_ble_eq_true rfl) (Nat.le_of_ble_eq_true rfl) ?_
  refine cg_dup (pc := 115) Γ nd_Pl_init_115 rfl ?_
  refine cg_callIN (a := 49) (n := 50) (pc := 116) Γ nd_Pl_init_116 hO (k_Cu_init_49 l F b _ rfl) hO.2.1.2.2.1 nm_im_Cu_init nm_ini_Cu nh_Cu_init ⟨rfl, rfl⟩ (by decide +kernel) rfl (Nat.le_of_ble_eq_true rfl) (Nat.le_of_ble_eq_true rfl) ⟨Nat.le_of_ble_eq_true rfl, Nat.le_of_ble_eq_true rfl⟩ (Nat.le_of_ble_eq_true rfl) ?_
  refine cg_ast (f := (va_up (va_up (va_up (va_up (va_up (va_up (va_up (va_up (va_up (fun _ => none) 0 (some (b + 22))) 1 (some (b + 25))) 2 (some (b + 28))) 3 (some (b + 31))) 4 (some (b + 34))) 5 (some (b + 37))) 6 (some (b + 40))) 7 (some (b + 43))) 8 (some (b + 46)))) (vs := [.int 0, .ref (b + 50), .ref (b + 51)]) (pc := 119) Γ nd_Pl_init_119 hO hb (Nat.le_of_ble_eq_true rfl) rfl (Nat.le_of_ble_eq_true rfl) rfl (rl_ib_in (by decide)) ?_
  refine cg_iinc (v := 10) (L' := [(1, .int 10), (0, .ref (b + 3))]) (pc := 120) Γ nd_Pl_init_120 0 rfl (by decide) (by decide) rfl ?_
  refine cg_goto (tgt := 101) (pc := 123) Γ nd_Pl_init_123 (by decide) ?_
  refine cg_iload_n (pc := 101) Γ nd_Pl_init_101 0 rfl ?_
  refine cg_bipush (v := 11) (pc := 102) Γ nd_Pl_init_102 (by decide) ?_
  refine cg_icmp_ge (tgt := 126) (pc := 104) Γ nd_Pl_init_104 (by decide) (fun q => absurd q (by decide)) (fun _ => ?_)
  refine cg_aload_n (pc := 107) Γ nd_Pl_init_107 1 rfl ?_
  refine cg_get (fs := [.ref (b + 4), .ref (b + 8), .int 400, .int 400, .int 0, .int 0, .ref (b + 15), .ref (b + 16), .int ((-1)), .ref (b + 19), .ref (b + 20), .ref (b + 21)]) (k := 6) (pc := 108) Γ nd_Pl_init_108 hO (Nat.le_of_ble_eq_true rfl) rfl rfl (by decide) rfl ⟨ni_Pl, nf_Pl_41⟩ ?_
  refine cg_iload_n (pc := 111) Γ nd_Pl_init_111 0 rfl ?_
  refine cg_new (ci := 6) (N := 3) (C := nR_Cu) (T := nT_Cu) (fs := [.int 0, .null, .null]) (pc := 112) Γ nd_Pl_init_112 hO hb ni_Cu nt_Cu nto_Cu ng_Pl_39 ng_in_Cu nm_ini_Cu rfl (fun j hj => by rcases (show j = 0 ∨ j = 1 ∨ j = 2 by omega) with rfl | rfl | rfl <;> rfl) (Nat.le_of_ble_eq_true rfl) (Nat.le_of_ble_eq_true rfl) ?_
  refine cg_dup (pc := 115) Γ nd_Pl_init_115 rfl ?_
  refine cg_callIN (a := 52) (n := 53) (pc := 116) Γ nd_Pl_init_116 hO (k_Cu_init_52 l F b _ rfl) hO.2.1.2.2.1 nm_im_Cu_init nm_ini_Cu nh_Cu_init ⟨rfl, rfl⟩ (by decide +kernel) rfl (Nat.le_of_ble_eq_true rfl) (Nat.le_of_ble_eq_true rfl) ⟨Nat.le_of_ble_eq_true rfl, Nat.le_of_ble_eq_true rfl⟩ (Nat.le_of_ble_eq_true rfl) ?_
  refine cg_ast (f := (va_up (va_up (va_up (va_up (va_up (va_up (va_up (va_up (va_up (va_up (fun _ => none) 0 (some (b + 22))) 1 (some (b + 25))) 2 (some (b + 28))) 3 (some (b + 31))) 4 (some (b + 34))) 5 (some (b + 37))) 6 (some (b + 40))) 7 (some (b + 43))) 8 (some (b + 46))) 9 (some (b + 49)))) (vs := [.int 0, .ref (b + 53), .ref (b + 54)]) (pc := 119) Γ nd_Pl_init_119 hO hb (Nat.le_of_ble_eq_true rfl) rfl (Nat.le_of_ble_eq_true rfl) rfl (rl_ib_in (by decide)) ?_
  refine cg_iinc (v := 11) (L' := [(1, .int 11), (0, .ref (b + 3))]) (pc := 120) Γ nd_Pl_init_120 0 rfl (by decide) (by decide) rfl ?_
  refine cg_goto (tgt := 101) (pc := 123) Γ nd_Pl_init_123 (by decide) ?_
  refine cg_iload_n (pc := 101) Γ nd_Pl_init_101 0 rfl ?_
  refine cg_bipush (v := 11) (pc := 102) Γ nd_Pl_init_102 (by decide) ?_
  refine cg_icmp_ge (tgt := 126) (pc := 104) Γ nd_Pl_init_104 (by decide) (fun _ => ?_) (fun q => absurd (by decide) q)
  exact cg_vretC (ct' := kf_Pl_init_3 F b ct) (pc := 126) Γ nd_Pl_init_126 hr hk ⟨Nat.le_of_ble_eq_true rfl, Nat.le_of_ble_eq_true rfl⟩ (fun k hk => match k, hk with | 0, _ => rfl | 1, _ => rfl | 2, _ => rfl | 3, _ => rfl | 4, _ => rfl | 5, _ => rfl | 6, _ => rfl | 7, _ => rfl | 8, _ => rfl | 9, _ => rfl | 10, _ => rfl | 11, _ => rfl | 12, _ => rfl | 13, _ => rfl | 14, _ => rfl | 15, _ => rfl | 16, _ => rfl | 17, _ => rfl | 18, _ => rfl | 19, _ => rfl | 20, _ => rfl | 21, _ => rfl | 22, _ => rfl | 23, _ => rfl | 24, _ => rfl | 25, _ => rfl | 26, _ => rfl | 27, _ => rfl | 28, _ => rfl | 29, _ => rfl | 30, _ => rfl | 31, _ => rfl | 32, _ => rfl | 33, _ => rfl | 34, _ => rfl | 35, _ => rfl | 36, _ => rfl | 37, _ => rfl | 38, _ => rfl | 39, _ => rfl | 40, _ => rfl | 41, _ => rfl | 42, _ => rfl | 43, _ => rfl | 44, _ => rfl | 45, _ => rfl | 46, _ => rfl | 47, _ => rfl | 48, _ => rfl | 49, _ => rfl | 50, _ => rfl | 51, _ => rfl | 52, _ => rfl | 53, _ => rfl | 54, _ => rfl | k + 55, hk => absurd hk (by omega))
