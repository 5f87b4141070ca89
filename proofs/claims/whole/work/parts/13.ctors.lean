def kf_Sr_init_1 (F : cg_F) (b : Nat) (ct : Nat → va_E) : Nat → va_E := va_up (va_up (ct) 1 (.inr (1, [.int 0, .ref (b + 2)]))) 2 (.inl (F.2.1, 16, .inl (fun _ => 0)))
set_option maxHeartbeats 8000000 in
set_option maxRecDepth 100000 in
theorem k_Sr_init_1 (l : Launch) (F : cg_F) (b : Nat) (ct : Nat → va_E) (h1 : ct 1 = .inr (1, [.int 0, .null])) : Met l ny_Sr_init (.code ny_Sr_init nc_Sr_init 1 none :: rl_TT) { frames := 1, cells := 1, slots := 16, locals := 12 } (cg_P F b [.ref (b + 1)] ct 2) (cg_Q F b (kf_Sr_init_1 F b ct) 3) 1 16 (fun q => b ≤ q) := by
  refine Met.ofW (cc := nc_Sr_init) (maxL := 1) (ret := none) (by decide) rfl ?_
  intro p e s m args below meth c s₁ B hml hv
  obtain ⟨rfl, hz, hP, hO⟩ := hv
  have hb : b ≤ s.heap.size := by omega
  have Γ : CallFix p m c nc_Sr_init 1 s ([.ref (b + 1)] : List Value).toArray rl_TT nR_Sr := ⟨B.exec, B.bytes, hml, findClass_of_methodNamed B.named, fun w hw => atoms_spec B.pre w (List.mem_cons_of_mem _ hw)⟩
  have hr := B.returns
  have hk := B.notSynchronized
  have hin : meth.name = "<init>" := (name_of_methodNamed B.named B.method).1
  refine cg_start (R := { frames := 1, cells := 1, slots := 16, locals := 12 }) (nL := 1) (av := [.ref (b + 1)]) (ct := ct) (n := 2) (F := F) (b := b) hz hP (Nat.le_of_ble_eq_true rfl) ?_
  refine cg_aload_n (pc := 0) Γ nd_Sr_init_0 0 rfl ?_
  refine cg_obj (pc := 1) Γ nd_Sr_init_1 ng_ob_Sr_3 ng_ob_im ng_ob_cd (Nat.le_of_ble_eq_true rfl) (Nat.le_of_ble_eq_true rfl) ?_
  refine cg_aload_n (pc := 4) Γ nd_Sr_init_4 0 rfl ?_
  refine cg_iconst (v := 0) (pc := 5) Γ nd_Sr_init_5 (by decide) ?_
  refine cg_put (fs := [.int 0, .null]) (v := .int 0) (k := 0) (pc := 6) Γ nd_Sr_init_6 hO hb (Nat.le_of_ble_eq_true rfl) (by exact h1) rfl (by decide) ⟨ni_Sr, nf_Sr_9⟩ nt_Sr nto_Sr nn_Sr rfl (Nat.le_of_ble_eq_true rfl) rfl rfl ?_
  refine cg_aload_n (pc := 9) Γ nd_Sr_init_9 0 rfl ?_
  refine cg_bipush (v := 16) (pc := 10) Γ nd_Sr_init_10 (by decide) ?_
  refine cg_newa (N := 16) (pc := 12) Γ nd_Sr_init_12 hO hb ng_arr_int (by decide) (by decide) (Nat.le_of_ble_eq_true rfl) (Nat.le_of_ble_eq_true rfl) (Nat.le_of_ble_eq_true rfl) ?_
  refine cg_putF (fs := [.int 0, .null]) (v := .ref (b + 2)) (k := 1) (pc := 14) Γ nd_Sr_init_14 hO hb hin (Nat.le_of_ble_eq_true rfl) rfl rfl (by decide) ⟨ni_Sr, nf_Sr_15⟩ nt_Sr nto_Sr nn_Sr rfl rfl (Nat.le_of_ble_eq_true rfl) rfl rfl ?_
  exact cg_vretC (ct' := kf_Sr_init_1 F b ct) (pc := 17) Γ nd_Sr_init_17 hr hk ⟨Nat.le_of_ble_eq_true rfl, Nat.le_of_ble_eq_true rfl⟩ (fun k hk => match k, hk with | 0, _ => rfl | 1, _ => rfl | 2, _ => rfl | k + 3, hk => absurd hk (by omega))
def kf_Rl_init_4 (F : cg_F) (b : Nat) (ct : Nat → va_E) : Nat → va_E := va_up (va_up (va_up (va_up (ct) 4 (.inr (3, [.int 0, .ref (b + 5), .ref (b + 6), .ref (b + 7)]))) 5 (.inl (F.2.1, 6, .inl (fun _ => 0)))) 6 (.inl (F.2.1, 24, .inl (fun _ => 0)))) 7 (.inl (F.2.1, 24, .inl (fun _ => 0)))
set_option maxHeartbeats 8000000 in
set_option maxRecDepth 100000 in
theorem k_Rl_init_4 (l : Launch) (F : cg_F) (b : Nat) (ct : Nat → va_E) (h4 : ct 4 = .inr (3, [.int 0, .null, .null, .null])) : Met l ny_Rl_init (.code ny_Rl_init nc_Rl_init 1 none :: rl_TT) { frames := 1, cells := 3, slots := 54, locals := 12 } (cg_P F b [.ref (b + 4)] ct 5) (cg_Q F b (kf_Rl_init_4 F b ct) 8) 3 54 (fun q => b ≤ q) := by
  refine Met.ofW (cc := nc_Rl_init) (maxL := 1) (ret := none) (by decide) rfl ?_
  intro p e s m args below meth c s₁ B hml hv
  obtain ⟨rfl, hz, hP, hO⟩ := hv
  have hb : b ≤ s.heap.size := by omega
  have Γ : CallFix p m c nc_Rl_init 1 s ([.ref (b + 4)] : List Value).toArray rl_TT nR_Rl := ⟨B.exec, B.bytes, hml, findClass_of_methodNamed B.named, fun w hw => atoms_spec B.pre w (List.mem_cons_of_mem _ hw)⟩
  have hr := B.returns
  have hk := B.notSynchronized
  have hin : meth.name = "<init>" := (name_of_methodNamed B.named B.method).1
  refine cg_start (R := { frames := 1, cells := 3, slots := 54, locals := 12 }) (nL := 1) (av := [.ref (b + 4)]) (ct := ct) (n := 5) (F := F) (b := b) hz hP (Nat.le_of_ble_eq_true rfl) ?_
  refine cg_aload_n (pc := 0) Γ nd_Rl_init_0 0 rfl ?_
  refine cg_obj (pc := 1) Γ nd_Rl_init_1 ng_ob_Rl_3 ng_ob_im ng_ob_cd (Nat.le_of_ble_eq_true rfl) (Nat.le_of_ble_eq_true rfl) ?_
  refine cg_aload_n (pc := 4) Γ nd_Rl_init_4 0 rfl ?_
  refine cg_iconst (v := 0) (pc := 5) Γ nd_Rl_init_5 (by decide) ?_
  refine cg_put (fs := [.int 0, .null, .null, .null]) (v := .int 0) (k := 0) (pc := 6) Γ nd_Rl_init_6 hO hb (Nat.le_of_ble_eq_true rfl) (by exact h4) rfl (by decide) ⟨ni_Rl, nf_Rl_9⟩ nt_Rl nto_Rl nn_Rl rfl (Nat.le_of_ble_eq_true rfl) rfl rfl ?_
  refine cg_aload_n (pc := 9) Γ nd_Rl_init_9 0 rfl ?_
  refine cg_bipush (v := 6) (pc := 10) Γ nd_Rl_init_10 (by decide) ?_
  refine cg_newa (N := 6) (pc := 12) Γ nd_Rl_init_12 hO hb ng_arr_int (by decide) (by decide) (Nat.le_of_ble_eq_true rfl) (Nat.le_of_ble_eq_true rfl) (Nat.le_of_ble_eq_true rfl) ?_
  refine cg_putF (fs := [.int 0, .null, .null, .null]) (v := .ref (b + 5)) (k := 1) (pc := 14) Γ nd_Rl_init_14 hO hb hin (Nat.le_of_ble_eq_true rfl) rfl rfl (by decide) ⟨ni_Rl, nf_Rl_15⟩ nt_Rl nto_Rl nn_Rl rfl rfl (Nat.le_of_ble_eq_true rfl) rfl rfl ?_
  refine cg_aload_n (pc := 17) Γ nd_Rl_init_17 0 rfl ?_
  refine cg_bipush (v := 24) (pc := 18) Γ nd_Rl_init_18 (by decide) ?_
  refine cg_newa (N := 24) (pc := 20) Γ nd_Rl_init_20 hO hb ng_arr_int (by decide) (by decide) (Nat.le_of_ble_eq_true rfl) (Nat.le_of_ble_eq_true rfl) (Nat.le_of_ble_eq_true rfl) ?_
  refine cg_putF (fs := [.int 0, .ref (b + 5), .null, .null]) (v := .ref (b + 6)) (k := 2) (pc := 22) Γ nd_Rl_init_22 hO hb hin (Nat.le_of_ble_eq_true rfl) rfl rfl (by decide) ⟨ni_Rl, nf_Rl_19⟩ nt_Rl nto_Rl nn_Rl rfl rfl (Nat.le_of_ble_eq_true rfl) rfl rfl ?_
  refine cg_aload_n (pc := 25) Γ nd_Rl_init_25 0 rfl ?_
  refine cg_bipush (v := 24) (pc := 26) Γ nd_Rl_init_26 (by decide) ?_
  refine cg_newa (N := 24) (pc := 28) Γ nd_Rl_init_28 hO hb ng_arr_int (by decide) (by decide) (Nat.le_of_ble_eq_true rfl) (Nat.le_of_ble_eq_true rfl) (Nat.le_of_ble_eq_true rfl) ?_
  refine cg_putF (fs := [.int 0, .ref (b + 5), .ref (b + 6), .null]) (v := .ref (b + 7)) (k := 3) (pc := 30) Γ nd_Rl_init_30 hO hb hin (Nat.le_of_ble_eq_true rfl) rfl rfl (by decide) ⟨ni_Rl, nf_Rl_22⟩ nt_Rl nto_Rl nn_Rl rfl rfl (Nat.le_of_ble_eq_true rfl) rfl rfl ?_
  exact cg_vretC (ct' := kf_Rl_init_4 F b ct) (pc := 33) Γ nd_Rl_init_33 hr hk ⟨Nat.le_of_ble_eq_true rfl, Nat.le_of_ble_eq_true rfl⟩ (fun k hk => match k, hk with | 0, _ => rfl | 1, _ => rfl | 2, _ => rfl | 3, _ => rfl | 4, _ => rfl | 5, _ => rfl | 6, _ => rfl | 7, _ => rfl | k + 8, hk => absurd hk (by omega))
def kf_St_forgetRooms_8 (F : cg_F) (b : Nat) (ct : Nat → va_E) : Nat → va_E := va_up (ct) 14 (.inl (F.2.1, 6, .inl (upd (upd (upd (upd (upd (upd (fun _ => 0) 0 ((-1))) 1 ((-1))) 2 ((-1))) 3 ((-1))) 4 ((-1))) 5 ((-1)))))
set_option maxHeartbeats 8000000 in
set_option maxRecDepth 100000 in
theorem k_St_forgetRooms_8 (l : Launch) (F : cg_F) (b : Nat) (ct : Nat → va_E) (h8 : ct 8 = .inr (4, [.int 0, .ref (b + 9), .ref (b + 10), .ref (b + 11), .ref (b + 12), .ref (b + 13), .ref (b + 14)])) (h14 : ct 14 = .inl (F.2.1, 6, .inl (fun _ => 0))) : Met l ny_St_forgetRooms (.code ny_St_forgetRooms nc_St_forgetRooms 2 none :: rl_TT) { frames := 0, cells := 0, slots := 0, locals := 0 } (cg_P F b [.ref (b + 8)] ct 15) (cg_Q F b (kf_St_forgetRooms_8 F b ct) 15) 0 0 (fun q => b ≤ q) := by
  refine Met.ofW (cc := nc_St_forgetRooms) (maxL := 2) (ret := none) (by decide) rfl ?_
  intro p e s m args below meth c s₁ B hml hv
  obtain ⟨rfl, hz, hP, hO⟩ := hv
  have hb : b ≤ s.heap.size := by omega
  have Γ : CallFix p m c nc_St_forgetRooms 2 s ([.ref (b + 8)] : List Value).toArray rl_TT nR_St := ⟨B.exec, B.bytes, hml, findClass_of_methodNamed B.named, fun w hw => atoms_spec B.pre w (List.mem_cons_of_mem _ hw)⟩
  have hr := B.returns
  have hk := B.notSynchronized
  refine cg_start (R := { frames := 0, cells := 0, slots := 0, locals := 0 }) (nL := 2) (av := [.ref (b + 8)]) (ct := ct) (n := 15) (F := F) (b := b) hz hP (Nat.le_of_ble_eq_true rfl) ?_
  refine cg_iconst (v := 0) (pc := 0) Γ nd_St_forgetRooms_0 (by decide) ?_
  refine cg_istore_n (L' := [(1, .int 0), (0, .ref (b + 8))]) (pc := 1) Γ nd_St_forgetRooms_1 (by decide) rfl ?_
  refine cg_iload_n (pc := 2) Γ nd_St_forgetRooms_2 0 rfl ?_
  refine cg_bipush (v := 6) (pc := 3) Γ nd_St_forgetRooms_3 (by decide) ?_
  refine cg_icmp_ge (tgt := 21) (pc := 5) Γ nd_St_forgetRooms_5 (by decide) (fun q => absurd q (by decide)) (fun _ => ?_)
  refine cg_aload_n (pc := 8) Γ nd_St_forgetRooms_8 1 rfl ?_
  refine cg_get (fs := [.int 0, .ref (b + 9), .ref (b + 10), .ref (b + 11), .ref (b + 12), .ref (b + 13), .ref (b + 14)]) (k := 6) (pc := 9) Γ nd_St_forgetRooms_9 hO (Nat.le_of_ble_eq_true rfl) (by exact h8) rfl (by decide) rfl ⟨ni_St, nf_St_31⟩ ?_
  refine cg_iload_n (pc := 12) Γ nd_St_forgetRooms_12 0 rfl ?_
  refine cg_iconst (v := (-1)) (pc := 13) Γ nd_St_forgetRooms_13 (by decide) ?_
  refine cg_ist (f := fun _ => 0) (pc := 14) Γ nd_St_forgetRooms_14 hO hb (Nat.le_of_ble_eq_true rfl) (by exact h14) (rl_ib_in (by decide)) ?_
  refine cg_iinc (v := 1) (L' := [(1, .int 1), (0, .ref (b + 8))]) (pc := 15) Γ nd_St_forgetRooms_15 0 rfl (by decide) (by decide) rfl ?_
  refine cg_goto (tgt := 2) (pc := 18) Γ nd_St_forgetRooms_18 (by decide) ?_
  refine cg_iload_n (pc := 2) Γ nd_St_forgetRooms_2 0 rfl ?_
  refine cg_bipush (v := 6) (pc := 3) Γ nd_St_forgetRooms_3 (by decide) ?_
  refine cg_icmp_ge (tgt := 21) (pc := 5) Γ nd_St_forgetRooms_5 (by decide) (fun q => absurd q (by decide)) (fun _ => ?_)
  refine cg_aload_n (pc := 8) Γ nd_St_forgetRooms_8 1 rfl ?_
  refine cg_get (fs := [.int 0, .ref (b + 9), .ref (b + 10), .ref (b + 11), .ref (b + 12), .ref (b + 13), .ref (b + 14)]) (k := 6) (pc := 9) Γ nd_St_forgetRooms_9 hO (Nat.le_of_ble_eq_true rfl) (by exact h8) rfl (by decide) rfl ⟨ni_St, nf_St_31⟩ ?_
  refine cg_iload_n (pc := 12) Γ nd_St_forgetRooms_12 0 rfl ?_
  refine cg_iconst (v := (-1)) (pc := 13) Γ nd_St_forgetRooms_13 (by decide) ?_
  refine cg_ist (f := upd (fun _ => 0) 0 ((-1))) (pc := 14) Γ nd_St_forgetRooms_14 hO hb (Nat.le_of_ble_eq_true rfl) rfl (rl_ib_in (by decide)) ?_
  refine cg_iinc (v := 2) (L' := [(1, .int 2), (0, .ref (b + 8))]) (pc := 15) Γ nd_St_forgetRooms_15 0 rfl (by decide) (by decide) rfl ?_
  refine cg_goto (tgt := 2) (pc := 18) Γ nd_St_forgetRooms_18 (by decide) ?_
  refine cg_iload_n (pc := 2) Γ nd_St_forgetRooms_2 0 rfl ?_
  refine cg_bipush (v := 6) (pc := 3) Γ nd_St_forgetRooms_3 (by decide) ?_
  refine cg_icmp_ge (tgt := 21) (pc := 5) Γ nd_St_forgetRooms_5 (by decide) (fun q => absurd q (by decide)) (fun _ => ?_)
  refine cg_aload_n (pc := 8) Γ nd_St_forgetRooms_8 1 rfl ?_
  refine cg_get (fs := [.int 0, .ref (b + 9), .ref (b + 10), .ref (b + 11), .ref (b + 12), .ref (b + 13), .ref (b + 14)]) (k := 6) (pc := 9) Γ nd_St_forgetRooms_9 hO (Nat.le_of_ble_eq_true rfl) (by exact h8) rfl (by decide) rfl ⟨ni_St, nf_St_31⟩ ?_
  refine cg_iload_n (pc := 12) Γ nd_St_forgetRooms_12 0 rfl ?_
  refine cg_iconst (v := (-1)) (pc := 13) Γ nd_St_forgetRooms_13 (by decide) ?_
  refine cg_ist (f := upd (upd (fun _ => 0) 0 ((-1))) 1 ((-1))) (pc := 14) Γ nd_St_forgetRooms_14 hO hb (Nat.le_of_ble_eq_true rfl) rfl (rl_ib_in (by decide)) ?_
  refine cg_iinc (v := 3) (L' := [(1, .int 3), (0, .ref (b + 8))]) (pc := 15) Γ nd_St_forgetRooms_15 0 rfl (by decide) (by decide) rfl ?_
  refine cg_goto (tgt := 2) (pc := 18) Γ nd_St_forgetRooms_18 (by decide) ?_
  refine cg_iload_n (pc := 2) Γ nd_St_forgetRooms_2 0 rfl ?_
  refine cg_bipush (v := 6) (pc := 3) Γ nd_St_forgetRooms_3 (by decide) ?_
  refine cg_icmp_ge (tgt := 21) (pc := 5) Γ nd_St_forgetRooms_5 (by decide) (fun q => absurd q (by decide)) (fun _ => ?_)
  refine cg_aload_n (pc := 8) Γ nd_St_forgetRooms_8 1 rfl ?_
  refine cg_get (fs := [.int 0, .ref (b + 9), .ref (b + 10), .ref (b + 11), .ref (b + 12), .ref (b + 13), .ref (b + 14)]) (k := 6) (pc := 9) Γ nd_St_forgetRooms_9 hO (Nat.le_of_ble_eq_true rfl) (by exact h8) rfl (by decide) rfl ⟨ni_St, nf_St_31⟩ ?_
  refine cg_iload_n (pc := 12) Γ nd_St_forgetRooms_12 0 rfl ?_
  refine cg_iconst (v := (-1)) (pc := 13) Γ nd_St_forgetRooms_13 (by decide) ?_
  refine cg_ist (f := upd (upd (upd (fun _ => 0) 0 ((-1))) 1 ((-1))) 2 ((-1))) (pc := 14) Γ nd_St_forgetRooms_14 hO hb (Nat.le_of_ble_eq_true rfl) rfl (rl_ib_in (by decide)) ?_
  refine cg_iinc (v := 4) (L' := [(1, .int 4), (0, .ref (b + 8))]) (pc := 15) Γ nd_St_forgetRooms_15 0 rfl (by decide) (by decide) rfl ?_
  refine cg_goto (tgt := 2) (pc := 18) Γ nd_St_forgetRooms_18 (by decide) ?_
  refine cg_iload_n (pc := 2) Γ nd_St_forgetRooms_2 0 rfl ?_
  refine cg_bipush (v := 6) (pc := 3) Γ nd_St_forgetRooms_3 (by decide) ?_
  refine cg_icmp_ge (tgt := 21) (pc := 5) Γ nd_St_forgetRooms_5 (by decide) (fun q => absurd q (by decide)) (fun _ => ?_)
  refine cg_aload_n (pc := 8) Γ nd_St_forgetRooms_8 1 rfl ?_
  refine cg_get (fs := [.int 0, .ref (b + 9), .ref (b + 10), .ref (b + 11), .ref (b + 12), .ref (b + 13), .ref (b + 14)]) (k := 6) (pc := 9) Γ nd_St_forgetRooms_9 hO (Nat.le_of_ble_eq_true rfl) (by exact h8) rfl (by decide) rfl ⟨ni_St, nf_St_31⟩ ?_
  refine cg_iload_n (pc := 12) Γ nd_St_forgetRooms_12 0 rfl ?_
  refine cg_iconst (v := (-1)) (pc := 13) Γ nd_St_forgetRooms_13 (by decide) ?_
  refine cg_ist (f := upd (upd (upd (upd (fun _ => 0) 0 ((-1))) 1 ((-1))) 2 ((-1))) 3 ((-1))) (pc := 14) Γ nd_St_forgetRooms_14 hO hb (Nat.le_of_ble_eq_true rfl) rfl (rl_ib_in (by decide)) ?_
  refine cg_iinc (v := 5) (L' := [(1, .int 5), (0, .ref (b + 8))]) (pc := 15) Γ nd_St_forgetRooms_15 0 rfl (by decide) (by decide) rfl ?_
  refine cg_goto (tgt := 2) (pc := 18) Γ nd_St_forgetRooms_18 (by decide) ?_
  refine cg_iload_n (pc := 2) Γ nd_St_forgetRooms_2 0 rfl ?_
  refine cg_bipush (v := 6) (pc := 3) Γ nd_St_forgetRooms_3 (by decide) ?_
  refine cg_icmp_ge (tgt := 21) (pc := 5) Γ nd_St_forgetRooms_5 (by decide) (fun q => absurd q (by decide)) (fun _ => ?_)
  refine cg_aload_n (pc := 8) Γ nd_St_forgetRooms_8 1 rfl ?_
  refine cg_get (fs := [.int 0, .ref (b + 9), .ref (b + 10), .ref (b + 11), .ref (b + 12), .ref (b + 13), .ref (b + 14)]) (k := 6) (pc := 9) Γ nd_St_forgetRooms_9 hO (Nat.le_of_ble_eq_true rfl) (by exact h8) rfl (by decide) rfl ⟨ni_St, nf_St_31⟩ ?_
  refine cg_iload_n (pc := 12) Γ nd_St_forgetRooms_12 0 rfl ?_
  refine cg_iconst (v := (-1)) (pc := 13) Γ nd_St_forgetRooms_13 (by decide) ?_
  refine cg_ist (f := upd (upd (upd (upd (upd (fun _ => 0) 0 ((-1))) 1 ((-1))) 2 ((-1))) 3 ((-1))) 4 ((-1))) (pc := 14) Γ nd_St_forgetRooms_14 hO hb (Nat.le_of_ble_eq_true rfl) rfl (rl_ib_in (by decide)) ?_
  refine cg_iinc (v := 6) (L' := [(1, .int 6), (0, .ref (b + 8))]) (pc := 15) Γ nd_St_forgetRooms_15 0 rfl (by decide) (by decide) rfl ?_
  refine cg_goto (tgt := 2) (pc := 18) Γ nd_St_forgetRooms_18 (by decide) ?_
  refine cg_iload_n (pc := 2) Γ nd_St_forgetRooms_2 0 rfl ?_
  refine cg_bipush (v := 6) (pc := 3) Γ nd_St_forgetRooms_3 (by decide) ?_
  refine cg_icmp_ge (tgt := 21) (pc := 5) Γ nd_St_forgetRooms_5 (by decide) (fun _ => ?_) (fun q => absurd (by decide) q)
  exact cg_vretC (ct' := kf_St_forgetRooms_8 F b ct) (pc := 21) Γ nd_St_forgetRooms_21 hr hk ⟨Nat.le_of_ble_eq_true rfl, Nat.le_of_ble_eq_true rfl⟩ (fun k hk => match k, hk with | 0, _ => rfl | 1, _ => rfl | 2, _ => rfl | 3, _ => rfl | 4, _ => rfl | 5, _ => rfl | 6, _ => rfl | 7, _ => rfl | 8, _ => rfl | 9, _ => rfl | 10, _ => rfl | 11, _ => rfl | 12, _ => rfl | 13, _ => rfl | 14, _ => rfl | k + 15, hk => absurd hk (by omega))
def kf_St_init_8 (F : cg_F) (b : Nat) (ct : Nat → va_E) : Nat → va_E := va_up (va_up (va_up (va_up (va_up (va_up (va_up (ct) 8 (.inr (4, [.int 0, .ref (b + 9), .ref (b + 10), .ref (b + 11), .ref (b + 12), .ref (b + 13), .ref (b + 14)]))) 9 (.inl (F.2.1, 11, .inl (fun _ => 0)))) 10 (.inl (F.2.1, 11, .inl (fun _ => 0)))) 11 (.inl (F.2.1, 11, .inl (fun _ => 0)))) 12 (.inl (F.2.1, 11, .inl (fun _ => 0)))) 13 (.inl (F.2.1, 11, .inl (fun _ => 0)))) 14 (.inl (F.2.1, 6, .inl (upd (upd (upd (upd (upd (upd (fun _ => 0) 0 ((-1))) 1 ((-1))) 2 ((-1))) 3 ((-1))) 4 ((-1))) 5 ((-1)))))
set_option maxHeartbeats 8000000 in
set_option maxRecDepth 100000 in
theorem k_St_init_8 (l : Launch) (F : cg_F) (b : Nat) (ct : Nat → va_E) (h8 : ct 8 = .inr (4, [.int 0, .null, .null, .null, .null, .null, .null])) : Met l ny_St_init (.code ny_St_init nc_St_init 1 none :: rl_TT) { frames := 1, cells := 6, slots := 61, locals := 21 } (cg_P F b [.ref (b + 8)] ct 9) (cg_Q F b (kf_St_init_8 F b ct) 15) 6 61 (fun q => b ≤ q) := by
  refine Met.ofW (cc := nc_St_init) (maxL := 1) (ret := none) (by decide) rfl ?_
  intro p e s m args below meth c s₁ B hml hv
  obtain ⟨rfl, hz, hP, hO⟩ := hv
  have hb : b ≤ s.heap.size := by omega
  have Γ : CallFix p m c nc_St_init 1 s ([.ref (b + 8)] : List Value).toArray rl_TT nR_St := ⟨B.exec, B.bytes, hml, findClass_of_methodNamed B.named, fun w hw => atoms_spec B.pre w (List.mem_cons_of_mem _ hw)⟩
  have hr := B.returns
  have hk := B.notSynchronized
  have hin : meth.name = "<init>" := (name_of_methodNamed B.named B.method).1
  refine cg_start (R := { frames := 1, cells := 6, slots := 61, locals := 21 }) (nL := 1) (av := [.ref (b + 8)]) (ct := ct) (n := 9) (F := F) (b := b) hz hP (Nat.le_of_ble_eq_true rfl) ?_
  refine cg_aload_n (pc := 0) Γ nd_St_init_0 0 rfl ?_
  refine cg_obj (pc := 1) Γ nd_St_init_1 ng_ob_St_3 ng_ob_im ng_ob_cd (Nat.le_of_ble_eq_true rfl) (Nat.le_of_ble_eq_true rfl) ?_
  refine cg_aload_n (pc := 4) Γ nd_St_init_4 0 rfl ?_
  refine cg_iconst (v := 0) (pc := 5) Γ nd_St_init_5 (by decide) ?_
  refine cg_put (fs := [.int 0, .null, .null, .null, .null, .null, .null]) (v := .int 0) (k := 0) (pc := 6) Γ nd_St_init_6 hO hb (Nat.le_of_ble_eq_true rfl) (by exact h8) rfl (by decide) ⟨ni_St, nf_St_9⟩ nt_St nto_St nn_St rfl (Nat.le_of_ble_eq_true rfl) rfl rfl ?_
  refine cg_aload_n (pc := 9) Γ nd_St_init_9 0 rfl ?_
  refine cg_bipush (v := 11) (pc := 10) Γ nd_St_init_10 (by decide) ?_
  refine cg_newa (N := 11) (pc := 12) Γ nd_St_init_12 hO hb ng_arr_int (by decide) (by decide) (Nat.le_of_ble_eq_true rfl) (Nat.le_of_ble_eq_true rfl) (Nat.le_of_ble_eq_true rfl) ?_
  refine cg_putF (fs := [.int 0, .null, .null, .null, .null, .null, .null]) (v := .ref (b + 9)) (k := 1) (pc := 14) Γ nd_St_init_14 hO hb hin (Nat.le_of_ble_eq_true rfl) rfl rfl (by decide) ⟨ni_St, nf_St_15⟩ nt_St nto_St nn_St rfl rfl (Nat.le_of_ble_eq_true rfl) rfl rfl ?_
  refine cg_aload_n (pc := 17) Γ nd_St_init_17 0 rfl ?_
  refine cg_bipush (v := 11) (pc := 18) Γ nd_St_init_18 (by decide) ?_
  refine cg_newa (N := 11) (pc := 20) Γ nd_St_init_20 hO hb ng_arr_int (by decide) (by decide) (Nat.le_of_ble_eq_true rfl) (Nat.le_of_ble_eq_true rfl) (Nat.le_of_ble_eq_true rfl) ?_
  refine cg_putF (fs := [.int 0, .ref (b + 9), .null, .null, .null, .null, .null]) (v := .ref (b + 10)) (k := 2) (pc := 22) Γ nd_St_init_22 hO hb hin (Nat.le_of_ble_eq_true rfl) rfl rfl (by decide) ⟨ni_St, nf_St_19⟩ nt_St nto_St nn_St rfl rfl (Nat.le_of_ble_eq_true rfl) rfl rfl ?_
  refine cg_aload_n (pc := 25) Γ nd_St_init_25 0 rfl ?_
  refine cg_bipush (v := 11) (pc := 26) Γ nd_St_init_26 (by decide) ?_
  refine cg_newa (N := 11) (pc := 28) Γ nd_St_init_28 hO hb ng_arr_int (by decide) (by decide) (Nat.le_of_ble_eq_true rfl) (Nat.le_of_ble_eq_true rfl) (Nat.le_of_ble_eq_true rfl) ?_
  refine cg_putF (fs := [.int 0, .ref (b + 9), .ref (b + 10), .null, .null, .null, .null]) (v := .ref (b + 11)) (k := 3) (pc := 30) Γ nd_St_init_30 hO hb hin (Nat.le_of_ble_eq_true rfl) rfl rfl (by decide) ⟨ni_St, nf_St_22⟩ nt_St nto_St nn_St rfl rfl (Nat.le_of_ble_eq_true rfl) rfl rfl ?_
  refine cg_aload_n (pc := 33) Γ nd_St_init_33 0 rfl ?_
  refine cg_bipush (v := 11) (pc := 34) Γ nd_St_init_34 (by decide) ?_
  refine cg_newa (N := 11) (pc := 36) Γ nd_St_init_36 hO hb ng_arr_int (by decide) (by decide) (Nat.le_of_ble_eq_true rfl) (Nat.le_of_ble_eq_true rfl) (Nat.le_of_ble_eq_true rfl) ?_
  refine cg_putF (fs := [.int 0, .ref (b + 9), .ref (b + 10), .ref (b + 11), .null, .null, .null]) (v := .ref (b + 12)) (k := 4) (pc := 38) Γ nd_St_init_38 hO hb hin (Nat.le_of_ble_eq_true rfl) rfl rfl (by decide) ⟨ni_St, nf_St_25⟩ nt_St nto_St nn_St rfl rfl (Nat.le_of_ble_eq_true rfl) rfl rfl ?_
  refine cg_aload_n (pc := 41) Γ nd_St_init_41 0 rfl ?_
  refine cg_bipush (v := 11) (pc := 42) Γ nd_St_init_42 (by decide) ?_
  refine cg_newa (N := 11) (pc := 44) Γ nd_St_init_44 hO hb ng_arr_int (by decide) (by decide) (Nat.le_of_ble_eq_true rfl) (Nat.le_of_ble_eq_true rfl) (Nat.le_of_ble_eq_true rfl) ?_
  refine cg_putF (fs := [.int 0, .ref (b + 9), .ref (b + 10), .ref (b + 11), .ref (b + 12), .null, .null]) (v := .ref (b + 13)) (k := 5) (pc := 46) Γ nd_St_init_46 hO hb hin (Nat.le_of_ble_eq_true rfl) rfl rfl (by decide) ⟨ni_St, nf_St_28⟩ nt_St nto_St nn_St rfl rfl (Nat.le_of_ble_eq_true rfl) rfl rfl ?_
  refine cg_aload_n (pc := 49) Γ nd_St_init_49 0 rfl ?_
  refine cg_bipush (v := 6) (pc := 50) Γ nd_St_init_50 (by decide) ?_
  refine cg_newa (N := 6) (pc := 52) Γ nd_St_init_52 hO hb ng_arr_int (by decide) (by decide) (Nat.le_of_ble_eq_true rfl) (Nat.le_of_ble_eq_true rfl) (Nat.le_of_ble_eq_true rfl) ?_
  refine cg_putF (fs := [.int 0, .ref (b + 9), .ref (b + 10), .ref (b + 11), .ref (b + 12), .ref (b + 13), .null]) (v := .ref (b + 14)) (k := 6) (pc := 54) Γ nd_St_init_54 hO hb hin (Nat.le_of_ble_eq_true rfl) rfl rfl (by decide) ⟨ni_St, nf_St_31⟩ nt_St nto_St nn_St rfl rfl (Nat.le_of_ble_eq_true rfl) rfl rfl ?_
  refine cg_aload_n (pc := 57) Γ nd_St_init_57 0 rfl ?_
  refine cg_callV (a := 8) (n := 15) (pc := 58) Γ nd_St_init_58 hO (k_St_forgetRooms_8 l F b _ rfl rfl) nm_St_34 nm_im_St_forgetRooms nm_se_St_forgetRooms nm_ini_St nh_St_forgetRooms (Nat.le_of_ble_eq_true rfl) rfl rfl ⟨rfl, rfl⟩ (by decide +kernel) (Nat.le_of_ble_eq_true rfl) (Nat.le_of_ble_eq_true rfl) ⟨Nat.le_of_ble_eq_true rfl, Nat.le_of_ble_eq_true rfl⟩ (Nat.le_of_ble_eq_true rfl) ?_
  exact cg_vretC (ct' := kf_St_init_8 F b ct) (pc := 61) Γ nd_St_init_61 hr hk ⟨Nat.le_of_ble_eq_true rfl, Nat.le_of_ble_eq_true rfl⟩ (fun k hk => match k, hk with | 0, _ => rfl | 1, _ => rfl | 2, _ => rfl | 3, _ => rfl | 4, _ => rfl | 5, _ => rfl | 6, _ => rfl | 7, _ => rfl | 8, _ => rfl | 9, _ => rfl | 10, _ => rfl | 11, _ => rfl | 12, _ => rfl | 13, _ => rfl | 14, _ => rfl | k + 15, hk => absurd hk (by omega))
def kf_Cu_init_16 (F : cg_F) (b : Nat) (ct : Nat → va_E) : Nat → va_E := va_up (va_up (va_up (ct) 16 (.inr (6, [.int 0, .ref (b + 17), .ref (b + 18)]))) 17 (.inl (F.2.1, 24, .inl (fun _ => 0)))) 18 (.inl (F.2.1, 24, .inl (fun _ => 0)))
set_option maxHeartbeats 8000000 in
set_option maxRecDepth 100000 in
theorem k_Cu_init_16 (l : Launch) (F : cg_F) (b : Nat) (ct : Nat → va_E) (h16 : ct 16 = .inr (6, [.int 0, .null, .null])) : Met l ny_Cu_init (.code ny_Cu_init nc_Cu_init 1 none :: rl_TT) { frames := 1, cells := 2, slots := 48, locals := 12 } (cg_P F b [.ref (b + 16)] ct 17) (cg_Q F b (kf_Cu_init_16 F b ct) 19) 2 48 (fun q => b ≤ q) := by
  refine Met.ofW (cc := nc_Cu_init) (maxL := 1) (ret := none) (by decide) rfl ?_
  intro p e s m args below meth c s₁ B hml hv
  obtain ⟨rfl, hz, hP, hO⟩ := hv
  have hb : b ≤ s.heap.size := by omega
  have Γ : CallFix p m c nc_Cu_init 1 s ([.ref (b + 16)] : List Value).toArray rl_TT nR_Cu := ⟨B.exec, B.bytes, hml, findClass_of_methodNamed B.named, fun w hw => atoms_spec B.pre w (List.mem_cons_of_mem _ hw)⟩
  have hr := B.returns
  have hk := B.notSynchronized
  have hin : meth.name = "<init>" := (name_of_methodNamed B.named B.method).1
  refine cg_start (R := { frames := 1, cells := 2, slots := 48, locals := 12 }) (nL := 1) (av := [.ref (b + 16)]) (ct := ct) (n := 17) (F := F) (b := b) hz hP (Nat.le_of_ble_eq_true rfl) ?_
  refine cg_aload_n (pc := 0) Γ nd_Cu_init_0 0 rfl ?_
  refine cg_obj (pc := 1) Γ nd_Cu_init_1 ng_ob_Cu_3 ng_ob_im ng_ob_cd (Nat.le_of_ble_eq_true rfl) (Nat.le_of_ble_eq_true rfl) ?_
  refine cg_aload_n (pc := 4) Γ nd_Cu_init_4 0 rfl ?_
  refine cg_iconst (v := 0) (pc := 5) Γ nd_Cu_init_5 (by decide) ?_
  refine cg_put (fs := [.int 0, .null, .null]) (v := .int 0) (k := 0) (pc := 6) Γ nd_Cu_init_6 hO hb (Nat.le_of_ble_eq_true rfl) (by exact h16) rfl (by decide) ⟨ni_Cu, nf_Cu_9⟩ nt_Cu nto_Cu nn_Cu rfl (Nat.le_of_ble_eq_true rfl) rfl rfl ?_
  refine cg_aload_n (pc := 9) Γ nd_Cu_init_9 0 rfl ?_
  refine cg_bipush (v := 24) (pc := 10) Γ nd_Cu_init_10 (by decide) ?_
  refine cg_newa (N := 24) (pc := 12) Γ nd_Cu_init_12 hO hb ng_arr_int (by decide) (by decide) (Nat.le_of_ble_eq_true rfl) (Nat.le_of_ble_eq_true rfl) (Nat.le_of_ble_eq_true rfl) ?_
  refine cg_putF (fs := [.int 0, .null, .null]) (v := .ref (b + 17)) (k := 1) (pc := 14) Γ nd_Cu_init_14 hO hb hin (Nat.le_of_ble_eq_true rfl) rfl rfl (by decide) ⟨ni_Cu, nf_Cu_15⟩ nt_Cu nto_Cu nn_Cu rfl rfl (Nat.le_of_ble_eq_true rfl) rfl rfl ?_
  refine cg_aload_n (pc := 17) Γ nd_Cu_init_17 0 rfl ?_
  refine cg_bipush (v := 24) (pc := 18) Γ nd_Cu_init_18 (by decide) ?_
  refine cg_newa (N := 24) (pc := 20) Γ nd_Cu_init_20 hO hb ng_arr_int (by decide) (by decide) (Nat.le_of_ble_eq_true rfl) (Nat.le_of_ble_eq_true rfl) (Nat.le_of_ble_eq_true rfl) ?_
  refine cg_putF (fs := [.int 0, .ref (b + 17), .null]) (v := .ref (b + 18)) (k := 2) (pc := 22) Γ nd_Cu_init_22 hO hb hin (Nat.le_of_ble_eq_true rfl) rfl rfl (by decide) ⟨ni_Cu, nf_Cu_19⟩ nt_Cu nto_Cu nn_Cu rfl rfl (Nat.le_of_ble_eq_true rfl) rfl rfl ?_
  exact cg_vretC (ct' := kf_Cu_init_16 F b ct) (pc := 25) Γ nd_Cu_init_25 hr hk ⟨Nat.le_of_ble_eq_true rfl, Nat.le_of_ble_eq_true rfl⟩ (fun k hk => match k, hk with | 0, _ => rfl | 1, _ => rfl | 2, _ => rfl | 3, _ => rfl | 4, _ => rfl | 5, _ => rfl | 6, _ => rfl | 7, _ => rfl | 8, _ => rfl | 9, _ => rfl | 10, _ => rfl | 11, _ => rfl | 12, _ => rfl | 13, _ => rfl | 14, _ => rfl | 15, _ => rfl | 16, _ => rfl | 17, _ => rfl | 18, _ => rfl | k + 19, hk => absurd hk (by omega))
def kf_Cu_init_22 (F : cg_F) (b : Nat) (ct : Nat → va_E) : Nat → va_E := va_up (va_up (va_up (ct) 22 (.inr (6, [.int 0, .ref (b + 23), .ref (b + 24)]))) 23 (.inl (F.2.1, 24, .inl (fun _ => 0)))) 24 (.inl (F.2.1, 24, .inl (fun _ => 0)))
set_option maxHeartbeats 8000000 in
set_option maxRecDepth 100000 in
theorem k_Cu_init_22 (l : Launch) (F : cg_F) (b : Nat) (ct : Nat → va_E) (h22 : ct 22 = .inr (6, [.int 0, .null, .null])) : Met l ny_Cu_init (.code ny_Cu_init nc_Cu_init 1 none :: rl_TT) { frames := 1, cells := 2, slots := 48, locals := 12 } (cg_P F b [.ref (b + 22)] ct 23) (cg_Q F b (kf_Cu_init_22 F b ct) 25) 2 48 (fun q => b ≤ q) := by
  refine Met.ofW (cc := nc_Cu_init) (maxL := 1) (ret := none) (by decide) rfl ?_
  intro p e s m args below meth c s₁ B hml hv
  obtain ⟨rfl, hz, hP, hO⟩ := hv
  have hb : b ≤ s.heap.size := by omega
  have Γ : CallFix p m c nc_Cu_init 1 s ([.ref (b + 22)] : List Value).toArray rl_TT nR_Cu := ⟨B.exec, B.bytes, hml, findClass_of_methodNamed B.named, fun w hw => atoms_spec B.pre w (List.mem_cons_of_mem _ hw)⟩
  have hr := B.returns
  have hk := B.notSynchronized
  have hin : meth.name = "<init>" := (name_of_methodNamed B.named B.method).1
  refine cg_start (R := { frames := 1, cells := 2, slots := 48, locals := 12 }) (nL := 1) (av := [.ref (b + 22)]) (ct := ct) (n := 23) (F := F) (b := b) hz hP (Nat.le_of_ble_eq_true rfl) ?_
  refine cg_aload_n (pc := 0) Γ nd_Cu_init_0 0 rfl ?_
  refine cg_obj (pc := 1) Γ nd_Cu_init_1 ng_ob_Cu_3 ng_ob_im ng_ob_cd (Nat.le_of_ble_eq_true rfl) (Nat.le_of_ble_eq_true rfl) ?_
  refine cg_aload_n (pc := 4) Γ nd_Cu_init_4 0 rfl ?_
  refine cg_iconst (v := 0) (pc := 5) Γ nd_Cu_init_5 (by decide) ?_
  refine cg_put (fs := [.int 0, .null, .null]) (v := .int 0) (k := 0) (pc := 6) Γ nd_Cu_init_6 hO hb (Nat.le_of_ble_eq_true rfl) (by exact h22) rfl (by decide) ⟨ni_Cu, nf_Cu_9⟩ nt_Cu nto_Cu nn_Cu rfl (Nat.le_of_ble_eq_true rfl) rfl rfl ?_
  refine cg_aload_n (pc := 9) Γ nd_Cu_init_9 0 rfl ?_
  refine cg_bipush (v := 24) (pc := 10) Γ nd_Cu_init_10 (by decide) ?_
  refine cg_newa (N := 24) (pc := 12) Γ nd_Cu_init_12 hO hb ng_arr_int (by decide) (by decide) (Nat.le_of_ble_eq_true rfl) (Nat.le_of_ble_eq_true rfl) (Nat.le_of_ble_eq_true rfl) ?_
  refine cg_putF (fs := [.int 0, .null, .null]) (v := .ref (b + 23)) (k := 1) (pc := 14) Γ nd_Cu_init_14 hO hb hin (Nat.le_of_ble_eq_true rfl) rfl rfl (by decide) ⟨ni_Cu, nf_Cu_15⟩ nt_Cu nto_Cu nn_Cu rfl rfl (Nat.le_of_ble_eq_true rfl) rfl rfl ?_
  refine cg_aload_n (pc := 17) Γ nd_Cu_init_17 0 rfl ?_
  refine cg_bipush (v := 24) (pc := 18) Γ nd_Cu_init_18 (by decide) ?_
  refine cg_newa (N := 24) (pc := 20) Γ nd_Cu_init_20 hO hb ng_arr_int (by decide) (by decide) (Nat.le_of_ble_eq_true rfl) (Nat.le_of_ble_eq_true rfl) (Nat.le_of_ble_eq_true rfl) ?_
  refine cg_putF (fs := [.int 0, .ref (b + 23), .null]) (v := .ref (b + 24)) (k := 2) (pc := 22) Γ nd_Cu_init_22 hO hb hin (Nat.le_of_ble_eq_true rfl) rfl rfl (by decide) ⟨ni_Cu, nf_Cu_19⟩ nt_Cu nto_Cu nn_Cu rfl rfl (Nat.le_of_ble_eq_true rfl) rfl rfl ?_
  exact cg_vretC (ct' := kf_Cu_init_22 F b ct) (pc := 25) Γ nd_Cu_init_25 hr hk ⟨Nat.le_of_ble_eq_true rfl, Nat.le_of_ble_eq_true rfl⟩ (fun k hk => match k, hk with | 0, _ => rfl | 1, _ => rfl | 2, _ => rfl | 3, _ => rfl | 4, _ => rfl | 5, _ => rfl | 6, _ => rfl | 7, _ => rfl | 8, _ => rfl | 9, _ => rfl | 10, _ => rfl | 11, _ => rfl | 12, _ => rfl | 13, _ => rfl | 14, _ => rfl | 15, _ => rfl | 16, _ => rfl | 17, _ => rfl | 18, _ => rfl | 19, _ => rfl | 20, _ => rfl | 21, _ => rfl | 22, _ => rfl | 23, _ => rfl | 24, _ => rfl | k + 25, hk => absurd hk (by omega))
def kf_Cu_init_25 (F : cg_F) (b : Nat) (ct : Nat → va_E) : Nat → va_E := va_up (va_up (va_up (ct) 25 (.inr (6, [.int 0, .ref (b + 26), .ref (b + 27)]))) 26 (.inl (F.2.1, 24, .inl (fun _ => 0)))) 27 (.inl (F.2.1, 24, .inl (fun _ => 0)))
set_option maxHeartbeats 8000000 in
set_option maxRecDepth 100000 in
theorem k_Cu_init_25 (l : Launch) (F : cg_F) (b : Nat) (ct : Nat → va_E) (h25 : ct 25 = .inr (6, [.int 0, .null, .null])) : Met l ny_Cu_init (.code ny_Cu_init nc_Cu_init 1 none :: rl_TT) { frames := 1, cells := 2, slots := 48, locals := 12 } (cg_P F b [.ref (b + 25)] ct 26) (cg_Q F b (kf_Cu_init_25 F b ct) 28) 2 48 (fun q => b ≤ q) := by
  refine Met.ofW (cc := nc_Cu_init) (maxL := 1) (ret := none) (by decide) rfl ?_
  intro p e s m args below meth c s₁ B hml hv
  obtain ⟨rfl, hz, hP, hO⟩ := hv
  have hb : b ≤ s.heap.size := by omega
  have Γ : CallFix p m c nc_Cu_init 1 s ([.ref (b + 25)] : List Value).toArray rl_TT nR_Cu := ⟨B.exec, B.bytes, hml, findClass_of_methodNamed B.named, fun w hw => atoms_spec B.pre w (List.mem_cons_of_mem _ hw)⟩
  have hr := B.returns
  have hk := B.notSynchronized
  have hin : meth.name = "<init>" := (name_of_methodNamed B.named B.method).1
  refine cg_start (R := { frames := 1, cells := 2, slots := 48, locals := 12 }) (nL := 1) (av := [.ref (b + 25)]) (ct := ct) (n := 26) (F := F) (b := b) hz hP (Nat.le_of_ble_eq_true rfl) ?_
  refine cg_aload_n (pc := 0) Γ nd_Cu_init_0 0 rfl ?_
  refine cg_obj (pc := 1) Γ nd_Cu_init_1 ng_ob_Cu_3 ng_ob_im ng_ob_cd (Nat.le_of_ble_eq_true rfl) (Nat.le_of_ble_eq_true rfl) ?_
  refine cg_aload_n (pc := 4) Γ nd_Cu_init_4 0 rfl ?_
  refine cg_iconst (v := 0) (pc := 5) Γ nd_Cu_init_5 (by decide) ?_
  refine cg_put (fs := [.int 0, .null, .null]) (v := .int 0) (k := 0) (pc := 6) Γ nd_Cu_init_6 hO hb (Nat.le_of_ble_eq_true rfl) (by exact h25) rfl (by decide) ⟨ni_Cu, nf_Cu_9⟩ nt_Cu nto_Cu nn_Cu rfl (Nat.le_of_ble_eq_true rfl) rfl rfl ?_
  refine cg_aload_n (pc := 9) Γ nd_Cu_init_9 0 rfl ?_
  refine cg_bipush (v := 24) (pc := 10) Γ nd_Cu_init_10 (by decide) ?_
  refine cg_newa (N := 24) (pc := 12) Γ nd_Cu_init_12 hO hb ng_arr_int (by decide) (by decide) (Nat.le_of_ble_eq_true rfl) (Nat.le_of_ble_eq_true rfl) (Nat.le_of_ble_eq_true rfl) ?_
  refine cg_putF (fs := [.int 0, .null, .null]) (v := .ref (b + 26)) (k := 1) (pc := 14) Γ nd_Cu_init_14 hO hb hin (Nat.le_of_ble_eq_true rfl) rfl rfl (by decide) ⟨ni_Cu, nf_Cu_15⟩ nt_Cu nto_Cu nn_Cu rfl rfl (Nat.le_of_ble_eq_true rfl) rfl rfl ?_
  refine cg_aload_n (pc := 17) Γ nd_Cu_init_17 0 rfl ?_
  refine cg_bipush (v := 24) (pc := 18) Γ nd_Cu_init_18 (by decide) ?_
  refine cg_newa (N := 24) (pc := 20) Γ nd_Cu_init_20 hO hb ng_arr_int (by decide) (by decide) (Nat.le_of_ble_eq_true rfl) (Nat.le_of_ble_eq_true rfl) (Nat.le_of_ble_eq_true rfl) ?_
  refine cg_putF (fs := [.int 0, .ref (b + 26), .null]) (v := .ref (b + 27)) (k := 2) (pc := 22) Γ nd_Cu_init_22 hO hb hin (Nat.le_of_ble_eq_true rfl) rfl rfl (by decide) ⟨ni_Cu, nf_Cu_19⟩ nt_Cu nto_Cu nn_Cu rfl rfl (Nat.le_of_ble_eq_true rfl) rfl rfl ?_
  exact cg_vretC (ct' := kf_Cu_init_25 F b ct) (pc := 25) Γ nd_Cu_init_25 hr hk ⟨Nat.le_of_ble_eq_true rfl, Nat.le_of_ble_eq_true rfl⟩ (fun k hk => match k, hk with | 0, _ => rfl | 1, _ => rfl | 2, _ => rfl | 3, _ => rfl | 4, _ => rfl | 5, _ => rfl | 6, _ => rfl | 7, _ => rfl | 8, _ => rfl | 9, _ => rfl | 10, _ => rfl | 11, _ => rfl | 12, _ => rfl | 13, _ => rfl | 14, _ => rfl | 15, _ => rfl | 16, _ => rfl | 17, _ => rfl | 18, _ => rfl | 19, _ => rfl | 20, _ => rfl | 21, _ => rfl | 22, _ => rfl | 23, _ => rfl | 24, _ => rfl | 25, _ => rfl | 26, _ => rfl | 27, _ => rfl | k + 28, hk => absurd hk (by omega))
def kf_Cu_init_28 (F : cg_F) (b : Nat) (ct : Nat → va_E) : Nat → va_E := va_up (va_up (va_up (ct) 28 (.inr (6, [.int 0, .ref (b + 29), .ref (b + 30)]))) 29 (.inl (F.2.1, 24, .inl (fun _ => 0)))) 30 (.inl (F.2.1, 24, .inl (fun _ => 0)))
set_option maxHeartbeats 8000000 in
set_option maxRecDepth 100000 in
theorem k_Cu_init_28 (l : Launch) (F : cg_F) (b : Nat) (ct : Nat → va_E) (h28 : ct 28 = .inr (6, [.int 0, .null, .null])) : Met l ny_Cu_init (.code ny_Cu_init nc_Cu_init 1 none :: rl_TT) { frames := 1, cells := 2, slots := 48, locals := 12 } (cg_P F b [.ref (b + 28)] ct 29) (cg_Q F b (kf_Cu_init_28 F b ct) 31) 2 48 (fun q => b ≤ q) := by
  refine Met.ofW (cc := nc_Cu_init) (maxL := 1) (ret := none) (by decide) rfl ?_
  intro p e s m args below meth c s₁ B hml hv
  obtain ⟨rfl, hz, hP, hO⟩ := hv
  have hb : b ≤ s.heap.size := by omega
  have Γ : CallFix p m c nc_Cu_init 1 s ([.ref (b + 28)] : List Value).toArray rl_TT nR_Cu := ⟨B.exec, B.bytes, hml, findClass_of_methodNamed B.named, fun w hw => atoms_spec B.pre w (List.mem_cons_of_mem _ hw)⟩
  have hr := B.returns
  have hk := B.notSynchronized
  have hin : meth.name = "<init>" := (name_of_methodNamed B.named B.method).1
  refine cg_start (R := { frames := 1, cells := 2, slots := 48, locals := 12 }) (nL := 1) (av := [.ref (b + 28)]) (ct := ct) (n := 29) (F := F) (b := b) hz hP (Nat.le_of_ble_eq_true rfl) ?_
  refine cg_aload_n (pc := 0) Γ nd_Cu_init_0 0 rfl ?_
  refine cg_obj (pc := 1) Γ nd_Cu_init_1 ng_ob_Cu_3 ng_ob_im ng_ob_cd (Nat.le_of_ble_eq_true rfl) (Nat.le_of_ble_eq_true rfl) ?_
  refine cg_aload_n (pc := 4) Γ nd_Cu_init_4 0 rfl ?_
  refine cg_iconst (v := 0) (pc := 5) Γ nd_Cu_init_5 (by decide) ?_
  refine cg_put (fs := [.int 0, .null, .null]) (v := .int 0) (k := 0) (pc := 6) Γ nd_Cu_init_6 hO hb (Nat.le_of_ble_eq_true rfl) (by exact h28) rfl (by decide) ⟨ni_Cu, nf_Cu_9⟩ nt_Cu nto_Cu nn_Cu rfl (Nat.le_of_ble_eq_true rfl) rfl rfl ?_
  refine cg_aload_n (pc := 9) Γ nd_Cu_init_9 0 rfl ?_
  refine cg_bipush (v := 24) (pc := 10) Γ nd_Cu_init_10 (by decide) ?_
  refine cg_newa (N := 24) (pc := 12) Γ nd_Cu_init_12 hO hb ng_arr_int (by decide) (by decide) (Nat.le_of_ble_eq_true rfl) (Nat.le_of_ble_eq_true rfl) (Nat.le_of_ble_eq_true rfl) ?_
  refine cg_putF (fs := [.int 0, .null, .null]) (v := .ref (b + 29)) (k := 1) (pc := 14) Γ nd_Cu_init_14 hO hb hin (Nat.le_of_ble_eq_true rfl) rfl rfl (by decide) ⟨ni_Cu, nf_Cu_15⟩ nt_Cu nto_Cu nn_Cu rfl rfl (Nat.le_of_ble_eq_true rfl) rfl rfl ?_
  refine cg_aload_n (pc := 17) Γ nd_Cu_init_17 0 rfl ?_
  refine cg_bipush (v := 24) (pc := 18) Γ nd_Cu_init_18 (by decide) ?_
  refine cg_newa (N := 24) (pc := 20) Γ nd_Cu_init_20 hO hb ng_arr_int (by decide) (by decide) (Nat.le_of_ble_eq_true rfl) (Nat.le_of_ble_eq_true rfl) (Nat.le_of_ble_eq_true rfl) ?_
  refine cg_putF (fs := [.int 0, .ref (b + 29), .null]) (v := .ref (b + 30)) (k := 2) (pc := 22) Γ nd_Cu_init_22 hO hb hin (Nat.le_of_ble_eq_true rfl) rfl rfl (by decide) ⟨ni_Cu, nf_Cu_19⟩ nt_Cu nto_Cu nn_Cu rfl rfl (Nat.le_of_ble_eq_true rfl) rfl rfl ?_
  exact cg_vretC (ct' := kf_Cu_init_28 F b ct) (pc := 25) Γ nd_Cu_init_25 hr hk ⟨Nat.le_of_ble_eq_true rfl, Nat.le_of_ble_eq_true rfl⟩ (fun k hk => match k, hk with | 0, _ => rfl | 1, _ => rfl | 2, _ => rfl | 3, _ => rfl | 4, _ => rfl | 5, _ => rfl | 6, _ => rfl | 7, _ => rfl | 8, _ => rfl | 9, _ => rfl | 10, _ => rfl | 11, _ => rfl | 12, _ => rfl | 13, _ => rfl | 14, _ => rfl | 15, _ => rfl | 16, _ => rfl | 17, _ => rfl | 18, _ => rfl | 19, _ => rfl | 20, _ => rfl | 21, _ => rfl | 22, _ => rfl | 23, _ => rfl | 24, _ => rfl | 25, _ => rfl | 26, _ => rfl | 27, _ => rfl | 28, _ => rfl | 29, _ => rfl | 30, _ => rfl | k + 31, hk => absurd hk (by omega))
def kf_Cu_init_31 (F : cg_F) (b : Nat) (ct : Nat → va_E) : Nat → va_E := va_up (va_up (va_up (ct) 31 (.inr (6, [.int 0, .ref (b + 32), .ref (b + 33)]))) 32 (.inl (F.2.1, 24, .inl (fun _ => 0)))) 33 (.inl (F.2.1, 24, .inl (fun _ => 0)))
set_option maxHeartbeats 8000000 in
set_option maxRecDepth 100000 in
theorem k_Cu_init_31 (l : Launch) (F : cg_F) (b : Nat) (ct : Nat → va_E) (h31 : ct 31 = .inr (6, [.int 0, .null, .null])) : Met l ny_Cu_init (.code ny_Cu_init nc_Cu_init 1 none :: rl_TT) { frames := 1, cells := 2, slots := 48, locals := 12 } (cg_P F b [.ref (b + 31)] ct 32) (cg_Q F b (kf_Cu_init_31 F b ct) 34) 2 48 (fun q => b ≤ q) := by
  refine Met.ofW (cc := nc_Cu_init) (maxL := 1) (ret := none) (by decide) rfl ?_
  intro p e s m args below meth c s₁ B hml hv
  obtain ⟨rfl, hz, hP, hO⟩ := hv
  have hb : b ≤ s.heap.size := by omega
  have Γ : CallFix p m c nc_Cu_init 1 s ([.ref (b + 31)] : List Value).toArray rl_TT nR_Cu := ⟨B.exec, B.bytes, hml, findClass_of_methodNamed B.named, fun w hw => atoms_spec B.pre w (List.mem_cons_of_mem _ hw)⟩
  have hr := B.returns
  have hk := B.notSynchronized
  have hin : meth.name = "<init>" := (name_of_methodNamed B.named B.method).1
  refine cg_start (R := { frames := 1, cells := 2, slots := 48, locals := 12 }) (nL := 1) (av := [.ref (b + 31)]) (ct := ct) (n := 32) (F := F) (b := b) hz hP (Nat.le_of_ble_eq_true rfl) ?_
  refine cg_aload_n (pc := 0) Γ nd_Cu_init_0 0 rfl ?_
  refine cg_obj (pc := 1) Γ nd_Cu_init_1 ng_ob_Cu_3 ng_ob_im ng_ob_cd (Nat.le_of_ble_eq_true rfl) (Nat.le_of_ble_eq_true rfl) ?_
  refine cg_aload_n (pc := 4) Γ nd_Cu_init_4 0 rfl ?_
  refine cg_iconst (v := 0) (pc := 5) Γ nd_Cu_init_5 (by decide) ?_
  refine cg_put (fs := [.int 0, .null, .null]) (v := .int 0) (k := 0) (pc := 6) Γ nd_Cu_init_6 hO hb (Nat.le_of_ble_eq_true rfl) (by exact h31) rfl (by decide) ⟨ni_Cu, nf_Cu_9⟩ nt_Cu nto_Cu nn_Cu rfl (Nat.le_of_ble_eq_true rfl) rfl rfl ?_
  refine cg_aload_n (pc := 9) Γ nd_Cu_init_9 0 rfl ?_
  refine cg_bipush (v := 24) (pc := 10) Γ nd_Cu_init_10 (by decide) ?_
  refine cg_newa (N := 24) (pc := 12) Γ nd_Cu_init_12 hO hb ng_arr_int (by decide) (by decide) (Nat.le_of_ble_eq_true rfl) (Nat.le_of_ble_eq_true rfl) (Nat.le_of_ble_eq_true rfl) ?_
  refine cg_putF (fs := [.int 0, .null, .null]) (v := .ref (b + 32)) (k := 1) (pc := 14) Γ nd_Cu_init_14 hO hb hin (Nat.le_of_ble_eq_true rfl) rfl rfl (by decide) ⟨ni_Cu, nf_Cu_15⟩ nt_Cu nto_Cu nn_Cu rfl rfl (Nat.le_of_ble_eq_true rfl) rfl rfl ?_
  refine cg_aload_n (pc := 17) Γ nd_Cu_init_17 0 rfl ?_
  refine cg_bipush (v := 24) (pc := 18) Γ nd_Cu_init_18 (by decide) ?_
  refine cg_newa (N := 24) (pc := 20) Γ nd_Cu_init_20 hO hb ng_arr_int (by decide) (by decide) (Nat.le_of_ble_eq_true rfl) (Nat.le_of_ble_eq_true rfl) (Nat.le_of_ble_eq_true rfl) ?_
  refine cg_putF (fs := [.int 0, .ref (b + 32), .null]) (v := .ref (b + 33)) (k := 2) (pc := 22) Γ nd_Cu_init_22 hO hb hin (Nat.le_of_ble_eq_true rfl) rfl rfl (by decide) ⟨ni_Cu, nf_Cu_19⟩ nt_Cu nto_Cu nn_Cu rfl rfl (Nat.le_of_ble_eq_true rfl) rfl rfl ?_
  exact cg_vretC (ct' := kf_Cu_init_31 F b ct) (pc := 25) Γ nd_Cu_init_25 hr hk ⟨Nat.le_of_ble_eq_true rfl, Nat.le_of_ble_eq_true rfl⟩ (fun k hk => match k, hk with | 0, _ => rfl | 1, _ => rfl | 2, _ => rfl | 3, _ => rfl | 4, _ => rfl | 5, _ => rfl | 6, _ => rfl | 7, _ => rfl | 8, _ => rfl | 9, _ => rfl | 10, _ => rfl | 11, _ => rfl | 12, _ => rfl | 13, _ => rfl | 14, _ => rfl | 15, _ => rfl | 16, _ => rfl | 17, _ => rfl | 18, _ => rfl | 19, _ => rfl | 20, _ => rfl | 21, _ => rfl | 22, _ => rfl | 23, _ => rfl | 24, _ => rfl | 25, _ => rfl | 26, _ => rfl | 27, _ => rfl | 28, _ => rfl | 29, _ => rfl | 30, _ => rfl | 31, _ => rfl | 32, _ => rfl | 33, _ => rfl | k + 34, hk => absurd hk (by omega))
def kf_Cu_init_34 (F : cg_F) (b : Nat) (ct : Nat → va_E) : Nat → va_E := va_up (va_up (va_up (ct) 34 (.inr (6, [.int 0, .ref (b + 35), .ref (b + 36)]))) 35 (.inl (F.2.1, 24, .inl (fun _ => 0)))) 36 (.inl (F.2.1, 24, .inl (fun _ => 0)))
set_option maxHeartbeats 8000000 in
set_option maxRecDepth 100000 in
theorem k_Cu_init_34 (l : Launch) (F : cg_F) (b : Nat) (ct : Nat → va_E) (h34 : ct 34 = .inr (6, [.int 0, .null, .null])) : Met l ny_Cu_init (.code ny_Cu_init nc_Cu_init 1 none :: rl_TT) { frames := 1, cells := 2, slots := 48, locals := 12 } (cg_P F b [.ref (b + 34)] ct 35) (cg_Q F b (kf_Cu_init_34 F b ct) 37) 2 48 (fun q => b ≤ q) := by
  refine Met.ofW (cc := nc_Cu_init) (maxL := 1) (ret := none) (by decide) rfl ?_
  intro p e s m args below meth c s₁ B hml hv
  obtain ⟨rfl, hz, hP, hO⟩ := hv
  have hb : b ≤ s.heap.size := by omega
  have Γ : CallFix p m c nc_Cu_init 1 s ([.ref (b + 34)] : List Value).toArray rl_TT nR_Cu := ⟨B.exec, B.bytes, hml, findClass_of_methodNamed B.named, fun w hw => atoms_spec B.pre w (List.mem_cons_of_mem _ hw)⟩
  have hr := B.returns
  have hk := B.notSynchronized
  have hin : meth.name = "<init>" := (name_of_methodNamed B.named B.method).1
  refine cg_start (R := { frames := 1, cells := 2, slots := 48, locals := 12 }) (nL := 1) (av := [.ref (b + 34)]) (ct := ct) (n := 35) (F := F) (b := b) hz hP (Nat.le_of_ble_eq_true rfl) ?_
  refine cg_aload_n (pc := 0) Γ nd_Cu_init_0 0 rfl ?_
  refine cg_obj (pc := 1) Γ nd_Cu_init_1 ng_ob_Cu_3 ng_ob_im ng_ob_cd (Nat.le_of_ble_eq_true rfl) (Nat.le_of_ble_eq_true rfl) ?_
  refine cg_aload_n (pc := 4) Γ nd_Cu_init_4 0 rfl ?_
  refine cg_iconst (v := 0) (pc := 5) Γ nd_Cu_init_5 (by decide) ?_
  refine cg_put (fs := [.int 0, .null, .null]) (v := .int 0) (k := 0) (pc := 6) Γ nd_Cu_init_6 hO hb (Nat.le_of_ble_eq_true rfl) (by exact h34) rfl (by decide) ⟨ni_Cu, nf_Cu_9⟩ nt_Cu nto_Cu nn_Cu rfl (Nat.le_of_ble_eq_true rfl) rfl rfl ?_
  refine cg_aload_n (pc := 9) Γ nd_Cu_init_9 0 rfl ?_
  refine cg_bipush (v := 24) (pc := 10) Γ nd_Cu_init_10 (by decide) ?_
  refine cg_newa (N := 24) (pc := 12) Γ nd_Cu_init_12 hO hb ng_arr_int (by decide) (by decide) (Nat.le_of_ble_eq_true rfl) (Nat.le_of_ble_eq_true rfl) (Nat.le_of_ble_eq_true rfl) ?_
  refine cg_putF (fs := [.int 0, .null, .null]) (v := .ref (b + 35)) (k := 1) (pc := 14) Γ nd_Cu_init_14 hO hb hin (Nat.le_of_ble_eq_true rfl) rfl rfl (by decide) ⟨ni_Cu, nf_Cu_15⟩ nt_Cu nto_Cu nn_Cu rfl rfl (Nat.le_of_ble_eq_true rfl) rfl rfl ?_
  refine cg_aload_n (pc := 17) Γ nd_Cu_init_17 0 rfl ?_
  refine cg_bipush (v := 24) (pc := 18) Γ nd_Cu_init_18 (by decide) ?_
  refine cg_newa (N := 24) (pc := 20) Γ nd_Cu_init_20 hO hb ng_arr_int (by decide) (by decide) (Nat.le_of_ble_eq_true rfl) (Nat.le_of_ble_eq_true rfl) (Nat.le_of_ble_eq_true rfl) ?_
  refine cg_putF (fs := [.int 0, .ref (b + 35), .null]) (v := .ref (b + 36)) (k := 2) (pc := 22) Γ nd_Cu_init_22 hO hb hin (Nat.le_of_ble_eq_true rfl) rfl rfl (by decide) ⟨ni_Cu, nf_Cu_19⟩ nt_Cu nto_Cu nn_Cu rfl rfl (Nat.le_of_ble_eq_true rfl) rfl rfl ?_
  exact cg_vretC (ct' := kf_Cu_init_34 F b ct) (pc := 25) Γ nd_Cu_init_25 hr hk ⟨Nat.le_of_ble_eq_true rfl, Nat.le_of_ble_eq_true rfl⟩ (fun k hk => match k, hk with | 0, _ => rfl | 1, _ => rfl | 2, _ => rfl | 3, _ => rfl | 4, _ => rfl | 5, _ => rfl | 6, _ => rfl | 7, _ => rfl | 8, _ => rfl | 9, _ => rfl | 10, _ => rfl | 11, _ => rfl | 12, _ => rfl | 13, _ => rfl | 14, _ => rfl | 15, _ => rfl | 16, _ => rfl | 17, _ => rfl | 18, _ => rfl | 19, _ => rfl | 20, _ => rfl | 21, _ => rfl | 22, _ => rfl | 23, _ => rfl | 24, _ => rfl | 25, _ => rfl | 26, _ => rfl | 27, _ => rfl | 28, _ => rfl | 29, _ => rfl | 30, _ => rfl | 31, _ => rfl | 32, _ => rfl | 33, _ => rfl | 34, _ => rfl | 35, _ => rfl | 36, _ => rfl | k + 37, hk => absurd hk (by omega))
def kf_Cu_init_37 (F : cg_F) (b : Nat) (ct : Nat → va_E) : Nat → va_E := va_up (va_up (va_up (ct) 37 (.inr (6, [.int 0, .ref (b + 38), .ref (b + 39)]))) 38 (.inl (F.2.1, 24, .inl (fun _ => 0)))) 39 (.inl (F.2.1, 24, .inl (fun _ => 0)))
set_option maxHeartbeats 8000000 in
set_option maxRecDepth 100000 in
theorem k_Cu_init_37 (l : Launch) (F : cg_F) (b : Nat) (ct : Nat → va_E) (h37 : ct 37 = .inr (6, [.int 0, .null, .null])) : Met l ny_Cu_init (.code ny_Cu_init nc_Cu_init 1 none :: rl_TT) { frames := 1, cells := 2, slots := 48, locals := 12 } (cg_P F b [.ref (b + 37)] ct 38) (cg_Q F b (kf_Cu_init_37 F b ct) 40) 2 48 (fun q => b ≤ q) := by
  refine Met.ofW (cc := nc_Cu_init) (maxL := 1) (ret := none) (by decide) rfl ?_
  intro p e s m args below meth c s₁ B hml hv
  obtain ⟨rfl, hz, hP, hO⟩ := hv
  have hb : b ≤ s.heap.size := by omega
  have Γ : CallFix p m c nc_Cu_init 1 s ([.ref (b + 37)] : List Value).toArray rl_TT nR_Cu := ⟨B.exec, B.bytes, hml, findClass_of_methodNamed B.named, fun w hw => atoms_spec B.pre w (List.mem_cons_of_mem _ hw)⟩
  have hr := B.returns
  have hk := B.notSynchronized
  have hin : meth.name = "<init>" := (name_of_methodNamed B.named B.method).1
  refine cg_start (R := { frames := 1, cells := 2, slots := 48, locals := 12 }) (nL := 1) (av := [.ref (b + 37)]) (ct := ct) (n := 38) (F := F) (b := b) hz hP (Nat.le_of_ble_eq_true rfl) ?_
  refine cg_aload_n (pc := 0) Γ nd_Cu_init_0 0 rfl ?_
  refine cg_obj (pc := 1) Γ nd_Cu_init_1 ng_ob_Cu_3 ng_ob_im ng_ob_cd (Nat.le_of_ble_eq_true rfl) (Nat.le_of_ble_eq_true rfl) ?_
  refine cg_aload_n (pc := 4) Γ nd_Cu_init_4 0 rfl ?_
  refine cg_iconst (v := 0) (pc := 5) Γ nd_Cu_init_5 (by decide) ?_
  refine cg_put (fs := [.int 0, .null, .null]) (v := .int 0) (k := 0) (pc := 6) Γ nd_Cu_init_6 hO hb (Nat.le_of_ble_eq_true rfl) (by exact h37) rfl (by decide) ⟨ni_Cu, nf_Cu_9⟩ nt_Cu nto_Cu nn_Cu rfl (Nat.le_of_ble_eq_true rfl) rfl rfl ?_
  refine cg_aload_n (pc := 9) Γ nd_Cu_init_9 0 rfl ?_
  refine cg_bipush (v := 24) (pc := 10) Γ nd_Cu_init_10 (by decide) ?_
  refine cg_newa (N := 24) (pc := 12) Γ nd_Cu_init_12 hO hb ng_arr_int (by decide) (by decide) (Nat.le_of_ble_eq_true rfl) (Nat.le_of_ble_eq_true rfl) (Nat.le_of_ble_eq_true rfl) ?_
  refine cg_putF (fs := [.int 0, .null, .null]) (v := .ref (b + 38)) (k := 1) (pc := 14) Γ nd_Cu_init_14 hO hb hin (Nat.le_of_ble_eq_true rfl) rfl rfl (by decide) ⟨ni_Cu, nf_Cu_15⟩ nt_Cu nto_Cu nn_Cu rfl rfl (Nat.le_of_ble_eq_true rfl) rfl rfl ?_
  refine cg_aload_n (pc := 17) Γ nd_Cu_init_17 0 rfl ?_
  refine cg_bipush (v := 24) (pc := 18) Γ nd_Cu_init_18 (by decide) ?_
  refine cg_newa (N := 24) (pc := 20) Γ nd_Cu_init_20 hO hb ng_arr_int (by decide) (by decide) (Nat.le_of_ble_eq_true rfl) (Nat.le_of_ble_eq_true rfl) (Nat.le_of_ble_eq_true rfl) ?_
  refine cg_putF (fs := [.int 0, .ref (b + 38), .null]) (v := .ref (b + 39)) (k := 2) (pc := 22) Γ nd_Cu_init_22 hO hb hin (Nat.le_of_ble_eq_true rfl) rfl rfl (by decide) ⟨ni_Cu, nf_Cu_19⟩ nt_Cu nto_Cu nn_Cu rfl rfl (Nat.le_of_ble_eq_true rfl) rfl rfl ?_
  exact cg_vretC (ct' := kf_Cu_init_37 F b ct) (pc := 25) Γ nd_Cu_init_25 hr hk ⟨Nat.le_of_ble_eq_true rfl, Nat.le_of_ble_eq_true rfl⟩ (fun k hk => match k, hk with | 0, _ => rfl | 1, _ => rfl | 2, _ => rfl | 3, _ => rfl | 4, _ => rfl | 5, _ => rfl | 6, _ => rfl | 7, _ => rfl | 8, _ => rfl | 9, _ => rfl | 10, _ => rfl | 11, _ => rfl | 12, _ => rfl | 13, _ => rfl | 14, _ => rfl | 15, _ => rfl | 16, _ => rfl | 17, _ => rfl | 18, _ => rfl | 19, _ => rfl | 20, _ => rfl | 21, _ => rfl | 22, _ => rfl | 23, _ => rfl | 24, _ => rfl | 25, _ => rfl | 26, _ => rfl | 27, _ => rfl | 28, _ => rfl | 29, _ => rfl | 30, _ => rfl | 31, _ => rfl | 32, _ => rfl | 33, _ => rfl | 34, _ => rfl | 35, _ => rfl | 36, _ => rfl | 37, _ => rfl | 38, _ => rfl | 39, _ => rfl | k + 40, hk => absurd hk (by omega))
def kf_Cu_init_40 (F : cg_F) (b : Nat) (ct : Nat → va_E) : Nat → va_E := va_up (va_up (va_up (ct) 40 (.inr (6, [.int 0, .ref (b + 41), .ref (b + 42)]))) 41 (.inl (F.2.1, 24, .inl (fun _ => 0)))) 42 (.inl (F.2.1, 24, .inl (fun _ => 0)))
set_option maxHeartbeats 8000000 in
set_option maxRecDepth 100000 in
theorem k_Cu_init_40 (l : Launch) (F : cg_F) (b : Nat) (ct : Nat → va_E) (h40 : ct 40 = .inr (6, [.int 0, .null, .null])) : Met l ny_Cu_init (.code ny_Cu_init nc_Cu_init 1 none :: rl_TT) { frames := 1, cells := 2, slots := 48, locals := 12 } (cg_P F b [.ref (b + 40)] ct 41) (cg_Q F b (kf_Cu_init_40 F b ct) 43) 2 48 (fun q => b ≤ q) := by
  refine Met.ofW (cc := nc_Cu_init) (maxL := 1) (ret := none) (by decide) rfl ?_
  intro p e s m args below meth c s₁ B hml hv
  obtain ⟨rfl, hz, hP, hO⟩ := hv
  have hb : b ≤ s.heap.size := by omega
  have Γ : CallFix p m c nc_Cu_init 1 s ([.ref (b + 40)] : List Value).toArray rl_TT nR_Cu := ⟨B.exec, B.bytes, hml, findClass_of_methodNamed B.named, fun w hw => atoms_spec B.pre w (List.mem_cons_of_mem _ hw)⟩
  have hr := B.returns
  have hk := B.notSynchronized
  have hin : meth.name = "<init>" := (name_of_methodNamed B.named B.method).1
  refine cg_start (R := { frames := 1, cells := 2, slots := 48, locals := 12 }) (nL := 1) (av := [.ref (b + 40)]) (ct := ct) (n := 41) (F := F) (b := b) hz hP (Nat.le_of_ble_eq_true rfl) ?_
  refine cg_aload_n (pc := 0) Γ nd_Cu_init_0 0 rfl ?_
  refine cg_obj (pc := 1) Γ nd_Cu_init_1 ng_ob_Cu_3 ng_ob_im ng_ob_cd (Nat.le_of_ble_eq_true rfl) (Nat.le_of_ble_eq_true rfl) ?_
  refine cg_aload_n (pc := 4) Γ nd_Cu_init_4 0 rfl ?_
  refine cg_iconst (v := 0) (pc := 5) Γ nd_Cu_init_5 (by decide) ?_
  refine cg_put (fs := [.int 0, .null, .null]) (v := .int 0) (k := 0) (pc := 6) Γ nd_Cu_init_6 hO hb (Nat.le_of_ble_eq_true rfl) (by exact h40) rfl (by decide) ⟨ni_Cu, nf_Cu_9⟩ nt_Cu nto_Cu nn_Cu rfl (Nat.le_of_ble_eq_true rfl) rfl rfl ?_
  refine cg_aload_n (pc := 9) Γ nd_Cu_init_9 0 rfl ?_
  refine cg_bipush (v := 24) (pc := 10) Γ nd_Cu_init_10 (by decide) ?_
  refine cg_newa (N := 24) (pc := 12) Γ nd_Cu_init_12 hO hb ng_arr_int (by decide) (by decide) (Nat.le_of_ble_eq_true rfl) (Nat.le_of_ble_eq_true rfl) (Nat.le_of_ble_eq_true rfl) ?_
  refine cg_putF (fs := [.int 0, .null, .null]) (v := .ref (b + 41)) (k := 1) (pc := 14) Γ nd_Cu_init_14 hO hb hin (Nat.le_of_ble_eq_true rfl) rfl rfl (by decide) ⟨ni_Cu, nf_Cu_15⟩ nt_Cu nto_Cu nn_Cu rfl rfl (Nat.le_of_ble_eq_true rfl) rfl rfl ?_
  refine cg_aload_n (pc := 17) Γ nd_Cu_init_17 0 rfl ?_
  refine cg_bipush (v := 24) (pc := 18) Γ nd_Cu_init_18 (by decide) ?_
  refine cg_newa (N := 24) (pc := 20) Γ nd_Cu_init_20 hO hb ng_arr_int (by decide) (by decide) (Nat.le_of_ble_eq_true rfl) (Nat.le_of_ble_eq_true rfl) (Nat.le_of_ble_eq_true rfl) ?_
  refine cg_putF (fs := [.int 0, .ref (b + 41), .null]) (v := .ref (b + 42)) (k := 2) (pc := 22) Γ nd_Cu_init_22 hO hb hin (Nat.le_of_ble_eq_true rfl) rfl rfl (by decide) ⟨ni_Cu, nf_Cu_19⟩ nt_Cu nto_Cu nn_Cu rfl rfl (Nat.le_of_ble_eq_true rfl) rfl rfl ?_
  exact cg_vretC (ct' := kf_Cu_init_40 F b ct) (pc := 25) Γ nd_Cu_init_25 hr hk ⟨Nat.le_of_ble_eq_true rfl, Nat.le_of_ble_eq_true rfl⟩ (fun k hk => match k, hk with | 0, _ => rfl | 1, _ => rfl | 2, _ => rfl | 3, _ => rfl | 4, _ => rfl | 5, _ => rfl | 6, _ => rfl | 7, _ => rfl | 8, _ => rfl | 9, _ => rfl | 10, _ => rfl | 11, _ => rfl | 12, _ => rfl | 13, _ => rfl | 14, _ => rfl | 15, _ => rfl | 16, _ => rfl | 17, _ => rfl | 18, _ => rfl | 19, _ => rfl | 20, _ => rfl | 21, _ => rfl | 22, _ => rfl | 23, _ => rfl | 24, _ => rfl | 25, _ => rfl | 26, _ => rfl | 27, _ => rfl | 28, _ => rfl | 29, _ => rfl | 30, _ => rfl | 31, _ => rfl | 32, _ => rfl | 33, _ => rfl | 34, _ => rfl | 35, _ => rfl | 36, _ => rfl | 37, _ => rfl | 38, _ => rfl | 39, _ => rfl | 40, _ => rfl | 41, _ => rfl | 42, _ => rfl | k + 43, hk => absurd hk (by omega))
def kf_Cu_init_43 (F : cg_F) (b : Nat) (ct : Nat → va_E) : Nat → va_E := va_up (va_up (va_up (ct) 43 (.inr (6, [.int 0, .ref (b + 44), .ref (b + 45)]))) 44 (.inl (F.2.1, 24, .inl (fun _ => 0)))) 45 (.inl (F.2.1, 24, .inl (fun _ => 0)))
set_option maxHeartbeats 8000000 in
set_option maxRecDepth 100000 in
theorem k_Cu_init_43 (l : Launch) (F : cg_F) (b : Nat) (ct : Nat → va_E) (h43 : ct 43 = .inr (6, [.int 0, .null, .null])) : Met l ny_Cu_init (.code ny_Cu_init nc_Cu_init 1 none :: rl_TT) { frames := 1, cells := 2, slots := 48, locals := 12 } (cg_P F b [.ref (b + 43)] ct 44) (cg_Q F b (kf_Cu_init_43 F b ct) 46) 2 48 (fun q => b ≤ q) := by
  refine Met.ofW (cc := nc_Cu_init) (maxL := 1) (ret := none) (by decide) rfl ?_
  intro p e s m args below meth c s₁ B hml hv
  obtain ⟨rfl, hz, hP, hO⟩ := hv
  have hb : b ≤ s.heap.size := by omega
  have Γ : CallFix p m c nc_Cu_init 1 s ([.ref (b + 43)] : List Value).toArray rl_TT nR_Cu := ⟨B.exec, B.bytes, hml, findClass_of_methodNamed B.named, fun w hw => atoms_spec B.pre w (List.mem_cons_of_mem _ hw)⟩
  have hr := B.returns
  have hk := B.notSynchronized
  have hin : meth.name = "<init>" := (name_of_methodNamed B.named B.method).1
  refine cg_start (R := { frames := 1, cells := 2, slots := 48, locals := 12 }) (nL := 1) (av := [.ref (b + 43)]) (ct := ct) (n := 44) (F := F) (b := b) hz hP (Nat.le_of_ble_eq_true rfl) ?_
  refine cg_aload_n (pc := 0) Γ nd_Cu_init_0 0 rfl ?_
  refine cg_obj (pc := 1) Γ nd_Cu_init_1 ng_ob_Cu_3 ng_ob_im ng_ob_cd (Nat.le_of_ble_eq_true rfl) (Nat.le_of_ble_eq_true rfl) ?_
  refine cg_aload_n (pc := 4) Γ nd_Cu_init_4 0 rfl ?_
  refine cg_iconst (v := 0) (pc := 5) Γ nd_Cu_init_5 (by decide) ?_
  refine cg_put (fs := [.int 0, .null, .null]) (v := .int 0) (k := 0) (pc := 6) Γ nd_Cu_init_6 hO hb (Nat.le_of_ble_eq_true rfl) (by exact h43) rfl (by decide) ⟨ni_Cu, nf_Cu_9⟩ nt_Cu nto_Cu nn_Cu rfl (Nat.le_of_ble_eq_true rfl) rfl rfl ?_
  refine cg_aload_n (pc := 9) Γ nd_Cu_init_9 0 rfl ?_
  refine cg_bipush (v := 24) (pc := 10) Γ nd_Cu_init_10 (by decide) ?_
  refine cg_newa (N := 24) (pc := 12) Γ nd_Cu_init_12 hO hb ng_arr_int (by decide) (by decide) (Nat.le_of_ble_eq_true rfl) (Nat.le_of_ble_eq_true rfl) (Nat.le_of_ble_eq_true rfl) ?_
  refine cg_putF (fs := [.int 0, .null, .null]) (v := .ref (b + 44)) (k := 1) (pc := 14) Γ nd_Cu_init_14 hO hb hin (Nat.le_of_ble_eq_true rfl) rfl rfl (by decide) ⟨ni_Cu, nf_Cu_15⟩ nt_Cu nto_Cu nn_Cu rfl rfl (Nat.le_of_ble_eq_true rfl) rfl rfl ?_
  refine cg_aload_n (pc := 17) Γ nd_Cu_init_17 0 rfl ?_
  refine cg_bipush (v := 24) (pc := 18) Γ nd_Cu_init_18 (by decide) ?_
  refine cg_newa (N := 24) (pc := 20) Γ nd_Cu_init_20 hO hb ng_arr_int (by decide) (by decide) (Nat.le_of_ble_eq_true rfl) (Nat.le_of_ble_eq_true rfl) (Nat.le_of_ble_eq_true rfl) ?_
  refine cg_putF (fs := [.int 0, .ref (b + 44), .null]) (v := .ref (b + 45)) (k := 2) (pc := 22) Γ nd_Cu_init_22 hO hb hin (Nat.le_of_ble_eq_true rfl) rfl rfl (by decide) ⟨ni_Cu, nf_Cu_19⟩ nt_Cu nto_Cu nn_Cu rfl rfl (Nat.le_of_ble_eq_true rfl) rfl rfl ?_
  exact cg_vretC (ct' := kf_Cu_init_43 F b ct) (pc := 25) Γ nd_Cu_init_25 hr hk ⟨Nat.le_of_ble_eq_true rfl, Nat.le_of_ble_eq_true rfl⟩ (fun k hk => match k, hk with | 0, _ => rfl | 1, _ => rfl | 2, _ => rfl | 3, _ => rfl | 4, _ => rfl | 5, _ => rfl | 6, _ => rfl | 7, _ => rfl | 8, _ => rfl | 9, _ => rfl | 10, _ => rfl | 11, _ => rfl | 12, _ => rfl | 13, _ => rfl | 14, _ => rfl | 15, _ => rfl | 16, _ => rfl | 17, _ => rfl | 18, _ => rfl | 19, _ => rfl | 20, _ => rfl | 21, _ => rfl | 22, _ => rfl | 23, _ => rfl | 24, _ => rfl | 25, _ => rfl | 26, _ => rfl | 27, _ => rfl | 28, _ => rfl | 29, _ => rfl | 30, _ => rfl | 31, _ => rfl | 32, _ => rfl | 33, _ => rfl | 34, _ => rfl | 35, _ => rfl | 36, _ => rfl | 37, _ => rfl | 38, _ => rfl | 39, _ => rfl | 40, _ => rfl | 41, _ => rfl | 42, _ => rfl | 43, _ => rfl | 44, _ => rfl | 45, _ => rfl | k + 46, hk => absurd hk (by omega))
def kf_Cu_init_46 (F : cg_F) (b : Nat) (ct : Nat → va_E) : Nat → va_E := va_up (va_up (va_up (ct) 46 (.inr (6, [.int 0, .ref (b + 47), .ref (b + 48)]))) 47 (.inl (F.2.1, 24, .inl (fun _ => 0)))) 48 (.inl (F.2.1, 24, .inl (fun _ => 0)))
set_option maxHeartbeats 8000000 in
set_option maxRecDepth 100000 in
theorem k_Cu_init_46 (l : Launch) (F : cg_F) (b : Nat) (ct : Nat → va_E) (h46 : ct 46 = .inr (6, [.int 0, .null, .null])) : Met l ny_Cu_init (.code ny_Cu_init nc_Cu_init 1 none :: rl_TT) { frames := 1, cells := 2, slots := 48, locals := 12 } (cg_P F b [.ref (b + 46)] ct 47) (cg_Q F b (kf_Cu_init_46 F b ct) 49) 2 48 (fun q => b ≤ q) := by
  refine Met.ofW (cc := nc_Cu_init) (maxL := 1) (ret := none) (by decide) rfl ?_
  intro p e s m args below meth c s₁ B hml hv
  obtain ⟨rfl, hz, hP, hO⟩ := hv
  have hb : b ≤ s.heap.size := by omega
  have Γ : CallFix p m c nc_Cu_init 1 s ([.ref (b + 46)] : List Value).toArray rl_TT nR_Cu := ⟨B.exec, B.bytes, hml, findClass_of_methodNamed B.named, fun w hw => atoms_spec B.pre w (List.mem_cons_of_mem _ hw)⟩
  have hr := B.returns
  have hk := B.notSynchronized
  have hin : meth.name = "<init>" := (name_of_methodNamed B.named B.method).1
  refine cg_start (R := { frames := 1, cells := 2, slots := 48, locals := 12 }) (nL := 1) (av := [.ref (b + 46)]) (ct := ct) (n := 47) (F := F) (b := b) hz hP (Nat.le_of_ble_eq_true rfl) ?_
  refine cg_aload_n (pc := 0) Γ nd_Cu_init_0 0 rfl ?_
  refine cg_obj (pc := 1) Γ nd_Cu_init_1 ng_ob_Cu_3 ng_ob_im ng_ob_cd (Nat.le_of_ble_eq_true rfl) (Nat.le_of_ble_eq_true rfl) ?_
  refine cg_aload_n (pc := 4) Γ nd_Cu_init_4 0 rfl ?_
  refine cg_iconst (v := 0) (pc := 5) Γ nd_Cu_init_5 (by decide) ?_
  refine cg_put (fs := [.int 0, .null, .null]) (v := .int 0) (k := 0) (pc := 6) Γ nd_Cu_init_6 hO hb (Nat.le_of_ble_eq_true rfl) (by exact h46) rfl (by decide) ⟨ni_Cu, nf_Cu_9⟩ nt_Cu nto_Cu nn_Cu rfl (Nat.le_of_ble_eq_true rfl) rfl rfl ?_
  refine cg_aload_n (pc := 9) Γ nd_Cu_init_9 0 rfl ?_
  refine cg_bipush (v := 24) (pc := 10) Γ nd_Cu_init_10 (by decide) ?_
  refine cg_newa (N := 24) (pc := 12) Γ nd_Cu_init_12 hO hb ng_arr_int (by decide) (by decide) (Nat.le_of_ble_eq_true rfl) (Nat.le_of_ble_eq_true rfl) (Nat.le_of_ble_eq_true rfl) ?_
  refine cg_putF (fs := [.int 0, .null, .null]) (v := .ref (b + 47)) (k := 1) (pc := 14) Γ nd_Cu_init_14 hO hb hin (Nat.le_of_ble_eq_true rfl) rfl rfl (by decide) ⟨ni_Cu, nf_Cu_15⟩ nt_Cu nto_Cu nn_Cu rfl rfl (Nat.le_of_ble_eq_true rfl) rfl rfl ?_
  refine cg_aload_n (pc := 17) Γ nd_Cu_init_17 0 rfl ?_
  refine cg_bipush (v := 24) (pc := 18) Γ nd_Cu_init_18 (by decide) ?_
  refine cg_newa (N := 24) (pc := 20) Γ nd_Cu_init_20 hO hb ng_arr_int (by decide) (by decide) (Nat.le_of_ble_eq_true rfl) (Nat.le_of_ble_eq_true rfl) (Nat.le_of_ble_eq_true rfl) ?_
  refine cg_putF (fs := [.int 0, .ref (b + 47), .null]) (v := .ref (b + 48)) (k := 2) (pc := 22) Γ nd_Cu_init_22 hO hb hin (Nat.le_of_ble_eq_true rfl) rfl rfl (by decide) ⟨ni_Cu, nf_Cu_19⟩ nt_Cu nto_Cu nn_Cu rfl rfl (Nat.le_of_ble_eq_true rfl) rfl rfl ?_
  exact cg_vretC (ct' := kf_Cu_init_46 F b ct) (pc := 25) Γ nd_Cu_init_25 hr hk ⟨Nat.le_of_ble_eq_true rfl, Nat.le_of_ble_eq_true rfl⟩ (fun k hk => match k, hk with | 0, _ => rfl | 1, _ => rfl | 2, _ => rfl | 3, _ => rfl | 4, _ => rfl | 5, _ => rfl | 6, _ => rfl | 7, _ => rfl | 8, _ => rfl | 9, _ => rfl | 10, _ => rfl | 11, _ => rfl | 12, _ => rfl | 13, _ => rfl | 14, _ => rfl | 15, _ => rfl | 16, _ => rfl | 17, _ => rfl | 18, _ => rfl | 19, _ => rfl | 20, _ => rfl | 21, _ => rfl | 22, _ => rfl | 23, _ => rfl | 24, _ => rfl | 25, _ => rfl | 26, _ => rfl | 27, _ => rfl | 28, _ => rfl | 29, _ => rfl | 30, _ => rfl | 31, _ => rfl | 32, _ => rfl | 33, _ => rfl | 34, _ => rfl | 35, _ => rfl | 36, _ => rfl | 37, _ => rfl | 38, _ => rfl | 39, _ => rfl | 40, _ => rfl | 41, _ => rfl | 42, _ => rfl | 43, _ => rfl | 44, _ => rfl | 45, _ => rfl | 46, _ => rfl | 47, _ => rfl | 48, _ => rfl | k + 49, hk => absurd hk (by omega))
def kf_Cu_init_49 (F : cg_F) (b : Nat) (ct : Nat → va_E) : Nat → va_E := va_up (va_up (va_up (ct) 49 (.inr (6, [.int 0, .ref (b + 50), .ref (b + 51)]))) 50 (.inl (F.2.1, 24, .inl (fun _ => 0)))) 51 (.inl (F.2.1, 24, .inl (fun _ => 0)))
set_option maxHeartbeats 8000000 in
set_option maxRecDepth 100000 in
theorem k_Cu_init_49 (l : Launch) (F : cg_F) (b : Nat) (ct : Nat → va_E) (h49 : ct 49 = .inr (6, [.int 0, .null, .null])) : Met l ny_Cu_init (.code ny_Cu_init nc_Cu_init 1 none :: rl_TT) { frames := 1, cells := 2, slots := 48, locals := 12 } (cg_P F b [.ref (b + 49)] ct 50) (cg_Q F b (kf_Cu_init_49 F b ct) 52) 2 48 (fun q => b ≤ q) := by
  refine Met.ofW (cc := nc_Cu_init) (maxL := 1) (ret := none) (by decide) rfl ?_
  intro p e s m args below meth c s₁ B hml hv
  obtain ⟨rfl, hz, hP, hO⟩ := hv
  have hb : b ≤ s.heap.size := by omega
  have Γ : CallFix p m c nc_Cu_init 1 s ([.ref (b + 49)] : List Value).toArray rl_TT nR_Cu := ⟨B.exec, B.bytes, hml, findClass_of_methodNamed B.named, fun w hw => atoms_spec B.pre w (List.mem_cons_of_mem _ hw)⟩
  have hr := B.returns
  have hk := B.notSynchronized
  have hin : meth.name = "<init>" := (name_of_methodNamed B.named B.method).1
  refine cg_start (R := { frames := 1, cells := 2, slots := 48, locals := 12 }) (nL := 1) (av := [.ref (b + 49)]) (ct := ct) (n := 50) (F := F) (b := b) hz hP (Nat.le_of_ble_eq_true rfl) ?_
  refine cg_aload_n (pc := 0) Γ nd_Cu_init_0 0 rfl ?_
  refine cg_obj (pc := 1) Γ nd_Cu_init_1 ng_ob_Cu_3 ng_ob_im ng_ob_cd (Nat.le_of_ble_eq_true rfl) (Nat.le_of_ble_eq_true rfl) ?_
  refine cg_aload_n (pc := 4) Γ nd_Cu_init_4 0 rfl ?_
  refine cg_iconst (v := 0) (pc := 5) Γ nd_Cu_init_5 (by decide) ?_
  refine cg_put (fs := [.int 0, .null, .null]) (v := .int 0) (k := 0) (pc := 6) Γ nd_Cu_init_6 hO hb (Nat.le_of_ble_eq_true rfl) (by exact h49) rfl (by decide) ⟨ni_Cu, nf_Cu_9⟩ nt_Cu nto_Cu nn_Cu rfl (Nat.le_of_ble_eq_true rfl) rfl rfl ?_
  refine cg_aload_n (pc := 9) Γ nd_Cu_init_9 0 rfl ?_
  refine cg_bipush (v := 24) (pc := 10) Γ nd_Cu_init_10 (by decide) ?_
  refine cg_newa (N := 24) (pc := 12) Γ nd_Cu_init_12 hO hb ng_arr_int (by decide) (by decide) (Nat.le_of_ble_eq_true rfl) (Nat.le_of_ble_eq_true rfl) (Nat.le_of_ble_eq_true rfl) ?_
  refine cg_putF (fs := [.int 0, .null, .null]) (v := .ref (b + 50)) (k := 1) (pc := 14) Γ nd_Cu_init_14 hO hb hin (Nat.le_of_ble_eq_true rfl) rfl rfl (by decide) ⟨ni_Cu, nf_Cu_15⟩ nt_Cu nto_Cu nn_Cu rfl rfl (Nat.le_of_ble_eq_true rfl) rfl rfl ?_
  refine cg_aload_n (pc := 17) Γ nd_Cu_init_17 0 rfl ?_
  refine cg_bipush (v := 24) (pc := 18) Γ nd_Cu_init_18 (by decide) ?_
  refine cg_newa (N := 24) (pc := 20) Γ nd_Cu_init_20 hO hb ng_arr_int (by decide) (by decide) (Nat.le_of_ble_eq_true rfl) (Nat.le_of_ble_eq_true rfl) (Nat.le_of_ble_eq_true rfl) ?_
  refine cg_putF (fs := [.int 0, .ref (b + 50), .null]) (v := .ref (b + 51)) (k := 2) (pc := 22) Γ nd_Cu_init_22 hO hb hin (Nat.le_of_ble_eq_true rfl) rfl rfl (by decide) ⟨ni_Cu, nf_Cu_19⟩ nt_Cu nto_Cu nn_Cu rfl rfl (Nat.le_of_ble_eq_true rfl) rfl rfl ?_
  exact cg_vretC (ct' := kf_Cu_init_49 F b ct) (pc := 25) Γ nd_Cu_init_25 hr hk ⟨Nat.le_of_ble_eq_true rfl, Nat.le_of_ble_eq_true rfl⟩ (fun k hk => match k, hk with | 0, _ => rfl | 1, _ => rfl | 2, _ => rfl | 3, _ => rfl | 4, _ => rfl | 5, _ => rfl | 6, _ => rfl | 7, _ => rfl | 8, _ => rfl | 9, _ => rfl | 10, _ => rfl | 11, _ => rfl | 12, _ => rfl | 13, _ => rfl | 14, _ => rfl | 15, _ => rfl | 16, _ => rfl | 17, _ => rfl | 18, _ => rfl | 19, _ => rfl | 20, _ => rfl | 21, _ => rfl | 22, _ => rfl | 23, _ => rfl | 24, _ => rfl | 25, _ => rfl | 26, _ => rfl | 27, _ => rfl | 28, _ => rfl | 29, _ => rfl | 30, _ => rfl | 31, _ => rfl | 32, _ => rfl | 33, _ => rfl | 34, _ => rfl | 35, _ => rfl | 36, _ => rfl | 37, _ => rfl | 38, _ => rfl | 39, _ => rfl | 40, _ => rfl | 41, _ => rfl | 42, _ => rfl | 43, _ => rfl | 44, _ => rfl | 45, _ => rfl | 46, _ => rfl | 47, _ => rfl | 48, _ => rfl | 49, _ => rfl | 50, _ => rfl | 51, _ => rfl | k + 52, hk => absurd hk (by omega))
def kf_Cu_init_52 (F : cg_F) (b : Nat) (ct : Nat → va_E) : Nat → va_E := va_up (va_up (va_up (ct) 52 (.inr (6, [.int 0, .ref (b + 53), .ref (b + 54)]))) 53 (.inl (F.2.1, 24, .inl (fun _ => 0)))) 54 (.inl (F.2.1, 24, .inl (fun _ => 0)))
set_option maxHeartbeats 8000000 in
set_option maxRecDepth 100000 in
theorem k_Cu_init_52 (l : Launch) (F : cg_F) (b : Nat) (ct : Nat → va_E) (h52 : ct 52 = .inr (6, [.int 0, .null, .null])) : Met l ny_Cu_init (.code ny_Cu_init nc_Cu_init 1 none :: rl_TT) { frames := 1, cells := 2, slots := 48, locals := 12 } (cg_P F b [.ref (b + 52)] ct 53) (cg_Q F b (kf_Cu_init_52 F b ct) 55) 2 48 (fun q => b ≤ q) := by
  refine Met.ofW (cc := nc_Cu_init) (maxL := 1) (ret := none) (by decide) rfl ?_
  intro p e s m args below meth c s₁ B hml hv
  obtain ⟨rfl, hz, hP, hO⟩ := hv
  have hb : b ≤ s.heap.size := by omega
  have Γ : CallFix p m c nc_Cu_init 1 s ([.ref (b + 52)] : List Value).toArray rl_TT nR_Cu := ⟨B.exec, B.bytes, hml, findClass_of_methodNamed B.named, fun w hw => atoms_spec B.pre w (List.mem_cons_of_mem _ hw)⟩
  have hr := B.returns
  have hk := B.notSynchronized
  have hin : meth.name = "<init>" := (name_of_methodNamed B.named B.method).1
  refine cg_start (R := { frames := 1, cells := 2, slots := 48, locals := 12 }) (nL := 1) (av := [.ref (b + 52)]) (ct := ct) (n := 53) (F := F) (b := b) hz hP (Nat.le_of_ble_eq_true rfl) ?_
  refine cg_aload_n (pc := 0) Γ nd_Cu_init_0 0 rfl ?_
  refine cg_obj (pc := 1) Γ nd_Cu_init_1 ng_ob_Cu_3 ng_ob_im ng_ob_cd (Nat.le_of_ble_eq_true rfl) (Nat.le_of_ble_eq_true rfl) ?_
  refine cg_aload_n (pc := 4) Γ nd_Cu_init_4 0 rfl ?_
  refine cg_iconst (v := 0) (pc := 5) Γ nd_Cu_init_5 (by decide) ?_
  refine cg_put (fs := [.int 0, .null, .null]) (v := .int 0) (k := 0) (pc := 6) Γ nd_Cu_init_6 hO hb (Nat.le_of_ble_eq_true rfl) (by exact h52) rfl (by decide) ⟨ni_Cu, nf_Cu_9⟩ nt_Cu nto_Cu nn_Cu rfl (Nat.le_of_ble_eq_true rfl) rfl rfl ?_
  refine cg_aload_n (pc := 9) Γ nd_Cu_init_9 0 rfl ?_
  refine cg_bipush (v := 24) (pc := 10) Γ nd_Cu_init_10 (by decide) ?_
  refine cg_newa (N := 24) (pc := 12) Γ nd_Cu_init_12 hO hb ng_arr_int (by decide) (by decide) (Nat.le_of_ble_eq_true rfl) (Nat.le_of_ble_eq_true rfl) (Nat.le_of_ble_eq_true rfl) ?_
  refine cg_putF (fs := [.int 0, .null, .null]) (v := .ref (b + 53)) (k := 1) (pc := 14) Γ nd_Cu_init_14 hO hb hin (Nat.le_of_ble_eq_true rfl) rfl rfl (by decide) ⟨ni_Cu, nf_Cu_15⟩ nt_Cu nto_Cu nn_Cu rfl rfl (Nat.le_of_ble_eq_true rfl) rfl rfl ?_
  refine cg_aload_n (pc := 17) Γ nd_Cu_init_17 0 rfl ?_
  refine cg_bipush (v := 24) (pc := 18) Γ nd_Cu_init_18 (by decide) ?_
  refine cg_newa (N := 24) (pc := 20) Γ nd_Cu_init_20 hO hb ng_arr_int (by decide) (by decide) (Nat.le_of_ble_eq_true rfl) (Nat.le_of_ble_eq_true rfl) (Nat.le_of_ble_eq_true rfl) ?_
  refine cg_putF (fs := [.int 0, .ref (b + 53), .null]) (v := .ref (b + 54)) (k := 2) (pc := 22) Γ nd_Cu_init_22 hO hb hin (Nat.le_of_ble_eq_true rfl) rfl rfl (by decide) ⟨ni_Cu, nf_Cu_19⟩ nt_Cu nto_Cu nn_Cu rfl rfl (Nat.le_of_ble_eq_true rfl) rfl rfl ?_
  exact cg_vretC (ct' := kf_Cu_init_52 F b ct) (pc := 25) Γ nd_Cu_init_25 hr hk ⟨Nat.le_of_ble_eq_true rfl, Nat.le_of_ble_eq_true rfl⟩ (fun k hk => match k, hk with | 0, _ => rfl | 1, _ => rfl | 2, _ => rfl | 3, _ => rfl | 4, _ => rfl | 5, _ => rfl | 6, _ => rfl | 7, _ => rfl | 8, _ => rfl | 9, _ => rfl | 10, _ => rfl | 11, _ => rfl | 12, _ => rfl | 13, _ => rfl | 14, _ => rfl | 15, _ => rfl | 16, _ => rfl | 17, _ => rfl | 18, _ => rfl | 19, _ => rfl | 20, _ => rfl | 21, _ => rfl | 22, _ => rfl | 23, _ => rfl | 24, _ => rfl | 25, _ => rfl | 26, _ => rfl | 27, _ => rfl | 28, _ => rfl | 29, _ => rfl | 30, _ => rfl | 31, _ => rfl | 32, _ => rfl | 33, _ => rfl | 34, _ => rfl | 35, _ => rfl | 36, _ => rfl | 37, _ => rfl | 38, _ => rfl | 39, _ => rfl | 40, _ => rfl | 41, _ => rfl | 42, _ => rfl | 43, _ => rfl | 44, _ => rfl | 45, _ => rfl | 46, _ => rfl | 47, _ => rfl | 48, _ => rfl | 49, _ => rfl | 50, _ => rfl | 51, _ => rfl | 52, _ => rfl | 53, _ => rfl | 54, _ => rfl | k + 55, hk => absurd hk (by omega))
