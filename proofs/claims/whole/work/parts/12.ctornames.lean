theorem ng_ob_Ro_3 : Cond.methodLink nR_Ro 3 objectInit ∈ rl_TT := rl_tin 54 (by decide +kernel) rfl
theorem ng_ob_im : Cond.instanceMethod objectInit ∈ rl_TT := rl_tin 55 (by decide +kernel) rfl
theorem ng_ob_cd : Cond.code objectInit ⟨#[0xb1]⟩ 1 none ∈ rl_TT := rl_tin 56 (by decide +kernel) rfl
theorem ng_Ro_9 : Cond.classLink nR_Ro 9 nR_Sr ∈ rl_TT := rl_tin 57 (by decide +kernel) rfl
theorem ng_in_Sr : Cond.instantiable nR_Sr 2 ∈ rl_TT := rl_tin 58 (by decide +kernel) rfl
theorem ng_ob_Sr_3 : Cond.methodLink nR_Sr 3 objectInit ∈ rl_TT := rl_tin 62 (by decide +kernel) rfl
theorem ng_arr_int : Cond.arrayClass .int ∈ rl_TT := rl_tin 71 (by decide +kernel) rfl
theorem nh_Sr_init : Cond.code ny_Sr_init nc_Sr_init 1 none ∈ rl_TT := rl_tin 61 (by decide +kernel) rfl
theorem nm_im_Sr_init : Cond.instanceMethod ny_Sr_init ∈ rl_TT := rl_tin 60 (by decide +kernel) rfl
theorem ng_Ro_16 : Cond.classLink nR_Ro 16 nR_Pl ∈ rl_TT := rl_tin 72 (by decide +kernel) rfl
theorem ng_in_Pl : Cond.instantiable nR_Pl 12 ∈ rl_TT := rl_tin 73 (by decide +kernel) rfl
theorem ng_ob_Pl_3 : Cond.methodLink nR_Pl 3 objectInit ∈ rl_TT := rl_tin 77 (by decide +kernel) rfl
theorem ng_Pl_9 : Cond.classLink nR_Pl 9 nR_Rl ∈ rl_TT := rl_tin 78 (by decide +kernel) rfl
theorem ng_in_Rl : Cond.instantiable nR_Rl 4 ∈ rl_TT := rl_tin 79 (by decide +kernel) rfl
theorem ng_ob_Rl_3 : Cond.methodLink nR_Rl 3 objectInit ∈ rl_TT := rl_tin 83 (by decide +kernel) rfl
theorem nh_Rl_init : Cond.code ny_Rl_init nc_Rl_init 1 none ∈ rl_TT := rl_tin 82 (by decide +kernel) rfl
theorem nm_im_Rl_init : Cond.instanceMethod ny_Rl_init ∈ rl_TT := rl_tin 81 (by decide +kernel) rfl
theorem ng_Pl_18 : Cond.classLink nR_Pl 18 nR_St ∈ rl_TT := rl_tin 99 (by decide +kernel) rfl
theorem ng_in_St : Cond.instantiable nR_St 7 ∈ rl_TT := rl_tin 100 (by decide +kernel) rfl
theorem ng_ob_St_3 : Cond.methodLink nR_St 3 objectInit ∈ rl_TT := rl_tin 104 (by decide +kernel) rfl
theorem nm_Pl_20 : Cond.methodLink nR_Pl 20 ny_St_init ∈ rl_TT := rl_tin 101 (by decide +kernel) rfl
theorem nh_St_init : Cond.code ny_St_init nc_St_init 1 none ∈ rl_TT := rl_tin 103 (by decide +kernel) rfl
theorem nm_im_St_init : Cond.instanceMethod ny_St_init ∈ rl_TT := rl_tin 102 (by decide +kernel) rfl
theorem ng_Pl_39 : Cond.classLink nR_Pl 39 "RoomLayouts$Curve" ∈ rl_TT := rl_tin 132 (by decide +kernel) rfl
theorem ng_in_Cu : Cond.instantiable nR_Cu 3 ∈ rl_TT := rl_tin 134 (by decide +kernel) rfl
theorem ng_ob_Cu_3 : Cond.methodLink nR_Cu 3 objectInit ∈ rl_TT := rl_tin 138 (by decide +kernel) rfl
theorem nh_Cu_init : Cond.code ny_Cu_init nc_Cu_init 1 none ∈ rl_TT := rl_tin 137 (by decide +kernel) rfl
theorem nm_im_Cu_init : Cond.instanceMethod ny_Cu_init ∈ rl_TT := rl_tin 136 (by decide +kernel) rfl
theorem nm_Ro_18 : Cond.methodLink nR_Ro 18 ny_Pl_init ∈ rl_TT := rl_tin 74 (by decide +kernel) rfl
theorem nh_Pl_init : Cond.code ny_Pl_init nc_Pl_init 2 none ∈ rl_TT := rl_tin 76 (by decide +kernel) rfl
theorem nm_im_Pl_init : Cond.instanceMethod ny_Pl_init ∈ rl_TT := rl_tin 75 (by decide +kernel) rfl
theorem ng_Ro_23 : Cond.classLink nR_Ro 23 nR_Wl ∈ rl_TT := rl_tin 189 (by decide +kernel) rfl
theorem ng_in_Wl : Cond.instantiable nR_Wl 4 ∈ rl_TT := rl_tin 190 (by decide +kernel) rfl
theorem ng_ob_Wl_3 : Cond.methodLink nR_Wl 3 objectInit ∈ rl_TT := rl_tin 194 (by decide +kernel) rfl
theorem nh_Wl_init : Cond.code ny_Wl_init nc_Wl_init 1 none ∈ rl_TT := rl_tin 193 (by decide +kernel) rfl
theorem nm_im_Wl_init : Cond.instanceMethod ny_Wl_init ∈ rl_TT := rl_tin 192 (by decide +kernel) rfl
theorem ng_ob_Mo_1 : Cond.methodLink nR_Mo 1 objectInit ∈ rl_TT := rl_tin 686 (by decide +kernel) rfl
theorem nd_Sr_init_0 : decode nc_Sr_init 0 = .ok (.aload_n 0, 1) := by decide +kernel
theorem nd_Sr_init_1 : decode nc_Sr_init 1 = .ok (.invokespecial 3, 3) := by decide +kernel
theorem nd_Sr_init_4 : decode nc_Sr_init 4 = .ok (.aload_n 0, 1) := by decide +kernel
theorem nd_Sr_init_5 : decode nc_Sr_init 5 = .ok (.iconst 0, 1) := by decide +kernel
theorem nd_Sr_init_6 : decode nc_Sr_init 6 = .ok (.putfield 9, 3) := by decide +kernel
theorem nd_Sr_init_9 : decode nc_Sr_init 9 = .ok (.aload_n 0, 1) := by decide +kernel
theorem nd_Sr_init_10 : decode nc_Sr_init 10 = .ok (.bipush 16, 2) := by decide +kernel
theorem nd_Sr_init_12 : decode nc_Sr_init 12 = .ok (.newarray .int, 2) := by decide +kernel
theorem nd_Sr_init_14 : decode nc_Sr_init 14 = .ok (.putfield 15, 3) := by decide +kernel
theorem nd_Sr_init_17 : decode nc_Sr_init 17 = .ok (.return_, 1) := by decide +kernel
theorem nd_Rl_init_0 : decode nc_Rl_init 0 = .ok (.aload_n 0, 1) := by decide +kernel
theorem nd_Rl_init_1 : decode nc_Rl_init 1 = .ok (.invokespecial 3, 3) := by decide +kernel
theorem nd_Rl_init_4 : decode nc_Rl_init 4 = .ok (.aload_n 0, 1) := by decide +kernel
theorem nd_Rl_init_5 : decode nc_Rl_init 5 = .ok (.iconst 0, 1) := by decide +kernel
theorem nd_Rl_init_6 : decode nc_Rl_init 6 = .ok (.putfield 9, 3) := by decide +kernel
theorem nd_Rl_init_9 : decode nc_Rl_init 9 = .ok (.aload_n 0, 1) := by decide +kernel
theorem nd_Rl_init_10 : decode nc_Rl_init 10 = .ok (.bipush 6, 2) := by decide +kernel
theorem nd_Rl_init_12 : decode nc_Rl_init 12 = .ok (.newarray .int, 2) := by decide +kernel
theorem nd_Rl_init_14 : decode nc_Rl_init 14 = .ok (.putfield 15, 3) := by decide +kernel
theorem nd_Rl_init_17 : decode nc_Rl_init 17 = .ok (.aload_n 0, 1) := by decide +kernel
theorem nd_Rl_init_18 : decode nc_Rl_init 18 = .ok (.bipush 24, 2) := by decide +kernel
theorem nd_Rl_init_20 : decode nc_Rl_init 20 = .ok (.newarray .int, 2) := by decide +kernel
theorem nd_Rl_init_22 : decode nc_Rl_init 22 = .ok (.putfield 19, 3) := by decide +kernel
theorem nd_Rl_init_25 : decode nc_Rl_init 25 = .ok (.aload_n 0, 1) := by decide +kernel
theorem nd_Rl_init_26 : decode nc_Rl_init 26 = .ok (.bipush 24, 2) := by decide +kernel
theorem nd_Rl_init_28 : decode nc_Rl_init 28 = .ok (.newarray .int, 2) := by decide +kernel
theorem nd_Rl_init_30 : decode nc_Rl_init 30 = .ok (.putfield 22, 3) := by decide +kernel
theorem nd_Rl_init_33 : decode nc_Rl_init 33 = .ok (.return_, 1) := by decide +kernel
theorem nd_St_init_0 : decode nc_St_init 0 = .ok (.aload_n 0, 1) := by decide +kernel
theorem nd_St_init_1 : decode nc_St_init 1 = .ok (.invokespecial 3, 3) := by decide +kernel
theorem nd_St_init_4 : decode nc_St_init 4 = .ok (.aload_n 0, 1) := by decide +kernel
theorem nd_St_init_5 : decode nc_St_init 5 = .ok (.iconst 0, 1) := by decide +kernel
theorem nd_St_init_6 : decode nc_St_init 6 = .ok (.putfield 9, 3) := by decide +kernel
theorem nd_St_init_9 : decode nc_St_init 9 = .ok (.aload_n 0, 1) := by decide +kernel
theorem nd_St_init_10 : decode nc_St_init 10 = .ok (.bipush 11, 2) := by decide +kernel
theorem nd_St_init_12 : decode nc_St_init 12 = .ok (.newarray .int, 2) := by decide +kernel
theorem nd_St_init_14 : decode nc_St_init 14 = .ok (.putfield 15, 3) := by decide +kernel
theorem nd_St_init_17 : decode nc_St_init 17 = .ok (.aload_n 0, 1) := by decide +kernel
theorem nd_St_init_18 : decode nc_St_init 18 = .ok (.bipush 11, 2) := by decide +kernel
theorem nd_St_init_20 : decode nc_St_init 20 = .ok (.newarray .int, 2) := by decide +kernel
theorem nd_St_init_22 : decode nc_St_init 22 = .ok (.putfield 19, 3) := by decide +kernel
theorem nd_St_init_25 : decode nc_St_init 25 = .ok (.aload_n 0, 1) := by decide +kernel
theorem nd_St_init_26 : decode nc_St_init 26 = .ok (.bipush 11, 2) := by decide +kernel
theorem nd_St_init_28 : decode nc_St_init 28 = .ok (.newarray .int, 2) := by decide +kernel
theorem nd_St_init_30 : decode nc_St_init 30 = .ok (.putfield 22, 3) := by decide +kernel
theorem nd_St_init_33 : decode nc_St_init 33 = .ok (.aload_n 0, 1) := by decide +kernel
theorem nd_St_init_34 : decode nc_St_init 34 = .ok (.bipush 11, 2) := by decide +kernel
theorem nd_St_init_36 : decode nc_St_init 36 = .ok (.newarray .int, 2) := by decide +kernel
theorem nd_St_init_38 : decode nc_St_init 38 = .ok (.putfield 25, 3) := by decide +kernel
theorem nd_St_init_41 : decode nc_St_init 41 = .ok (.aload_n 0, 1) := by decide +kernel
theorem nd_St_init_42 : decode nc_St_init 42 = .ok (.bipush 11, 2) := by decide +kernel
theorem nd_St_init_44 : decode nc_St_init 44 = .ok (.newarray .int, 2) := by decide +kernel
theorem nd_St_init_46 : decode nc_St_init 46 = .ok (.putfield 28, 3) := by decide +kernel
theorem nd_St_init_49 : decode nc_St_init 49 = .ok (.aload_n 0, 1) := by decide +kernel
theorem nd_St_init_50 : decode nc_St_init 50 = .ok (.bipush 6, 2) := by decide +kernel
theorem nd_St_init_52 : decode nc_St_init 52 = .ok (.newarray .int, 2) := by decide +kernel
theorem nd_St_init_54 : decode nc_St_init 54 = .ok (.putfield 31, 3) := by decide +kernel
theorem nd_St_init_57 : decode nc_St_init 57 = .ok (.aload_n 0, 1) := by decide +kernel
theorem nd_St_init_58 : decode nc_St_init 58 = .ok (.invokevirtual 34, 3) := by decide +kernel
theorem nd_St_init_61 : decode nc_St_init 61 = .ok (.return_, 1) := by decide +kernel
theorem nd_Cu_init_0 : decode nc_Cu_init 0 = .ok (.aload_n 0, 1) := by decide +kernel
theorem nd_Cu_init_1 : decode nc_Cu_init 1 = .ok (.invokespecial 3, 3) := by decide +kernel
theorem nd_Cu_init_4 : decode nc_Cu_init 4 = .ok (.aload_n 0, 1) := by decide +kernel
theorem nd_Cu_init_5 : decode nc_Cu_init 5 = .ok (.iconst 0, 1) := by decide +kernel
theorem nd_Cu_init_6 : decode nc_Cu_init 6 = .ok (.putfield 9, 3) := by decide +kernel
theorem nd_Cu_init_9 : decode nc_Cu_init 9 = .ok (.aload_n 0, 1) := by decide +kernel
theorem nd_Cu_init_10 : decode nc_Cu_init 10 = .ok (.bipush 24, 2) := by decide +kernel
theorem nd_Cu_init_12 : decode nc_Cu_init 12 = .ok (.newarray .int, 2) := by decide +kernel
theorem nd_Cu_init_14 : decode nc_Cu_init 14 = .ok (.putfield 15, 3) := by decide +kernel
theorem nd_Cu_init_17 : decode nc_Cu_init 17 = .ok (.aload_n 0, 1) := by decide +kernel
theorem nd_Cu_init_18 : decode nc_Cu_init 18 = .ok (.bipush 24, 2) := by decide +kernel
theorem nd_Cu_init_20 : decode nc_Cu_init 20 = .ok (.newarray .int, 2) := by decide +kernel
theorem nd_Cu_init_22 : decode nc_Cu_init 22 = .ok (.putfield 19, 3) := by decide +kernel
theorem nd_Cu_init_25 : decode nc_Cu_init 25 = .ok (.return_, 1) := by decide +kernel
theorem nd_Pl_init_0 : decode nc_Pl_init 0 = .ok (.aload_n 0, 1) := by decide +kernel
theorem nd_Pl_init_1 : decode nc_Pl_init 1 = .ok (.invokespecial 3, 3) := by decide +kernel
theorem nd_Pl_init_4 : decode nc_Pl_init 4 = .ok (.aload_n 0, 1) := by decide +kernel
theorem nd_Pl_init_5 : decode nc_Pl_init 5 = .ok (.new 9, 3) := by decide +kernel
theorem nd_Pl_init_8 : decode nc_Pl_init 8 = .ok (.dup, 1) := by decide +kernel
theorem nd_Pl_init_9 : decode nc_Pl_init 9 = .ok (.invokespecial 11, 3) := by decide +kernel
theorem nd_Pl_init_12 : decode nc_Pl_init 12 = .ok (.putfield 12, 3) := by decide +kernel
theorem nd_Pl_init_15 : decode nc_Pl_init 15 = .ok (.aload_n 0, 1) := by decide +kernel
theorem nd_Pl_init_16 : decode nc_Pl_init 16 = .ok (.new 18, 3) := by decide +kernel
theorem nd_Pl_init_19 : decode nc_Pl_init 19 = .ok (.dup, 1) := by decide +kernel
theorem nd_Pl_init_20 : decode nc_Pl_init 20 = .ok (.invokespecial 20, 3) := by decide +kernel
theorem nd_Pl_init_23 : decode nc_Pl_init 23 = .ok (.putfield 21, 3) := by decide +kernel
theorem nd_Pl_init_26 : decode nc_Pl_init 26 = .ok (.aload_n 0, 1) := by decide +kernel
theorem nd_Pl_init_27 : decode nc_Pl_init 27 = .ok (.sipush 400, 3) := by decide +kernel
theorem nd_Pl_init_30 : decode nc_Pl_init 30 = .ok (.putfield 25, 3) := by decide +kernel
theorem nd_Pl_init_33 : decode nc_Pl_init 33 = .ok (.aload_n 0, 1) := by decide +kernel
theorem nd_Pl_init_34 : decode nc_Pl_init 34 = .ok (.sipush 400, 3) := by decide +kernel
theorem nd_Pl_init_37 : decode nc_Pl_init 37 = .ok (.putfield 29, 3) := by decide +kernel
theorem nd_Pl_init_40 : decode nc_Pl_init 40 = .ok (.aload_n 0, 1) := by decide +kernel
theorem nd_Pl_init_41 : decode nc_Pl_init 41 = .ok (.iconst 0, 1) := by decide +kernel
theorem nd_Pl_init_42 : decode nc_Pl_init 42 = .ok (.putfield 32, 3) := by decide +kernel
theorem nd_Pl_init_45 : decode nc_Pl_init 45 = .ok (.aload_n 0, 1) := by decide +kernel
theorem nd_Pl_init_46 : decode nc_Pl_init 46 = .ok (.iconst 0, 1) := by decide +kernel
theorem nd_Pl_init_47 : decode nc_Pl_init 47 = .ok (.putfield 36, 3) := by decide +kernel
theorem nd_Pl_init_50 : decode nc_Pl_init 50 = .ok (.aload_n 0, 1) := by decide +kernel
theorem nd_Pl_init_51 : decode nc_Pl_init 51 = .ok (.bipush 11, 2) := by decide +kernel
theorem nd_Pl_init_53 : decode nc_Pl_init 53 = .ok (.anewarray 39, 3) := by decide +kernel
theorem nd_Pl_init_56 : decode nc_Pl_init 56 = .ok (.putfield 41, 3) := by decide +kernel
theorem nd_Pl_init_59 : decode nc_Pl_init 59 = .ok (.aload_n 0, 1) := by decide +kernel
theorem nd_Pl_init_60 : decode nc_Pl_init 60 = .ok (.new 39, 3) := by decide +kernel
theorem nd_Pl_init_63 : decode nc_Pl_init 63 = .ok (.dup, 1) := by decide +kernel
theorem nd_Pl_init_64 : decode nc_Pl_init 64 = .ok (.invokespecial 45, 3) := by decide +kernel
theorem nd_Pl_init_67 : decode nc_Pl_init 67 = .ok (.putfield 46, 3) := by decide +kernel
theorem nd_Pl_init_70 : decode nc_Pl_init 70 = .ok (.aload_n 0, 1) := by decide +kernel
theorem nd_Pl_init_71 : decode nc_Pl_init 71 = .ok (.iconst (-1), 1) := by decide +kernel
theorem nd_Pl_init_72 : decode nc_Pl_init 72 = .ok (.putfield 50, 3) := by decide +kernel
theorem nd_Pl_init_75 : decode nc_Pl_init 75 = .ok (.aload_n 0, 1) := by decide +kernel
theorem nd_Pl_init_76 : decode nc_Pl_init 76 = .ok (.bipush 11, 2) := by decide +kernel
theorem nd_Pl_init_78 : decode nc_Pl_init 78 = .ok (.newarray .int, 2) := by decide +kernel
theorem nd_Pl_init_80 : decode nc_Pl_init 80 = .ok (.putfield 53, 3) := by decide +kernel
theorem nd_Pl_init_83 : decode nc_Pl_init 83 = .ok (.aload_n 0, 1) := by decide +kernel
theorem nd_Pl_init_84 : decode nc_Pl_init 84 = .ok (.bipush 11, 2) := by decide +kernel
theorem nd_Pl_init_86 : decode nc_Pl_init 86 = .ok (.newarray .int, 2) := by decide +kernel
theorem nd_Pl_init_88 : decode nc_Pl_init 88 = .ok (.putfield 57, 3) := by decide +kernel
theorem nd_Pl_init_91 : decode nc_Pl_init 91 = .ok (.aload_n 0, 1) := by decide +kernel
theorem nd_Pl_init_92 : decode nc_Pl_init 92 = .ok (.bipush 11, 2) := by decide +kernel
theorem nd_Pl_init_94 : decode nc_Pl_init 94 = .ok (.newarray .int, 2) := by decide +kernel
theorem nd_Pl_init_96 : decode nc_Pl_init 96 = .ok (.putfield 60, 3) := by decide +kernel
theorem nd_Pl_init_99 : decode nc_Pl_init 99 = .ok (.iconst 0, 1) := by decide +kernel
theorem nd_Pl_init_100 : decode nc_Pl_init 100 = .ok (.istore_n 1, 1) := by decide +kernel
theorem nd_Pl_init_101 : decode nc_Pl_init 101 = .ok (.iload_n 1, 1) := by decide +kernel
theorem nd_Pl_init_102 : decode nc_Pl_init 102 = .ok (.bipush 11, 2) := by decide +kernel
theorem nd_Pl_init_104 : decode nc_Pl_init 104 = .ok (.if_icmp .ge 22, 3) := by decide +kernel
theorem nd_Pl_init_107 : decode nc_Pl_init 107 = .ok (.aload_n 0, 1) := by decide +kernel
theorem nd_Pl_init_108 : decode nc_Pl_init 108 = .ok (.getfield 41, 3) := by decide +kernel
theorem nd_Pl_init_111 : decode nc_Pl_init 111 = .ok (.iload_n 1, 1) := by decide +kernel
theorem nd_Pl_init_112 : decode nc_Pl_init 112 = .ok (.new 39, 3) := by decide +kernel
theorem nd_Pl_init_115 : decode nc_Pl_init 115 = .ok (.dup, 1) := by decide +kernel
theorem nd_Pl_init_116 : decode nc_Pl_init 116 = .ok (.invokespecial 45, 3) := by decide +kernel
theorem nd_Pl_init_119 : decode nc_Pl_init 119 = .ok (.aastore, 1) := by decide +kernel
theorem nd_Pl_init_120 : decode nc_Pl_init 120 = .ok (.iinc 1 1, 3) := by decide +kernel
theorem nd_Pl_init_123 : decode nc_Pl_init 123 = .ok (.goto (-22), 3) := by decide +kernel
theorem nd_Pl_init_126 : decode nc_Pl_init 126 = .ok (.return_, 1) := by decide +kernel
theorem nd_Wl_init_0 : decode nc_Wl_init 0 = .ok (.aload_n 0, 1) := by decide +kernel
theorem nd_Wl_init_1 : decode nc_Wl_init 1 = .ok (.invokespecial 3, 3) := by decide +kernel
theorem nd_Wl_init_4 : decode nc_Wl_init 4 = .ok (.aload_n 0, 1) := by decide +kernel
theorem nd_Wl_init_5 : decode nc_Wl_init 5 = .ok (.iconst 0, 1) := by decide +kernel
theorem nd_Wl_init_6 : decode nc_Wl_init 6 = .ok (.putfield 9, 3) := by decide +kernel
theorem nd_Wl_init_9 : decode nc_Wl_init 9 = .ok (.aload_n 0, 1) := by decide +kernel
theorem nd_Wl_init_10 : decode nc_Wl_init 10 = .ok (.bipush 10, 2) := by decide +kernel
theorem nd_Wl_init_12 : decode nc_Wl_init 12 = .ok (.newarray .int, 2) := by decide +kernel
theorem nd_Wl_init_14 : decode nc_Wl_init 14 = .ok (.putfield 15, 3) := by decide +kernel
theorem nd_Wl_init_17 : decode nc_Wl_init 17 = .ok (.aload_n 0, 1) := by decide +kernel
theorem nd_Wl_init_18 : decode nc_Wl_init 18 = .ok (.bipush 10, 2) := by decide +kernel
theorem nd_Wl_init_20 : decode nc_Wl_init 20 = .ok (.newarray .int, 2) := by decide +kernel
theorem nd_Wl_init_22 : decode nc_Wl_init 22 = .ok (.putfield 19, 3) := by decide +kernel
theorem nd_Wl_init_25 : decode nc_Wl_init 25 = .ok (.aload_n 0, 1) := by decide +kernel
theorem nd_Wl_init_26 : decode nc_Wl_init 26 = .ok (.bipush 10, 2) := by decide +kernel
theorem nd_Wl_init_28 : decode nc_Wl_init 28 = .ok (.newarray .int, 2) := by decide +kernel
theorem nd_Wl_init_30 : decode nc_Wl_init 30 = .ok (.putfield 22, 3) := by decide +kernel
theorem nd_Wl_init_33 : decode nc_Wl_init 33 = .ok (.return_, 1) := by decide +kernel
theorem nd_Ro_init_0 : decode nc_Ro_init 0 = .ok (.aload_n 0, 1) := by decide +kernel
theorem nd_Ro_init_1 : decode nc_Ro_init 1 = .ok (.invokespecial 3, 3) := by decide +kernel
theorem nd_Ro_init_4 : decode nc_Ro_init 4 = .ok (.aload_n 0, 1) := by decide +kernel
theorem nd_Ro_init_5 : decode nc_Ro_init 5 = .ok (.new 9, 3) := by decide +kernel
theorem nd_Ro_init_8 : decode nc_Ro_init 8 = .ok (.dup, 1) := by decide +kernel
theorem nd_Ro_init_9 : decode nc_Ro_init 9 = .ok (.invokespecial 11, 3) := by decide +kernel
theorem nd_Ro_init_12 : decode nc_Ro_init 12 = .ok (.putfield 12, 3) := by decide +kernel
theorem nd_Ro_init_15 : decode nc_Ro_init 15 = .ok (.aload_n 0, 1) := by decide +kernel
theorem nd_Ro_init_16 : decode nc_Ro_init 16 = .ok (.new 16, 3) := by decide +kernel
theorem nd_Ro_init_19 : decode nc_Ro_init 19 = .ok (.dup, 1) := by decide +kernel
theorem nd_Ro_init_20 : decode nc_Ro_init 20 = .ok (.invokespecial 18, 3) := by decide +kernel
theorem nd_Ro_init_23 : decode nc_Ro_init 23 = .ok (.putfield 19, 3) := by decide +kernel
theorem nd_Ro_init_26 : decode nc_Ro_init 26 = .ok (.aload_n 0, 1) := by decide +kernel
theorem nd_Ro_init_27 : decode nc_Ro_init 27 = .ok (.new 23, 3) := by decide +kernel
theorem nd_Ro_init_30 : decode nc_Ro_init 30 = .ok (.dup, 1) := by decide +kernel
theorem nd_Ro_init_31 : decode nc_Ro_init 31 = .ok (.invokespecial 25, 3) := by decide +kernel
theorem nd_Ro_init_34 : decode nc_Ro_init 34 = .ok (.putfield 26, 3) := by decide +kernel
theorem nd_Ro_init_37 : decode nc_Ro_init 37 = .ok (.return_, 1) := by decide +kernel
theorem nd_Mo_init_0 : decode nc_Mo_init 0 = .ok (.aload_n 0, 1) := by decide +kernel
theorem nd_Mo_init_1 : decode nc_Mo_init 1 = .ok (.invokespecial 1, 3) := by decide +kernel
theorem nd_Mo_init_4 : decode nc_Mo_init 4 = .ok (.aload_n 0, 1) := by decide +kernel
theorem nd_Mo_init_5 : decode nc_Mo_init 5 = .ok (.bipush 6, 2) := by decide +kernel
theorem nd_Mo_init_7 : decode nc_Mo_init 7 = .ok (.newarray .int, 2) := by decide +kernel
theorem nd_Mo_init_9 : decode nc_Mo_init 9 = .ok (.putfield 7, 3) := by decide +kernel
theorem nd_Mo_init_12 : decode nc_Mo_init 12 = .ok (.aload_n 0, 1) := by decide +kernel
theorem nd_Mo_init_13 : decode nc_Mo_init 13 = .ok (.bipush 24, 2) := by decide +kernel
theorem nd_Mo_init_15 : decode nc_Mo_init 15 = .ok (.newarray .int, 2) := by decide +kernel
theorem nd_Mo_init_17 : decode nc_Mo_init 17 = .ok (.putfield 13, 3) := by decide +kernel
theorem nd_Mo_init_20 : decode nc_Mo_init 20 = .ok (.aload_n 0, 1) := by decide +kernel
theorem nd_Mo_init_21 : decode nc_Mo_init 21 = .ok (.bipush 24, 2) := by decide +kernel
theorem nd_Mo_init_23 : decode nc_Mo_init 23 = .ok (.newarray .int, 2) := by decide +kernel
theorem nd_Mo_init_25 : decode nc_Mo_init 25 = .ok (.putfield 16, 3) := by decide +kernel
theorem nd_Mo_init_28 : decode nc_Mo_init 28 = .ok (.aload_n 0, 1) := by decide +kernel
theorem nd_Mo_init_29 : decode nc_Mo_init 29 = .ok (.sipush 400, 3) := by decide +kernel
theorem nd_Mo_init_32 : decode nc_Mo_init 32 = .ok (.putfield 19, 3) := by decide +kernel
theorem nd_Mo_init_35 : decode nc_Mo_init 35 = .ok (.aload_n 0, 1) := by decide +kernel
theorem nd_Mo_init_36 : decode nc_Mo_init 36 = .ok (.sipush 400, 3) := by decide +kernel
theorem nd_Mo_init_39 : decode nc_Mo_init 39 = .ok (.putfield 23, 3) := by decide +kernel
theorem nd_Mo_init_42 : decode nc_Mo_init 42 = .ok (.aload_n 0, 1) := by decide +kernel
theorem nd_Mo_init_43 : decode nc_Mo_init 43 = .ok (.bipush 16, 2) := by decide +kernel
theorem nd_Mo_init_45 : decode nc_Mo_init 45 = .ok (.newarray .int, 2) := by decide +kernel
theorem nd_Mo_init_47 : decode nc_Mo_init 47 = .ok (.putfield 26, 3) := by decide +kernel
theorem nd_Mo_init_50 : decode nc_Mo_init 50 = .ok (.aload_n 0, 1) := by decide +kernel
theorem nd_Mo_init_51 : decode nc_Mo_init 51 = .ok (.bipush 10, 2) := by decide +kernel
theorem nd_Mo_init_53 : decode nc_Mo_init 53 = .ok (.newarray .int, 2) := by decide +kernel
theorem nd_Mo_init_55 : decode nc_Mo_init 55 = .ok (.putfield 29, 3) := by decide +kernel
theorem nd_Mo_init_58 : decode nc_Mo_init 58 = .ok (.aload_n 0, 1) := by decide +kernel
theorem nd_Mo_init_59 : decode nc_Mo_init 59 = .ok (.bipush 10, 2) := by decide +kernel
theorem nd_Mo_init_61 : decode nc_Mo_init 61 = .ok (.newarray .int, 2) := by decide +kernel
theorem nd_Mo_init_63 : decode nc_Mo_init 63 = .ok (.putfield 32, 3) := by decide +kernel
theorem nd_Mo_init_66 : decode nc_Mo_init 66 = .ok (.aload_n 0, 1) := by decide +kernel
theorem nd_Mo_init_67 : decode nc_Mo_init 67 = .ok (.bipush 10, 2) := by decide +kernel
theorem nd_Mo_init_69 : decode nc_Mo_init 69 = .ok (.newarray .int, 2) := by decide +kernel
theorem nd_Mo_init_71 : decode nc_Mo_init 71 = .ok (.putfield 35, 3) := by decide +kernel
theorem nd_Mo_init_74 : decode nc_Mo_init 74 = .ok (.aload_n 0, 1) := by decide +kernel
theorem nd_Mo_init_75 : decode nc_Mo_init 75 = .ok (.bipush 6, 2) := by decide +kernel
theorem nd_Mo_init_77 : decode nc_Mo_init 77 = .ok (.newarray .int, 2) := by decide +kernel
theorem nd_Mo_init_79 : decode nc_Mo_init 79 = .ok (.putfield 38, 3) := by decide +kernel
theorem nd_Mo_init_82 : decode nc_Mo_init 82 = .ok (.aload_n 0, 1) := by decide +kernel
theorem nd_Mo_init_83 : decode nc_Mo_init 83 = .ok (.bipush 6, 2) := by decide +kernel
theorem nd_Mo_init_85 : decode nc_Mo_init 85 = .ok (.newarray .int, 2) := by decide +kernel
theorem nd_Mo_init_87 : decode nc_Mo_init 87 = .ok (.putfield 41, 3) := by decide +kernel
theorem nd_Mo_init_90 : decode nc_Mo_init 90 = .ok (.aload_n 0, 1) := by decide +kernel
theorem nd_Mo_init_91 : decode nc_Mo_init 91 = .ok (.bipush 16, 2) := by decide +kernel
theorem nd_Mo_init_93 : decode nc_Mo_init 93 = .ok (.newarray .int, 2) := by decide +kernel
theorem nd_Mo_init_95 : decode nc_Mo_init 95 = .ok (.putfield 44, 3) := by decide +kernel
theorem nd_Mo_init_98 : decode nc_Mo_init 98 = .ok (.aload_n 0, 1) := by decide +kernel
theorem nd_Mo_init_99 : decode nc_Mo_init 99 = .ok (.bipush 16, 2) := by decide +kernel
theorem nd_Mo_init_101 : decode nc_Mo_init 101 = .ok (.newarray .int, 2) := by decide +kernel
theorem nd_Mo_init_103 : decode nc_Mo_init 103 = .ok (.putfield 47, 3) := by decide +kernel
theorem nd_Mo_init_106 : decode nc_Mo_init 106 = .ok (.aload_n 0, 1) := by decide +kernel
theorem nd_Mo_init_107 : decode nc_Mo_init 107 = .ok (.bipush 16, 2) := by decide +kernel
theorem nd_Mo_init_109 : decode nc_Mo_init 109 = .ok (.newarray .int, 2) := by decide +kernel
theorem nd_Mo_init_111 : decode nc_Mo_init 111 = .ok (.putfield 50, 3) := by decide +kernel
theorem nd_Mo_init_114 : decode nc_Mo_init 114 = .ok (.aload_n 0, 1) := by decide +kernel
theorem nd_Mo_init_115 : decode nc_Mo_init 115 = .ok (.bipush 16, 2) := by decide +kernel
theorem nd_Mo_init_117 : decode nc_Mo_init 117 = .ok (.newarray .int, 2) := by decide +kernel
theorem nd_Mo_init_119 : decode nc_Mo_init 119 = .ok (.putfield 53, 3) := by decide +kernel
theorem nd_Mo_init_122 : decode nc_Mo_init 122 = .ok (.aload_n 0, 1) := by decide +kernel
theorem nd_Mo_init_123 : decode nc_Mo_init 123 = .ok (.bipush 16, 2) := by decide +kernel
theorem nd_Mo_init_125 : decode nc_Mo_init 125 = .ok (.newarray .int, 2) := by decide +kernel
theorem nd_Mo_init_127 : decode nc_Mo_init 127 = .ok (.putfield 56, 3) := by decide +kernel
theorem nd_Mo_init_130 : decode nc_Mo_init 130 = .ok (.aload_n 0, 1) := by decide +kernel
theorem nd_Mo_init_131 : decode nc_Mo_init 131 = .ok (.bipush 16, 2) := by decide +kernel
theorem nd_Mo_init_133 : decode nc_Mo_init 133 = .ok (.newarray .int, 2) := by decide +kernel
theorem nd_Mo_init_135 : decode nc_Mo_init 135 = .ok (.putfield 59, 3) := by decide +kernel
theorem nd_Mo_init_138 : decode nc_Mo_init 138 = .ok (.aload_n 0, 1) := by decide +kernel
theorem nd_Mo_init_139 : decode nc_Mo_init 139 = .ok (.bipush 16, 2) := by decide +kernel
theorem nd_Mo_init_141 : decode nc_Mo_init 141 = .ok (.newarray .int, 2) := by decide +kernel
theorem nd_Mo_init_143 : decode nc_Mo_init 143 = .ok (.putfield 62, 3) := by decide +kernel
theorem nd_Mo_init_146 : decode nc_Mo_init 146 = .ok (.aload_n 0, 1) := by decide +kernel
theorem nd_Mo_init_147 : decode nc_Mo_init 147 = .ok (.sipush 401, 3) := by decide +kernel
theorem nd_Mo_init_150 : decode nc_Mo_init 150 = .ok (.newarray .int, 2) := by decide +kernel
theorem nd_Mo_init_152 : decode nc_Mo_init 152 = .ok (.putfield 65, 3) := by decide +kernel
theorem nd_Mo_init_155 : decode nc_Mo_init 155 = .ok (.aload_n 0, 1) := by decide +kernel
theorem nd_Mo_init_156 : decode nc_Mo_init 156 = .ok (.bipush 16, 2) := by decide +kernel
theorem nd_Mo_init_158 : decode nc_Mo_init 158 = .ok (.newarray .int, 2) := by decide +kernel
theorem nd_Mo_init_160 : decode nc_Mo_init 160 = .ok (.putfield 68, 3) := by decide +kernel
theorem nd_Mo_init_163 : decode nc_Mo_init 163 = .ok (.return_, 1) := by decide +kernel
theorem cg_vretC {p : Program} {l : Launch} {e : Env} {R : Room} {s : State} {m : MethodId} {args : Array Value} {below : List Frame} {meth : Method} {c : Code} {cells slots : Nat} {cc : ByteArray} {nL : Nat} {own : String} {F : cg_F} {b n : Nat} {ct ct' : Nat → va_E} {pc : Nat} {L : List (Nat × Value)} {mc ms : Nat} (Γ : CallFix p m c cc nL s args rl_TT own) (d : decode cc pc = .ok (.return_, 1)) (hr : meth.sig.returnType = none) (hk : meth.locks = false) (hc : cells ≤ mc ∧ slots ≤ ms) (hct : ∀ k, k < n → ct k = ct' k) : cg_G p l e R s m args below meth c nL F b cells slots (MQ below (cg_Q F b ct' n) args s mc ms (fun q => b ≤ q)) ct n pc L [] := by
  have hw : cg_w b ct' n = cg_w b ct n := by
    unfold cg_w
    apply List.map_congr_left
    intro k hk
    rw [hct k (List.mem_range.mp hk)]
  have h := cg_vret (p := p) (l := l) (e := e) (R := R) (below := below) (F := F) (b := b) (ct := ct) (n := n) (L := L) (mc := mc) (ms := ms) Γ d hr hk hc
  have hQ : (cg_Q F b ct' n) = cg_Q F b ct n := by unfold cg_Q; rw [hw]
  rw [hQ]
  exact h
