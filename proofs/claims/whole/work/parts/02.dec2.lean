theorem nd_St_build_5 : decode nc_St_build 5 = .ok (.bipush 11, 2) := by decide +kernel
theorem nd_St_build_7 : decode nc_St_build 7 = .ok (.invokestatic 40, 3) := by decide +kernel
theorem nd_St_build_10 : decode nc_St_build 10 = .ok (.putfield 9, 3) := by decide +kernel
theorem nd_St_build_13 : decode nc_St_build 13 = .ok (.aload_n 0, 1) := by decide +kernel
theorem nd_St_build_14 : decode nc_St_build 14 = .ok (.invokevirtual 34, 3) := by decide +kernel
theorem nd_St_build_17 : decode nc_St_build 17 = .ok (.iconst 0, 1) := by decide +kernel
theorem nd_St_build_18 : decode nc_St_build 18 = .ok (.istore_n 2, 1) := by decide +kernel
theorem nd_St_build_19 : decode nc_St_build 19 = .ok (.iconst 0, 1) := by decide +kernel
theorem nd_St_build_20 : decode nc_St_build 20 = .ok (.istore_n 3, 1) := by decide +kernel
theorem nd_St_build_21 : decode nc_St_build 21 = .ok (.iload_n 3, 1) := by decide +kernel
theorem nd_St_build_22 : decode nc_St_build 22 = .ok (.aload_n 0, 1) := by decide +kernel
theorem nd_St_build_23 : decode nc_St_build 23 = .ok (.getfield 9, 3) := by decide +kernel
theorem nd_St_build_26 : decode nc_St_build 26 = .ok (.if_icmp .ge 77, 3) := by decide +kernel
theorem nd_St_build_29 : decode nc_St_build 29 = .ok (.aload_n 0, 1) := by decide +kernel
theorem nd_St_build_30 : decode nc_St_build 30 = .ok (.iload_n 3, 1) := by decide +kernel
theorem nd_St_build_31 : decode nc_St_build 31 = .ok (.aload_n 1, 1) := by decide +kernel
theorem nd_St_build_32 : decode nc_St_build 32 = .ok (.iload_n 3, 1) := by decide +kernel
theorem nd_St_build_33 : decode nc_St_build 33 = .ok (.invokevirtual 46, 3) := by decide +kernel
theorem nd_St_build_36 : decode nc_St_build 36 = .ok (.invokevirtual 50, 3) := by decide +kernel
theorem nd_St_build_39 : decode nc_St_build 39 = .ok (.aload_n 0, 1) := by decide +kernel
theorem nd_St_build_40 : decode nc_St_build 40 = .ok (.getfield 25, 3) := by decide +kernel
theorem nd_St_build_43 : decode nc_St_build 43 = .ok (.iload_n 3, 1) := by decide +kernel
theorem nd_St_build_44 : decode nc_St_build 44 = .ok (.iconst (-1), 1) := by decide +kernel
theorem nd_St_build_45 : decode nc_St_build 45 = .ok (.iastore, 1) := by decide +kernel
theorem nd_St_build_46 : decode nc_St_build 46 = .ok (.aload_n 0, 1) := by decide +kernel
theorem nd_St_build_47 : decode nc_St_build 47 = .ok (.getfield 15, 3) := by decide +kernel
theorem nd_St_build_50 : decode nc_St_build 50 = .ok (.iload_n 3, 1) := by decide +kernel
theorem nd_St_build_51 : decode nc_St_build 51 = .ok (.iaload, 1) := by decide +kernel
theorem nd_St_build_52 : decode nc_St_build 52 = .ok (.invokestatic 54, 3) := by decide +kernel
theorem nd_St_build_55 : decode nc_St_build 55 = .ok (.ifCond .eq 32, 3) := by decide +kernel
theorem nd_St_build_58 : decode nc_St_build 58 = .ok (.iload_n 2, 1) := by decide +kernel
theorem nd_St_build_59 : decode nc_St_build 59 = .ok (.iconst 2, 1) := by decide +kernel
theorem nd_St_build_60 : decode nc_St_build 60 = .ok (.if_icmp .lt 27, 3) := by decide +kernel
theorem nd_St_build_63 : decode nc_St_build 63 = .ok (.aload_n 0, 1) := by decide +kernel
theorem nd_St_build_64 : decode nc_St_build 64 = .ok (.iload_n 3, 1) := by decide +kernel
theorem nd_St_build_65 : decode nc_St_build 65 = .ok (.aload_n 0, 1) := by decide +kernel
theorem nd_St_build_66 : decode nc_St_build 66 = .ok (.getfield 28, 3) := by decide +kernel
theorem nd_St_build_69 : decode nc_St_build 69 = .ok (.iload_n 2, 1) := by decide +kernel
theorem nd_St_build_70 : decode nc_St_build 70 = .ok (.iconst 2, 1) := by decide +kernel
theorem nd_St_build_71 : decode nc_St_build 71 = .ok (.isub, 1) := by decide +kernel
theorem nd_St_build_72 : decode nc_St_build 72 = .ok (.iaload, 1) := by decide +kernel
theorem nd_St_build_73 : decode nc_St_build 73 = .ok (.aload_n 0, 1) := by decide +kernel
theorem nd_St_build_74 : decode nc_St_build 74 = .ok (.getfield 28, 3) := by decide +kernel
theorem nd_St_build_77 : decode nc_St_build 77 = .ok (.iload_n 2, 1) := by decide +kernel
theorem nd_St_build_78 : decode nc_St_build 78 = .ok (.iconst 1, 1) := by decide +kernel
theorem nd_St_build_79 : decode nc_St_build 79 = .ok (.isub, 1) := by decide +kernel
theorem nd_St_build_80 : decode nc_St_build 80 = .ok (.iaload, 1) := by decide +kernel
theorem nd_St_build_81 : decode nc_St_build 81 = .ok (.invokevirtual 58, 3) := by decide +kernel
theorem nd_St_build_84 : decode nc_St_build 84 = .ok (.iinc 2 (-2), 3) := by decide +kernel
theorem nd_St_build_87 : decode nc_St_build 87 = .ok (.aload_n 0, 1) := by decide +kernel
theorem nd_St_build_88 : decode nc_St_build 88 = .ok (.getfield 28, 3) := by decide +kernel
theorem nd_St_build_91 : decode nc_St_build 91 = .ok (.iload_n 2, 1) := by decide +kernel
theorem nd_St_build_92 : decode nc_St_build 92 = .ok (.iload_n 3, 1) := by decide +kernel
theorem nd_St_build_93 : decode nc_St_build 93 = .ok (.iastore, 1) := by decide +kernel
theorem nd_St_build_94 : decode nc_St_build 94 = .ok (.iinc 2 1, 3) := by decide +kernel
theorem nd_St_build_97 : decode nc_St_build 97 = .ok (.iinc 3 1, 3) := by decide +kernel
theorem nd_St_build_100 : decode nc_St_build 100 = .ok (.goto (-79), 3) := by decide +kernel
theorem nd_St_build_103 : decode nc_St_build 103 = .ok (.return_, 1) := by decide +kernel
theorem nd_St_giveNode_0 : decode nc_St_giveNode 0 = .ok (.iload_n 1, 1) := by decide +kernel
theorem nd_St_giveNode_1 : decode nc_St_giveNode 1 = .ok (.ifCond .lt 9, 3) := by decide +kernel
theorem nd_St_giveNode_4 : decode nc_St_giveNode 4 = .ok (.iload_n 1, 1) := by decide +kernel
theorem nd_St_giveNode_5 : decode nc_St_giveNode 5 = .ok (.bipush 6, 2) := by decide +kernel
theorem nd_St_giveNode_7 : decode nc_St_giveNode 7 = .ok (.if_icmp .lt 4, 3) := by decide +kernel
theorem nd_St_giveNode_10 : decode nc_St_giveNode 10 = .ok (.return_, 1) := by decide +kernel
theorem nd_St_giveNode_11 : decode nc_St_giveNode 11 = .ok (.aload_n 0, 1) := by decide +kernel
theorem nd_St_giveNode_12 : decode nc_St_giveNode 12 = .ok (.getfield 31, 3) := by decide +kernel
theorem nd_St_giveNode_15 : decode nc_St_giveNode 15 = .ok (.iload_n 1, 1) := by decide +kernel
theorem nd_St_giveNode_16 : decode nc_St_giveNode 16 = .ok (.iload_n 2, 1) := by decide +kernel
theorem nd_St_giveNode_17 : decode nc_St_giveNode 17 = .ok (.iastore, 1) := by decide +kernel
theorem nd_St_giveNode_18 : decode nc_St_giveNode 18 = .ok (.aload_n 0, 1) := by decide +kernel
theorem nd_St_giveNode_19 : decode nc_St_giveNode 19 = .ok (.iload_n 2, 1) := by decide +kernel
theorem nd_St_giveNode_20 : decode nc_St_giveNode 20 = .ok (.invokevirtual 65, 3) := by decide +kernel
theorem nd_St_giveNode_23 : decode nc_St_giveNode 23 = .ok (.ifCond .eq 13, 3) := by decide +kernel
theorem nd_St_giveNode_26 : decode nc_St_giveNode 26 = .ok (.aload_n 0, 1) := by decide +kernel
theorem nd_St_giveNode_27 : decode nc_St_giveNode 27 = .ok (.getfield 15, 3) := by decide +kernel
theorem nd_St_giveNode_30 : decode nc_St_giveNode 30 = .ok (.iload_n 2, 1) := by decide +kernel
theorem nd_St_giveNode_31 : decode nc_St_giveNode 31 = .ok (.bipush 48, 2) := by decide +kernel
theorem nd_St_giveNode_33 : decode nc_St_giveNode 33 = .ok (.iload_n 1, 1) := by decide +kernel
theorem nd_St_giveNode_34 : decode nc_St_giveNode 34 = .ok (.iadd, 1) := by decide +kernel
theorem nd_St_giveNode_35 : decode nc_St_giveNode 35 = .ok (.iastore, 1) := by decide +kernel
theorem nd_St_giveNode_36 : decode nc_St_giveNode 36 = .ok (.return_, 1) := by decide +kernel
theorem nd_St_exchange_0 : decode nc_St_exchange 0 = .ok (.aload_n 0, 1) := by decide +kernel
theorem nd_St_exchange_1 : decode nc_St_exchange 1 = .ok (.iload_n 1, 1) := by decide +kernel
theorem nd_St_exchange_2 : decode nc_St_exchange 2 = .ok (.invokevirtual 69, 3) := by decide +kernel
theorem nd_St_exchange_5 : decode nc_St_exchange 5 = .ok (.istore_n 3, 1) := by decide +kernel
theorem nd_St_exchange_6 : decode nc_St_exchange 6 = .ok (.aload_n 0, 1) := by decide +kernel
theorem nd_St_exchange_7 : decode nc_St_exchange 7 = .ok (.iload_n 2, 1) := by decide +kernel
theorem nd_St_exchange_8 : decode nc_St_exchange 8 = .ok (.invokevirtual 69, 3) := by decide +kernel
theorem nd_St_exchange_11 : decode nc_St_exchange 11 = .ok (.istore 4, 2) := by decide +kernel
theorem nd_St_exchange_13 : decode nc_St_exchange 13 = .ok (.aload_n 0, 1) := by decide +kernel
theorem nd_St_exchange_14 : decode nc_St_exchange 14 = .ok (.iload_n 1, 1) := by decide +kernel
theorem nd_St_exchange_15 : decode nc_St_exchange 15 = .ok (.iload 4, 2) := by decide +kernel
theorem nd_St_exchange_17 : decode nc_St_exchange 17 = .ok (.invokevirtual 72, 3) := by decide +kernel
theorem nd_St_exchange_20 : decode nc_St_exchange 20 = .ok (.aload_n 0, 1) := by decide +kernel
theorem nd_St_exchange_21 : decode nc_St_exchange 21 = .ok (.iload_n 2, 1) := by decide +kernel
theorem nd_St_exchange_22 : decode nc_St_exchange 22 = .ok (.iload_n 3, 1) := by decide +kernel
theorem nd_St_exchange_23 : decode nc_St_exchange 23 = .ok (.invokevirtual 72, 3) := by decide +kernel
theorem nd_St_exchange_26 : decode nc_St_exchange 26 = .ok (.return_, 1) := by decide +kernel
theorem nd_Wl_add_0 : decode nc_Wl_add 0 = .ok (.aload_n 0, 1) := by decide +kernel
theorem nd_Wl_add_1 : decode nc_Wl_add 1 = .ok (.getfield 9, 3) := by decide +kernel
theorem nd_Wl_add_4 : decode nc_Wl_add 4 = .ok (.bipush 10, 2) := by decide +kernel
theorem nd_Wl_add_6 : decode nc_Wl_add 6 = .ok (.if_icmp .lt 5, 3) := by decide +kernel
theorem nd_Wl_add_9 : decode nc_Wl_add 9 = .ok (.iconst (-1), 1) := by decide +kernel
theorem nd_Wl_add_10 : decode nc_Wl_add 10 = .ok (.ireturn, 1) := by decide +kernel
theorem nd_Wl_add_11 : decode nc_Wl_add 11 = .ok (.aload_n 0, 1) := by decide +kernel
theorem nd_Wl_add_12 : decode nc_Wl_add 12 = .ok (.getfield 15, 3) := by decide +kernel
theorem nd_Wl_add_15 : decode nc_Wl_add 15 = .ok (.aload_n 0, 1) := by decide +kernel
theorem nd_Wl_add_16 : decode nc_Wl_add 16 = .ok (.getfield 9, 3) := by decide +kernel
theorem nd_Wl_add_19 : decode nc_Wl_add 19 = .ok (.iload_n 1, 1) := by decide +kernel
theorem nd_Wl_add_20 : decode nc_Wl_add 20 = .ok (.iastore, 1) := by decide +kernel
theorem nd_Wl_add_21 : decode nc_Wl_add 21 = .ok (.aload_n 0, 1) := by decide +kernel
theorem nd_Wl_add_22 : decode nc_Wl_add 22 = .ok (.getfield 19, 3) := by decide +kernel
theorem nd_Wl_add_25 : decode nc_Wl_add 25 = .ok (.aload_n 0, 1) := by decide +kernel
theorem nd_Wl_add_26 : decode nc_Wl_add 26 = .ok (.getfield 9, 3) := by decide +kernel
theorem nd_Wl_add_29 : decode nc_Wl_add 29 = .ok (.iload_n 2, 1) := by decide +kernel
theorem nd_Wl_add_30 : decode nc_Wl_add 30 = .ok (.iastore, 1) := by decide +kernel
theorem nd_Wl_add_31 : decode nc_Wl_add 31 = .ok (.aload_n 0, 1) := by decide +kernel
theorem nd_Wl_add_32 : decode nc_Wl_add 32 = .ok (.getfield 22, 3) := by decide +kernel
theorem nd_Wl_add_35 : decode nc_Wl_add 35 = .ok (.aload_n 0, 1) := by decide +kernel
theorem nd_Wl_add_36 : decode nc_Wl_add 36 = .ok (.getfield 9, 3) := by decide +kernel
theorem nd_Wl_add_39 : decode nc_Wl_add 39 = .ok (.iload_n 3, 1) := by decide +kernel
theorem nd_Wl_add_40 : decode nc_Wl_add 40 = .ok (.iastore, 1) := by decide +kernel
theorem nd_Wl_add_41 : decode nc_Wl_add 41 = .ok (.aload_n 0, 1) := by decide +kernel
theorem nd_Wl_add_42 : decode nc_Wl_add 42 = .ok (.dup, 1) := by decide +kernel
theorem nd_Wl_add_43 : decode nc_Wl_add 43 = .ok (.getfield 9, 3) := by decide +kernel
theorem nd_Wl_add_46 : decode nc_Wl_add 46 = .ok (.dup_x1, 1) := by decide +kernel
theorem nd_Wl_add_47 : decode nc_Wl_add 47 = .ok (.iconst 1, 1) := by decide +kernel
theorem nd_Wl_add_48 : decode nc_Wl_add 48 = .ok (.iadd, 1) := by decide +kernel
theorem nd_Wl_add_49 : decode nc_Wl_add 49 = .ok (.putfield 9, 3) := by decide +kernel
theorem nd_Wl_add_52 : decode nc_Wl_add 52 = .ok (.ireturn, 1) := by decide +kernel
theorem nd_Wl_isMetIn_0 : decode nc_Wl_isMetIn 0 = .ok (.iload_n 2, 1) := by decide +kernel
theorem nd_Wl_isMetIn_1 : decode nc_Wl_isMetIn 1 = .ok (.ifCond .lt 40, 3) := by decide +kernel
theorem nd_Wl_isMetIn_4 : decode nc_Wl_isMetIn 4 = .ok (.iload_n 2, 1) := by decide +kernel
theorem nd_Wl_isMetIn_5 : decode nc_Wl_isMetIn 5 = .ok (.aload_n 0, 1) := by decide +kernel
theorem nd_Wl_isMetIn_6 : decode nc_Wl_isMetIn 6 = .ok (.getfield 9, 3) := by decide +kernel
theorem nd_Wl_isMetIn_9 : decode nc_Wl_isMetIn 9 = .ok (.if_icmp .ge 32, 3) := by decide +kernel
theorem nd_Wl_isMetIn_12 : decode nc_Wl_isMetIn 12 = .ok (.aload_n 1, 1) := by decide +kernel
theorem nd_Wl_isMetIn_13 : decode nc_Wl_isMetIn 13 = .ok (.aload_n 0, 1) := by decide +kernel
theorem nd_Wl_isMetIn_14 : decode nc_Wl_isMetIn 14 = .ok (.getfield 15, 3) := by decide +kernel
theorem nd_Wl_isMetIn_17 : decode nc_Wl_isMetIn 17 = .ok (.iload_n 2, 1) := by decide +kernel
theorem nd_Wl_isMetIn_18 : decode nc_Wl_isMetIn 18 = .ok (.iaload, 1) := by decide +kernel
theorem nd_Wl_isMetIn_19 : decode nc_Wl_isMetIn 19 = .ok (.aload_n 0, 1) := by decide +kernel
theorem nd_Wl_isMetIn_20 : decode nc_Wl_isMetIn 20 = .ok (.getfield 19, 3) := by decide +kernel
theorem nd_Wl_isMetIn_23 : decode nc_Wl_isMetIn 23 = .ok (.iload_n 2, 1) := by decide +kernel
theorem nd_Wl_isMetIn_24 : decode nc_Wl_isMetIn 24 = .ok (.iaload, 1) := by decide +kernel
theorem nd_Wl_isMetIn_25 : decode nc_Wl_isMetIn 25 = .ok (.invokevirtual 25, 3) := by decide +kernel
theorem nd_Wl_isMetIn_28 : decode nc_Wl_isMetIn 28 = .ok (.aload_n 0, 1) := by decide +kernel
theorem nd_Wl_isMetIn_29 : decode nc_Wl_isMetIn 29 = .ok (.getfield 22, 3) := by decide +kernel
theorem nd_Wl_isMetIn_32 : decode nc_Wl_isMetIn 32 = .ok (.iload_n 2, 1) := by decide +kernel
theorem nd_Wl_isMetIn_33 : decode nc_Wl_isMetIn 33 = .ok (.iaload, 1) := by decide +kernel
theorem nd_Wl_isMetIn_34 : decode nc_Wl_isMetIn 34 = .ok (.if_icmp .lt 7, 3) := by decide +kernel
theorem nd_Wl_isMetIn_37 : decode nc_Wl_isMetIn 37 = .ok (.iconst 1, 1) := by decide +kernel
theorem nd_Wl_isMetIn_38 : decode nc_Wl_isMetIn 38 = .ok (.goto 4, 3) := by decide +kernel
theorem nd_Wl_isMetIn_41 : decode nc_Wl_isMetIn 41 = .ok (.iconst 0, 1) := by decide +kernel
theorem nd_Wl_isMetIn_42 : decode nc_Wl_isMetIn 42 = .ok (.ireturn, 1) := by decide +kernel
theorem nd_Wl_countMetIn_0 : decode nc_Wl_countMetIn 0 = .ok (.iconst 0, 1) := by decide +kernel
theorem nd_Wl_countMetIn_1 : decode nc_Wl_countMetIn 1 = .ok (.istore_n 2, 1) := by decide +kernel
theorem nd_Wl_countMetIn_2 : decode nc_Wl_countMetIn 2 = .ok (.iconst 0, 1) := by decide +kernel
theorem nd_Wl_countMetIn_3 : decode nc_Wl_countMetIn 3 = .ok (.istore_n 3, 1) := by decide +kernel
theorem nd_Wl_countMetIn_4 : decode nc_Wl_countMetIn 4 = .ok (.iload_n 3, 1) := by decide +kernel
theorem nd_Wl_countMetIn_5 : decode nc_Wl_countMetIn 5 = .ok (.aload_n 0, 1) := by decide +kernel
theorem nd_Wl_countMetIn_6 : decode nc_Wl_countMetIn 6 = .ok (.getfield 9, 3) := by decide +kernel
theorem nd_Wl_countMetIn_9 : decode nc_Wl_countMetIn 9 = .ok (.if_icmp .ge 21, 3) := by decide +kernel
theorem nd_Wl_countMetIn_12 : decode nc_Wl_countMetIn 12 = .ok (.aload_n 0, 1) := by decide +kernel
theorem nd_Wl_countMetIn_13 : decode nc_Wl_countMetIn 13 = .ok (.aload_n 1, 1) := by decide +kernel
theorem nd_Wl_countMetIn_14 : decode nc_Wl_countMetIn 14 = .ok (.iload_n 3, 1) := by decide +kernel
theorem nd_Wl_countMetIn_15 : decode nc_Wl_countMetIn 15 = .ok (.invokevirtual 31, 3) := by decide +kernel
theorem nd_Wl_countMetIn_18 : decode nc_Wl_countMetIn 18 = .ok (.ifCond .eq 6, 3) := by decide +kernel
theorem nd_Wl_countMetIn_21 : decode nc_Wl_countMetIn 21 = .ok (.iinc 2 1, 3) := by decide +kernel
theorem nd_Wl_countMetIn_24 : decode nc_Wl_countMetIn 24 = .ok (.iinc 3 1, 3) := by decide +kernel
theorem nd_Wl_countMetIn_27 : decode nc_Wl_countMetIn 27 = .ok (.goto (-23), 3) := by decide +kernel
theorem nd_Wl_countMetIn_30 : decode nc_Wl_countMetIn 30 = .ok (.iload_n 2, 1) := by decide +kernel
theorem nd_Wl_countMetIn_31 : decode nc_Wl_countMetIn 31 = .ok (.ireturn, 1) := by decide +kernel
theorem nd_Ro_order_0 : decode nc_Ro_order 0 = .ok (.aload_n 0, 1) := by decide +kernel
theorem nd_Ro_order_1 : decode nc_Ro_order 1 = .ok (.getfield 12, 3) := by decide +kernel
theorem nd_Ro_order_4 : decode nc_Ro_order 4 = .ok (.invokevirtual 76, 3) := by decide +kernel
theorem nd_Ro_order_7 : decode nc_Ro_order 7 = .ok (.aload_n 0, 1) := by decide +kernel
theorem nd_Ro_order_8 : decode nc_Ro_order 8 = .ok (.getfield 12, 3) := by decide +kernel
theorem nd_Ro_order_11 : decode nc_Ro_order 11 = .ok (.lload_n 1, 1) := by decide +kernel
theorem nd_Ro_order_12 : decode nc_Ro_order 12 = .ok (.invokevirtual 79, 3) := by decide +kernel
theorem nd_Ro_order_15 : decode nc_Ro_order 15 = .ok (.aload_n 0, 1) := by decide +kernel
theorem nd_Ro_order_16 : decode nc_Ro_order 16 = .ok (.getfield 12, 3) := by decide +kernel
theorem nd_Ro_order_19 : decode nc_Ro_order 19 = .ok (.lload_n 3, 1) := by decide +kernel
theorem nd_Ro_order_20 : decode nc_Ro_order 20 = .ok (.invokevirtual 79, 3) := by decide +kernel
theorem nd_Ro_order_23 : decode nc_Ro_order 23 = .ok (.aload_n 0, 1) := by decide +kernel
theorem nd_Ro_order_24 : decode nc_Ro_order 24 = .ok (.getfield 12, 3) := by decide +kernel
theorem nd_Ro_order_27 : decode nc_Ro_order 27 = .ok (.aload_n 0, 1) := by decide +kernel
theorem nd_Ro_order_28 : decode nc_Ro_order 28 = .ok (.getfield 19, 3) := by decide +kernel
theorem nd_Ro_order_31 : decode nc_Ro_order 31 = .ok (.getfield 30, 3) := by decide +kernel
theorem nd_Ro_order_34 : decode nc_Ro_order 34 = .ok (.invokevirtual 83, 3) := by decide +kernel
theorem nd_Ro_order_37 : decode nc_Ro_order 37 = .ok (.istore 5, 2) := by decide +kernel
theorem nd_Ro_order_39 : decode nc_Ro_order 39 = .ok (.iload 5, 2) := by decide +kernel
theorem nd_Ro_order_41 : decode nc_Ro_order 41 = .ok (.iconst (-1), 1) := by decide +kernel
theorem nd_Ro_order_42 : decode nc_Ro_order 42 = .ok (.if_icmp .ne 24, 3) := by decide +kernel
theorem nd_Ro_order_45 : decode nc_Ro_order 45 = .ok (.aload_n 0, 1) := by decide +kernel
theorem nd_Ro_order_46 : decode nc_Ro_order 46 = .ok (.getfield 19, 3) := by decide +kernel
theorem nd_Ro_order_49 : decode nc_Ro_order 49 = .ok (.getfield 87, 3) := by decide +kernel
theorem nd_Ro_order_52 : decode nc_Ro_order 52 = .ok (.aload_n 0, 1) := by decide +kernel
theorem nd_Ro_order_53 : decode nc_Ro_order 53 = .ok (.getfield 12, 3) := by decide +kernel
theorem nd_Ro_order_56 : decode nc_Ro_order 56 = .ok (.invokevirtual 91, 3) := by decide +kernel
theorem nd_Ro_order_59 : decode nc_Ro_order 59 = .ok (.aload_n 0, 1) := by decide +kernel
theorem nd_Ro_order_60 : decode nc_Ro_order 60 = .ok (.getfield 19, 3) := by decide +kernel
theorem nd_Ro_order_63 : decode nc_Ro_order 63 = .ok (.invokevirtual 65, 3) := by decide +kernel
theorem nd_Ro_order_66 : decode nc_Ro_order 66 = .ok (.iload 5, 2) := by decide +kernel
theorem nd_Ro_order_68 : decode nc_Ro_order 68 = .ok (.ireturn, 1) := by decide +kernel
theorem nd_Ro_met1_0 : decode nc_Ro_met1 0 = .ok (.aload_n 0, 1) := by decide +kernel
theorem nd_Ro_met1_1 : decode nc_Ro_met1 1 = .ok (.getfield 19, 3) := by decide +kernel
theorem nd_Ro_met1_4 : decode nc_Ro_met1 4 = .ok (.invokevirtual 113, 3) := by decide +kernel
theorem nd_Ro_met1_7 : decode nc_Ro_met1 7 = .ok (.aload_n 0, 1) := by decide +kernel
theorem nd_Ro_met1_8 : decode nc_Ro_met1 8 = .ok (.getfield 26, 3) := by decide +kernel
theorem nd_Ro_met1_11 : decode nc_Ro_met1 11 = .ok (.aload_n 0, 1) := by decide +kernel
theorem nd_Ro_met1_12 : decode nc_Ro_met1 12 = .ok (.getfield 19, 3) := by decide +kernel
theorem nd_Ro_met1_15 : decode nc_Ro_met1 15 = .ok (.invokevirtual 151, 3) := by decide +kernel
theorem nd_Ro_met1_18 : decode nc_Ro_met1 18 = .ok (.ireturn, 1) := by decide +kernel
theorem nd_Ro_canExchange_0 : decode nc_Ro_canExchange 0 = .ok (.aload_n 0, 1) := by decide +kernel
theorem nd_Ro_canExchange_1 : decode nc_Ro_canExchange 1 = .ok (.getfield 19, 3) := by decide +kernel
theorem nd_Ro_canExchange_4 : decode nc_Ro_canExchange 4 = .ok (.getfield 30, 3) := by decide +kernel
theorem nd_Ro_canExchange_7 : decode nc_Ro_canExchange 7 = .ok (.iload_n 1, 1) := by decide +kernel
theorem nd_Ro_canExchange_8 : decode nc_Ro_canExchange 8 = .ok (.invokevirtual 59, 3) := by decide +kernel
theorem nd_Ro_canExchange_11 : decode nc_Ro_canExchange 11 = .ok (.ifCond .le 51, 3) := by decide +kernel
theorem nd_Ro_canExchange_14 : decode nc_Ro_canExchange 14 = .ok (.aload_n 0, 1) := by decide +kernel
theorem nd_Ro_canExchange_15 : decode nc_Ro_canExchange 15 = .ok (.getfield 19, 3) := by decide +kernel
theorem nd_Ro_canExchange_18 : decode nc_Ro_canExchange 18 = .ok (.getfield 30, 3) := by decide +kernel
theorem nd_Ro_canExchange_21 : decode nc_Ro_canExchange 21 = .ok (.iload_n 2, 1) := by decide +kernel
theorem nd_Ro_canExchange_22 : decode nc_Ro_canExchange 22 = .ok (.invokevirtual 59, 3) := by decide +kernel
theorem nd_Ro_canExchange_25 : decode nc_Ro_canExchange 25 = .ok (.ifCond .le 37, 3) := by decide +kernel
theorem nd_Ro_canExchange_28 : decode nc_Ro_canExchange 28 = .ok (.aload_n 0, 1) := by decide +kernel
theorem nd_Ro_canExchange_29 : decode nc_Ro_canExchange 29 = .ok (.getfield 19, 3) := by decide +kernel
theorem nd_Ro_canExchange_32 : decode nc_Ro_canExchange 32 = .ok (.getfield 87, 3) := by decide +kernel
theorem nd_Ro_canExchange_35 : decode nc_Ro_canExchange 35 = .ok (.iload_n 1, 1) := by decide +kernel
theorem nd_Ro_canExchange_36 : decode nc_Ro_canExchange 36 = .ok (.invokevirtual 165, 3) := by decide +kernel
theorem nd_Ro_canExchange_39 : decode nc_Ro_canExchange 39 = .ok (.iconst (-1), 1) := by decide +kernel
theorem nd_Ro_canExchange_40 : decode nc_Ro_canExchange 40 = .ok (.if_icmp .ne 18, 3) := by decide +kernel
theorem nd_Ro_canExchange_43 : decode nc_Ro_canExchange 43 = .ok (.aload_n 0, 1) := by decide +kernel
theorem nd_Ro_canExchange_44 : decode nc_Ro_canExchange 44 = .ok (.getfield 19, 3) := by decide +kernel
theorem nd_Ro_canExchange_47 : decode nc_Ro_canExchange 47 = .ok (.getfield 87, 3) := by decide +kernel
theorem nd_Ro_canExchange_50 : decode nc_Ro_canExchange 50 = .ok (.iload_n 2, 1) := by decide +kernel
theorem nd_Ro_canExchange_51 : decode nc_Ro_canExchange 51 = .ok (.invokevirtual 165, 3) := by decide +kernel
theorem nd_Ro_canExchange_54 : decode nc_Ro_canExchange 54 = .ok (.iconst (-1), 1) := by decide +kernel
theorem nd_Ro_canExchange_55 : decode nc_Ro_canExchange 55 = .ok (.if_icmp .eq 7, 3) := by decide +kernel
theorem nd_Ro_canExchange_58 : decode nc_Ro_canExchange 58 = .ok (.iconst 1, 1) := by decide +kernel
theorem nd_Ro_canExchange_59 : decode nc_Ro_canExchange 59 = .ok (.goto 4, 3) := by decide +kernel
theorem nd_Ro_canExchange_62 : decode nc_Ro_canExchange 62 = .ok (.iconst 0, 1) := by decide +kernel
theorem nd_Ro_canExchange_63 : decode nc_Ro_canExchange 63 = .ok (.ireturn, 1) := by decide +kernel
theorem nd_Ro_changePlaces_0 : decode nc_Ro_changePlaces 0 = .ok (.aload_n 0, 1) := by decide +kernel
theorem nd_Ro_changePlaces_1 : decode nc_Ro_changePlaces 1 = .ok (.getfield 19, 3) := by decide +kernel
theorem nd_Ro_changePlaces_4 : decode nc_Ro_changePlaces 4 = .ok (.getfield 87, 3) := by decide +kernel
theorem nd_Ro_changePlaces_7 : decode nc_Ro_changePlaces 7 = .ok (.iload_n 1, 1) := by decide +kernel
theorem nd_Ro_changePlaces_8 : decode nc_Ro_changePlaces 8 = .ok (.iload_n 2, 1) := by decide +kernel
theorem nd_Ro_changePlaces_9 : decode nc_Ro_changePlaces 9 = .ok (.invokevirtual 168, 3) := by decide +kernel
theorem nd_Ro_changePlaces_12 : decode nc_Ro_changePlaces 12 = .ok (.aload_n 0, 1) := by decide +kernel
theorem nd_Ro_changePlaces_13 : decode nc_Ro_changePlaces 13 = .ok (.getfield 19, 3) := by decide +kernel
theorem nd_Ro_changePlaces_16 : decode nc_Ro_changePlaces 16 = .ok (.invokevirtual 65, 3) := by decide +kernel
theorem nd_Ro_changePlaces_19 : decode nc_Ro_changePlaces 19 = .ok (.return_, 1) := by decide +kernel
theorem nd_Ro_improve_0 : decode nc_Ro_improve 0 = .ok (.aload_n 0, 1) := by decide +kernel
theorem nd_Ro_improve_1 : decode nc_Ro_improve 1 = .ok (.getfield 26, 3) := by decide +kernel
theorem nd_Ro_improve_4 : decode nc_Ro_improve 4 = .ok (.getfield 141, 3) := by decide +kernel
theorem nd_Ro_improve_7 : decode nc_Ro_improve 7 = .ok (.ifCond .le 7, 3) := by decide +kernel
theorem nd_Ro_improve_10 : decode nc_Ro_improve 10 = .ok (.iconst 1, 1) := by decide +kernel
theorem nd_Ro_improve_11 : decode nc_Ro_improve 11 = .ok (.goto 4, 3) := by decide +kernel
theorem nd_Ro_improve_14 : decode nc_Ro_improve 14 = .ok (.iconst 0, 1) := by decide +kernel
theorem nd_Ro_improve_15 : decode nc_Ro_improve 15 = .ok (.istore_n 1, 1) := by decide +kernel
theorem nd_Ro_improve_16 : decode nc_Ro_improve 16 = .ok (.aload_n 0, 1) := by decide +kernel
theorem nd_Ro_improve_17 : decode nc_Ro_improve 17 = .ok (.getfield 19, 3) := by decide +kernel
theorem nd_Ro_improve_20 : decode nc_Ro_improve 20 = .ok (.invokevirtual 97, 3) := by decide +kernel
theorem nd_Ro_improve_23 : decode nc_Ro_improve 23 = .ok (.iload_n 1, 1) := by decide +kernel
theorem nd_Ro_improve_24 : decode nc_Ro_improve 24 = .ok (.ifCond .eq 10, 3) := by decide +kernel
theorem nd_Ro_improve_27 : decode nc_Ro_improve 27 = .ok (.aload_n 0, 1) := by decide +kernel
theorem nd_Ro_improve_28 : decode nc_Ro_improve 28 = .ok (.getfield 19, 3) := by decide +kernel
theorem nd_Ro_improve_31 : decode nc_Ro_improve 31 = .ok (.invokevirtual 113, 3) := by decide +kernel
theorem nd_Ro_improve_34 : decode nc_Ro_improve 34 = .ok (.aload_n 0, 1) := by decide +kernel
theorem nd_Ro_improve_35 : decode nc_Ro_improve 35 = .ok (.getfield 26, 3) := by decide +kernel
theorem nd_Ro_improve_38 : decode nc_Ro_improve 38 = .ok (.aload_n 0, 1) := by decide +kernel
theorem nd_Ro_improve_39 : decode nc_Ro_improve 39 = .ok (.getfield 19, 3) := by decide +kernel
theorem nd_Ro_improve_42 : decode nc_Ro_improve 42 = .ok (.invokevirtual 151, 3) := by decide +kernel
theorem nd_Ro_improve_45 : decode nc_Ro_improve 45 = .ok (.istore_n 2, 1) := by decide +kernel
theorem nd_Ro_improve_46 : decode nc_Ro_improve 46 = .ok (.aload_n 0, 1) := by decide +kernel
theorem nd_Ro_improve_47 : decode nc_Ro_improve 47 = .ok (.getfield 19, 3) := by decide +kernel
theorem nd_Ro_improve_50 : decode nc_Ro_improve 50 = .ok (.invokevirtual 104, 3) := by decide +kernel
theorem nd_Ro_improve_53 : decode nc_Ro_improve 53 = .ok (.istore_n 3, 1) := by decide +kernel
theorem nd_Ro_improve_54 : decode nc_Ro_improve 54 = .ok (.iconst (-1), 1) := by decide +kernel
theorem nd_Ro_improve_55 : decode nc_Ro_improve 55 = .ok (.istore 4, 2) := by decide +kernel
theorem nd_Ro_improve_57 : decode nc_Ro_improve 57 = .ok (.iconst (-1), 1) := by decide +kernel
theorem nd_Ro_improve_58 : decode nc_Ro_improve 58 = .ok (.istore 5, 2) := by decide +kernel
theorem nd_Ro_improve_60 : decode nc_Ro_improve 60 = .ok (.iconst 0, 1) := by decide +kernel
theorem nd_Ro_improve_61 : decode nc_Ro_improve 61 = .ok (.istore 6, 2) := by decide +kernel
theorem nd_Ro_improve_63 : decode nc_Ro_improve 63 = .ok (.iload 6, 2) := by decide +kernel
theorem nd_Ro_improve_65 : decode nc_Ro_improve 65 = .ok (.aload_n 0, 1) := by decide +kernel
theorem nd_Ro_improve_66 : decode nc_Ro_improve 66 = .ok (.getfield 19, 3) := by decide +kernel
theorem nd_Ro_improve_69 : decode nc_Ro_improve 69 = .ok (.getfield 30, 3) := by decide +kernel
theorem nd_Ro_improve_72 : decode nc_Ro_improve 72 = .ok (.getfield 34, 3) := by decide +kernel
theorem nd_Ro_improve_75 : decode nc_Ro_improve 75 = .ok (.if_icmp .ge 138, 3) := by decide +kernel
theorem nd_Ro_improve_78 : decode nc_Ro_improve 78 = .ok (.iload 6, 2) := by decide +kernel
theorem nd_Ro_improve_80 : decode nc_Ro_improve 80 = .ok (.iconst 1, 1) := by decide +kernel
theorem nd_Ro_improve_81 : decode nc_Ro_improve 81 = .ok (.iadd, 1) := by decide +kernel
theorem nd_Ro_improve_82 : decode nc_Ro_improve 82 = .ok (.istore 7, 2) := by decide +kernel
theorem nd_Ro_improve_84 : decode nc_Ro_improve 84 = .ok (.iload 7, 2) := by decide +kernel
theorem nd_Ro_improve_86 : decode nc_Ro_improve 86 = .ok (.aload_n 0, 1) := by decide +kernel
theorem nd_Ro_improve_87 : decode nc_Ro_improve 87 = .ok (.getfield 19, 3) := by decide +kernel
theorem nd_Ro_improve_90 : decode nc_Ro_improve 90 = .ok (.getfield 30, 3) := by decide +kernel
theorem nd_Ro_improve_93 : decode nc_Ro_improve 93 = .ok (.getfield 34, 3) := by decide +kernel
theorem nd_Ro_improve_96 : decode nc_Ro_improve 96 = .ok (.if_icmp .ge 111, 3) := by decide +kernel
theorem nd_Ro_improve_99 : decode nc_Ro_improve 99 = .ok (.aload_n 0, 1) := by decide +kernel
theorem nd_Ro_improve_100 : decode nc_Ro_improve 100 = .ok (.iload 6, 2) := by decide +kernel
theorem nd_Ro_improve_102 : decode nc_Ro_improve 102 = .ok (.iload 7, 2) := by decide +kernel
theorem nd_Ro_improve_104 : decode nc_Ro_improve 104 = .ok (.invokevirtual 155, 3) := by decide +kernel
theorem nd_Ro_improve_107 : decode nc_Ro_improve 107 = .ok (.ifCond .ne 6, 3) := by decide +kernel
theorem nd_Ro_improve_110 : decode nc_Ro_improve 110 = .ok (.goto 91, 3) := by decide +kernel
theorem nd_Ro_improve_113 : decode nc_Ro_improve 113 = .ok (.aload_n 0, 1) := by decide +kernel
theorem nd_Ro_improve_114 : decode nc_Ro_improve 114 = .ok (.iload 6, 2) := by decide +kernel
theorem nd_Ro_improve_116 : decode nc_Ro_improve 116 = .ok (.iload 7, 2) := by decide +kernel
theorem nd_Ro_improve_118 : decode nc_Ro_improve 118 = .ok (.invokevirtual 159, 3) := by decide +kernel
theorem nd_Ro_improve_121 : decode nc_Ro_improve 121 = .ok (.aload_n 0, 1) := by decide +kernel
theorem nd_Ro_improve_122 : decode nc_Ro_improve 122 = .ok (.getfield 19, 3) := by decide +kernel
theorem nd_Ro_improve_125 : decode nc_Ro_improve 125 = .ok (.invokevirtual 97, 3) := by decide +kernel
theorem nd_Ro_improve_128 : decode nc_Ro_improve 128 = .ok (.iload_n 1, 1) := by decide +kernel
theorem nd_Ro_improve_129 : decode nc_Ro_improve 129 = .ok (.ifCond .eq 10, 3) := by decide +kernel
theorem nd_Ro_improve_132 : decode nc_Ro_improve 132 = .ok (.aload_n 0, 1) := by decide +kernel
theorem nd_Ro_improve_133 : decode nc_Ro_improve 133 = .ok (.getfield 19, 3) := by decide +kernel
theorem nd_Ro_improve_136 : decode nc_Ro_improve 136 = .ok (.invokevirtual 113, 3) := by decide +kernel
theorem nd_Ro_improve_139 : decode nc_Ro_improve 139 = .ok (.aload_n 0, 1) := by decide +kernel
theorem nd_Ro_improve_140 : decode nc_Ro_improve 140 = .ok (.getfield 26, 3) := by decide +kernel
theorem nd_Ro_improve_143 : decode nc_Ro_improve 143 = .ok (.aload_n 0, 1) := by decide +kernel
theorem nd_Ro_improve_144 : decode nc_Ro_improve 144 = .ok (.getfield 19, 3) := by decide +kernel
theorem nd_Ro_improve_147 : decode nc_Ro_improve 147 = .ok (.invokevirtual 151, 3) := by decide +kernel
theorem nd_Ro_improve_150 : decode nc_Ro_improve 150 = .ok (.istore 8, 2) := by decide +kernel
theorem nd_Ro_improve_152 : decode nc_Ro_improve 152 = .ok (.aload_n 0, 1) := by decide +kernel
theorem nd_Ro_improve_153 : decode nc_Ro_improve 153 = .ok (.getfield 19, 3) := by decide +kernel
theorem nd_Ro_improve_156 : decode nc_Ro_improve 156 = .ok (.invokevirtual 104, 3) := by decide +kernel
theorem nd_Ro_improve_159 : decode nc_Ro_improve 159 = .ok (.istore 9, 2) := by decide +kernel
theorem nd_Ro_improve_161 : decode nc_Ro_improve 161 = .ok (.aload_n 0, 1) := by decide +kernel
theorem nd_Ro_improve_162 : decode nc_Ro_improve 162 = .ok (.iload 6, 2) := by decide +kernel
theorem nd_Ro_improve_164 : decode nc_Ro_improve 164 = .ok (.iload 7, 2) := by decide +kernel
theorem nd_Ro_improve_166 : decode nc_Ro_improve 166 = .ok (.invokevirtual 159, 3) := by decide +kernel
theorem nd_Ro_improve_169 : decode nc_Ro_improve 169 = .ok (.iload 8, 2) := by decide +kernel
theorem nd_Ro_improve_171 : decode nc_Ro_improve 171 = .ok (.iload_n 2, 1) := by decide +kernel
theorem nd_Ro_improve_172 : decode nc_Ro_improve 172 = .ok (.if_icmp .gt 15, 3) := by decide +kernel
theorem nd_Ro_improve_175 : decode nc_Ro_improve 175 = .ok (.iload 8, 2) := by decide +kernel
theorem nd_Ro_improve_177 : decode nc_Ro_improve 177 = .ok (.iload_n 2, 1) := by decide +kernel
theorem nd_Ro_improve_178 : decode nc_Ro_improve 178 = .ok (.if_icmp .ne 23, 3) := by decide +kernel
theorem nd_Ro_improve_181 : decode nc_Ro_improve 181 = .ok (.iload 9, 2) := by decide +kernel
theorem nd_Ro_improve_183 : decode nc_Ro_improve 183 = .ok (.iload_n 3, 1) := by decide +kernel
theorem nd_Ro_improve_184 : decode nc_Ro_improve 184 = .ok (.if_icmp .ge 17, 3) := by decide +kernel
theorem nd_Ro_improve_187 : decode nc_Ro_improve 187 = .ok (.iload 8, 2) := by decide +kernel
theorem nd_Ro_improve_189 : decode nc_Ro_improve 189 = .ok (.istore_n 2, 1) := by decide +kernel
theorem nd_Ro_improve_190 : decode nc_Ro_improve 190 = .ok (.iload 9, 2) := by decide +kernel
theorem nd_Ro_improve_192 : decode nc_Ro_improve 192 = .ok (.istore_n 3, 1) := by decide +kernel
theorem nd_Ro_improve_193 : decode nc_Ro_improve 193 = .ok (.iload 6, 2) := by decide +kernel
theorem nd_Ro_improve_195 : decode nc_Ro_improve 195 = .ok (.istore 4, 2) := by decide +kernel
theorem nd_Ro_improve_197 : decode nc_Ro_improve 197 = .ok (.iload 7, 2) := by decide +kernel
theorem nd_Ro_improve_199 : decode nc_Ro_improve 199 = .ok (.istore 5, 2) := by decide +kernel
theorem nd_Ro_improve_201 : decode nc_Ro_improve 201 = .ok (.iinc 7 1, 3) := by decide +kernel
theorem nd_Ro_improve_204 : decode nc_Ro_improve 204 = .ok (.goto (-120), 3) := by decide +kernel
theorem nd_Ro_improve_207 : decode nc_Ro_improve 207 = .ok (.iinc 6 1, 3) := by decide +kernel
theorem nd_Ro_improve_210 : decode nc_Ro_improve 210 = .ok (.goto (-147), 3) := by decide +kernel
theorem nd_Ro_improve_213 : decode nc_Ro_improve 213 = .ok (.iload 4, 2) := by decide +kernel
theorem nd_Ro_improve_215 : decode nc_Ro_improve 215 = .ok (.iconst (-1), 1) := by decide +kernel
theorem nd_Ro_improve_216 : decode nc_Ro_improve 216 = .ok (.if_icmp .ne 5, 3) := by decide +kernel
theorem nd_Ro_improve_219 : decode nc_Ro_improve 219 = .ok (.iconst 0, 1) := by decide +kernel
theorem nd_Ro_improve_220 : decode nc_Ro_improve 220 = .ok (.ireturn, 1) := by decide +kernel
theorem nd_Ro_improve_221 : decode nc_Ro_improve 221 = .ok (.aload_n 0, 1) := by decide +kernel
theorem nd_Ro_improve_222 : decode nc_Ro_improve 222 = .ok (.iload 4, 2) := by decide +kernel
theorem nd_Ro_improve_224 : decode nc_Ro_improve 224 = .ok (.iload 5, 2) := by decide +kernel
theorem nd_Ro_improve_226 : decode nc_Ro_improve 226 = .ok (.invokevirtual 159, 3) := by decide +kernel
theorem nd_Ro_improve_229 : decode nc_Ro_improve 229 = .ok (.iconst 1, 1) := by decide +kernel
theorem nd_Ro_improve_230 : decode nc_Ro_improve 230 = .ok (.ireturn, 1) := by decide +kernel
theorem nd_Mo_thrown_0 : decode nc_Mo_thrown 0 = .ok (.aload_n 0, 1) := by decide +kernel
theorem nd_Mo_thrown_1 : decode nc_Mo_thrown 1 = .ok (.getfield 71, 3) := by decide +kernel
theorem nd_Mo_thrown_4 : decode nc_Mo_thrown 4 = .ok (.ireturn, 1) := by decide +kernel
theorem nd_Mo_isRoom_0 : decode nc_Mo_isRoom 0 = .ok (.iload_n 1, 1) := by decide +kernel
theorem nd_Mo_isRoom_1 : decode nc_Mo_isRoom 1 = .ok (.ifCond .lt 15, 3) := by decide +kernel
theorem nd_Mo_isRoom_4 : decode nc_Mo_isRoom 4 = .ok (.iload_n 1, 1) := by decide +kernel
theorem nd_Mo_isRoom_5 : decode nc_Mo_isRoom 5 = .ok (.aload_n 0, 1) := by decide +kernel
theorem nd_Mo_isRoom_6 : decode nc_Mo_isRoom 6 = .ok (.getfield 74, 3) := by decide +kernel
theorem nd_Mo_isRoom_9 : decode nc_Mo_isRoom 9 = .ok (.if_icmp .ge 7, 3) := by decide +kernel
theorem nd_Mo_isRoom_12 : decode nc_Mo_isRoom 12 = .ok (.iconst 1, 1) := by decide +kernel
theorem nd_Mo_isRoom_13 : decode nc_Mo_isRoom 13 = .ok (.goto 4, 3) := by decide +kernel
theorem nd_Mo_isRoom_16 : decode nc_Mo_isRoom 16 = .ok (.iconst 0, 1) := by decide +kernel
theorem nd_Mo_isRoom_17 : decode nc_Mo_isRoom 17 = .ok (.ireturn, 1) := by decide +kernel
theorem nd_Mo_isIn_0 : decode nc_Mo_isIn 0 = .ok (.iload_n 0, 1) := by decide +kernel
theorem nd_Mo_isIn_1 : decode nc_Mo_isIn 1 = .ok (.iload_n 1, 1) := by decide +kernel
theorem nd_Mo_isIn_2 : decode nc_Mo_isIn 2 = .ok (.if_icmp .lt 12, 3) := by decide +kernel
theorem nd_Mo_isIn_5 : decode nc_Mo_isIn 5 = .ok (.iload_n 0, 1) := by decide +kernel
theorem nd_Mo_isIn_6 : decode nc_Mo_isIn 6 = .ok (.iload_n 2, 1) := by decide +kernel
theorem nd_Mo_isIn_7 : decode nc_Mo_isIn 7 = .ok (.if_icmp .gt 7, 3) := by decide +kernel
theorem nd_Mo_isIn_10 : decode nc_Mo_isIn 10 = .ok (.iconst 1, 1) := by decide +kernel
theorem nd_Mo_isIn_11 : decode nc_Mo_isIn 11 = .ok (.goto 4, 3) := by decide +kernel
theorem nd_Mo_isIn_14 : decode nc_Mo_isIn 14 = .ok (.iconst 0, 1) := by decide +kernel
theorem nd_Mo_isIn_15 : decode nc_Mo_isIn 15 = .ok (.ireturn, 1) := by decide +kernel
theorem nd_Mo_room_0 : decode nc_Mo_room 0 = .ok (.aload_n 0, 1) := by decide +kernel
theorem nd_Mo_room_1 : decode nc_Mo_room 1 = .ok (.aload_n 0, 1) := by decide +kernel
theorem nd_Mo_room_2 : decode nc_Mo_room 2 = .ok (.getfield 74, 3) := by decide +kernel
theorem nd_Mo_room_5 : decode nc_Mo_room 5 = .ok (.bipush 6, 2) := by decide +kernel
theorem nd_Mo_room_7 : decode nc_Mo_room 7 = .ok (.if_icmp .ne 7, 3) := by decide +kernel
theorem nd_Mo_room_10 : decode nc_Mo_room 10 = .ok (.iconst 1, 1) := by decide +kernel
theorem nd_Mo_room_11 : decode nc_Mo_room 11 = .ok (.goto 4, 3) := by decide +kernel
theorem nd_Mo_room_14 : decode nc_Mo_room 14 = .ok (.iconst 0, 1) := by decide +kernel
theorem nd_Mo_room_15 : decode nc_Mo_room 15 = .ok (.putfield 71, 3) := by decide +kernel
theorem nd_Mo_room_18 : decode nc_Mo_room 18 = .ok (.aload_n 0, 1) := by decide +kernel
theorem nd_Mo_room_19 : decode nc_Mo_room 19 = .ok (.getfield 71, 3) := by decide +kernel
theorem nd_Mo_room_22 : decode nc_Mo_room 22 = .ok (.ifCond .le 5, 3) := by decide +kernel
theorem nd_Mo_room_25 : decode nc_Mo_room 25 = .ok (.iconst 0, 1) := by decide +kernel
theorem nd_Mo_room_26 : decode nc_Mo_room 26 = .ok (.ireturn, 1) := by decide +kernel
theorem nd_Mo_room_27 : decode nc_Mo_room 27 = .ok (.aload_n 0, 1) := by decide +kernel
theorem nd_Mo_room_28 : decode nc_Mo_room 28 = .ok (.dup, 1) := by decide +kernel
theorem nd_Mo_room_29 : decode nc_Mo_room 29 = .ok (.getfield 74, 3) := by decide +kernel
theorem nd_Mo_room_32 : decode nc_Mo_room 32 = .ok (.iconst 1, 1) := by decide +kernel
theorem nd_Mo_room_33 : decode nc_Mo_room 33 = .ok (.iadd, 1) := by decide +kernel
theorem nd_Mo_room_34 : decode nc_Mo_room 34 = .ok (.putfield 74, 3) := by decide +kernel
theorem nd_Mo_room_37 : decode nc_Mo_room 37 = .ok (.aload_n 0, 1) := by decide +kernel
theorem nd_Mo_room_38 : decode nc_Mo_room 38 = .ok (.getfield 74, 3) := by decide +kernel
theorem nd_Mo_room_41 : decode nc_Mo_room 41 = .ok (.iconst 1, 1) := by decide +kernel
theorem nd_Mo_room_42 : decode nc_Mo_room 42 = .ok (.isub, 1) := by decide +kernel
theorem nd_Mo_room_43 : decode nc_Mo_room 43 = .ok (.ireturn, 1) := by decide +kernel
theorem nd_Mo_size_0 : decode nc_Mo_size 0 = .ok (.aload_n 0, 1) := by decide +kernel
theorem nd_Mo_size_1 : decode nc_Mo_size 1 = .ok (.aload_n 0, 1) := by decide +kernel
theorem nd_Mo_size_2 : decode nc_Mo_size 2 = .ok (.iload_n 1, 1) := by decide +kernel
theorem nd_Mo_size_3 : decode nc_Mo_size 3 = .ok (.invokevirtual 77, 3) := by decide +kernel
theorem nd_Mo_size_6 : decode nc_Mo_size 6 = .ok (.ifCond .eq 23, 3) := by decide +kernel
theorem nd_Mo_size_9 : decode nc_Mo_size 9 = .ok (.iload_n 2, 1) := by decide +kernel
theorem nd_Mo_size_10 : decode nc_Mo_size 10 = .ok (.iconst 1, 1) := by decide +kernel
theorem nd_Mo_size_11 : decode nc_Mo_size 11 = .ok (.bipush 60, 2) := by decide +kernel
theorem nd_Mo_size_13 : decode nc_Mo_size 13 = .ok (.invokestatic 81, 3) := by decide +kernel
theorem nd_Mo_size_16 : decode nc_Mo_size 16 = .ok (.ifCond .eq 13, 3) := by decide +kernel
theorem nd_Mo_size_19 : decode nc_Mo_size 19 = .ok (.iload_n 3, 1) := by decide +kernel
theorem nd_Mo_size_20 : decode nc_Mo_size 20 = .ok (.iconst 1, 1) := by decide +kernel
theorem nd_Mo_size_21 : decode nc_Mo_size 21 = .ok (.bipush 60, 2) := by decide +kernel
theorem nd_Mo_size_23 : decode nc_Mo_size 23 = .ok (.invokestatic 81, 3) := by decide +kernel
theorem nd_Mo_size_26 : decode nc_Mo_size 26 = .ok (.ifCond .ne 7, 3) := by decide +kernel
theorem nd_Mo_size_29 : decode nc_Mo_size 29 = .ok (.iconst 1, 1) := by decide +kernel
theorem nd_Mo_size_30 : decode nc_Mo_size 30 = .ok (.goto 18, 3) := by decide +kernel
theorem nd_Mo_size_33 : decode nc_Mo_size 33 = .ok (.aload_n 0, 1) := by decide +kernel
theorem nd_Mo_size_34 : decode nc_Mo_size 34 = .ok (.getfield 7, 3) := by decide +kernel
theorem nd_Mo_size_37 : decode nc_Mo_size 37 = .ok (.iload_n 1, 1) := by decide +kernel
theorem nd_Mo_size_38 : decode nc_Mo_size 38 = .ok (.iaload, 1) := by decide +kernel
theorem nd_Mo_size_39 : decode nc_Mo_size 39 = .ok (.iconst 4, 1) := by decide +kernel
theorem nd_Mo_size_40 : decode nc_Mo_size 40 = .ok (.if_icmp .ne 7, 3) := by decide +kernel
theorem nd_Mo_size_43 : decode nc_Mo_size 43 = .ok (.iconst 2, 1) := by decide +kernel
theorem nd_Mo_size_44 : decode nc_Mo_size 44 = .ok (.goto 4, 3) := by decide +kernel
theorem nd_Mo_size_47 : decode nc_Mo_size 47 = .ok (.iconst 0, 1) := by decide +kernel
theorem nd_Mo_size_48 : decode nc_Mo_size 48 = .ok (.putfield 71, 3) := by decide +kernel
theorem nd_Mo_size_51 : decode nc_Mo_size 51 = .ok (.aload_n 0, 1) := by decide +kernel
theorem nd_Mo_size_52 : decode nc_Mo_size 52 = .ok (.getfield 71, 3) := by decide +kernel
theorem nd_Mo_size_55 : decode nc_Mo_size 55 = .ok (.ifCond .le 5, 3) := by decide +kernel
theorem nd_Mo_size_58 : decode nc_Mo_size 58 = .ok (.iconst 0, 1) := by decide +kernel
theorem nd_Mo_size_59 : decode nc_Mo_size 59 = .ok (.ireturn, 1) := by decide +kernel
theorem nd_Mo_size_60 : decode nc_Mo_size 60 = .ok (.aload_n 0, 1) := by decide +kernel
theorem nd_Mo_size_61 : decode nc_Mo_size 61 = .ok (.getfield 13, 3) := by decide +kernel
theorem nd_Mo_size_64 : decode nc_Mo_size 64 = .ok (.iconst 4, 1) := by decide +kernel
theorem nd_Mo_size_65 : decode nc_Mo_size 65 = .ok (.iload_n 1, 1) := by decide +kernel
theorem nd_Mo_size_66 : decode nc_Mo_size 66 = .ok (.imul, 1) := by decide +kernel
theorem nd_Mo_size_67 : decode nc_Mo_size 67 = .ok (.aload_n 0, 1) := by decide +kernel
theorem nd_Mo_size_68 : decode nc_Mo_size 68 = .ok (.getfield 7, 3) := by decide +kernel
theorem nd_Mo_size_71 : decode nc_Mo_size 71 = .ok (.iload_n 1, 1) := by decide +kernel
theorem nd_Mo_size_72 : decode nc_Mo_size 72 = .ok (.iaload, 1) := by decide +kernel
theorem nd_Mo_size_73 : decode nc_Mo_size 73 = .ok (.iadd, 1) := by decide +kernel
theorem nd_Mo_size_74 : decode nc_Mo_size 74 = .ok (.iload_n 2, 1) := by decide +kernel
theorem nd_Mo_size_75 : decode nc_Mo_size 75 = .ok (.iastore, 1) := by decide +kernel
theorem nd_Mo_size_76 : decode nc_Mo_size 76 = .ok (.aload_n 0, 1) := by decide +kernel
theorem nd_Mo_size_77 : decode nc_Mo_size 77 = .ok (.getfield 16, 3) := by decide +kernel
theorem nd_Mo_size_80 : decode nc_Mo_size 80 = .ok (.iconst 4, 1) := by decide +kernel
theorem nd_Mo_size_81 : decode nc_Mo_size 81 = .ok (.iload_n 1, 1) := by decide +kernel
theorem nd_Mo_size_82 : decode nc_Mo_size 82 = .ok (.imul, 1) := by decide +kernel
theorem nd_Mo_size_83 : decode nc_Mo_size 83 = .ok (.aload_n 0, 1) := by decide +kernel
theorem nd_Mo_size_84 : decode nc_Mo_size 84 = .ok (.getfield 7, 3) := by decide +kernel
theorem nd_Mo_size_87 : decode nc_Mo_size 87 = .ok (.iload_n 1, 1) := by decide +kernel
theorem nd_Mo_size_88 : decode nc_Mo_size 88 = .ok (.iaload, 1) := by decide +kernel
theorem nd_Mo_size_89 : decode nc_Mo_size 89 = .ok (.iadd, 1) := by decide +kernel
theorem nd_Mo_size_90 : decode nc_Mo_size 90 = .ok (.iload_n 3, 1) := by decide +kernel
theorem nd_Mo_size_91 : decode nc_Mo_size 91 = .ok (.iastore, 1) := by decide +kernel
theorem nd_Mo_size_92 : decode nc_Mo_size 92 = .ok (.aload_n 0, 1) := by decide +kernel
theorem nd_Mo_size_93 : decode nc_Mo_size 93 = .ok (.getfield 7, 3) := by decide +kernel
theorem nd_Mo_size_96 : decode nc_Mo_size 96 = .ok (.iload_n 1, 1) := by decide +kernel
theorem nd_Mo_size_97 : decode nc_Mo_size 97 = .ok (.dup2, 1) := by decide +kernel
theorem nd_Mo_size_98 : decode nc_Mo_size 98 = .ok (.iaload, 1) := by decide +kernel
theorem nd_Mo_size_99 : decode nc_Mo_size 99 = .ok (.iconst 1, 1) := by decide +kernel
theorem nd_Mo_size_100 : decode nc_Mo_size 100 = .ok (.iadd, 1) := by decide +kernel
theorem nd_Mo_size_101 : decode nc_Mo_size 101 = .ok (.iastore, 1) := by decide +kernel
theorem nd_Mo_size_102 : decode nc_Mo_size 102 = .ok (.aload_n 0, 1) := by decide +kernel
theorem nd_Mo_size_103 : decode nc_Mo_size 103 = .ok (.getfield 7, 3) := by decide +kernel
theorem nd_Mo_size_106 : decode nc_Mo_size 106 = .ok (.iload_n 1, 1) := by decide +kernel
theorem nd_Mo_size_107 : decode nc_Mo_size 107 = .ok (.iaload, 1) := by decide +kernel
theorem nd_Mo_size_108 : decode nc_Mo_size 108 = .ok (.iconst 1, 1) := by decide +kernel
theorem nd_Mo_size_109 : decode nc_Mo_size 109 = .ok (.isub, 1) := by decide +kernel
theorem nd_Mo_size_110 : decode nc_Mo_size 110 = .ok (.ireturn, 1) := by decide +kernel
theorem nd_Mo_lot_0 : decode nc_Mo_lot 0 = .ok (.aload_n 0, 1) := by decide +kernel
theorem nd_Mo_lot_1 : decode nc_Mo_lot 1 = .ok (.iload_n 1, 1) := by decide +kernel
theorem nd_Mo_lot_2 : decode nc_Mo_lot 2 = .ok (.iconst 1, 1) := by decide +kernel
theorem nd_Mo_lot_3 : decode nc_Mo_lot 3 = .ok (.sipush 400, 3) := by decide +kernel
theorem nd_Mo_lot_6 : decode nc_Mo_lot 6 = .ok (.invokestatic 81, 3) := by decide +kernel
theorem nd_Mo_lot_9 : decode nc_Mo_lot 9 = .ok (.ifCond .eq 18, 3) := by decide +kernel
theorem nd_Mo_lot_12 : decode nc_Mo_lot 12 = .ok (.iload_n 2, 1) := by decide +kernel
theorem nd_Mo_lot_13 : decode nc_Mo_lot 13 = .ok (.iconst 1, 1) := by decide +kernel
theorem nd_Mo_lot_14 : decode nc_Mo_lot 14 = .ok (.sipush 400, 3) := by decide +kernel
theorem nd_Mo_lot_17 : decode nc_Mo_lot 17 = .ok (.invokestatic 81, 3) := by decide +kernel
theorem nd_Mo_lot_20 : decode nc_Mo_lot 20 = .ok (.ifCond .eq 7, 3) := by decide +kernel
theorem nd_Mo_lot_23 : decode nc_Mo_lot 23 = .ok (.iconst 0, 1) := by decide +kernel
theorem nd_Mo_lot_24 : decode nc_Mo_lot 24 = .ok (.goto 4, 3) := by decide +kernel
theorem nd_Mo_lot_27 : decode nc_Mo_lot 27 = .ok (.iconst 1, 1) := by decide +kernel
theorem nd_Mo_lot_28 : decode nc_Mo_lot 28 = .ok (.putfield 71, 3) := by decide +kernel
theorem nd_Mo_lot_31 : decode nc_Mo_lot 31 = .ok (.aload_n 0, 1) := by decide +kernel
theorem nd_Mo_lot_32 : decode nc_Mo_lot 32 = .ok (.getfield 71, 3) := by decide +kernel
theorem nd_Mo_lot_35 : decode nc_Mo_lot 35 = .ok (.ifCond .ne 13, 3) := by decide +kernel
theorem nd_Mo_lot_38 : decode nc_Mo_lot 38 = .ok (.aload_n 0, 1) := by decide +kernel
theorem nd_Mo_lot_39 : decode nc_Mo_lot 39 = .ok (.iload_n 1, 1) := by decide +kernel
theorem nd_Mo_lot_40 : decode nc_Mo_lot 40 = .ok (.putfield 19, 3) := by decide +kernel
theorem nd_Mo_lot_43 : decode nc_Mo_lot 43 = .ok (.aload_n 0, 1) := by decide +kernel
theorem nd_Mo_lot_44 : decode nc_Mo_lot 44 = .ok (.iload_n 2, 1) := by decide +kernel
theorem nd_Mo_lot_45 : decode nc_Mo_lot 45 = .ok (.putfield 23, 3) := by decide +kernel
theorem nd_Mo_lot_48 : decode nc_Mo_lot 48 = .ok (.return_, 1) := by decide +kernel
theorem nd_Mo_gather_0 : decode nc_Mo_gather 0 = .ok (.iload_n 3, 1) := by decide +kernel
theorem nd_Mo_gather_1 : decode nc_Mo_gather 1 = .ok (.istore 4, 2) := by decide +kernel
theorem nd_Mo_gather_3 : decode nc_Mo_gather 3 = .ok (.bipush 56, 2) := by decide +kernel
theorem nd_Mo_gather_5 : decode nc_Mo_gather 5 = .ok (.istore 5, 2) := by decide +kernel
theorem nd_Mo_gather_7 : decode nc_Mo_gather 7 = .ok (.iload 5, 2) := by decide +kernel
theorem nd_Mo_gather_9 : decode nc_Mo_gather 9 = .ok (.ifCond .lt 37, 3) := by decide +kernel
theorem nd_Mo_gather_12 : decode nc_Mo_gather 12 = .ok (.lload_n 1, 1) := by decide +kernel
theorem nd_Mo_gather_13 : decode nc_Mo_gather 13 = .ok (.iload 5, 2) := by decide +kernel
theorem nd_Mo_gather_15 : decode nc_Mo_gather 15 = .ok (.lshr, 1) := by decide +kernel
theorem nd_Mo_gather_16 : decode nc_Mo_gather 16 = .ok (.ldc2_w 85, 3) := by decide +kernel
theorem nd_Mo_gather_19 : decode nc_Mo_gather 19 = .ok (.land, 1) := by decide +kernel
theorem nd_Mo_gather_20 : decode nc_Mo_gather 20 = .ok (.l2i, 1) := by decide +kernel
theorem nd_Mo_gather_21 : decode nc_Mo_gather 21 = .ok (.istore 6, 2) := by decide +kernel
theorem nd_Mo_gather_23 : decode nc_Mo_gather 23 = .ok (.iload 6, 2) := by decide +kernel
theorem nd_Mo_gather_25 : decode nc_Mo_gather 25 = .ok (.ifCond .eq 15, 3) := by decide +kernel
theorem nd_Mo_gather_28 : decode nc_Mo_gather 28 = .ok (.aload_n 0, 1) := by decide +kernel
theorem nd_Mo_gather_29 : decode nc_Mo_gather 29 = .ok (.getfield 68, 3) := by decide +kernel
theorem nd_Mo_gather_32 : decode nc_Mo_gather 32 = .ok (.iload 4, 2) := by decide +kernel
theorem nd_Mo_gather_34 : decode nc_Mo_gather 34 = .ok (.iload 6, 2) := by decide +kernel
theorem nd_Mo_gather_36 : decode nc_Mo_gather 36 = .ok (.iastore, 1) := by decide +kernel
theorem nd_Mo_gather_37 : decode nc_Mo_gather 37 = .ok (.iinc 4 1, 3) := by decide +kernel
theorem nd_Mo_gather_40 : decode nc_Mo_gather 40 = .ok (.iinc 5 (-8), 3) := by decide +kernel
theorem nd_Mo_gather_43 : decode nc_Mo_gather 43 = .ok (.goto (-36), 3) := by decide +kernel
theorem nd_Mo_gather_46 : decode nc_Mo_gather 46 = .ok (.iload 4, 2) := by decide +kernel
theorem nd_Mo_gather_48 : decode nc_Mo_gather 48 = .ok (.ireturn, 1) := by decide +kernel
theorem nd_Mo_order_0 : decode nc_Mo_order 0 = .ok (.aload_n 0, 1) := by decide +kernel
theorem nd_Mo_order_1 : decode nc_Mo_order 1 = .ok (.iconst 0, 1) := by decide +kernel
theorem nd_Mo_order_2 : decode nc_Mo_order 2 = .ok (.putfield 71, 3) := by decide +kernel
theorem nd_Mo_order_5 : decode nc_Mo_order 5 = .ok (.aload_n 0, 1) := by decide +kernel
theorem nd_Mo_order_6 : decode nc_Mo_order 6 = .ok (.lload_n 3, 1) := by decide +kernel
theorem nd_Mo_order_7 : decode nc_Mo_order 7 = .ok (.aload_n 0, 1) := by decide +kernel
theorem nd_Mo_order_8 : decode nc_Mo_order 8 = .ok (.lload_n 1, 1) := by decide +kernel
theorem nd_Mo_order_9 : decode nc_Mo_order 9 = .ok (.iconst 0, 1) := by decide +kernel
theorem nd_Mo_order_10 : decode nc_Mo_order 10 = .ok (.invokevirtual 87, 3) := by decide +kernel
theorem nd_Mo_order_13 : decode nc_Mo_order 13 = .ok (.invokevirtual 87, 3) := by decide +kernel
theorem nd_Mo_order_16 : decode nc_Mo_order 16 = .ok (.istore 5, 2) := by decide +kernel
theorem nd_Mo_order_18 : decode nc_Mo_order 18 = .ok (.iconst 0, 1) := by decide +kernel
theorem nd_Mo_order_19 : decode nc_Mo_order 19 = .ok (.istore 6, 2) := by decide +kernel
theorem nd_Mo_order_21 : decode nc_Mo_order 21 = .ok (.iconst 0, 1) := by decide +kernel
theorem nd_Mo_order_22 : decode nc_Mo_order 22 = .ok (.istore 7, 2) := by decide +kernel
theorem nd_Mo_order_24 : decode nc_Mo_order 24 = .ok (.iconst 0, 1) := by decide +kernel
theorem nd_Mo_order_25 : decode nc_Mo_order 25 = .ok (.istore 8, 2) := by decide +kernel
theorem nd_Mo_order_27 : decode nc_Mo_order 27 = .ok (.iload 8, 2) := by decide +kernel
theorem nd_Mo_order_29 : decode nc_Mo_order 29 = .ok (.iload 5, 2) := by decide +kernel
theorem nd_Mo_order_31 : decode nc_Mo_order 31 = .ok (.if_icmp .ge 105, 3) := by decide +kernel
theorem nd_Mo_order_34 : decode nc_Mo_order 34 = .ok (.aload_n 0, 1) := by decide +kernel
theorem nd_Mo_order_35 : decode nc_Mo_order 35 = .ok (.getfield 68, 3) := by decide +kernel
theorem nd_Mo_order_38 : decode nc_Mo_order 38 = .ok (.iload 8, 2) := by decide +kernel
theorem nd_Mo_order_40 : decode nc_Mo_order 40 = .ok (.iaload, 1) := by decide +kernel
theorem nd_Mo_order_41 : decode nc_Mo_order 41 = .ok (.bipush 48, 2) := by decide +kernel
theorem nd_Mo_order_43 : decode nc_Mo_order 43 = .ok (.isub, 1) := by decide +kernel
theorem nd_Mo_order_44 : decode nc_Mo_order 44 = .ok (.istore 9, 2) := by decide +kernel
theorem nd_Mo_order_46 : decode nc_Mo_order 46 = .ok (.aload_n 0, 1) := by decide +kernel
theorem nd_Mo_order_47 : decode nc_Mo_order 47 = .ok (.getfield 68, 3) := by decide +kernel
theorem nd_Mo_order_50 : decode nc_Mo_order 50 = .ok (.iload 8, 2) := by decide +kernel
theorem nd_Mo_order_52 : decode nc_Mo_order 52 = .ok (.iaload, 1) := by decide +kernel
theorem nd_Mo_order_53 : decode nc_Mo_order 53 = .ok (.bipush 124, 2) := by decide +kernel
theorem nd_Mo_order_55 : decode nc_Mo_order 55 = .ok (.if_icmp .eq 15, 3) := by decide +kernel
theorem nd_Mo_order_58 : decode nc_Mo_order 58 = .ok (.aload_n 0, 1) := by decide +kernel
theorem nd_Mo_order_59 : decode nc_Mo_order 59 = .ok (.getfield 68, 3) := by decide +kernel
theorem nd_Mo_order_62 : decode nc_Mo_order 62 = .ok (.iload 8, 2) := by decide +kernel
theorem nd_Mo_order_64 : decode nc_Mo_order 64 = .ok (.iaload, 1) := by decide +kernel
theorem nd_Mo_order_65 : decode nc_Mo_order 65 = .ok (.bipush 45, 2) := by decide +kernel
theorem nd_Mo_order_67 : decode nc_Mo_order 67 = .ok (.if_icmp .ne 18, 3) := by decide +kernel
theorem nd_Mo_order_70 : decode nc_Mo_order 70 = .ok (.iload 6, 2) := by decide +kernel
theorem nd_Mo_order_72 : decode nc_Mo_order 72 = .ok (.iconst 2, 1) := by decide +kernel
theorem nd_Mo_order_73 : decode nc_Mo_order 73 = .ok (.if_icmp .ge 6, 3) := by decide +kernel
theorem nd_Mo_order_76 : decode nc_Mo_order 76 = .ok (.iload 8, 2) := by decide +kernel
theorem nd_Mo_order_78 : decode nc_Mo_order 78 = .ok (.ireturn, 1) := by decide +kernel
theorem nd_Mo_order_79 : decode nc_Mo_order 79 = .ok (.iinc 6 (-1), 3) := by decide +kernel
theorem nd_Mo_order_82 : decode nc_Mo_order 82 = .ok (.goto 48, 3) := by decide +kernel
theorem nd_Mo_order_85 : decode nc_Mo_order 85 = .ok (.aload_n 0, 1) := by decide +kernel
theorem nd_Mo_order_86 : decode nc_Mo_order 86 = .ok (.iload 9, 2) := by decide +kernel
theorem nd_Mo_order_88 : decode nc_Mo_order 88 = .ok (.invokevirtual 77, 3) := by decide +kernel
theorem nd_Mo_order_91 : decode nc_Mo_order 91 = .ok (.ifCond .eq 24, 3) := by decide +kernel
theorem nd_Mo_order_94 : decode nc_Mo_order 94 = .ok (.aload_n 0, 1) := by decide +kernel
theorem nd_Mo_order_95 : decode nc_Mo_order 95 = .ok (.getfield 7, 3) := by decide +kernel
theorem nd_Mo_order_98 : decode nc_Mo_order 98 = .ok (.iload 9, 2) := by decide +kernel
theorem nd_Mo_order_100 : decode nc_Mo_order 100 = .ok (.iaload, 1) := by decide +kernel
theorem nd_Mo_order_101 : decode nc_Mo_order 101 = .ok (.ifCond .eq 14, 3) := by decide +kernel
theorem nd_Mo_order_104 : decode nc_Mo_order 104 = .ok (.iload 7, 2) := by decide +kernel
theorem nd_Mo_order_106 : decode nc_Mo_order 106 = .ok (.iload 9, 2) := by decide +kernel
theorem nd_Mo_order_108 : decode nc_Mo_order 108 = .ok (.ishr, 1) := by decide +kernel
theorem nd_Mo_order_109 : decode nc_Mo_order 109 = .ok (.iconst 1, 1) := by decide +kernel
theorem nd_Mo_order_110 : decode nc_Mo_order 110 = .ok (.iand, 1) := by decide +kernel
theorem nd_Mo_order_111 : decode nc_Mo_order 111 = .ok (.iconst 1, 1) := by decide +kernel
theorem nd_Mo_order_112 : decode nc_Mo_order 112 = .ok (.if_icmp .ne 6, 3) := by decide +kernel
theorem nd_Mo_order_115 : decode nc_Mo_order 115 = .ok (.iload 8, 2) := by decide +kernel
theorem nd_Mo_order_117 : decode nc_Mo_order 117 = .ok (.ireturn, 1) := by decide +kernel
theorem nd_Mo_order_118 : decode nc_Mo_order 118 = .ok (.iload 7, 2) := by decide +kernel
theorem nd_Mo_order_120 : decode nc_Mo_order 120 = .ok (.iconst 1, 1) := by decide +kernel
theorem nd_Mo_order_121 : decode nc_Mo_order 121 = .ok (.iload 9, 2) := by decide +kernel
theorem nd_Mo_order_123 : decode nc_Mo_order 123 = .ok (.ishl, 1) := by decide +kernel
theorem nd_Mo_order_124 : decode nc_Mo_order 124 = .ok (.ior, 1) := by decide +kernel
theorem nd_Mo_order_125 : decode nc_Mo_order 125 = .ok (.istore 7, 2) := by decide +kernel
theorem nd_Mo_order_127 : decode nc_Mo_order 127 = .ok (.iinc 6 1, 3) := by decide +kernel
theorem nd_Mo_order_130 : decode nc_Mo_order 130 = .ok (.iinc 8 1, 3) := by decide +kernel
theorem nd_Mo_order_133 : decode nc_Mo_order 133 = .ok (.goto (-106), 3) := by decide +kernel
theorem nd_Mo_order_136 : decode nc_Mo_order 136 = .ok (.iload 6, 2) := by decide +kernel
theorem nd_Mo_order_138 : decode nc_Mo_order 138 = .ok (.iconst 1, 1) := by decide +kernel
theorem nd_Mo_order_139 : decode nc_Mo_order 139 = .ok (.if_icmp .eq 6, 3) := by decide +kernel
theorem nd_Mo_order_142 : decode nc_Mo_order 142 = .ok (.iload 5, 2) := by decide +kernel
theorem nd_Mo_order_144 : decode nc_Mo_order 144 = .ok (.ireturn, 1) := by decide +kernel
theorem nd_Mo_order_145 : decode nc_Mo_order 145 = .ok (.aload_n 0, 1) := by decide +kernel
theorem nd_Mo_order_146 : decode nc_Mo_order 146 = .ok (.iload 5, 2) := by decide +kernel
theorem nd_Mo_order_148 : decode nc_Mo_order 148 = .ok (.putfield 91, 3) := by decide +kernel
theorem nd_Mo_order_151 : decode nc_Mo_order 151 = .ok (.iconst 0, 1) := by decide +kernel
theorem nd_Mo_order_152 : decode nc_Mo_order 152 = .ok (.istore 8, 2) := by decide +kernel
theorem nd_Mo_order_154 : decode nc_Mo_order 154 = .ok (.iload 8, 2) := by decide +kernel
theorem nd_Mo_order_156 : decode nc_Mo_order 156 = .ok (.iload 5, 2) := by decide +kernel
theorem nd_Mo_order_158 : decode nc_Mo_order 158 = .ok (.if_icmp .ge 23, 3) := by decide +kernel
theorem nd_Mo_order_161 : decode nc_Mo_order 161 = .ok (.aload_n 0, 1) := by decide +kernel
theorem nd_Mo_order_162 : decode nc_Mo_order 162 = .ok (.getfield 26, 3) := by decide +kernel
theorem nd_Mo_order_165 : decode nc_Mo_order 165 = .ok (.iload 8, 2) := by decide +kernel
theorem nd_Mo_order_167 : decode nc_Mo_order 167 = .ok (.aload_n 0, 1) := by decide +kernel
theorem nd_Mo_order_168 : decode nc_Mo_order 168 = .ok (.getfield 68, 3) := by decide +kernel
theorem nd_Mo_order_171 : decode nc_Mo_order 171 = .ok (.iload 8, 2) := by decide +kernel
theorem nd_Mo_order_173 : decode nc_Mo_order 173 = .ok (.iaload, 1) := by decide +kernel
theorem nd_Mo_order_174 : decode nc_Mo_order 174 = .ok (.iastore, 1) := by decide +kernel
theorem nd_Mo_order_175 : decode nc_Mo_order 175 = .ok (.iinc 8 1, 3) := by decide +kernel
theorem nd_Mo_order_178 : decode nc_Mo_order 178 = .ok (.goto (-24), 3) := by decide +kernel
theorem nd_Mo_order_181 : decode nc_Mo_order 181 = .ok (.iconst (-1), 1) := by decide +kernel
theorem nd_Mo_order_182 : decode nc_Mo_order 182 = .ok (.ireturn, 1) := by decide +kernel
theorem nd_Mo_placeOf_0 : decode nc_Mo_placeOf 0 = .ok (.iconst 0, 1) := by decide +kernel
theorem nd_Mo_placeOf_1 : decode nc_Mo_placeOf 1 = .ok (.istore_n 2, 1) := by decide +kernel
theorem nd_Mo_placeOf_2 : decode nc_Mo_placeOf 2 = .ok (.iload_n 2, 1) := by decide +kernel
theorem nd_Mo_placeOf_3 : decode nc_Mo_placeOf 3 = .ok (.aload_n 0, 1) := by decide +kernel
theorem nd_Mo_placeOf_4 : decode nc_Mo_placeOf 4 = .ok (.getfield 91, 3) := by decide +kernel
theorem nd_Mo_placeOf_7 : decode nc_Mo_placeOf 7 = .ok (.if_icmp .ge 24, 3) := by decide +kernel
theorem nd_Mo_placeOf_10 : decode nc_Mo_placeOf 10 = .ok (.aload_n 0, 1) := by decide +kernel
theorem nd_Mo_placeOf_11 : decode nc_Mo_placeOf 11 = .ok (.getfield 26, 3) := by decide +kernel
theorem nd_Mo_placeOf_14 : decode nc_Mo_placeOf 14 = .ok (.iload_n 2, 1) := by decide +kernel
theorem nd_Mo_placeOf_15 : decode nc_Mo_placeOf 15 = .ok (.iaload, 1) := by decide +kernel
theorem nd_Mo_placeOf_16 : decode nc_Mo_placeOf 16 = .ok (.bipush 48, 2) := by decide +kernel
theorem nd_Mo_placeOf_18 : decode nc_Mo_placeOf 18 = .ok (.iload_n 1, 1) := by decide +kernel
theorem nd_Mo_placeOf_19 : decode nc_Mo_placeOf 19 = .ok (.iadd, 1) := by decide +kernel
theorem nd_Mo_placeOf_20 : decode nc_Mo_placeOf 20 = .ok (.if_icmp .ne 5, 3) := by decide +kernel
theorem nd_Mo_placeOf_23 : decode nc_Mo_placeOf 23 = .ok (.iload_n 2, 1) := by decide +kernel
theorem nd_Mo_placeOf_24 : decode nc_Mo_placeOf 24 = .ok (.ireturn, 1) := by decide +kernel
theorem nd_Mo_placeOf_25 : decode nc_Mo_placeOf 25 = .ok (.iinc 2 1, 3) := by decide +kernel
theorem nd_Mo_placeOf_28 : decode nc_Mo_placeOf 28 = .ok (.goto (-26), 3) := by decide +kernel
theorem nd_Mo_placeOf_31 : decode nc_Mo_placeOf 31 = .ok (.iconst (-1), 1) := by decide +kernel
theorem nd_Mo_placeOf_32 : decode nc_Mo_placeOf 32 = .ok (.ireturn, 1) := by decide +kernel
theorem nd_Mo_layOut_0 : decode nc_Mo_layOut 0 = .ok (.iconst 0, 1) := by decide +kernel
theorem nd_Mo_layOut_1 : decode nc_Mo_layOut 1 = .ok (.istore_n 1, 1) := by decide +kernel
theorem nd_Mo_layOut_2 : decode nc_Mo_layOut 2 = .ok (.iconst 0, 1) := by decide +kernel
theorem nd_Mo_layOut_3 : decode nc_Mo_layOut 3 = .ok (.istore_n 2, 1) := by decide +kernel
theorem nd_Mo_layOut_4 : decode nc_Mo_layOut 4 = .ok (.iload_n 2, 1) := by decide +kernel
theorem nd_Mo_layOut_5 : decode nc_Mo_layOut 5 = .ok (.aload_n 0, 1) := by decide +kernel
theorem nd_Mo_layOut_6 : decode nc_Mo_layOut 6 = .ok (.getfield 91, 3) := by decide +kernel
theorem nd_Mo_layOut_9 : decode nc_Mo_layOut 9 = .ok (.if_icmp .ge 279, 3) := by decide +kernel
theorem nd_Mo_layOut_12 : decode nc_Mo_layOut 12 = .ok (.aload_n 0, 1) := by decide +kernel
theorem nd_Mo_layOut_13 : decode nc_Mo_layOut 13 = .ok (.getfield 26, 3) := by decide +kernel
theorem nd_Mo_layOut_16 : decode nc_Mo_layOut 16 = .ok (.iload_n 2, 1) := by decide +kernel
theorem nd_Mo_layOut_17 : decode nc_Mo_layOut 17 = .ok (.iaload, 1) := by decide +kernel
theorem nd_Mo_layOut_18 : decode nc_Mo_layOut 18 = .ok (.bipush 124, 2) := by decide +kernel
theorem nd_Mo_layOut_20 : decode nc_Mo_layOut 20 = .ok (.if_icmp .ne 7, 3) := by decide +kernel
theorem nd_Mo_layOut_23 : decode nc_Mo_layOut 23 = .ok (.iconst 1, 1) := by decide +kernel
theorem nd_Mo_layOut_24 : decode nc_Mo_layOut 24 = .ok (.goto 4, 3) := by decide +kernel
theorem nd_Mo_layOut_27 : decode nc_Mo_layOut 27 = .ok (.iconst 0, 1) := by decide +kernel
theorem nd_Mo_layOut_28 : decode nc_Mo_layOut 28 = .ok (.istore_n 3, 1) := by decide +kernel
theorem nd_Mo_layOut_29 : decode nc_Mo_layOut 29 = .ok (.iload_n 3, 1) := by decide +kernel
theorem nd_Mo_layOut_30 : decode nc_Mo_layOut 30 = .ok (.ifCond .ne 14, 3) := by decide +kernel
theorem nd_Mo_layOut_33 : decode nc_Mo_layOut 33 = .ok (.aload_n 0, 1) := by decide +kernel
theorem nd_Mo_layOut_34 : decode nc_Mo_layOut 34 = .ok (.getfield 26, 3) := by decide +kernel
theorem nd_Mo_layOut_37 : decode nc_Mo_layOut 37 = .ok (.iload_n 2, 1) := by decide +kernel
theorem nd_Mo_layOut_38 : decode nc_Mo_layOut 38 = .ok (.iaload, 1) := by decide +kernel
theorem nd_Mo_layOut_39 : decode nc_Mo_layOut 39 = .ok (.bipush 45, 2) := by decide +kernel
theorem nd_Mo_layOut_41 : decode nc_Mo_layOut 41 = .ok (.if_icmp .ne 177, 3) := by decide +kernel
theorem nd_Mo_layOut_44 : decode nc_Mo_layOut 44 = .ok (.aload_n 0, 1) := by decide +kernel
theorem nd_Mo_layOut_45 : decode nc_Mo_layOut 45 = .ok (.getfield 62, 3) := by decide +kernel
theorem nd_Mo_layOut_48 : decode nc_Mo_layOut 48 = .ok (.iload_n 1, 1) := by decide +kernel
theorem nd_Mo_layOut_49 : decode nc_Mo_layOut 49 = .ok (.iconst 2, 1) := by decide +kernel
theorem nd_Mo_layOut_50 : decode nc_Mo_layOut 50 = .ok (.isub, 1) := by decide +kernel
theorem nd_Mo_layOut_51 : decode nc_Mo_layOut 51 = .ok (.iaload, 1) := by decide +kernel
theorem nd_Mo_layOut_52 : decode nc_Mo_layOut 52 = .ok (.istore 4, 2) := by decide +kernel
theorem nd_Mo_layOut_54 : decode nc_Mo_layOut 54 = .ok (.aload_n 0, 1) := by decide +kernel
theorem nd_Mo_layOut_55 : decode nc_Mo_layOut 55 = .ok (.getfield 62, 3) := by decide +kernel
theorem nd_Mo_layOut_58 : decode nc_Mo_layOut 58 = .ok (.iload_n 1, 1) := by decide +kernel
theorem nd_Mo_layOut_59 : decode nc_Mo_layOut 59 = .ok (.iconst 1, 1) := by decide +kernel
theorem nd_Mo_layOut_60 : decode nc_Mo_layOut 60 = .ok (.isub, 1) := by decide +kernel
theorem nd_Mo_layOut_61 : decode nc_Mo_layOut 61 = .ok (.iaload, 1) := by decide +kernel
theorem nd_Mo_layOut_62 : decode nc_Mo_layOut 62 = .ok (.istore 5, 2) := by decide +kernel
theorem nd_Mo_layOut_64 : decode nc_Mo_layOut 64 = .ok (.aload_n 0, 1) := by decide +kernel
theorem nd_Mo_layOut_65 : decode nc_Mo_layOut 65 = .ok (.getfield 56, 3) := by decide +kernel
theorem nd_Mo_layOut_68 : decode nc_Mo_layOut 68 = .ok (.iload_n 2, 1) := by decide +kernel
theorem nd_Mo_layOut_69 : decode nc_Mo_layOut 69 = .ok (.iload 4, 2) := by decide +kernel
theorem nd_Mo_layOut_71 : decode nc_Mo_layOut 71 = .ok (.iastore, 1) := by decide +kernel
theorem nd_Mo_layOut_72 : decode nc_Mo_layOut 72 = .ok (.aload_n 0, 1) := by decide +kernel
theorem nd_Mo_layOut_73 : decode nc_Mo_layOut 73 = .ok (.getfield 59, 3) := by decide +kernel
