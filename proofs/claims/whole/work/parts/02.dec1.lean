theorem nd_Pl_join_19 : decode nc_Pl_join 19 = .ok (.getfield 21, 3) := by decide +kernel
theorem nd_Pl_join_22 : decode nc_Pl_join 22 = .ok (.iload_n 1, 1) := by decide +kernel
theorem nd_Pl_join_23 : decode nc_Pl_join 23 = .ok (.invokevirtual 91, 3) := by decide +kernel
theorem nd_Pl_join_26 : decode nc_Pl_join 26 = .ok (.ifCond .eq 25, 3) := by decide +kernel
theorem nd_Pl_join_29 : decode nc_Pl_join 29 = .ok (.aload_n 0, 1) := by decide +kernel
theorem nd_Pl_join_30 : decode nc_Pl_join 30 = .ok (.getfield 21, 3) := by decide +kernel
theorem nd_Pl_join_33 : decode nc_Pl_join 33 = .ok (.iload_n 2, 1) := by decide +kernel
theorem nd_Pl_join_34 : decode nc_Pl_join 34 = .ok (.invokevirtual 91, 3) := by decide +kernel
theorem nd_Pl_join_37 : decode nc_Pl_join 37 = .ok (.ifCond .eq 14, 3) := by decide +kernel
theorem nd_Pl_join_40 : decode nc_Pl_join 40 = .ok (.aload_n 0, 1) := by decide +kernel
theorem nd_Pl_join_41 : decode nc_Pl_join 41 = .ok (.getfield 21, 3) := by decide +kernel
theorem nd_Pl_join_44 : decode nc_Pl_join 44 = .ok (.iload_n 3, 1) := by decide +kernel
theorem nd_Pl_join_45 : decode nc_Pl_join 45 = .ok (.invokevirtual 91, 3) := by decide +kernel
theorem nd_Pl_join_48 : decode nc_Pl_join 48 = .ok (.ifCond .ne 4, 3) := by decide +kernel
theorem nd_Pl_join_51 : decode nc_Pl_join 51 = .ok (.return_, 1) := by decide +kernel
theorem nd_Pl_join_52 : decode nc_Pl_join 52 = .ok (.aload_n 0, 1) := by decide +kernel
theorem nd_Pl_join_53 : decode nc_Pl_join 53 = .ok (.getfield 21, 3) := by decide +kernel
theorem nd_Pl_join_56 : decode nc_Pl_join 56 = .ok (.iload_n 1, 1) := by decide +kernel
theorem nd_Pl_join_57 : decode nc_Pl_join 57 = .ok (.invokevirtual 152, 3) := by decide +kernel
theorem nd_Pl_join_60 : decode nc_Pl_join 60 = .ok (.bipush 124, 2) := by decide +kernel
theorem nd_Pl_join_62 : decode nc_Pl_join 62 = .ok (.if_icmp .ne 27, 3) := by decide +kernel
theorem nd_Pl_join_65 : decode nc_Pl_join 65 = .ok (.aload_n 0, 1) := by decide +kernel
theorem nd_Pl_join_66 : decode nc_Pl_join 66 = .ok (.getfield 41, 3) := by decide +kernel
theorem nd_Pl_join_69 : decode nc_Pl_join 69 = .ok (.iload_n 1, 1) := by decide +kernel
theorem nd_Pl_join_70 : decode nc_Pl_join 70 = .ok (.aaload, 1) := by decide +kernel
theorem nd_Pl_join_71 : decode nc_Pl_join 71 = .ok (.aload_n 0, 1) := by decide +kernel
theorem nd_Pl_join_72 : decode nc_Pl_join 72 = .ok (.getfield 41, 3) := by decide +kernel
theorem nd_Pl_join_75 : decode nc_Pl_join 75 = .ok (.iload_n 2, 1) := by decide +kernel
theorem nd_Pl_join_76 : decode nc_Pl_join 76 = .ok (.aaload, 1) := by decide +kernel
theorem nd_Pl_join_77 : decode nc_Pl_join 77 = .ok (.aload_n 0, 1) := by decide +kernel
theorem nd_Pl_join_78 : decode nc_Pl_join 78 = .ok (.getfield 41, 3) := by decide +kernel
theorem nd_Pl_join_81 : decode nc_Pl_join 81 = .ok (.iload_n 3, 1) := by decide +kernel
theorem nd_Pl_join_82 : decode nc_Pl_join 82 = .ok (.aaload, 1) := by decide +kernel
theorem nd_Pl_join_83 : decode nc_Pl_join 83 = .ok (.invokevirtual 155, 3) := by decide +kernel
theorem nd_Pl_join_86 : decode nc_Pl_join 86 = .ok (.goto 24, 3) := by decide +kernel
theorem nd_Pl_join_89 : decode nc_Pl_join 89 = .ok (.aload_n 0, 1) := by decide +kernel
theorem nd_Pl_join_90 : decode nc_Pl_join 90 = .ok (.getfield 41, 3) := by decide +kernel
theorem nd_Pl_join_93 : decode nc_Pl_join 93 = .ok (.iload_n 1, 1) := by decide +kernel
theorem nd_Pl_join_94 : decode nc_Pl_join 94 = .ok (.aaload, 1) := by decide +kernel
theorem nd_Pl_join_95 : decode nc_Pl_join 95 = .ok (.aload_n 0, 1) := by decide +kernel
theorem nd_Pl_join_96 : decode nc_Pl_join 96 = .ok (.getfield 41, 3) := by decide +kernel
theorem nd_Pl_join_99 : decode nc_Pl_join 99 = .ok (.iload_n 2, 1) := by decide +kernel
theorem nd_Pl_join_100 : decode nc_Pl_join 100 = .ok (.aaload, 1) := by decide +kernel
theorem nd_Pl_join_101 : decode nc_Pl_join 101 = .ok (.aload_n 0, 1) := by decide +kernel
theorem nd_Pl_join_102 : decode nc_Pl_join 102 = .ok (.getfield 41, 3) := by decide +kernel
theorem nd_Pl_join_105 : decode nc_Pl_join 105 = .ok (.iload_n 3, 1) := by decide +kernel
theorem nd_Pl_join_106 : decode nc_Pl_join 106 = .ok (.aaload, 1) := by decide +kernel
theorem nd_Pl_join_107 : decode nc_Pl_join 107 = .ok (.invokevirtual 159, 3) := by decide +kernel
theorem nd_Pl_join_110 : decode nc_Pl_join 110 = .ok (.return_, 1) := by decide +kernel
theorem nd_Rl_sizesOf_0 : decode nc_Rl_sizesOf 0 = .ok (.iload_n 1, 1) := by decide +kernel
theorem nd_Rl_sizesOf_1 : decode nc_Rl_sizesOf 1 = .ok (.ifCond .lt 18, 3) := by decide +kernel
theorem nd_Rl_sizesOf_4 : decode nc_Rl_sizesOf 4 = .ok (.iload_n 1, 1) := by decide +kernel
theorem nd_Rl_sizesOf_5 : decode nc_Rl_sizesOf 5 = .ok (.bipush 6, 2) := by decide +kernel
theorem nd_Rl_sizesOf_7 : decode nc_Rl_sizesOf 7 = .ok (.if_icmp .ge 12, 3) := by decide +kernel
theorem nd_Rl_sizesOf_10 : decode nc_Rl_sizesOf 10 = .ok (.aload_n 0, 1) := by decide +kernel
theorem nd_Rl_sizesOf_11 : decode nc_Rl_sizesOf 11 = .ok (.getfield 15, 3) := by decide +kernel
theorem nd_Rl_sizesOf_14 : decode nc_Rl_sizesOf 14 = .ok (.iload_n 1, 1) := by decide +kernel
theorem nd_Rl_sizesOf_15 : decode nc_Rl_sizesOf 15 = .ok (.iaload, 1) := by decide +kernel
theorem nd_Rl_sizesOf_16 : decode nc_Rl_sizesOf 16 = .ok (.goto 4, 3) := by decide +kernel
theorem nd_Rl_sizesOf_19 : decode nc_Rl_sizesOf 19 = .ok (.iconst 0, 1) := by decide +kernel
theorem nd_Rl_sizesOf_20 : decode nc_Rl_sizesOf 20 = .ok (.ireturn, 1) := by decide +kernel
theorem nd_Rl_slot_0 : decode nc_Rl_slot 0 = .ok (.iload_n 0, 1) := by decide +kernel
theorem nd_Rl_slot_1 : decode nc_Rl_slot 1 = .ok (.ifCond .lt 22, 3) := by decide +kernel
theorem nd_Rl_slot_4 : decode nc_Rl_slot 4 = .ok (.iload_n 0, 1) := by decide +kernel
theorem nd_Rl_slot_5 : decode nc_Rl_slot 5 = .ok (.bipush 6, 2) := by decide +kernel
theorem nd_Rl_slot_7 : decode nc_Rl_slot 7 = .ok (.if_icmp .ge 16, 3) := by decide +kernel
theorem nd_Rl_slot_10 : decode nc_Rl_slot 10 = .ok (.iload_n 1, 1) := by decide +kernel
theorem nd_Rl_slot_11 : decode nc_Rl_slot 11 = .ok (.ifCond .lt 12, 3) := by decide +kernel
theorem nd_Rl_slot_14 : decode nc_Rl_slot 14 = .ok (.iload_n 1, 1) := by decide +kernel
theorem nd_Rl_slot_15 : decode nc_Rl_slot 15 = .ok (.iconst 4, 1) := by decide +kernel
theorem nd_Rl_slot_16 : decode nc_Rl_slot 16 = .ok (.if_icmp .ge 7, 3) := by decide +kernel
theorem nd_Rl_slot_19 : decode nc_Rl_slot 19 = .ok (.iconst 1, 1) := by decide +kernel
theorem nd_Rl_slot_20 : decode nc_Rl_slot 20 = .ok (.goto 4, 3) := by decide +kernel
theorem nd_Rl_slot_23 : decode nc_Rl_slot 23 = .ok (.iconst 0, 1) := by decide +kernel
theorem nd_Rl_slot_24 : decode nc_Rl_slot 24 = .ok (.istore_n 2, 1) := by decide +kernel
theorem nd_Rl_slot_25 : decode nc_Rl_slot 25 = .ok (.iload_n 2, 1) := by decide +kernel
theorem nd_Rl_slot_26 : decode nc_Rl_slot 26 = .ok (.ifCond .eq 11, 3) := by decide +kernel
theorem nd_Rl_slot_29 : decode nc_Rl_slot 29 = .ok (.iload_n 0, 1) := by decide +kernel
theorem nd_Rl_slot_30 : decode nc_Rl_slot 30 = .ok (.iconst 4, 1) := by decide +kernel
theorem nd_Rl_slot_31 : decode nc_Rl_slot 31 = .ok (.imul, 1) := by decide +kernel
theorem nd_Rl_slot_32 : decode nc_Rl_slot 32 = .ok (.iload_n 1, 1) := by decide +kernel
theorem nd_Rl_slot_33 : decode nc_Rl_slot 33 = .ok (.iadd, 1) := by decide +kernel
theorem nd_Rl_slot_34 : decode nc_Rl_slot 34 = .ok (.goto 4, 3) := by decide +kernel
theorem nd_Rl_slot_37 : decode nc_Rl_slot 37 = .ok (.iconst (-1), 1) := by decide +kernel
theorem nd_Rl_slot_38 : decode nc_Rl_slot 38 = .ok (.ireturn, 1) := by decide +kernel
theorem nd_Rl_widthOf_0 : decode nc_Rl_widthOf 0 = .ok (.iload_n 1, 1) := by decide +kernel
theorem nd_Rl_widthOf_1 : decode nc_Rl_widthOf 1 = .ok (.iload_n 2, 1) := by decide +kernel
theorem nd_Rl_widthOf_2 : decode nc_Rl_widthOf 2 = .ok (.invokestatic 29, 3) := by decide +kernel
theorem nd_Rl_widthOf_5 : decode nc_Rl_widthOf 5 = .ok (.istore_n 3, 1) := by decide +kernel
theorem nd_Rl_widthOf_6 : decode nc_Rl_widthOf 6 = .ok (.iload_n 3, 1) := by decide +kernel
theorem nd_Rl_widthOf_7 : decode nc_Rl_widthOf 7 = .ok (.iconst (-1), 1) := by decide +kernel
theorem nd_Rl_widthOf_8 : decode nc_Rl_widthOf 8 = .ok (.if_icmp .ne 7, 3) := by decide +kernel
theorem nd_Rl_widthOf_11 : decode nc_Rl_widthOf 11 = .ok (.iconst 0, 1) := by decide +kernel
theorem nd_Rl_widthOf_12 : decode nc_Rl_widthOf 12 = .ok (.goto 9, 3) := by decide +kernel
theorem nd_Rl_widthOf_15 : decode nc_Rl_widthOf 15 = .ok (.aload_n 0, 1) := by decide +kernel
theorem nd_Rl_widthOf_16 : decode nc_Rl_widthOf 16 = .ok (.getfield 19, 3) := by decide +kernel
theorem nd_Rl_widthOf_19 : decode nc_Rl_widthOf 19 = .ok (.iload_n 3, 1) := by decide +kernel
theorem nd_Rl_widthOf_20 : decode nc_Rl_widthOf 20 = .ok (.iaload, 1) := by decide +kernel
theorem nd_Rl_widthOf_21 : decode nc_Rl_widthOf 21 = .ok (.ireturn, 1) := by decide +kernel
theorem nd_Rl_heightOf_0 : decode nc_Rl_heightOf 0 = .ok (.iload_n 1, 1) := by decide +kernel
theorem nd_Rl_heightOf_1 : decode nc_Rl_heightOf 1 = .ok (.iload_n 2, 1) := by decide +kernel
theorem nd_Rl_heightOf_2 : decode nc_Rl_heightOf 2 = .ok (.invokestatic 29, 3) := by decide +kernel
theorem nd_Rl_heightOf_5 : decode nc_Rl_heightOf 5 = .ok (.istore_n 3, 1) := by decide +kernel
theorem nd_Rl_heightOf_6 : decode nc_Rl_heightOf 6 = .ok (.iload_n 3, 1) := by decide +kernel
theorem nd_Rl_heightOf_7 : decode nc_Rl_heightOf 7 = .ok (.iconst (-1), 1) := by decide +kernel
theorem nd_Rl_heightOf_8 : decode nc_Rl_heightOf 8 = .ok (.if_icmp .ne 7, 3) := by decide +kernel
theorem nd_Rl_heightOf_11 : decode nc_Rl_heightOf 11 = .ok (.iconst 0, 1) := by decide +kernel
theorem nd_Rl_heightOf_12 : decode nc_Rl_heightOf 12 = .ok (.goto 9, 3) := by decide +kernel
theorem nd_Rl_heightOf_15 : decode nc_Rl_heightOf 15 = .ok (.aload_n 0, 1) := by decide +kernel
theorem nd_Rl_heightOf_16 : decode nc_Rl_heightOf 16 = .ok (.getfield 22, 3) := by decide +kernel
theorem nd_Rl_heightOf_19 : decode nc_Rl_heightOf 19 = .ok (.iload_n 3, 1) := by decide +kernel
theorem nd_Rl_heightOf_20 : decode nc_Rl_heightOf 20 = .ok (.iaload, 1) := by decide +kernel
theorem nd_Rl_heightOf_21 : decode nc_Rl_heightOf 21 = .ok (.ireturn, 1) := by decide +kernel
theorem nd_Pl_takeSizes_0 : decode nc_Pl_takeSizes 0 = .ok (.aload_n 0, 1) := by decide +kernel
theorem nd_Pl_takeSizes_1 : decode nc_Pl_takeSizes 1 = .ok (.getfield 21, 3) := by decide +kernel
theorem nd_Pl_takeSizes_4 : decode nc_Pl_takeSizes 4 = .ok (.iload_n 1, 1) := by decide +kernel
theorem nd_Pl_takeSizes_5 : decode nc_Pl_takeSizes 5 = .ok (.invokevirtual 91, 3) := by decide +kernel
theorem nd_Pl_takeSizes_8 : decode nc_Pl_takeSizes 8 = .ok (.ifCond .ne 4, 3) := by decide +kernel
theorem nd_Pl_takeSizes_11 : decode nc_Pl_takeSizes 11 = .ok (.return_, 1) := by decide +kernel
theorem nd_Pl_takeSizes_12 : decode nc_Pl_takeSizes 12 = .ok (.aload_n 0, 1) := by decide +kernel
theorem nd_Pl_takeSizes_13 : decode nc_Pl_takeSizes 13 = .ok (.getfield 41, 3) := by decide +kernel
theorem nd_Pl_takeSizes_16 : decode nc_Pl_takeSizes 16 = .ok (.iload_n 1, 1) := by decide +kernel
theorem nd_Pl_takeSizes_17 : decode nc_Pl_takeSizes 17 = .ok (.aaload, 1) := by decide +kernel
theorem nd_Pl_takeSizes_18 : decode nc_Pl_takeSizes 18 = .ok (.invokevirtual 124, 3) := by decide +kernel
theorem nd_Pl_takeSizes_21 : decode nc_Pl_takeSizes 21 = .ok (.iconst 0, 1) := by decide +kernel
theorem nd_Pl_takeSizes_22 : decode nc_Pl_takeSizes 22 = .ok (.istore_n 3, 1) := by decide +kernel
theorem nd_Pl_takeSizes_23 : decode nc_Pl_takeSizes 23 = .ok (.iload_n 3, 1) := by decide +kernel
theorem nd_Pl_takeSizes_24 : decode nc_Pl_takeSizes 24 = .ok (.aload_n 0, 1) := by decide +kernel
theorem nd_Pl_takeSizes_25 : decode nc_Pl_takeSizes 25 = .ok (.getfield 12, 3) := by decide +kernel
theorem nd_Pl_takeSizes_28 : decode nc_Pl_takeSizes 28 = .ok (.iload_n 2, 1) := by decide +kernel
theorem nd_Pl_takeSizes_29 : decode nc_Pl_takeSizes 29 = .ok (.invokevirtual 134, 3) := by decide +kernel
theorem nd_Pl_takeSizes_32 : decode nc_Pl_takeSizes 32 = .ok (.if_icmp .ge 36, 3) := by decide +kernel
theorem nd_Pl_takeSizes_35 : decode nc_Pl_takeSizes 35 = .ok (.aload_n 0, 1) := by decide +kernel
theorem nd_Pl_takeSizes_36 : decode nc_Pl_takeSizes 36 = .ok (.getfield 41, 3) := by decide +kernel
theorem nd_Pl_takeSizes_39 : decode nc_Pl_takeSizes 39 = .ok (.iload_n 1, 1) := by decide +kernel
theorem nd_Pl_takeSizes_40 : decode nc_Pl_takeSizes 40 = .ok (.aaload, 1) := by decide +kernel
theorem nd_Pl_takeSizes_41 : decode nc_Pl_takeSizes 41 = .ok (.aload_n 0, 1) := by decide +kernel
theorem nd_Pl_takeSizes_42 : decode nc_Pl_takeSizes 42 = .ok (.getfield 12, 3) := by decide +kernel
theorem nd_Pl_takeSizes_45 : decode nc_Pl_takeSizes 45 = .ok (.iload_n 2, 1) := by decide +kernel
theorem nd_Pl_takeSizes_46 : decode nc_Pl_takeSizes 46 = .ok (.iload_n 3, 1) := by decide +kernel
theorem nd_Pl_takeSizes_47 : decode nc_Pl_takeSizes 47 = .ok (.invokevirtual 137, 3) := by decide +kernel
theorem nd_Pl_takeSizes_50 : decode nc_Pl_takeSizes 50 = .ok (.aload_n 0, 1) := by decide +kernel
theorem nd_Pl_takeSizes_51 : decode nc_Pl_takeSizes 51 = .ok (.getfield 12, 3) := by decide +kernel
theorem nd_Pl_takeSizes_54 : decode nc_Pl_takeSizes 54 = .ok (.iload_n 2, 1) := by decide +kernel
theorem nd_Pl_takeSizes_55 : decode nc_Pl_takeSizes 55 = .ok (.iload_n 3, 1) := by decide +kernel
theorem nd_Pl_takeSizes_56 : decode nc_Pl_takeSizes 56 = .ok (.invokevirtual 140, 3) := by decide +kernel
theorem nd_Pl_takeSizes_59 : decode nc_Pl_takeSizes 59 = .ok (.invokevirtual 143, 3) := by decide +kernel
theorem nd_Pl_takeSizes_62 : decode nc_Pl_takeSizes 62 = .ok (.iinc 3 1, 3) := by decide +kernel
theorem nd_Pl_takeSizes_65 : decode nc_Pl_takeSizes 65 = .ok (.goto (-42), 3) := by decide +kernel
theorem nd_Pl_takeSizes_68 : decode nc_Pl_takeSizes 68 = .ok (.return_, 1) := by decide +kernel
theorem nd_Pl_measure_0 : decode nc_Pl_measure 0 = .ok (.aload_n 0, 1) := by decide +kernel
theorem nd_Pl_measure_1 : decode nc_Pl_measure 1 = .ok (.getfield 32, 3) := by decide +kernel
theorem nd_Pl_measure_4 : decode nc_Pl_measure 4 = .ok (.ifCond .eq 4, 3) := by decide +kernel
theorem nd_Pl_measure_7 : decode nc_Pl_measure 7 = .ok (.return_, 1) := by decide +kernel
theorem nd_Pl_measure_8 : decode nc_Pl_measure 8 = .ok (.iconst 0, 1) := by decide +kernel
theorem nd_Pl_measure_9 : decode nc_Pl_measure 9 = .ok (.istore_n 1, 1) := by decide +kernel
theorem nd_Pl_measure_10 : decode nc_Pl_measure 10 = .ok (.iload_n 1, 1) := by decide +kernel
theorem nd_Pl_measure_11 : decode nc_Pl_measure 11 = .ok (.aload_n 0, 1) := by decide +kernel
theorem nd_Pl_measure_12 : decode nc_Pl_measure 12 = .ok (.getfield 21, 3) := by decide +kernel
theorem nd_Pl_measure_15 : decode nc_Pl_measure 15 = .ok (.getfield 110, 3) := by decide +kernel
theorem nd_Pl_measure_18 : decode nc_Pl_measure 18 = .ok (.if_icmp .ge 37, 3) := by decide +kernel
theorem nd_Pl_measure_21 : decode nc_Pl_measure 21 = .ok (.aload_n 0, 1) := by decide +kernel
theorem nd_Pl_measure_22 : decode nc_Pl_measure 22 = .ok (.getfield 21, 3) := by decide +kernel
theorem nd_Pl_measure_25 : decode nc_Pl_measure 25 = .ok (.iload_n 1, 1) := by decide +kernel
theorem nd_Pl_measure_26 : decode nc_Pl_measure 26 = .ok (.invokevirtual 113, 3) := by decide +kernel
theorem nd_Pl_measure_29 : decode nc_Pl_measure 29 = .ok (.istore_n 2, 1) := by decide +kernel
theorem nd_Pl_measure_30 : decode nc_Pl_measure 30 = .ok (.iload_n 2, 1) := by decide +kernel
theorem nd_Pl_measure_31 : decode nc_Pl_measure 31 = .ok (.iconst (-1), 1) := by decide +kernel
theorem nd_Pl_measure_32 : decode nc_Pl_measure 32 = .ok (.if_icmp .ne 11, 3) := by decide +kernel
theorem nd_Pl_measure_35 : decode nc_Pl_measure 35 = .ok (.aload_n 0, 1) := by decide +kernel
theorem nd_Pl_measure_36 : decode nc_Pl_measure 36 = .ok (.iload_n 1, 1) := by decide +kernel
theorem nd_Pl_measure_37 : decode nc_Pl_measure 37 = .ok (.invokevirtual 116, 3) := by decide +kernel
theorem nd_Pl_measure_40 : decode nc_Pl_measure 40 = .ok (.goto 9, 3) := by decide +kernel
theorem nd_Pl_measure_43 : decode nc_Pl_measure 43 = .ok (.aload_n 0, 1) := by decide +kernel
theorem nd_Pl_measure_44 : decode nc_Pl_measure 44 = .ok (.iload_n 1, 1) := by decide +kernel
theorem nd_Pl_measure_45 : decode nc_Pl_measure 45 = .ok (.iload_n 2, 1) := by decide +kernel
theorem nd_Pl_measure_46 : decode nc_Pl_measure 46 = .ok (.invokevirtual 120, 3) := by decide +kernel
theorem nd_Pl_measure_49 : decode nc_Pl_measure 49 = .ok (.iinc 1 1, 3) := by decide +kernel
theorem nd_Pl_measure_52 : decode nc_Pl_measure 52 = .ok (.goto (-42), 3) := by decide +kernel
theorem nd_Pl_measure_55 : decode nc_Pl_measure 55 = .ok (.aload_n 0, 1) := by decide +kernel
theorem nd_Pl_measure_56 : decode nc_Pl_measure 56 = .ok (.getfield 21, 3) := by decide +kernel
theorem nd_Pl_measure_59 : decode nc_Pl_measure 59 = .ok (.getfield 110, 3) := by decide +kernel
theorem nd_Pl_measure_62 : decode nc_Pl_measure 62 = .ok (.iconst 1, 1) := by decide +kernel
theorem nd_Pl_measure_63 : decode nc_Pl_measure 63 = .ok (.isub, 1) := by decide +kernel
theorem nd_Pl_measure_64 : decode nc_Pl_measure 64 = .ok (.istore_n 1, 1) := by decide +kernel
theorem nd_Pl_measure_65 : decode nc_Pl_measure 65 = .ok (.aload_n 0, 1) := by decide +kernel
theorem nd_Pl_measure_66 : decode nc_Pl_measure 66 = .ok (.getfield 46, 3) := by decide +kernel
theorem nd_Pl_measure_69 : decode nc_Pl_measure 69 = .ok (.invokevirtual 124, 3) := by decide +kernel
theorem nd_Pl_measure_72 : decode nc_Pl_measure 72 = .ok (.aload_n 0, 1) := by decide +kernel
theorem nd_Pl_measure_73 : decode nc_Pl_measure 73 = .ok (.getfield 21, 3) := by decide +kernel
theorem nd_Pl_measure_76 : decode nc_Pl_measure 76 = .ok (.iload_n 1, 1) := by decide +kernel
theorem nd_Pl_measure_77 : decode nc_Pl_measure 77 = .ok (.invokevirtual 91, 3) := by decide +kernel
theorem nd_Pl_measure_80 : decode nc_Pl_measure 80 = .ok (.ifCond .eq 24, 3) := by decide +kernel
theorem nd_Pl_measure_83 : decode nc_Pl_measure 83 = .ok (.aload_n 0, 1) := by decide +kernel
theorem nd_Pl_measure_84 : decode nc_Pl_measure 84 = .ok (.getfield 46, 3) := by decide +kernel
theorem nd_Pl_measure_87 : decode nc_Pl_measure 87 = .ok (.aload_n 0, 1) := by decide +kernel
theorem nd_Pl_measure_88 : decode nc_Pl_measure 88 = .ok (.getfield 41, 3) := by decide +kernel
theorem nd_Pl_measure_91 : decode nc_Pl_measure 91 = .ok (.iload_n 1, 1) := by decide +kernel
theorem nd_Pl_measure_92 : decode nc_Pl_measure 92 = .ok (.aaload, 1) := by decide +kernel
theorem nd_Pl_measure_93 : decode nc_Pl_measure 93 = .ok (.aload_n 0, 1) := by decide +kernel
theorem nd_Pl_measure_94 : decode nc_Pl_measure 94 = .ok (.getfield 25, 3) := by decide +kernel
theorem nd_Pl_measure_97 : decode nc_Pl_measure 97 = .ok (.aload_n 0, 1) := by decide +kernel
theorem nd_Pl_measure_98 : decode nc_Pl_measure 98 = .ok (.getfield 29, 3) := by decide +kernel
theorem nd_Pl_measure_101 : decode nc_Pl_measure 101 = .ok (.invokevirtual 127, 3) := by decide +kernel
theorem nd_Pl_measure_104 : decode nc_Pl_measure 104 = .ok (.aload_n 0, 1) := by decide +kernel
theorem nd_Pl_measure_105 : decode nc_Pl_measure 105 = .ok (.aload_n 0, 1) := by decide +kernel
theorem nd_Pl_measure_106 : decode nc_Pl_measure 106 = .ok (.getfield 46, 3) := by decide +kernel
theorem nd_Pl_measure_109 : decode nc_Pl_measure 109 = .ok (.invokevirtual 131, 3) := by decide +kernel
theorem nd_Pl_measure_112 : decode nc_Pl_measure 112 = .ok (.putfield 50, 3) := by decide +kernel
theorem nd_Pl_measure_115 : decode nc_Pl_measure 115 = .ok (.aload_n 0, 1) := by decide +kernel
theorem nd_Pl_measure_116 : decode nc_Pl_measure 116 = .ok (.iconst 1, 1) := by decide +kernel
theorem nd_Pl_measure_117 : decode nc_Pl_measure 117 = .ok (.putfield 32, 3) := by decide +kernel
theorem nd_Pl_measure_120 : decode nc_Pl_measure 120 = .ok (.return_, 1) := by decide +kernel
theorem nd_St_parentOf_0 : decode nc_St_parentOf 0 = .ok (.aload_n 0, 1) := by decide +kernel
theorem nd_St_parentOf_1 : decode nc_St_parentOf 1 = .ok (.iload_n 1, 1) := by decide +kernel
theorem nd_St_parentOf_2 : decode nc_St_parentOf 2 = .ok (.invokevirtual 65, 3) := by decide +kernel
theorem nd_St_parentOf_5 : decode nc_St_parentOf 5 = .ok (.ifCond .eq 12, 3) := by decide +kernel
theorem nd_St_parentOf_8 : decode nc_St_parentOf 8 = .ok (.aload_n 0, 1) := by decide +kernel
theorem nd_St_parentOf_9 : decode nc_St_parentOf 9 = .ok (.getfield 25, 3) := by decide +kernel
theorem nd_St_parentOf_12 : decode nc_St_parentOf 12 = .ok (.iload_n 1, 1) := by decide +kernel
theorem nd_St_parentOf_13 : decode nc_St_parentOf 13 = .ok (.iaload, 1) := by decide +kernel
theorem nd_St_parentOf_14 : decode nc_St_parentOf 14 = .ok (.goto 4, 3) := by decide +kernel
theorem nd_St_parentOf_17 : decode nc_St_parentOf 17 = .ok (.iconst (-1), 1) := by decide +kernel
theorem nd_St_parentOf_18 : decode nc_St_parentOf 18 = .ok (.ireturn, 1) := by decide +kernel
theorem nd_Pl_pin_0 : decode nc_Pl_pin 0 = .ok (.aload_n 0, 1) := by decide +kernel
theorem nd_Pl_pin_1 : decode nc_Pl_pin 1 = .ok (.getfield 41, 3) := by decide +kernel
theorem nd_Pl_pin_4 : decode nc_Pl_pin 4 = .ok (.iload_n 1, 1) := by decide +kernel
theorem nd_Pl_pin_5 : decode nc_Pl_pin 5 = .ok (.aaload, 1) := by decide +kernel
theorem nd_Pl_pin_6 : decode nc_Pl_pin 6 = .ok (.invokevirtual 124, 3) := by decide +kernel
theorem nd_Pl_pin_9 : decode nc_Pl_pin 9 = .ok (.aload_n 0, 1) := by decide +kernel
theorem nd_Pl_pin_10 : decode nc_Pl_pin 10 = .ok (.getfield 41, 3) := by decide +kernel
theorem nd_Pl_pin_13 : decode nc_Pl_pin 13 = .ok (.iload_n 1, 1) := by decide +kernel
theorem nd_Pl_pin_14 : decode nc_Pl_pin 14 = .ok (.aaload, 1) := by decide +kernel
theorem nd_Pl_pin_15 : decode nc_Pl_pin 15 = .ok (.iload_n 2, 1) := by decide +kernel
theorem nd_Pl_pin_16 : decode nc_Pl_pin 16 = .ok (.iload_n 3, 1) := by decide +kernel
theorem nd_Pl_pin_17 : decode nc_Pl_pin 17 = .ok (.invokevirtual 180, 3) := by decide +kernel
theorem nd_Pl_pin_20 : decode nc_Pl_pin 20 = .ok (.aload_n 0, 1) := by decide +kernel
theorem nd_Pl_pin_21 : decode nc_Pl_pin 21 = .ok (.getfield 21, 3) := by decide +kernel
theorem nd_Pl_pin_24 : decode nc_Pl_pin 24 = .ok (.iload_n 1, 1) := by decide +kernel
theorem nd_Pl_pin_25 : decode nc_Pl_pin 25 = .ok (.invokevirtual 183, 3) := by decide +kernel
theorem nd_Pl_pin_28 : decode nc_Pl_pin 28 = .ok (.istore 4, 2) := by decide +kernel
theorem nd_Pl_pin_30 : decode nc_Pl_pin 30 = .ok (.iconst 0, 1) := by decide +kernel
theorem nd_Pl_pin_31 : decode nc_Pl_pin 31 = .ok (.istore 5, 2) := by decide +kernel
theorem nd_Pl_pin_33 : decode nc_Pl_pin 33 = .ok (.iload 5, 2) := by decide +kernel
theorem nd_Pl_pin_35 : decode nc_Pl_pin 35 = .ok (.bipush 11, 2) := by decide +kernel
theorem nd_Pl_pin_37 : decode nc_Pl_pin 37 = .ok (.if_icmp .ge 32, 3) := by decide +kernel
theorem nd_Pl_pin_40 : decode nc_Pl_pin 40 = .ok (.iload 4, 2) := by decide +kernel
theorem nd_Pl_pin_42 : decode nc_Pl_pin 42 = .ok (.iconst (-1), 1) := by decide +kernel
theorem nd_Pl_pin_43 : decode nc_Pl_pin 43 = .ok (.if_icmp .eq 26, 3) := by decide +kernel
theorem nd_Pl_pin_46 : decode nc_Pl_pin 46 = .ok (.aload_n 0, 1) := by decide +kernel
theorem nd_Pl_pin_47 : decode nc_Pl_pin 47 = .ok (.iload 4, 2) := by decide +kernel
theorem nd_Pl_pin_49 : decode nc_Pl_pin 49 = .ok (.invokevirtual 116, 3) := by decide +kernel
theorem nd_Pl_pin_52 : decode nc_Pl_pin 52 = .ok (.aload_n 0, 1) := by decide +kernel
theorem nd_Pl_pin_53 : decode nc_Pl_pin 53 = .ok (.getfield 21, 3) := by decide +kernel
theorem nd_Pl_pin_56 : decode nc_Pl_pin 56 = .ok (.iload 4, 2) := by decide +kernel
theorem nd_Pl_pin_58 : decode nc_Pl_pin 58 = .ok (.invokevirtual 183, 3) := by decide +kernel
theorem nd_Pl_pin_61 : decode nc_Pl_pin 61 = .ok (.istore 4, 2) := by decide +kernel
theorem nd_Pl_pin_63 : decode nc_Pl_pin 63 = .ok (.iinc 5 1, 3) := by decide +kernel
theorem nd_Pl_pin_66 : decode nc_Pl_pin 66 = .ok (.goto (-33), 3) := by decide +kernel
theorem nd_Pl_pin_69 : decode nc_Pl_pin 69 = .ok (.return_, 1) := by decide +kernel
theorem nd_Pl_chooseFirstSize_0 : decode nc_Pl_chooseFirstSize 0 = .ok (.aload_n 0, 1) := by decide +kernel
theorem nd_Pl_chooseFirstSize_1 : decode nc_Pl_chooseFirstSize 1 = .ok (.getfield 21, 3) := by decide +kernel
theorem nd_Pl_chooseFirstSize_4 : decode nc_Pl_chooseFirstSize 4 = .ok (.getfield 110, 3) := by decide +kernel
theorem nd_Pl_chooseFirstSize_7 : decode nc_Pl_chooseFirstSize 7 = .ok (.iconst 1, 1) := by decide +kernel
theorem nd_Pl_chooseFirstSize_8 : decode nc_Pl_chooseFirstSize 8 = .ok (.isub, 1) := by decide +kernel
theorem nd_Pl_chooseFirstSize_9 : decode nc_Pl_chooseFirstSize 9 = .ok (.istore_n 3, 1) := by decide +kernel
theorem nd_Pl_chooseFirstSize_10 : decode nc_Pl_chooseFirstSize 10 = .ok (.aload_n 0, 1) := by decide +kernel
theorem nd_Pl_chooseFirstSize_11 : decode nc_Pl_chooseFirstSize 11 = .ok (.getfield 21, 3) := by decide +kernel
theorem nd_Pl_chooseFirstSize_14 : decode nc_Pl_chooseFirstSize 14 = .ok (.iload_n 1, 1) := by decide +kernel
theorem nd_Pl_chooseFirstSize_15 : decode nc_Pl_chooseFirstSize 15 = .ok (.invokevirtual 91, 3) := by decide +kernel
theorem nd_Pl_chooseFirstSize_18 : decode nc_Pl_chooseFirstSize 18 = .ok (.ifCond .eq 14, 3) := by decide +kernel
theorem nd_Pl_chooseFirstSize_21 : decode nc_Pl_chooseFirstSize 21 = .ok (.aload_n 0, 1) := by decide +kernel
theorem nd_Pl_chooseFirstSize_22 : decode nc_Pl_chooseFirstSize 22 = .ok (.getfield 21, 3) := by decide +kernel
theorem nd_Pl_chooseFirstSize_25 : decode nc_Pl_chooseFirstSize 25 = .ok (.iload_n 3, 1) := by decide +kernel
theorem nd_Pl_chooseFirstSize_26 : decode nc_Pl_chooseFirstSize 26 = .ok (.invokevirtual 91, 3) := by decide +kernel
theorem nd_Pl_chooseFirstSize_29 : decode nc_Pl_chooseFirstSize 29 = .ok (.ifCond .ne 4, 3) := by decide +kernel
theorem nd_Pl_chooseFirstSize_32 : decode nc_Pl_chooseFirstSize 32 = .ok (.return_, 1) := by decide +kernel
theorem nd_Pl_chooseFirstSize_33 : decode nc_Pl_chooseFirstSize 33 = .ok (.aload_n 0, 1) := by decide +kernel
theorem nd_Pl_chooseFirstSize_34 : decode nc_Pl_chooseFirstSize 34 = .ok (.getfield 41, 3) := by decide +kernel
theorem nd_Pl_chooseFirstSize_37 : decode nc_Pl_chooseFirstSize 37 = .ok (.iload_n 3, 1) := by decide +kernel
theorem nd_Pl_chooseFirstSize_38 : decode nc_Pl_chooseFirstSize 38 = .ok (.aaload, 1) := by decide +kernel
theorem nd_Pl_chooseFirstSize_39 : decode nc_Pl_chooseFirstSize 39 = .ok (.astore 4, 2) := by decide +kernel
theorem nd_Pl_chooseFirstSize_41 : decode nc_Pl_chooseFirstSize 41 = .ok (.aload_n 0, 1) := by decide +kernel
theorem nd_Pl_chooseFirstSize_42 : decode nc_Pl_chooseFirstSize 42 = .ok (.invokevirtual 77, 3) := by decide +kernel
theorem nd_Pl_chooseFirstSize_45 : decode nc_Pl_chooseFirstSize 45 = .ok (.istore 5, 2) := by decide +kernel
theorem nd_Pl_chooseFirstSize_47 : decode nc_Pl_chooseFirstSize 47 = .ok (.aload_n 0, 1) := by decide +kernel
theorem nd_Pl_chooseFirstSize_48 : decode nc_Pl_chooseFirstSize 48 = .ok (.invokevirtual 81, 3) := by decide +kernel
theorem nd_Pl_chooseFirstSize_51 : decode nc_Pl_chooseFirstSize 51 = .ok (.istore 6, 2) := by decide +kernel
theorem nd_Pl_chooseFirstSize_53 : decode nc_Pl_chooseFirstSize 53 = .ok (.iconst 0, 1) := by decide +kernel
theorem nd_Pl_chooseFirstSize_54 : decode nc_Pl_chooseFirstSize 54 = .ok (.istore 7, 2) := by decide +kernel
theorem nd_Pl_chooseFirstSize_56 : decode nc_Pl_chooseFirstSize 56 = .ok (.iload 7, 2) := by decide +kernel
theorem nd_Pl_chooseFirstSize_58 : decode nc_Pl_chooseFirstSize 58 = .ok (.aload_n 0, 1) := by decide +kernel
theorem nd_Pl_chooseFirstSize_59 : decode nc_Pl_chooseFirstSize 59 = .ok (.getfield 12, 3) := by decide +kernel
theorem nd_Pl_chooseFirstSize_62 : decode nc_Pl_chooseFirstSize 62 = .ok (.iload_n 2, 1) := by decide +kernel
theorem nd_Pl_chooseFirstSize_63 : decode nc_Pl_chooseFirstSize 63 = .ok (.invokevirtual 134, 3) := by decide +kernel
theorem nd_Pl_chooseFirstSize_66 : decode nc_Pl_chooseFirstSize 66 = .ok (.if_icmp .ge 55, 3) := by decide +kernel
theorem nd_Pl_chooseFirstSize_69 : decode nc_Pl_chooseFirstSize 69 = .ok (.aload_n 0, 1) := by decide +kernel
theorem nd_Pl_chooseFirstSize_70 : decode nc_Pl_chooseFirstSize 70 = .ok (.getfield 53, 3) := by decide +kernel
theorem nd_Pl_chooseFirstSize_73 : decode nc_Pl_chooseFirstSize 73 = .ok (.iload_n 1, 1) := by decide +kernel
theorem nd_Pl_chooseFirstSize_74 : decode nc_Pl_chooseFirstSize 74 = .ok (.iload 7, 2) := by decide +kernel
theorem nd_Pl_chooseFirstSize_76 : decode nc_Pl_chooseFirstSize 76 = .ok (.iastore, 1) := by decide +kernel
theorem nd_Pl_chooseFirstSize_77 : decode nc_Pl_chooseFirstSize 77 = .ok (.aload_n 0, 1) := by decide +kernel
theorem nd_Pl_chooseFirstSize_78 : decode nc_Pl_chooseFirstSize 78 = .ok (.iload_n 1, 1) := by decide +kernel
theorem nd_Pl_chooseFirstSize_79 : decode nc_Pl_chooseFirstSize 79 = .ok (.aload_n 0, 1) := by decide +kernel
theorem nd_Pl_chooseFirstSize_80 : decode nc_Pl_chooseFirstSize 80 = .ok (.getfield 12, 3) := by decide +kernel
theorem nd_Pl_chooseFirstSize_83 : decode nc_Pl_chooseFirstSize 83 = .ok (.iload_n 2, 1) := by decide +kernel
theorem nd_Pl_chooseFirstSize_84 : decode nc_Pl_chooseFirstSize 84 = .ok (.iload 7, 2) := by decide +kernel
theorem nd_Pl_chooseFirstSize_86 : decode nc_Pl_chooseFirstSize 86 = .ok (.invokevirtual 137, 3) := by decide +kernel
theorem nd_Pl_chooseFirstSize_89 : decode nc_Pl_chooseFirstSize 89 = .ok (.aload_n 0, 1) := by decide +kernel
theorem nd_Pl_chooseFirstSize_90 : decode nc_Pl_chooseFirstSize 90 = .ok (.getfield 12, 3) := by decide +kernel
theorem nd_Pl_chooseFirstSize_93 : decode nc_Pl_chooseFirstSize 93 = .ok (.iload_n 2, 1) := by decide +kernel
theorem nd_Pl_chooseFirstSize_94 : decode nc_Pl_chooseFirstSize 94 = .ok (.iload 7, 2) := by decide +kernel
theorem nd_Pl_chooseFirstSize_96 : decode nc_Pl_chooseFirstSize 96 = .ok (.invokevirtual 140, 3) := by decide +kernel
theorem nd_Pl_chooseFirstSize_99 : decode nc_Pl_chooseFirstSize 99 = .ok (.invokevirtual 172, 3) := by decide +kernel
theorem nd_Pl_chooseFirstSize_102 : decode nc_Pl_chooseFirstSize 102 = .ok (.aload 4, 2) := by decide +kernel
theorem nd_Pl_chooseFirstSize_104 : decode nc_Pl_chooseFirstSize 104 = .ok (.iload 5, 2) := by decide +kernel
theorem nd_Pl_chooseFirstSize_106 : decode nc_Pl_chooseFirstSize 106 = .ok (.iload 6, 2) := by decide +kernel
theorem nd_Pl_chooseFirstSize_108 : decode nc_Pl_chooseFirstSize 108 = .ok (.invokevirtual 176, 3) := by decide +kernel
theorem nd_Pl_chooseFirstSize_111 : decode nc_Pl_chooseFirstSize 111 = .ok (.ifCond .eq 4, 3) := by decide +kernel
theorem nd_Pl_chooseFirstSize_114 : decode nc_Pl_chooseFirstSize 114 = .ok (.return_, 1) := by decide +kernel
theorem nd_Pl_chooseFirstSize_115 : decode nc_Pl_chooseFirstSize 115 = .ok (.iinc 7 1, 3) := by decide +kernel
theorem nd_Pl_chooseFirstSize_118 : decode nc_Pl_chooseFirstSize 118 = .ok (.goto (-62), 3) := by decide +kernel
theorem nd_Pl_chooseFirstSize_121 : decode nc_Pl_chooseFirstSize 121 = .ok (.return_, 1) := by decide +kernel
theorem nd_Pl_setCornersOfParts_0 : decode nc_Pl_setCornersOfParts 0 = .ok (.aload_n 0, 1) := by decide +kernel
theorem nd_Pl_setCornersOfParts_1 : decode nc_Pl_setCornersOfParts 1 = .ok (.getfield 21, 3) := by decide +kernel
theorem nd_Pl_setCornersOfParts_4 : decode nc_Pl_setCornersOfParts 4 = .ok (.iload_n 1, 1) := by decide +kernel
theorem nd_Pl_setCornersOfParts_5 : decode nc_Pl_setCornersOfParts 5 = .ok (.invokevirtual 91, 3) := by decide +kernel
theorem nd_Pl_setCornersOfParts_8 : decode nc_Pl_setCornersOfParts 8 = .ok (.ifCond .eq 25, 3) := by decide +kernel
theorem nd_Pl_setCornersOfParts_11 : decode nc_Pl_setCornersOfParts 11 = .ok (.aload_n 0, 1) := by decide +kernel
theorem nd_Pl_setCornersOfParts_12 : decode nc_Pl_setCornersOfParts 12 = .ok (.getfield 21, 3) := by decide +kernel
theorem nd_Pl_setCornersOfParts_15 : decode nc_Pl_setCornersOfParts 15 = .ok (.iload_n 2, 1) := by decide +kernel
theorem nd_Pl_setCornersOfParts_16 : decode nc_Pl_setCornersOfParts 16 = .ok (.invokevirtual 91, 3) := by decide +kernel
theorem nd_Pl_setCornersOfParts_19 : decode nc_Pl_setCornersOfParts 19 = .ok (.ifCond .eq 14, 3) := by decide +kernel
theorem nd_Pl_setCornersOfParts_22 : decode nc_Pl_setCornersOfParts 22 = .ok (.aload_n 0, 1) := by decide +kernel
theorem nd_Pl_setCornersOfParts_23 : decode nc_Pl_setCornersOfParts 23 = .ok (.getfield 21, 3) := by decide +kernel
theorem nd_Pl_setCornersOfParts_26 : decode nc_Pl_setCornersOfParts 26 = .ok (.iload_n 3, 1) := by decide +kernel
theorem nd_Pl_setCornersOfParts_27 : decode nc_Pl_setCornersOfParts 27 = .ok (.invokevirtual 91, 3) := by decide +kernel
theorem nd_Pl_setCornersOfParts_30 : decode nc_Pl_setCornersOfParts 30 = .ok (.ifCond .ne 4, 3) := by decide +kernel
theorem nd_Pl_setCornersOfParts_33 : decode nc_Pl_setCornersOfParts 33 = .ok (.return_, 1) := by decide +kernel
theorem nd_Pl_setCornersOfParts_34 : decode nc_Pl_setCornersOfParts 34 = .ok (.aload_n 0, 1) := by decide +kernel
theorem nd_Pl_setCornersOfParts_35 : decode nc_Pl_setCornersOfParts 35 = .ok (.getfield 21, 3) := by decide +kernel
theorem nd_Pl_setCornersOfParts_38 : decode nc_Pl_setCornersOfParts 38 = .ok (.iload_n 1, 1) := by decide +kernel
theorem nd_Pl_setCornersOfParts_39 : decode nc_Pl_setCornersOfParts 39 = .ok (.invokevirtual 152, 3) := by decide +kernel
theorem nd_Pl_setCornersOfParts_42 : decode nc_Pl_setCornersOfParts 42 = .ok (.bipush 124, 2) := by decide +kernel
theorem nd_Pl_setCornersOfParts_44 : decode nc_Pl_setCornersOfParts 44 = .ok (.if_icmp .ne 7, 3) := by decide +kernel
theorem nd_Pl_setCornersOfParts_47 : decode nc_Pl_setCornersOfParts 47 = .ok (.iconst 1, 1) := by decide +kernel
theorem nd_Pl_setCornersOfParts_48 : decode nc_Pl_setCornersOfParts 48 = .ok (.goto 4, 3) := by decide +kernel
theorem nd_Pl_setCornersOfParts_51 : decode nc_Pl_setCornersOfParts 51 = .ok (.iconst 0, 1) := by decide +kernel
theorem nd_Pl_setCornersOfParts_52 : decode nc_Pl_setCornersOfParts 52 = .ok (.istore 4, 2) := by decide +kernel
theorem nd_Pl_setCornersOfParts_54 : decode nc_Pl_setCornersOfParts 54 = .ok (.aload_n 0, 1) := by decide +kernel
theorem nd_Pl_setCornersOfParts_55 : decode nc_Pl_setCornersOfParts 55 = .ok (.getfield 57, 3) := by decide +kernel
theorem nd_Pl_setCornersOfParts_58 : decode nc_Pl_setCornersOfParts 58 = .ok (.iload_n 2, 1) := by decide +kernel
theorem nd_Pl_setCornersOfParts_59 : decode nc_Pl_setCornersOfParts 59 = .ok (.aload_n 0, 1) := by decide +kernel
theorem nd_Pl_setCornersOfParts_60 : decode nc_Pl_setCornersOfParts 60 = .ok (.getfield 57, 3) := by decide +kernel
theorem nd_Pl_setCornersOfParts_63 : decode nc_Pl_setCornersOfParts 63 = .ok (.iload_n 1, 1) := by decide +kernel
theorem nd_Pl_setCornersOfParts_64 : decode nc_Pl_setCornersOfParts 64 = .ok (.iaload, 1) := by decide +kernel
theorem nd_Pl_setCornersOfParts_65 : decode nc_Pl_setCornersOfParts 65 = .ok (.iastore, 1) := by decide +kernel
theorem nd_Pl_setCornersOfParts_66 : decode nc_Pl_setCornersOfParts 66 = .ok (.aload_n 0, 1) := by decide +kernel
theorem nd_Pl_setCornersOfParts_67 : decode nc_Pl_setCornersOfParts 67 = .ok (.getfield 60, 3) := by decide +kernel
theorem nd_Pl_setCornersOfParts_70 : decode nc_Pl_setCornersOfParts 70 = .ok (.iload_n 2, 1) := by decide +kernel
theorem nd_Pl_setCornersOfParts_71 : decode nc_Pl_setCornersOfParts 71 = .ok (.aload_n 0, 1) := by decide +kernel
theorem nd_Pl_setCornersOfParts_72 : decode nc_Pl_setCornersOfParts 72 = .ok (.getfield 60, 3) := by decide +kernel
theorem nd_Pl_setCornersOfParts_75 : decode nc_Pl_setCornersOfParts 75 = .ok (.iload_n 1, 1) := by decide +kernel
theorem nd_Pl_setCornersOfParts_76 : decode nc_Pl_setCornersOfParts 76 = .ok (.iaload, 1) := by decide +kernel
theorem nd_Pl_setCornersOfParts_77 : decode nc_Pl_setCornersOfParts 77 = .ok (.iastore, 1) := by decide +kernel
theorem nd_Pl_setCornersOfParts_78 : decode nc_Pl_setCornersOfParts 78 = .ok (.aload_n 0, 1) := by decide +kernel
theorem nd_Pl_setCornersOfParts_79 : decode nc_Pl_setCornersOfParts 79 = .ok (.getfield 57, 3) := by decide +kernel
theorem nd_Pl_setCornersOfParts_82 : decode nc_Pl_setCornersOfParts 82 = .ok (.iload_n 3, 1) := by decide +kernel
theorem nd_Pl_setCornersOfParts_83 : decode nc_Pl_setCornersOfParts 83 = .ok (.aload_n 0, 1) := by decide +kernel
theorem nd_Pl_setCornersOfParts_84 : decode nc_Pl_setCornersOfParts 84 = .ok (.getfield 57, 3) := by decide +kernel
theorem nd_Pl_setCornersOfParts_87 : decode nc_Pl_setCornersOfParts 87 = .ok (.iload_n 1, 1) := by decide +kernel
theorem nd_Pl_setCornersOfParts_88 : decode nc_Pl_setCornersOfParts 88 = .ok (.iaload, 1) := by decide +kernel
theorem nd_Pl_setCornersOfParts_89 : decode nc_Pl_setCornersOfParts 89 = .ok (.iload 4, 2) := by decide +kernel
theorem nd_Pl_setCornersOfParts_91 : decode nc_Pl_setCornersOfParts 91 = .ok (.ifCond .eq 11, 3) := by decide +kernel
theorem nd_Pl_setCornersOfParts_94 : decode nc_Pl_setCornersOfParts 94 = .ok (.aload_n 0, 1) := by decide +kernel
theorem nd_Pl_setCornersOfParts_95 : decode nc_Pl_setCornersOfParts 95 = .ok (.iload_n 2, 1) := by decide +kernel
theorem nd_Pl_setCornersOfParts_96 : decode nc_Pl_setCornersOfParts 96 = .ok (.invokevirtual 95, 3) := by decide +kernel
theorem nd_Pl_setCornersOfParts_99 : decode nc_Pl_setCornersOfParts 99 = .ok (.goto 4, 3) := by decide +kernel
theorem nd_Pl_setCornersOfParts_102 : decode nc_Pl_setCornersOfParts 102 = .ok (.iconst 0, 1) := by decide +kernel
theorem nd_Pl_setCornersOfParts_103 : decode nc_Pl_setCornersOfParts 103 = .ok (.iadd, 1) := by decide +kernel
theorem nd_Pl_setCornersOfParts_104 : decode nc_Pl_setCornersOfParts 104 = .ok (.iastore, 1) := by decide +kernel
theorem nd_Pl_setCornersOfParts_105 : decode nc_Pl_setCornersOfParts 105 = .ok (.aload_n 0, 1) := by decide +kernel
theorem nd_Pl_setCornersOfParts_106 : decode nc_Pl_setCornersOfParts 106 = .ok (.getfield 60, 3) := by decide +kernel
theorem nd_Pl_setCornersOfParts_109 : decode nc_Pl_setCornersOfParts 109 = .ok (.iload_n 3, 1) := by decide +kernel
theorem nd_Pl_setCornersOfParts_110 : decode nc_Pl_setCornersOfParts 110 = .ok (.aload_n 0, 1) := by decide +kernel
theorem nd_Pl_setCornersOfParts_111 : decode nc_Pl_setCornersOfParts 111 = .ok (.getfield 60, 3) := by decide +kernel
theorem nd_Pl_setCornersOfParts_114 : decode nc_Pl_setCornersOfParts 114 = .ok (.iload_n 1, 1) := by decide +kernel
theorem nd_Pl_setCornersOfParts_115 : decode nc_Pl_setCornersOfParts 115 = .ok (.iaload, 1) := by decide +kernel
theorem nd_Pl_setCornersOfParts_116 : decode nc_Pl_setCornersOfParts 116 = .ok (.iload 4, 2) := by decide +kernel
theorem nd_Pl_setCornersOfParts_118 : decode nc_Pl_setCornersOfParts 118 = .ok (.ifCond .eq 7, 3) := by decide +kernel
theorem nd_Pl_setCornersOfParts_121 : decode nc_Pl_setCornersOfParts 121 = .ok (.iconst 0, 1) := by decide +kernel
theorem nd_Pl_setCornersOfParts_122 : decode nc_Pl_setCornersOfParts 122 = .ok (.goto 8, 3) := by decide +kernel
theorem nd_Pl_setCornersOfParts_125 : decode nc_Pl_setCornersOfParts 125 = .ok (.aload_n 0, 1) := by decide +kernel
theorem nd_Pl_setCornersOfParts_126 : decode nc_Pl_setCornersOfParts 126 = .ok (.iload_n 2, 1) := by decide +kernel
theorem nd_Pl_setCornersOfParts_127 : decode nc_Pl_setCornersOfParts 127 = .ok (.invokevirtual 98, 3) := by decide +kernel
theorem nd_Pl_setCornersOfParts_130 : decode nc_Pl_setCornersOfParts 130 = .ok (.iadd, 1) := by decide +kernel
theorem nd_Pl_setCornersOfParts_131 : decode nc_Pl_setCornersOfParts 131 = .ok (.iastore, 1) := by decide +kernel
theorem nd_Pl_setCornersOfParts_132 : decode nc_Pl_setCornersOfParts 132 = .ok (.return_, 1) := by decide +kernel
theorem nd_Pl_setCorners_0 : decode nc_Pl_setCorners 0 = .ok (.aload_n 0, 1) := by decide +kernel
theorem nd_Pl_setCorners_1 : decode nc_Pl_setCorners 1 = .ok (.getfield 21, 3) := by decide +kernel
theorem nd_Pl_setCorners_4 : decode nc_Pl_setCorners 4 = .ok (.getfield 110, 3) := by decide +kernel
theorem nd_Pl_setCorners_7 : decode nc_Pl_setCorners 7 = .ok (.iconst 1, 1) := by decide +kernel
theorem nd_Pl_setCorners_8 : decode nc_Pl_setCorners 8 = .ok (.isub, 1) := by decide +kernel
theorem nd_Pl_setCorners_9 : decode nc_Pl_setCorners 9 = .ok (.istore_n 1, 1) := by decide +kernel
theorem nd_Pl_setCorners_10 : decode nc_Pl_setCorners 10 = .ok (.aload_n 0, 1) := by decide +kernel
theorem nd_Pl_setCorners_11 : decode nc_Pl_setCorners 11 = .ok (.getfield 21, 3) := by decide +kernel
theorem nd_Pl_setCorners_14 : decode nc_Pl_setCorners 14 = .ok (.iload_n 1, 1) := by decide +kernel
theorem nd_Pl_setCorners_15 : decode nc_Pl_setCorners 15 = .ok (.invokevirtual 91, 3) := by decide +kernel
theorem nd_Pl_setCorners_18 : decode nc_Pl_setCorners 18 = .ok (.ifCond .ne 4, 3) := by decide +kernel
theorem nd_Pl_setCorners_21 : decode nc_Pl_setCorners 21 = .ok (.return_, 1) := by decide +kernel
theorem nd_Pl_setCorners_22 : decode nc_Pl_setCorners 22 = .ok (.aload_n 0, 1) := by decide +kernel
theorem nd_Pl_setCorners_23 : decode nc_Pl_setCorners 23 = .ok (.getfield 57, 3) := by decide +kernel
theorem nd_Pl_setCorners_26 : decode nc_Pl_setCorners 26 = .ok (.iload_n 1, 1) := by decide +kernel
theorem nd_Pl_setCorners_27 : decode nc_Pl_setCorners 27 = .ok (.iconst 0, 1) := by decide +kernel
theorem nd_Pl_setCorners_28 : decode nc_Pl_setCorners 28 = .ok (.iastore, 1) := by decide +kernel
theorem nd_Pl_setCorners_29 : decode nc_Pl_setCorners 29 = .ok (.aload_n 0, 1) := by decide +kernel
theorem nd_Pl_setCorners_30 : decode nc_Pl_setCorners 30 = .ok (.getfield 60, 3) := by decide +kernel
theorem nd_Pl_setCorners_33 : decode nc_Pl_setCorners 33 = .ok (.iload_n 1, 1) := by decide +kernel
theorem nd_Pl_setCorners_34 : decode nc_Pl_setCorners 34 = .ok (.iconst 0, 1) := by decide +kernel
theorem nd_Pl_setCorners_35 : decode nc_Pl_setCorners 35 = .ok (.iastore, 1) := by decide +kernel
theorem nd_Pl_setCorners_36 : decode nc_Pl_setCorners 36 = .ok (.iload_n 1, 1) := by decide +kernel
theorem nd_Pl_setCorners_37 : decode nc_Pl_setCorners 37 = .ok (.istore_n 2, 1) := by decide +kernel
theorem nd_Pl_setCorners_38 : decode nc_Pl_setCorners 38 = .ok (.iload_n 2, 1) := by decide +kernel
theorem nd_Pl_setCorners_39 : decode nc_Pl_setCorners 39 = .ok (.ifCond .lt 42, 3) := by decide +kernel
theorem nd_Pl_setCorners_42 : decode nc_Pl_setCorners 42 = .ok (.aload_n 0, 1) := by decide +kernel
theorem nd_Pl_setCorners_43 : decode nc_Pl_setCorners 43 = .ok (.getfield 21, 3) := by decide +kernel
theorem nd_Pl_setCorners_46 : decode nc_Pl_setCorners 46 = .ok (.iload_n 2, 1) := by decide +kernel
theorem nd_Pl_setCorners_47 : decode nc_Pl_setCorners 47 = .ok (.invokevirtual 113, 3) := by decide +kernel
theorem nd_Pl_setCorners_50 : decode nc_Pl_setCorners 50 = .ok (.iconst (-1), 1) := by decide +kernel
theorem nd_Pl_setCorners_51 : decode nc_Pl_setCorners 51 = .ok (.if_icmp .ne 24, 3) := by decide +kernel
theorem nd_Pl_setCorners_54 : decode nc_Pl_setCorners 54 = .ok (.aload_n 0, 1) := by decide +kernel
theorem nd_Pl_setCorners_55 : decode nc_Pl_setCorners 55 = .ok (.iload_n 2, 1) := by decide +kernel
theorem nd_Pl_setCorners_56 : decode nc_Pl_setCorners 56 = .ok (.aload_n 0, 1) := by decide +kernel
theorem nd_Pl_setCorners_57 : decode nc_Pl_setCorners 57 = .ok (.getfield 21, 3) := by decide +kernel
theorem nd_Pl_setCorners_60 : decode nc_Pl_setCorners 60 = .ok (.iload_n 2, 1) := by decide +kernel
theorem nd_Pl_setCorners_61 : decode nc_Pl_setCorners 61 = .ok (.invokevirtual 146, 3) := by decide +kernel
theorem nd_Pl_setCorners_64 : decode nc_Pl_setCorners 64 = .ok (.aload_n 0, 1) := by decide +kernel
theorem nd_Pl_setCorners_65 : decode nc_Pl_setCorners 65 = .ok (.getfield 21, 3) := by decide +kernel
theorem nd_Pl_setCorners_68 : decode nc_Pl_setCorners 68 = .ok (.iload_n 2, 1) := by decide +kernel
theorem nd_Pl_setCorners_69 : decode nc_Pl_setCorners 69 = .ok (.invokevirtual 149, 3) := by decide +kernel
theorem nd_Pl_setCorners_72 : decode nc_Pl_setCorners 72 = .ok (.invokevirtual 186, 3) := by decide +kernel
theorem nd_Pl_setCorners_75 : decode nc_Pl_setCorners 75 = .ok (.iinc 2 (-1), 3) := by decide +kernel
theorem nd_Pl_setCorners_78 : decode nc_Pl_setCorners 78 = .ok (.goto (-40), 3) := by decide +kernel
theorem nd_Pl_setCorners_81 : decode nc_Pl_setCorners 81 = .ok (.return_, 1) := by decide +kernel
theorem nd_Pl_settle_0 : decode nc_Pl_settle 0 = .ok (.aload_n 0, 1) := by decide +kernel
theorem nd_Pl_settle_1 : decode nc_Pl_settle 1 = .ok (.invokevirtual 162, 3) := by decide +kernel
theorem nd_Pl_settle_4 : decode nc_Pl_settle 4 = .ok (.aload_n 0, 1) := by decide +kernel
theorem nd_Pl_settle_5 : decode nc_Pl_settle 5 = .ok (.getfield 36, 3) := by decide +kernel
theorem nd_Pl_settle_8 : decode nc_Pl_settle 8 = .ok (.ifCond .ne 10, 3) := by decide +kernel
theorem nd_Pl_settle_11 : decode nc_Pl_settle 11 = .ok (.aload_n 0, 1) := by decide +kernel
theorem nd_Pl_settle_12 : decode nc_Pl_settle 12 = .ok (.invokevirtual 73, 3) := by decide +kernel
theorem nd_Pl_settle_15 : decode nc_Pl_settle 15 = .ok (.ifCond .ne 4, 3) := by decide +kernel
theorem nd_Pl_settle_18 : decode nc_Pl_settle 18 = .ok (.return_, 1) := by decide +kernel
theorem nd_Pl_settle_19 : decode nc_Pl_settle 19 = .ok (.iconst 0, 1) := by decide +kernel
theorem nd_Pl_settle_20 : decode nc_Pl_settle 20 = .ok (.istore_n 1, 1) := by decide +kernel
theorem nd_Pl_settle_21 : decode nc_Pl_settle 21 = .ok (.iload_n 1, 1) := by decide +kernel
theorem nd_Pl_settle_22 : decode nc_Pl_settle 22 = .ok (.aload_n 0, 1) := by decide +kernel
theorem nd_Pl_settle_23 : decode nc_Pl_settle 23 = .ok (.getfield 12, 3) := by decide +kernel
theorem nd_Pl_settle_26 : decode nc_Pl_settle 26 = .ok (.getfield 165, 3) := by decide +kernel
theorem nd_Pl_settle_29 : decode nc_Pl_settle 29 = .ok (.if_icmp .ge 22, 3) := by decide +kernel
theorem nd_Pl_settle_32 : decode nc_Pl_settle 32 = .ok (.aload_n 0, 1) := by decide +kernel
theorem nd_Pl_settle_33 : decode nc_Pl_settle 33 = .ok (.aload_n 0, 1) := by decide +kernel
theorem nd_Pl_settle_34 : decode nc_Pl_settle 34 = .ok (.getfield 21, 3) := by decide +kernel
theorem nd_Pl_settle_37 : decode nc_Pl_settle 37 = .ok (.iload_n 1, 1) := by decide +kernel
theorem nd_Pl_settle_38 : decode nc_Pl_settle 38 = .ok (.invokevirtual 85, 3) := by decide +kernel
theorem nd_Pl_settle_41 : decode nc_Pl_settle 41 = .ok (.iload_n 1, 1) := by decide +kernel
theorem nd_Pl_settle_42 : decode nc_Pl_settle 42 = .ok (.invokevirtual 166, 3) := by decide +kernel
theorem nd_Pl_settle_45 : decode nc_Pl_settle 45 = .ok (.iinc 1 1, 3) := by decide +kernel
theorem nd_Pl_settle_48 : decode nc_Pl_settle 48 = .ok (.goto (-27), 3) := by decide +kernel
theorem nd_Pl_settle_51 : decode nc_Pl_settle 51 = .ok (.aload_n 0, 1) := by decide +kernel
theorem nd_Pl_settle_52 : decode nc_Pl_settle 52 = .ok (.invokevirtual 169, 3) := by decide +kernel
theorem nd_Pl_settle_55 : decode nc_Pl_settle 55 = .ok (.aload_n 0, 1) := by decide +kernel
theorem nd_Pl_settle_56 : decode nc_Pl_settle 56 = .ok (.iconst 1, 1) := by decide +kernel
theorem nd_Pl_settle_57 : decode nc_Pl_settle 57 = .ok (.putfield 36, 3) := by decide +kernel
theorem nd_Pl_settle_60 : decode nc_Pl_settle 60 = .ok (.return_, 1) := by decide +kernel
theorem nd_Rl_addRoom_0 : decode nc_Rl_addRoom 0 = .ok (.aload_n 0, 1) := by decide +kernel
theorem nd_Rl_addRoom_1 : decode nc_Rl_addRoom 1 = .ok (.getfield 9, 3) := by decide +kernel
theorem nd_Rl_addRoom_4 : decode nc_Rl_addRoom 4 = .ok (.bipush 6, 2) := by decide +kernel
theorem nd_Rl_addRoom_6 : decode nc_Rl_addRoom 6 = .ok (.if_icmp .ge 17, 3) := by decide +kernel
theorem nd_Rl_addRoom_9 : decode nc_Rl_addRoom 9 = .ok (.aload_n 0, 1) := by decide +kernel
theorem nd_Rl_addRoom_10 : decode nc_Rl_addRoom 10 = .ok (.dup, 1) := by decide +kernel
theorem nd_Rl_addRoom_11 : decode nc_Rl_addRoom 11 = .ok (.getfield 9, 3) := by decide +kernel
theorem nd_Rl_addRoom_14 : decode nc_Rl_addRoom 14 = .ok (.dup_x1, 1) := by decide +kernel
theorem nd_Rl_addRoom_15 : decode nc_Rl_addRoom 15 = .ok (.iconst 1, 1) := by decide +kernel
theorem nd_Rl_addRoom_16 : decode nc_Rl_addRoom 16 = .ok (.iadd, 1) := by decide +kernel
theorem nd_Rl_addRoom_17 : decode nc_Rl_addRoom 17 = .ok (.putfield 9, 3) := by decide +kernel
theorem nd_Rl_addRoom_20 : decode nc_Rl_addRoom 20 = .ok (.goto 4, 3) := by decide +kernel
theorem nd_Rl_addRoom_23 : decode nc_Rl_addRoom 23 = .ok (.iconst (-1), 1) := by decide +kernel
theorem nd_Rl_addRoom_24 : decode nc_Rl_addRoom 24 = .ok (.ireturn, 1) := by decide +kernel
theorem nd_Rl_addSize_0 : decode nc_Rl_addSize 0 = .ok (.aload_n 0, 1) := by decide +kernel
theorem nd_Rl_addSize_1 : decode nc_Rl_addSize 1 = .ok (.iload_n 1, 1) := by decide +kernel
theorem nd_Rl_addSize_2 : decode nc_Rl_addSize 2 = .ok (.invokevirtual 25, 3) := by decide +kernel
theorem nd_Rl_addSize_5 : decode nc_Rl_addSize 5 = .ok (.istore 4, 2) := by decide +kernel
theorem nd_Rl_addSize_7 : decode nc_Rl_addSize 7 = .ok (.iload_n 1, 1) := by decide +kernel
theorem nd_Rl_addSize_8 : decode nc_Rl_addSize 8 = .ok (.iload 4, 2) := by decide +kernel
theorem nd_Rl_addSize_10 : decode nc_Rl_addSize 10 = .ok (.invokestatic 29, 3) := by decide +kernel
theorem nd_Rl_addSize_13 : decode nc_Rl_addSize 13 = .ok (.istore 5, 2) := by decide +kernel
theorem nd_Rl_addSize_15 : decode nc_Rl_addSize 15 = .ok (.iload 5, 2) := by decide +kernel
theorem nd_Rl_addSize_17 : decode nc_Rl_addSize 17 = .ok (.iconst (-1), 1) := by decide +kernel
theorem nd_Rl_addSize_18 : decode nc_Rl_addSize 18 = .ok (.if_icmp .ne 5, 3) := by decide +kernel
theorem nd_Rl_addSize_21 : decode nc_Rl_addSize 21 = .ok (.iconst (-1), 1) := by decide +kernel
theorem nd_Rl_addSize_22 : decode nc_Rl_addSize 22 = .ok (.ireturn, 1) := by decide +kernel
theorem nd_Rl_addSize_23 : decode nc_Rl_addSize 23 = .ok (.aload_n 0, 1) := by decide +kernel
theorem nd_Rl_addSize_24 : decode nc_Rl_addSize 24 = .ok (.getfield 19, 3) := by decide +kernel
theorem nd_Rl_addSize_27 : decode nc_Rl_addSize 27 = .ok (.iload 5, 2) := by decide +kernel
theorem nd_Rl_addSize_29 : decode nc_Rl_addSize 29 = .ok (.iload_n 2, 1) := by decide +kernel
theorem nd_Rl_addSize_30 : decode nc_Rl_addSize 30 = .ok (.iastore, 1) := by decide +kernel
theorem nd_Rl_addSize_31 : decode nc_Rl_addSize 31 = .ok (.aload_n 0, 1) := by decide +kernel
theorem nd_Rl_addSize_32 : decode nc_Rl_addSize 32 = .ok (.getfield 22, 3) := by decide +kernel
theorem nd_Rl_addSize_35 : decode nc_Rl_addSize 35 = .ok (.iload 5, 2) := by decide +kernel
theorem nd_Rl_addSize_37 : decode nc_Rl_addSize 37 = .ok (.iload_n 3, 1) := by decide +kernel
theorem nd_Rl_addSize_38 : decode nc_Rl_addSize 38 = .ok (.iastore, 1) := by decide +kernel
theorem nd_Rl_addSize_39 : decode nc_Rl_addSize 39 = .ok (.aload_n 0, 1) := by decide +kernel
theorem nd_Rl_addSize_40 : decode nc_Rl_addSize 40 = .ok (.getfield 15, 3) := by decide +kernel
theorem nd_Rl_addSize_43 : decode nc_Rl_addSize 43 = .ok (.iload_n 1, 1) := by decide +kernel
theorem nd_Rl_addSize_44 : decode nc_Rl_addSize 44 = .ok (.iload 4, 2) := by decide +kernel
theorem nd_Rl_addSize_46 : decode nc_Rl_addSize 46 = .ok (.iconst 1, 1) := by decide +kernel
theorem nd_Rl_addSize_47 : decode nc_Rl_addSize 47 = .ok (.iadd, 1) := by decide +kernel
theorem nd_Rl_addSize_48 : decode nc_Rl_addSize 48 = .ok (.iastore, 1) := by decide +kernel
theorem nd_Rl_addSize_49 : decode nc_Rl_addSize 49 = .ok (.iload 4, 2) := by decide +kernel
theorem nd_Rl_addSize_51 : decode nc_Rl_addSize 51 = .ok (.ireturn, 1) := by decide +kernel
theorem nd_Sr_clear_0 : decode nc_Sr_clear 0 = .ok (.aload_n 0, 1) := by decide +kernel
theorem nd_Sr_clear_1 : decode nc_Sr_clear 1 = .ok (.iconst 0, 1) := by decide +kernel
theorem nd_Sr_clear_2 : decode nc_Sr_clear 2 = .ok (.putfield 9, 3) := by decide +kernel
theorem nd_Sr_clear_5 : decode nc_Sr_clear 5 = .ok (.return_, 1) := by decide +kernel
theorem nd_Sr_addBytes_0 : decode nc_Sr_addBytes 0 = .ok (.bipush 7, 2) := by decide +kernel
theorem nd_Sr_addBytes_2 : decode nc_Sr_addBytes 2 = .ok (.istore_n 3, 1) := by decide +kernel
theorem nd_Sr_addBytes_3 : decode nc_Sr_addBytes 3 = .ok (.iload_n 3, 1) := by decide +kernel
theorem nd_Sr_addBytes_4 : decode nc_Sr_addBytes 4 = .ok (.ifCond .lt 57, 3) := by decide +kernel
theorem nd_Sr_addBytes_7 : decode nc_Sr_addBytes 7 = .ok (.lload_n 1, 1) := by decide +kernel
theorem nd_Sr_addBytes_8 : decode nc_Sr_addBytes 8 = .ok (.bipush 8, 2) := by decide +kernel
theorem nd_Sr_addBytes_10 : decode nc_Sr_addBytes 10 = .ok (.iload_n 3, 1) := by decide +kernel
theorem nd_Sr_addBytes_11 : decode nc_Sr_addBytes 11 = .ok (.imul, 1) := by decide +kernel
theorem nd_Sr_addBytes_12 : decode nc_Sr_addBytes 12 = .ok (.lushr, 1) := by decide +kernel
theorem nd_Sr_addBytes_13 : decode nc_Sr_addBytes 13 = .ok (.l2i, 1) := by decide +kernel
theorem nd_Sr_addBytes_14 : decode nc_Sr_addBytes 14 = .ok (.sipush 255, 3) := by decide +kernel
theorem nd_Sr_addBytes_17 : decode nc_Sr_addBytes 17 = .ok (.iand, 1) := by decide +kernel
theorem nd_Sr_addBytes_18 : decode nc_Sr_addBytes 18 = .ok (.istore 4, 2) := by decide +kernel
theorem nd_Sr_addBytes_20 : decode nc_Sr_addBytes 20 = .ok (.iload 4, 2) := by decide +kernel
theorem nd_Sr_addBytes_22 : decode nc_Sr_addBytes 22 = .ok (.ifCond .eq 33, 3) := by decide +kernel
theorem nd_Sr_addBytes_25 : decode nc_Sr_addBytes 25 = .ok (.aload_n 0, 1) := by decide +kernel
theorem nd_Sr_addBytes_26 : decode nc_Sr_addBytes 26 = .ok (.getfield 9, 3) := by decide +kernel
theorem nd_Sr_addBytes_29 : decode nc_Sr_addBytes 29 = .ok (.bipush 16, 2) := by decide +kernel
theorem nd_Sr_addBytes_31 : decode nc_Sr_addBytes 31 = .ok (.if_icmp .ge 24, 3) := by decide +kernel
theorem nd_Sr_addBytes_34 : decode nc_Sr_addBytes 34 = .ok (.aload_n 0, 1) := by decide +kernel
theorem nd_Sr_addBytes_35 : decode nc_Sr_addBytes 35 = .ok (.getfield 15, 3) := by decide +kernel
theorem nd_Sr_addBytes_38 : decode nc_Sr_addBytes 38 = .ok (.aload_n 0, 1) := by decide +kernel
theorem nd_Sr_addBytes_39 : decode nc_Sr_addBytes 39 = .ok (.getfield 9, 3) := by decide +kernel
theorem nd_Sr_addBytes_42 : decode nc_Sr_addBytes 42 = .ok (.iload 4, 2) := by decide +kernel
theorem nd_Sr_addBytes_44 : decode nc_Sr_addBytes 44 = .ok (.iastore, 1) := by decide +kernel
theorem nd_Sr_addBytes_45 : decode nc_Sr_addBytes 45 = .ok (.aload_n 0, 1) := by decide +kernel
theorem nd_Sr_addBytes_46 : decode nc_Sr_addBytes 46 = .ok (.dup, 1) := by decide +kernel
theorem nd_Sr_addBytes_47 : decode nc_Sr_addBytes 47 = .ok (.getfield 9, 3) := by decide +kernel
theorem nd_Sr_addBytes_50 : decode nc_Sr_addBytes 50 = .ok (.iconst 1, 1) := by decide +kernel
theorem nd_Sr_addBytes_51 : decode nc_Sr_addBytes 51 = .ok (.iadd, 1) := by decide +kernel
theorem nd_Sr_addBytes_52 : decode nc_Sr_addBytes 52 = .ok (.putfield 9, 3) := by decide +kernel
theorem nd_Sr_addBytes_55 : decode nc_Sr_addBytes 55 = .ok (.iinc 3 (-1), 3) := by decide +kernel
theorem nd_Sr_addBytes_58 : decode nc_Sr_addBytes 58 = .ok (.goto (-55), 3) := by decide +kernel
theorem nd_Sr_addBytes_61 : decode nc_Sr_addBytes 61 = .ok (.return_, 1) := by decide +kernel
theorem nd_Sr_signAt_0 : decode nc_Sr_signAt 0 = .ok (.iload_n 1, 1) := by decide +kernel
theorem nd_Sr_signAt_1 : decode nc_Sr_signAt 1 = .ok (.ifCond .lt 26, 3) := by decide +kernel
theorem nd_Sr_signAt_4 : decode nc_Sr_signAt 4 = .ok (.iload_n 1, 1) := by decide +kernel
theorem nd_Sr_signAt_5 : decode nc_Sr_signAt 5 = .ok (.aload_n 0, 1) := by decide +kernel
theorem nd_Sr_signAt_6 : decode nc_Sr_signAt 6 = .ok (.getfield 9, 3) := by decide +kernel
theorem nd_Sr_signAt_9 : decode nc_Sr_signAt 9 = .ok (.if_icmp .ge 18, 3) := by decide +kernel
theorem nd_Sr_signAt_12 : decode nc_Sr_signAt 12 = .ok (.iload_n 1, 1) := by decide +kernel
theorem nd_Sr_signAt_13 : decode nc_Sr_signAt 13 = .ok (.bipush 16, 2) := by decide +kernel
theorem nd_Sr_signAt_15 : decode nc_Sr_signAt 15 = .ok (.if_icmp .ge 12, 3) := by decide +kernel
theorem nd_Sr_signAt_18 : decode nc_Sr_signAt 18 = .ok (.aload_n 0, 1) := by decide +kernel
theorem nd_Sr_signAt_19 : decode nc_Sr_signAt 19 = .ok (.getfield 15, 3) := by decide +kernel
theorem nd_Sr_signAt_22 : decode nc_Sr_signAt 22 = .ok (.iload_n 1, 1) := by decide +kernel
theorem nd_Sr_signAt_23 : decode nc_Sr_signAt 23 = .ok (.iaload, 1) := by decide +kernel
theorem nd_Sr_signAt_24 : decode nc_Sr_signAt 24 = .ok (.goto 4, 3) := by decide +kernel
theorem nd_Sr_signAt_27 : decode nc_Sr_signAt 27 = .ok (.iconst (-1), 1) := by decide +kernel
theorem nd_Sr_signAt_28 : decode nc_Sr_signAt 28 = .ok (.ireturn, 1) := by decide +kernel
theorem nd_Ro_joins_0 : decode nc_Ro_joins 0 = .ok (.iload_n 0, 1) := by decide +kernel
theorem nd_Ro_joins_1 : decode nc_Ro_joins 1 = .ok (.bipush 124, 2) := by decide +kernel
theorem nd_Ro_joins_3 : decode nc_Ro_joins 3 = .ok (.if_icmp .eq 9, 3) := by decide +kernel
theorem nd_Ro_joins_6 : decode nc_Ro_joins 6 = .ok (.iload_n 0, 1) := by decide +kernel
theorem nd_Ro_joins_7 : decode nc_Ro_joins 7 = .ok (.bipush 45, 2) := by decide +kernel
theorem nd_Ro_joins_9 : decode nc_Ro_joins 9 = .ok (.if_icmp .ne 7, 3) := by decide +kernel
theorem nd_Ro_joins_12 : decode nc_Ro_joins 12 = .ok (.iconst 1, 1) := by decide +kernel
theorem nd_Ro_joins_13 : decode nc_Ro_joins 13 = .ok (.goto 4, 3) := by decide +kernel
theorem nd_Ro_joins_16 : decode nc_Ro_joins 16 = .ok (.iconst 0, 1) := by decide +kernel
theorem nd_Ro_joins_17 : decode nc_Ro_joins 17 = .ok (.ireturn, 1) := by decide +kernel
theorem nd_Sr_firstFault_0 : decode nc_Sr_firstFault 0 = .ok (.iconst 0, 1) := by decide +kernel
theorem nd_Sr_firstFault_1 : decode nc_Sr_firstFault 1 = .ok (.istore_n 2, 1) := by decide +kernel
theorem nd_Sr_firstFault_2 : decode nc_Sr_firstFault 2 = .ok (.iconst 0, 1) := by decide +kernel
theorem nd_Sr_firstFault_3 : decode nc_Sr_firstFault 3 = .ok (.istore_n 3, 1) := by decide +kernel
theorem nd_Sr_firstFault_4 : decode nc_Sr_firstFault 4 = .ok (.iconst 0, 1) := by decide +kernel
theorem nd_Sr_firstFault_5 : decode nc_Sr_firstFault 5 = .ok (.istore 4, 2) := by decide +kernel
theorem nd_Sr_firstFault_7 : decode nc_Sr_firstFault 7 = .ok (.iload 4, 2) := by decide +kernel
theorem nd_Sr_firstFault_9 : decode nc_Sr_firstFault 9 = .ok (.aload_n 0, 1) := by decide +kernel
theorem nd_Sr_firstFault_10 : decode nc_Sr_firstFault 10 = .ok (.getfield 9, 3) := by decide +kernel
theorem nd_Sr_firstFault_13 : decode nc_Sr_firstFault 13 = .ok (.if_icmp .ge 83, 3) := by decide +kernel
theorem nd_Sr_firstFault_16 : decode nc_Sr_firstFault 16 = .ok (.aload_n 0, 1) := by decide +kernel
theorem nd_Sr_firstFault_17 : decode nc_Sr_firstFault 17 = .ok (.iload 4, 2) := by decide +kernel
theorem nd_Sr_firstFault_19 : decode nc_Sr_firstFault 19 = .ok (.invokevirtual 19, 3) := by decide +kernel
theorem nd_Sr_firstFault_22 : decode nc_Sr_firstFault 22 = .ok (.istore 5, 2) := by decide +kernel
theorem nd_Sr_firstFault_24 : decode nc_Sr_firstFault 24 = .ok (.iload 5, 2) := by decide +kernel
theorem nd_Sr_firstFault_26 : decode nc_Sr_firstFault 26 = .ok (.invokestatic 23, 3) := by decide +kernel
theorem nd_Sr_firstFault_29 : decode nc_Sr_firstFault 29 = .ok (.istore 6, 2) := by decide +kernel
theorem nd_Sr_firstFault_31 : decode nc_Sr_firstFault 31 = .ok (.iload 6, 2) := by decide +kernel
theorem nd_Sr_firstFault_33 : decode nc_Sr_firstFault 33 = .ok (.iconst (-1), 1) := by decide +kernel
theorem nd_Sr_firstFault_34 : decode nc_Sr_firstFault 34 = .ok (.if_icmp .eq 37, 3) := by decide +kernel
theorem nd_Sr_firstFault_37 : decode nc_Sr_firstFault 37 = .ok (.aload_n 1, 1) := by decide +kernel
theorem nd_Sr_firstFault_38 : decode nc_Sr_firstFault 38 = .ok (.iload 6, 2) := by decide +kernel
theorem nd_Sr_firstFault_40 : decode nc_Sr_firstFault 40 = .ok (.invokevirtual 26, 3) := by decide +kernel
theorem nd_Sr_firstFault_43 : decode nc_Sr_firstFault 43 = .ok (.ifCond .eq 12, 3) := by decide +kernel
theorem nd_Sr_firstFault_46 : decode nc_Sr_firstFault 46 = .ok (.iload_n 2, 1) := by decide +kernel
theorem nd_Sr_firstFault_47 : decode nc_Sr_firstFault 47 = .ok (.iconst 1, 1) := by decide +kernel
theorem nd_Sr_firstFault_48 : decode nc_Sr_firstFault 48 = .ok (.iload 6, 2) := by decide +kernel
theorem nd_Sr_firstFault_50 : decode nc_Sr_firstFault 50 = .ok (.ishl, 1) := by decide +kernel
theorem nd_Sr_firstFault_51 : decode nc_Sr_firstFault 51 = .ok (.iand, 1) := by decide +kernel
theorem nd_Sr_firstFault_52 : decode nc_Sr_firstFault 52 = .ok (.ifCond .eq 6, 3) := by decide +kernel
theorem nd_Sr_firstFault_55 : decode nc_Sr_firstFault 55 = .ok (.iload 4, 2) := by decide +kernel
theorem nd_Sr_firstFault_57 : decode nc_Sr_firstFault 57 = .ok (.ireturn, 1) := by decide +kernel
theorem nd_Sr_firstFault_58 : decode nc_Sr_firstFault 58 = .ok (.iload_n 2, 1) := by decide +kernel
theorem nd_Sr_firstFault_59 : decode nc_Sr_firstFault 59 = .ok (.iconst 1, 1) := by decide +kernel
theorem nd_Sr_firstFault_60 : decode nc_Sr_firstFault 60 = .ok (.iload 6, 2) := by decide +kernel
theorem nd_Sr_firstFault_62 : decode nc_Sr_firstFault 62 = .ok (.ishl, 1) := by decide +kernel
theorem nd_Sr_firstFault_63 : decode nc_Sr_firstFault 63 = .ok (.ior, 1) := by decide +kernel
theorem nd_Sr_firstFault_64 : decode nc_Sr_firstFault 64 = .ok (.istore_n 2, 1) := by decide +kernel
theorem nd_Sr_firstFault_65 : decode nc_Sr_firstFault 65 = .ok (.iinc 3 1, 3) := by decide +kernel
theorem nd_Sr_firstFault_68 : decode nc_Sr_firstFault 68 = .ok (.goto 22, 3) := by decide +kernel
theorem nd_Sr_firstFault_71 : decode nc_Sr_firstFault 71 = .ok (.iload 5, 2) := by decide +kernel
theorem nd_Sr_firstFault_73 : decode nc_Sr_firstFault 73 = .ok (.invokestatic 31, 3) := by decide +kernel
theorem nd_Sr_firstFault_76 : decode nc_Sr_firstFault 76 = .ok (.ifCond .eq 8, 3) := by decide +kernel
theorem nd_Sr_firstFault_79 : decode nc_Sr_firstFault 79 = .ok (.iload_n 3, 1) := by decide +kernel
theorem nd_Sr_firstFault_80 : decode nc_Sr_firstFault 80 = .ok (.iconst 2, 1) := by decide +kernel
theorem nd_Sr_firstFault_81 : decode nc_Sr_firstFault 81 = .ok (.if_icmp .ge 6, 3) := by decide +kernel
theorem nd_Sr_firstFault_84 : decode nc_Sr_firstFault 84 = .ok (.iload 4, 2) := by decide +kernel
theorem nd_Sr_firstFault_86 : decode nc_Sr_firstFault 86 = .ok (.ireturn, 1) := by decide +kernel
theorem nd_Sr_firstFault_87 : decode nc_Sr_firstFault 87 = .ok (.iinc 3 (-1), 3) := by decide +kernel
theorem nd_Sr_firstFault_90 : decode nc_Sr_firstFault 90 = .ok (.iinc 4 1, 3) := by decide +kernel
theorem nd_Sr_firstFault_93 : decode nc_Sr_firstFault 93 = .ok (.goto (-86), 3) := by decide +kernel
theorem nd_Sr_firstFault_96 : decode nc_Sr_firstFault 96 = .ok (.iload_n 3, 1) := by decide +kernel
theorem nd_Sr_firstFault_97 : decode nc_Sr_firstFault 97 = .ok (.iconst 1, 1) := by decide +kernel
theorem nd_Sr_firstFault_98 : decode nc_Sr_firstFault 98 = .ok (.if_icmp .ne 7, 3) := by decide +kernel
theorem nd_Sr_firstFault_101 : decode nc_Sr_firstFault 101 = .ok (.iconst (-1), 1) := by decide +kernel
theorem nd_Sr_firstFault_102 : decode nc_Sr_firstFault 102 = .ok (.goto 7, 3) := by decide +kernel
theorem nd_Sr_firstFault_105 : decode nc_Sr_firstFault 105 = .ok (.aload_n 0, 1) := by decide +kernel
theorem nd_Sr_firstFault_106 : decode nc_Sr_firstFault 106 = .ok (.getfield 9, 3) := by decide +kernel
theorem nd_Sr_firstFault_109 : decode nc_Sr_firstFault 109 = .ok (.ireturn, 1) := by decide +kernel
theorem nd_St_forgetRooms_0 : decode nc_St_forgetRooms 0 = .ok (.iconst 0, 1) := by decide +kernel
theorem nd_St_forgetRooms_1 : decode nc_St_forgetRooms 1 = .ok (.istore_n 1, 1) := by decide +kernel
theorem nd_St_forgetRooms_2 : decode nc_St_forgetRooms 2 = .ok (.iload_n 1, 1) := by decide +kernel
theorem nd_St_forgetRooms_3 : decode nc_St_forgetRooms 3 = .ok (.bipush 6, 2) := by decide +kernel
theorem nd_St_forgetRooms_5 : decode nc_St_forgetRooms 5 = .ok (.if_icmp .ge 16, 3) := by decide +kernel
theorem nd_St_forgetRooms_8 : decode nc_St_forgetRooms 8 = .ok (.aload_n 0, 1) := by decide +kernel
theorem nd_St_forgetRooms_9 : decode nc_St_forgetRooms 9 = .ok (.getfield 31, 3) := by decide +kernel
theorem nd_St_forgetRooms_12 : decode nc_St_forgetRooms 12 = .ok (.iload_n 1, 1) := by decide +kernel
theorem nd_St_forgetRooms_13 : decode nc_St_forgetRooms 13 = .ok (.iconst (-1), 1) := by decide +kernel
theorem nd_St_forgetRooms_14 : decode nc_St_forgetRooms 14 = .ok (.iastore, 1) := by decide +kernel
theorem nd_St_forgetRooms_15 : decode nc_St_forgetRooms 15 = .ok (.iinc 1 1, 3) := by decide +kernel
theorem nd_St_forgetRooms_18 : decode nc_St_forgetRooms 18 = .ok (.goto (-16), 3) := by decide +kernel
theorem nd_St_forgetRooms_21 : decode nc_St_forgetRooms 21 = .ok (.return_, 1) := by decide +kernel
theorem nd_St_setSign_0 : decode nc_St_setSign 0 = .ok (.aload_n 0, 1) := by decide +kernel
theorem nd_St_setSign_1 : decode nc_St_setSign 1 = .ok (.getfield 15, 3) := by decide +kernel
theorem nd_St_setSign_4 : decode nc_St_setSign 4 = .ok (.iload_n 1, 1) := by decide +kernel
theorem nd_St_setSign_5 : decode nc_St_setSign 5 = .ok (.iload_n 2, 1) := by decide +kernel
theorem nd_St_setSign_6 : decode nc_St_setSign 6 = .ok (.iastore, 1) := by decide +kernel
theorem nd_St_setSign_7 : decode nc_St_setSign 7 = .ok (.iload_n 2, 1) := by decide +kernel
theorem nd_St_setSign_8 : decode nc_St_setSign 8 = .ok (.invokestatic 62, 3) := by decide +kernel
theorem nd_St_setSign_11 : decode nc_St_setSign 11 = .ok (.istore_n 3, 1) := by decide +kernel
theorem nd_St_setSign_12 : decode nc_St_setSign 12 = .ok (.iload_n 3, 1) := by decide +kernel
theorem nd_St_setSign_13 : decode nc_St_setSign 13 = .ok (.ifCond .lt 16, 3) := by decide +kernel
theorem nd_St_setSign_16 : decode nc_St_setSign 16 = .ok (.iload_n 3, 1) := by decide +kernel
theorem nd_St_setSign_17 : decode nc_St_setSign 17 = .ok (.bipush 6, 2) := by decide +kernel
theorem nd_St_setSign_19 : decode nc_St_setSign 19 = .ok (.if_icmp .ge 10, 3) := by decide +kernel
theorem nd_St_setSign_22 : decode nc_St_setSign 22 = .ok (.aload_n 0, 1) := by decide +kernel
theorem nd_St_setSign_23 : decode nc_St_setSign 23 = .ok (.getfield 31, 3) := by decide +kernel
theorem nd_St_setSign_26 : decode nc_St_setSign 26 = .ok (.iload_n 3, 1) := by decide +kernel
theorem nd_St_setSign_27 : decode nc_St_setSign 27 = .ok (.iload_n 1, 1) := by decide +kernel
theorem nd_St_setSign_28 : decode nc_St_setSign 28 = .ok (.iastore, 1) := by decide +kernel
theorem nd_St_setSign_29 : decode nc_St_setSign 29 = .ok (.return_, 1) := by decide +kernel
theorem nd_St_link_0 : decode nc_St_link 0 = .ok (.aload_n 0, 1) := by decide +kernel
theorem nd_St_link_1 : decode nc_St_link 1 = .ok (.getfield 19, 3) := by decide +kernel
theorem nd_St_link_4 : decode nc_St_link 4 = .ok (.iload_n 1, 1) := by decide +kernel
theorem nd_St_link_5 : decode nc_St_link 5 = .ok (.iload_n 2, 1) := by decide +kernel
theorem nd_St_link_6 : decode nc_St_link 6 = .ok (.iastore, 1) := by decide +kernel
theorem nd_St_link_7 : decode nc_St_link 7 = .ok (.aload_n 0, 1) := by decide +kernel
theorem nd_St_link_8 : decode nc_St_link 8 = .ok (.getfield 22, 3) := by decide +kernel
theorem nd_St_link_11 : decode nc_St_link 11 = .ok (.iload_n 1, 1) := by decide +kernel
theorem nd_St_link_12 : decode nc_St_link 12 = .ok (.iload_n 3, 1) := by decide +kernel
theorem nd_St_link_13 : decode nc_St_link 13 = .ok (.iastore, 1) := by decide +kernel
theorem nd_St_link_14 : decode nc_St_link 14 = .ok (.aload_n 0, 1) := by decide +kernel
theorem nd_St_link_15 : decode nc_St_link 15 = .ok (.getfield 25, 3) := by decide +kernel
theorem nd_St_link_18 : decode nc_St_link 18 = .ok (.iload_n 2, 1) := by decide +kernel
theorem nd_St_link_19 : decode nc_St_link 19 = .ok (.iload_n 1, 1) := by decide +kernel
theorem nd_St_link_20 : decode nc_St_link 20 = .ok (.iastore, 1) := by decide +kernel
theorem nd_St_link_21 : decode nc_St_link 21 = .ok (.aload_n 0, 1) := by decide +kernel
theorem nd_St_link_22 : decode nc_St_link 22 = .ok (.getfield 25, 3) := by decide +kernel
theorem nd_St_link_25 : decode nc_St_link 25 = .ok (.iload_n 3, 1) := by decide +kernel
theorem nd_St_link_26 : decode nc_St_link 26 = .ok (.iload_n 1, 1) := by decide +kernel
theorem nd_St_link_27 : decode nc_St_link 27 = .ok (.iastore, 1) := by decide +kernel
theorem nd_St_link_28 : decode nc_St_link 28 = .ok (.return_, 1) := by decide +kernel
theorem nd_St_build_0 : decode nc_St_build 0 = .ok (.aload_n 0, 1) := by decide +kernel
theorem nd_St_build_1 : decode nc_St_build 1 = .ok (.aload_n 1, 1) := by decide +kernel
theorem nd_St_build_2 : decode nc_St_build 2 = .ok (.getfield 37, 3) := by decide +kernel
