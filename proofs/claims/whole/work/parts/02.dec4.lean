theorem nd_Mo_shared_50 : decode nc_Mo_shared 50 = .ok (.aload_n 0, 1) := by decide +kernel
theorem nd_Mo_shared_51 : decode nc_Mo_shared 51 = .ok (.getfield 53, 3) := by decide +kernel
theorem nd_Mo_shared_54 : decode nc_Mo_shared 54 = .ok (.iload_n 1, 1) := by decide +kernel
theorem nd_Mo_shared_55 : decode nc_Mo_shared 55 = .ok (.iaload, 1) := by decide +kernel
theorem nd_Mo_shared_56 : decode nc_Mo_shared 56 = .ok (.aload_n 0, 1) := by decide +kernel
theorem nd_Mo_shared_57 : decode nc_Mo_shared 57 = .ok (.getfield 47, 3) := by decide +kernel
theorem nd_Mo_shared_60 : decode nc_Mo_shared 60 = .ok (.iload_n 1, 1) := by decide +kernel
theorem nd_Mo_shared_61 : decode nc_Mo_shared 61 = .ok (.iaload, 1) := by decide +kernel
theorem nd_Mo_shared_62 : decode nc_Mo_shared 62 = .ok (.iadd, 1) := by decide +kernel
theorem nd_Mo_shared_63 : decode nc_Mo_shared 63 = .ok (.aload_n 0, 1) := by decide +kernel
theorem nd_Mo_shared_64 : decode nc_Mo_shared 64 = .ok (.getfield 53, 3) := by decide +kernel
theorem nd_Mo_shared_67 : decode nc_Mo_shared 67 = .ok (.iload_n 2, 1) := by decide +kernel
theorem nd_Mo_shared_68 : decode nc_Mo_shared 68 = .ok (.iaload, 1) := by decide +kernel
theorem nd_Mo_shared_69 : decode nc_Mo_shared 69 = .ok (.if_icmp .eq 25, 3) := by decide +kernel
theorem nd_Mo_shared_72 : decode nc_Mo_shared 72 = .ok (.aload_n 0, 1) := by decide +kernel
theorem nd_Mo_shared_73 : decode nc_Mo_shared 73 = .ok (.getfield 53, 3) := by decide +kernel
theorem nd_Mo_shared_76 : decode nc_Mo_shared 76 = .ok (.iload_n 2, 1) := by decide +kernel
theorem nd_Mo_shared_77 : decode nc_Mo_shared 77 = .ok (.iaload, 1) := by decide +kernel
theorem nd_Mo_shared_78 : decode nc_Mo_shared 78 = .ok (.aload_n 0, 1) := by decide +kernel
theorem nd_Mo_shared_79 : decode nc_Mo_shared 79 = .ok (.getfield 47, 3) := by decide +kernel
theorem nd_Mo_shared_82 : decode nc_Mo_shared 82 = .ok (.iload_n 2, 1) := by decide +kernel
theorem nd_Mo_shared_83 : decode nc_Mo_shared 83 = .ok (.iaload, 1) := by decide +kernel
theorem nd_Mo_shared_84 : decode nc_Mo_shared 84 = .ok (.iadd, 1) := by decide +kernel
theorem nd_Mo_shared_85 : decode nc_Mo_shared 85 = .ok (.aload_n 0, 1) := by decide +kernel
theorem nd_Mo_shared_86 : decode nc_Mo_shared 86 = .ok (.getfield 53, 3) := by decide +kernel
theorem nd_Mo_shared_89 : decode nc_Mo_shared 89 = .ok (.iload_n 1, 1) := by decide +kernel
theorem nd_Mo_shared_90 : decode nc_Mo_shared 90 = .ok (.iaload, 1) := by decide +kernel
theorem nd_Mo_shared_91 : decode nc_Mo_shared 91 = .ok (.if_icmp .ne 7, 3) := by decide +kernel
theorem nd_Mo_shared_94 : decode nc_Mo_shared 94 = .ok (.iconst 1, 1) := by decide +kernel
theorem nd_Mo_shared_95 : decode nc_Mo_shared 95 = .ok (.goto 4, 3) := by decide +kernel
theorem nd_Mo_shared_98 : decode nc_Mo_shared 98 = .ok (.iconst 0, 1) := by decide +kernel
theorem nd_Mo_shared_99 : decode nc_Mo_shared 99 = .ok (.istore 4, 2) := by decide +kernel
theorem nd_Mo_shared_101 : decode nc_Mo_shared 101 = .ok (.iload_n 3, 1) := by decide +kernel
theorem nd_Mo_shared_102 : decode nc_Mo_shared 102 = .ok (.ifCond .eq 33, 3) := by decide +kernel
theorem nd_Mo_shared_105 : decode nc_Mo_shared 105 = .ok (.aload_n 0, 1) := by decide +kernel
theorem nd_Mo_shared_106 : decode nc_Mo_shared 106 = .ok (.getfield 53, 3) := by decide +kernel
theorem nd_Mo_shared_109 : decode nc_Mo_shared 109 = .ok (.iload_n 1, 1) := by decide +kernel
theorem nd_Mo_shared_110 : decode nc_Mo_shared 110 = .ok (.iaload, 1) := by decide +kernel
theorem nd_Mo_shared_111 : decode nc_Mo_shared 111 = .ok (.aload_n 0, 1) := by decide +kernel
theorem nd_Mo_shared_112 : decode nc_Mo_shared 112 = .ok (.getfield 47, 3) := by decide +kernel
theorem nd_Mo_shared_115 : decode nc_Mo_shared 115 = .ok (.iload_n 1, 1) := by decide +kernel
theorem nd_Mo_shared_116 : decode nc_Mo_shared 116 = .ok (.iaload, 1) := by decide +kernel
theorem nd_Mo_shared_117 : decode nc_Mo_shared 117 = .ok (.aload_n 0, 1) := by decide +kernel
theorem nd_Mo_shared_118 : decode nc_Mo_shared 118 = .ok (.getfield 53, 3) := by decide +kernel
theorem nd_Mo_shared_121 : decode nc_Mo_shared 121 = .ok (.iload_n 2, 1) := by decide +kernel
theorem nd_Mo_shared_122 : decode nc_Mo_shared 122 = .ok (.iaload, 1) := by decide +kernel
theorem nd_Mo_shared_123 : decode nc_Mo_shared 123 = .ok (.aload_n 0, 1) := by decide +kernel
theorem nd_Mo_shared_124 : decode nc_Mo_shared 124 = .ok (.getfield 47, 3) := by decide +kernel
theorem nd_Mo_shared_127 : decode nc_Mo_shared 127 = .ok (.iload_n 2, 1) := by decide +kernel
theorem nd_Mo_shared_128 : decode nc_Mo_shared 128 = .ok (.iaload, 1) := by decide +kernel
theorem nd_Mo_shared_129 : decode nc_Mo_shared 129 = .ok (.invokestatic 127, 3) := by decide +kernel
theorem nd_Mo_shared_132 : decode nc_Mo_shared 132 = .ok (.goto 4, 3) := by decide +kernel
theorem nd_Mo_shared_135 : decode nc_Mo_shared 135 = .ok (.iconst 0, 1) := by decide +kernel
theorem nd_Mo_shared_136 : decode nc_Mo_shared 136 = .ok (.istore 5, 2) := by decide +kernel
theorem nd_Mo_shared_138 : decode nc_Mo_shared 138 = .ok (.iload 4, 2) := by decide +kernel
theorem nd_Mo_shared_140 : decode nc_Mo_shared 140 = .ok (.ifCond .eq 33, 3) := by decide +kernel
theorem nd_Mo_shared_143 : decode nc_Mo_shared 143 = .ok (.aload_n 0, 1) := by decide +kernel
theorem nd_Mo_shared_144 : decode nc_Mo_shared 144 = .ok (.getfield 50, 3) := by decide +kernel
theorem nd_Mo_shared_147 : decode nc_Mo_shared 147 = .ok (.iload_n 1, 1) := by decide +kernel
theorem nd_Mo_shared_148 : decode nc_Mo_shared 148 = .ok (.iaload, 1) := by decide +kernel
theorem nd_Mo_shared_149 : decode nc_Mo_shared 149 = .ok (.aload_n 0, 1) := by decide +kernel
theorem nd_Mo_shared_150 : decode nc_Mo_shared 150 = .ok (.getfield 44, 3) := by decide +kernel
theorem nd_Mo_shared_153 : decode nc_Mo_shared 153 = .ok (.iload_n 1, 1) := by decide +kernel
theorem nd_Mo_shared_154 : decode nc_Mo_shared 154 = .ok (.iaload, 1) := by decide +kernel
theorem nd_Mo_shared_155 : decode nc_Mo_shared 155 = .ok (.aload_n 0, 1) := by decide +kernel
theorem nd_Mo_shared_156 : decode nc_Mo_shared 156 = .ok (.getfield 50, 3) := by decide +kernel
theorem nd_Mo_shared_159 : decode nc_Mo_shared 159 = .ok (.iload_n 2, 1) := by decide +kernel
theorem nd_Mo_shared_160 : decode nc_Mo_shared 160 = .ok (.iaload, 1) := by decide +kernel
theorem nd_Mo_shared_161 : decode nc_Mo_shared 161 = .ok (.aload_n 0, 1) := by decide +kernel
theorem nd_Mo_shared_162 : decode nc_Mo_shared 162 = .ok (.getfield 44, 3) := by decide +kernel
theorem nd_Mo_shared_165 : decode nc_Mo_shared 165 = .ok (.iload_n 2, 1) := by decide +kernel
theorem nd_Mo_shared_166 : decode nc_Mo_shared 166 = .ok (.iaload, 1) := by decide +kernel
theorem nd_Mo_shared_167 : decode nc_Mo_shared 167 = .ok (.invokestatic 127, 3) := by decide +kernel
theorem nd_Mo_shared_170 : decode nc_Mo_shared 170 = .ok (.goto 4, 3) := by decide +kernel
theorem nd_Mo_shared_173 : decode nc_Mo_shared 173 = .ok (.iconst 0, 1) := by decide +kernel
theorem nd_Mo_shared_174 : decode nc_Mo_shared 174 = .ok (.istore 6, 2) := by decide +kernel
theorem nd_Mo_shared_176 : decode nc_Mo_shared 176 = .ok (.iload 5, 2) := by decide +kernel
theorem nd_Mo_shared_178 : decode nc_Mo_shared 178 = .ok (.iload 6, 2) := by decide +kernel
theorem nd_Mo_shared_180 : decode nc_Mo_shared 180 = .ok (.if_icmp .le 8, 3) := by decide +kernel
theorem nd_Mo_shared_183 : decode nc_Mo_shared 183 = .ok (.iload 5, 2) := by decide +kernel
theorem nd_Mo_shared_185 : decode nc_Mo_shared 185 = .ok (.goto 5, 3) := by decide +kernel
theorem nd_Mo_shared_188 : decode nc_Mo_shared 188 = .ok (.iload 6, 2) := by decide +kernel
theorem nd_Mo_shared_190 : decode nc_Mo_shared 190 = .ok (.ireturn, 1) := by decide +kernel
theorem nd_Mo_wall_0 : decode nc_Mo_wall 0 = .ok (.aload_n 0, 1) := by decide +kernel
theorem nd_Mo_wall_1 : decode nc_Mo_wall 1 = .ok (.aload_n 0, 1) := by decide +kernel
theorem nd_Mo_wall_2 : decode nc_Mo_wall 2 = .ok (.iload_n 1, 1) := by decide +kernel
theorem nd_Mo_wall_3 : decode nc_Mo_wall 3 = .ok (.invokevirtual 77, 3) := by decide +kernel
theorem nd_Mo_wall_6 : decode nc_Mo_wall 6 = .ok (.ifCond .eq 20, 3) := by decide +kernel
theorem nd_Mo_wall_9 : decode nc_Mo_wall 9 = .ok (.aload_n 0, 1) := by decide +kernel
theorem nd_Mo_wall_10 : decode nc_Mo_wall 10 = .ok (.iload_n 2, 1) := by decide +kernel
theorem nd_Mo_wall_11 : decode nc_Mo_wall 11 = .ok (.invokevirtual 77, 3) := by decide +kernel
theorem nd_Mo_wall_14 : decode nc_Mo_wall 14 = .ok (.ifCond .eq 12, 3) := by decide +kernel
theorem nd_Mo_wall_17 : decode nc_Mo_wall 17 = .ok (.iload_n 1, 1) := by decide +kernel
theorem nd_Mo_wall_18 : decode nc_Mo_wall 18 = .ok (.iload_n 2, 1) := by decide +kernel
theorem nd_Mo_wall_19 : decode nc_Mo_wall 19 = .ok (.if_icmp .eq 7, 3) := by decide +kernel
theorem nd_Mo_wall_22 : decode nc_Mo_wall 22 = .ok (.iconst 0, 1) := by decide +kernel
theorem nd_Mo_wall_23 : decode nc_Mo_wall 23 = .ok (.goto 4, 3) := by decide +kernel
theorem nd_Mo_wall_26 : decode nc_Mo_wall 26 = .ok (.iconst 1, 1) := by decide +kernel
theorem nd_Mo_wall_27 : decode nc_Mo_wall 27 = .ok (.putfield 71, 3) := by decide +kernel
theorem nd_Mo_wall_30 : decode nc_Mo_wall 30 = .ok (.aload_n 0, 1) := by decide +kernel
theorem nd_Mo_wall_31 : decode nc_Mo_wall 31 = .ok (.getfield 71, 3) := by decide +kernel
theorem nd_Mo_wall_34 : decode nc_Mo_wall 34 = .ok (.ifCond .le 5, 3) := by decide +kernel
theorem nd_Mo_wall_37 : decode nc_Mo_wall 37 = .ok (.iconst 0, 1) := by decide +kernel
theorem nd_Mo_wall_38 : decode nc_Mo_wall 38 = .ok (.ireturn, 1) := by decide +kernel
theorem nd_Mo_wall_39 : decode nc_Mo_wall 39 = .ok (.aload_n 0, 1) := by decide +kernel
theorem nd_Mo_wall_40 : decode nc_Mo_wall 40 = .ok (.invokevirtual 124, 3) := by decide +kernel
theorem nd_Mo_wall_43 : decode nc_Mo_wall 43 = .ok (.aload_n 0, 1) := by decide +kernel
theorem nd_Mo_wall_44 : decode nc_Mo_wall 44 = .ok (.iload_n 1, 1) := by decide +kernel
theorem nd_Mo_wall_45 : decode nc_Mo_wall 45 = .ok (.invokevirtual 94, 3) := by decide +kernel
theorem nd_Mo_wall_48 : decode nc_Mo_wall 48 = .ok (.istore_n 3, 1) := by decide +kernel
theorem nd_Mo_wall_49 : decode nc_Mo_wall 49 = .ok (.aload_n 0, 1) := by decide +kernel
theorem nd_Mo_wall_50 : decode nc_Mo_wall 50 = .ok (.iload_n 2, 1) := by decide +kernel
theorem nd_Mo_wall_51 : decode nc_Mo_wall 51 = .ok (.invokevirtual 94, 3) := by decide +kernel
theorem nd_Mo_wall_54 : decode nc_Mo_wall 54 = .ok (.istore 4, 2) := by decide +kernel
theorem nd_Mo_wall_56 : decode nc_Mo_wall 56 = .ok (.aload_n 0, 1) := by decide +kernel
theorem nd_Mo_wall_57 : decode nc_Mo_wall 57 = .ok (.getfield 98, 3) := by decide +kernel
theorem nd_Mo_wall_60 : decode nc_Mo_wall 60 = .ok (.ifCond .eq 12, 3) := by decide +kernel
theorem nd_Mo_wall_63 : decode nc_Mo_wall 63 = .ok (.iload_n 3, 1) := by decide +kernel
theorem nd_Mo_wall_64 : decode nc_Mo_wall 64 = .ok (.ifCond .lt 8, 3) := by decide +kernel
theorem nd_Mo_wall_67 : decode nc_Mo_wall 67 = .ok (.iload 4, 2) := by decide +kernel
theorem nd_Mo_wall_69 : decode nc_Mo_wall 69 = .ok (.ifCond .ge 7, 3) := by decide +kernel
theorem nd_Mo_wall_72 : decode nc_Mo_wall 72 = .ok (.iconst (-1), 1) := by decide +kernel
theorem nd_Mo_wall_73 : decode nc_Mo_wall 73 = .ok (.goto 10, 3) := by decide +kernel
theorem nd_Mo_wall_76 : decode nc_Mo_wall 76 = .ok (.aload_n 0, 1) := by decide +kernel
theorem nd_Mo_wall_77 : decode nc_Mo_wall 77 = .ok (.iload_n 3, 1) := by decide +kernel
theorem nd_Mo_wall_78 : decode nc_Mo_wall 78 = .ok (.iload 4, 2) := by decide +kernel
theorem nd_Mo_wall_80 : decode nc_Mo_wall 80 = .ok (.invokevirtual 131, 3) := by decide +kernel
theorem nd_Mo_wall_83 : decode nc_Mo_wall 83 = .ok (.ireturn, 1) := by decide +kernel
theorem nd_Mo_wish_0 : decode nc_Mo_wish 0 = .ok (.aload_n 0, 1) := by decide +kernel
theorem nd_Mo_wish_1 : decode nc_Mo_wish 1 = .ok (.iload_n 1, 1) := by decide +kernel
theorem nd_Mo_wish_2 : decode nc_Mo_wish 2 = .ok (.invokevirtual 77, 3) := by decide +kernel
theorem nd_Mo_wish_5 : decode nc_Mo_wish 5 = .ok (.ifCond .eq 30, 3) := by decide +kernel
theorem nd_Mo_wish_8 : decode nc_Mo_wish 8 = .ok (.aload_n 0, 1) := by decide +kernel
theorem nd_Mo_wish_9 : decode nc_Mo_wish 9 = .ok (.iload_n 2, 1) := by decide +kernel
theorem nd_Mo_wish_10 : decode nc_Mo_wish 10 = .ok (.invokevirtual 77, 3) := by decide +kernel
theorem nd_Mo_wish_13 : decode nc_Mo_wish 13 = .ok (.ifCond .eq 22, 3) := by decide +kernel
theorem nd_Mo_wish_16 : decode nc_Mo_wish 16 = .ok (.iload_n 1, 1) := by decide +kernel
theorem nd_Mo_wish_17 : decode nc_Mo_wish 17 = .ok (.iload_n 2, 1) := by decide +kernel
theorem nd_Mo_wish_18 : decode nc_Mo_wish 18 = .ok (.if_icmp .eq 17, 3) := by decide +kernel
theorem nd_Mo_wish_21 : decode nc_Mo_wish 21 = .ok (.iload_n 3, 1) := by decide +kernel
theorem nd_Mo_wish_22 : decode nc_Mo_wish 22 = .ok (.iconst 1, 1) := by decide +kernel
theorem nd_Mo_wish_23 : decode nc_Mo_wish 23 = .ok (.bipush 60, 2) := by decide +kernel
theorem nd_Mo_wish_25 : decode nc_Mo_wish 25 = .ok (.invokestatic 81, 3) := by decide +kernel
theorem nd_Mo_wish_28 : decode nc_Mo_wish 28 = .ok (.ifCond .eq 7, 3) := by decide +kernel
theorem nd_Mo_wish_31 : decode nc_Mo_wish 31 = .ok (.iconst 1, 1) := by decide +kernel
theorem nd_Mo_wish_32 : decode nc_Mo_wish 32 = .ok (.goto 4, 3) := by decide +kernel
theorem nd_Mo_wish_35 : decode nc_Mo_wish 35 = .ok (.iconst 0, 1) := by decide +kernel
theorem nd_Mo_wish_36 : decode nc_Mo_wish 36 = .ok (.istore 4, 2) := by decide +kernel
theorem nd_Mo_wish_38 : decode nc_Mo_wish 38 = .ok (.aload_n 0, 1) := by decide +kernel
theorem nd_Mo_wish_39 : decode nc_Mo_wish 39 = .ok (.iload 4, 2) := by decide +kernel
theorem nd_Mo_wish_41 : decode nc_Mo_wish 41 = .ok (.ifCond .ne 7, 3) := by decide +kernel
theorem nd_Mo_wish_44 : decode nc_Mo_wish 44 = .ok (.iconst 1, 1) := by decide +kernel
theorem nd_Mo_wish_45 : decode nc_Mo_wish 45 = .ok (.goto 17, 3) := by decide +kernel
theorem nd_Mo_wish_48 : decode nc_Mo_wish 48 = .ok (.aload_n 0, 1) := by decide +kernel
theorem nd_Mo_wish_49 : decode nc_Mo_wish 49 = .ok (.getfield 135, 3) := by decide +kernel
theorem nd_Mo_wish_52 : decode nc_Mo_wish 52 = .ok (.bipush 10, 2) := by decide +kernel
theorem nd_Mo_wish_54 : decode nc_Mo_wish 54 = .ok (.if_icmp .ne 7, 3) := by decide +kernel
theorem nd_Mo_wish_57 : decode nc_Mo_wish 57 = .ok (.iconst 2, 1) := by decide +kernel
theorem nd_Mo_wish_58 : decode nc_Mo_wish 58 = .ok (.goto 4, 3) := by decide +kernel
theorem nd_Mo_wish_61 : decode nc_Mo_wish 61 = .ok (.iconst 0, 1) := by decide +kernel
theorem nd_Mo_wish_62 : decode nc_Mo_wish 62 = .ok (.putfield 71, 3) := by decide +kernel
theorem nd_Mo_wish_65 : decode nc_Mo_wish 65 = .ok (.aload_n 0, 1) := by decide +kernel
theorem nd_Mo_wish_66 : decode nc_Mo_wish 66 = .ok (.getfield 71, 3) := by decide +kernel
theorem nd_Mo_wish_69 : decode nc_Mo_wish 69 = .ok (.ifCond .le 5, 3) := by decide +kernel
theorem nd_Mo_wish_72 : decode nc_Mo_wish 72 = .ok (.iconst 0, 1) := by decide +kernel
theorem nd_Mo_wish_73 : decode nc_Mo_wish 73 = .ok (.ireturn, 1) := by decide +kernel
theorem nd_Mo_wish_74 : decode nc_Mo_wish 74 = .ok (.aload_n 0, 1) := by decide +kernel
theorem nd_Mo_wish_75 : decode nc_Mo_wish 75 = .ok (.getfield 29, 3) := by decide +kernel
theorem nd_Mo_wish_78 : decode nc_Mo_wish 78 = .ok (.aload_n 0, 1) := by decide +kernel
theorem nd_Mo_wish_79 : decode nc_Mo_wish 79 = .ok (.getfield 135, 3) := by decide +kernel
theorem nd_Mo_wish_82 : decode nc_Mo_wish 82 = .ok (.iload_n 1, 1) := by decide +kernel
theorem nd_Mo_wish_83 : decode nc_Mo_wish 83 = .ok (.iastore, 1) := by decide +kernel
theorem nd_Mo_wish_84 : decode nc_Mo_wish 84 = .ok (.aload_n 0, 1) := by decide +kernel
theorem nd_Mo_wish_85 : decode nc_Mo_wish 85 = .ok (.getfield 32, 3) := by decide +kernel
theorem nd_Mo_wish_88 : decode nc_Mo_wish 88 = .ok (.aload_n 0, 1) := by decide +kernel
theorem nd_Mo_wish_89 : decode nc_Mo_wish 89 = .ok (.getfield 135, 3) := by decide +kernel
theorem nd_Mo_wish_92 : decode nc_Mo_wish 92 = .ok (.iload_n 2, 1) := by decide +kernel
theorem nd_Mo_wish_93 : decode nc_Mo_wish 93 = .ok (.iastore, 1) := by decide +kernel
theorem nd_Mo_wish_94 : decode nc_Mo_wish 94 = .ok (.aload_n 0, 1) := by decide +kernel
theorem nd_Mo_wish_95 : decode nc_Mo_wish 95 = .ok (.getfield 35, 3) := by decide +kernel
theorem nd_Mo_wish_98 : decode nc_Mo_wish 98 = .ok (.aload_n 0, 1) := by decide +kernel
theorem nd_Mo_wish_99 : decode nc_Mo_wish 99 = .ok (.getfield 135, 3) := by decide +kernel
theorem nd_Mo_wish_102 : decode nc_Mo_wish 102 = .ok (.iload_n 3, 1) := by decide +kernel
theorem nd_Mo_wish_103 : decode nc_Mo_wish 103 = .ok (.iastore, 1) := by decide +kernel
theorem nd_Mo_wish_104 : decode nc_Mo_wish 104 = .ok (.aload_n 0, 1) := by decide +kernel
theorem nd_Mo_wish_105 : decode nc_Mo_wish 105 = .ok (.dup, 1) := by decide +kernel
theorem nd_Mo_wish_106 : decode nc_Mo_wish 106 = .ok (.getfield 135, 3) := by decide +kernel
theorem nd_Mo_wish_109 : decode nc_Mo_wish 109 = .ok (.iconst 1, 1) := by decide +kernel
theorem nd_Mo_wish_110 : decode nc_Mo_wish 110 = .ok (.iadd, 1) := by decide +kernel
theorem nd_Mo_wish_111 : decode nc_Mo_wish 111 = .ok (.putfield 135, 3) := by decide +kernel
theorem nd_Mo_wish_114 : decode nc_Mo_wish 114 = .ok (.aload_n 0, 1) := by decide +kernel
theorem nd_Mo_wish_115 : decode nc_Mo_wish 115 = .ok (.getfield 135, 3) := by decide +kernel
theorem nd_Mo_wish_118 : decode nc_Mo_wish 118 = .ok (.iconst 1, 1) := by decide +kernel
theorem nd_Mo_wish_119 : decode nc_Mo_wish 119 = .ok (.isub, 1) := by decide +kernel
theorem nd_Mo_wish_120 : decode nc_Mo_wish 120 = .ok (.ireturn, 1) := by decide +kernel
theorem nd_Mo_isMet_0 : decode nc_Mo_isMet 0 = .ok (.aload_n 0, 1) := by decide +kernel
theorem nd_Mo_isMet_1 : decode nc_Mo_isMet 1 = .ok (.aload_n 0, 1) := by decide +kernel
theorem nd_Mo_isMet_2 : decode nc_Mo_isMet 2 = .ok (.getfield 29, 3) := by decide +kernel
theorem nd_Mo_isMet_5 : decode nc_Mo_isMet 5 = .ok (.iload_n 1, 1) := by decide +kernel
theorem nd_Mo_isMet_6 : decode nc_Mo_isMet 6 = .ok (.iaload, 1) := by decide +kernel
theorem nd_Mo_isMet_7 : decode nc_Mo_isMet 7 = .ok (.invokevirtual 94, 3) := by decide +kernel
theorem nd_Mo_isMet_10 : decode nc_Mo_isMet 10 = .ok (.istore_n 2, 1) := by decide +kernel
theorem nd_Mo_isMet_11 : decode nc_Mo_isMet 11 = .ok (.aload_n 0, 1) := by decide +kernel
theorem nd_Mo_isMet_12 : decode nc_Mo_isMet 12 = .ok (.aload_n 0, 1) := by decide +kernel
theorem nd_Mo_isMet_13 : decode nc_Mo_isMet 13 = .ok (.getfield 32, 3) := by decide +kernel
theorem nd_Mo_isMet_16 : decode nc_Mo_isMet 16 = .ok (.iload_n 1, 1) := by decide +kernel
theorem nd_Mo_isMet_17 : decode nc_Mo_isMet 17 = .ok (.iaload, 1) := by decide +kernel
theorem nd_Mo_isMet_18 : decode nc_Mo_isMet 18 = .ok (.invokevirtual 94, 3) := by decide +kernel
theorem nd_Mo_isMet_21 : decode nc_Mo_isMet 21 = .ok (.istore_n 3, 1) := by decide +kernel
theorem nd_Mo_isMet_22 : decode nc_Mo_isMet 22 = .ok (.aload_n 0, 1) := by decide +kernel
theorem nd_Mo_isMet_23 : decode nc_Mo_isMet 23 = .ok (.getfield 98, 3) := by decide +kernel
theorem nd_Mo_isMet_26 : decode nc_Mo_isMet 26 = .ok (.ifCond .eq 30, 3) := by decide +kernel
theorem nd_Mo_isMet_29 : decode nc_Mo_isMet 29 = .ok (.iload_n 2, 1) := by decide +kernel
theorem nd_Mo_isMet_30 : decode nc_Mo_isMet 30 = .ok (.ifCond .lt 26, 3) := by decide +kernel
theorem nd_Mo_isMet_33 : decode nc_Mo_isMet 33 = .ok (.iload_n 3, 1) := by decide +kernel
theorem nd_Mo_isMet_34 : decode nc_Mo_isMet 34 = .ok (.ifCond .lt 22, 3) := by decide +kernel
theorem nd_Mo_isMet_37 : decode nc_Mo_isMet 37 = .ok (.aload_n 0, 1) := by decide +kernel
theorem nd_Mo_isMet_38 : decode nc_Mo_isMet 38 = .ok (.iload_n 2, 1) := by decide +kernel
theorem nd_Mo_isMet_39 : decode nc_Mo_isMet 39 = .ok (.iload_n 3, 1) := by decide +kernel
theorem nd_Mo_isMet_40 : decode nc_Mo_isMet 40 = .ok (.invokevirtual 131, 3) := by decide +kernel
theorem nd_Mo_isMet_43 : decode nc_Mo_isMet 43 = .ok (.aload_n 0, 1) := by decide +kernel
theorem nd_Mo_isMet_44 : decode nc_Mo_isMet 44 = .ok (.getfield 35, 3) := by decide +kernel
theorem nd_Mo_isMet_47 : decode nc_Mo_isMet 47 = .ok (.iload_n 1, 1) := by decide +kernel
theorem nd_Mo_isMet_48 : decode nc_Mo_isMet 48 = .ok (.iaload, 1) := by decide +kernel
theorem nd_Mo_isMet_49 : decode nc_Mo_isMet 49 = .ok (.if_icmp .lt 7, 3) := by decide +kernel
theorem nd_Mo_isMet_52 : decode nc_Mo_isMet 52 = .ok (.iconst 1, 1) := by decide +kernel
theorem nd_Mo_isMet_53 : decode nc_Mo_isMet 53 = .ok (.goto 4, 3) := by decide +kernel
theorem nd_Mo_isMet_56 : decode nc_Mo_isMet 56 = .ok (.iconst 0, 1) := by decide +kernel
theorem nd_Mo_isMet_57 : decode nc_Mo_isMet 57 = .ok (.ireturn, 1) := by decide +kernel
theorem nd_Mo_met0_0 : decode nc_Mo_met0 0 = .ok (.aload_n 0, 1) := by decide +kernel
theorem nd_Mo_met0_1 : decode nc_Mo_met0 1 = .ok (.iload_n 1, 1) := by decide +kernel
theorem nd_Mo_met0_2 : decode nc_Mo_met0 2 = .ok (.iconst 0, 1) := by decide +kernel
theorem nd_Mo_met0_3 : decode nc_Mo_met0 3 = .ok (.aload_n 0, 1) := by decide +kernel
theorem nd_Mo_met0_4 : decode nc_Mo_met0 4 = .ok (.getfield 135, 3) := by decide +kernel
theorem nd_Mo_met0_7 : decode nc_Mo_met0 7 = .ok (.iconst 1, 1) := by decide +kernel
theorem nd_Mo_met0_8 : decode nc_Mo_met0 8 = .ok (.isub, 1) := by decide +kernel
theorem nd_Mo_met0_9 : decode nc_Mo_met0 9 = .ok (.invokestatic 81, 3) := by decide +kernel
theorem nd_Mo_met0_12 : decode nc_Mo_met0 12 = .ok (.ifCond .eq 7, 3) := by decide +kernel
theorem nd_Mo_met0_15 : decode nc_Mo_met0 15 = .ok (.iconst 0, 1) := by decide +kernel
theorem nd_Mo_met0_16 : decode nc_Mo_met0 16 = .ok (.goto 4, 3) := by decide +kernel
theorem nd_Mo_met0_19 : decode nc_Mo_met0 19 = .ok (.iconst 1, 1) := by decide +kernel
theorem nd_Mo_met0_20 : decode nc_Mo_met0 20 = .ok (.putfield 71, 3) := by decide +kernel
theorem nd_Mo_met0_23 : decode nc_Mo_met0 23 = .ok (.aload_n 0, 1) := by decide +kernel
theorem nd_Mo_met0_24 : decode nc_Mo_met0 24 = .ok (.getfield 71, 3) := by decide +kernel
theorem nd_Mo_met0_27 : decode nc_Mo_met0 27 = .ok (.ifCond .le 5, 3) := by decide +kernel
theorem nd_Mo_met0_30 : decode nc_Mo_met0 30 = .ok (.iconst 0, 1) := by decide +kernel
theorem nd_Mo_met0_31 : decode nc_Mo_met0 31 = .ok (.ireturn, 1) := by decide +kernel
theorem nd_Mo_met0_32 : decode nc_Mo_met0 32 = .ok (.aload_n 0, 1) := by decide +kernel
theorem nd_Mo_met0_33 : decode nc_Mo_met0 33 = .ok (.invokevirtual 124, 3) := by decide +kernel
theorem nd_Mo_met0_36 : decode nc_Mo_met0 36 = .ok (.aload_n 0, 1) := by decide +kernel
theorem nd_Mo_met0_37 : decode nc_Mo_met0 37 = .ok (.iload_n 1, 1) := by decide +kernel
theorem nd_Mo_met0_38 : decode nc_Mo_met0 38 = .ok (.invokevirtual 138, 3) := by decide +kernel
theorem nd_Mo_met0_41 : decode nc_Mo_met0 41 = .ok (.ireturn, 1) := by decide +kernel
theorem nd_Mo_allMet_0 : decode nc_Mo_allMet 0 = .ok (.aload_n 0, 1) := by decide +kernel
theorem nd_Mo_allMet_1 : decode nc_Mo_allMet 1 = .ok (.invokevirtual 124, 3) := by decide +kernel
theorem nd_Mo_allMet_4 : decode nc_Mo_allMet 4 = .ok (.iconst 0, 1) := by decide +kernel
theorem nd_Mo_allMet_5 : decode nc_Mo_allMet 5 = .ok (.istore_n 1, 1) := by decide +kernel
theorem nd_Mo_allMet_6 : decode nc_Mo_allMet 6 = .ok (.iconst 0, 1) := by decide +kernel
theorem nd_Mo_allMet_7 : decode nc_Mo_allMet 7 = .ok (.istore_n 2, 1) := by decide +kernel
theorem nd_Mo_allMet_8 : decode nc_Mo_allMet 8 = .ok (.iload_n 2, 1) := by decide +kernel
theorem nd_Mo_allMet_9 : decode nc_Mo_allMet 9 = .ok (.aload_n 0, 1) := by decide +kernel
theorem nd_Mo_allMet_10 : decode nc_Mo_allMet 10 = .ok (.getfield 135, 3) := by decide +kernel
theorem nd_Mo_allMet_13 : decode nc_Mo_allMet 13 = .ok (.if_icmp .ge 25, 3) := by decide +kernel
theorem nd_Mo_allMet_16 : decode nc_Mo_allMet 16 = .ok (.iload_n 1, 1) := by decide +kernel
theorem nd_Mo_allMet_17 : decode nc_Mo_allMet 17 = .ok (.aload_n 0, 1) := by decide +kernel
theorem nd_Mo_allMet_18 : decode nc_Mo_allMet 18 = .ok (.iload_n 2, 1) := by decide +kernel
theorem nd_Mo_allMet_19 : decode nc_Mo_allMet 19 = .ok (.invokevirtual 138, 3) := by decide +kernel
theorem nd_Mo_allMet_22 : decode nc_Mo_allMet 22 = .ok (.ifCond .eq 7, 3) := by decide +kernel
theorem nd_Mo_allMet_25 : decode nc_Mo_allMet 25 = .ok (.iconst 1, 1) := by decide +kernel
theorem nd_Mo_allMet_26 : decode nc_Mo_allMet 26 = .ok (.goto 4, 3) := by decide +kernel
theorem nd_Mo_allMet_29 : decode nc_Mo_allMet 29 = .ok (.iconst 0, 1) := by decide +kernel
theorem nd_Mo_allMet_30 : decode nc_Mo_allMet 30 = .ok (.iadd, 1) := by decide +kernel
theorem nd_Mo_allMet_31 : decode nc_Mo_allMet 31 = .ok (.istore_n 1, 1) := by decide +kernel
theorem nd_Mo_allMet_32 : decode nc_Mo_allMet 32 = .ok (.iinc 2 1, 3) := by decide +kernel
theorem nd_Mo_allMet_35 : decode nc_Mo_allMet 35 = .ok (.goto (-27), 3) := by decide +kernel
theorem nd_Mo_allMet_38 : decode nc_Mo_allMet 38 = .ok (.iload_n 1, 1) := by decide +kernel
theorem nd_Mo_allMet_39 : decode nc_Mo_allMet 39 = .ok (.ireturn, 1) := by decide +kernel
theorem nd_Mo_met1_0 : decode nc_Mo_met1 0 = .ok (.aload_n 0, 1) := by decide +kernel
theorem nd_Mo_met1_1 : decode nc_Mo_met1 1 = .ok (.iconst 0, 1) := by decide +kernel
theorem nd_Mo_met1_2 : decode nc_Mo_met1 2 = .ok (.putfield 71, 3) := by decide +kernel
theorem nd_Mo_met1_5 : decode nc_Mo_met1 5 = .ok (.aload_n 0, 1) := by decide +kernel
theorem nd_Mo_met1_6 : decode nc_Mo_met1 6 = .ok (.invokevirtual 141, 3) := by decide +kernel
theorem nd_Mo_met1_9 : decode nc_Mo_met1 9 = .ok (.ireturn, 1) := by decide +kernel
theorem nd_Mo_canChange_0 : decode nc_Mo_canChange 0 = .ok (.aload_n 0, 1) := by decide +kernel
theorem nd_Mo_canChange_1 : decode nc_Mo_canChange 1 = .ok (.iload_n 1, 1) := by decide +kernel
theorem nd_Mo_canChange_2 : decode nc_Mo_canChange 2 = .ok (.invokevirtual 94, 3) := by decide +kernel
theorem nd_Mo_canChange_5 : decode nc_Mo_canChange 5 = .ok (.ifCond .ge 11, 3) := by decide +kernel
theorem nd_Mo_canChange_8 : decode nc_Mo_canChange 8 = .ok (.aload_n 0, 1) := by decide +kernel
theorem nd_Mo_canChange_9 : decode nc_Mo_canChange 9 = .ok (.iload_n 2, 1) := by decide +kernel
theorem nd_Mo_canChange_10 : decode nc_Mo_canChange 10 = .ok (.invokevirtual 94, 3) := by decide +kernel
theorem nd_Mo_canChange_13 : decode nc_Mo_canChange 13 = .ok (.ifCond .lt 25, 3) := by decide +kernel
theorem nd_Mo_canChange_16 : decode nc_Mo_canChange 16 = .ok (.aload_n 0, 1) := by decide +kernel
theorem nd_Mo_canChange_17 : decode nc_Mo_canChange 17 = .ok (.getfield 7, 3) := by decide +kernel
theorem nd_Mo_canChange_20 : decode nc_Mo_canChange 20 = .ok (.iload_n 1, 1) := by decide +kernel
theorem nd_Mo_canChange_21 : decode nc_Mo_canChange 21 = .ok (.iaload, 1) := by decide +kernel
theorem nd_Mo_canChange_22 : decode nc_Mo_canChange 22 = .ok (.ifCond .le 16, 3) := by decide +kernel
theorem nd_Mo_canChange_25 : decode nc_Mo_canChange 25 = .ok (.aload_n 0, 1) := by decide +kernel
theorem nd_Mo_canChange_26 : decode nc_Mo_canChange 26 = .ok (.getfield 7, 3) := by decide +kernel
theorem nd_Mo_canChange_29 : decode nc_Mo_canChange 29 = .ok (.iload_n 2, 1) := by decide +kernel
theorem nd_Mo_canChange_30 : decode nc_Mo_canChange 30 = .ok (.iaload, 1) := by decide +kernel
theorem nd_Mo_canChange_31 : decode nc_Mo_canChange 31 = .ok (.ifCond .le 7, 3) := by decide +kernel
theorem nd_Mo_canChange_34 : decode nc_Mo_canChange 34 = .ok (.iconst 1, 1) := by decide +kernel
theorem nd_Mo_canChange_35 : decode nc_Mo_canChange 35 = .ok (.goto 4, 3) := by decide +kernel
theorem nd_Mo_canChange_38 : decode nc_Mo_canChange 38 = .ok (.iconst 0, 1) := by decide +kernel
theorem nd_Mo_canChange_39 : decode nc_Mo_canChange 39 = .ok (.ireturn, 1) := by decide +kernel
theorem nd_Mo_change_0 : decode nc_Mo_change 0 = .ok (.aload_n 0, 1) := by decide +kernel
theorem nd_Mo_change_1 : decode nc_Mo_change 1 = .ok (.iload_n 1, 1) := by decide +kernel
theorem nd_Mo_change_2 : decode nc_Mo_change 2 = .ok (.invokevirtual 94, 3) := by decide +kernel
theorem nd_Mo_change_5 : decode nc_Mo_change 5 = .ok (.istore_n 3, 1) := by decide +kernel
theorem nd_Mo_change_6 : decode nc_Mo_change 6 = .ok (.aload_n 0, 1) := by decide +kernel
theorem nd_Mo_change_7 : decode nc_Mo_change 7 = .ok (.iload_n 2, 1) := by decide +kernel
theorem nd_Mo_change_8 : decode nc_Mo_change 8 = .ok (.invokevirtual 94, 3) := by decide +kernel
theorem nd_Mo_change_11 : decode nc_Mo_change 11 = .ok (.istore 4, 2) := by decide +kernel
theorem nd_Mo_change_13 : decode nc_Mo_change 13 = .ok (.iload_n 3, 1) := by decide +kernel
theorem nd_Mo_change_14 : decode nc_Mo_change 14 = .ok (.ifCond .lt 13, 3) := by decide +kernel
theorem nd_Mo_change_17 : decode nc_Mo_change 17 = .ok (.aload_n 0, 1) := by decide +kernel
theorem nd_Mo_change_18 : decode nc_Mo_change 18 = .ok (.getfield 26, 3) := by decide +kernel
theorem nd_Mo_change_21 : decode nc_Mo_change 21 = .ok (.iload_n 3, 1) := by decide +kernel
theorem nd_Mo_change_22 : decode nc_Mo_change 22 = .ok (.bipush 48, 2) := by decide +kernel
theorem nd_Mo_change_24 : decode nc_Mo_change 24 = .ok (.iload_n 2, 1) := by decide +kernel
theorem nd_Mo_change_25 : decode nc_Mo_change 25 = .ok (.iadd, 1) := by decide +kernel
theorem nd_Mo_change_26 : decode nc_Mo_change 26 = .ok (.iastore, 1) := by decide +kernel
theorem nd_Mo_change_27 : decode nc_Mo_change 27 = .ok (.iload 4, 2) := by decide +kernel
theorem nd_Mo_change_29 : decode nc_Mo_change 29 = .ok (.ifCond .lt 14, 3) := by decide +kernel
theorem nd_Mo_change_32 : decode nc_Mo_change 32 = .ok (.aload_n 0, 1) := by decide +kernel
theorem nd_Mo_change_33 : decode nc_Mo_change 33 = .ok (.getfield 26, 3) := by decide +kernel
theorem nd_Mo_change_36 : decode nc_Mo_change 36 = .ok (.iload 4, 2) := by decide +kernel
theorem nd_Mo_change_38 : decode nc_Mo_change 38 = .ok (.bipush 48, 2) := by decide +kernel
theorem nd_Mo_change_40 : decode nc_Mo_change 40 = .ok (.iload_n 1, 1) := by decide +kernel
theorem nd_Mo_change_41 : decode nc_Mo_change 41 = .ok (.iadd, 1) := by decide +kernel
theorem nd_Mo_change_42 : decode nc_Mo_change 42 = .ok (.iastore, 1) := by decide +kernel
theorem nd_Mo_change_43 : decode nc_Mo_change 43 = .ok (.return_, 1) := by decide +kernel
theorem nd_Mo_swap_0 : decode nc_Mo_swap 0 = .ok (.aload_n 0, 1) := by decide +kernel
theorem nd_Mo_swap_1 : decode nc_Mo_swap 1 = .ok (.aload_n 0, 1) := by decide +kernel
theorem nd_Mo_swap_2 : decode nc_Mo_swap 2 = .ok (.iload_n 1, 1) := by decide +kernel
theorem nd_Mo_swap_3 : decode nc_Mo_swap 3 = .ok (.invokevirtual 77, 3) := by decide +kernel
theorem nd_Mo_swap_6 : decode nc_Mo_swap 6 = .ok (.ifCond .eq 20, 3) := by decide +kernel
theorem nd_Mo_swap_9 : decode nc_Mo_swap 9 = .ok (.aload_n 0, 1) := by decide +kernel
theorem nd_Mo_swap_10 : decode nc_Mo_swap 10 = .ok (.iload_n 2, 1) := by decide +kernel
theorem nd_Mo_swap_11 : decode nc_Mo_swap 11 = .ok (.invokevirtual 77, 3) := by decide +kernel
theorem nd_Mo_swap_14 : decode nc_Mo_swap 14 = .ok (.ifCond .eq 12, 3) := by decide +kernel
theorem nd_Mo_swap_17 : decode nc_Mo_swap 17 = .ok (.iload_n 1, 1) := by decide +kernel
theorem nd_Mo_swap_18 : decode nc_Mo_swap 18 = .ok (.iload_n 2, 1) := by decide +kernel
theorem nd_Mo_swap_19 : decode nc_Mo_swap 19 = .ok (.if_icmp .eq 7, 3) := by decide +kernel
theorem nd_Mo_swap_22 : decode nc_Mo_swap 22 = .ok (.iconst 0, 1) := by decide +kernel
theorem nd_Mo_swap_23 : decode nc_Mo_swap 23 = .ok (.goto 4, 3) := by decide +kernel
theorem nd_Mo_swap_26 : decode nc_Mo_swap 26 = .ok (.iconst 1, 1) := by decide +kernel
theorem nd_Mo_swap_27 : decode nc_Mo_swap 27 = .ok (.putfield 71, 3) := by decide +kernel
theorem nd_Mo_swap_30 : decode nc_Mo_swap 30 = .ok (.aload_n 0, 1) := by decide +kernel
theorem nd_Mo_swap_31 : decode nc_Mo_swap 31 = .ok (.getfield 71, 3) := by decide +kernel
theorem nd_Mo_swap_34 : decode nc_Mo_swap 34 = .ok (.ifCond .gt 12, 3) := by decide +kernel
theorem nd_Mo_swap_37 : decode nc_Mo_swap 37 = .ok (.aload_n 0, 1) := by decide +kernel
theorem nd_Mo_swap_38 : decode nc_Mo_swap 38 = .ok (.iload_n 1, 1) := by decide +kernel
theorem nd_Mo_swap_39 : decode nc_Mo_swap 39 = .ok (.iload_n 2, 1) := by decide +kernel
theorem nd_Mo_swap_40 : decode nc_Mo_swap 40 = .ok (.invokevirtual 145, 3) := by decide +kernel
theorem nd_Mo_swap_43 : decode nc_Mo_swap 43 = .ok (.ifCond .ne 5, 3) := by decide +kernel
theorem nd_Mo_swap_46 : decode nc_Mo_swap 46 = .ok (.iconst 0, 1) := by decide +kernel
theorem nd_Mo_swap_47 : decode nc_Mo_swap 47 = .ok (.ireturn, 1) := by decide +kernel
theorem nd_Mo_swap_48 : decode nc_Mo_swap 48 = .ok (.aload_n 0, 1) := by decide +kernel
theorem nd_Mo_swap_49 : decode nc_Mo_swap 49 = .ok (.iload_n 1, 1) := by decide +kernel
theorem nd_Mo_swap_50 : decode nc_Mo_swap 50 = .ok (.iload_n 2, 1) := by decide +kernel
theorem nd_Mo_swap_51 : decode nc_Mo_swap 51 = .ok (.invokevirtual 149, 3) := by decide +kernel
theorem nd_Mo_swap_54 : decode nc_Mo_swap 54 = .ok (.iconst 1, 1) := by decide +kernel
theorem nd_Mo_swap_55 : decode nc_Mo_swap 55 = .ok (.ireturn, 1) := by decide +kernel
theorem nd_Mo_improve_0 : decode nc_Mo_improve 0 = .ok (.aload_n 0, 1) := by decide +kernel
theorem nd_Mo_improve_1 : decode nc_Mo_improve 1 = .ok (.iconst 0, 1) := by decide +kernel
theorem nd_Mo_improve_2 : decode nc_Mo_improve 2 = .ok (.putfield 71, 3) := by decide +kernel
theorem nd_Mo_improve_5 : decode nc_Mo_improve 5 = .ok (.aload_n 0, 1) := by decide +kernel
theorem nd_Mo_improve_6 : decode nc_Mo_improve 6 = .ok (.invokevirtual 141, 3) := by decide +kernel
theorem nd_Mo_improve_9 : decode nc_Mo_improve 9 = .ok (.istore_n 1, 1) := by decide +kernel
theorem nd_Mo_improve_10 : decode nc_Mo_improve 10 = .ok (.aload_n 0, 1) := by decide +kernel
theorem nd_Mo_improve_11 : decode nc_Mo_improve 11 = .ok (.getfield 98, 3) := by decide +kernel
theorem nd_Mo_improve_14 : decode nc_Mo_improve 14 = .ok (.istore_n 2, 1) := by decide +kernel
theorem nd_Mo_improve_15 : decode nc_Mo_improve 15 = .ok (.aload_n 0, 1) := by decide +kernel
theorem nd_Mo_improve_16 : decode nc_Mo_improve 16 = .ok (.getfield 98, 3) := by decide +kernel
theorem nd_Mo_improve_19 : decode nc_Mo_improve 19 = .ok (.ifCond .eq 15, 3) := by decide +kernel
theorem nd_Mo_improve_22 : decode nc_Mo_improve 22 = .ok (.aload_n 0, 1) := by decide +kernel
theorem nd_Mo_improve_23 : decode nc_Mo_improve 23 = .ok (.getfield 108, 3) := by decide +kernel
theorem nd_Mo_improve_26 : decode nc_Mo_improve 26 = .ok (.aload_n 0, 1) := by decide +kernel
theorem nd_Mo_improve_27 : decode nc_Mo_improve 27 = .ok (.getfield 111, 3) := by decide +kernel
theorem nd_Mo_improve_30 : decode nc_Mo_improve 30 = .ok (.imul, 1) := by decide +kernel
theorem nd_Mo_improve_31 : decode nc_Mo_improve 31 = .ok (.goto 4, 3) := by decide +kernel
theorem nd_Mo_improve_34 : decode nc_Mo_improve 34 = .ok (.iconst 0, 1) := by decide +kernel
theorem nd_Mo_improve_35 : decode nc_Mo_improve 35 = .ok (.istore_n 3, 1) := by decide +kernel
theorem nd_Mo_improve_36 : decode nc_Mo_improve 36 = .ok (.iconst (-1), 1) := by decide +kernel
theorem nd_Mo_improve_37 : decode nc_Mo_improve 37 = .ok (.istore 4, 2) := by decide +kernel
theorem nd_Mo_improve_39 : decode nc_Mo_improve 39 = .ok (.iconst (-1), 1) := by decide +kernel
theorem nd_Mo_improve_40 : decode nc_Mo_improve 40 = .ok (.istore 5, 2) := by decide +kernel
theorem nd_Mo_improve_42 : decode nc_Mo_improve 42 = .ok (.iconst 0, 1) := by decide +kernel
theorem nd_Mo_improve_43 : decode nc_Mo_improve 43 = .ok (.istore 6, 2) := by decide +kernel
theorem nd_Mo_improve_45 : decode nc_Mo_improve 45 = .ok (.iload 6, 2) := by decide +kernel
theorem nd_Mo_improve_47 : decode nc_Mo_improve 47 = .ok (.aload_n 0, 1) := by decide +kernel
theorem nd_Mo_improve_48 : decode nc_Mo_improve 48 = .ok (.getfield 74, 3) := by decide +kernel
theorem nd_Mo_improve_51 : decode nc_Mo_improve 51 = .ok (.if_icmp .ge 119, 3) := by decide +kernel
theorem nd_Mo_improve_54 : decode nc_Mo_improve 54 = .ok (.iload 6, 2) := by decide +kernel
theorem nd_Mo_improve_56 : decode nc_Mo_improve 56 = .ok (.iconst 1, 1) := by decide +kernel
theorem nd_Mo_improve_57 : decode nc_Mo_improve 57 = .ok (.iadd, 1) := by decide +kernel
theorem nd_Mo_improve_58 : decode nc_Mo_improve 58 = .ok (.istore 7, 2) := by decide +kernel
theorem nd_Mo_improve_60 : decode nc_Mo_improve 60 = .ok (.iload 7, 2) := by decide +kernel
theorem nd_Mo_improve_62 : decode nc_Mo_improve 62 = .ok (.aload_n 0, 1) := by decide +kernel
theorem nd_Mo_improve_63 : decode nc_Mo_improve 63 = .ok (.getfield 74, 3) := by decide +kernel
theorem nd_Mo_improve_66 : decode nc_Mo_improve 66 = .ok (.if_icmp .ge 98, 3) := by decide +kernel
theorem nd_Mo_improve_69 : decode nc_Mo_improve 69 = .ok (.aload_n 0, 1) := by decide +kernel
theorem nd_Mo_improve_70 : decode nc_Mo_improve 70 = .ok (.iload 6, 2) := by decide +kernel
theorem nd_Mo_improve_72 : decode nc_Mo_improve 72 = .ok (.iload 7, 2) := by decide +kernel
theorem nd_Mo_improve_74 : decode nc_Mo_improve 74 = .ok (.invokevirtual 145, 3) := by decide +kernel
theorem nd_Mo_improve_77 : decode nc_Mo_improve 77 = .ok (.ifCond .eq 81, 3) := by decide +kernel
theorem nd_Mo_improve_80 : decode nc_Mo_improve 80 = .ok (.aload_n 0, 1) := by decide +kernel
theorem nd_Mo_improve_81 : decode nc_Mo_improve 81 = .ok (.iload 6, 2) := by decide +kernel
theorem nd_Mo_improve_83 : decode nc_Mo_improve 83 = .ok (.iload 7, 2) := by decide +kernel
theorem nd_Mo_improve_85 : decode nc_Mo_improve 85 = .ok (.invokevirtual 149, 3) := by decide +kernel
theorem nd_Mo_improve_88 : decode nc_Mo_improve 88 = .ok (.aload_n 0, 1) := by decide +kernel
theorem nd_Mo_improve_89 : decode nc_Mo_improve 89 = .ok (.invokevirtual 141, 3) := by decide +kernel
theorem nd_Mo_improve_92 : decode nc_Mo_improve 92 = .ok (.istore 8, 2) := by decide +kernel
theorem nd_Mo_improve_94 : decode nc_Mo_improve 94 = .ok (.aload_n 0, 1) := by decide +kernel
theorem nd_Mo_improve_95 : decode nc_Mo_improve 95 = .ok (.getfield 108, 3) := by decide +kernel
theorem nd_Mo_improve_98 : decode nc_Mo_improve 98 = .ok (.aload_n 0, 1) := by decide +kernel
theorem nd_Mo_improve_99 : decode nc_Mo_improve 99 = .ok (.getfield 111, 3) := by decide +kernel
theorem nd_Mo_improve_102 : decode nc_Mo_improve 102 = .ok (.imul, 1) := by decide +kernel
theorem nd_Mo_improve_103 : decode nc_Mo_improve 103 = .ok (.istore 9, 2) := by decide +kernel
theorem nd_Mo_improve_105 : decode nc_Mo_improve 105 = .ok (.aload_n 0, 1) := by decide +kernel
theorem nd_Mo_improve_106 : decode nc_Mo_improve 106 = .ok (.getfield 98, 3) := by decide +kernel
theorem nd_Mo_improve_109 : decode nc_Mo_improve 109 = .ok (.ifCond .eq 41, 3) := by decide +kernel
theorem nd_Mo_improve_112 : decode nc_Mo_improve 112 = .ok (.iload_n 2, 1) := by decide +kernel
theorem nd_Mo_improve_113 : decode nc_Mo_improve 113 = .ok (.ifCond .eq 21, 3) := by decide +kernel
theorem nd_Mo_improve_116 : decode nc_Mo_improve 116 = .ok (.iload 8, 2) := by decide +kernel
theorem nd_Mo_improve_118 : decode nc_Mo_improve 118 = .ok (.iload_n 1, 1) := by decide +kernel
theorem nd_Mo_improve_119 : decode nc_Mo_improve 119 = .ok (.if_icmp .gt 15, 3) := by decide +kernel
theorem nd_Mo_improve_122 : decode nc_Mo_improve 122 = .ok (.iload 8, 2) := by decide +kernel
theorem nd_Mo_improve_124 : decode nc_Mo_improve 124 = .ok (.iload_n 1, 1) := by decide +kernel
theorem nd_Mo_improve_125 : decode nc_Mo_improve 125 = .ok (.if_icmp .ne 25, 3) := by decide +kernel
theorem nd_Mo_improve_128 : decode nc_Mo_improve 128 = .ok (.iload 9, 2) := by decide +kernel
theorem nd_Mo_improve_130 : decode nc_Mo_improve 130 = .ok (.iload_n 3, 1) := by decide +kernel
theorem nd_Mo_improve_131 : decode nc_Mo_improve 131 = .ok (.if_icmp .ge 19, 3) := by decide +kernel
theorem nd_Mo_improve_134 : decode nc_Mo_improve 134 = .ok (.iconst 1, 1) := by decide +kernel
theorem nd_Mo_improve_135 : decode nc_Mo_improve 135 = .ok (.istore_n 2, 1) := by decide +kernel
theorem nd_Mo_improve_136 : decode nc_Mo_improve 136 = .ok (.iload 8, 2) := by decide +kernel
theorem nd_Mo_improve_138 : decode nc_Mo_improve 138 = .ok (.istore_n 1, 1) := by decide +kernel
theorem nd_Mo_improve_139 : decode nc_Mo_improve 139 = .ok (.iload 9, 2) := by decide +kernel
theorem nd_Mo_improve_141 : decode nc_Mo_improve 141 = .ok (.istore_n 3, 1) := by decide +kernel
theorem nd_Mo_improve_142 : decode nc_Mo_improve 142 = .ok (.iload 6, 2) := by decide +kernel
theorem nd_Mo_improve_144 : decode nc_Mo_improve 144 = .ok (.istore 4, 2) := by decide +kernel
theorem nd_Mo_improve_146 : decode nc_Mo_improve 146 = .ok (.iload 7, 2) := by decide +kernel
theorem nd_Mo_improve_148 : decode nc_Mo_improve 148 = .ok (.istore 5, 2) := by decide +kernel
theorem nd_Mo_improve_150 : decode nc_Mo_improve 150 = .ok (.aload_n 0, 1) := by decide +kernel
theorem nd_Mo_improve_151 : decode nc_Mo_improve 151 = .ok (.iload 6, 2) := by decide +kernel
theorem nd_Mo_improve_153 : decode nc_Mo_improve 153 = .ok (.iload 7, 2) := by decide +kernel
theorem nd_Mo_improve_155 : decode nc_Mo_improve 155 = .ok (.invokevirtual 149, 3) := by decide +kernel
theorem nd_Mo_improve_158 : decode nc_Mo_improve 158 = .ok (.iinc 7 1, 3) := by decide +kernel
theorem nd_Mo_improve_161 : decode nc_Mo_improve 161 = .ok (.goto (-101), 3) := by decide +kernel
theorem nd_Mo_improve_164 : decode nc_Mo_improve 164 = .ok (.iinc 6 1, 3) := by decide +kernel
theorem nd_Mo_improve_167 : decode nc_Mo_improve 167 = .ok (.goto (-122), 3) := by decide +kernel
theorem nd_Mo_improve_170 : decode nc_Mo_improve 170 = .ok (.iload 4, 2) := by decide +kernel
theorem nd_Mo_improve_172 : decode nc_Mo_improve 172 = .ok (.ifCond .lt 11, 3) := by decide +kernel
theorem nd_Mo_improve_175 : decode nc_Mo_improve 175 = .ok (.aload_n 0, 1) := by decide +kernel
theorem nd_Mo_improve_176 : decode nc_Mo_improve 176 = .ok (.iload 4, 2) := by decide +kernel
theorem nd_Mo_improve_178 : decode nc_Mo_improve 178 = .ok (.iload 5, 2) := by decide +kernel
theorem nd_Mo_improve_180 : decode nc_Mo_improve 180 = .ok (.invokevirtual 149, 3) := by decide +kernel
theorem nd_Mo_improve_183 : decode nc_Mo_improve 183 = .ok (.iload 4, 2) := by decide +kernel
theorem nd_Mo_improve_185 : decode nc_Mo_improve 185 = .ok (.ifCond .lt 7, 3) := by decide +kernel
theorem nd_Mo_improve_188 : decode nc_Mo_improve 188 = .ok (.iconst 1, 1) := by decide +kernel
theorem nd_Mo_improve_189 : decode nc_Mo_improve 189 = .ok (.goto 4, 3) := by decide +kernel
theorem nd_Mo_improve_192 : decode nc_Mo_improve 192 = .ok (.iconst 0, 1) := by decide +kernel
theorem nd_Mo_improve_193 : decode nc_Mo_improve 193 = .ok (.ireturn, 1) := by decide +kernel
theorem nd_Mo_sign_0 : decode nc_Mo_sign 0 = .ok (.aload_n 0, 1) := by decide +kernel
theorem nd_Mo_sign_1 : decode nc_Mo_sign 1 = .ok (.iload_n 1, 1) := by decide +kernel
theorem nd_Mo_sign_2 : decode nc_Mo_sign 2 = .ok (.ifCond .ge 7, 3) := by decide +kernel
theorem nd_Mo_sign_5 : decode nc_Mo_sign 5 = .ok (.iconst 1, 1) := by decide +kernel
theorem nd_Mo_sign_6 : decode nc_Mo_sign 6 = .ok (.goto 4, 3) := by decide +kernel
theorem nd_Mo_sign_9 : decode nc_Mo_sign 9 = .ok (.iconst 0, 1) := by decide +kernel
theorem nd_Mo_sign_10 : decode nc_Mo_sign 10 = .ok (.putfield 71, 3) := by decide +kernel
theorem nd_Mo_sign_13 : decode nc_Mo_sign 13 = .ok (.aload_n 0, 1) := by decide +kernel
theorem nd_Mo_sign_14 : decode nc_Mo_sign 14 = .ok (.getfield 71, 3) := by decide +kernel
theorem nd_Mo_sign_17 : decode nc_Mo_sign 17 = .ok (.ifCond .le 7, 3) := by decide +kernel
theorem nd_Mo_sign_20 : decode nc_Mo_sign 20 = .ok (.iconst 0, 1) := by decide +kernel
theorem nd_Mo_sign_21 : decode nc_Mo_sign 21 = .ok (.goto 21, 3) := by decide +kernel
theorem nd_Mo_sign_24 : decode nc_Mo_sign 24 = .ok (.iload_n 1, 1) := by decide +kernel
theorem nd_Mo_sign_25 : decode nc_Mo_sign 25 = .ok (.aload_n 0, 1) := by decide +kernel
theorem nd_Mo_sign_26 : decode nc_Mo_sign 26 = .ok (.getfield 91, 3) := by decide +kernel
theorem nd_Mo_sign_29 : decode nc_Mo_sign 29 = .ok (.if_icmp .ge 12, 3) := by decide +kernel
theorem nd_Mo_sign_32 : decode nc_Mo_sign 32 = .ok (.aload_n 0, 1) := by decide +kernel
theorem nd_Mo_sign_33 : decode nc_Mo_sign 33 = .ok (.getfield 26, 3) := by decide +kernel
theorem nd_Mo_sign_36 : decode nc_Mo_sign 36 = .ok (.iload_n 1, 1) := by decide +kernel
theorem nd_Mo_sign_37 : decode nc_Mo_sign 37 = .ok (.iaload, 1) := by decide +kernel
theorem nd_Mo_sign_38 : decode nc_Mo_sign 38 = .ok (.goto 4, 3) := by decide +kernel
theorem nd_Mo_sign_41 : decode nc_Mo_sign 41 = .ok (.iconst (-1), 1) := by decide +kernel
theorem nd_Mo_sign_42 : decode nc_Mo_sign 42 = .ok (.ireturn, 1) := by decide +kernel
