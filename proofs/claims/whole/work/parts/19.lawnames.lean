theorem nm_law_57 : Cond.methodLink nR_La 57 ny_La_room ∈ rl_TT := rl_tin 471 (by decide +kernel) rfl
theorem nm_st_La_room : Cond.static ny_La_room ∈ rl_TT := rl_tin 472 (by decide +kernel) rfl
theorem nm_ini_La : Cond.initialized nR_La ∈ rl_TT := rl_tin 34 (by decide +kernel) rfl
theorem nm_La_62 : Cond.methodLink nR_La 62 ny_Mo_room ∈ rl_TT := rl_tin 773 (by decide +kernel) rfl
theorem nh_Mo_room : Cond.code ny_Mo_room nc_Mo_room 1 (some .int) ∈ rl_TT := rl_tin 776 (by decide +kernel) rfl
theorem nm_im_Mo_room : Cond.instanceMethod ny_Mo_room ∈ rl_TT := rl_tin 774 (by decide +kernel) rfl
theorem nm_se_Mo_room : Cond.selects nR_Mo ny_Mo_room ny_Mo_room ∈ rl_TT := rl_tin 775 (by decide +kernel) rfl
theorem nm_La_63 : Cond.methodLink nR_La 63 ny_Mo_thrown ∈ rl_TT := rl_tin 769 (by decide +kernel) rfl
theorem nh_Mo_thrown : Cond.code ny_Mo_thrown nc_Mo_thrown 1 (some .int) ∈ rl_TT := rl_tin 772 (by decide +kernel) rfl
theorem nm_im_Mo_thrown : Cond.instanceMethod ny_Mo_thrown ∈ rl_TT := rl_tin 770 (by decide +kernel) rfl
theorem nm_se_Mo_thrown : Cond.selects nR_Mo ny_Mo_thrown ny_Mo_thrown ∈ rl_TT := rl_tin 771 (by decide +kernel) rfl
theorem nm_law_66 : Cond.methodLink nR_La 66 ny_La_size ∈ rl_TT := rl_tin 550 (by decide +kernel) rfl
theorem nm_st_La_size : Cond.static ny_La_size ∈ rl_TT := rl_tin 551 (by decide +kernel) rfl
theorem nm_La_69 : Cond.methodLink nR_La 69 ny_Mo_size ∈ rl_TT := rl_tin 777 (by decide +kernel) rfl
theorem nh_Mo_size : Cond.code ny_Mo_size nc_Mo_size 4 (some .int) ∈ rl_TT := rl_tin 780 (by decide +kernel) rfl
theorem nm_im_Mo_size : Cond.instanceMethod ny_Mo_size ∈ rl_TT := rl_tin 778 (by decide +kernel) rfl
theorem nm_se_Mo_size : Cond.selects nR_Mo ny_Mo_size ny_Mo_size ∈ rl_TT := rl_tin 779 (by decide +kernel) rfl
theorem nm_law_70 : Cond.methodLink nR_La 70 ny_La_lot ∈ rl_TT := rl_tin 587 (by decide +kernel) rfl
theorem nm_st_La_lot : Cond.static ny_La_lot ∈ rl_TT := rl_tin 588 (by decide +kernel) rfl
theorem nm_La_73 : Cond.methodLink nR_La 73 ny_Mo_lot ∈ rl_TT := rl_tin 788 (by decide +kernel) rfl
theorem nh_Mo_lot : Cond.code ny_Mo_lot nc_Mo_lot 3 none ∈ rl_TT := rl_tin 791 (by decide +kernel) rfl
theorem nm_im_Mo_lot : Cond.instanceMethod ny_Mo_lot ∈ rl_TT := rl_tin 789 (by decide +kernel) rfl
theorem nm_se_Mo_lot : Cond.selects nR_Mo ny_Mo_lot ny_Mo_lot ∈ rl_TT := rl_tin 790 (by decide +kernel) rfl
theorem nk_La_74 : Cond.constantLong nR_La 74 4294967295 ∈ rl_TT := rl_tin 892 (by decide +kernel) rfl
theorem nm_La_76 : Cond.methodLink nR_La 76 ny_Ro_order ∈ rl_TT := rl_tin 219 (by decide +kernel) rfl
theorem nh_Ro_order : Cond.code ny_Ro_order nc_Ro_order 6 (some .int) ∈ rl_TT := rl_tin 222 (by decide +kernel) rfl
theorem nm_im_Ro_order : Cond.instanceMethod ny_Ro_order ∈ rl_TT := rl_tin 220 (by decide +kernel) rfl
theorem nm_se_Ro_order : Cond.selects nR_Ro ny_Ro_order ny_Ro_order ∈ rl_TT := rl_tin 221 (by decide +kernel) rfl
theorem nm_La_80 : Cond.methodLink nR_La 80 ny_Mo_order ∈ rl_TT := rl_tin 792 (by decide +kernel) rfl
theorem nh_Mo_order : Cond.code ny_Mo_order nc_Mo_order 10 (some .int) ∈ rl_TT := rl_tin 795 (by decide +kernel) rfl
theorem nm_im_Mo_order : Cond.instanceMethod ny_Mo_order ∈ rl_TT := rl_tin 793 (by decide +kernel) rfl
theorem nm_se_Mo_order : Cond.selects nR_Mo ny_Mo_order ny_Mo_order ∈ rl_TT := rl_tin 794 (by decide +kernel) rfl
theorem nm_law_81 : Cond.methodLink nR_La 81 ny_La_best ∈ rl_TT := rl_tin 599 (by decide +kernel) rfl
theorem nm_st_La_best : Cond.static ny_La_best ∈ rl_TT := rl_tin 600 (by decide +kernel) rfl
theorem nm_La_84 : Cond.methodLink nR_La 84 ny_Mo_best ∈ rl_TT := rl_tin 801 (by decide +kernel) rfl
theorem nh_Mo_best : Cond.code ny_Mo_best nc_Mo_best 2 (some .int) ∈ rl_TT := rl_tin 804 (by decide +kernel) rfl
theorem nm_im_Mo_best : Cond.instanceMethod ny_Mo_best ∈ rl_TT := rl_tin 802 (by decide +kernel) rfl
theorem nm_se_Mo_best : Cond.selects nR_Mo ny_Mo_best ny_Mo_best ∈ rl_TT := rl_tin 803 (by decide +kernel) rfl
theorem nm_law_85 : Cond.methodLink nR_La 85 ny_La_place ∈ rl_TT := rl_tin 609 (by decide +kernel) rfl
theorem nm_st_La_place : Cond.static ny_La_place ∈ rl_TT := rl_tin 610 (by decide +kernel) rfl
theorem nm_La_88 : Cond.methodLink nR_La 88 ny_Mo_place ∈ rl_TT := rl_tin 833 (by decide +kernel) rfl
theorem nh_Mo_place : Cond.code ny_Mo_place nc_Mo_place 4 (some .int) ∈ rl_TT := rl_tin 836 (by decide +kernel) rfl
theorem nm_im_Mo_place : Cond.instanceMethod ny_Mo_place ∈ rl_TT := rl_tin 834 (by decide +kernel) rfl
theorem nm_se_Mo_place : Cond.selects nR_Mo ny_Mo_place ny_Mo_place ∈ rl_TT := rl_tin 835 (by decide +kernel) rfl
theorem nm_law_89 : Cond.methodLink nR_La 89 ny_La_outline ∈ rl_TT := rl_tin 620 (by decide +kernel) rfl
theorem nm_st_La_outline : Cond.static ny_La_outline ∈ rl_TT := rl_tin 621 (by decide +kernel) rfl
theorem nm_La_91 : Cond.methodLink nR_La 91 ny_Mo_outline ∈ rl_TT := rl_tin 837 (by decide +kernel) rfl
theorem nh_Mo_outline : Cond.code ny_Mo_outline nc_Mo_outline 7 (some .int) ∈ rl_TT := rl_tin 840 (by decide +kernel) rfl
theorem nm_im_Mo_outline : Cond.instanceMethod ny_Mo_outline ∈ rl_TT := rl_tin 838 (by decide +kernel) rfl
theorem nm_se_Mo_outline : Cond.selects nR_Mo ny_Mo_outline ny_Mo_outline ∈ rl_TT := rl_tin 839 (by decide +kernel) rfl
theorem nm_law_92 : Cond.methodLink nR_La 92 ny_La_wall ∈ rl_TT := rl_tin 633 (by decide +kernel) rfl
theorem nm_st_La_wall : Cond.static ny_La_wall ∈ rl_TT := rl_tin 634 (by decide +kernel) rfl
theorem nm_La_94 : Cond.methodLink nR_La 94 ny_Mo_wall ∈ rl_TT := rl_tin 841 (by decide +kernel) rfl
theorem nh_Mo_wall : Cond.code ny_Mo_wall nc_Mo_wall 5 (some .int) ∈ rl_TT := rl_tin 844 (by decide +kernel) rfl
theorem nm_im_Mo_wall : Cond.instanceMethod ny_Mo_wall ∈ rl_TT := rl_tin 842 (by decide +kernel) rfl
theorem nm_se_Mo_wall : Cond.selects nR_Mo ny_Mo_wall ny_Mo_wall ∈ rl_TT := rl_tin 843 (by decide +kernel) rfl
theorem nm_law_95 : Cond.methodLink nR_La 95 ny_La_wish ∈ rl_TT := rl_tin 646 (by decide +kernel) rfl
theorem nm_st_La_wish : Cond.static ny_La_wish ∈ rl_TT := rl_tin 647 (by decide +kernel) rfl
theorem nm_La_97 : Cond.methodLink nR_La 97 ny_Mo_wish ∈ rl_TT := rl_tin 852 (by decide +kernel) rfl
theorem nh_Mo_wish : Cond.code ny_Mo_wish nc_Mo_wish 5 (some .int) ∈ rl_TT := rl_tin 855 (by decide +kernel) rfl
theorem nm_im_Mo_wish : Cond.instanceMethod ny_Mo_wish ∈ rl_TT := rl_tin 853 (by decide +kernel) rfl
theorem nm_se_Mo_wish : Cond.selects nR_Mo ny_Mo_wish ny_Mo_wish ∈ rl_TT := rl_tin 854 (by decide +kernel) rfl
theorem nm_law_98 : Cond.methodLink nR_La 98 ny_La_met ∈ rl_TT := rl_tin 658 (by decide +kernel) rfl
theorem nm_st_La_met : Cond.static ny_La_met ∈ rl_TT := rl_tin 659 (by decide +kernel) rfl
theorem nm_La_100 : Cond.methodLink nR_La 100 ny_Mo_met0 ∈ rl_TT := rl_tin 856 (by decide +kernel) rfl
theorem nh_Mo_met0 : Cond.code ny_Mo_met0 nc_Mo_met0 2 (some .boolean) ∈ rl_TT := rl_tin 859 (by decide +kernel) rfl
theorem nm_im_Mo_met0 : Cond.instanceMethod ny_Mo_met0 ∈ rl_TT := rl_tin 857 (by decide +kernel) rfl
theorem nm_se_Mo_met0 : Cond.selects nR_Mo ny_Mo_met0 ny_Mo_met0 ∈ rl_TT := rl_tin 858 (by decide +kernel) rfl
theorem nm_La_101 : Cond.methodLink nR_La 101 ny_Ro_met1 ∈ rl_TT := rl_tin 271 (by decide +kernel) rfl
theorem nh_Ro_met1 : Cond.code ny_Ro_met1 nc_Ro_met1 1 (some .int) ∈ rl_TT := rl_tin 274 (by decide +kernel) rfl
theorem nm_im_Ro_met1 : Cond.instanceMethod ny_Ro_met1 ∈ rl_TT := rl_tin 272 (by decide +kernel) rfl
theorem nm_se_Ro_met1 : Cond.selects nR_Ro ny_Ro_met1 ny_Ro_met1 ∈ rl_TT := rl_tin 273 (by decide +kernel) rfl
theorem nm_La_103 : Cond.methodLink nR_La 103 ny_Mo_met1 ∈ rl_TT := rl_tin 864 (by decide +kernel) rfl
theorem nh_Mo_met1 : Cond.code ny_Mo_met1 nc_Mo_met1 1 (some .int) ∈ rl_TT := rl_tin 867 (by decide +kernel) rfl
theorem nm_im_Mo_met1 : Cond.instanceMethod ny_Mo_met1 ∈ rl_TT := rl_tin 865 (by decide +kernel) rfl
theorem nm_se_Mo_met1 : Cond.selects nR_Mo ny_Mo_met1 ny_Mo_met1 ∈ rl_TT := rl_tin 866 (by decide +kernel) rfl
theorem nm_law_104 : Cond.methodLink nR_La 104 ny_La_swap ∈ rl_TT := rl_tin 666 (by decide +kernel) rfl
theorem nm_st_La_swap : Cond.static ny_La_swap ∈ rl_TT := rl_tin 667 (by decide +kernel) rfl
theorem nm_La_106 : Cond.methodLink nR_La 106 ny_Mo_swap ∈ rl_TT := rl_tin 872 (by decide +kernel) rfl
theorem nh_Mo_swap : Cond.code ny_Mo_swap nc_Mo_swap 3 (some .boolean) ∈ rl_TT := rl_tin 875 (by decide +kernel) rfl
theorem nm_im_Mo_swap : Cond.instanceMethod ny_Mo_swap ∈ rl_TT := rl_tin 873 (by decide +kernel) rfl
theorem nm_se_Mo_swap : Cond.selects nR_Mo ny_Mo_swap ny_Mo_swap ∈ rl_TT := rl_tin 874 (by decide +kernel) rfl
theorem nm_La_107 : Cond.methodLink nR_La 107 ny_Ro_improve ∈ rl_TT := rl_tin 442 (by decide +kernel) rfl
theorem nh_Ro_improve : Cond.code ny_Ro_improve nc_Ro_improve 10 (some .boolean) ∈ rl_TT := rl_tin 445 (by decide +kernel) rfl
theorem nm_im_Ro_improve : Cond.instanceMethod ny_Ro_improve ∈ rl_TT := rl_tin 443 (by decide +kernel) rfl
theorem nm_se_Ro_improve : Cond.selects nR_Ro ny_Ro_improve ny_Ro_improve ∈ rl_TT := rl_tin 444 (by decide +kernel) rfl
theorem nm_La_111 : Cond.methodLink nR_La 111 ny_Mo_improve ∈ rl_TT := rl_tin 884 (by decide +kernel) rfl
theorem nh_Mo_improve : Cond.code ny_Mo_improve nc_Mo_improve 10 (some .boolean) ∈ rl_TT := rl_tin 887 (by decide +kernel) rfl
theorem nm_im_Mo_improve : Cond.instanceMethod ny_Mo_improve ∈ rl_TT := rl_tin 885 (by decide +kernel) rfl
theorem nm_se_Mo_improve : Cond.selects nR_Mo ny_Mo_improve ny_Mo_improve ∈ rl_TT := rl_tin 886 (by decide +kernel) rfl
theorem nm_law_112 : Cond.methodLink nR_La 112 ny_La_sign ∈ rl_TT := rl_tin 673 (by decide +kernel) rfl
theorem nm_st_La_sign : Cond.static ny_La_sign ∈ rl_TT := rl_tin 674 (by decide +kernel) rfl
theorem nm_La_114 : Cond.methodLink nR_La 114 ny_Mo_sign ∈ rl_TT := rl_tin 888 (by decide +kernel) rfl
theorem nh_Mo_sign : Cond.code ny_Mo_sign nc_Mo_sign 2 (some .int) ∈ rl_TT := rl_tin 891 (by decide +kernel) rfl
theorem nm_im_Mo_sign : Cond.instanceMethod ny_Mo_sign ∈ rl_TT := rl_tin 889 (by decide +kernel) rfl
theorem nm_se_Mo_sign : Cond.selects nR_Mo ny_Mo_sign ny_Mo_sign ∈ rl_TT := rl_tin 890 (by decide +kernel) rfl
theorem nd_law_0 : decode code 0 = .ok (.new 8, 3) := by decide +kernel
theorem nd_law_3 : decode code 3 = .ok (.dup, 1) := by decide +kernel
theorem nd_law_4 : decode code 4 = .ok (.invokespecial 53, 3) := by decide +kernel
theorem nd_law_7 : decode code 7 = .ok (.astore_n 1, 1) := by decide +kernel
theorem nd_law_8 : decode code 8 = .ok (.new 54, 3) := by decide +kernel
theorem nd_law_11 : decode code 11 = .ok (.dup, 1) := by decide +kernel
theorem nd_law_12 : decode code 12 = .ok (.invokespecial 56, 3) := by decide +kernel
theorem nd_law_15 : decode code 15 = .ok (.astore_n 2, 1) := by decide +kernel
theorem nd_law_16 : decode code 16 = .ok (.iconst 1, 1) := by decide +kernel
theorem nd_law_17 : decode code 17 = .ok (.newarray .long, 2) := by decide +kernel
theorem nd_law_19 : decode code 19 = .ok (.astore_n 3, 1) := by decide +kernel
theorem nd_law_20 : decode code 20 = .ok (.iconst 0, 1) := by decide +kernel
theorem nd_law_21 : decode code 21 = .ok (.istore 4, 2) := by decide +kernel
theorem nd_law_23 : decode code 23 = .ok (.iload 4, 2) := by decide +kernel
theorem nd_law_25 : decode code 25 = .ok (.aload_n 0, 1) := by decide +kernel
theorem nd_law_26 : decode code 26 = .ok (.arraylength, 1) := by decide +kernel
theorem nd_law_27 : decode code 27 = .ok (.iconst 5, 1) := by decide +kernel
theorem nd_law_28 : decode code 28 = .ok (.isub, 1) := by decide +kernel
theorem nd_law_29 : decode code 29 = .ok (.if_icmp .gt 918, 3) := by decide +kernel
theorem nd_law_32 : decode code 32 = .ok (.aload_n 0, 1) := by decide +kernel
theorem nd_law_33 : decode code 33 = .ok (.iload 4, 2) := by decide +kernel
theorem nd_law_35 : decode code 35 = .ok (.iaload, 1) := by decide +kernel
theorem nd_law_36 : decode code 36 = .ok (.bipush 15, 2) := by decide +kernel
theorem nd_law_38 : decode code 38 = .ok (.iand, 1) := by decide +kernel
theorem nd_law_39 : decode code 39 = .ok (.tableswitch 902 0 13 #[69, 113, 193, 241, 342, 398, 466, 534, 602, 682, 745, 758, 833, 846], 69) := by decide +kernel
theorem nd_law_108 : decode code 108 = .ok (.aload_n 1, 1) := by decide +kernel
theorem nd_law_109 : decode code 109 = .ok (.aload_n 3, 1) := by decide +kernel
theorem nd_law_110 : decode code 110 = .ok (.invokestatic 57, 3) := by decide +kernel
theorem nd_law_113 : decode code 113 = .ok (.istore 5, 2) := by decide +kernel
theorem nd_law_115 : decode code 115 = .ok (.aload_n 2, 1) := by decide +kernel
theorem nd_law_116 : decode code 116 = .ok (.invokevirtual 62, 3) := by decide +kernel
theorem nd_law_119 : decode code 119 = .ok (.istore 6, 2) := by decide +kernel
theorem nd_law_121 : decode code 121 = .ok (.aload_n 2, 1) := by decide +kernel
theorem nd_law_122 : decode code 122 = .ok (.invokevirtual 63, 3) := by decide +kernel
theorem nd_law_125 : decode code 125 = .ok (.iload 5, 2) := by decide +kernel
theorem nd_law_127 : decode code 127 = .ok (.if_icmp .eq 5, 3) := by decide +kernel
theorem nd_law_130 : decode code 130 = .ok (.iconst 0, 1) := by decide +kernel
theorem nd_law_131 : decode code 131 = .ok (.ireturn, 1) := by decide +kernel
theorem nd_law_132 : decode code 132 = .ok (.iload 5, 2) := by decide +kernel
theorem nd_law_134 : decode code 134 = .ok (.ifCond .ne 15, 3) := by decide +kernel
theorem nd_law_137 : decode code 137 = .ok (.aload_n 3, 1) := by decide +kernel
theorem nd_law_138 : decode code 138 = .ok (.iconst 0, 1) := by decide +kernel
theorem nd_law_139 : decode code 139 = .ok (.laload, 1) := by decide +kernel
theorem nd_law_140 : decode code 140 = .ok (.iload 6, 2) := by decide +kernel
theorem nd_law_142 : decode code 142 = .ok (.i2l, 1) := by decide +kernel
theorem nd_law_143 : decode code 143 = .ok (.lcmp, 1) := by decide +kernel
theorem nd_law_144 : decode code 144 = .ok (.ifCond .eq 5, 3) := by decide +kernel
theorem nd_law_147 : decode code 147 = .ok (.iconst 0, 1) := by decide +kernel
theorem nd_law_148 : decode code 148 = .ok (.ireturn, 1) := by decide +kernel
theorem nd_law_149 : decode code 149 = .ok (.goto 792, 3) := by decide +kernel
theorem nd_law_152 : decode code 152 = .ok (.aload_n 1, 1) := by decide +kernel
theorem nd_law_153 : decode code 153 = .ok (.aload_n 0, 1) := by decide +kernel
theorem nd_law_154 : decode code 154 = .ok (.iload 4, 2) := by decide +kernel
theorem nd_law_156 : decode code 156 = .ok (.iconst 1, 1) := by decide +kernel
theorem nd_law_157 : decode code 157 = .ok (.iadd, 1) := by decide +kernel
theorem nd_law_158 : decode code 158 = .ok (.iaload, 1) := by decide +kernel
theorem nd_law_159 : decode code 159 = .ok (.aload_n 0, 1) := by decide +kernel
theorem nd_law_160 : decode code 160 = .ok (.iload 4, 2) := by decide +kernel
theorem nd_law_162 : decode code 162 = .ok (.iconst 2, 1) := by decide +kernel
theorem nd_law_163 : decode code 163 = .ok (.iadd, 1) := by decide +kernel
theorem nd_law_164 : decode code 164 = .ok (.iaload, 1) := by decide +kernel
theorem nd_law_165 : decode code 165 = .ok (.aload_n 0, 1) := by decide +kernel
theorem nd_law_166 : decode code 166 = .ok (.iload 4, 2) := by decide +kernel
theorem nd_law_168 : decode code 168 = .ok (.iconst 3, 1) := by decide +kernel
theorem nd_law_169 : decode code 169 = .ok (.iadd, 1) := by decide +kernel
theorem nd_law_170 : decode code 170 = .ok (.iaload, 1) := by decide +kernel
theorem nd_law_171 : decode code 171 = .ok (.aload_n 3, 1) := by decide +kernel
theorem nd_law_172 : decode code 172 = .ok (.invokestatic 66, 3) := by decide +kernel
theorem nd_law_175 : decode code 175 = .ok (.istore 5, 2) := by decide +kernel
theorem nd_law_177 : decode code 177 = .ok (.aload_n 2, 1) := by decide +kernel
theorem nd_law_178 : decode code 178 = .ok (.aload_n 0, 1) := by decide +kernel
theorem nd_law_179 : decode code 179 = .ok (.iload 4, 2) := by decide +kernel
theorem nd_law_181 : decode code 181 = .ok (.iconst 1, 1) := by decide +kernel
theorem nd_law_182 : decode code 182 = .ok (.iadd, 1) := by decide +kernel
theorem nd_law_183 : decode code 183 = .ok (.iaload, 1) := by decide +kernel
theorem nd_law_184 : decode code 184 = .ok (.aload_n 0, 1) := by decide +kernel
theorem nd_law_185 : decode code 185 = .ok (.iload 4, 2) := by decide +kernel
theorem nd_law_187 : decode code 187 = .ok (.iconst 2, 1) := by decide +kernel
theorem nd_law_188 : decode code 188 = .ok (.iadd, 1) := by decide +kernel
theorem nd_law_189 : decode code 189 = .ok (.iaload, 1) := by decide +kernel
theorem nd_law_190 : decode code 190 = .ok (.aload_n 0, 1) := by decide +kernel
theorem nd_law_191 : decode code 191 = .ok (.iload 4, 2) := by decide +kernel
theorem nd_law_193 : decode code 193 = .ok (.iconst 3, 1) := by decide +kernel
theorem nd_law_194 : decode code 194 = .ok (.iadd, 1) := by decide +kernel
theorem nd_law_195 : decode code 195 = .ok (.iaload, 1) := by decide +kernel
theorem nd_law_196 : decode code 196 = .ok (.invokevirtual 69, 3) := by decide +kernel
theorem nd_law_199 : decode code 199 = .ok (.istore 6, 2) := by decide +kernel
theorem nd_law_201 : decode code 201 = .ok (.aload_n 2, 1) := by decide +kernel
theorem nd_law_202 : decode code 202 = .ok (.invokevirtual 63, 3) := by decide +kernel
theorem nd_law_205 : decode code 205 = .ok (.iload 5, 2) := by decide +kernel
theorem nd_law_207 : decode code 207 = .ok (.if_icmp .eq 5, 3) := by decide +kernel
theorem nd_law_210 : decode code 210 = .ok (.iconst 0, 1) := by decide +kernel
theorem nd_law_211 : decode code 211 = .ok (.ireturn, 1) := by decide +kernel
theorem nd_law_212 : decode code 212 = .ok (.iload 5, 2) := by decide +kernel
theorem nd_law_214 : decode code 214 = .ok (.ifCond .ne 15, 3) := by decide +kernel
theorem nd_law_217 : decode code 217 = .ok (.aload_n 3, 1) := by decide +kernel
theorem nd_law_218 : decode code 218 = .ok (.iconst 0, 1) := by decide +kernel
theorem nd_law_219 : decode code 219 = .ok (.laload, 1) := by decide +kernel
theorem nd_law_220 : decode code 220 = .ok (.iload 6, 2) := by decide +kernel
theorem nd_law_222 : decode code 222 = .ok (.i2l, 1) := by decide +kernel
theorem nd_law_223 : decode code 223 = .ok (.lcmp, 1) := by decide +kernel
theorem nd_law_224 : decode code 224 = .ok (.ifCond .eq 5, 3) := by decide +kernel
theorem nd_law_227 : decode code 227 = .ok (.iconst 0, 1) := by decide +kernel
theorem nd_law_228 : decode code 228 = .ok (.ireturn, 1) := by decide +kernel
theorem nd_law_229 : decode code 229 = .ok (.goto 712, 3) := by decide +kernel
theorem nd_law_232 : decode code 232 = .ok (.aload_n 1, 1) := by decide +kernel
theorem nd_law_233 : decode code 233 = .ok (.aload_n 0, 1) := by decide +kernel
theorem nd_law_234 : decode code 234 = .ok (.iload 4, 2) := by decide +kernel
theorem nd_law_236 : decode code 236 = .ok (.iconst 1, 1) := by decide +kernel
theorem nd_law_237 : decode code 237 = .ok (.iadd, 1) := by decide +kernel
theorem nd_law_238 : decode code 238 = .ok (.iaload, 1) := by decide +kernel
theorem nd_law_239 : decode code 239 = .ok (.aload_n 0, 1) := by decide +kernel
theorem nd_law_240 : decode code 240 = .ok (.iload 4, 2) := by decide +kernel
theorem nd_law_242 : decode code 242 = .ok (.iconst 2, 1) := by decide +kernel
theorem nd_law_243 : decode code 243 = .ok (.iadd, 1) := by decide +kernel
theorem nd_law_244 : decode code 244 = .ok (.iaload, 1) := by decide +kernel
theorem nd_law_245 : decode code 245 = .ok (.invokestatic 70, 3) := by decide +kernel
theorem nd_law_248 : decode code 248 = .ok (.istore 5, 2) := by decide +kernel
theorem nd_law_250 : decode code 250 = .ok (.aload_n 2, 1) := by decide +kernel
theorem nd_law_251 : decode code 251 = .ok (.aload_n 0, 1) := by decide +kernel
theorem nd_law_252 : decode code 252 = .ok (.iload 4, 2) := by decide +kernel
theorem nd_law_254 : decode code 254 = .ok (.iconst 1, 1) := by decide +kernel
theorem nd_law_255 : decode code 255 = .ok (.iadd, 1) := by decide +kernel
theorem nd_law_256 : decode code 256 = .ok (.iaload, 1) := by decide +kernel
theorem nd_law_257 : decode code 257 = .ok (.aload_n 0, 1) := by decide +kernel
theorem nd_law_258 : decode code 258 = .ok (.iload 4, 2) := by decide +kernel
theorem nd_law_260 : decode code 260 = .ok (.iconst 2, 1) := by decide +kernel
theorem nd_law_261 : decode code 261 = .ok (.iadd, 1) := by decide +kernel
theorem nd_law_262 : decode code 262 = .ok (.iaload, 1) := by decide +kernel
theorem nd_law_263 : decode code 263 = .ok (.invokevirtual 73, 3) := by decide +kernel
theorem nd_law_266 : decode code 266 = .ok (.aload_n 2, 1) := by decide +kernel
theorem nd_law_267 : decode code 267 = .ok (.invokevirtual 63, 3) := by decide +kernel
theorem nd_law_270 : decode code 270 = .ok (.iload 5, 2) := by decide +kernel
theorem nd_law_272 : decode code 272 = .ok (.if_icmp .eq 5, 3) := by decide +kernel
theorem nd_law_275 : decode code 275 = .ok (.iconst 0, 1) := by decide +kernel
theorem nd_law_276 : decode code 276 = .ok (.ireturn, 1) := by decide +kernel
theorem nd_law_277 : decode code 277 = .ok (.goto 664, 3) := by decide +kernel
theorem nd_law_280 : decode code 280 = .ok (.aload_n 1, 1) := by decide +kernel
theorem nd_law_281 : decode code 281 = .ok (.aload_n 0, 1) := by decide +kernel
theorem nd_law_282 : decode code 282 = .ok (.iload 4, 2) := by decide +kernel
theorem nd_law_284 : decode code 284 = .ok (.iconst 1, 1) := by decide +kernel
theorem nd_law_285 : decode code 285 = .ok (.iadd, 1) := by decide +kernel
theorem nd_law_286 : decode code 286 = .ok (.iaload, 1) := by decide +kernel
theorem nd_law_287 : decode code 287 = .ok (.i2l, 1) := by decide +kernel
theorem nd_law_288 : decode code 288 = .ok (.bipush 32, 2) := by decide +kernel
theorem nd_law_290 : decode code 290 = .ok (.lshl, 1) := by decide +kernel
theorem nd_law_291 : decode code 291 = .ok (.aload_n 0, 1) := by decide +kernel
theorem nd_law_292 : decode code 292 = .ok (.iload 4, 2) := by decide +kernel
theorem nd_law_294 : decode code 294 = .ok (.iconst 2, 1) := by decide +kernel
theorem nd_law_295 : decode code 295 = .ok (.iadd, 1) := by decide +kernel
theorem nd_law_296 : decode code 296 = .ok (.iaload, 1) := by decide +kernel
theorem nd_law_297 : decode code 297 = .ok (.i2l, 1) := by decide +kernel
theorem nd_law_298 : decode code 298 = .ok (.ldc2_w 74, 3) := by decide +kernel
theorem nd_law_301 : decode code 301 = .ok (.land, 1) := by decide +kernel
theorem nd_law_302 : decode code 302 = .ok (.lor, 1) := by decide +kernel
theorem nd_law_303 : decode code 303 = .ok (.aload_n 0, 1) := by decide +kernel
theorem nd_law_304 : decode code 304 = .ok (.iload 4, 2) := by decide +kernel
theorem nd_law_306 : decode code 306 = .ok (.iconst 3, 1) := by decide +kernel
theorem nd_law_307 : decode code 307 = .ok (.iadd, 1) := by decide +kernel
theorem nd_law_308 : decode code 308 = .ok (.iaload, 1) := by decide +kernel
theorem nd_law_309 : decode code 309 = .ok (.i2l, 1) := by decide +kernel
theorem nd_law_310 : decode code 310 = .ok (.bipush 32, 2) := by decide +kernel
theorem nd_law_312 : decode code 312 = .ok (.lshl, 1) := by decide +kernel
theorem nd_law_313 : decode code 313 = .ok (.aload_n 0, 1) := by decide +kernel
theorem nd_law_314 : decode code 314 = .ok (.iload 4, 2) := by decide +kernel
theorem nd_law_316 : decode code 316 = .ok (.iconst 4, 1) := by decide +kernel
theorem nd_law_317 : decode code 317 = .ok (.iadd, 1) := by decide +kernel
theorem nd_law_318 : decode code 318 = .ok (.iaload, 1) := by decide +kernel
theorem nd_law_319 : decode code 319 = .ok (.i2l, 1) := by decide +kernel
theorem nd_law_320 : decode code 320 = .ok (.ldc2_w 74, 3) := by decide +kernel
theorem nd_law_323 : decode code 323 = .ok (.land, 1) := by decide +kernel
theorem nd_law_324 : decode code 324 = .ok (.lor, 1) := by decide +kernel
theorem nd_law_325 : decode code 325 = .ok (.invokevirtual 76, 3) := by decide +kernel
theorem nd_law_328 : decode code 328 = .ok (.aload_n 2, 1) := by decide +kernel
theorem nd_law_329 : decode code 329 = .ok (.aload_n 0, 1) := by decide +kernel
theorem nd_law_330 : decode code 330 = .ok (.iload 4, 2) := by decide +kernel
theorem nd_law_332 : decode code 332 = .ok (.iconst 1, 1) := by decide +kernel
theorem nd_law_333 : decode code 333 = .ok (.iadd, 1) := by decide +kernel
theorem nd_law_334 : decode code 334 = .ok (.iaload, 1) := by decide +kernel
theorem nd_law_335 : decode code 335 = .ok (.i2l, 1) := by decide +kernel
theorem nd_law_336 : decode code 336 = .ok (.bipush 32, 2) := by decide +kernel
theorem nd_law_338 : decode code 338 = .ok (.lshl, 1) := by decide +kernel
theorem nd_law_339 : decode code 339 = .ok (.aload_n 0, 1) := by decide +kernel
theorem nd_law_340 : decode code 340 = .ok (.iload 4, 2) := by decide +kernel
theorem nd_law_342 : decode code 342 = .ok (.iconst 2, 1) := by decide +kernel
theorem nd_law_343 : decode code 343 = .ok (.iadd, 1) := by decide +kernel
theorem nd_law_344 : decode code 344 = .ok (.iaload, 1) := by decide +kernel
theorem nd_law_345 : decode code 345 = .ok (.i2l, 1) := by decide +kernel
theorem nd_law_346 : decode code 346 = .ok (.ldc2_w 74, 3) := by decide +kernel
theorem nd_law_349 : decode code 349 = .ok (.land, 1) := by decide +kernel
theorem nd_law_350 : decode code 350 = .ok (.lor, 1) := by decide +kernel
theorem nd_law_351 : decode code 351 = .ok (.aload_n 0, 1) := by decide +kernel
theorem nd_law_352 : decode code 352 = .ok (.iload 4, 2) := by decide +kernel
theorem nd_law_354 : decode code 354 = .ok (.iconst 3, 1) := by decide +kernel
theorem nd_law_355 : decode code 355 = .ok (.iadd, 1) := by decide +kernel
theorem nd_law_356 : decode code 356 = .ok (.iaload, 1) := by decide +kernel
theorem nd_law_357 : decode code 357 = .ok (.i2l, 1) := by decide +kernel
theorem nd_law_358 : decode code 358 = .ok (.bipush 32, 2) := by decide +kernel
theorem nd_law_360 : decode code 360 = .ok (.lshl, 1) := by decide +kernel
theorem nd_law_361 : decode code 361 = .ok (.aload_n 0, 1) := by decide +kernel
theorem nd_law_362 : decode code 362 = .ok (.iload 4, 2) := by decide +kernel
theorem nd_law_364 : decode code 364 = .ok (.iconst 4, 1) := by decide +kernel
theorem nd_law_365 : decode code 365 = .ok (.iadd, 1) := by decide +kernel
theorem nd_law_366 : decode code 366 = .ok (.iaload, 1) := by decide +kernel
theorem nd_law_367 : decode code 367 = .ok (.i2l, 1) := by decide +kernel
theorem nd_law_368 : decode code 368 = .ok (.ldc2_w 74, 3) := by decide +kernel
theorem nd_law_371 : decode code 371 = .ok (.land, 1) := by decide +kernel
theorem nd_law_372 : decode code 372 = .ok (.lor, 1) := by decide +kernel
theorem nd_law_373 : decode code 373 = .ok (.invokevirtual 80, 3) := by decide +kernel
theorem nd_law_376 : decode code 376 = .ok (.if_icmp .eq 565, 3) := by decide +kernel
theorem nd_law_379 : decode code 379 = .ok (.iconst 0, 1) := by decide +kernel
theorem nd_law_380 : decode code 380 = .ok (.ireturn, 1) := by decide +kernel
theorem nd_law_381 : decode code 381 = .ok (.aload_n 1, 1) := by decide +kernel
theorem nd_law_382 : decode code 382 = .ok (.aload_n 0, 1) := by decide +kernel
theorem nd_law_383 : decode code 383 = .ok (.iload 4, 2) := by decide +kernel
theorem nd_law_385 : decode code 385 = .ok (.iconst 1, 1) := by decide +kernel
theorem nd_law_386 : decode code 386 = .ok (.iadd, 1) := by decide +kernel
theorem nd_law_387 : decode code 387 = .ok (.iaload, 1) := by decide +kernel
theorem nd_law_388 : decode code 388 = .ok (.aload_n 3, 1) := by decide +kernel
theorem nd_law_389 : decode code 389 = .ok (.invokestatic 81, 3) := by decide +kernel
theorem nd_law_392 : decode code 392 = .ok (.istore 5, 2) := by decide +kernel
theorem nd_law_394 : decode code 394 = .ok (.aload_n 2, 1) := by decide +kernel
theorem nd_law_395 : decode code 395 = .ok (.aload_n 0, 1) := by decide +kernel
theorem nd_law_396 : decode code 396 = .ok (.iload 4, 2) := by decide +kernel
theorem nd_law_398 : decode code 398 = .ok (.iconst 1, 1) := by decide +kernel
theorem nd_law_399 : decode code 399 = .ok (.iadd, 1) := by decide +kernel
theorem nd_law_400 : decode code 400 = .ok (.iaload, 1) := by decide +kernel
theorem nd_law_401 : decode code 401 = .ok (.invokevirtual 84, 3) := by decide +kernel
theorem nd_law_404 : decode code 404 = .ok (.istore 6, 2) := by decide +kernel
theorem nd_law_406 : decode code 406 = .ok (.aload_n 2, 1) := by decide +kernel
theorem nd_law_407 : decode code 407 = .ok (.invokevirtual 63, 3) := by decide +kernel
theorem nd_law_410 : decode code 410 = .ok (.iload 5, 2) := by decide +kernel
theorem nd_law_412 : decode code 412 = .ok (.if_icmp .eq 5, 3) := by decide +kernel
theorem nd_law_415 : decode code 415 = .ok (.iconst 0, 1) := by decide +kernel
theorem nd_law_416 : decode code 416 = .ok (.ireturn, 1) := by decide +kernel
theorem nd_law_417 : decode code 417 = .ok (.iload 5, 2) := by decide +kernel
theorem nd_law_419 : decode code 419 = .ok (.ifCond .ne 15, 3) := by decide +kernel
theorem nd_law_422 : decode code 422 = .ok (.aload_n 3, 1) := by decide +kernel
theorem nd_law_423 : decode code 423 = .ok (.iconst 0, 1) := by decide +kernel
theorem nd_law_424 : decode code 424 = .ok (.laload, 1) := by decide +kernel
theorem nd_law_425 : decode code 425 = .ok (.iload 6, 2) := by decide +kernel
theorem nd_law_427 : decode code 427 = .ok (.i2l, 1) := by decide +kernel
theorem nd_law_428 : decode code 428 = .ok (.lcmp, 1) := by decide +kernel
theorem nd_law_429 : decode code 429 = .ok (.ifCond .eq 5, 3) := by decide +kernel
theorem nd_law_432 : decode code 432 = .ok (.iconst 0, 1) := by decide +kernel
theorem nd_law_433 : decode code 433 = .ok (.ireturn, 1) := by decide +kernel
theorem nd_law_434 : decode code 434 = .ok (.goto 507, 3) := by decide +kernel
theorem nd_law_437 : decode code 437 = .ok (.aload_n 1, 1) := by decide +kernel
theorem nd_law_438 : decode code 438 = .ok (.aload_n 0, 1) := by decide +kernel
theorem nd_law_439 : decode code 439 = .ok (.iload 4, 2) := by decide +kernel
theorem nd_law_441 : decode code 441 = .ok (.iconst 1, 1) := by decide +kernel
theorem nd_law_442 : decode code 442 = .ok (.iadd, 1) := by decide +kernel
theorem nd_law_443 : decode code 443 = .ok (.iaload, 1) := by decide +kernel
theorem nd_law_444 : decode code 444 = .ok (.aload_n 0, 1) := by decide +kernel
theorem nd_law_445 : decode code 445 = .ok (.iload 4, 2) := by decide +kernel
theorem nd_law_447 : decode code 447 = .ok (.iconst 2, 1) := by decide +kernel
theorem nd_law_448 : decode code 448 = .ok (.iadd, 1) := by decide +kernel
theorem nd_law_449 : decode code 449 = .ok (.iaload, 1) := by decide +kernel
theorem nd_law_450 : decode code 450 = .ok (.aload_n 3, 1) := by decide +kernel
theorem nd_law_451 : decode code 451 = .ok (.invokestatic 85, 3) := by decide +kernel
theorem nd_law_454 : decode code 454 = .ok (.istore 5, 2) := by decide +kernel
theorem nd_law_456 : decode code 456 = .ok (.aload_n 2, 1) := by decide +kernel
theorem nd_law_457 : decode code 457 = .ok (.aload_n 0, 1) := by decide +kernel
theorem nd_law_458 : decode code 458 = .ok (.iload 4, 2) := by decide +kernel
theorem nd_law_460 : decode code 460 = .ok (.iconst 1, 1) := by decide +kernel
theorem nd_law_461 : decode code 461 = .ok (.iadd, 1) := by decide +kernel
theorem nd_law_462 : decode code 462 = .ok (.iaload, 1) := by decide +kernel
theorem nd_law_463 : decode code 463 = .ok (.aload_n 0, 1) := by decide +kernel
theorem nd_law_464 : decode code 464 = .ok (.iload 4, 2) := by decide +kernel
theorem nd_law_466 : decode code 466 = .ok (.iconst 2, 1) := by decide +kernel
theorem nd_law_467 : decode code 467 = .ok (.iadd, 1) := by decide +kernel
theorem nd_law_468 : decode code 468 = .ok (.iaload, 1) := by decide +kernel
theorem nd_law_469 : decode code 469 = .ok (.invokevirtual 88, 3) := by decide +kernel
theorem nd_law_472 : decode code 472 = .ok (.istore 6, 2) := by decide +kernel
theorem nd_law_474 : decode code 474 = .ok (.aload_n 2, 1) := by decide +kernel
theorem nd_law_475 : decode code 475 = .ok (.invokevirtual 63, 3) := by decide +kernel
theorem nd_law_478 : decode code 478 = .ok (.iload 5, 2) := by decide +kernel
theorem nd_law_480 : decode code 480 = .ok (.if_icmp .eq 5, 3) := by decide +kernel
theorem nd_law_483 : decode code 483 = .ok (.iconst 0, 1) := by decide +kernel
theorem nd_law_484 : decode code 484 = .ok (.ireturn, 1) := by decide +kernel
theorem nd_law_485 : decode code 485 = .ok (.iload 5, 2) := by decide +kernel
theorem nd_law_487 : decode code 487 = .ok (.ifCond .ne 15, 3) := by decide +kernel
theorem nd_law_490 : decode code 490 = .ok (.aload_n 3, 1) := by decide +kernel
theorem nd_law_491 : decode code 491 = .ok (.iconst 0, 1) := by decide +kernel
theorem nd_law_492 : decode code 492 = .ok (.laload, 1) := by decide +kernel
theorem nd_law_493 : decode code 493 = .ok (.iload 6, 2) := by decide +kernel
theorem nd_law_495 : decode code 495 = .ok (.i2l, 1) := by decide +kernel
theorem nd_law_496 : decode code 496 = .ok (.lcmp, 1) := by decide +kernel
theorem nd_law_497 : decode code 497 = .ok (.ifCond .eq 5, 3) := by decide +kernel
theorem nd_law_500 : decode code 500 = .ok (.iconst 0, 1) := by decide +kernel
theorem nd_law_501 : decode code 501 = .ok (.ireturn, 1) := by decide +kernel
theorem nd_law_502 : decode code 502 = .ok (.goto 439, 3) := by decide +kernel
theorem nd_law_505 : decode code 505 = .ok (.aload_n 1, 1) := by decide +kernel
theorem nd_law_506 : decode code 506 = .ok (.aload_n 0, 1) := by decide +kernel
theorem nd_law_507 : decode code 507 = .ok (.iload 4, 2) := by decide +kernel
theorem nd_law_509 : decode code 509 = .ok (.iconst 1, 1) := by decide +kernel
theorem nd_law_510 : decode code 510 = .ok (.iadd, 1) := by decide +kernel
theorem nd_law_511 : decode code 511 = .ok (.iaload, 1) := by decide +kernel
theorem nd_law_512 : decode code 512 = .ok (.aload_n 0, 1) := by decide +kernel
theorem nd_law_513 : decode code 513 = .ok (.iload 4, 2) := by decide +kernel
theorem nd_law_515 : decode code 515 = .ok (.iconst 2, 1) := by decide +kernel
theorem nd_law_516 : decode code 516 = .ok (.iadd, 1) := by decide +kernel
theorem nd_law_517 : decode code 517 = .ok (.iaload, 1) := by decide +kernel
theorem nd_law_518 : decode code 518 = .ok (.aload_n 3, 1) := by decide +kernel
theorem nd_law_519 : decode code 519 = .ok (.invokestatic 89, 3) := by decide +kernel
theorem nd_law_522 : decode code 522 = .ok (.istore 5, 2) := by decide +kernel
theorem nd_law_524 : decode code 524 = .ok (.aload_n 2, 1) := by decide +kernel
theorem nd_law_525 : decode code 525 = .ok (.aload_n 0, 1) := by decide +kernel
theorem nd_law_526 : decode code 526 = .ok (.iload 4, 2) := by decide +kernel
theorem nd_law_528 : decode code 528 = .ok (.iconst 1, 1) := by decide +kernel
theorem nd_law_529 : decode code 529 = .ok (.iadd, 1) := by decide +kernel
theorem nd_law_530 : decode code 530 = .ok (.iaload, 1) := by decide +kernel
theorem nd_law_531 : decode code 531 = .ok (.aload_n 0, 1) := by decide +kernel
theorem nd_law_532 : decode code 532 = .ok (.iload 4, 2) := by decide +kernel
theorem nd_law_534 : decode code 534 = .ok (.iconst 2, 1) := by decide +kernel
theorem nd_law_535 : decode code 535 = .ok (.iadd, 1) := by decide +kernel
theorem nd_law_536 : decode code 536 = .ok (.iaload, 1) := by decide +kernel
theorem nd_law_537 : decode code 537 = .ok (.invokevirtual 91, 3) := by decide +kernel
theorem nd_law_540 : decode code 540 = .ok (.istore 6, 2) := by decide +kernel
theorem nd_law_542 : decode code 542 = .ok (.aload_n 2, 1) := by decide +kernel
theorem nd_law_543 : decode code 543 = .ok (.invokevirtual 63, 3) := by decide +kernel
theorem nd_law_546 : decode code 546 = .ok (.iload 5, 2) := by decide +kernel
theorem nd_law_548 : decode code 548 = .ok (.if_icmp .eq 5, 3) := by decide +kernel
theorem nd_law_551 : decode code 551 = .ok (.iconst 0, 1) := by decide +kernel
theorem nd_law_552 : decode code 552 = .ok (.ireturn, 1) := by decide +kernel
theorem nd_law_553 : decode code 553 = .ok (.iload 5, 2) := by decide +kernel
theorem nd_law_555 : decode code 555 = .ok (.ifCond .ne 15, 3) := by decide +kernel
theorem nd_law_558 : decode code 558 = .ok (.aload_n 3, 1) := by decide +kernel
theorem nd_law_559 : decode code 559 = .ok (.iconst 0, 1) := by decide +kernel
theorem nd_law_560 : decode code 560 = .ok (.laload, 1) := by decide +kernel
theorem nd_law_561 : decode code 561 = .ok (.iload 6, 2) := by decide +kernel
theorem nd_law_563 : decode code 563 = .ok (.i2l, 1) := by decide +kernel
theorem nd_law_564 : decode code 564 = .ok (.lcmp, 1) := by decide +kernel
theorem nd_law_565 : decode code 565 = .ok (.ifCond .eq 5, 3) := by decide +kernel
theorem nd_law_568 : decode code 568 = .ok (.iconst 0, 1) := by decide +kernel
theorem nd_law_569 : decode code 569 = .ok (.ireturn, 1) := by decide +kernel
theorem nd_law_570 : decode code 570 = .ok (.goto 371, 3) := by decide +kernel
theorem nd_law_573 : decode code 573 = .ok (.aload_n 1, 1) := by decide +kernel
theorem nd_law_574 : decode code 574 = .ok (.aload_n 0, 1) := by decide +kernel
theorem nd_law_575 : decode code 575 = .ok (.iload 4, 2) := by decide +kernel
theorem nd_law_577 : decode code 577 = .ok (.iconst 1, 1) := by decide +kernel
theorem nd_law_578 : decode code 578 = .ok (.iadd, 1) := by decide +kernel
theorem nd_law_579 : decode code 579 = .ok (.iaload, 1) := by decide +kernel
theorem nd_law_580 : decode code 580 = .ok (.aload_n 0, 1) := by decide +kernel
theorem nd_law_581 : decode code 581 = .ok (.iload 4, 2) := by decide +kernel
theorem nd_law_583 : decode code 583 = .ok (.iconst 2, 1) := by decide +kernel
theorem nd_law_584 : decode code 584 = .ok (.iadd, 1) := by decide +kernel
theorem nd_law_585 : decode code 585 = .ok (.iaload, 1) := by decide +kernel
theorem nd_law_586 : decode code 586 = .ok (.aload_n 3, 1) := by decide +kernel
theorem nd_law_587 : decode code 587 = .ok (.invokestatic 92, 3) := by decide +kernel
theorem nd_law_590 : decode code 590 = .ok (.istore 5, 2) := by decide +kernel
theorem nd_law_592 : decode code 592 = .ok (.aload_n 2, 1) := by decide +kernel
theorem nd_law_593 : decode code 593 = .ok (.aload_n 0, 1) := by decide +kernel
theorem nd_law_594 : decode code 594 = .ok (.iload 4, 2) := by decide +kernel
theorem nd_law_596 : decode code 596 = .ok (.iconst 1, 1) := by decide +kernel
theorem nd_law_597 : decode code 597 = .ok (.iadd, 1) := by decide +kernel
theorem nd_law_598 : decode code 598 = .ok (.iaload, 1) := by decide +kernel
theorem nd_law_599 : decode code 599 = .ok (.aload_n 0, 1) := by decide +kernel
theorem nd_law_600 : decode code 600 = .ok (.iload 4, 2) := by decide +kernel
theorem nd_law_602 : decode code 602 = .ok (.iconst 2, 1) := by decide +kernel
theorem nd_law_603 : decode code 603 = .ok (.iadd, 1) := by decide +kernel
theorem nd_law_604 : decode code 604 = .ok (.iaload, 1) := by decide +kernel
theorem nd_law_605 : decode code 605 = .ok (.invokevirtual 94, 3) := by decide +kernel
theorem nd_law_608 : decode code 608 = .ok (.istore 6, 2) := by decide +kernel
theorem nd_law_610 : decode code 610 = .ok (.aload_n 2, 1) := by decide +kernel
theorem nd_law_611 : decode code 611 = .ok (.invokevirtual 63, 3) := by decide +kernel
theorem nd_law_614 : decode code 614 = .ok (.iload 5, 2) := by decide +kernel
theorem nd_law_616 : decode code 616 = .ok (.if_icmp .eq 5, 3) := by decide +kernel
theorem nd_law_619 : decode code 619 = .ok (.iconst 0, 1) := by decide +kernel
theorem nd_law_620 : decode code 620 = .ok (.ireturn, 1) := by decide +kernel
theorem nd_law_621 : decode code 621 = .ok (.iload 5, 2) := by decide +kernel
theorem nd_law_623 : decode code 623 = .ok (.ifCond .ne 15, 3) := by decide +kernel
theorem nd_law_626 : decode code 626 = .ok (.aload_n 3, 1) := by decide +kernel
theorem nd_law_627 : decode code 627 = .ok (.iconst 0, 1) := by decide +kernel
theorem nd_law_628 : decode code 628 = .ok (.laload, 1) := by decide +kernel
theorem nd_law_629 : decode code 629 = .ok (.iload 6, 2) := by decide +kernel
theorem nd_law_631 : decode code 631 = .ok (.i2l, 1) := by decide +kernel
theorem nd_law_632 : decode code 632 = .ok (.lcmp, 1) := by decide +kernel
theorem nd_law_633 : decode code 633 = .ok (.ifCond .eq 5, 3) := by decide +kernel
theorem nd_law_636 : decode code 636 = .ok (.iconst 0, 1) := by decide +kernel
theorem nd_law_637 : decode code 637 = .ok (.ireturn, 1) := by decide +kernel
theorem nd_law_638 : decode code 638 = .ok (.goto 303, 3) := by decide +kernel
theorem nd_law_641 : decode code 641 = .ok (.aload_n 1, 1) := by decide +kernel
theorem nd_law_642 : decode code 642 = .ok (.aload_n 0, 1) := by decide +kernel
theorem nd_law_643 : decode code 643 = .ok (.iload 4, 2) := by decide +kernel
theorem nd_law_645 : decode code 645 = .ok (.iconst 1, 1) := by decide +kernel
theorem nd_law_646 : decode code 646 = .ok (.iadd, 1) := by decide +kernel
theorem nd_law_647 : decode code 647 = .ok (.iaload, 1) := by decide +kernel
theorem nd_law_648 : decode code 648 = .ok (.aload_n 0, 1) := by decide +kernel
theorem nd_law_649 : decode code 649 = .ok (.iload 4, 2) := by decide +kernel
theorem nd_law_651 : decode code 651 = .ok (.iconst 2, 1) := by decide +kernel
theorem nd_law_652 : decode code 652 = .ok (.iadd, 1) := by decide +kernel
theorem nd_law_653 : decode code 653 = .ok (.iaload, 1) := by decide +kernel
theorem nd_law_654 : decode code 654 = .ok (.aload_n 0, 1) := by decide +kernel
theorem nd_law_655 : decode code 655 = .ok (.iload 4, 2) := by decide +kernel
theorem nd_law_657 : decode code 657 = .ok (.iconst 3, 1) := by decide +kernel
theorem nd_law_658 : decode code 658 = .ok (.iadd, 1) := by decide +kernel
theorem nd_law_659 : decode code 659 = .ok (.iaload, 1) := by decide +kernel
theorem nd_law_660 : decode code 660 = .ok (.aload_n 3, 1) := by decide +kernel
theorem nd_law_661 : decode code 661 = .ok (.invokestatic 95, 3) := by decide +kernel
theorem nd_law_664 : decode code 664 = .ok (.istore 5, 2) := by decide +kernel
theorem nd_law_666 : decode code 666 = .ok (.aload_n 2, 1) := by decide +kernel
theorem nd_law_667 : decode code 667 = .ok (.aload_n 0, 1) := by decide +kernel
theorem nd_law_668 : decode code 668 = .ok (.iload 4, 2) := by decide +kernel
theorem nd_law_670 : decode code 670 = .ok (.iconst 1, 1) := by decide +kernel
theorem nd_law_671 : decode code 671 = .ok (.iadd, 1) := by decide +kernel
theorem nd_law_672 : decode code 672 = .ok (.iaload, 1) := by decide +kernel
theorem nd_law_673 : decode code 673 = .ok (.aload_n 0, 1) := by decide +kernel
theorem nd_law_674 : decode code 674 = .ok (.iload 4, 2) := by decide +kernel
theorem nd_law_676 : decode code 676 = .ok (.iconst 2, 1) := by decide +kernel
theorem nd_law_677 : decode code 677 = .ok (.iadd, 1) := by decide +kernel
theorem nd_law_678 : decode code 678 = .ok (.iaload, 1) := by decide +kernel
theorem nd_law_679 : decode code 679 = .ok (.aload_n 0, 1) := by decide +kernel
theorem nd_law_680 : decode code 680 = .ok (.iload 4, 2) := by decide +kernel
theorem nd_law_682 : decode code 682 = .ok (.iconst 3, 1) := by decide +kernel
theorem nd_law_683 : decode code 683 = .ok (.iadd, 1) := by decide +kernel
theorem nd_law_684 : decode code 684 = .ok (.iaload, 1) := by decide +kernel
theorem nd_law_685 : decode code 685 = .ok (.invokevirtual 97, 3) := by decide +kernel
theorem nd_law_688 : decode code 688 = .ok (.istore 6, 2) := by decide +kernel
theorem nd_law_690 : decode code 690 = .ok (.aload_n 2, 1) := by decide +kernel
theorem nd_law_691 : decode code 691 = .ok (.invokevirtual 63, 3) := by decide +kernel
theorem nd_law_694 : decode code 694 = .ok (.iload 5, 2) := by decide +kernel
theorem nd_law_696 : decode code 696 = .ok (.if_icmp .eq 5, 3) := by decide +kernel
theorem nd_law_699 : decode code 699 = .ok (.iconst 0, 1) := by decide +kernel
theorem nd_law_700 : decode code 700 = .ok (.ireturn, 1) := by decide +kernel
theorem nd_law_701 : decode code 701 = .ok (.iload 5, 2) := by decide +kernel
theorem nd_law_703 : decode code 703 = .ok (.ifCond .ne 15, 3) := by decide +kernel
theorem nd_law_706 : decode code 706 = .ok (.aload_n 3, 1) := by decide +kernel
theorem nd_law_707 : decode code 707 = .ok (.iconst 0, 1) := by decide +kernel
theorem nd_law_708 : decode code 708 = .ok (.laload, 1) := by decide +kernel
theorem nd_law_709 : decode code 709 = .ok (.iload 6, 2) := by decide +kernel
theorem nd_law_711 : decode code 711 = .ok (.i2l, 1) := by decide +kernel
theorem nd_law_712 : decode code 712 = .ok (.lcmp, 1) := by decide +kernel
theorem nd_law_713 : decode code 713 = .ok (.ifCond .eq 5, 3) := by decide +kernel
theorem nd_law_716 : decode code 716 = .ok (.iconst 0, 1) := by decide +kernel
theorem nd_law_717 : decode code 717 = .ok (.ireturn, 1) := by decide +kernel
theorem nd_law_718 : decode code 718 = .ok (.goto 223, 3) := by decide +kernel
theorem nd_law_721 : decode code 721 = .ok (.aload_n 1, 1) := by decide +kernel
theorem nd_law_722 : decode code 722 = .ok (.aload_n 0, 1) := by decide +kernel
theorem nd_law_723 : decode code 723 = .ok (.iload 4, 2) := by decide +kernel
theorem nd_law_725 : decode code 725 = .ok (.iconst 1, 1) := by decide +kernel
theorem nd_law_726 : decode code 726 = .ok (.iadd, 1) := by decide +kernel
theorem nd_law_727 : decode code 727 = .ok (.iaload, 1) := by decide +kernel
theorem nd_law_728 : decode code 728 = .ok (.aload_n 3, 1) := by decide +kernel
theorem nd_law_729 : decode code 729 = .ok (.invokestatic 98, 3) := by decide +kernel
theorem nd_law_732 : decode code 732 = .ok (.istore 5, 2) := by decide +kernel
theorem nd_law_734 : decode code 734 = .ok (.aload_n 2, 1) := by decide +kernel
theorem nd_law_735 : decode code 735 = .ok (.aload_n 0, 1) := by decide +kernel
theorem nd_law_736 : decode code 736 = .ok (.iload 4, 2) := by decide +kernel
theorem nd_law_738 : decode code 738 = .ok (.iconst 1, 1) := by decide +kernel
theorem nd_law_739 : decode code 739 = .ok (.iadd, 1) := by decide +kernel
theorem nd_law_740 : decode code 740 = .ok (.iaload, 1) := by decide +kernel
theorem nd_law_741 : decode code 741 = .ok (.invokevirtual 100, 3) := by decide +kernel
theorem nd_law_744 : decode code 744 = .ok (.istore 6, 2) := by decide +kernel
theorem nd_law_746 : decode code 746 = .ok (.aload_n 2, 1) := by decide +kernel
theorem nd_law_747 : decode code 747 = .ok (.invokevirtual 63, 3) := by decide +kernel
theorem nd_law_750 : decode code 750 = .ok (.iload 5, 2) := by decide +kernel
theorem nd_law_752 : decode code 752 = .ok (.if_icmp .eq 5, 3) := by decide +kernel
theorem nd_law_755 : decode code 755 = .ok (.iconst 0, 1) := by decide +kernel
theorem nd_law_756 : decode code 756 = .ok (.ireturn, 1) := by decide +kernel
theorem nd_law_757 : decode code 757 = .ok (.iload 5, 2) := by decide +kernel
theorem nd_law_759 : decode code 759 = .ok (.ifCond .ne 22, 3) := by decide +kernel
theorem nd_law_762 : decode code 762 = .ok (.aload_n 3, 1) := by decide +kernel
theorem nd_law_763 : decode code 763 = .ok (.iconst 0, 1) := by decide +kernel
theorem nd_law_764 : decode code 764 = .ok (.laload, 1) := by decide +kernel
theorem nd_law_765 : decode code 765 = .ok (.iload 6, 2) := by decide +kernel
theorem nd_law_767 : decode code 767 = .ok (.ifCond .eq 7, 3) := by decide +kernel
theorem nd_law_770 : decode code 770 = .ok (.lconst 1, 1) := by decide +kernel
theorem nd_law_771 : decode code 771 = .ok (.goto 4, 3) := by decide +kernel
theorem nd_law_774 : decode code 774 = .ok (.lconst 0, 1) := by decide +kernel
theorem nd_law_775 : decode code 775 = .ok (.lcmp, 1) := by decide +kernel
theorem nd_law_776 : decode code 776 = .ok (.ifCond .eq 5, 3) := by decide +kernel
theorem nd_law_779 : decode code 779 = .ok (.iconst 0, 1) := by decide +kernel
theorem nd_law_780 : decode code 780 = .ok (.ireturn, 1) := by decide +kernel
theorem nd_law_781 : decode code 781 = .ok (.goto 160, 3) := by decide +kernel
theorem nd_law_784 : decode code 784 = .ok (.aload_n 1, 1) := by decide +kernel
theorem nd_law_785 : decode code 785 = .ok (.invokevirtual 101, 3) := by decide +kernel
theorem nd_law_788 : decode code 788 = .ok (.aload_n 2, 1) := by decide +kernel
theorem nd_law_789 : decode code 789 = .ok (.invokevirtual 103, 3) := by decide +kernel
theorem nd_law_792 : decode code 792 = .ok (.if_icmp .eq 149, 3) := by decide +kernel
theorem nd_law_795 : decode code 795 = .ok (.iconst 0, 1) := by decide +kernel
theorem nd_law_796 : decode code 796 = .ok (.ireturn, 1) := by decide +kernel
theorem nd_law_797 : decode code 797 = .ok (.aload_n 1, 1) := by decide +kernel
theorem nd_law_798 : decode code 798 = .ok (.aload_n 0, 1) := by decide +kernel
theorem nd_law_799 : decode code 799 = .ok (.iload 4, 2) := by decide +kernel
theorem nd_law_801 : decode code 801 = .ok (.iconst 1, 1) := by decide +kernel
theorem nd_law_802 : decode code 802 = .ok (.iadd, 1) := by decide +kernel
theorem nd_law_803 : decode code 803 = .ok (.iaload, 1) := by decide +kernel
theorem nd_law_804 : decode code 804 = .ok (.aload_n 0, 1) := by decide +kernel
theorem nd_law_805 : decode code 805 = .ok (.iload 4, 2) := by decide +kernel
theorem nd_law_807 : decode code 807 = .ok (.iconst 2, 1) := by decide +kernel
theorem nd_law_808 : decode code 808 = .ok (.iadd, 1) := by decide +kernel
theorem nd_law_809 : decode code 809 = .ok (.iaload, 1) := by decide +kernel
theorem nd_law_810 : decode code 810 = .ok (.aload_n 3, 1) := by decide +kernel
theorem nd_law_811 : decode code 811 = .ok (.invokestatic 104, 3) := by decide +kernel
theorem nd_law_814 : decode code 814 = .ok (.istore 5, 2) := by decide +kernel
theorem nd_law_816 : decode code 816 = .ok (.aload_n 2, 1) := by decide +kernel
theorem nd_law_817 : decode code 817 = .ok (.aload_n 0, 1) := by decide +kernel
theorem nd_law_818 : decode code 818 = .ok (.iload 4, 2) := by decide +kernel
theorem nd_law_820 : decode code 820 = .ok (.iconst 1, 1) := by decide +kernel
theorem nd_law_821 : decode code 821 = .ok (.iadd, 1) := by decide +kernel
theorem nd_law_822 : decode code 822 = .ok (.iaload, 1) := by decide +kernel
theorem nd_law_823 : decode code 823 = .ok (.aload_n 0, 1) := by decide +kernel
theorem nd_law_824 : decode code 824 = .ok (.iload 4, 2) := by decide +kernel
theorem nd_law_826 : decode code 826 = .ok (.iconst 2, 1) := by decide +kernel
theorem nd_law_827 : decode code 827 = .ok (.iadd, 1) := by decide +kernel
theorem nd_law_828 : decode code 828 = .ok (.iaload, 1) := by decide +kernel
theorem nd_law_829 : decode code 829 = .ok (.invokevirtual 106, 3) := by decide +kernel
theorem nd_law_832 : decode code 832 = .ok (.istore 6, 2) := by decide +kernel
theorem nd_law_834 : decode code 834 = .ok (.aload_n 2, 1) := by decide +kernel
theorem nd_law_835 : decode code 835 = .ok (.invokevirtual 63, 3) := by decide +kernel
theorem nd_law_838 : decode code 838 = .ok (.iload 5, 2) := by decide +kernel
theorem nd_law_840 : decode code 840 = .ok (.if_icmp .eq 5, 3) := by decide +kernel
theorem nd_law_843 : decode code 843 = .ok (.iconst 0, 1) := by decide +kernel
theorem nd_law_844 : decode code 844 = .ok (.ireturn, 1) := by decide +kernel
theorem nd_law_845 : decode code 845 = .ok (.iload 5, 2) := by decide +kernel
theorem nd_law_847 : decode code 847 = .ok (.ifCond .ne 22, 3) := by decide +kernel
theorem nd_law_850 : decode code 850 = .ok (.aload_n 3, 1) := by decide +kernel
theorem nd_law_851 : decode code 851 = .ok (.iconst 0, 1) := by decide +kernel
theorem nd_law_852 : decode code 852 = .ok (.laload, 1) := by decide +kernel
theorem nd_law_853 : decode code 853 = .ok (.iload 6, 2) := by decide +kernel
theorem nd_law_855 : decode code 855 = .ok (.ifCond .eq 7, 3) := by decide +kernel
theorem nd_law_858 : decode code 858 = .ok (.lconst 1, 1) := by decide +kernel
theorem nd_law_859 : decode code 859 = .ok (.goto 4, 3) := by decide +kernel
theorem nd_law_862 : decode code 862 = .ok (.lconst 0, 1) := by decide +kernel
theorem nd_law_863 : decode code 863 = .ok (.lcmp, 1) := by decide +kernel
theorem nd_law_864 : decode code 864 = .ok (.ifCond .eq 5, 3) := by decide +kernel
theorem nd_law_867 : decode code 867 = .ok (.iconst 0, 1) := by decide +kernel
theorem nd_law_868 : decode code 868 = .ok (.ireturn, 1) := by decide +kernel
theorem nd_law_869 : decode code 869 = .ok (.goto 72, 3) := by decide +kernel
theorem nd_law_872 : decode code 872 = .ok (.aload_n 1, 1) := by decide +kernel
theorem nd_law_873 : decode code 873 = .ok (.invokevirtual 107, 3) := by decide +kernel
theorem nd_law_876 : decode code 876 = .ok (.aload_n 2, 1) := by decide +kernel
theorem nd_law_877 : decode code 877 = .ok (.invokevirtual 111, 3) := by decide +kernel
theorem nd_law_880 : decode code 880 = .ok (.if_icmp .eq 61, 3) := by decide +kernel
theorem nd_law_883 : decode code 883 = .ok (.iconst 0, 1) := by decide +kernel
theorem nd_law_884 : decode code 884 = .ok (.ireturn, 1) := by decide +kernel
theorem nd_law_885 : decode code 885 = .ok (.aload_n 1, 1) := by decide +kernel
theorem nd_law_886 : decode code 886 = .ok (.aload_n 0, 1) := by decide +kernel
theorem nd_law_887 : decode code 887 = .ok (.iload 4, 2) := by decide +kernel
theorem nd_law_889 : decode code 889 = .ok (.iconst 1, 1) := by decide +kernel
theorem nd_law_890 : decode code 890 = .ok (.iadd, 1) := by decide +kernel
theorem nd_law_891 : decode code 891 = .ok (.iaload, 1) := by decide +kernel
theorem nd_law_892 : decode code 892 = .ok (.aload_n 3, 1) := by decide +kernel
theorem nd_law_893 : decode code 893 = .ok (.invokestatic 112, 3) := by decide +kernel
theorem nd_law_896 : decode code 896 = .ok (.istore 5, 2) := by decide +kernel
theorem nd_law_898 : decode code 898 = .ok (.aload_n 2, 1) := by decide +kernel
theorem nd_law_899 : decode code 899 = .ok (.aload_n 0, 1) := by decide +kernel
theorem nd_law_900 : decode code 900 = .ok (.iload 4, 2) := by decide +kernel
theorem nd_law_902 : decode code 902 = .ok (.iconst 1, 1) := by decide +kernel
theorem nd_law_903 : decode code 903 = .ok (.iadd, 1) := by decide +kernel
theorem nd_law_904 : decode code 904 = .ok (.iaload, 1) := by decide +kernel
theorem nd_law_905 : decode code 905 = .ok (.invokevirtual 114, 3) := by decide +kernel
theorem nd_law_908 : decode code 908 = .ok (.istore 6, 2) := by decide +kernel
theorem nd_law_910 : decode code 910 = .ok (.aload_n 2, 1) := by decide +kernel
theorem nd_law_911 : decode code 911 = .ok (.invokevirtual 63, 3) := by decide +kernel
theorem nd_law_914 : decode code 914 = .ok (.iload 5, 2) := by decide +kernel
theorem nd_law_916 : decode code 916 = .ok (.if_icmp .eq 5, 3) := by decide +kernel
theorem nd_law_919 : decode code 919 = .ok (.iconst 0, 1) := by decide +kernel
theorem nd_law_920 : decode code 920 = .ok (.ireturn, 1) := by decide +kernel
theorem nd_law_921 : decode code 921 = .ok (.iload 5, 2) := by decide +kernel
theorem nd_law_923 : decode code 923 = .ok (.ifCond .ne 15, 3) := by decide +kernel
theorem nd_law_926 : decode code 926 = .ok (.aload_n 3, 1) := by decide +kernel
theorem nd_law_927 : decode code 927 = .ok (.iconst 0, 1) := by decide +kernel
theorem nd_law_928 : decode code 928 = .ok (.laload, 1) := by decide +kernel
theorem nd_law_929 : decode code 929 = .ok (.iload 6, 2) := by decide +kernel
theorem nd_law_931 : decode code 931 = .ok (.i2l, 1) := by decide +kernel
theorem nd_law_932 : decode code 932 = .ok (.lcmp, 1) := by decide +kernel
theorem nd_law_933 : decode code 933 = .ok (.ifCond .eq 5, 3) := by decide +kernel
theorem nd_law_936 : decode code 936 = .ok (.iconst 0, 1) := by decide +kernel
theorem nd_law_937 : decode code 937 = .ok (.ireturn, 1) := by decide +kernel
theorem nd_law_938 : decode code 938 = .ok (.goto 3, 3) := by decide +kernel
theorem nd_law_941 : decode code 941 = .ok (.iinc 4 5, 3) := by decide +kernel
theorem nd_law_944 : decode code 944 = .ok (.goto (-921), 3) := by decide +kernel
theorem nd_law_947 : decode code 947 = .ok (.iconst 1, 1) := by decide +kernel
theorem nd_law_948 : decode code 948 = .ok (.ireturn, 1) := by decide +kernel
