theorem nd_Mo_layOut_76 : decode nc_Mo_layOut 76 = .ok (.iload_n 2, 1) := by decide +kernel
theorem nd_Mo_layOut_77 : decode nc_Mo_layOut 77 = .ok (.iload 5, 2) := by decide +kernel
theorem nd_Mo_layOut_79 : decode nc_Mo_layOut 79 = .ok (.iastore, 1) := by decide +kernel
theorem nd_Mo_layOut_80 : decode nc_Mo_layOut 80 = .ok (.aload_n 0, 1) := by decide +kernel
theorem nd_Mo_layOut_81 : decode nc_Mo_layOut 81 = .ok (.getfield 44, 3) := by decide +kernel
theorem nd_Mo_layOut_84 : decode nc_Mo_layOut 84 = .ok (.iload 4, 2) := by decide +kernel
theorem nd_Mo_layOut_86 : decode nc_Mo_layOut 86 = .ok (.iaload, 1) := by decide +kernel
theorem nd_Mo_layOut_87 : decode nc_Mo_layOut 87 = .ok (.aload_n 0, 1) := by decide +kernel
theorem nd_Mo_layOut_88 : decode nc_Mo_layOut 88 = .ok (.getfield 44, 3) := by decide +kernel
theorem nd_Mo_layOut_91 : decode nc_Mo_layOut 91 = .ok (.iload 5, 2) := by decide +kernel
theorem nd_Mo_layOut_93 : decode nc_Mo_layOut 93 = .ok (.iaload, 1) := by decide +kernel
theorem nd_Mo_layOut_94 : decode nc_Mo_layOut 94 = .ok (.if_icmp .le 13, 3) := by decide +kernel
theorem nd_Mo_layOut_97 : decode nc_Mo_layOut 97 = .ok (.aload_n 0, 1) := by decide +kernel
theorem nd_Mo_layOut_98 : decode nc_Mo_layOut 98 = .ok (.getfield 44, 3) := by decide +kernel
theorem nd_Mo_layOut_101 : decode nc_Mo_layOut 101 = .ok (.iload 4, 2) := by decide +kernel
theorem nd_Mo_layOut_103 : decode nc_Mo_layOut 103 = .ok (.iaload, 1) := by decide +kernel
theorem nd_Mo_layOut_104 : decode nc_Mo_layOut 104 = .ok (.goto 10, 3) := by decide +kernel
theorem nd_Mo_layOut_107 : decode nc_Mo_layOut 107 = .ok (.aload_n 0, 1) := by decide +kernel
theorem nd_Mo_layOut_108 : decode nc_Mo_layOut 108 = .ok (.getfield 44, 3) := by decide +kernel
theorem nd_Mo_layOut_111 : decode nc_Mo_layOut 111 = .ok (.iload 5, 2) := by decide +kernel
theorem nd_Mo_layOut_113 : decode nc_Mo_layOut 113 = .ok (.iaload, 1) := by decide +kernel
theorem nd_Mo_layOut_114 : decode nc_Mo_layOut 114 = .ok (.istore 6, 2) := by decide +kernel
theorem nd_Mo_layOut_116 : decode nc_Mo_layOut 116 = .ok (.aload_n 0, 1) := by decide +kernel
theorem nd_Mo_layOut_117 : decode nc_Mo_layOut 117 = .ok (.getfield 47, 3) := by decide +kernel
theorem nd_Mo_layOut_120 : decode nc_Mo_layOut 120 = .ok (.iload 4, 2) := by decide +kernel
theorem nd_Mo_layOut_122 : decode nc_Mo_layOut 122 = .ok (.iaload, 1) := by decide +kernel
theorem nd_Mo_layOut_123 : decode nc_Mo_layOut 123 = .ok (.aload_n 0, 1) := by decide +kernel
theorem nd_Mo_layOut_124 : decode nc_Mo_layOut 124 = .ok (.getfield 47, 3) := by decide +kernel
theorem nd_Mo_layOut_127 : decode nc_Mo_layOut 127 = .ok (.iload 5, 2) := by decide +kernel
theorem nd_Mo_layOut_129 : decode nc_Mo_layOut 129 = .ok (.iaload, 1) := by decide +kernel
theorem nd_Mo_layOut_130 : decode nc_Mo_layOut 130 = .ok (.if_icmp .le 13, 3) := by decide +kernel
theorem nd_Mo_layOut_133 : decode nc_Mo_layOut 133 = .ok (.aload_n 0, 1) := by decide +kernel
theorem nd_Mo_layOut_134 : decode nc_Mo_layOut 134 = .ok (.getfield 47, 3) := by decide +kernel
theorem nd_Mo_layOut_137 : decode nc_Mo_layOut 137 = .ok (.iload 4, 2) := by decide +kernel
theorem nd_Mo_layOut_139 : decode nc_Mo_layOut 139 = .ok (.iaload, 1) := by decide +kernel
theorem nd_Mo_layOut_140 : decode nc_Mo_layOut 140 = .ok (.goto 10, 3) := by decide +kernel
theorem nd_Mo_layOut_143 : decode nc_Mo_layOut 143 = .ok (.aload_n 0, 1) := by decide +kernel
theorem nd_Mo_layOut_144 : decode nc_Mo_layOut 144 = .ok (.getfield 47, 3) := by decide +kernel
theorem nd_Mo_layOut_147 : decode nc_Mo_layOut 147 = .ok (.iload 5, 2) := by decide +kernel
theorem nd_Mo_layOut_149 : decode nc_Mo_layOut 149 = .ok (.iaload, 1) := by decide +kernel
theorem nd_Mo_layOut_150 : decode nc_Mo_layOut 150 = .ok (.istore 7, 2) := by decide +kernel
theorem nd_Mo_layOut_152 : decode nc_Mo_layOut 152 = .ok (.aload_n 0, 1) := by decide +kernel
theorem nd_Mo_layOut_153 : decode nc_Mo_layOut 153 = .ok (.getfield 44, 3) := by decide +kernel
theorem nd_Mo_layOut_156 : decode nc_Mo_layOut 156 = .ok (.iload_n 2, 1) := by decide +kernel
theorem nd_Mo_layOut_157 : decode nc_Mo_layOut 157 = .ok (.iload_n 3, 1) := by decide +kernel
theorem nd_Mo_layOut_158 : decode nc_Mo_layOut 158 = .ok (.ifCond .eq 21, 3) := by decide +kernel
theorem nd_Mo_layOut_161 : decode nc_Mo_layOut 161 = .ok (.aload_n 0, 1) := by decide +kernel
theorem nd_Mo_layOut_162 : decode nc_Mo_layOut 162 = .ok (.getfield 44, 3) := by decide +kernel
theorem nd_Mo_layOut_165 : decode nc_Mo_layOut 165 = .ok (.iload 4, 2) := by decide +kernel
theorem nd_Mo_layOut_167 : decode nc_Mo_layOut 167 = .ok (.iaload, 1) := by decide +kernel
theorem nd_Mo_layOut_168 : decode nc_Mo_layOut 168 = .ok (.aload_n 0, 1) := by decide +kernel
theorem nd_Mo_layOut_169 : decode nc_Mo_layOut 169 = .ok (.getfield 44, 3) := by decide +kernel
theorem nd_Mo_layOut_172 : decode nc_Mo_layOut 172 = .ok (.iload 5, 2) := by decide +kernel
theorem nd_Mo_layOut_174 : decode nc_Mo_layOut 174 = .ok (.iaload, 1) := by decide +kernel
theorem nd_Mo_layOut_175 : decode nc_Mo_layOut 175 = .ok (.iadd, 1) := by decide +kernel
theorem nd_Mo_layOut_176 : decode nc_Mo_layOut 176 = .ok (.goto 5, 3) := by decide +kernel
theorem nd_Mo_layOut_179 : decode nc_Mo_layOut 179 = .ok (.iload 6, 2) := by decide +kernel
theorem nd_Mo_layOut_181 : decode nc_Mo_layOut 181 = .ok (.iastore, 1) := by decide +kernel
theorem nd_Mo_layOut_182 : decode nc_Mo_layOut 182 = .ok (.aload_n 0, 1) := by decide +kernel
theorem nd_Mo_layOut_183 : decode nc_Mo_layOut 183 = .ok (.getfield 47, 3) := by decide +kernel
theorem nd_Mo_layOut_186 : decode nc_Mo_layOut 186 = .ok (.iload_n 2, 1) := by decide +kernel
theorem nd_Mo_layOut_187 : decode nc_Mo_layOut 187 = .ok (.iload_n 3, 1) := by decide +kernel
theorem nd_Mo_layOut_188 : decode nc_Mo_layOut 188 = .ok (.ifCond .eq 8, 3) := by decide +kernel
theorem nd_Mo_layOut_191 : decode nc_Mo_layOut 191 = .ok (.iload 7, 2) := by decide +kernel
theorem nd_Mo_layOut_193 : decode nc_Mo_layOut 193 = .ok (.goto 18, 3) := by decide +kernel
theorem nd_Mo_layOut_196 : decode nc_Mo_layOut 196 = .ok (.aload_n 0, 1) := by decide +kernel
theorem nd_Mo_layOut_197 : decode nc_Mo_layOut 197 = .ok (.getfield 47, 3) := by decide +kernel
theorem nd_Mo_layOut_200 : decode nc_Mo_layOut 200 = .ok (.iload 4, 2) := by decide +kernel
theorem nd_Mo_layOut_202 : decode nc_Mo_layOut 202 = .ok (.iaload, 1) := by decide +kernel
theorem nd_Mo_layOut_203 : decode nc_Mo_layOut 203 = .ok (.aload_n 0, 1) := by decide +kernel
theorem nd_Mo_layOut_204 : decode nc_Mo_layOut 204 = .ok (.getfield 47, 3) := by decide +kernel
theorem nd_Mo_layOut_207 : decode nc_Mo_layOut 207 = .ok (.iload 5, 2) := by decide +kernel
theorem nd_Mo_layOut_209 : decode nc_Mo_layOut 209 = .ok (.iaload, 1) := by decide +kernel
theorem nd_Mo_layOut_210 : decode nc_Mo_layOut 210 = .ok (.iadd, 1) := by decide +kernel
theorem nd_Mo_layOut_211 : decode nc_Mo_layOut 211 = .ok (.iastore, 1) := by decide +kernel
theorem nd_Mo_layOut_212 : decode nc_Mo_layOut 212 = .ok (.iinc 1 (-2), 3) := by decide +kernel
theorem nd_Mo_layOut_215 : decode nc_Mo_layOut 215 = .ok (.goto 57, 3) := by decide +kernel
theorem nd_Mo_layOut_218 : decode nc_Mo_layOut 218 = .ok (.iconst 4, 1) := by decide +kernel
theorem nd_Mo_layOut_219 : decode nc_Mo_layOut 219 = .ok (.aload_n 0, 1) := by decide +kernel
theorem nd_Mo_layOut_220 : decode nc_Mo_layOut 220 = .ok (.getfield 26, 3) := by decide +kernel
theorem nd_Mo_layOut_223 : decode nc_Mo_layOut 223 = .ok (.iload_n 2, 1) := by decide +kernel
theorem nd_Mo_layOut_224 : decode nc_Mo_layOut 224 = .ok (.iaload, 1) := by decide +kernel
theorem nd_Mo_layOut_225 : decode nc_Mo_layOut 225 = .ok (.bipush 48, 2) := by decide +kernel
theorem nd_Mo_layOut_227 : decode nc_Mo_layOut 227 = .ok (.isub, 1) := by decide +kernel
theorem nd_Mo_layOut_228 : decode nc_Mo_layOut 228 = .ok (.imul, 1) := by decide +kernel
theorem nd_Mo_layOut_229 : decode nc_Mo_layOut 229 = .ok (.aload_n 0, 1) := by decide +kernel
theorem nd_Mo_layOut_230 : decode nc_Mo_layOut 230 = .ok (.getfield 38, 3) := by decide +kernel
theorem nd_Mo_layOut_233 : decode nc_Mo_layOut 233 = .ok (.aload_n 0, 1) := by decide +kernel
theorem nd_Mo_layOut_234 : decode nc_Mo_layOut 234 = .ok (.getfield 26, 3) := by decide +kernel
theorem nd_Mo_layOut_237 : decode nc_Mo_layOut 237 = .ok (.iload_n 2, 1) := by decide +kernel
theorem nd_Mo_layOut_238 : decode nc_Mo_layOut 238 = .ok (.iaload, 1) := by decide +kernel
theorem nd_Mo_layOut_239 : decode nc_Mo_layOut 239 = .ok (.bipush 48, 2) := by decide +kernel
theorem nd_Mo_layOut_241 : decode nc_Mo_layOut 241 = .ok (.isub, 1) := by decide +kernel
theorem nd_Mo_layOut_242 : decode nc_Mo_layOut 242 = .ok (.iaload, 1) := by decide +kernel
theorem nd_Mo_layOut_243 : decode nc_Mo_layOut 243 = .ok (.iadd, 1) := by decide +kernel
theorem nd_Mo_layOut_244 : decode nc_Mo_layOut 244 = .ok (.istore 4, 2) := by decide +kernel
theorem nd_Mo_layOut_246 : decode nc_Mo_layOut 246 = .ok (.aload_n 0, 1) := by decide +kernel
theorem nd_Mo_layOut_247 : decode nc_Mo_layOut 247 = .ok (.getfield 44, 3) := by decide +kernel
theorem nd_Mo_layOut_250 : decode nc_Mo_layOut 250 = .ok (.iload_n 2, 1) := by decide +kernel
theorem nd_Mo_layOut_251 : decode nc_Mo_layOut 251 = .ok (.aload_n 0, 1) := by decide +kernel
theorem nd_Mo_layOut_252 : decode nc_Mo_layOut 252 = .ok (.getfield 13, 3) := by decide +kernel
theorem nd_Mo_layOut_255 : decode nc_Mo_layOut 255 = .ok (.iload 4, 2) := by decide +kernel
theorem nd_Mo_layOut_257 : decode nc_Mo_layOut 257 = .ok (.iaload, 1) := by decide +kernel
theorem nd_Mo_layOut_258 : decode nc_Mo_layOut 258 = .ok (.iastore, 1) := by decide +kernel
theorem nd_Mo_layOut_259 : decode nc_Mo_layOut 259 = .ok (.aload_n 0, 1) := by decide +kernel
theorem nd_Mo_layOut_260 : decode nc_Mo_layOut 260 = .ok (.getfield 47, 3) := by decide +kernel
theorem nd_Mo_layOut_263 : decode nc_Mo_layOut 263 = .ok (.iload_n 2, 1) := by decide +kernel
theorem nd_Mo_layOut_264 : decode nc_Mo_layOut 264 = .ok (.aload_n 0, 1) := by decide +kernel
theorem nd_Mo_layOut_265 : decode nc_Mo_layOut 265 = .ok (.getfield 16, 3) := by decide +kernel
theorem nd_Mo_layOut_268 : decode nc_Mo_layOut 268 = .ok (.iload 4, 2) := by decide +kernel
theorem nd_Mo_layOut_270 : decode nc_Mo_layOut 270 = .ok (.iaload, 1) := by decide +kernel
theorem nd_Mo_layOut_271 : decode nc_Mo_layOut 271 = .ok (.iastore, 1) := by decide +kernel
theorem nd_Mo_layOut_272 : decode nc_Mo_layOut 272 = .ok (.aload_n 0, 1) := by decide +kernel
theorem nd_Mo_layOut_273 : decode nc_Mo_layOut 273 = .ok (.getfield 62, 3) := by decide +kernel
theorem nd_Mo_layOut_276 : decode nc_Mo_layOut 276 = .ok (.iload_n 1, 1) := by decide +kernel
theorem nd_Mo_layOut_277 : decode nc_Mo_layOut 277 = .ok (.iload_n 2, 1) := by decide +kernel
theorem nd_Mo_layOut_278 : decode nc_Mo_layOut 278 = .ok (.iastore, 1) := by decide +kernel
theorem nd_Mo_layOut_279 : decode nc_Mo_layOut 279 = .ok (.iinc 1 1, 3) := by decide +kernel
theorem nd_Mo_layOut_282 : decode nc_Mo_layOut 282 = .ok (.iinc 2 1, 3) := by decide +kernel
theorem nd_Mo_layOut_285 : decode nc_Mo_layOut 285 = .ok (.goto (-281), 3) := by decide +kernel
theorem nd_Mo_layOut_288 : decode nc_Mo_layOut 288 = .ok (.return_, 1) := by decide +kernel
theorem nd_Mo_findCorners_0 : decode nc_Mo_findCorners 0 = .ok (.aload_n 0, 1) := by decide +kernel
theorem nd_Mo_findCorners_1 : decode nc_Mo_findCorners 1 = .ok (.getfield 50, 3) := by decide +kernel
theorem nd_Mo_findCorners_4 : decode nc_Mo_findCorners 4 = .ok (.aload_n 0, 1) := by decide +kernel
theorem nd_Mo_findCorners_5 : decode nc_Mo_findCorners 5 = .ok (.getfield 91, 3) := by decide +kernel
theorem nd_Mo_findCorners_8 : decode nc_Mo_findCorners 8 = .ok (.iconst 1, 1) := by decide +kernel
theorem nd_Mo_findCorners_9 : decode nc_Mo_findCorners 9 = .ok (.isub, 1) := by decide +kernel
theorem nd_Mo_findCorners_10 : decode nc_Mo_findCorners 10 = .ok (.iconst 0, 1) := by decide +kernel
theorem nd_Mo_findCorners_11 : decode nc_Mo_findCorners 11 = .ok (.iastore, 1) := by decide +kernel
theorem nd_Mo_findCorners_12 : decode nc_Mo_findCorners 12 = .ok (.aload_n 0, 1) := by decide +kernel
theorem nd_Mo_findCorners_13 : decode nc_Mo_findCorners 13 = .ok (.getfield 53, 3) := by decide +kernel
theorem nd_Mo_findCorners_16 : decode nc_Mo_findCorners 16 = .ok (.aload_n 0, 1) := by decide +kernel
theorem nd_Mo_findCorners_17 : decode nc_Mo_findCorners 17 = .ok (.getfield 91, 3) := by decide +kernel
theorem nd_Mo_findCorners_20 : decode nc_Mo_findCorners 20 = .ok (.iconst 1, 1) := by decide +kernel
theorem nd_Mo_findCorners_21 : decode nc_Mo_findCorners 21 = .ok (.isub, 1) := by decide +kernel
theorem nd_Mo_findCorners_22 : decode nc_Mo_findCorners 22 = .ok (.iconst 0, 1) := by decide +kernel
theorem nd_Mo_findCorners_23 : decode nc_Mo_findCorners 23 = .ok (.iastore, 1) := by decide +kernel
theorem nd_Mo_findCorners_24 : decode nc_Mo_findCorners 24 = .ok (.aload_n 0, 1) := by decide +kernel
theorem nd_Mo_findCorners_25 : decode nc_Mo_findCorners 25 = .ok (.getfield 91, 3) := by decide +kernel
theorem nd_Mo_findCorners_28 : decode nc_Mo_findCorners 28 = .ok (.iconst 1, 1) := by decide +kernel
theorem nd_Mo_findCorners_29 : decode nc_Mo_findCorners 29 = .ok (.isub, 1) := by decide +kernel
theorem nd_Mo_findCorners_30 : decode nc_Mo_findCorners 30 = .ok (.istore_n 1, 1) := by decide +kernel
theorem nd_Mo_findCorners_31 : decode nc_Mo_findCorners 31 = .ok (.iload_n 1, 1) := by decide +kernel
theorem nd_Mo_findCorners_32 : decode nc_Mo_findCorners 32 = .ok (.ifCond .lt 137, 3) := by decide +kernel
theorem nd_Mo_findCorners_35 : decode nc_Mo_findCorners 35 = .ok (.aload_n 0, 1) := by decide +kernel
theorem nd_Mo_findCorners_36 : decode nc_Mo_findCorners 36 = .ok (.getfield 26, 3) := by decide +kernel
theorem nd_Mo_findCorners_39 : decode nc_Mo_findCorners 39 = .ok (.iload_n 1, 1) := by decide +kernel
theorem nd_Mo_findCorners_40 : decode nc_Mo_findCorners 40 = .ok (.iaload, 1) := by decide +kernel
theorem nd_Mo_findCorners_41 : decode nc_Mo_findCorners 41 = .ok (.bipush 124, 2) := by decide +kernel
theorem nd_Mo_findCorners_43 : decode nc_Mo_findCorners 43 = .ok (.if_icmp .eq 14, 3) := by decide +kernel
theorem nd_Mo_findCorners_46 : decode nc_Mo_findCorners 46 = .ok (.aload_n 0, 1) := by decide +kernel
theorem nd_Mo_findCorners_47 : decode nc_Mo_findCorners 47 = .ok (.getfield 26, 3) := by decide +kernel
theorem nd_Mo_findCorners_50 : decode nc_Mo_findCorners 50 = .ok (.iload_n 1, 1) := by decide +kernel
theorem nd_Mo_findCorners_51 : decode nc_Mo_findCorners 51 = .ok (.iaload, 1) := by decide +kernel
theorem nd_Mo_findCorners_52 : decode nc_Mo_findCorners 52 = .ok (.bipush 45, 2) := by decide +kernel
theorem nd_Mo_findCorners_54 : decode nc_Mo_findCorners 54 = .ok (.if_icmp .ne 109, 3) := by decide +kernel
theorem nd_Mo_findCorners_57 : decode nc_Mo_findCorners 57 = .ok (.aload_n 0, 1) := by decide +kernel
theorem nd_Mo_findCorners_58 : decode nc_Mo_findCorners 58 = .ok (.getfield 56, 3) := by decide +kernel
theorem nd_Mo_findCorners_61 : decode nc_Mo_findCorners 61 = .ok (.iload_n 1, 1) := by decide +kernel
theorem nd_Mo_findCorners_62 : decode nc_Mo_findCorners 62 = .ok (.iaload, 1) := by decide +kernel
theorem nd_Mo_findCorners_63 : decode nc_Mo_findCorners 63 = .ok (.istore_n 2, 1) := by decide +kernel
theorem nd_Mo_findCorners_64 : decode nc_Mo_findCorners 64 = .ok (.aload_n 0, 1) := by decide +kernel
theorem nd_Mo_findCorners_65 : decode nc_Mo_findCorners 65 = .ok (.getfield 59, 3) := by decide +kernel
theorem nd_Mo_findCorners_68 : decode nc_Mo_findCorners 68 = .ok (.iload_n 1, 1) := by decide +kernel
theorem nd_Mo_findCorners_69 : decode nc_Mo_findCorners 69 = .ok (.iaload, 1) := by decide +kernel
theorem nd_Mo_findCorners_70 : decode nc_Mo_findCorners 70 = .ok (.istore_n 3, 1) := by decide +kernel
theorem nd_Mo_findCorners_71 : decode nc_Mo_findCorners 71 = .ok (.aload_n 0, 1) := by decide +kernel
theorem nd_Mo_findCorners_72 : decode nc_Mo_findCorners 72 = .ok (.getfield 50, 3) := by decide +kernel
theorem nd_Mo_findCorners_75 : decode nc_Mo_findCorners 75 = .ok (.iload_n 2, 1) := by decide +kernel
theorem nd_Mo_findCorners_76 : decode nc_Mo_findCorners 76 = .ok (.aload_n 0, 1) := by decide +kernel
theorem nd_Mo_findCorners_77 : decode nc_Mo_findCorners 77 = .ok (.getfield 50, 3) := by decide +kernel
theorem nd_Mo_findCorners_80 : decode nc_Mo_findCorners 80 = .ok (.iload_n 1, 1) := by decide +kernel
theorem nd_Mo_findCorners_81 : decode nc_Mo_findCorners 81 = .ok (.iaload, 1) := by decide +kernel
theorem nd_Mo_findCorners_82 : decode nc_Mo_findCorners 82 = .ok (.iastore, 1) := by decide +kernel
theorem nd_Mo_findCorners_83 : decode nc_Mo_findCorners 83 = .ok (.aload_n 0, 1) := by decide +kernel
theorem nd_Mo_findCorners_84 : decode nc_Mo_findCorners 84 = .ok (.getfield 53, 3) := by decide +kernel
theorem nd_Mo_findCorners_87 : decode nc_Mo_findCorners 87 = .ok (.iload_n 2, 1) := by decide +kernel
theorem nd_Mo_findCorners_88 : decode nc_Mo_findCorners 88 = .ok (.aload_n 0, 1) := by decide +kernel
theorem nd_Mo_findCorners_89 : decode nc_Mo_findCorners 89 = .ok (.getfield 53, 3) := by decide +kernel
theorem nd_Mo_findCorners_92 : decode nc_Mo_findCorners 92 = .ok (.iload_n 1, 1) := by decide +kernel
theorem nd_Mo_findCorners_93 : decode nc_Mo_findCorners 93 = .ok (.iaload, 1) := by decide +kernel
theorem nd_Mo_findCorners_94 : decode nc_Mo_findCorners 94 = .ok (.iastore, 1) := by decide +kernel
theorem nd_Mo_findCorners_95 : decode nc_Mo_findCorners 95 = .ok (.aload_n 0, 1) := by decide +kernel
theorem nd_Mo_findCorners_96 : decode nc_Mo_findCorners 96 = .ok (.getfield 50, 3) := by decide +kernel
theorem nd_Mo_findCorners_99 : decode nc_Mo_findCorners 99 = .ok (.iload_n 3, 1) := by decide +kernel
theorem nd_Mo_findCorners_100 : decode nc_Mo_findCorners 100 = .ok (.aload_n 0, 1) := by decide +kernel
theorem nd_Mo_findCorners_101 : decode nc_Mo_findCorners 101 = .ok (.getfield 50, 3) := by decide +kernel
theorem nd_Mo_findCorners_104 : decode nc_Mo_findCorners 104 = .ok (.iload_n 1, 1) := by decide +kernel
theorem nd_Mo_findCorners_105 : decode nc_Mo_findCorners 105 = .ok (.iaload, 1) := by decide +kernel
theorem nd_Mo_findCorners_106 : decode nc_Mo_findCorners 106 = .ok (.aload_n 0, 1) := by decide +kernel
theorem nd_Mo_findCorners_107 : decode nc_Mo_findCorners 107 = .ok (.getfield 26, 3) := by decide +kernel
theorem nd_Mo_findCorners_110 : decode nc_Mo_findCorners 110 = .ok (.iload_n 1, 1) := by decide +kernel
theorem nd_Mo_findCorners_111 : decode nc_Mo_findCorners 111 = .ok (.iaload, 1) := by decide +kernel
theorem nd_Mo_findCorners_112 : decode nc_Mo_findCorners 112 = .ok (.bipush 124, 2) := by decide +kernel
theorem nd_Mo_findCorners_114 : decode nc_Mo_findCorners 114 = .ok (.if_icmp .ne 12, 3) := by decide +kernel
theorem nd_Mo_findCorners_117 : decode nc_Mo_findCorners 117 = .ok (.aload_n 0, 1) := by decide +kernel
theorem nd_Mo_findCorners_118 : decode nc_Mo_findCorners 118 = .ok (.getfield 44, 3) := by decide +kernel
theorem nd_Mo_findCorners_121 : decode nc_Mo_findCorners 121 = .ok (.iload_n 2, 1) := by decide +kernel
theorem nd_Mo_findCorners_122 : decode nc_Mo_findCorners 122 = .ok (.iaload, 1) := by decide +kernel
theorem nd_Mo_findCorners_123 : decode nc_Mo_findCorners 123 = .ok (.goto 4, 3) := by decide +kernel
theorem nd_Mo_findCorners_126 : decode nc_Mo_findCorners 126 = .ok (.iconst 0, 1) := by decide +kernel
theorem nd_Mo_findCorners_127 : decode nc_Mo_findCorners 127 = .ok (.iadd, 1) := by decide +kernel
theorem nd_Mo_findCorners_128 : decode nc_Mo_findCorners 128 = .ok (.iastore, 1) := by decide +kernel
theorem nd_Mo_findCorners_129 : decode nc_Mo_findCorners 129 = .ok (.aload_n 0, 1) := by decide +kernel
theorem nd_Mo_findCorners_130 : decode nc_Mo_findCorners 130 = .ok (.getfield 53, 3) := by decide +kernel
theorem nd_Mo_findCorners_133 : decode nc_Mo_findCorners 133 = .ok (.iload_n 3, 1) := by decide +kernel
theorem nd_Mo_findCorners_134 : decode nc_Mo_findCorners 134 = .ok (.aload_n 0, 1) := by decide +kernel
theorem nd_Mo_findCorners_135 : decode nc_Mo_findCorners 135 = .ok (.getfield 53, 3) := by decide +kernel
theorem nd_Mo_findCorners_138 : decode nc_Mo_findCorners 138 = .ok (.iload_n 1, 1) := by decide +kernel
theorem nd_Mo_findCorners_139 : decode nc_Mo_findCorners 139 = .ok (.iaload, 1) := by decide +kernel
theorem nd_Mo_findCorners_140 : decode nc_Mo_findCorners 140 = .ok (.aload_n 0, 1) := by decide +kernel
theorem nd_Mo_findCorners_141 : decode nc_Mo_findCorners 141 = .ok (.getfield 26, 3) := by decide +kernel
theorem nd_Mo_findCorners_144 : decode nc_Mo_findCorners 144 = .ok (.iload_n 1, 1) := by decide +kernel
theorem nd_Mo_findCorners_145 : decode nc_Mo_findCorners 145 = .ok (.iaload, 1) := by decide +kernel
theorem nd_Mo_findCorners_146 : decode nc_Mo_findCorners 146 = .ok (.bipush 124, 2) := by decide +kernel
theorem nd_Mo_findCorners_148 : decode nc_Mo_findCorners 148 = .ok (.if_icmp .ne 7, 3) := by decide +kernel
theorem nd_Mo_findCorners_151 : decode nc_Mo_findCorners 151 = .ok (.iconst 0, 1) := by decide +kernel
theorem nd_Mo_findCorners_152 : decode nc_Mo_findCorners 152 = .ok (.goto 9, 3) := by decide +kernel
theorem nd_Mo_findCorners_155 : decode nc_Mo_findCorners 155 = .ok (.aload_n 0, 1) := by decide +kernel
theorem nd_Mo_findCorners_156 : decode nc_Mo_findCorners 156 = .ok (.getfield 47, 3) := by decide +kernel
theorem nd_Mo_findCorners_159 : decode nc_Mo_findCorners 159 = .ok (.iload_n 2, 1) := by decide +kernel
theorem nd_Mo_findCorners_160 : decode nc_Mo_findCorners 160 = .ok (.iaload, 1) := by decide +kernel
theorem nd_Mo_findCorners_161 : decode nc_Mo_findCorners 161 = .ok (.iadd, 1) := by decide +kernel
theorem nd_Mo_findCorners_162 : decode nc_Mo_findCorners 162 = .ok (.iastore, 1) := by decide +kernel
theorem nd_Mo_findCorners_163 : decode nc_Mo_findCorners 163 = .ok (.iinc 1 (-1), 3) := by decide +kernel
theorem nd_Mo_findCorners_166 : decode nc_Mo_findCorners 166 = .ok (.goto (-135), 3) := by decide +kernel
theorem nd_Mo_findCorners_169 : decode nc_Mo_findCorners 169 = .ok (.return_, 1) := by decide +kernel
theorem nd_Mo_firstChoice_0 : decode nc_Mo_firstChoice 0 = .ok (.iconst 0, 1) := by decide +kernel
theorem nd_Mo_firstChoice_1 : decode nc_Mo_firstChoice 1 = .ok (.istore_n 1, 1) := by decide +kernel
theorem nd_Mo_firstChoice_2 : decode nc_Mo_firstChoice 2 = .ok (.iload_n 1, 1) := by decide +kernel
theorem nd_Mo_firstChoice_3 : decode nc_Mo_firstChoice 3 = .ok (.bipush 6, 2) := by decide +kernel
theorem nd_Mo_firstChoice_5 : decode nc_Mo_firstChoice 5 = .ok (.if_icmp .ge 16, 3) := by decide +kernel
theorem nd_Mo_firstChoice_8 : decode nc_Mo_firstChoice 8 = .ok (.aload_n 0, 1) := by decide +kernel
theorem nd_Mo_firstChoice_9 : decode nc_Mo_firstChoice 9 = .ok (.getfield 38, 3) := by decide +kernel
theorem nd_Mo_firstChoice_12 : decode nc_Mo_firstChoice 12 = .ok (.iload_n 1, 1) := by decide +kernel
theorem nd_Mo_firstChoice_13 : decode nc_Mo_firstChoice 13 = .ok (.iconst 0, 1) := by decide +kernel
theorem nd_Mo_firstChoice_14 : decode nc_Mo_firstChoice 14 = .ok (.iastore, 1) := by decide +kernel
theorem nd_Mo_firstChoice_15 : decode nc_Mo_firstChoice 15 = .ok (.iinc 1 1, 3) := by decide +kernel
theorem nd_Mo_firstChoice_18 : decode nc_Mo_firstChoice 18 = .ok (.goto (-16), 3) := by decide +kernel
theorem nd_Mo_firstChoice_21 : decode nc_Mo_firstChoice 21 = .ok (.return_, 1) := by decide +kernel
theorem nd_Mo_nextChoice_0 : decode nc_Mo_nextChoice 0 = .ok (.iconst 5, 1) := by decide +kernel
theorem nd_Mo_nextChoice_1 : decode nc_Mo_nextChoice 1 = .ok (.istore_n 1, 1) := by decide +kernel
theorem nd_Mo_nextChoice_2 : decode nc_Mo_nextChoice 2 = .ok (.iload_n 1, 1) := by decide +kernel
theorem nd_Mo_nextChoice_3 : decode nc_Mo_nextChoice 3 = .ok (.ifCond .lt 51, 3) := by decide +kernel
theorem nd_Mo_nextChoice_6 : decode nc_Mo_nextChoice 6 = .ok (.aload_n 0, 1) := by decide +kernel
theorem nd_Mo_nextChoice_7 : decode nc_Mo_nextChoice 7 = .ok (.iload_n 1, 1) := by decide +kernel
theorem nd_Mo_nextChoice_8 : decode nc_Mo_nextChoice 8 = .ok (.invokevirtual 94, 3) := by decide +kernel
theorem nd_Mo_nextChoice_11 : decode nc_Mo_nextChoice 11 = .ok (.ifCond .lt 37, 3) := by decide +kernel
theorem nd_Mo_nextChoice_14 : decode nc_Mo_nextChoice 14 = .ok (.aload_n 0, 1) := by decide +kernel
theorem nd_Mo_nextChoice_15 : decode nc_Mo_nextChoice 15 = .ok (.getfield 38, 3) := by decide +kernel
theorem nd_Mo_nextChoice_18 : decode nc_Mo_nextChoice 18 = .ok (.iload_n 1, 1) := by decide +kernel
theorem nd_Mo_nextChoice_19 : decode nc_Mo_nextChoice 19 = .ok (.dup2, 1) := by decide +kernel
theorem nd_Mo_nextChoice_20 : decode nc_Mo_nextChoice 20 = .ok (.iaload, 1) := by decide +kernel
theorem nd_Mo_nextChoice_21 : decode nc_Mo_nextChoice 21 = .ok (.iconst 1, 1) := by decide +kernel
theorem nd_Mo_nextChoice_22 : decode nc_Mo_nextChoice 22 = .ok (.iadd, 1) := by decide +kernel
theorem nd_Mo_nextChoice_23 : decode nc_Mo_nextChoice 23 = .ok (.iastore, 1) := by decide +kernel
theorem nd_Mo_nextChoice_24 : decode nc_Mo_nextChoice 24 = .ok (.aload_n 0, 1) := by decide +kernel
theorem nd_Mo_nextChoice_25 : decode nc_Mo_nextChoice 25 = .ok (.getfield 38, 3) := by decide +kernel
theorem nd_Mo_nextChoice_28 : decode nc_Mo_nextChoice 28 = .ok (.iload_n 1, 1) := by decide +kernel
theorem nd_Mo_nextChoice_29 : decode nc_Mo_nextChoice 29 = .ok (.iaload, 1) := by decide +kernel
theorem nd_Mo_nextChoice_30 : decode nc_Mo_nextChoice 30 = .ok (.aload_n 0, 1) := by decide +kernel
theorem nd_Mo_nextChoice_31 : decode nc_Mo_nextChoice 31 = .ok (.getfield 7, 3) := by decide +kernel
theorem nd_Mo_nextChoice_34 : decode nc_Mo_nextChoice 34 = .ok (.iload_n 1, 1) := by decide +kernel
theorem nd_Mo_nextChoice_35 : decode nc_Mo_nextChoice 35 = .ok (.iaload, 1) := by decide +kernel
theorem nd_Mo_nextChoice_36 : decode nc_Mo_nextChoice 36 = .ok (.if_icmp .ge 5, 3) := by decide +kernel
theorem nd_Mo_nextChoice_39 : decode nc_Mo_nextChoice 39 = .ok (.iconst 1, 1) := by decide +kernel
theorem nd_Mo_nextChoice_40 : decode nc_Mo_nextChoice 40 = .ok (.ireturn, 1) := by decide +kernel
theorem nd_Mo_nextChoice_41 : decode nc_Mo_nextChoice 41 = .ok (.aload_n 0, 1) := by decide +kernel
theorem nd_Mo_nextChoice_42 : decode nc_Mo_nextChoice 42 = .ok (.getfield 38, 3) := by decide +kernel
theorem nd_Mo_nextChoice_45 : decode nc_Mo_nextChoice 45 = .ok (.iload_n 1, 1) := by decide +kernel
theorem nd_Mo_nextChoice_46 : decode nc_Mo_nextChoice 46 = .ok (.iconst 0, 1) := by decide +kernel
theorem nd_Mo_nextChoice_47 : decode nc_Mo_nextChoice 47 = .ok (.iastore, 1) := by decide +kernel
theorem nd_Mo_nextChoice_48 : decode nc_Mo_nextChoice 48 = .ok (.iinc 1 (-1), 3) := by decide +kernel
theorem nd_Mo_nextChoice_51 : decode nc_Mo_nextChoice 51 = .ok (.goto (-49), 3) := by decide +kernel
theorem nd_Mo_nextChoice_54 : decode nc_Mo_nextChoice 54 = .ok (.iconst 0, 1) := by decide +kernel
theorem nd_Mo_nextChoice_55 : decode nc_Mo_nextChoice 55 = .ok (.ireturn, 1) := by decide +kernel
theorem nd_Mo_fits_0 : decode nc_Mo_fits 0 = .ok (.aload_n 0, 1) := by decide +kernel
theorem nd_Mo_fits_1 : decode nc_Mo_fits 1 = .ok (.getfield 44, 3) := by decide +kernel
theorem nd_Mo_fits_4 : decode nc_Mo_fits 4 = .ok (.aload_n 0, 1) := by decide +kernel
theorem nd_Mo_fits_5 : decode nc_Mo_fits 5 = .ok (.getfield 91, 3) := by decide +kernel
theorem nd_Mo_fits_8 : decode nc_Mo_fits 8 = .ok (.iconst 1, 1) := by decide +kernel
theorem nd_Mo_fits_9 : decode nc_Mo_fits 9 = .ok (.isub, 1) := by decide +kernel
theorem nd_Mo_fits_10 : decode nc_Mo_fits 10 = .ok (.iaload, 1) := by decide +kernel
theorem nd_Mo_fits_11 : decode nc_Mo_fits 11 = .ok (.aload_n 0, 1) := by decide +kernel
theorem nd_Mo_fits_12 : decode nc_Mo_fits 12 = .ok (.getfield 19, 3) := by decide +kernel
theorem nd_Mo_fits_15 : decode nc_Mo_fits 15 = .ok (.if_icmp .gt 25, 3) := by decide +kernel
theorem nd_Mo_fits_18 : decode nc_Mo_fits 18 = .ok (.aload_n 0, 1) := by decide +kernel
theorem nd_Mo_fits_19 : decode nc_Mo_fits 19 = .ok (.getfield 47, 3) := by decide +kernel
theorem nd_Mo_fits_22 : decode nc_Mo_fits 22 = .ok (.aload_n 0, 1) := by decide +kernel
theorem nd_Mo_fits_23 : decode nc_Mo_fits 23 = .ok (.getfield 91, 3) := by decide +kernel
theorem nd_Mo_fits_26 : decode nc_Mo_fits 26 = .ok (.iconst 1, 1) := by decide +kernel
theorem nd_Mo_fits_27 : decode nc_Mo_fits 27 = .ok (.isub, 1) := by decide +kernel
theorem nd_Mo_fits_28 : decode nc_Mo_fits 28 = .ok (.iaload, 1) := by decide +kernel
theorem nd_Mo_fits_29 : decode nc_Mo_fits 29 = .ok (.aload_n 0, 1) := by decide +kernel
theorem nd_Mo_fits_30 : decode nc_Mo_fits 30 = .ok (.getfield 23, 3) := by decide +kernel
theorem nd_Mo_fits_33 : decode nc_Mo_fits 33 = .ok (.if_icmp .gt 7, 3) := by decide +kernel
theorem nd_Mo_fits_36 : decode nc_Mo_fits 36 = .ok (.iconst 1, 1) := by decide +kernel
theorem nd_Mo_fits_37 : decode nc_Mo_fits 37 = .ok (.goto 4, 3) := by decide +kernel
theorem nd_Mo_fits_40 : decode nc_Mo_fits 40 = .ok (.iconst 0, 1) := by decide +kernel
theorem nd_Mo_fits_41 : decode nc_Mo_fits 41 = .ok (.ireturn, 1) := by decide +kernel
theorem nd_Mo_findBest_0 : decode nc_Mo_findBest 0 = .ok (.aload_n 0, 1) := by decide +kernel
theorem nd_Mo_findBest_1 : decode nc_Mo_findBest 1 = .ok (.iconst 0, 1) := by decide +kernel
theorem nd_Mo_findBest_2 : decode nc_Mo_findBest 2 = .ok (.putfield 98, 3) := by decide +kernel
theorem nd_Mo_findBest_5 : decode nc_Mo_findBest 5 = .ok (.aload_n 0, 1) := by decide +kernel
theorem nd_Mo_findBest_6 : decode nc_Mo_findBest 6 = .ok (.invokevirtual 102, 3) := by decide +kernel
theorem nd_Mo_findBest_9 : decode nc_Mo_findBest 9 = .ok (.aload_n 0, 1) := by decide +kernel
theorem nd_Mo_findBest_10 : decode nc_Mo_findBest 10 = .ok (.getfield 91, 3) := by decide +kernel
theorem nd_Mo_findBest_13 : decode nc_Mo_findBest 13 = .ok (.ifCond .le 7, 3) := by decide +kernel
theorem nd_Mo_findBest_16 : decode nc_Mo_findBest 16 = .ok (.iconst 1, 1) := by decide +kernel
theorem nd_Mo_findBest_17 : decode nc_Mo_findBest 17 = .ok (.goto 4, 3) := by decide +kernel
theorem nd_Mo_findBest_20 : decode nc_Mo_findBest 20 = .ok (.iconst 0, 1) := by decide +kernel
theorem nd_Mo_findBest_21 : decode nc_Mo_findBest 21 = .ok (.istore_n 1, 1) := by decide +kernel
theorem nd_Mo_findBest_22 : decode nc_Mo_findBest 22 = .ok (.iload_n 1, 1) := by decide +kernel
theorem nd_Mo_findBest_23 : decode nc_Mo_findBest 23 = .ok (.ifCond .eq 148, 3) := by decide +kernel
theorem nd_Mo_findBest_26 : decode nc_Mo_findBest 26 = .ok (.aload_n 0, 1) := by decide +kernel
theorem nd_Mo_findBest_27 : decode nc_Mo_findBest 27 = .ok (.invokevirtual 105, 3) := by decide +kernel
theorem nd_Mo_findBest_30 : decode nc_Mo_findBest 30 = .ok (.aload_n 0, 1) := by decide +kernel
theorem nd_Mo_findBest_31 : decode nc_Mo_findBest 31 = .ok (.getfield 44, 3) := by decide +kernel
theorem nd_Mo_findBest_34 : decode nc_Mo_findBest 34 = .ok (.aload_n 0, 1) := by decide +kernel
theorem nd_Mo_findBest_35 : decode nc_Mo_findBest 35 = .ok (.getfield 91, 3) := by decide +kernel
theorem nd_Mo_findBest_38 : decode nc_Mo_findBest 38 = .ok (.iconst 1, 1) := by decide +kernel
theorem nd_Mo_findBest_39 : decode nc_Mo_findBest 39 = .ok (.isub, 1) := by decide +kernel
theorem nd_Mo_findBest_40 : decode nc_Mo_findBest 40 = .ok (.iaload, 1) := by decide +kernel
theorem nd_Mo_findBest_41 : decode nc_Mo_findBest 41 = .ok (.istore_n 2, 1) := by decide +kernel
theorem nd_Mo_findBest_42 : decode nc_Mo_findBest 42 = .ok (.aload_n 0, 1) := by decide +kernel
theorem nd_Mo_findBest_43 : decode nc_Mo_findBest 43 = .ok (.getfield 47, 3) := by decide +kernel
theorem nd_Mo_findBest_46 : decode nc_Mo_findBest 46 = .ok (.aload_n 0, 1) := by decide +kernel
theorem nd_Mo_findBest_47 : decode nc_Mo_findBest 47 = .ok (.getfield 91, 3) := by decide +kernel
theorem nd_Mo_findBest_50 : decode nc_Mo_findBest 50 = .ok (.iconst 1, 1) := by decide +kernel
theorem nd_Mo_findBest_51 : decode nc_Mo_findBest 51 = .ok (.isub, 1) := by decide +kernel
theorem nd_Mo_findBest_52 : decode nc_Mo_findBest 52 = .ok (.iaload, 1) := by decide +kernel
theorem nd_Mo_findBest_53 : decode nc_Mo_findBest 53 = .ok (.istore_n 3, 1) := by decide +kernel
theorem nd_Mo_findBest_54 : decode nc_Mo_findBest 54 = .ok (.aload_n 0, 1) := by decide +kernel
theorem nd_Mo_findBest_55 : decode nc_Mo_findBest 55 = .ok (.getfield 98, 3) := by decide +kernel
theorem nd_Mo_findBest_58 : decode nc_Mo_findBest 58 = .ok (.ifCond .eq 41, 3) := by decide +kernel
theorem nd_Mo_findBest_61 : decode nc_Mo_findBest 61 = .ok (.iload_n 2, 1) := by decide +kernel
theorem nd_Mo_findBest_62 : decode nc_Mo_findBest 62 = .ok (.iload_n 3, 1) := by decide +kernel
theorem nd_Mo_findBest_63 : decode nc_Mo_findBest 63 = .ok (.imul, 1) := by decide +kernel
theorem nd_Mo_findBest_64 : decode nc_Mo_findBest 64 = .ok (.aload_n 0, 1) := by decide +kernel
theorem nd_Mo_findBest_65 : decode nc_Mo_findBest 65 = .ok (.getfield 108, 3) := by decide +kernel
theorem nd_Mo_findBest_68 : decode nc_Mo_findBest 68 = .ok (.aload_n 0, 1) := by decide +kernel
theorem nd_Mo_findBest_69 : decode nc_Mo_findBest 69 = .ok (.getfield 111, 3) := by decide +kernel
theorem nd_Mo_findBest_72 : decode nc_Mo_findBest 72 = .ok (.imul, 1) := by decide +kernel
theorem nd_Mo_findBest_73 : decode nc_Mo_findBest 73 = .ok (.if_icmp .lt 26, 3) := by decide +kernel
theorem nd_Mo_findBest_76 : decode nc_Mo_findBest 76 = .ok (.iload_n 2, 1) := by decide +kernel
theorem nd_Mo_findBest_77 : decode nc_Mo_findBest 77 = .ok (.iload_n 3, 1) := by decide +kernel
theorem nd_Mo_findBest_78 : decode nc_Mo_findBest 78 = .ok (.imul, 1) := by decide +kernel
theorem nd_Mo_findBest_79 : decode nc_Mo_findBest 79 = .ok (.aload_n 0, 1) := by decide +kernel
theorem nd_Mo_findBest_80 : decode nc_Mo_findBest 80 = .ok (.getfield 108, 3) := by decide +kernel
theorem nd_Mo_findBest_83 : decode nc_Mo_findBest 83 = .ok (.aload_n 0, 1) := by decide +kernel
theorem nd_Mo_findBest_84 : decode nc_Mo_findBest 84 = .ok (.getfield 111, 3) := by decide +kernel
theorem nd_Mo_findBest_87 : decode nc_Mo_findBest 87 = .ok (.imul, 1) := by decide +kernel
theorem nd_Mo_findBest_88 : decode nc_Mo_findBest 88 = .ok (.if_icmp .ne 15, 3) := by decide +kernel
theorem nd_Mo_findBest_91 : decode nc_Mo_findBest 91 = .ok (.iload_n 2, 1) := by decide +kernel
theorem nd_Mo_findBest_92 : decode nc_Mo_findBest 92 = .ok (.aload_n 0, 1) := by decide +kernel
theorem nd_Mo_findBest_93 : decode nc_Mo_findBest 93 = .ok (.getfield 108, 3) := by decide +kernel
theorem nd_Mo_findBest_96 : decode nc_Mo_findBest 96 = .ok (.if_icmp .ge 7, 3) := by decide +kernel
theorem nd_Mo_findBest_99 : decode nc_Mo_findBest 99 = .ok (.iconst 1, 1) := by decide +kernel
theorem nd_Mo_findBest_100 : decode nc_Mo_findBest 100 = .ok (.goto 4, 3) := by decide +kernel
theorem nd_Mo_findBest_103 : decode nc_Mo_findBest 103 = .ok (.iconst 0, 1) := by decide +kernel
theorem nd_Mo_findBest_104 : decode nc_Mo_findBest 104 = .ok (.istore 4, 2) := by decide +kernel
theorem nd_Mo_findBest_106 : decode nc_Mo_findBest 106 = .ok (.aload_n 0, 1) := by decide +kernel
theorem nd_Mo_findBest_107 : decode nc_Mo_findBest 107 = .ok (.invokevirtual 114, 3) := by decide +kernel
theorem nd_Mo_findBest_110 : decode nc_Mo_findBest 110 = .ok (.ifCond .eq 53, 3) := by decide +kernel
theorem nd_Mo_findBest_113 : decode nc_Mo_findBest 113 = .ok (.iload 4, 2) := by decide +kernel
theorem nd_Mo_findBest_115 : decode nc_Mo_findBest 115 = .ok (.ifCond .eq 48, 3) := by decide +kernel
theorem nd_Mo_findBest_118 : decode nc_Mo_findBest 118 = .ok (.aload_n 0, 1) := by decide +kernel
theorem nd_Mo_findBest_119 : decode nc_Mo_findBest 119 = .ok (.iconst 1, 1) := by decide +kernel
theorem nd_Mo_findBest_120 : decode nc_Mo_findBest 120 = .ok (.putfield 98, 3) := by decide +kernel
theorem nd_Mo_findBest_123 : decode nc_Mo_findBest 123 = .ok (.aload_n 0, 1) := by decide +kernel
theorem nd_Mo_findBest_124 : decode nc_Mo_findBest 124 = .ok (.iload_n 2, 1) := by decide +kernel
theorem nd_Mo_findBest_125 : decode nc_Mo_findBest 125 = .ok (.putfield 108, 3) := by decide +kernel
theorem nd_Mo_findBest_128 : decode nc_Mo_findBest 128 = .ok (.aload_n 0, 1) := by decide +kernel
theorem nd_Mo_findBest_129 : decode nc_Mo_findBest 129 = .ok (.iload_n 3, 1) := by decide +kernel
theorem nd_Mo_findBest_130 : decode nc_Mo_findBest 130 = .ok (.putfield 111, 3) := by decide +kernel
theorem nd_Mo_findBest_133 : decode nc_Mo_findBest 133 = .ok (.iconst 0, 1) := by decide +kernel
theorem nd_Mo_findBest_134 : decode nc_Mo_findBest 134 = .ok (.istore 5, 2) := by decide +kernel
theorem nd_Mo_findBest_136 : decode nc_Mo_findBest 136 = .ok (.iload 5, 2) := by decide +kernel
theorem nd_Mo_findBest_138 : decode nc_Mo_findBest 138 = .ok (.bipush 6, 2) := by decide +kernel
theorem nd_Mo_findBest_140 : decode nc_Mo_findBest 140 = .ok (.if_icmp .ge 23, 3) := by decide +kernel
theorem nd_Mo_findBest_143 : decode nc_Mo_findBest 143 = .ok (.aload_n 0, 1) := by decide +kernel
theorem nd_Mo_findBest_144 : decode nc_Mo_findBest 144 = .ok (.getfield 41, 3) := by decide +kernel
theorem nd_Mo_findBest_147 : decode nc_Mo_findBest 147 = .ok (.iload 5, 2) := by decide +kernel
theorem nd_Mo_findBest_149 : decode nc_Mo_findBest 149 = .ok (.aload_n 0, 1) := by decide +kernel
theorem nd_Mo_findBest_150 : decode nc_Mo_findBest 150 = .ok (.getfield 38, 3) := by decide +kernel
theorem nd_Mo_findBest_153 : decode nc_Mo_findBest 153 = .ok (.iload 5, 2) := by decide +kernel
theorem nd_Mo_findBest_155 : decode nc_Mo_findBest 155 = .ok (.iaload, 1) := by decide +kernel
theorem nd_Mo_findBest_156 : decode nc_Mo_findBest 156 = .ok (.iastore, 1) := by decide +kernel
theorem nd_Mo_findBest_157 : decode nc_Mo_findBest 157 = .ok (.iinc 5 1, 3) := by decide +kernel
theorem nd_Mo_findBest_160 : decode nc_Mo_findBest 160 = .ok (.goto (-24), 3) := by decide +kernel
theorem nd_Mo_findBest_163 : decode nc_Mo_findBest 163 = .ok (.aload_n 0, 1) := by decide +kernel
theorem nd_Mo_findBest_164 : decode nc_Mo_findBest 164 = .ok (.invokevirtual 118, 3) := by decide +kernel
theorem nd_Mo_findBest_167 : decode nc_Mo_findBest 167 = .ok (.istore_n 1, 1) := by decide +kernel
theorem nd_Mo_findBest_168 : decode nc_Mo_findBest 168 = .ok (.goto (-146), 3) := by decide +kernel
theorem nd_Mo_findBest_171 : decode nc_Mo_findBest 171 = .ok (.aload_n 0, 1) := by decide +kernel
theorem nd_Mo_findBest_172 : decode nc_Mo_findBest 172 = .ok (.getfield 98, 3) := by decide +kernel
theorem nd_Mo_findBest_175 : decode nc_Mo_findBest 175 = .ok (.ifCond .eq 37, 3) := by decide +kernel
theorem nd_Mo_findBest_178 : decode nc_Mo_findBest 178 = .ok (.iconst 0, 1) := by decide +kernel
theorem nd_Mo_findBest_179 : decode nc_Mo_findBest 179 = .ok (.istore_n 2, 1) := by decide +kernel
theorem nd_Mo_findBest_180 : decode nc_Mo_findBest 180 = .ok (.iload_n 2, 1) := by decide +kernel
theorem nd_Mo_findBest_181 : decode nc_Mo_findBest 181 = .ok (.bipush 6, 2) := by decide +kernel
theorem nd_Mo_findBest_183 : decode nc_Mo_findBest 183 = .ok (.if_icmp .ge 21, 3) := by decide +kernel
theorem nd_Mo_findBest_186 : decode nc_Mo_findBest 186 = .ok (.aload_n 0, 1) := by decide +kernel
theorem nd_Mo_findBest_187 : decode nc_Mo_findBest 187 = .ok (.getfield 38, 3) := by decide +kernel
theorem nd_Mo_findBest_190 : decode nc_Mo_findBest 190 = .ok (.iload_n 2, 1) := by decide +kernel
theorem nd_Mo_findBest_191 : decode nc_Mo_findBest 191 = .ok (.aload_n 0, 1) := by decide +kernel
theorem nd_Mo_findBest_192 : decode nc_Mo_findBest 192 = .ok (.getfield 41, 3) := by decide +kernel
theorem nd_Mo_findBest_195 : decode nc_Mo_findBest 195 = .ok (.iload_n 2, 1) := by decide +kernel
theorem nd_Mo_findBest_196 : decode nc_Mo_findBest 196 = .ok (.iaload, 1) := by decide +kernel
theorem nd_Mo_findBest_197 : decode nc_Mo_findBest 197 = .ok (.iastore, 1) := by decide +kernel
theorem nd_Mo_findBest_198 : decode nc_Mo_findBest 198 = .ok (.iinc 2 1, 3) := by decide +kernel
theorem nd_Mo_findBest_201 : decode nc_Mo_findBest 201 = .ok (.goto (-21), 3) := by decide +kernel
theorem nd_Mo_findBest_204 : decode nc_Mo_findBest 204 = .ok (.aload_n 0, 1) := by decide +kernel
theorem nd_Mo_findBest_205 : decode nc_Mo_findBest 205 = .ok (.invokevirtual 105, 3) := by decide +kernel
theorem nd_Mo_findBest_208 : decode nc_Mo_findBest 208 = .ok (.aload_n 0, 1) := by decide +kernel
theorem nd_Mo_findBest_209 : decode nc_Mo_findBest 209 = .ok (.invokevirtual 121, 3) := by decide +kernel
theorem nd_Mo_findBest_212 : decode nc_Mo_findBest 212 = .ok (.return_, 1) := by decide +kernel
theorem nd_Mo_best_0 : decode nc_Mo_best 0 = .ok (.aload_n 0, 1) := by decide +kernel
theorem nd_Mo_best_1 : decode nc_Mo_best 1 = .ok (.iload_n 1, 1) := by decide +kernel
theorem nd_Mo_best_2 : decode nc_Mo_best 2 = .ok (.iconst 0, 1) := by decide +kernel
theorem nd_Mo_best_3 : decode nc_Mo_best 3 = .ok (.iconst 2, 1) := by decide +kernel
theorem nd_Mo_best_4 : decode nc_Mo_best 4 = .ok (.invokestatic 81, 3) := by decide +kernel
theorem nd_Mo_best_7 : decode nc_Mo_best 7 = .ok (.ifCond .eq 7, 3) := by decide +kernel
theorem nd_Mo_best_10 : decode nc_Mo_best 10 = .ok (.iconst 0, 1) := by decide +kernel
theorem nd_Mo_best_11 : decode nc_Mo_best 11 = .ok (.goto 4, 3) := by decide +kernel
theorem nd_Mo_best_14 : decode nc_Mo_best 14 = .ok (.iconst 1, 1) := by decide +kernel
theorem nd_Mo_best_15 : decode nc_Mo_best 15 = .ok (.putfield 71, 3) := by decide +kernel
theorem nd_Mo_best_18 : decode nc_Mo_best 18 = .ok (.aload_n 0, 1) := by decide +kernel
theorem nd_Mo_best_19 : decode nc_Mo_best 19 = .ok (.getfield 71, 3) := by decide +kernel
theorem nd_Mo_best_22 : decode nc_Mo_best 22 = .ok (.ifCond .le 5, 3) := by decide +kernel
theorem nd_Mo_best_25 : decode nc_Mo_best 25 = .ok (.iconst 0, 1) := by decide +kernel
theorem nd_Mo_best_26 : decode nc_Mo_best 26 = .ok (.ireturn, 1) := by decide +kernel
theorem nd_Mo_best_27 : decode nc_Mo_best 27 = .ok (.aload_n 0, 1) := by decide +kernel
theorem nd_Mo_best_28 : decode nc_Mo_best 28 = .ok (.invokevirtual 124, 3) := by decide +kernel
theorem nd_Mo_best_31 : decode nc_Mo_best 31 = .ok (.aload_n 0, 1) := by decide +kernel
theorem nd_Mo_best_32 : decode nc_Mo_best 32 = .ok (.getfield 98, 3) := by decide +kernel
theorem nd_Mo_best_35 : decode nc_Mo_best 35 = .ok (.ifCond .ne 5, 3) := by decide +kernel
theorem nd_Mo_best_38 : decode nc_Mo_best 38 = .ok (.iconst (-1), 1) := by decide +kernel
theorem nd_Mo_best_39 : decode nc_Mo_best 39 = .ok (.ireturn, 1) := by decide +kernel
theorem nd_Mo_best_40 : decode nc_Mo_best 40 = .ok (.iload_n 1, 1) := by decide +kernel
theorem nd_Mo_best_41 : decode nc_Mo_best 41 = .ok (.ifCond .ne 15, 3) := by decide +kernel
theorem nd_Mo_best_44 : decode nc_Mo_best 44 = .ok (.aload_n 0, 1) := by decide +kernel
theorem nd_Mo_best_45 : decode nc_Mo_best 45 = .ok (.getfield 108, 3) := by decide +kernel
theorem nd_Mo_best_48 : decode nc_Mo_best 48 = .ok (.aload_n 0, 1) := by decide +kernel
theorem nd_Mo_best_49 : decode nc_Mo_best 49 = .ok (.getfield 111, 3) := by decide +kernel
theorem nd_Mo_best_52 : decode nc_Mo_best 52 = .ok (.imul, 1) := by decide +kernel
theorem nd_Mo_best_53 : decode nc_Mo_best 53 = .ok (.goto 19, 3) := by decide +kernel
theorem nd_Mo_best_56 : decode nc_Mo_best 56 = .ok (.iload_n 1, 1) := by decide +kernel
theorem nd_Mo_best_57 : decode nc_Mo_best 57 = .ok (.iconst 1, 1) := by decide +kernel
theorem nd_Mo_best_58 : decode nc_Mo_best 58 = .ok (.if_icmp .ne 10, 3) := by decide +kernel
theorem nd_Mo_best_61 : decode nc_Mo_best 61 = .ok (.aload_n 0, 1) := by decide +kernel
theorem nd_Mo_best_62 : decode nc_Mo_best 62 = .ok (.getfield 108, 3) := by decide +kernel
theorem nd_Mo_best_65 : decode nc_Mo_best 65 = .ok (.goto 7, 3) := by decide +kernel
theorem nd_Mo_best_68 : decode nc_Mo_best 68 = .ok (.aload_n 0, 1) := by decide +kernel
theorem nd_Mo_best_69 : decode nc_Mo_best 69 = .ok (.getfield 111, 3) := by decide +kernel
theorem nd_Mo_best_72 : decode nc_Mo_best 72 = .ok (.ireturn, 1) := by decide +kernel
theorem nd_Mo_place_0 : decode nc_Mo_place 0 = .ok (.aload_n 0, 1) := by decide +kernel
theorem nd_Mo_place_1 : decode nc_Mo_place 1 = .ok (.aload_n 0, 1) := by decide +kernel
theorem nd_Mo_place_2 : decode nc_Mo_place 2 = .ok (.iload_n 1, 1) := by decide +kernel
theorem nd_Mo_place_3 : decode nc_Mo_place 3 = .ok (.invokevirtual 77, 3) := by decide +kernel
theorem nd_Mo_place_6 : decode nc_Mo_place 6 = .ok (.ifCond .eq 16, 3) := by decide +kernel
theorem nd_Mo_place_9 : decode nc_Mo_place 9 = .ok (.iload_n 2, 1) := by decide +kernel
theorem nd_Mo_place_10 : decode nc_Mo_place 10 = .ok (.iconst 0, 1) := by decide +kernel
theorem nd_Mo_place_11 : decode nc_Mo_place 11 = .ok (.iconst 4, 1) := by decide +kernel
theorem nd_Mo_place_12 : decode nc_Mo_place 12 = .ok (.invokestatic 81, 3) := by decide +kernel
theorem nd_Mo_place_15 : decode nc_Mo_place 15 = .ok (.ifCond .eq 7, 3) := by decide +kernel
theorem nd_Mo_place_18 : decode nc_Mo_place 18 = .ok (.iconst 0, 1) := by decide +kernel
theorem nd_Mo_place_19 : decode nc_Mo_place 19 = .ok (.goto 4, 3) := by decide +kernel
theorem nd_Mo_place_22 : decode nc_Mo_place 22 = .ok (.iconst 1, 1) := by decide +kernel
theorem nd_Mo_place_23 : decode nc_Mo_place 23 = .ok (.putfield 71, 3) := by decide +kernel
theorem nd_Mo_place_26 : decode nc_Mo_place 26 = .ok (.aload_n 0, 1) := by decide +kernel
theorem nd_Mo_place_27 : decode nc_Mo_place 27 = .ok (.getfield 71, 3) := by decide +kernel
theorem nd_Mo_place_30 : decode nc_Mo_place 30 = .ok (.ifCond .le 5, 3) := by decide +kernel
theorem nd_Mo_place_33 : decode nc_Mo_place 33 = .ok (.iconst 0, 1) := by decide +kernel
theorem nd_Mo_place_34 : decode nc_Mo_place 34 = .ok (.ireturn, 1) := by decide +kernel
theorem nd_Mo_place_35 : decode nc_Mo_place 35 = .ok (.aload_n 0, 1) := by decide +kernel
theorem nd_Mo_place_36 : decode nc_Mo_place 36 = .ok (.invokevirtual 124, 3) := by decide +kernel
theorem nd_Mo_place_39 : decode nc_Mo_place 39 = .ok (.aload_n 0, 1) := by decide +kernel
theorem nd_Mo_place_40 : decode nc_Mo_place 40 = .ok (.iload_n 1, 1) := by decide +kernel
theorem nd_Mo_place_41 : decode nc_Mo_place 41 = .ok (.invokevirtual 94, 3) := by decide +kernel
theorem nd_Mo_place_44 : decode nc_Mo_place 44 = .ok (.istore_n 3, 1) := by decide +kernel
theorem nd_Mo_place_45 : decode nc_Mo_place 45 = .ok (.aload_n 0, 1) := by decide +kernel
theorem nd_Mo_place_46 : decode nc_Mo_place 46 = .ok (.getfield 98, 3) := by decide +kernel
theorem nd_Mo_place_49 : decode nc_Mo_place 49 = .ok (.ifCond .eq 7, 3) := by decide +kernel
theorem nd_Mo_place_52 : decode nc_Mo_place 52 = .ok (.iload_n 3, 1) := by decide +kernel
theorem nd_Mo_place_53 : decode nc_Mo_place 53 = .ok (.ifCond .ge 5, 3) := by decide +kernel
theorem nd_Mo_place_56 : decode nc_Mo_place 56 = .ok (.iconst (-1), 1) := by decide +kernel
theorem nd_Mo_place_57 : decode nc_Mo_place 57 = .ok (.ireturn, 1) := by decide +kernel
theorem nd_Mo_place_58 : decode nc_Mo_place 58 = .ok (.iload_n 2, 1) := by decide +kernel
theorem nd_Mo_place_59 : decode nc_Mo_place 59 = .ok (.tableswitch 57 0 3 #[29, 36, 43, 50], 29) := by decide +kernel
theorem nd_Mo_place_88 : decode nc_Mo_place 88 = .ok (.aload_n 0, 1) := by decide +kernel
theorem nd_Mo_place_89 : decode nc_Mo_place 89 = .ok (.getfield 41, 3) := by decide +kernel
theorem nd_Mo_place_92 : decode nc_Mo_place 92 = .ok (.iload_n 1, 1) := by decide +kernel
theorem nd_Mo_place_93 : decode nc_Mo_place 93 = .ok (.iaload, 1) := by decide +kernel
theorem nd_Mo_place_94 : decode nc_Mo_place 94 = .ok (.ireturn, 1) := by decide +kernel
theorem nd_Mo_place_95 : decode nc_Mo_place 95 = .ok (.aload_n 0, 1) := by decide +kernel
theorem nd_Mo_place_96 : decode nc_Mo_place 96 = .ok (.getfield 50, 3) := by decide +kernel
theorem nd_Mo_place_99 : decode nc_Mo_place 99 = .ok (.iload_n 3, 1) := by decide +kernel
theorem nd_Mo_place_100 : decode nc_Mo_place 100 = .ok (.iaload, 1) := by decide +kernel
theorem nd_Mo_place_101 : decode nc_Mo_place 101 = .ok (.ireturn, 1) := by decide +kernel
theorem nd_Mo_place_102 : decode nc_Mo_place 102 = .ok (.aload_n 0, 1) := by decide +kernel
theorem nd_Mo_place_103 : decode nc_Mo_place 103 = .ok (.getfield 53, 3) := by decide +kernel
theorem nd_Mo_place_106 : decode nc_Mo_place 106 = .ok (.iload_n 3, 1) := by decide +kernel
theorem nd_Mo_place_107 : decode nc_Mo_place 107 = .ok (.iaload, 1) := by decide +kernel
theorem nd_Mo_place_108 : decode nc_Mo_place 108 = .ok (.ireturn, 1) := by decide +kernel
theorem nd_Mo_place_109 : decode nc_Mo_place 109 = .ok (.aload_n 0, 1) := by decide +kernel
theorem nd_Mo_place_110 : decode nc_Mo_place 110 = .ok (.getfield 44, 3) := by decide +kernel
theorem nd_Mo_place_113 : decode nc_Mo_place 113 = .ok (.iload_n 3, 1) := by decide +kernel
theorem nd_Mo_place_114 : decode nc_Mo_place 114 = .ok (.iaload, 1) := by decide +kernel
theorem nd_Mo_place_115 : decode nc_Mo_place 115 = .ok (.ireturn, 1) := by decide +kernel
theorem nd_Mo_place_116 : decode nc_Mo_place 116 = .ok (.aload_n 0, 1) := by decide +kernel
theorem nd_Mo_place_117 : decode nc_Mo_place 117 = .ok (.getfield 47, 3) := by decide +kernel
theorem nd_Mo_place_120 : decode nc_Mo_place 120 = .ok (.iload_n 3, 1) := by decide +kernel
theorem nd_Mo_place_121 : decode nc_Mo_place 121 = .ok (.iaload, 1) := by decide +kernel
theorem nd_Mo_place_122 : decode nc_Mo_place 122 = .ok (.ireturn, 1) := by decide +kernel
theorem nd_Mo_outline_0 : decode nc_Mo_outline 0 = .ok (.aload_n 0, 1) := by decide +kernel
theorem nd_Mo_outline_1 : decode nc_Mo_outline 1 = .ok (.iload_n 1, 1) := by decide +kernel
theorem nd_Mo_outline_2 : decode nc_Mo_outline 2 = .ok (.ifCond .lt 16, 3) := by decide +kernel
theorem nd_Mo_outline_5 : decode nc_Mo_outline 5 = .ok (.iload_n 2, 1) := by decide +kernel
theorem nd_Mo_outline_6 : decode nc_Mo_outline 6 = .ok (.iconst 0, 1) := by decide +kernel
theorem nd_Mo_outline_7 : decode nc_Mo_outline 7 = .ok (.iconst 1, 1) := by decide +kernel
theorem nd_Mo_outline_8 : decode nc_Mo_outline 8 = .ok (.invokestatic 81, 3) := by decide +kernel
theorem nd_Mo_outline_11 : decode nc_Mo_outline 11 = .ok (.ifCond .eq 7, 3) := by decide +kernel
theorem nd_Mo_outline_14 : decode nc_Mo_outline 14 = .ok (.iconst 0, 1) := by decide +kernel
theorem nd_Mo_outline_15 : decode nc_Mo_outline 15 = .ok (.goto 4, 3) := by decide +kernel
theorem nd_Mo_outline_18 : decode nc_Mo_outline 18 = .ok (.iconst 1, 1) := by decide +kernel
theorem nd_Mo_outline_19 : decode nc_Mo_outline 19 = .ok (.putfield 71, 3) := by decide +kernel
theorem nd_Mo_outline_22 : decode nc_Mo_outline 22 = .ok (.aload_n 0, 1) := by decide +kernel
theorem nd_Mo_outline_23 : decode nc_Mo_outline 23 = .ok (.getfield 71, 3) := by decide +kernel
theorem nd_Mo_outline_26 : decode nc_Mo_outline 26 = .ok (.ifCond .le 5, 3) := by decide +kernel
theorem nd_Mo_outline_29 : decode nc_Mo_outline 29 = .ok (.iconst 0, 1) := by decide +kernel
theorem nd_Mo_outline_30 : decode nc_Mo_outline 30 = .ok (.ireturn, 1) := by decide +kernel
theorem nd_Mo_outline_31 : decode nc_Mo_outline 31 = .ok (.iconst 0, 1) := by decide +kernel
theorem nd_Mo_outline_32 : decode nc_Mo_outline 32 = .ok (.istore_n 3, 1) := by decide +kernel
theorem nd_Mo_outline_33 : decode nc_Mo_outline 33 = .ok (.iload_n 3, 1) := by decide +kernel
theorem nd_Mo_outline_34 : decode nc_Mo_outline 34 = .ok (.sipush 400, 3) := by decide +kernel
theorem nd_Mo_outline_37 : decode nc_Mo_outline 37 = .ok (.if_icmp .gt 18, 3) := by decide +kernel
theorem nd_Mo_outline_40 : decode nc_Mo_outline 40 = .ok (.aload_n 0, 1) := by decide +kernel
theorem nd_Mo_outline_41 : decode nc_Mo_outline 41 = .ok (.getfield 65, 3) := by decide +kernel
theorem nd_Mo_outline_44 : decode nc_Mo_outline 44 = .ok (.iload_n 3, 1) := by decide +kernel
theorem nd_Mo_outline_45 : decode nc_Mo_outline 45 = .ok (.sipush 1000, 3) := by decide +kernel
theorem nd_Mo_outline_48 : decode nc_Mo_outline 48 = .ok (.iastore, 1) := by decide +kernel
theorem nd_Mo_outline_49 : decode nc_Mo_outline 49 = .ok (.iinc 3 1, 3) := by decide +kernel
theorem nd_Mo_outline_52 : decode nc_Mo_outline 52 = .ok (.goto (-19), 3) := by decide +kernel
theorem nd_Mo_outline_55 : decode nc_Mo_outline 55 = .ok (.aload_n 0, 1) := by decide +kernel
theorem nd_Mo_outline_56 : decode nc_Mo_outline 56 = .ok (.invokevirtual 102, 3) := by decide +kernel
theorem nd_Mo_outline_59 : decode nc_Mo_outline 59 = .ok (.aload_n 0, 1) := by decide +kernel
theorem nd_Mo_outline_60 : decode nc_Mo_outline 60 = .ok (.getfield 91, 3) := by decide +kernel
theorem nd_Mo_outline_63 : decode nc_Mo_outline 63 = .ok (.ifCond .le 7, 3) := by decide +kernel
theorem nd_Mo_outline_66 : decode nc_Mo_outline 66 = .ok (.iconst 1, 1) := by decide +kernel
theorem nd_Mo_outline_67 : decode nc_Mo_outline 67 = .ok (.goto 4, 3) := by decide +kernel
theorem nd_Mo_outline_70 : decode nc_Mo_outline 70 = .ok (.iconst 0, 1) := by decide +kernel
theorem nd_Mo_outline_71 : decode nc_Mo_outline 71 = .ok (.istore_n 3, 1) := by decide +kernel
theorem nd_Mo_outline_72 : decode nc_Mo_outline 72 = .ok (.iload_n 3, 1) := by decide +kernel
theorem nd_Mo_outline_73 : decode nc_Mo_outline 73 = .ok (.ifCond .eq 84, 3) := by decide +kernel
theorem nd_Mo_outline_76 : decode nc_Mo_outline 76 = .ok (.aload_n 0, 1) := by decide +kernel
theorem nd_Mo_outline_77 : decode nc_Mo_outline 77 = .ok (.invokevirtual 105, 3) := by decide +kernel
theorem nd_Mo_outline_80 : decode nc_Mo_outline 80 = .ok (.aload_n 0, 1) := by decide +kernel
theorem nd_Mo_outline_81 : decode nc_Mo_outline 81 = .ok (.invokevirtual 114, 3) := by decide +kernel
theorem nd_Mo_outline_84 : decode nc_Mo_outline 84 = .ok (.ifCond .eq 65, 3) := by decide +kernel
theorem nd_Mo_outline_87 : decode nc_Mo_outline 87 = .ok (.aload_n 0, 1) := by decide +kernel
theorem nd_Mo_outline_88 : decode nc_Mo_outline 88 = .ok (.getfield 44, 3) := by decide +kernel
theorem nd_Mo_outline_91 : decode nc_Mo_outline 91 = .ok (.aload_n 0, 1) := by decide +kernel
theorem nd_Mo_outline_92 : decode nc_Mo_outline 92 = .ok (.getfield 91, 3) := by decide +kernel
theorem nd_Mo_outline_95 : decode nc_Mo_outline 95 = .ok (.iconst 1, 1) := by decide +kernel
theorem nd_Mo_outline_96 : decode nc_Mo_outline 96 = .ok (.isub, 1) := by decide +kernel
theorem nd_Mo_outline_97 : decode nc_Mo_outline 97 = .ok (.iaload, 1) := by decide +kernel
theorem nd_Mo_outline_98 : decode nc_Mo_outline 98 = .ok (.istore 4, 2) := by decide +kernel
theorem nd_Mo_outline_100 : decode nc_Mo_outline 100 = .ok (.aload_n 0, 1) := by decide +kernel
theorem nd_Mo_outline_101 : decode nc_Mo_outline 101 = .ok (.getfield 65, 3) := by decide +kernel
theorem nd_Mo_outline_104 : decode nc_Mo_outline 104 = .ok (.iload 4, 2) := by decide +kernel
theorem nd_Mo_outline_106 : decode nc_Mo_outline 106 = .ok (.aload_n 0, 1) := by decide +kernel
theorem nd_Mo_outline_107 : decode nc_Mo_outline 107 = .ok (.getfield 47, 3) := by decide +kernel
theorem nd_Mo_outline_110 : decode nc_Mo_outline 110 = .ok (.aload_n 0, 1) := by decide +kernel
theorem nd_Mo_outline_111 : decode nc_Mo_outline 111 = .ok (.getfield 91, 3) := by decide +kernel
theorem nd_Mo_outline_114 : decode nc_Mo_outline 114 = .ok (.iconst 1, 1) := by decide +kernel
theorem nd_Mo_outline_115 : decode nc_Mo_outline 115 = .ok (.isub, 1) := by decide +kernel
theorem nd_Mo_outline_116 : decode nc_Mo_outline 116 = .ok (.iaload, 1) := by decide +kernel
theorem nd_Mo_outline_117 : decode nc_Mo_outline 117 = .ok (.aload_n 0, 1) := by decide +kernel
theorem nd_Mo_outline_118 : decode nc_Mo_outline 118 = .ok (.getfield 65, 3) := by decide +kernel
theorem nd_Mo_outline_121 : decode nc_Mo_outline 121 = .ok (.iload 4, 2) := by decide +kernel
theorem nd_Mo_outline_123 : decode nc_Mo_outline 123 = .ok (.iaload, 1) := by decide +kernel
theorem nd_Mo_outline_124 : decode nc_Mo_outline 124 = .ok (.if_icmp .ge 17, 3) := by decide +kernel
theorem nd_Mo_outline_127 : decode nc_Mo_outline 127 = .ok (.aload_n 0, 1) := by decide +kernel
theorem nd_Mo_outline_128 : decode nc_Mo_outline 128 = .ok (.getfield 47, 3) := by decide +kernel
theorem nd_Mo_outline_131 : decode nc_Mo_outline 131 = .ok (.aload_n 0, 1) := by decide +kernel
theorem nd_Mo_outline_132 : decode nc_Mo_outline 132 = .ok (.getfield 91, 3) := by decide +kernel
theorem nd_Mo_outline_135 : decode nc_Mo_outline 135 = .ok (.iconst 1, 1) := by decide +kernel
theorem nd_Mo_outline_136 : decode nc_Mo_outline 136 = .ok (.isub, 1) := by decide +kernel
theorem nd_Mo_outline_137 : decode nc_Mo_outline 137 = .ok (.iaload, 1) := by decide +kernel
theorem nd_Mo_outline_138 : decode nc_Mo_outline 138 = .ok (.goto 10, 3) := by decide +kernel
theorem nd_Mo_outline_141 : decode nc_Mo_outline 141 = .ok (.aload_n 0, 1) := by decide +kernel
theorem nd_Mo_outline_142 : decode nc_Mo_outline 142 = .ok (.getfield 65, 3) := by decide +kernel
theorem nd_Mo_outline_145 : decode nc_Mo_outline 145 = .ok (.iload 4, 2) := by decide +kernel
theorem nd_Mo_outline_147 : decode nc_Mo_outline 147 = .ok (.iaload, 1) := by decide +kernel
theorem nd_Mo_outline_148 : decode nc_Mo_outline 148 = .ok (.iastore, 1) := by decide +kernel
theorem nd_Mo_outline_149 : decode nc_Mo_outline 149 = .ok (.aload_n 0, 1) := by decide +kernel
theorem nd_Mo_outline_150 : decode nc_Mo_outline 150 = .ok (.invokevirtual 118, 3) := by decide +kernel
theorem nd_Mo_outline_153 : decode nc_Mo_outline 153 = .ok (.istore_n 3, 1) := by decide +kernel
theorem nd_Mo_outline_154 : decode nc_Mo_outline 154 = .ok (.goto (-82), 3) := by decide +kernel
theorem nd_Mo_outline_157 : decode nc_Mo_outline 157 = .ok (.sipush 1000, 3) := by decide +kernel
theorem nd_Mo_outline_160 : decode nc_Mo_outline 160 = .ok (.istore 4, 2) := by decide +kernel
theorem nd_Mo_outline_162 : decode nc_Mo_outline 162 = .ok (.iconst 0, 1) := by decide +kernel
theorem nd_Mo_outline_163 : decode nc_Mo_outline 163 = .ok (.istore 5, 2) := by decide +kernel
theorem nd_Mo_outline_165 : decode nc_Mo_outline 165 = .ok (.iconst 0, 1) := by decide +kernel
theorem nd_Mo_outline_166 : decode nc_Mo_outline 166 = .ok (.istore 6, 2) := by decide +kernel
theorem nd_Mo_outline_168 : decode nc_Mo_outline 168 = .ok (.iload 6, 2) := by decide +kernel
theorem nd_Mo_outline_170 : decode nc_Mo_outline 170 = .ok (.sipush 400, 3) := by decide +kernel
theorem nd_Mo_outline_173 : decode nc_Mo_outline 173 = .ok (.if_icmp .gt 56, 3) := by decide +kernel
theorem nd_Mo_outline_176 : decode nc_Mo_outline 176 = .ok (.aload_n 0, 1) := by decide +kernel
theorem nd_Mo_outline_177 : decode nc_Mo_outline 177 = .ok (.getfield 65, 3) := by decide +kernel
theorem nd_Mo_outline_180 : decode nc_Mo_outline 180 = .ok (.iload 6, 2) := by decide +kernel
theorem nd_Mo_outline_182 : decode nc_Mo_outline 182 = .ok (.iaload, 1) := by decide +kernel
theorem nd_Mo_outline_183 : decode nc_Mo_outline 183 = .ok (.iload 4, 2) := by decide +kernel
theorem nd_Mo_outline_185 : decode nc_Mo_outline 185 = .ok (.if_icmp .ge 38, 3) := by decide +kernel
theorem nd_Mo_outline_188 : decode nc_Mo_outline 188 = .ok (.iload 5, 2) := by decide +kernel
theorem nd_Mo_outline_190 : decode nc_Mo_outline 190 = .ok (.iload_n 1, 1) := by decide +kernel
theorem nd_Mo_outline_191 : decode nc_Mo_outline 191 = .ok (.if_icmp .ne 20, 3) := by decide +kernel
theorem nd_Mo_outline_194 : decode nc_Mo_outline 194 = .ok (.iload_n 2, 1) := by decide +kernel
theorem nd_Mo_outline_195 : decode nc_Mo_outline 195 = .ok (.ifCond .ne 8, 3) := by decide +kernel
theorem nd_Mo_outline_198 : decode nc_Mo_outline 198 = .ok (.iload 6, 2) := by decide +kernel
theorem nd_Mo_outline_200 : decode nc_Mo_outline 200 = .ok (.goto 10, 3) := by decide +kernel
theorem nd_Mo_outline_203 : decode nc_Mo_outline 203 = .ok (.aload_n 0, 1) := by decide +kernel
theorem nd_Mo_outline_204 : decode nc_Mo_outline 204 = .ok (.getfield 65, 3) := by decide +kernel
theorem nd_Mo_outline_207 : decode nc_Mo_outline 207 = .ok (.iload 6, 2) := by decide +kernel
theorem nd_Mo_outline_209 : decode nc_Mo_outline 209 = .ok (.iaload, 1) := by decide +kernel
theorem nd_Mo_outline_210 : decode nc_Mo_outline 210 = .ok (.ireturn, 1) := by decide +kernel
theorem nd_Mo_outline_211 : decode nc_Mo_outline 211 = .ok (.iinc 5 1, 3) := by decide +kernel
theorem nd_Mo_outline_214 : decode nc_Mo_outline 214 = .ok (.aload_n 0, 1) := by decide +kernel
theorem nd_Mo_outline_215 : decode nc_Mo_outline 215 = .ok (.getfield 65, 3) := by decide +kernel
theorem nd_Mo_outline_218 : decode nc_Mo_outline 218 = .ok (.iload 6, 2) := by decide +kernel
theorem nd_Mo_outline_220 : decode nc_Mo_outline 220 = .ok (.iaload, 1) := by decide +kernel
theorem nd_Mo_outline_221 : decode nc_Mo_outline 221 = .ok (.istore 4, 2) := by decide +kernel
theorem nd_Mo_outline_223 : decode nc_Mo_outline 223 = .ok (.iinc 6 1, 3) := by decide +kernel
theorem nd_Mo_outline_226 : decode nc_Mo_outline 226 = .ok (.goto (-58), 3) := by decide +kernel
theorem nd_Mo_outline_229 : decode nc_Mo_outline 229 = .ok (.iconst (-1), 1) := by decide +kernel
theorem nd_Mo_outline_230 : decode nc_Mo_outline 230 = .ok (.ireturn, 1) := by decide +kernel
theorem nd_Mo_overlap_0 : decode nc_Mo_overlap 0 = .ok (.iload_n 0, 1) := by decide +kernel
theorem nd_Mo_overlap_1 : decode nc_Mo_overlap 1 = .ok (.iload_n 2, 1) := by decide +kernel
theorem nd_Mo_overlap_2 : decode nc_Mo_overlap 2 = .ok (.if_icmp .le 7, 3) := by decide +kernel
theorem nd_Mo_overlap_5 : decode nc_Mo_overlap 5 = .ok (.iload_n 0, 1) := by decide +kernel
theorem nd_Mo_overlap_6 : decode nc_Mo_overlap 6 = .ok (.goto 4, 3) := by decide +kernel
theorem nd_Mo_overlap_9 : decode nc_Mo_overlap 9 = .ok (.iload_n 2, 1) := by decide +kernel
theorem nd_Mo_overlap_10 : decode nc_Mo_overlap 10 = .ok (.istore 4, 2) := by decide +kernel
theorem nd_Mo_overlap_12 : decode nc_Mo_overlap 12 = .ok (.iload_n 0, 1) := by decide +kernel
theorem nd_Mo_overlap_13 : decode nc_Mo_overlap 13 = .ok (.iload_n 1, 1) := by decide +kernel
theorem nd_Mo_overlap_14 : decode nc_Mo_overlap 14 = .ok (.iadd, 1) := by decide +kernel
theorem nd_Mo_overlap_15 : decode nc_Mo_overlap 15 = .ok (.iload_n 2, 1) := by decide +kernel
theorem nd_Mo_overlap_16 : decode nc_Mo_overlap 16 = .ok (.iload_n 3, 1) := by decide +kernel
theorem nd_Mo_overlap_17 : decode nc_Mo_overlap 17 = .ok (.iadd, 1) := by decide +kernel
theorem nd_Mo_overlap_18 : decode nc_Mo_overlap 18 = .ok (.if_icmp .ge 9, 3) := by decide +kernel
theorem nd_Mo_overlap_21 : decode nc_Mo_overlap 21 = .ok (.iload_n 0, 1) := by decide +kernel
theorem nd_Mo_overlap_22 : decode nc_Mo_overlap 22 = .ok (.iload_n 1, 1) := by decide +kernel
theorem nd_Mo_overlap_23 : decode nc_Mo_overlap 23 = .ok (.iadd, 1) := by decide +kernel
theorem nd_Mo_overlap_24 : decode nc_Mo_overlap 24 = .ok (.goto 6, 3) := by decide +kernel
theorem nd_Mo_overlap_27 : decode nc_Mo_overlap 27 = .ok (.iload_n 2, 1) := by decide +kernel
theorem nd_Mo_overlap_28 : decode nc_Mo_overlap 28 = .ok (.iload_n 3, 1) := by decide +kernel
theorem nd_Mo_overlap_29 : decode nc_Mo_overlap 29 = .ok (.iadd, 1) := by decide +kernel
theorem nd_Mo_overlap_30 : decode nc_Mo_overlap 30 = .ok (.istore 5, 2) := by decide +kernel
theorem nd_Mo_overlap_32 : decode nc_Mo_overlap 32 = .ok (.iload 5, 2) := by decide +kernel
theorem nd_Mo_overlap_34 : decode nc_Mo_overlap 34 = .ok (.iload 4, 2) := by decide +kernel
theorem nd_Mo_overlap_36 : decode nc_Mo_overlap 36 = .ok (.if_icmp .le 11, 3) := by decide +kernel
theorem nd_Mo_overlap_39 : decode nc_Mo_overlap 39 = .ok (.iload 5, 2) := by decide +kernel
theorem nd_Mo_overlap_41 : decode nc_Mo_overlap 41 = .ok (.iload 4, 2) := by decide +kernel
theorem nd_Mo_overlap_43 : decode nc_Mo_overlap 43 = .ok (.isub, 1) := by decide +kernel
theorem nd_Mo_overlap_44 : decode nc_Mo_overlap 44 = .ok (.goto 4, 3) := by decide +kernel
theorem nd_Mo_overlap_47 : decode nc_Mo_overlap 47 = .ok (.iconst 0, 1) := by decide +kernel
theorem nd_Mo_overlap_48 : decode nc_Mo_overlap 48 = .ok (.ireturn, 1) := by decide +kernel
theorem nd_Mo_shared_0 : decode nc_Mo_shared 0 = .ok (.aload_n 0, 1) := by decide +kernel
theorem nd_Mo_shared_1 : decode nc_Mo_shared 1 = .ok (.getfield 50, 3) := by decide +kernel
theorem nd_Mo_shared_4 : decode nc_Mo_shared 4 = .ok (.iload_n 1, 1) := by decide +kernel
theorem nd_Mo_shared_5 : decode nc_Mo_shared 5 = .ok (.iaload, 1) := by decide +kernel
theorem nd_Mo_shared_6 : decode nc_Mo_shared 6 = .ok (.aload_n 0, 1) := by decide +kernel
theorem nd_Mo_shared_7 : decode nc_Mo_shared 7 = .ok (.getfield 44, 3) := by decide +kernel
theorem nd_Mo_shared_10 : decode nc_Mo_shared 10 = .ok (.iload_n 1, 1) := by decide +kernel
theorem nd_Mo_shared_11 : decode nc_Mo_shared 11 = .ok (.iaload, 1) := by decide +kernel
theorem nd_Mo_shared_12 : decode nc_Mo_shared 12 = .ok (.iadd, 1) := by decide +kernel
theorem nd_Mo_shared_13 : decode nc_Mo_shared 13 = .ok (.aload_n 0, 1) := by decide +kernel
theorem nd_Mo_shared_14 : decode nc_Mo_shared 14 = .ok (.getfield 50, 3) := by decide +kernel
theorem nd_Mo_shared_17 : decode nc_Mo_shared 17 = .ok (.iload_n 2, 1) := by decide +kernel
theorem nd_Mo_shared_18 : decode nc_Mo_shared 18 = .ok (.iaload, 1) := by decide +kernel
theorem nd_Mo_shared_19 : decode nc_Mo_shared 19 = .ok (.if_icmp .eq 25, 3) := by decide +kernel
theorem nd_Mo_shared_22 : decode nc_Mo_shared 22 = .ok (.aload_n 0, 1) := by decide +kernel
theorem nd_Mo_shared_23 : decode nc_Mo_shared 23 = .ok (.getfield 50, 3) := by decide +kernel
theorem nd_Mo_shared_26 : decode nc_Mo_shared 26 = .ok (.iload_n 2, 1) := by decide +kernel
theorem nd_Mo_shared_27 : decode nc_Mo_shared 27 = .ok (.iaload, 1) := by decide +kernel
theorem nd_Mo_shared_28 : decode nc_Mo_shared 28 = .ok (.aload_n 0, 1) := by decide +kernel
theorem nd_Mo_shared_29 : decode nc_Mo_shared 29 = .ok (.getfield 44, 3) := by decide +kernel
theorem nd_Mo_shared_32 : decode nc_Mo_shared 32 = .ok (.iload_n 2, 1) := by decide +kernel
theorem nd_Mo_shared_33 : decode nc_Mo_shared 33 = .ok (.iaload, 1) := by decide +kernel
theorem nd_Mo_shared_34 : decode nc_Mo_shared 34 = .ok (.iadd, 1) := by decide +kernel
theorem nd_Mo_shared_35 : decode nc_Mo_shared 35 = .ok (.aload_n 0, 1) := by decide +kernel
theorem nd_Mo_shared_36 : decode nc_Mo_shared 36 = .ok (.getfield 50, 3) := by decide +kernel
theorem nd_Mo_shared_39 : decode nc_Mo_shared 39 = .ok (.iload_n 1, 1) := by decide +kernel
theorem nd_Mo_shared_40 : decode nc_Mo_shared 40 = .ok (.iaload, 1) := by decide +kernel
theorem nd_Mo_shared_41 : decode nc_Mo_shared 41 = .ok (.if_icmp .ne 7, 3) := by decide +kernel
theorem nd_Mo_shared_44 : decode nc_Mo_shared 44 = .ok (.iconst 1, 1) := by decide +kernel
theorem nd_Mo_shared_45 : decode nc_Mo_shared 45 = .ok (.goto 4, 3) := by decide +kernel
theorem nd_Mo_shared_48 : decode nc_Mo_shared 48 = .ok (.iconst 0, 1) := by decide +kernel
theorem nd_Mo_shared_49 : decode nc_Mo_shared 49 = .ok (.istore_n 3, 1) := by decide +kernel
