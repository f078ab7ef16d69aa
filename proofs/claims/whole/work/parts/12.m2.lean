theorem dX11_told_0 : decode cX11_told 0 = .ok (.aload_n 0, 1) := by decide +kernel
theorem dX11_told_1 : decode cX11_told 1 = .ok (.iload_n 2, 1) := by decide +kernel
theorem dX11_told_2 : decode cX11_told 2 = .ok (.putfield 140, 3) := by decide +kernel
theorem dX11_told_5 : decode cX11_told 5 = .ok (.aload_n 0, 1) := by decide +kernel
theorem dX11_told_6 : decode cX11_told 6 = .ok (.iload_n 3, 1) := by decide +kernel
theorem dX11_told_7 : decode cX11_told 7 = .ok (.putfield 45, 3) := by decide +kernel
theorem dX11_told_10 : decode cX11_told 10 = .ok (.aload_n 0, 1) := by decide +kernel
theorem dX11_told_11 : decode cX11_told 11 = .ok (.getfield 186, 3) := by decide +kernel
theorem dX11_told_14 : decode cX11_told 14 = .ok (.ifCond .eq 10, 3) := by decide +kernel
theorem dX11_told_17 : decode cX11_told 17 = .ok (.aload_n 0, 1) := by decide +kernel
theorem dX11_told_18 : decode cX11_told 18 = .ok (.iload_n 1, 1) := by decide +kernel
theorem dX11_told_19 : decode cX11_told 19 = .ok (.putfield 133, 3) := by decide +kernel
theorem dX11_told_22 : decode cX11_told 22 = .ok (.iconst (-1), 1) := by decide +kernel
theorem dX11_told_23 : decode cX11_told 23 = .ok (.ireturn, 1) := by decide +kernel
theorem dX11_told_24 : decode cX11_told 24 = .ok (.iload_n 1, 1) := by decide +kernel
theorem dX11_told_25 : decode cX11_told 25 = .ok (.ireturn, 1) := by decide +kernel
theorem dX11_toldValue_0 : decode cX11_toldValue 0 = .ok (.aload_n 0, 1) := by decide +kernel
theorem dX11_toldValue_1 : decode cX11_toldValue 1 = .ok (.getfield 133, 3) := by decide +kernel
theorem dX11_toldValue_4 : decode cX11_toldValue 4 = .ok (.istore 5, 2) := by decide +kernel
theorem dX11_toldValue_6 : decode cX11_toldValue 6 = .ok (.aload_n 0, 1) := by decide +kernel
theorem dX11_toldValue_7 : decode cX11_toldValue 7 = .ok (.iconst 0, 1) := by decide +kernel
theorem dX11_toldValue_8 : decode cX11_toldValue 8 = .ok (.putfield 186, 3) := by decide +kernel
theorem dX11_toldValue_11 : decode cX11_toldValue 11 = .ok (.aload_n 0, 1) := by decide +kernel
theorem dX11_toldValue_12 : decode cX11_toldValue 12 = .ok (.iload_n 1, 1) := by decide +kernel
theorem dX11_toldValue_13 : decode cX11_toldValue 13 = .ok (.iload_n 2, 1) := by decide +kernel
theorem dX11_toldValue_14 : decode cX11_toldValue 14 = .ok (.iload 5, 2) := by decide +kernel
theorem dX11_toldValue_16 : decode cX11_toldValue 16 = .ok (.invokevirtual 197, 3) := by decide +kernel
theorem dX11_toldValue_19 : decode cX11_toldValue 19 = .ok (.aload_n 0, 1) := by decide +kernel
theorem dX11_toldValue_20 : decode cX11_toldValue 20 = .ok (.iload 5, 2) := by decide +kernel
theorem dX11_toldValue_22 : decode cX11_toldValue 22 = .ok (.iload_n 3, 1) := by decide +kernel
theorem dX11_toldValue_23 : decode cX11_toldValue 23 = .ok (.iload 4, 2) := by decide +kernel
theorem dX11_toldValue_25 : decode cX11_toldValue 25 = .ok (.invokevirtual 201, 3) := by decide +kernel
theorem dX11_toldValue_28 : decode cX11_toldValue 28 = .ok (.ireturn, 1) := by decide +kernel
theorem dX11_typeBy_0 : decode cX11_typeBy 0 = .ok (.aload_n 0, 1) := by decide +kernel
theorem dX11_typeBy_1 : decode cX11_typeBy 1 = .ok (.getfield 140, 3) := by decide +kernel
theorem dX11_typeBy_4 : decode cX11_typeBy 4 = .ok (.istore 5, 2) := by decide +kernel
theorem dX11_typeBy_6 : decode cX11_typeBy 6 = .ok (.aload_n 0, 1) := by decide +kernel
theorem dX11_typeBy_7 : decode cX11_typeBy 7 = .ok (.getfield 45, 3) := by decide +kernel
theorem dX11_typeBy_10 : decode cX11_typeBy 10 = .ok (.istore 6, 2) := by decide +kernel
theorem dX11_typeBy_12 : decode cX11_typeBy 12 = .ok (.aload_n 0, 1) := by decide +kernel
theorem dX11_typeBy_13 : decode cX11_typeBy 13 = .ok (.getfield 133, 3) := by decide +kernel
theorem dX11_typeBy_16 : decode cX11_typeBy 16 = .ok (.istore 7, 2) := by decide +kernel
theorem dX11_typeBy_18 : decode cX11_typeBy 18 = .ok (.aload_n 0, 1) := by decide +kernel
theorem dX11_typeBy_19 : decode cX11_typeBy 19 = .ok (.iload_n 3, 1) := by decide +kernel
theorem dX11_typeBy_20 : decode cX11_typeBy 20 = .ok (.iload_n 2, 1) := by decide +kernel
theorem dX11_typeBy_21 : decode cX11_typeBy 21 = .ok (.bipush 10, 2) := by decide +kernel
theorem dX11_typeBy_23 : decode cX11_typeBy 23 = .ok (.if_icmp .ge 7, 3) := by decide +kernel
theorem dX11_typeBy_26 : decode cX11_typeBy 26 = .ok (.iload_n 2, 1) := by decide +kernel
theorem dX11_typeBy_27 : decode cX11_typeBy 27 = .ok (.goto 4, 3) := by decide +kernel
theorem dX11_typeBy_30 : decode cX11_typeBy 30 = .ok (.iconst 0, 1) := by decide +kernel
theorem dX11_typeBy_31 : decode cX11_typeBy 31 = .ok (.aload_n 0, 1) := by decide +kernel
theorem dX11_typeBy_32 : decode cX11_typeBy 32 = .ok (.getfield 42, 3) := by decide +kernel
theorem dX11_typeBy_35 : decode cX11_typeBy 35 = .ok (.bipush 10, 2) := by decide +kernel
theorem dX11_typeBy_37 : decode cX11_typeBy 37 = .ok (.iload_n 3, 1) := by decide +kernel
theorem dX11_typeBy_38 : decode cX11_typeBy 38 = .ok (.imul, 1) := by decide +kernel
theorem dX11_typeBy_39 : decode cX11_typeBy 39 = .ok (.iload_n 2, 1) := by decide +kernel
theorem dX11_typeBy_40 : decode cX11_typeBy 40 = .ok (.bipush 10, 2) := by decide +kernel
theorem dX11_typeBy_42 : decode cX11_typeBy 42 = .ok (.if_icmp .ge 7, 3) := by decide +kernel
theorem dX11_typeBy_45 : decode cX11_typeBy 45 = .ok (.iload_n 2, 1) := by decide +kernel
theorem dX11_typeBy_46 : decode cX11_typeBy 46 = .ok (.goto 4, 3) := by decide +kernel
theorem dX11_typeBy_49 : decode cX11_typeBy 49 = .ok (.iconst 0, 1) := by decide +kernel
theorem dX11_typeBy_50 : decode cX11_typeBy 50 = .ok (.iadd, 1) := by decide +kernel
theorem dX11_typeBy_51 : decode cX11_typeBy 51 = .ok (.iaload, 1) := by decide +kernel
theorem dX11_typeBy_52 : decode cX11_typeBy 52 = .ok (.invokevirtual 177, 3) := by decide +kernel
theorem dX11_typeBy_55 : decode cX11_typeBy 55 = .ok (.istore 8, 2) := by decide +kernel
theorem dX11_typeBy_57 : decode cX11_typeBy 57 = .ok (.iload_n 2, 1) := by decide +kernel
theorem dX11_typeBy_58 : decode cX11_typeBy 58 = .ok (.istore 9, 2) := by decide +kernel
theorem dX11_typeBy_60 : decode cX11_typeBy 60 = .ok (.iload 9, 2) := by decide +kernel
theorem dX11_typeBy_62 : decode cX11_typeBy 62 = .ok (.bipush 10, 2) := by decide +kernel
theorem dX11_typeBy_64 : decode cX11_typeBy 64 = .ok (.if_icmp .ge 29, 3) := by decide +kernel
theorem dX11_typeBy_67 : decode cX11_typeBy 67 = .ok (.aload_n 0, 1) := by decide +kernel
theorem dX11_typeBy_68 : decode cX11_typeBy 68 = .ok (.getfield 42, 3) := by decide +kernel
theorem dX11_typeBy_71 : decode cX11_typeBy 71 = .ok (.bipush 10, 2) := by decide +kernel
theorem dX11_typeBy_73 : decode cX11_typeBy 73 = .ok (.iload 8, 2) := by decide +kernel
theorem dX11_typeBy_75 : decode cX11_typeBy 75 = .ok (.imul, 1) := by decide +kernel
theorem dX11_typeBy_76 : decode cX11_typeBy 76 = .ok (.iload 9, 2) := by decide +kernel
theorem dX11_typeBy_78 : decode cX11_typeBy 78 = .ok (.iadd, 1) := by decide +kernel
theorem dX11_typeBy_79 : decode cX11_typeBy 79 = .ok (.iload 4, 2) := by decide +kernel
theorem dX11_typeBy_81 : decode cX11_typeBy 81 = .ok (.iload 9, 2) := by decide +kernel
theorem dX11_typeBy_83 : decode cX11_typeBy 83 = .ok (.iadd, 1) := by decide +kernel
theorem dX11_typeBy_84 : decode cX11_typeBy 84 = .ok (.iload_n 2, 1) := by decide +kernel
theorem dX11_typeBy_85 : decode cX11_typeBy 85 = .ok (.isub, 1) := by decide +kernel
theorem dX11_typeBy_86 : decode cX11_typeBy 86 = .ok (.iastore, 1) := by decide +kernel
theorem dX11_typeBy_87 : decode cX11_typeBy 87 = .ok (.iinc 9 1, 3) := by decide +kernel
theorem dX11_typeBy_90 : decode cX11_typeBy 90 = .ok (.goto (-30), 3) := by decide +kernel
theorem dX11_typeBy_93 : decode cX11_typeBy 93 = .ok (.aload_n 0, 1) := by decide +kernel
theorem dX11_typeBy_94 : decode cX11_typeBy 94 = .ok (.iconst 0, 1) := by decide +kernel
theorem dX11_typeBy_95 : decode cX11_typeBy 95 = .ok (.putfield 186, 3) := by decide +kernel
theorem dX11_typeBy_98 : decode cX11_typeBy 98 = .ok (.iload_n 1, 1) := by decide +kernel
theorem dX11_typeBy_99 : decode cX11_typeBy 99 = .ok (.istore 9, 2) := by decide +kernel
theorem dX11_typeBy_101 : decode cX11_typeBy 101 = .ok (.iconst 1, 1) := by decide +kernel
theorem dX11_typeBy_102 : decode cX11_typeBy 102 = .ok (.istore 10, 2) := by decide +kernel
theorem dX11_typeBy_104 : decode cX11_typeBy 104 = .ok (.aload_n 0, 1) := by decide +kernel
theorem dX11_typeBy_105 : decode cX11_typeBy 105 = .ok (.getfield 67, 3) := by decide +kernel
theorem dX11_typeBy_108 : decode cX11_typeBy 108 = .ok (.iconst 0, 1) := by decide +kernel
theorem dX11_typeBy_109 : decode cX11_typeBy 109 = .ok (.iconst 0, 1) := by decide +kernel
theorem dX11_typeBy_110 : decode cX11_typeBy 110 = .ok (.iastore, 1) := by decide +kernel
theorem dX11_typeBy_111 : decode cX11_typeBy 111 = .ok (.iload 10, 2) := by decide +kernel
theorem dX11_typeBy_113 : decode cX11_typeBy 113 = .ok (.ifCond .le 167, 3) := by decide +kernel
theorem dX11_typeBy_116 : decode cX11_typeBy 116 = .ok (.aload_n 0, 1) := by decide +kernel
theorem dX11_typeBy_117 : decode cX11_typeBy 117 = .ok (.getfield 186, 3) := by decide +kernel
theorem dX11_typeBy_120 : decode cX11_typeBy 120 = .ok (.ifCond .ne 160, 3) := by decide +kernel
theorem dX11_typeBy_123 : decode cX11_typeBy 123 = .ok (.iinc 10 (-1), 3) := by decide +kernel
theorem dX11_typeBy_126 : decode cX11_typeBy 126 = .ok (.aload_n 0, 1) := by decide +kernel
theorem dX11_typeBy_127 : decode cX11_typeBy 127 = .ok (.getfield 67, 3) := by decide +kernel
theorem dX11_typeBy_130 : decode cX11_typeBy 130 = .ok (.iload 10, 2) := by decide +kernel
theorem dX11_typeBy_132 : decode cX11_typeBy 132 = .ok (.iaload, 1) := by decide +kernel
theorem dX11_typeBy_133 : decode cX11_typeBy 133 = .ok (.istore 11, 2) := by decide +kernel
theorem dX11_typeBy_135 : decode cX11_typeBy 135 = .ok (.aload_n 0, 1) := by decide +kernel
theorem dX11_typeBy_136 : decode cX11_typeBy 136 = .ok (.getfield 7, 3) := by decide +kernel
theorem dX11_typeBy_139 : decode cX11_typeBy 139 = .ok (.iload 9, 2) := by decide +kernel
theorem dX11_typeBy_141 : decode cX11_typeBy 141 = .ok (.iaload, 1) := by decide +kernel
theorem dX11_typeBy_142 : decode cX11_typeBy 142 = .ok (.istore 12, 2) := by decide +kernel
theorem dX11_typeBy_144 : decode cX11_typeBy 144 = .ok (.aload_n 0, 1) := by decide +kernel
theorem dX11_typeBy_145 : decode cX11_typeBy 145 = .ok (.iload 12, 2) := by decide +kernel
theorem dX11_typeBy_147 : decode cX11_typeBy 147 = .ok (.invokevirtual 136, 3) := by decide +kernel
theorem dX11_typeBy_150 : decode cX11_typeBy 150 = .ok (.aload_n 0, 1) := by decide +kernel
theorem dX11_typeBy_151 : decode cX11_typeBy 151 = .ok (.iload 7, 2) := by decide +kernel
theorem dX11_typeBy_153 : decode cX11_typeBy 153 = .ok (.invokevirtual 194, 3) := by decide +kernel
theorem dX11_typeBy_156 : decode cX11_typeBy 156 = .ok (.iinc 9 1, 3) := by decide +kernel
theorem dX11_typeBy_159 : decode cX11_typeBy 159 = .ok (.iload 12, 2) := by decide +kernel
theorem dX11_typeBy_161 : decode cX11_typeBy 161 = .ok (.bipush 83, 2) := by decide +kernel
theorem dX11_typeBy_163 : decode cX11_typeBy 163 = .ok (.if_icmp .eq 10, 3) := by decide +kernel
theorem dX11_typeBy_166 : decode cX11_typeBy 166 = .ok (.iload 12, 2) := by decide +kernel
theorem dX11_typeBy_168 : decode cX11_typeBy 168 = .ok (.bipush 80, 2) := by decide +kernel
theorem dX11_typeBy_170 : decode cX11_typeBy 170 = .ok (.if_icmp .ne 57, 3) := by decide +kernel
theorem dX11_typeBy_173 : decode cX11_typeBy 173 = .ok (.aload_n 0, 1) := by decide +kernel
theorem dX11_typeBy_174 : decode cX11_typeBy 174 = .ok (.aload_n 0, 1) := by decide +kernel
theorem dX11_typeBy_175 : decode cX11_typeBy 175 = .ok (.getfield 186, 3) := by decide +kernel
theorem dX11_typeBy_178 : decode cX11_typeBy 178 = .ok (.ifCond .ne 13, 3) := by decide +kernel
theorem dX11_typeBy_181 : decode cX11_typeBy 181 = .ok (.iload 4, 2) := by decide +kernel
theorem dX11_typeBy_183 : decode cX11_typeBy 183 = .ok (.iload 11, 2) := by decide +kernel
theorem dX11_typeBy_185 : decode cX11_typeBy 185 = .ok (.iadd, 1) := by decide +kernel
theorem dX11_typeBy_186 : decode cX11_typeBy 186 = .ok (.bipush 10, 2) := by decide +kernel
theorem dX11_typeBy_188 : decode cX11_typeBy 188 = .ok (.if_icmp .lt 7, 3) := by decide +kernel
theorem dX11_typeBy_191 : decode cX11_typeBy 191 = .ok (.iconst 1, 1) := by decide +kernel
theorem dX11_typeBy_192 : decode cX11_typeBy 192 = .ok (.goto 4, 3) := by decide +kernel
theorem dX11_typeBy_195 : decode cX11_typeBy 195 = .ok (.iconst 0, 1) := by decide +kernel
theorem dX11_typeBy_196 : decode cX11_typeBy 196 = .ok (.putfield 186, 3) := by decide +kernel
theorem dX11_typeBy_199 : decode cX11_typeBy 199 = .ok (.aload_n 0, 1) := by decide +kernel
theorem dX11_typeBy_200 : decode cX11_typeBy 200 = .ok (.getfield 67, 3) := by decide +kernel
theorem dX11_typeBy_203 : decode cX11_typeBy 203 = .ok (.iload 10, 2) := by decide +kernel
theorem dX11_typeBy_205 : decode cX11_typeBy 205 = .ok (.iload 11, 2) := by decide +kernel
theorem dX11_typeBy_207 : decode cX11_typeBy 207 = .ok (.iconst 1, 1) := by decide +kernel
theorem dX11_typeBy_208 : decode cX11_typeBy 208 = .ok (.iadd, 1) := by decide +kernel
theorem dX11_typeBy_209 : decode cX11_typeBy 209 = .ok (.iastore, 1) := by decide +kernel
theorem dX11_typeBy_210 : decode cX11_typeBy 210 = .ok (.aload_n 0, 1) := by decide +kernel
theorem dX11_typeBy_211 : decode cX11_typeBy 211 = .ok (.getfield 67, 3) := by decide +kernel
theorem dX11_typeBy_214 : decode cX11_typeBy 214 = .ok (.iload 10, 2) := by decide +kernel
theorem dX11_typeBy_216 : decode cX11_typeBy 216 = .ok (.iconst 1, 1) := by decide +kernel
theorem dX11_typeBy_217 : decode cX11_typeBy 217 = .ok (.iadd, 1) := by decide +kernel
theorem dX11_typeBy_218 : decode cX11_typeBy 218 = .ok (.iload 11, 2) := by decide +kernel
theorem dX11_typeBy_220 : decode cX11_typeBy 220 = .ok (.iastore, 1) := by decide +kernel
theorem dX11_typeBy_221 : decode cX11_typeBy 221 = .ok (.iinc 10 2, 3) := by decide +kernel
theorem dX11_typeBy_224 : decode cX11_typeBy 224 = .ok (.goto 53, 3) := by decide +kernel
theorem dX11_typeBy_227 : decode cX11_typeBy 227 = .ok (.aload_n 0, 1) := by decide +kernel
theorem dX11_typeBy_228 : decode cX11_typeBy 228 = .ok (.iload 12, 2) := by decide +kernel
theorem dX11_typeBy_230 : decode cX11_typeBy 230 = .ok (.invokevirtual 123, 3) := by decide +kernel
theorem dX11_typeBy_233 : decode cX11_typeBy 233 = .ok (.iconst 1, 1) := by decide +kernel
theorem dX11_typeBy_234 : decode cX11_typeBy 234 = .ok (.if_icmp .ne 43, 3) := by decide +kernel
theorem dX11_typeBy_237 : decode cX11_typeBy 237 = .ok (.aload_n 0, 1) := by decide +kernel
theorem dX11_typeBy_238 : decode cX11_typeBy 238 = .ok (.getfield 186, 3) := by decide +kernel
theorem dX11_typeBy_241 : decode cX11_typeBy 241 = .ok (.ifCond .ne 36, 3) := by decide +kernel
theorem dX11_typeBy_244 : decode cX11_typeBy 244 = .ok (.aload_n 0, 1) := by decide +kernel
theorem dX11_typeBy_245 : decode cX11_typeBy 245 = .ok (.iload 9, 2) := by decide +kernel
theorem dX11_typeBy_247 : decode cX11_typeBy 247 = .ok (.iload_n 2, 1) := by decide +kernel
theorem dX11_typeBy_248 : decode cX11_typeBy 248 = .ok (.iload 11, 2) := by decide +kernel
theorem dX11_typeBy_250 : decode cX11_typeBy 250 = .ok (.iadd, 1) := by decide +kernel
theorem dX11_typeBy_251 : decode cX11_typeBy 251 = .ok (.iload 8, 2) := by decide +kernel
theorem dX11_typeBy_253 : decode cX11_typeBy 253 = .ok (.invokevirtual 204, 3) := by decide +kernel
theorem dX11_typeBy_256 : decode cX11_typeBy 256 = .ok (.istore 13, 2) := by decide +kernel
theorem dX11_typeBy_258 : decode cX11_typeBy 258 = .ok (.aload_n 0, 1) := by decide +kernel
theorem dX11_typeBy_259 : decode cX11_typeBy 259 = .ok (.getfield 171, 3) := by decide +kernel
theorem dX11_typeBy_262 : decode cX11_typeBy 262 = .ok (.istore 9, 2) := by decide +kernel
theorem dX11_typeBy_264 : decode cX11_typeBy 264 = .ok (.aload_n 0, 1) := by decide +kernel
theorem dX11_typeBy_265 : decode cX11_typeBy 265 = .ok (.iload 13, 2) := by decide +kernel
theorem dX11_typeBy_267 : decode cX11_typeBy 267 = .ok (.iload 4, 2) := by decide +kernel
theorem dX11_typeBy_269 : decode cX11_typeBy 269 = .ok (.iload 11, 2) := by decide +kernel
theorem dX11_typeBy_271 : decode cX11_typeBy 271 = .ok (.iadd, 1) := by decide +kernel
theorem dX11_typeBy_272 : decode cX11_typeBy 272 = .ok (.iload 7, 2) := by decide +kernel
theorem dX11_typeBy_274 : decode cX11_typeBy 274 = .ok (.invokevirtual 197, 3) := by decide +kernel
theorem dX11_typeBy_277 : decode cX11_typeBy 277 = .ok (.goto (-166), 3) := by decide +kernel
theorem dX11_typeBy_280 : decode cX11_typeBy 280 = .ok (.aload_n 0, 1) := by decide +kernel
theorem dX11_typeBy_281 : decode cX11_typeBy 281 = .ok (.iload 7, 2) := by decide +kernel
theorem dX11_typeBy_283 : decode cX11_typeBy 283 = .ok (.iload 5, 2) := by decide +kernel
theorem dX11_typeBy_285 : decode cX11_typeBy 285 = .ok (.iload 6, 2) := by decide +kernel
theorem dX11_typeBy_287 : decode cX11_typeBy 287 = .ok (.invokevirtual 201, 3) := by decide +kernel
theorem dX11_typeBy_290 : decode cX11_typeBy 290 = .ok (.ireturn, 1) := by decide +kernel
theorem dX11_spread_0 : decode cX11_spread 0 = .ok (.iload_n 2, 1) := by decide +kernel
theorem dX11_spread_1 : decode cX11_spread 1 = .ok (.istore_n 3, 1) := by decide +kernel
theorem dX11_spread_2 : decode cX11_spread 2 = .ok (.iload_n 1, 1) := by decide +kernel
theorem dX11_spread_3 : decode cX11_spread 3 = .ok (.istore 4, 2) := by decide +kernel
theorem dX11_spread_5 : decode cX11_spread 5 = .ok (.iconst 0, 1) := by decide +kernel
theorem dX11_spread_6 : decode cX11_spread 6 = .ok (.istore 5, 2) := by decide +kernel
theorem dX11_spread_8 : decode cX11_spread 8 = .ok (.aload_n 0, 1) := by decide +kernel
theorem dX11_spread_9 : decode cX11_spread 9 = .ok (.getfield 7, 3) := by decide +kernel
theorem dX11_spread_12 : decode cX11_spread 12 = .ok (.iload_n 3, 1) := by decide +kernel
theorem dX11_spread_13 : decode cX11_spread 13 = .ok (.iaload, 1) := by decide +kernel
theorem dX11_spread_14 : decode cX11_spread 14 = .ok (.istore 6, 2) := by decide +kernel
theorem dX11_spread_16 : decode cX11_spread 16 = .ok (.iload 6, 2) := by decide +kernel
theorem dX11_spread_18 : decode cX11_spread 18 = .ok (.bipush 83, 2) := by decide +kernel
theorem dX11_spread_20 : decode cX11_spread 20 = .ok (.if_icmp .ne 48, 3) := by decide +kernel
theorem dX11_spread_23 : decode cX11_spread 23 = .ok (.aload_n 0, 1) := by decide +kernel
theorem dX11_spread_24 : decode cX11_spread 24 = .ok (.getfield 70, 3) := by decide +kernel
theorem dX11_spread_27 : decode cX11_spread 27 = .ok (.iload 5, 2) := by decide +kernel
theorem dX11_spread_29 : decode cX11_spread 29 = .ok (.aload_n 0, 1) := by decide +kernel
theorem dX11_spread_30 : decode cX11_spread 30 = .ok (.iconst 4, 1) := by decide +kernel
theorem dX11_spread_31 : decode cX11_spread 31 = .ok (.iload 4, 2) := by decide +kernel
theorem dX11_spread_33 : decode cX11_spread 33 = .ok (.iconst 0, 1) := by decide +kernel
theorem dX11_spread_34 : decode cX11_spread 34 = .ok (.iconst 0, 1) := by decide +kernel
theorem dX11_spread_35 : decode cX11_spread 35 = .ok (.invokevirtual 115, 3) := by decide +kernel
theorem dX11_spread_38 : decode cX11_spread 38 = .ok (.iastore, 1) := by decide +kernel
theorem dX11_spread_39 : decode cX11_spread 39 = .ok (.aload_n 0, 1) := by decide +kernel
theorem dX11_spread_40 : decode cX11_spread 40 = .ok (.getfield 73, 3) := by decide +kernel
theorem dX11_spread_43 : decode cX11_spread 43 = .ok (.iload 5, 2) := by decide +kernel
theorem dX11_spread_45 : decode cX11_spread 45 = .ok (.bipush (-9), 2) := by decide +kernel
theorem dX11_spread_47 : decode cX11_spread 47 = .ok (.iastore, 1) := by decide +kernel
theorem dX11_spread_48 : decode cX11_spread 48 = .ok (.iinc 5 1, 3) := by decide +kernel
theorem dX11_spread_51 : decode cX11_spread 51 = .ok (.aload_n 0, 1) := by decide +kernel
theorem dX11_spread_52 : decode cX11_spread 52 = .ok (.iconst 3, 1) := by decide +kernel
theorem dX11_spread_53 : decode cX11_spread 53 = .ok (.iload 4, 2) := by decide +kernel
theorem dX11_spread_55 : decode cX11_spread 55 = .ok (.iconst 0, 1) := by decide +kernel
theorem dX11_spread_56 : decode cX11_spread 56 = .ok (.iconst 0, 1) := by decide +kernel
theorem dX11_spread_57 : decode cX11_spread 57 = .ok (.invokevirtual 115, 3) := by decide +kernel
theorem dX11_spread_60 : decode cX11_spread 60 = .ok (.istore 4, 2) := by decide +kernel
theorem dX11_spread_62 : decode cX11_spread 62 = .ok (.iinc 3 1, 3) := by decide +kernel
theorem dX11_spread_65 : decode cX11_spread 65 = .ok (.goto (-57), 3) := by decide +kernel
theorem dX11_spread_68 : decode cX11_spread 68 = .ok (.iload 6, 2) := by decide +kernel
theorem dX11_spread_70 : decode cX11_spread 70 = .ok (.bipush 49, 2) := by decide +kernel
theorem dX11_spread_72 : decode cX11_spread 72 = .ok (.if_icmp .ne 15, 3) := by decide +kernel
theorem dX11_spread_75 : decode cX11_spread 75 = .ok (.aload_n 0, 1) := by decide +kernel
theorem dX11_spread_76 : decode cX11_spread 76 = .ok (.bipush 6, 2) := by decide +kernel
theorem dX11_spread_78 : decode cX11_spread 78 = .ok (.iconst 0, 1) := by decide +kernel
theorem dX11_spread_79 : decode cX11_spread 79 = .ok (.iconst 0, 1) := by decide +kernel
theorem dX11_spread_80 : decode cX11_spread 80 = .ok (.iconst 0, 1) := by decide +kernel
theorem dX11_spread_81 : decode cX11_spread 81 = .ok (.invokevirtual 115, 3) := by decide +kernel
theorem dX11_spread_84 : decode cX11_spread 84 = .ok (.goto 5, 3) := by decide +kernel
theorem dX11_spread_87 : decode cX11_spread 87 = .ok (.iload 4, 2) := by decide +kernel
theorem dX11_spread_89 : decode cX11_spread 89 = .ok (.istore 7, 2) := by decide +kernel
theorem dX11_spread_91 : decode cX11_spread 91 = .ok (.aload_n 0, 1) := by decide +kernel
theorem dX11_spread_92 : decode cX11_spread 92 = .ok (.iload_n 3, 1) := by decide +kernel
theorem dX11_spread_93 : decode cX11_spread 93 = .ok (.invokevirtual 127, 3) := by decide +kernel
theorem dX11_spread_96 : decode cX11_spread 96 = .ok (.istore_n 3, 1) := by decide +kernel
theorem dX11_spread_97 : decode cX11_spread 97 = .ok (.iconst 1, 1) := by decide +kernel
theorem dX11_spread_98 : decode cX11_spread 98 = .ok (.istore 8, 2) := by decide +kernel
theorem dX11_spread_100 : decode cX11_spread 100 = .ok (.iload 5, 2) := by decide +kernel
theorem dX11_spread_102 : decode cX11_spread 102 = .ok (.ifCond .le 73, 3) := by decide +kernel
theorem dX11_spread_105 : decode cX11_spread 105 = .ok (.iload 8, 2) := by decide +kernel
theorem dX11_spread_107 : decode cX11_spread 107 = .ok (.ifCond .eq 68, 3) := by decide +kernel
theorem dX11_spread_110 : decode cX11_spread 110 = .ok (.aload_n 0, 1) := by decide +kernel
theorem dX11_spread_111 : decode cX11_spread 111 = .ok (.getfield 73, 3) := by decide +kernel
theorem dX11_spread_114 : decode cX11_spread 114 = .ok (.iload 5, 2) := by decide +kernel
theorem dX11_spread_116 : decode cX11_spread 116 = .ok (.iconst 1, 1) := by decide +kernel
theorem dX11_spread_117 : decode cX11_spread 117 = .ok (.isub, 1) := by decide +kernel
theorem dX11_spread_118 : decode cX11_spread 118 = .ok (.iaload, 1) := by decide +kernel
theorem dX11_spread_119 : decode cX11_spread 119 = .ok (.ifCond .ge 31, 3) := by decide +kernel
theorem dX11_spread_122 : decode cX11_spread 122 = .ok (.aload_n 0, 1) := by decide +kernel
theorem dX11_spread_123 : decode cX11_spread 123 = .ok (.getfield 73, 3) := by decide +kernel
theorem dX11_spread_126 : decode cX11_spread 126 = .ok (.iload 5, 2) := by decide +kernel
theorem dX11_spread_128 : decode cX11_spread 128 = .ok (.iconst 1, 1) := by decide +kernel
theorem dX11_spread_129 : decode cX11_spread 129 = .ok (.isub, 1) := by decide +kernel
theorem dX11_spread_130 : decode cX11_spread 130 = .ok (.iload 7, 2) := by decide +kernel
theorem dX11_spread_132 : decode cX11_spread 132 = .ok (.iastore, 1) := by decide +kernel
theorem dX11_spread_133 : decode cX11_spread 133 = .ok (.aload_n 0, 1) := by decide +kernel
theorem dX11_spread_134 : decode cX11_spread 134 = .ok (.getfield 70, 3) := by decide +kernel
theorem dX11_spread_137 : decode cX11_spread 137 = .ok (.iload 5, 2) := by decide +kernel
theorem dX11_spread_139 : decode cX11_spread 139 = .ok (.iconst 1, 1) := by decide +kernel
theorem dX11_spread_140 : decode cX11_spread 140 = .ok (.isub, 1) := by decide +kernel
theorem dX11_spread_141 : decode cX11_spread 141 = .ok (.iaload, 1) := by decide +kernel
theorem dX11_spread_142 : decode cX11_spread 142 = .ok (.istore 4, 2) := by decide +kernel
theorem dX11_spread_144 : decode cX11_spread 144 = .ok (.iconst 0, 1) := by decide +kernel
theorem dX11_spread_145 : decode cX11_spread 145 = .ok (.istore 8, 2) := by decide +kernel
theorem dX11_spread_147 : decode cX11_spread 147 = .ok (.goto (-47), 3) := by decide +kernel
theorem dX11_spread_150 : decode cX11_spread 150 = .ok (.aload_n 0, 1) := by decide +kernel
theorem dX11_spread_151 : decode cX11_spread 151 = .ok (.iconst 5, 1) := by decide +kernel
theorem dX11_spread_152 : decode cX11_spread 152 = .ok (.aload_n 0, 1) := by decide +kernel
theorem dX11_spread_153 : decode cX11_spread 153 = .ok (.getfield 73, 3) := by decide +kernel
theorem dX11_spread_156 : decode cX11_spread 156 = .ok (.iload 5, 2) := by decide +kernel
theorem dX11_spread_158 : decode cX11_spread 158 = .ok (.iconst 1, 1) := by decide +kernel
theorem dX11_spread_159 : decode cX11_spread 159 = .ok (.isub, 1) := by decide +kernel
theorem dX11_spread_160 : decode cX11_spread 160 = .ok (.iaload, 1) := by decide +kernel
theorem dX11_spread_161 : decode cX11_spread 161 = .ok (.iload 7, 2) := by decide +kernel
theorem dX11_spread_163 : decode cX11_spread 163 = .ok (.iconst 0, 1) := by decide +kernel
theorem dX11_spread_164 : decode cX11_spread 164 = .ok (.invokevirtual 115, 3) := by decide +kernel
theorem dX11_spread_167 : decode cX11_spread 167 = .ok (.istore 7, 2) := by decide +kernel
theorem dX11_spread_169 : decode cX11_spread 169 = .ok (.iinc 5 (-1), 3) := by decide +kernel
theorem dX11_spread_172 : decode cX11_spread 172 = .ok (.goto (-72), 3) := by decide +kernel
theorem dX11_spread_175 : decode cX11_spread 175 = .ok (.iload 8, 2) := by decide +kernel
theorem dX11_spread_177 : decode cX11_spread 177 = .ok (.ifCond .eq 6, 3) := by decide +kernel
theorem dX11_spread_180 : decode cX11_spread 180 = .ok (.iload 7, 2) := by decide +kernel
theorem dX11_spread_182 : decode cX11_spread 182 = .ok (.ireturn, 1) := by decide +kernel
theorem dX11_spread_183 : decode cX11_spread 183 = .ok (.goto (-175), 3) := by decide +kernel
theorem dX11_longBy_0 : decode cX11_longBy 0 = .ok (.aload_n 0, 1) := by decide +kernel
theorem dX11_longBy_1 : decode cX11_longBy 1 = .ok (.getfield 140, 3) := by decide +kernel
theorem dX11_longBy_4 : decode cX11_longBy 4 = .ok (.istore 4, 2) := by decide +kernel
theorem dX11_longBy_6 : decode cX11_longBy 6 = .ok (.aload_n 0, 1) := by decide +kernel
theorem dX11_longBy_7 : decode cX11_longBy 7 = .ok (.getfield 45, 3) := by decide +kernel
theorem dX11_longBy_10 : decode cX11_longBy 10 = .ok (.istore 5, 2) := by decide +kernel
theorem dX11_longBy_12 : decode cX11_longBy 12 = .ok (.aload_n 0, 1) := by decide +kernel
theorem dX11_longBy_13 : decode cX11_longBy 13 = .ok (.getfield 133, 3) := by decide +kernel
theorem dX11_longBy_16 : decode cX11_longBy 16 = .ok (.istore 6, 2) := by decide +kernel
theorem dX11_longBy_18 : decode cX11_longBy 18 = .ok (.iload_n 2, 1) := by decide +kernel
theorem dX11_longBy_19 : decode cX11_longBy 19 = .ok (.istore 7, 2) := by decide +kernel
theorem dX11_longBy_21 : decode cX11_longBy 21 = .ok (.iload_n 1, 1) := by decide +kernel
theorem dX11_longBy_22 : decode cX11_longBy 22 = .ok (.istore 8, 2) := by decide +kernel
theorem dX11_longBy_24 : decode cX11_longBy 24 = .ok (.iload_n 3, 1) := by decide +kernel
theorem dX11_longBy_25 : decode cX11_longBy 25 = .ok (.istore 9, 2) := by decide +kernel
theorem dX11_longBy_27 : decode cX11_longBy 27 = .ok (.iconst 0, 1) := by decide +kernel
theorem dX11_longBy_28 : decode cX11_longBy 28 = .ok (.istore 10, 2) := by decide +kernel
theorem dX11_longBy_30 : decode cX11_longBy 30 = .ok (.iconst 0, 1) := by decide +kernel
theorem dX11_longBy_31 : decode cX11_longBy 31 = .ok (.istore 11, 2) := by decide +kernel
theorem dX11_longBy_33 : decode cX11_longBy 33 = .ok (.aload_n 0, 1) := by decide +kernel
theorem dX11_longBy_34 : decode cX11_longBy 34 = .ok (.iconst 0, 1) := by decide +kernel
theorem dX11_longBy_35 : decode cX11_longBy 35 = .ok (.putfield 186, 3) := by decide +kernel
theorem dX11_longBy_38 : decode cX11_longBy 38 = .ok (.iload 11, 2) := by decide +kernel
theorem dX11_longBy_40 : decode cX11_longBy 40 = .ok (.ifCond .ne 250, 3) := by decide +kernel
theorem dX11_longBy_43 : decode cX11_longBy 43 = .ok (.aload_n 0, 1) := by decide +kernel
theorem dX11_longBy_44 : decode cX11_longBy 44 = .ok (.getfield 186, 3) := by decide +kernel
theorem dX11_longBy_47 : decode cX11_longBy 47 = .ok (.ifCond .ne 243, 3) := by decide +kernel
theorem dX11_longBy_50 : decode cX11_longBy 50 = .ok (.aload_n 0, 1) := by decide +kernel
theorem dX11_longBy_51 : decode cX11_longBy 51 = .ok (.getfield 7, 3) := by decide +kernel
theorem dX11_longBy_54 : decode cX11_longBy 54 = .ok (.iload 7, 2) := by decide +kernel
theorem dX11_longBy_56 : decode cX11_longBy 56 = .ok (.iaload, 1) := by decide +kernel
theorem dX11_longBy_57 : decode cX11_longBy 57 = .ok (.istore 12, 2) := by decide +kernel
theorem dX11_longBy_59 : decode cX11_longBy 59 = .ok (.iload 12, 2) := by decide +kernel
theorem dX11_longBy_61 : decode cX11_longBy 61 = .ok (.bipush 83, 2) := by decide +kernel
theorem dX11_longBy_63 : decode cX11_longBy 63 = .ok (.if_icmp .ne 54, 3) := by decide +kernel
theorem dX11_longBy_66 : decode cX11_longBy 66 = .ok (.aload_n 0, 1) := by decide +kernel
theorem dX11_longBy_67 : decode cX11_longBy 67 = .ok (.bipush 44, 2) := by decide +kernel
theorem dX11_longBy_69 : decode cX11_longBy 69 = .ok (.invokevirtual 136, 3) := by decide +kernel
theorem dX11_longBy_72 : decode cX11_longBy 72 = .ok (.aload_n 0, 1) := by decide +kernel
theorem dX11_longBy_73 : decode cX11_longBy 73 = .ok (.getfield 76, 3) := by decide +kernel
theorem dX11_longBy_76 : decode cX11_longBy 76 = .ok (.iload 10, 2) := by decide +kernel
theorem dX11_longBy_78 : decode cX11_longBy 78 = .ok (.aload_n 0, 1) := by decide +kernel
theorem dX11_longBy_79 : decode cX11_longBy 79 = .ok (.iconst 4, 1) := by decide +kernel
theorem dX11_longBy_80 : decode cX11_longBy 80 = .ok (.iload 8, 2) := by decide +kernel
theorem dX11_longBy_82 : decode cX11_longBy 82 = .ok (.iconst 0, 1) := by decide +kernel
theorem dX11_longBy_83 : decode cX11_longBy 83 = .ok (.iconst 0, 1) := by decide +kernel
theorem dX11_longBy_84 : decode cX11_longBy 84 = .ok (.invokevirtual 115, 3) := by decide +kernel
theorem dX11_longBy_87 : decode cX11_longBy 87 = .ok (.iastore, 1) := by decide +kernel
theorem dX11_longBy_88 : decode cX11_longBy 88 = .ok (.aload_n 0, 1) := by decide +kernel
theorem dX11_longBy_89 : decode cX11_longBy 89 = .ok (.getfield 79, 3) := by decide +kernel
theorem dX11_longBy_92 : decode cX11_longBy 92 = .ok (.iload 10, 2) := by decide +kernel
theorem dX11_longBy_94 : decode cX11_longBy 94 = .ok (.iload 9, 2) := by decide +kernel
theorem dX11_longBy_96 : decode cX11_longBy 96 = .ok (.iastore, 1) := by decide +kernel
theorem dX11_longBy_97 : decode cX11_longBy 97 = .ok (.iinc 10 1, 3) := by decide +kernel
theorem dX11_longBy_100 : decode cX11_longBy 100 = .ok (.aload_n 0, 1) := by decide +kernel
theorem dX11_longBy_101 : decode cX11_longBy 101 = .ok (.iconst 3, 1) := by decide +kernel
theorem dX11_longBy_102 : decode cX11_longBy 102 = .ok (.iload 8, 2) := by decide +kernel
theorem dX11_longBy_104 : decode cX11_longBy 104 = .ok (.iconst 0, 1) := by decide +kernel
theorem dX11_longBy_105 : decode cX11_longBy 105 = .ok (.iconst 0, 1) := by decide +kernel
theorem dX11_longBy_106 : decode cX11_longBy 106 = .ok (.invokevirtual 115, 3) := by decide +kernel
theorem dX11_longBy_109 : decode cX11_longBy 109 = .ok (.istore 8, 2) := by decide +kernel
theorem dX11_longBy_111 : decode cX11_longBy 111 = .ok (.iinc 7 1, 3) := by decide +kernel
theorem dX11_longBy_114 : decode cX11_longBy 114 = .ok (.goto 167, 3) := by decide +kernel
theorem dX11_longBy_117 : decode cX11_longBy 117 = .ok (.iload 12, 2) := by decide +kernel
theorem dX11_longBy_119 : decode cX11_longBy 119 = .ok (.bipush 80, 2) := by decide +kernel
theorem dX11_longBy_121 : decode cX11_longBy 121 = .ok (.if_icmp .ne 61, 3) := by decide +kernel
theorem dX11_longBy_124 : decode cX11_longBy 124 = .ok (.aload_n 0, 1) := by decide +kernel
theorem dX11_longBy_125 : decode cX11_longBy 125 = .ok (.iload 9, 2) := by decide +kernel
theorem dX11_longBy_127 : decode cX11_longBy 127 = .ok (.bipush 10, 2) := by decide +kernel
theorem dX11_longBy_129 : decode cX11_longBy 129 = .ok (.if_icmp .lt 7, 3) := by decide +kernel
theorem dX11_longBy_132 : decode cX11_longBy 132 = .ok (.iconst 1, 1) := by decide +kernel
theorem dX11_longBy_133 : decode cX11_longBy 133 = .ok (.goto 4, 3) := by decide +kernel
theorem dX11_longBy_136 : decode cX11_longBy 136 = .ok (.iconst 0, 1) := by decide +kernel
theorem dX11_longBy_137 : decode cX11_longBy 137 = .ok (.putfield 186, 3) := by decide +kernel
theorem dX11_longBy_140 : decode cX11_longBy 140 = .ok (.aload_n 0, 1) := by decide +kernel
theorem dX11_longBy_141 : decode cX11_longBy 141 = .ok (.bipush 92, 2) := by decide +kernel
theorem dX11_longBy_143 : decode cX11_longBy 143 = .ok (.invokevirtual 136, 3) := by decide +kernel
theorem dX11_longBy_146 : decode cX11_longBy 146 = .ok (.aload_n 0, 1) := by decide +kernel
theorem dX11_longBy_147 : decode cX11_longBy 147 = .ok (.iconst 2, 1) := by decide +kernel
theorem dX11_longBy_148 : decode cX11_longBy 148 = .ok (.iload 8, 2) := by decide +kernel
theorem dX11_longBy_150 : decode cX11_longBy 150 = .ok (.aload_n 0, 1) := by decide +kernel
theorem dX11_longBy_151 : decode cX11_longBy 151 = .ok (.iload 9, 2) := by decide +kernel
theorem dX11_longBy_153 : decode cX11_longBy 153 = .ok (.iload 7, 2) := by decide +kernel
theorem dX11_longBy_155 : decode cX11_longBy 155 = .ok (.iconst 1, 1) := by decide +kernel
theorem dX11_longBy_156 : decode cX11_longBy 156 = .ok (.iadd, 1) := by decide +kernel
theorem dX11_longBy_157 : decode cX11_longBy 157 = .ok (.invokevirtual 207, 3) := by decide +kernel
theorem dX11_longBy_160 : decode cX11_longBy 160 = .ok (.iconst 0, 1) := by decide +kernel
theorem dX11_longBy_161 : decode cX11_longBy 161 = .ok (.invokevirtual 115, 3) := by decide +kernel
theorem dX11_longBy_164 : decode cX11_longBy 164 = .ok (.istore 8, 2) := by decide +kernel
theorem dX11_longBy_166 : decode cX11_longBy 166 = .ok (.iinc 9 1, 3) := by decide +kernel
theorem dX11_longBy_169 : decode cX11_longBy 169 = .ok (.aload_n 0, 1) := by decide +kernel
theorem dX11_longBy_170 : decode cX11_longBy 170 = .ok (.iload 7, 2) := by decide +kernel
theorem dX11_longBy_172 : decode cX11_longBy 172 = .ok (.iconst 1, 1) := by decide +kernel
theorem dX11_longBy_173 : decode cX11_longBy 173 = .ok (.iadd, 1) := by decide +kernel
theorem dX11_longBy_174 : decode cX11_longBy 174 = .ok (.invokevirtual 127, 3) := by decide +kernel
theorem dX11_longBy_177 : decode cX11_longBy 177 = .ok (.istore 7, 2) := by decide +kernel
theorem dX11_longBy_179 : decode cX11_longBy 179 = .ok (.goto 102, 3) := by decide +kernel
theorem dX11_longBy_182 : decode cX11_longBy 182 = .ok (.iload 12, 2) := by decide +kernel
theorem dX11_longBy_184 : decode cX11_longBy 184 = .ok (.bipush 49, 2) := by decide +kernel
theorem dX11_longBy_186 : decode cX11_longBy 186 = .ok (.if_icmp .ne 12, 3) := by decide +kernel
theorem dX11_longBy_189 : decode cX11_longBy 189 = .ok (.aload_n 0, 1) := by decide +kernel
theorem dX11_longBy_190 : decode cX11_longBy 190 = .ok (.bipush 42, 2) := by decide +kernel
theorem dX11_longBy_192 : decode cX11_longBy 192 = .ok (.invokevirtual 136, 3) := by decide +kernel
theorem dX11_longBy_195 : decode cX11_longBy 195 = .ok (.goto 13, 3) := by decide +kernel
theorem dX11_longBy_198 : decode cX11_longBy 198 = .ok (.aload_n 0, 1) := by decide +kernel
theorem dX11_longBy_199 : decode cX11_longBy 199 = .ok (.iload 8, 2) := by decide +kernel
theorem dX11_longBy_201 : decode cX11_longBy 201 = .ok (.iload 9, 2) := by decide +kernel
theorem dX11_longBy_203 : decode cX11_longBy 203 = .ok (.iload 6, 2) := by decide +kernel
theorem dX11_longBy_205 : decode cX11_longBy 205 = .ok (.invokevirtual 197, 3) := by decide +kernel
theorem dX11_longBy_208 : decode cX11_longBy 208 = .ok (.aload_n 0, 1) := by decide +kernel
theorem dX11_longBy_209 : decode cX11_longBy 209 = .ok (.iload 7, 2) := by decide +kernel
theorem dX11_longBy_211 : decode cX11_longBy 211 = .ok (.invokevirtual 127, 3) := by decide +kernel
theorem dX11_longBy_214 : decode cX11_longBy 214 = .ok (.istore 7, 2) := by decide +kernel
theorem dX11_longBy_216 : decode cX11_longBy 216 = .ok (.iload 10, 2) := by decide +kernel
theorem dX11_longBy_218 : decode cX11_longBy 218 = .ok (.ifCond .ne 7, 3) := by decide +kernel
theorem dX11_longBy_221 : decode cX11_longBy 221 = .ok (.iconst 1, 1) := by decide +kernel
theorem dX11_longBy_222 : decode cX11_longBy 222 = .ok (.goto 4, 3) := by decide +kernel
theorem dX11_longBy_225 : decode cX11_longBy 225 = .ok (.iconst 0, 1) := by decide +kernel
theorem dX11_longBy_226 : decode cX11_longBy 226 = .ok (.istore 11, 2) := by decide +kernel
theorem dX11_longBy_228 : decode cX11_longBy 228 = .ok (.iload 10, 2) := by decide +kernel
theorem dX11_longBy_230 : decode cX11_longBy 230 = .ok (.iload 11, 2) := by decide +kernel
theorem dX11_longBy_232 : decode cX11_longBy 232 = .ok (.ifCond .eq 7, 3) := by decide +kernel
theorem dX11_longBy_235 : decode cX11_longBy 235 = .ok (.iconst 0, 1) := by decide +kernel
theorem dX11_longBy_236 : decode cX11_longBy 236 = .ok (.goto 4, 3) := by decide +kernel
theorem dX11_longBy_239 : decode cX11_longBy 239 = .ok (.iconst 1, 1) := by decide +kernel
theorem dX11_longBy_240 : decode cX11_longBy 240 = .ok (.isub, 1) := by decide +kernel
theorem dX11_longBy_241 : decode cX11_longBy 241 = .ok (.istore 10, 2) := by decide +kernel
theorem dX11_longBy_243 : decode cX11_longBy 243 = .ok (.iload 11, 2) := by decide +kernel
theorem dX11_longBy_245 : decode cX11_longBy 245 = .ok (.ifCond .eq 8, 3) := by decide +kernel
theorem dX11_longBy_248 : decode cX11_longBy 248 = .ok (.iload 8, 2) := by decide +kernel
theorem dX11_longBy_250 : decode cX11_longBy 250 = .ok (.goto 10, 3) := by decide +kernel
theorem dX11_longBy_253 : decode cX11_longBy 253 = .ok (.aload_n 0, 1) := by decide +kernel
theorem dX11_longBy_254 : decode cX11_longBy 254 = .ok (.getfield 76, 3) := by decide +kernel
theorem dX11_longBy_257 : decode cX11_longBy 257 = .ok (.iload 10, 2) := by decide +kernel
theorem dX11_longBy_259 : decode cX11_longBy 259 = .ok (.iaload, 1) := by decide +kernel
theorem dX11_longBy_260 : decode cX11_longBy 260 = .ok (.istore 8, 2) := by decide +kernel
theorem dX11_longBy_262 : decode cX11_longBy 262 = .ok (.iload 11, 2) := by decide +kernel
theorem dX11_longBy_264 : decode cX11_longBy 264 = .ok (.ifCond .eq 8, 3) := by decide +kernel
theorem dX11_longBy_267 : decode cX11_longBy 267 = .ok (.iload 9, 2) := by decide +kernel
theorem dX11_longBy_269 : decode cX11_longBy 269 = .ok (.goto 10, 3) := by decide +kernel
theorem dX11_longBy_272 : decode cX11_longBy 272 = .ok (.aload_n 0, 1) := by decide +kernel
theorem dX11_longBy_273 : decode cX11_longBy 273 = .ok (.getfield 79, 3) := by decide +kernel
theorem dX11_longBy_276 : decode cX11_longBy 276 = .ok (.iload 10, 2) := by decide +kernel
theorem dX11_longBy_278 : decode cX11_longBy 278 = .ok (.iaload, 1) := by decide +kernel
theorem dX11_longBy_279 : decode cX11_longBy 279 = .ok (.istore 9, 2) := by decide +kernel
theorem dX11_longBy_281 : decode cX11_longBy 281 = .ok (.aload_n 0, 1) := by decide +kernel
theorem dX11_longBy_282 : decode cX11_longBy 282 = .ok (.iload 6, 2) := by decide +kernel
theorem dX11_longBy_284 : decode cX11_longBy 284 = .ok (.invokevirtual 194, 3) := by decide +kernel
theorem dX11_longBy_287 : decode cX11_longBy 287 = .ok (.goto (-249), 3) := by decide +kernel
theorem dX11_longBy_290 : decode cX11_longBy 290 = .ok (.aload_n 0, 1) := by decide +kernel
theorem dX11_longBy_291 : decode cX11_longBy 291 = .ok (.iload 6, 2) := by decide +kernel
theorem dX11_longBy_293 : decode cX11_longBy 293 = .ok (.iload 4, 2) := by decide +kernel
theorem dX11_longBy_295 : decode cX11_longBy 295 = .ok (.iload 5, 2) := by decide +kernel
theorem dX11_longBy_297 : decode cX11_longBy 297 = .ok (.invokevirtual 201, 3) := by decide +kernel
theorem dX11_longBy_300 : decode cX11_longBy 300 = .ok (.ireturn, 1) := by decide +kernel
set_option maxHeartbeats 4000000 in
set_option maxRecDepth 20000 in
theorem c_told {l : Launch} {D : va_G} {cy : Nat → ClassId} {ad : Nat → Nat} {q : Int32 × MS} (hi : ∀ i j, i < 34 → j < 34 → ad i = ad j → i = j) (x1 : Int32) (x2 : Int32) (x3 : Int32) (σ : MS) (h : f_told x1 x2 x3 σ = some q) : MV l D (cyT cy) (inAd ad) yX11_told cX11_told 4 (some .int) 0 0 0 0 [.ref (ad 0), .int x1, .int x2, .int x3] (wm cy ad σ) (some (.int q.1)) (wm cy ad q.2) := by
  refine MV.of (by decide) (wm_inj hi cy σ) (Nat.le_of_ble_eq_true rfl) [(0, .ref (ad 0)), (1, .int x1), (2, .int x2), (3, .int x3)] rfl ?_
  intro p e s m args below meth c C
  rw [f_told] at h
  refine v_aload_n C 0 dX11_told_0 rfl rfl ?_
  refine v_iload_n C 2 dX11_told_1 rfl rfl ?_
  refine n_putI C fl_140 dX11_told_2 ?_
  refine v_aload_n C 0 dX11_told_5 rfl rfl ?_
  refine v_iload_n C 3 dX11_told_6 rfl rfl ?_
  refine n_putI C fl_45 dX11_told_7 ?_
  refine v_aload_n C 0 dX11_told_10 rfl rfl ?_
  refine n_getZ C fl_186 dX11_told_11 ?_
  refine v_if_eq C 24 dX11_told_14 (by decide) (fun c1 => ?_) (fun c1 => ?_)
  · rw [if_pos c1] at h
    refine v_iload_n C 1 dX11_told_24 rfl rfl ?_
    obtain rfl := Option.some.inj h
    exact v_iret C dX11_told_25
  · rw [if_neg c1] at h
    refine v_aload_n C 0 dX11_told_17 rfl rfl ?_
    refine v_iload_n C 1 dX11_told_18 rfl rfl ?_
    refine n_putI C fl_133 dX11_told_19 ?_
    refine v_iconst C (-1) dX11_told_22 (by decide) ?_
    obtain rfl := Option.some.inj h
    exact v_iret C dX11_told_23
set_option maxHeartbeats 4000000 in
set_option maxRecDepth 20000 in
theorem c_toldValue {l : Launch} {D : va_G} {cy : Nat → ClassId} {ad : Nat → Nat} {q : Int32 × MS} (hi : ∀ i j, i < 34 → j < 34 → ad i = ad j → i = j) (x1 : Int32) (x2 : Int32) (x3 : Int32) (x4 : Int32) (σ : MS) (h : f_toldValue x1 x2 x3 x4 σ = some q) : MV l D (cyT cy) (inAd ad) yX11_toldValue cX11_toldValue 6 (some .int) 6 144 0 0 [.ref (ad 0), .int x1, .int x2, .int x3, .int x4] (wm cy ad σ) (some (.int q.1)) (wm cy ad q.2) := by
  refine MV.of (by decide) (wm_inj hi cy σ) (Nat.le_of_ble_eq_true rfl) [(0, .ref (ad 0)), (1, .int x1), (2, .int x2), (3, .int x3), (4, .int x4)] rfl ?_
  intro p e s m args below meth c C
  rw [f_toldValue] at h
  refine v_aload_n C 0 dX11_toldValue_0 rfl rfl ?_
  refine n_getI C fl_133 dX11_toldValue_1 ?_
  refine v_istore C [(5, .int (σ.1 1)), (0, .ref (ad 0)), (1, .int x1), (2, .int x2), (3, .int x3), (4, .int x4)] dX11_toldValue_4 (by decide) rfl ?_
  refine v_aload_n C 1 dX11_toldValue_6 rfl rfl ?_
  refine v_iconst C 0 dX11_toldValue_7 (by decide) ?_
  refine n_putZ C (Or.inl rfl) fl_186 dX11_toldValue_8 ?_
  refine v_aload_n C 1 dX11_toldValue_11 rfl rfl ?_
  refine v_iload_n C 2 dX11_toldValue_12 rfl rfl ?_
  refine v_iload_n C 3 dX11_toldValue_13 rfl rfl ?_
  refine v_iload C 0 dX11_toldValue_14 rfl ?_
  obtain ⟨q1, hq1, h⟩ := bd_of h
  refine vm_call C [.int x1, .int x2, .int (σ.1 1)] [] (c_tells hi _ _ _ _ hq1) hY_tells ml_197 ⟨Nat.le_of_ble_eq_true rfl, Nat.le_of_ble_eq_true rfl⟩ ⟨Nat.zero_le _, Nat.zero_le _⟩ rfl rfl (Nat.le_of_ble_eq_true rfl) dX11_toldValue_16 (wm_inj hi cy _) ?_
  refine v_aload_n C 1 dX11_toldValue_19 rfl rfl ?_
  refine v_iload C 0 dX11_toldValue_20 rfl ?_
  refine v_iload_n C 4 dX11_toldValue_22 rfl rfl ?_
  refine v_iload C 5 dX11_toldValue_23 rfl ?_
  obtain ⟨q2, hq2, h⟩ := bd_of h
  refine vm_call C [.int (σ.1 1), .int x3, .int x4] [] (c_told hi _ _ _ _ hq2) hY_told ml_201 ⟨Nat.le_of_ble_eq_true rfl, Nat.le_of_ble_eq_true rfl⟩ ⟨Nat.zero_le _, Nat.zero_le _⟩ rfl rfl (Nat.le_of_ble_eq_true rfl) dX11_toldValue_25 (wm_inj hi cy _) ?_
  obtain rfl := Option.some.inj h
  exact v_iret C dX11_toldValue_28
set_option maxHeartbeats 4000000 in
set_option maxRecDepth 20000 in
theorem b_typeBy_196 {p : Program} {l : Launch} {e : Env} {s : State} {m : MethodId} {args : Array Value} {below : List Frame} {meth : Method} {c : Code} {D : va_G} {cy : Nat → ClassId} {ad : Nat → Nat} {q : Int32 × MS} (C : vC p s m args meth c cX11_typeBy 14 (some .int) RX11 D (cyT cy)) (hi : ∀ i j, i < 34 → j < 34 → ad i = ad j → i = j) {k277 : Int32 → Int32 → Int32 → Int32 → Int32 → Int32 → Int32 → Int32 → MS → Option (Int32 × MS)} (hk277 : ∀ (x2 : Int32) (x4 : Int32) (x5 : Int32) (x6 : Int32) (x7 : Int32) (x8 : Int32) (x9 : Int32) (x10 : Int32)  (σ : MS), k277 x2 x4 x5 x6 x7 x8 x9 x10 σ = some q → V p l e { frames := 6, cells := 0, slots := 0, locals := 147 } s m args below meth c D (inAd ad) 14 (MQ below (vQ D (inAd ad) (some (.int q.1)) (wm cy ad q.2)) args s 0 0 (inAd ad)) 0 0 (wm cy ad σ) 277 [(0, .ref (ad 0)), (2, .int x2), (4, .int x4), (5, .int x5), (6, .int x6), (7, .int x7), (8, .int x8), (9, .int x9), (10, .int x10)] []) : ∀ (x2 : Int32) (x4 : Int32) (x5 : Int32) (x6 : Int32) (x7 : Int32) (x8 : Int32) (x9 : Int32) (x10 : Int32) (x11 : Int32) (s0 : Int32) (σ : MS), B_typeBy_196 k277 x2 x4 x5 x6 x7 x8 x9 x10 x11 s0 σ = some q → V p l e { frames := 6, cells := 0, slots := 0, locals := 147 } s m args below meth c D (inAd ad) 14 (MQ below (vQ D (inAd ad) (some (.int q.1)) (wm cy ad q.2)) args s 0 0 (inAd ad)) 0 0 (wm cy ad σ) 196 [(0, .ref (ad 0)), (2, .int x2), (4, .int x4), (5, .int x5), (6, .int x6), (7, .int x7), (8, .int x8), (9, .int x9), (10, .int x10), (11, .int x11)] [.int s0, .ref (ad 0)] := by
  intro x2 x4 x5 x6 x7 x8 x9 x10 x11 s0 σ h
  rw [B_typeBy_196] at h
  obtain ⟨g1, h⟩ := gd_of h
  refine n_putZ C (bzb_in g1) fl_186 dX11_typeBy_196 ?_
  refine v_aload_n C 0 dX11_typeBy_199 rfl rfl ?_
  refine n_getR C fl_67 dX11_typeBy_200 ?_
  refine v_iload C 8 dX11_typeBy_203 rfl ?_
  refine v_iload C 9 dX11_typeBy_205 rfl ?_
  refine v_iconst C 1 dX11_typeBy_207 (by decide) ?_
  refine v_iadd C dX11_typeBy_208 ?_
  obtain ⟨g2, h⟩ := gd_of h
  refine vm_iast C 18 iI_18 (ix_in g2) dX11_typeBy_209 ?_
  refine v_aload_n C 0 dX11_typeBy_210 rfl rfl ?_
  refine n_getR C fl_67 dX11_typeBy_211 ?_
  refine v_iload C 8 dX11_typeBy_214 rfl ?_
  refine v_iconst C 1 dX11_typeBy_216 (by decide) ?_
  refine v_iadd C dX11_typeBy_217 ?_
  refine v_iload C 9 dX11_typeBy_218 rfl ?_
  obtain ⟨g3, h⟩ := gd_of h
  refine vm_iast C 18 iI_18 (ix_in g3) dX11_typeBy_220 ?_
  refine v_iinc C (x10 + 2) 8 [(10, .int (x10 + 2)), (0, .ref (ad 0)), (2, .int x2), (4, .int x4), (5, .int x5), (6, .int x6), (7, .int x7), (8, .int x8), (9, .int x9), (11, .int x11)] dX11_typeBy_221 rfl rfl (by decide) rfl ?_
  refine v_goto C 277 dX11_typeBy_224 (by decide) ?_
  exact v_sub [1, 2, 3, 4, 5, 6, 7, 8, 0] rfl (hk277 _ _ _ _ _ _ _ _ _ h)
set_option maxHeartbeats 4000000 in
set_option maxRecDepth 20000 in
theorem b_typeBy_191 {p : Program} {l : Launch} {e : Env} {s : State} {m : MethodId} {args : Array Value} {below : List Frame} {meth : Method} {c : Code} {D : va_G} {cy : Nat → ClassId} {ad : Nat → Nat} {q : Int32 × MS} (C : vC p s m args meth c cX11_typeBy 14 (some .int) RX11 D (cyT cy)) (hi : ∀ i j, i < 34 → j < 34 → ad i = ad j → i = j) {k196 : Int32 → Int32 → Int32 → Int32 → Int32 → Int32 → Int32 → Int32 → Int32 → Int32 → MS → Option (Int32 × MS)} (hk196 : ∀ (x2 : Int32) (x4 : Int32) (x5 : Int32) (x6 : Int32) (x7 : Int32) (x8 : Int32) (x9 : Int32) (x10 : Int32) (x11 : Int32) (s0 : Int32)  (σ : MS), k196 x2 x4 x5 x6 x7 x8 x9 x10 x11 s0 σ = some q → V p l e { frames := 6, cells := 0, slots := 0, locals := 147 } s m args below meth c D (inAd ad) 14 (MQ below (vQ D (inAd ad) (some (.int q.1)) (wm cy ad q.2)) args s 0 0 (inAd ad)) 0 0 (wm cy ad σ) 196 [(0, .ref (ad 0)), (2, .int x2), (4, .int x4), (5, .int x5), (6, .int x6), (7, .int x7), (8, .int x8), (9, .int x9), (10, .int x10), (11, .int x11)] [.int s0, .ref (ad 0)]) : ∀ (x2 : Int32) (x4 : Int32) (x5 : Int32) (x6 : Int32) (x7 : Int32) (x8 : Int32) (x9 : Int32) (x10 : Int32) (x11 : Int32) (σ : MS), B_typeBy_191 k196 x2 x4 x5 x6 x7 x8 x9 x10 x11 σ = some q → V p l e { frames := 6, cells := 0, slots := 0, locals := 147 } s m args below meth c D (inAd ad) 14 (MQ below (vQ D (inAd ad) (some (.int q.1)) (wm cy ad q.2)) args s 0 0 (inAd ad)) 0 0 (wm cy ad σ) 191 [(0, .ref (ad 0)), (2, .int x2), (4, .int x4), (5, .int x5), (6, .int x6), (7, .int x7), (8, .int x8), (9, .int x9), (10, .int x10), (11, .int x11)] [.ref (ad 0)] := by
  intro x2 x4 x5 x6 x7 x8 x9 x10 x11 σ h
  rw [B_typeBy_191] at h
  refine v_iconst C 1 dX11_typeBy_191 (by decide) ?_
  refine v_goto C 196 dX11_typeBy_192 (by decide) ?_
  exact v_sub [0, 1, 2, 3, 4, 5, 6, 7, 8, 9] rfl (hk196 _ _ _ _ _ _ _ _ _ _ _ h)
set_option maxHeartbeats 4000000 in
set_option maxRecDepth 20000 in
theorem b_typeBy_277 {p : Program} {l : Launch} {e : Env} {s : State} {m : MethodId} {args : Array Value} {below : List Frame} {meth : Method} {c : Code} {D : va_G} {cy : Nat → ClassId} {ad : Nat → Nat} {q : Int32 × MS} (C : vC p s m args meth c cX11_typeBy 14 (some .int) RX11 D (cyT cy)) (hi : ∀ i j, i < 34 → j < 34 → ad i = ad j → i = j) {k111 : Int32 → Int32 → Int32 → Int32 → Int32 → Int32 → Int32 → Int32 → MS → Option (Int32 × MS)} (hk111 : ∀ (x2 : Int32) (x4 : Int32) (x5 : Int32) (x6 : Int32) (x7 : Int32) (x8 : Int32) (x9 : Int32) (x10 : Int32)  (σ : MS), k111 x2 x4 x5 x6 x7 x8 x9 x10 σ = some q → V p l e { frames := 6, cells := 0, slots := 0, locals := 147 } s m args below meth c D (inAd ad) 14 (MQ below (vQ D (inAd ad) (some (.int q.1)) (wm cy ad q.2)) args s 0 0 (inAd ad)) 0 0 (wm cy ad σ) 111 [(0, .ref (ad 0)), (2, .int x2), (4, .int x4), (5, .int x5), (6, .int x6), (7, .int x7), (8, .int x8), (9, .int x9), (10, .int x10)] []) : ∀ (x2 : Int32) (x4 : Int32) (x5 : Int32) (x6 : Int32) (x7 : Int32) (x8 : Int32) (x9 : Int32) (x10 : Int32) (σ : MS), B_typeBy_277 k111 x2 x4 x5 x6 x7 x8 x9 x10 σ = some q → V p l e { frames := 6, cells := 0, slots := 0, locals := 147 } s m args below meth c D (inAd ad) 14 (MQ below (vQ D (inAd ad) (some (.int q.1)) (wm cy ad q.2)) args s 0 0 (inAd ad)) 0 0 (wm cy ad σ) 277 [(0, .ref (ad 0)), (2, .int x2), (4, .int x4), (5, .int x5), (6, .int x6), (7, .int x7), (8, .int x8), (9, .int x9), (10, .int x10)] [] := by
  intro x2 x4 x5 x6 x7 x8 x9 x10 σ h
  rw [B_typeBy_277] at h
  refine v_goto C 111 dX11_typeBy_277 (by decide) ?_
  exact v_sub [0, 1, 2, 3, 4, 5, 6, 7, 8] rfl (hk111 _ _ _ _ _ _ _ _ _ h)
set_option maxHeartbeats 4000000 in
set_option maxRecDepth 20000 in
theorem b_typeBy_173 {p : Program} {l : Launch} {e : Env} {s : State} {m : MethodId} {args : Array Value} {below : List Frame} {meth : Method} {c : Code} {D : va_G} {cy : Nat → ClassId} {ad : Nat → Nat} {q : Int32 × MS} (C : vC p s m args meth c cX11_typeBy 14 (some .int) RX11 D (cyT cy)) (hi : ∀ i j, i < 34 → j < 34 → ad i = ad j → i = j) {k277 : Int32 → Int32 → Int32 → Int32 → Int32 → Int32 → Int32 → Int32 → MS → Option (Int32 × MS)} (hk277 : ∀ (x2 : Int32) (x4 : Int32) (x5 : Int32) (x6 : Int32) (x7 : Int32) (x8 : Int32) (x9 : Int32) (x10 : Int32)  (σ : MS), k277 x2 x4 x5 x6 x7 x8 x9 x10 σ = some q → V p l e { frames := 6, cells := 0, slots := 0, locals := 147 } s m args below meth c D (inAd ad) 14 (MQ below (vQ D (inAd ad) (some (.int q.1)) (wm cy ad q.2)) args s 0 0 (inAd ad)) 0 0 (wm cy ad σ) 277 [(0, .ref (ad 0)), (2, .int x2), (4, .int x4), (5, .int x5), (6, .int x6), (7, .int x7), (8, .int x8), (9, .int x9), (10, .int x10)] []) : ∀ (x2 : Int32) (x4 : Int32) (x5 : Int32) (x6 : Int32) (x7 : Int32) (x8 : Int32) (x9 : Int32) (x10 : Int32) (x11 : Int32) (σ : MS), B_typeBy_173 k277 x2 x4 x5 x6 x7 x8 x9 x10 x11 σ = some q → V p l e { frames := 6, cells := 0, slots := 0, locals := 147 } s m args below meth c D (inAd ad) 14 (MQ below (vQ D (inAd ad) (some (.int q.1)) (wm cy ad q.2)) args s 0 0 (inAd ad)) 0 0 (wm cy ad σ) 173 [(0, .ref (ad 0)), (2, .int x2), (4, .int x4), (5, .int x5), (6, .int x6), (7, .int x7), (8, .int x8), (9, .int x9), (10, .int x10), (11, .int x11)] [] := by
  intro x2 x4 x5 x6 x7 x8 x9 x10 x11 σ h
  rw [B_typeBy_173] at h
  refine v_aload_n C 0 dX11_typeBy_173 rfl rfl ?_
  refine v_aload_n C 0 dX11_typeBy_174 rfl rfl ?_
  refine n_getZ C fl_186 dX11_typeBy_175 ?_
  refine v_if_ne C 191 dX11_typeBy_178 (by decide) (fun c1 => ?_) (fun c1 => ?_)
  · rw [if_neg c1] at h
    exact v_sub [0, 1, 2, 3, 4, 5, 6, 7, 8, 9] rfl ((b_typeBy_191 C hi (b_typeBy_196 C hi hk277)) _ _ _ _ _ _ _ _ _ _ h)
  · rw [if_pos c1] at h
    refine v_iload C 2 dX11_typeBy_181 rfl ?_
    refine v_iload C 9 dX11_typeBy_183 rfl ?_
    refine v_iadd C dX11_typeBy_185 ?_
    refine v_bipush C 10 dX11_typeBy_186 (by decide) ?_
    refine v_icmp_lt C 195 dX11_typeBy_188 (by decide) (fun c2 => ?_) (fun c2 => ?_)
    · rw [if_pos c2] at h
      refine v_iconst C 0 dX11_typeBy_195 (by decide) ?_
      exact v_sub [0, 1, 2, 3, 4, 5, 6, 7, 8, 9] rfl ((b_typeBy_196 C hi hk277) _ _ _ _ _ _ _ _ _ _ _ h)
    · rw [if_neg c2] at h
      exact v_sub [0, 1, 2, 3, 4, 5, 6, 7, 8, 9] rfl ((b_typeBy_191 C hi (b_typeBy_196 C hi hk277)) _ _ _ _ _ _ _ _ _ _ h)
set_option maxHeartbeats 4000000 in
set_option maxRecDepth 20000 in
theorem b_typeBy_280 {p : Program} {l : Launch} {e : Env} {s : State} {m : MethodId} {args : Array Value} {below : List Frame} {meth : Method} {c : Code} {D : va_G} {cy : Nat → ClassId} {ad : Nat → Nat} {q : Int32 × MS} (C : vC p s m args meth c cX11_typeBy 14 (some .int) RX11 D (cyT cy)) (hi : ∀ i j, i < 34 → j < 34 → ad i = ad j → i = j) : ∀ (x5 : Int32) (x6 : Int32) (x7 : Int32) (σ : MS), B_typeBy_280 x5 x6 x7 σ = some q → V p l e { frames := 6, cells := 0, slots := 0, locals := 147 } s m args below meth c D (inAd ad) 14 (MQ below (vQ D (inAd ad) (some (.int q.1)) (wm cy ad q.2)) args s 0 0 (inAd ad)) 0 0 (wm cy ad σ) 280 [(0, .ref (ad 0)), (5, .int x5), (6, .int x6), (7, .int x7)] [] := by
  intro x5 x6 x7 σ h
  rw [B_typeBy_280] at h
  refine v_aload_n C 0 dX11_typeBy_280 rfl rfl ?_
  refine v_iload C 3 dX11_typeBy_281 rfl ?_
  refine v_iload C 1 dX11_typeBy_283 rfl ?_
  refine v_iload C 2 dX11_typeBy_285 rfl ?_
  obtain ⟨q1, hq1, h⟩ := bd_of h
  refine vm_call C [.int x7, .int x5, .int x6] [] (c_told hi _ _ _ _ hq1) hY_told ml_201 ⟨Nat.le_of_ble_eq_true rfl, Nat.le_of_ble_eq_true rfl⟩ ⟨Nat.zero_le _, Nat.zero_le _⟩ rfl rfl (Nat.le_of_ble_eq_true rfl) dX11_typeBy_287 (wm_inj hi cy _) ?_
  obtain rfl := Option.some.inj h
  exact v_iret C dX11_typeBy_290
set_option maxHeartbeats 4000000 in
set_option maxRecDepth 20000 in
theorem l_typeBy_111 {p : Program} {l : Launch} {e : Env} {s : State} {m : MethodId} {args : Array Value} {below : List Frame} {meth : Method} {c : Code} {D : va_G} {cy : Nat → ClassId} {ad : Nat → Nat} {q : Int32 × MS} (C : vC p s m args meth c cX11_typeBy 14 (some .int) RX11 D (cyT cy)) (hi : ∀ i j, i < 34 → j < 34 → ad i = ad j → i = j) : ∀ (n : Nat) (x2 : Int32) (x4 : Int32) (x5 : Int32) (x6 : Int32) (x7 : Int32) (x8 : Int32) (x9 : Int32) (x10 : Int32) (σ : MS), L_typeBy_111 n x2 x4 x5 x6 x7 x8 x9 x10 σ = some q → V p l e { frames := 6, cells := 0, slots := 0, locals := 147 } s m args below meth c D (inAd ad) 14 (MQ below (vQ D (inAd ad) (some (.int q.1)) (wm cy ad q.2)) args s 0 0 (inAd ad)) 0 0 (wm cy ad σ) 111 [(0, .ref (ad 0)), (2, .int x2), (4, .int x4), (5, .int x5), (6, .int x6), (7, .int x7), (8, .int x8), (9, .int x9), (10, .int x10)] [] := by
  intro n
  induction n with
  | zero =>
    intro x2 x4 x5 x6 x7 x8 x9 x10 σ h
    rw [L_typeBy_111.eq_1] at h
    cases h
  | succ n ih =>
    intro x2 x4 x5 x6 x7 x8 x9 x10 σ h
    rw [L_typeBy_111.eq_2] at h
    refine v_iload C 8 dX11_typeBy_111 rfl ?_
    refine v_if_le C 280 dX11_typeBy_113 (by decide) (fun c1 => ?_) (fun c1 => ?_)
    · rw [if_pos c1] at h
      exact v_sub [0, 3, 4, 5] rfl ((b_typeBy_280 C hi) _ _ _ _ h)
    · rw [if_neg c1] at h
      refine v_aload_n C 0 dX11_typeBy_116 rfl rfl ?_
      refine n_getZ C fl_186 dX11_typeBy_117 ?_
      refine v_if_ne C 280 dX11_typeBy_120 (by decide) (fun c2 => ?_) (fun c2 => ?_)
      · rw [if_neg c2] at h
        exact v_sub [0, 3, 4, 5] rfl ((b_typeBy_280 C hi) _ _ _ _ h)
      · rw [if_pos c2] at h
        refine v_iinc C (x10 + (-1)) 8 [(10, .int (x10 + (-1))), (0, .ref (ad 0)), (2, .int x2), (4, .int x4), (5, .int x5), (6, .int x6), (7, .int x7), (8, .int x8), (9, .int x9)] dX11_typeBy_123 rfl rfl (by decide) rfl ?_
        refine v_aload_n C 1 dX11_typeBy_126 rfl rfl ?_
        refine n_getR C fl_67 dX11_typeBy_127 ?_
        refine v_iload C 0 dX11_typeBy_130 rfl ?_
        obtain ⟨g1, h⟩ := gd_of h
        refine vm_iald C 18 iI_18 (ix_in g1) dX11_typeBy_132 ?_
        refine v_istore C [(11, .int (σ.2.1 18 ((x10 + (-1)) : Int32).toNatClampNeg)), (10, .int (x10 + (-1))), (0, .ref (ad 0)), (2, .int x2), (4, .int x4), (5, .int x5), (6, .int x6), (7, .int x7), (8, .int x8), (9, .int x9)] dX11_typeBy_133 (by decide) rfl ?_
        refine v_aload_n C 2 dX11_typeBy_135 rfl rfl ?_
        refine n_getR C fl_7 dX11_typeBy_136 ?_
        refine v_iload C 9 dX11_typeBy_139 rfl ?_
        obtain ⟨g2, h⟩ := gd_of h
        refine vm_iald C 1 iI_1 (ix_in g2) dX11_typeBy_141 ?_
        refine v_istore C [(12, .int (σ.2.1 1 (x9 : Int32).toNatClampNeg)), (11, .int (σ.2.1 18 ((x10 + (-1)) : Int32).toNatClampNeg)), (10, .int (x10 + (-1))), (0, .ref (ad 0)), (2, .int x2), (4, .int x4), (5, .int x5), (6, .int x6), (7, .int x7), (8, .int x8), (9, .int x9)] dX11_typeBy_142 (by decide) rfl ?_
        refine v_aload_n C 3 dX11_typeBy_144 rfl rfl ?_
        refine v_iload C 0 dX11_typeBy_145 rfl ?_
        obtain ⟨q1, hq1, h⟩ := bd_of h
        refine vm_call C [.int (σ.2.1 1 (x9 : Int32).toNatClampNeg)] [] (c_puts hi _ _ hq1) hY_puts ml_136 ⟨Nat.le_of_ble_eq_true rfl, Nat.le_of_ble_eq_true rfl⟩ ⟨Nat.zero_le _, Nat.zero_le _⟩ rfl rfl (Nat.le_of_ble_eq_true rfl) dX11_typeBy_147 (wm_inj hi cy _) ?_
        refine v_aload_n C 3 dX11_typeBy_150 rfl rfl ?_
        refine v_iload C 8 dX11_typeBy_151 rfl ?_
        obtain ⟨q2, hq2, h⟩ := bd_of h
        refine vm_call C [.int x7] [] (c_checks hi _ _ hq2) hY_checks ml_194 ⟨Nat.le_of_ble_eq_true rfl, Nat.le_of_ble_eq_true rfl⟩ ⟨Nat.zero_le _, Nat.zero_le _⟩ rfl rfl (Nat.le_of_ble_eq_true rfl) dX11_typeBy_153 (wm_inj hi cy _) ?_
        refine v_iinc C (x9 + 1) 10 [(9, .int (x9 + 1)), (12, .int (σ.2.1 1 (x9 : Int32).toNatClampNeg)), (11, .int (σ.2.1 18 ((x10 + (-1)) : Int32).toNatClampNeg)), (10, .int (x10 + (-1))), (0, .ref (ad 0)), (2, .int x2), (4, .int x4), (5, .int x5), (6, .int x6), (7, .int x7), (8, .int x8)] dX11_typeBy_156 rfl rfl (by decide) rfl ?_
        refine v_iload C 1 dX11_typeBy_159 rfl ?_
        refine v_bipush C 83 dX11_typeBy_161 (by decide) ?_
        refine v_icmp_eq C 173 dX11_typeBy_163 (by decide) (fun c3 => ?_) (fun c3 => ?_)
        · rw [if_pos c3] at h
          exact v_sub [4, 5, 6, 7, 8, 9, 10, 0, 3, 2] rfl ((b_typeBy_173 C hi (b_typeBy_277 C hi ih)) _ _ _ _ _ _ _ _ _ _ h)
        · rw [if_neg c3] at h
          refine v_iload C 1 dX11_typeBy_166 rfl ?_
          refine v_bipush C 80 dX11_typeBy_168 (by decide) ?_
          refine v_icmp_ne C 227 dX11_typeBy_170 (by decide) (fun c4 => ?_) (fun c4 => ?_)
          · rw [if_neg c4] at h
            refine v_aload_n C 4 dX11_typeBy_227 rfl rfl ?_
            refine v_iload C 1 dX11_typeBy_228 rfl ?_
            obtain ⟨q3, hq3, h⟩ := bd_of h
            refine vm_call C [.int (σ.2.1 1 (x9 : Int32).toNatClampNeg)] [] (c_partsOf hi _ _ hq3) hY_partsOf ml_123 ⟨Nat.le_of_ble_eq_true rfl, Nat.le_of_ble_eq_true rfl⟩ ⟨Nat.zero_le _, Nat.zero_le _⟩ rfl rfl (Nat.le_of_ble_eq_true rfl) dX11_typeBy_230 (wm_inj hi cy _) ?_
            refine v_iconst C 1 dX11_typeBy_233 (by decide) ?_
            refine v_icmp_ne C 277 dX11_typeBy_234 (by decide) (fun c5 => ?_) (fun c5 => ?_)
            · rw [if_neg c5] at h
              exact v_sub [4, 5, 6, 7, 8, 9, 10, 0, 3] rfl ((b_typeBy_277 C hi ih) _ _ _ _ _ _ _ _ _ h)
            · rw [if_pos c5] at h
              refine v_aload_n C 4 dX11_typeBy_237 rfl rfl ?_
              refine n_getZ C fl_186 dX11_typeBy_238 ?_
              refine v_if_ne C 277 dX11_typeBy_241 (by decide) (fun c6 => ?_) (fun c6 => ?_)
              · rw [if_neg c6] at h
                exact v_sub [4, 5, 6, 7, 8, 9, 10, 0, 3] rfl ((b_typeBy_277 C hi ih) _ _ _ _ _ _ _ _ _ h)
              · rw [if_pos c6] at h
                refine v_aload_n C 4 dX11_typeBy_244 rfl rfl ?_
                refine v_iload C 0 dX11_typeBy_245 rfl ?_
                refine v_iload_n C 5 dX11_typeBy_247 rfl rfl ?_
                refine v_iload C 2 dX11_typeBy_248 rfl ?_
                refine v_iadd C dX11_typeBy_250 ?_
                refine v_iload C 10 dX11_typeBy_251 rfl ?_
                obtain ⟨q4, hq4, h⟩ := bd_of h
                refine vm_call C [.int (x9 + 1), .int (x2 + (σ.2.1 18 ((x10 + (-1)) : Int32).toNatClampNeg)), .int x8] [] (c_works hi _ _ _ _ hq4) hY_works ml_204 ⟨Nat.le_of_ble_eq_true rfl, Nat.le_of_ble_eq_true rfl⟩ ⟨Nat.zero_le _, Nat.zero_le _⟩ rfl rfl (Nat.le_of_ble_eq_true rfl) dX11_typeBy_253 (wm_inj hi cy _) ?_
                refine v_istore C [(13, .int q4.1), (9, .int (x9 + 1)), (12, .int (σ.2.1 1 (x9 : Int32).toNatClampNeg)), (11, .int (σ.2.1 18 ((x10 + (-1)) : Int32).toNatClampNeg)), (10, .int (x10 + (-1))), (0, .ref (ad 0)), (2, .int x2), (4, .int x4), (5, .int x5), (6, .int x6), (7, .int x7), (8, .int x8)] dX11_typeBy_256 (by decide) rfl ?_
                refine v_aload_n C 5 dX11_typeBy_258 rfl rfl ?_
                refine n_getI C fl_171 dX11_typeBy_259 ?_
                refine v_istore C [(9, .int (q4.2.1 24)), (13, .int q4.1), (12, .int (σ.2.1 1 (x9 : Int32).toNatClampNeg)), (11, .int (σ.2.1 18 ((x10 + (-1)) : Int32).toNatClampNeg)), (10, .int (x10 + (-1))), (0, .ref (ad 0)), (2, .int x2), (4, .int x4), (5, .int x5), (6, .int x6), (7, .int x7), (8, .int x8)] dX11_typeBy_262 (by decide) rfl ?_
                refine v_aload_n C 5 dX11_typeBy_264 rfl rfl ?_
                refine v_iload C 1 dX11_typeBy_265 rfl ?_
                refine v_iload C 7 dX11_typeBy_267 rfl ?_
                refine v_iload C 3 dX11_typeBy_269 rfl ?_
                refine v_iadd C dX11_typeBy_271 ?_
                refine v_iload C 10 dX11_typeBy_272 rfl ?_
                obtain ⟨q5, hq5, h⟩ := bd_of h
                refine vm_call C [.int q4.1, .int (x4 + (σ.2.1 18 ((x10 + (-1)) : Int32).toNatClampNeg)), .int x7] [] (c_tells hi _ _ _ _ hq5) hY_tells ml_197 ⟨Nat.le_of_ble_eq_true rfl, Nat.le_of_ble_eq_true rfl⟩ ⟨Nat.zero_le _, Nat.zero_le _⟩ rfl rfl (Nat.le_of_ble_eq_true rfl) dX11_typeBy_274 (wm_inj hi cy _) ?_
                exact v_sub [5, 6, 7, 8, 9, 10, 11, 0, 4] rfl ((b_typeBy_277 C hi ih) _ _ _ _ _ _ _ _ _ h)
          · rw [if_pos c4] at h
            exact v_sub [4, 5, 6, 7, 8, 9, 10, 0, 3, 2] rfl ((b_typeBy_173 C hi (b_typeBy_277 C hi ih)) _ _ _ _ _ _ _ _ _ _ h)
set_option maxHeartbeats 4000000 in
set_option maxRecDepth 20000 in
theorem l_typeBy_60 {p : Program} {l : Launch} {e : Env} {s : State} {m : MethodId} {args : Array Value} {below : List Frame} {meth : Method} {c : Code} {D : va_G} {cy : Nat → ClassId} {ad : Nat → Nat} {q : Int32 × MS} (C : vC p s m args meth c cX11_typeBy 14 (some .int) RX11 D (cyT cy)) (hi : ∀ i j, i < 34 → j < 34 → ad i = ad j → i = j) : ∀ (n : Nat) (x1 : Int32) (x2 : Int32) (x4 : Int32) (x5 : Int32) (x6 : Int32) (x7 : Int32) (x8 : Int32) (x9 : Int32) (σ : MS), L_typeBy_60 n x1 x2 x4 x5 x6 x7 x8 x9 σ = some q → V p l e { frames := 6, cells := 0, slots := 0, locals := 147 } s m args below meth c D (inAd ad) 14 (MQ below (vQ D (inAd ad) (some (.int q.1)) (wm cy ad q.2)) args s 0 0 (inAd ad)) 0 0 (wm cy ad σ) 60 [(0, .ref (ad 0)), (1, .int x1), (2, .int x2), (4, .int x4), (5, .int x5), (6, .int x6), (7, .int x7), (8, .int x8), (9, .int x9)] [] := by
  intro n
  induction n with
  | zero =>
    intro x1 x2 x4 x5 x6 x7 x8 x9 σ h
    rw [L_typeBy_60.eq_1] at h
    cases h
  | succ n ih =>
    intro x1 x2 x4 x5 x6 x7 x8 x9 σ h
    rw [L_typeBy_60.eq_2] at h
    refine v_iload C 8 dX11_typeBy_60 rfl ?_
    refine v_bipush C 10 dX11_typeBy_62 (by decide) ?_
    refine v_icmp_ge C 93 dX11_typeBy_64 (by decide) (fun c1 => ?_) (fun c1 => ?_)
    · rw [if_pos c1] at h
      refine v_aload_n C 0 dX11_typeBy_93 rfl rfl ?_
      refine v_iconst C 0 dX11_typeBy_94 (by decide) ?_
      refine n_putZ C (Or.inl rfl) fl_186 dX11_typeBy_95 ?_
      refine v_iload_n C 1 dX11_typeBy_98 rfl rfl ?_
      refine v_istore C [(9, .int x1), (0, .ref (ad 0)), (1, .int x1), (2, .int x2), (4, .int x4), (5, .int x5), (6, .int x6), (7, .int x7), (8, .int x8)] dX11_typeBy_99 (by decide) rfl ?_
      refine v_iconst C 1 dX11_typeBy_101 (by decide) ?_
      refine v_istore C [(10, .int 1), (9, .int x1), (0, .ref (ad 0)), (1, .int x1), (2, .int x2), (4, .int x4), (5, .int x5), (6, .int x6), (7, .int x7), (8, .int x8)] dX11_typeBy_102 (by decide) rfl ?_
      refine v_aload_n C 2 dX11_typeBy_104 rfl rfl ?_
      refine n_getR C fl_67 dX11_typeBy_105 ?_
      refine v_iconst C 0 dX11_typeBy_108 (by decide) ?_
      refine v_iconst C 0 dX11_typeBy_109 (by decide) ?_
      obtain ⟨g1, h⟩ := gd_of h
      refine vm_iast C 18 iI_18 (ix_in g1) dX11_typeBy_110 ?_
      exact v_sub [2, 4, 5, 6, 7, 8, 9, 1, 0] rfl ((l_typeBy_111 C hi 10000) _ _ _ _ _ _ _ _ _ h)
    · rw [if_neg c1] at h
      refine v_aload_n C 0 dX11_typeBy_67 rfl rfl ?_
      refine n_getR C fl_42 dX11_typeBy_68 ?_
      refine v_bipush C 10 dX11_typeBy_71 (by decide) ?_
      refine v_iload C 7 dX11_typeBy_73 rfl ?_
      refine v_imul C dX11_typeBy_75 ?_
      refine v_iload C 8 dX11_typeBy_76 rfl ?_
      refine v_iadd C dX11_typeBy_78 ?_
      refine v_iload C 3 dX11_typeBy_79 rfl ?_
      refine v_iload C 8 dX11_typeBy_81 rfl ?_
      refine v_iadd C dX11_typeBy_83 ?_
      refine v_iload_n C 2 dX11_typeBy_84 rfl rfl ?_
      refine v_isub C dX11_typeBy_85 ?_
      obtain ⟨g2, h⟩ := gd_of h
      refine vm_iast C 11 iI_11 (ix_in g2) dX11_typeBy_86 ?_
      refine v_iinc C (x9 + 1) 8 [(9, .int (x9 + 1)), (0, .ref (ad 0)), (1, .int x1), (2, .int x2), (4, .int x4), (5, .int x5), (6, .int x6), (7, .int x7), (8, .int x8)] dX11_typeBy_87 rfl rfl (by decide) rfl ?_
      refine v_goto C 60 dX11_typeBy_90 (by decide) ?_
      exact v_sub [1, 2, 3, 4, 5, 6, 7, 8, 0] rfl (ih _ _ _ _ _ _ _ _ _ h)
set_option maxHeartbeats 4000000 in
set_option maxRecDepth 20000 in
theorem b_typeBy_50 {p : Program} {l : Launch} {e : Env} {s : State} {m : MethodId} {args : Array Value} {below : List Frame} {meth : Method} {c : Code} {D : va_G} {cy : Nat → ClassId} {ad : Nat → Nat} {q : Int32 × MS} (C : vC p s m args meth c cX11_typeBy 14 (some .int) RX11 D (cyT cy)) (hi : ∀ i j, i < 34 → j < 34 → ad i = ad j → i = j) : ∀ (x1 : Int32) (x2 : Int32) (x4 : Int32) (x5 : Int32) (x6 : Int32) (x7 : Int32) (s0 : Int32) (s1 : Int32) (s3 : Int32) (s4 : Int32) (σ : MS), B_typeBy_50 x1 x2 x4 x5 x6 x7 s0 s1 s3 s4 σ = some q → V p l e { frames := 6, cells := 0, slots := 0, locals := 147 } s m args below meth c D (inAd ad) 14 (MQ below (vQ D (inAd ad) (some (.int q.1)) (wm cy ad q.2)) args s 0 0 (inAd ad)) 0 0 (wm cy ad σ) 50 [(0, .ref (ad 0)), (1, .int x1), (2, .int x2), (4, .int x4), (5, .int x5), (6, .int x6), (7, .int x7)] [.int s0, .int s1, .ref (ad 11), .int s3, .int s4, .ref (ad 0)] := by
  intro x1 x2 x4 x5 x6 x7 s0 s1 s3 s4 σ h
  rw [B_typeBy_50] at h
  refine v_iadd C dX11_typeBy_50 ?_
  obtain ⟨g1, h⟩ := gd_of h
  refine vm_iald C 11 iI_11 (ix_in g1) dX11_typeBy_51 ?_
  obtain ⟨q1, hq1, h⟩ := bd_of h
  refine vm_call C [.int s4, .int s3, .int (σ.2.1 11 ((s1 + s0) : Int32).toNatClampNeg)] [] (c_with hi _ _ _ _ hq1) hY_with ml_177 ⟨Nat.le_of_ble_eq_true rfl, Nat.le_of_ble_eq_true rfl⟩ ⟨Nat.zero_le _, Nat.zero_le _⟩ rfl rfl (Nat.le_of_ble_eq_true rfl) dX11_typeBy_52 (wm_inj hi cy _) ?_
  refine v_istore C [(8, .int q1.1), (0, .ref (ad 0)), (1, .int x1), (2, .int x2), (4, .int x4), (5, .int x5), (6, .int x6), (7, .int x7)] dX11_typeBy_55 (by decide) rfl ?_
  refine v_iload_n C 3 dX11_typeBy_57 rfl rfl ?_
  refine v_istore C [(9, .int x2), (8, .int q1.1), (0, .ref (ad 0)), (1, .int x1), (2, .int x2), (4, .int x4), (5, .int x5), (6, .int x6), (7, .int x7)] dX11_typeBy_58 (by decide) rfl ?_
  exact v_sub [2, 3, 4, 5, 6, 7, 8, 1, 0] rfl ((l_typeBy_60 C hi 10000) _ _ _ _ _ _ _ _ _ h)
set_option maxHeartbeats 4000000 in
set_option maxRecDepth 20000 in
theorem b_typeBy_31 {p : Program} {l : Launch} {e : Env} {s : State} {m : MethodId} {args : Array Value} {below : List Frame} {meth : Method} {c : Code} {D : va_G} {cy : Nat → ClassId} {ad : Nat → Nat} {q : Int32 × MS} (C : vC p s m args meth c cX11_typeBy 14 (some .int) RX11 D (cyT cy)) (hi : ∀ i j, i < 34 → j < 34 → ad i = ad j → i = j) : ∀ (x1 : Int32) (x2 : Int32) (x3 : Int32) (x4 : Int32) (x5 : Int32) (x6 : Int32) (x7 : Int32) (s0 : Int32) (s1 : Int32) (σ : MS), B_typeBy_31 x1 x2 x3 x4 x5 x6 x7 s0 s1 σ = some q → V p l e { frames := 6, cells := 0, slots := 0, locals := 147 } s m args below meth c D (inAd ad) 14 (MQ below (vQ D (inAd ad) (some (.int q.1)) (wm cy ad q.2)) args s 0 0 (inAd ad)) 0 0 (wm cy ad σ) 31 [(0, .ref (ad 0)), (1, .int x1), (2, .int x2), (3, .int x3), (4, .int x4), (5, .int x5), (6, .int x6), (7, .int x7)] [.int s0, .int s1, .ref (ad 0)] := by
  intro x1 x2 x3 x4 x5 x6 x7 s0 s1 σ h
  rw [B_typeBy_31] at h
  refine v_aload_n C 0 dX11_typeBy_31 rfl rfl ?_
  refine n_getR C fl_42 dX11_typeBy_32 ?_
  refine v_bipush C 10 dX11_typeBy_35 (by decide) ?_
  refine v_iload_n C 3 dX11_typeBy_37 rfl rfl ?_
  refine v_imul C dX11_typeBy_38 ?_
  refine v_iload_n C 2 dX11_typeBy_39 rfl rfl ?_
  refine v_bipush C 10 dX11_typeBy_40 (by decide) ?_
  refine v_icmp_ge C 49 dX11_typeBy_42 (by decide) (fun c1 => ?_) (fun c1 => ?_)
  · rw [if_pos c1] at h
    refine v_iconst C 0 dX11_typeBy_49 (by decide) ?_
    exact v_sub [0, 1, 2, 4, 5, 6, 7] rfl ((b_typeBy_50 C hi) _ _ _ _ _ _ _ _ _ _ _ h)
  · rw [if_neg c1] at h
    refine v_iload_n C 2 dX11_typeBy_45 rfl rfl ?_
    refine v_goto C 50 dX11_typeBy_46 (by decide) ?_
    exact v_sub [0, 1, 2, 4, 5, 6, 7] rfl ((b_typeBy_50 C hi) _ _ _ _ _ _ _ _ _ _ _ h)
set_option maxHeartbeats 4000000 in
set_option maxRecDepth 20000 in
theorem c_typeBy {l : Launch} {D : va_G} {cy : Nat → ClassId} {ad : Nat → Nat} {q : Int32 × MS} (hi : ∀ i j, i < 34 → j < 34 → ad i = ad j → i = j) (x1 : Int32) (x2 : Int32) (x3 : Int32) (x4 : Int32) (σ : MS) (h : f_typeBy x1 x2 x3 x4 σ = some q) : MV l D (cyT cy) (inAd ad) yX11_typeBy cX11_typeBy 14 (some .int) 6 147 0 0 [.ref (ad 0), .int x1, .int x2, .int x3, .int x4] (wm cy ad σ) (some (.int q.1)) (wm cy ad q.2) := by
  refine MV.of (by decide) (wm_inj hi cy σ) (Nat.le_of_ble_eq_true rfl) [(0, .ref (ad 0)), (1, .int x1), (2, .int x2), (3, .int x3), (4, .int x4)] rfl ?_
  intro p e s m args below meth c C
  rw [f_typeBy] at h
  refine v_aload_n C 0 dX11_typeBy_0 rfl rfl ?_
  refine n_getI C fl_140 dX11_typeBy_1 ?_
  refine v_istore C [(5, .int (σ.1 19)), (0, .ref (ad 0)), (1, .int x1), (2, .int x2), (3, .int x3), (4, .int x4)] dX11_typeBy_4 (by decide) rfl ?_
  refine v_aload_n C 1 dX11_typeBy_6 rfl rfl ?_
  refine n_getI C fl_45 dX11_typeBy_7 ?_
  refine v_istore C [(6, .int (σ.1 21)), (5, .int (σ.1 19)), (0, .ref (ad 0)), (1, .int x1), (2, .int x2), (3, .int x3), (4, .int x4)] dX11_typeBy_10 (by decide) rfl ?_
  refine v_aload_n C 2 dX11_typeBy_12 rfl rfl ?_
  refine n_getI C fl_133 dX11_typeBy_13 ?_
  refine v_istore C [(7, .int (σ.1 1)), (6, .int (σ.1 21)), (5, .int (σ.1 19)), (0, .ref (ad 0)), (1, .int x1), (2, .int x2), (3, .int x3), (4, .int x4)] dX11_typeBy_16 (by decide) rfl ?_
  refine v_aload_n C 3 dX11_typeBy_18 rfl rfl ?_
  refine v_iload_n C 6 dX11_typeBy_19 rfl rfl ?_
  refine v_iload_n C 5 dX11_typeBy_20 rfl rfl ?_
  refine v_bipush C 10 dX11_typeBy_21 (by decide) ?_
  refine v_icmp_ge C 30 dX11_typeBy_23 (by decide) (fun c1 => ?_) (fun c1 => ?_)
  · rw [if_pos c1] at h
    refine v_iconst C 0 dX11_typeBy_30 (by decide) ?_
    exact v_sub [3, 4, 5, 6, 7, 2, 1, 0] rfl ((b_typeBy_31 C hi) _ _ _ _ _ _ _ _ _ _ h)
  · rw [if_neg c1] at h
    refine v_iload_n C 5 dX11_typeBy_26 rfl rfl ?_
    refine v_goto C 31 dX11_typeBy_27 (by decide) ?_
    exact v_sub [3, 4, 5, 6, 7, 2, 1, 0] rfl ((b_typeBy_31 C hi) _ _ _ _ _ _ _ _ _ _ h)
set_option maxHeartbeats 4000000 in
set_option maxRecDepth 20000 in
theorem b_spread_175 {p : Program} {l : Launch} {e : Env} {s : State} {m : MethodId} {args : Array Value} {below : List Frame} {meth : Method} {c : Code} {D : va_G} {cy : Nat → ClassId} {ad : Nat → Nat} {q : Int32 × MS} (C : vC p s m args meth c cX11_spread 9 (some .int) RX11 D (cyT cy)) (hi : ∀ i j, i < 34 → j < 34 → ad i = ad j → i = j) {k8 : Int32 → Int32 → Int32 → MS → Option (Int32 × MS)} (hk8 : ∀ (x3 : Int32) (x4 : Int32) (x5 : Int32)  (σ : MS), k8 x3 x4 x5 σ = some q → V p l e { frames := 3, cells := 0, slots := 0, locals := 64 } s m args below meth c D (inAd ad) 9 (MQ below (vQ D (inAd ad) (some (.int q.1)) (wm cy ad q.2)) args s 0 0 (inAd ad)) 0 0 (wm cy ad σ) 8 [(0, .ref (ad 0)), (3, .int x3), (4, .int x4), (5, .int x5)] []) : ∀ (x3 : Int32) (x4 : Int32) (x5 : Int32) (x7 : Int32) (x8 : Int32) (σ : MS), B_spread_175 k8 x3 x4 x5 x7 x8 σ = some q → V p l e { frames := 3, cells := 0, slots := 0, locals := 64 } s m args below meth c D (inAd ad) 9 (MQ below (vQ D (inAd ad) (some (.int q.1)) (wm cy ad q.2)) args s 0 0 (inAd ad)) 0 0 (wm cy ad σ) 175 [(0, .ref (ad 0)), (3, .int x3), (4, .int x4), (5, .int x5), (7, .int x7), (8, .int x8)] [] := by
  intro x3 x4 x5 x7 x8 σ h
  rw [B_spread_175] at h
  refine v_iload C 5 dX11_spread_175 rfl ?_
  refine v_if_eq C 183 dX11_spread_177 (by decide) (fun c1 => ?_) (fun c1 => ?_)
  · rw [if_pos c1] at h
    refine v_goto C 8 dX11_spread_183 (by decide) ?_
    exact v_sub [0, 1, 2, 3] rfl (hk8 _ _ _ _ h)
  · rw [if_neg c1] at h
    refine v_iload C 4 dX11_spread_180 rfl ?_
    obtain rfl := Option.some.inj h
    exact v_iret C dX11_spread_182
set_option maxHeartbeats 4000000 in
set_option maxRecDepth 20000 in
theorem l_spread_100 {p : Program} {l : Launch} {e : Env} {s : State} {m : MethodId} {args : Array Value} {below : List Frame} {meth : Method} {c : Code} {D : va_G} {cy : Nat → ClassId} {ad : Nat → Nat} {q : Int32 × MS} (C : vC p s m args meth c cX11_spread 9 (some .int) RX11 D (cyT cy)) (hi : ∀ i j, i < 34 → j < 34 → ad i = ad j → i = j) {k8 : Int32 → Int32 → Int32 → MS → Option (Int32 × MS)} (hk8 : ∀ (x3 : Int32) (x4 : Int32) (x5 : Int32)  (σ : MS), k8 x3 x4 x5 σ = some q → V p l e { frames := 3, cells := 0, slots := 0, locals := 64 } s m args below meth c D (inAd ad) 9 (MQ below (vQ D (inAd ad) (some (.int q.1)) (wm cy ad q.2)) args s 0 0 (inAd ad)) 0 0 (wm cy ad σ) 8 [(0, .ref (ad 0)), (3, .int x3), (4, .int x4), (5, .int x5)] []) : ∀ (n : Nat) (x3 : Int32) (x4 : Int32) (x5 : Int32) (x7 : Int32) (x8 : Int32) (σ : MS), L_spread_100 k8 n x3 x4 x5 x7 x8 σ = some q → V p l e { frames := 3, cells := 0, slots := 0, locals := 64 } s m args below meth c D (inAd ad) 9 (MQ below (vQ D (inAd ad) (some (.int q.1)) (wm cy ad q.2)) args s 0 0 (inAd ad)) 0 0 (wm cy ad σ) 100 [(0, .ref (ad 0)), (3, .int x3), (4, .int x4), (5, .int x5), (7, .int x7), (8, .int x8)] [] := by
  intro n
  induction n with
  | zero =>
    intro x3 x4 x5 x7 x8 σ h
    rw [L_spread_100.eq_1] at h
    cases h
  | succ n ih =>
    intro x3 x4 x5 x7 x8 σ h
    rw [L_spread_100.eq_2] at h
    refine v_iload C 3 dX11_spread_100 rfl ?_
    refine v_if_le C 175 dX11_spread_102 (by decide) (fun c1 => ?_) (fun c1 => ?_)
    · rw [if_pos c1] at h
      exact v_sub [0, 1, 2, 3, 4, 5] rfl ((b_spread_175 C hi hk8) _ _ _ _ _ _ h)
    · rw [if_neg c1] at h
      refine v_iload C 5 dX11_spread_105 rfl ?_
      refine v_if_eq C 175 dX11_spread_107 (by decide) (fun c2 => ?_) (fun c2 => ?_)
      · rw [if_pos c2] at h
        exact v_sub [0, 1, 2, 3, 4, 5] rfl ((b_spread_175 C hi hk8) _ _ _ _ _ _ h)
      · rw [if_neg c2] at h
        refine v_aload_n C 0 dX11_spread_110 rfl rfl ?_
        refine n_getR C fl_73 dX11_spread_111 ?_
        refine v_iload C 3 dX11_spread_114 rfl ?_
        refine v_iconst C 1 dX11_spread_116 (by decide) ?_
        refine v_isub C dX11_spread_117 ?_
        obtain ⟨g1, h⟩ := gd_of h
        refine vm_iald C 20 iI_20 (ix_in g1) dX11_spread_118 ?_
        refine v_if_ge C 150 dX11_spread_119 (by decide) (fun c3 => ?_) (fun c3 => ?_)
        · rw [if_pos c3] at h
          refine v_aload_n C 0 dX11_spread_150 rfl rfl ?_
          refine v_iconst C 5 dX11_spread_151 (by decide) ?_
          refine v_aload_n C 0 dX11_spread_152 rfl rfl ?_
          refine n_getR C fl_73 dX11_spread_153 ?_
          refine v_iload C 3 dX11_spread_156 rfl ?_
          refine v_iconst C 1 dX11_spread_158 (by decide) ?_
          refine v_isub C dX11_spread_159 ?_
          obtain ⟨g2, h⟩ := gd_of h
          refine vm_iald C 20 iI_20 (ix_in g2) dX11_spread_160 ?_
          refine v_iload C 4 dX11_spread_161 rfl ?_
          refine v_iconst C 0 dX11_spread_163 (by decide) ?_
          obtain ⟨q1, hq1, h⟩ := bd_of h
          refine vm_call C [.int 5, .int (σ.2.1 20 ((x5 - 1) : Int32).toNatClampNeg), .int x7, .int 0] [] (c_lays hi _ _ _ _ _ hq1) hY_lays ml_115 ⟨Nat.le_of_ble_eq_true rfl, Nat.le_of_ble_eq_true rfl⟩ ⟨Nat.zero_le _, Nat.zero_le _⟩ rfl rfl (Nat.le_of_ble_eq_true rfl) dX11_spread_164 (wm_inj hi cy _) ?_
          refine v_istore C [(7, .int q1.1), (0, .ref (ad 0)), (3, .int x3), (4, .int x4), (5, .int x5), (8, .int x8)] dX11_spread_167 (by decide) rfl ?_
          refine v_iinc C (x5 + (-1)) 4 [(5, .int (x5 + (-1))), (7, .int q1.1), (0, .ref (ad 0)), (3, .int x3), (4, .int x4), (8, .int x8)] dX11_spread_169 rfl rfl (by decide) rfl ?_
          refine v_goto C 100 dX11_spread_172 (by decide) ?_
          exact v_sub [2, 3, 4, 0, 1, 5] rfl (ih _ _ _ _ _ _ h)
        · rw [if_neg c3] at h
          refine v_aload_n C 0 dX11_spread_122 rfl rfl ?_
          refine n_getR C fl_73 dX11_spread_123 ?_
          refine v_iload C 3 dX11_spread_126 rfl ?_
          refine v_iconst C 1 dX11_spread_128 (by decide) ?_
          refine v_isub C dX11_spread_129 ?_
          refine v_iload C 4 dX11_spread_130 rfl ?_
          obtain ⟨g3, h⟩ := gd_of h
          refine vm_iast C 20 iI_20 (ix_in g3) dX11_spread_132 ?_
          refine v_aload_n C 0 dX11_spread_133 rfl rfl ?_
          refine n_getR C fl_70 dX11_spread_134 ?_
          refine v_iload C 3 dX11_spread_137 rfl ?_
          refine v_iconst C 1 dX11_spread_139 (by decide) ?_
          refine v_isub C dX11_spread_140 ?_
          obtain ⟨g4, h⟩ := gd_of h
          refine vm_iald C 19 iI_19 (ix_in g4) dX11_spread_141 ?_
          refine v_istore C [(4, .int ((setA σ 20 ((x5 - 1) : Int32).toNatClampNeg x7).2.1 19 ((x5 - 1) : Int32).toNatClampNeg)), (0, .ref (ad 0)), (3, .int x3), (5, .int x5), (7, .int x7), (8, .int x8)] dX11_spread_142 (by decide) rfl ?_
          refine v_iconst C 0 dX11_spread_144 (by decide) ?_
          refine v_istore C [(8, .int 0), (4, .int ((setA σ 20 ((x5 - 1) : Int32).toNatClampNeg x7).2.1 19 ((x5 - 1) : Int32).toNatClampNeg)), (0, .ref (ad 0)), (3, .int x3), (5, .int x5), (7, .int x7)] dX11_spread_145 (by decide) rfl ?_
          refine v_goto C 100 dX11_spread_147 (by decide) ?_
          exact v_sub [2, 3, 1, 4, 5, 0] rfl (ih _ _ _ _ _ _ h)
set_option maxHeartbeats 4000000 in
set_option maxRecDepth 20000 in
theorem b_spread_89 {p : Program} {l : Launch} {e : Env} {s : State} {m : MethodId} {args : Array Value} {below : List Frame} {meth : Method} {c : Code} {D : va_G} {cy : Nat → ClassId} {ad : Nat → Nat} {q : Int32 × MS} (C : vC p s m args meth c cX11_spread 9 (some .int) RX11 D (cyT cy)) (hi : ∀ i j, i < 34 → j < 34 → ad i = ad j → i = j) {k8 : Int32 → Int32 → Int32 → MS → Option (Int32 × MS)} (hk8 : ∀ (x3 : Int32) (x4 : Int32) (x5 : Int32)  (σ : MS), k8 x3 x4 x5 σ = some q → V p l e { frames := 3, cells := 0, slots := 0, locals := 64 } s m args below meth c D (inAd ad) 9 (MQ below (vQ D (inAd ad) (some (.int q.1)) (wm cy ad q.2)) args s 0 0 (inAd ad)) 0 0 (wm cy ad σ) 8 [(0, .ref (ad 0)), (3, .int x3), (4, .int x4), (5, .int x5)] []) : ∀ (x3 : Int32) (x4 : Int32) (x5 : Int32) (s0 : Int32) (σ : MS), B_spread_89 k8 x3 x4 x5 s0 σ = some q → V p l e { frames := 3, cells := 0, slots := 0, locals := 64 } s m args below meth c D (inAd ad) 9 (MQ below (vQ D (inAd ad) (some (.int q.1)) (wm cy ad q.2)) args s 0 0 (inAd ad)) 0 0 (wm cy ad σ) 89 [(0, .ref (ad 0)), (3, .int x3), (4, .int x4), (5, .int x5)] [.int s0] := by
  intro x3 x4 x5 s0 σ h
  rw [B_spread_89] at h
  refine v_istore C [(7, .int s0), (0, .ref (ad 0)), (3, .int x3), (4, .int x4), (5, .int x5)] dX11_spread_89 (by decide) rfl ?_
  refine v_aload_n C 1 dX11_spread_91 rfl rfl ?_
  refine v_iload_n C 2 dX11_spread_92 rfl rfl ?_
  obtain ⟨q1, hq1, h⟩ := bd_of h
  refine vm_call C [.int x3] [] (c_behind hi _ _ hq1) hY_behind ml_127 ⟨Nat.le_of_ble_eq_true rfl, Nat.le_of_ble_eq_true rfl⟩ ⟨Nat.zero_le _, Nat.zero_le _⟩ rfl rfl (Nat.le_of_ble_eq_true rfl) dX11_spread_93 (wm_inj hi cy _) ?_
  refine v_istore_n C [(3, .int q1.1), (7, .int s0), (0, .ref (ad 0)), (4, .int x4), (5, .int x5)] dX11_spread_96 rfl (by decide) rfl ?_
  refine v_iconst C 1 dX11_spread_97 (by decide) ?_
  refine v_istore C [(8, .int 1), (3, .int q1.1), (7, .int s0), (0, .ref (ad 0)), (4, .int x4), (5, .int x5)] dX11_spread_98 (by decide) rfl ?_
  exact v_sub [3, 1, 4, 5, 2, 0] rfl ((l_spread_100 C hi hk8 10000) _ _ _ _ _ _ h)
set_option maxHeartbeats 4000000 in
set_option maxRecDepth 20000 in
theorem l_spread_8 {p : Program} {l : Launch} {e : Env} {s : State} {m : MethodId} {args : Array Value} {below : List Frame} {meth : Method} {c : Code} {D : va_G} {cy : Nat → ClassId} {ad : Nat → Nat} {q : Int32 × MS} (C : vC p s m args meth c cX11_spread 9 (some .int) RX11 D (cyT cy)) (hi : ∀ i j, i < 34 → j < 34 → ad i = ad j → i = j) : ∀ (n : Nat) (x3 : Int32) (x4 : Int32) (x5 : Int32) (σ : MS), L_spread_8 n x3 x4 x5 σ = some q → V p l e { frames := 3, cells := 0, slots := 0, locals := 64 } s m args below meth c D (inAd ad) 9 (MQ below (vQ D (inAd ad) (some (.int q.1)) (wm cy ad q.2)) args s 0 0 (inAd ad)) 0 0 (wm cy ad σ) 8 [(0, .ref (ad 0)), (3, .int x3), (4, .int x4), (5, .int x5)] [] := by
  intro n
  induction n with
  | zero =>
    intro x3 x4 x5 σ h
    rw [L_spread_8.eq_1] at h
    cases h
  | succ n ih =>
    intro x3 x4 x5 σ h
    rw [L_spread_8.eq_2] at h
    refine v_aload_n C 0 dX11_spread_8 rfl rfl ?_
    refine n_getR C fl_7 dX11_spread_9 ?_
    refine v_iload_n C 1 dX11_spread_12 rfl rfl ?_
    obtain ⟨g1, h⟩ := gd_of h
    refine vm_iald C 1 iI_1 (ix_in g1) dX11_spread_13 ?_
    refine v_istore C [(6, .int (σ.2.1 1 (x3 : Int32).toNatClampNeg)), (0, .ref (ad 0)), (3, .int x3), (4, .int x4), (5, .int x5)] dX11_spread_14 (by decide) rfl ?_
    refine v_iload C 0 dX11_spread_16 rfl ?_
    refine v_bipush C 83 dX11_spread_18 (by decide) ?_
    refine v_icmp_ne C 68 dX11_spread_20 (by decide) (fun c1 => ?_) (fun c1 => ?_)
    · rw [if_neg c1] at h
      refine v_iload C 0 dX11_spread_68 rfl ?_
      refine v_bipush C 49 dX11_spread_70 (by decide) ?_
      refine v_icmp_ne C 87 dX11_spread_72 (by decide) (fun c2 => ?_) (fun c2 => ?_)
      · rw [if_neg c2] at h
        refine v_iload C 3 dX11_spread_87 rfl ?_
        exact v_sub [1, 2, 3, 4] rfl ((b_spread_89 C hi ih) _ _ _ _ _ h)
      · rw [if_pos c2] at h
        refine v_aload_n C 1 dX11_spread_75 rfl rfl ?_
        refine v_bipush C 6 dX11_spread_76 (by decide) ?_
        refine v_iconst C 0 dX11_spread_78 (by decide) ?_
        refine v_iconst C 0 dX11_spread_79 (by decide) ?_
        refine v_iconst C 0 dX11_spread_80 (by decide) ?_
        obtain ⟨q1, hq1, h⟩ := bd_of h
        refine vm_call C [.int 6, .int 0, .int 0, .int 0] [] (c_lays hi _ _ _ _ _ hq1) hY_lays ml_115 ⟨Nat.le_of_ble_eq_true rfl, Nat.le_of_ble_eq_true rfl⟩ ⟨Nat.zero_le _, Nat.zero_le _⟩ rfl rfl (Nat.le_of_ble_eq_true rfl) dX11_spread_81 (wm_inj hi cy _) ?_
        refine v_goto C 89 dX11_spread_84 (by decide) ?_
        exact v_sub [1, 2, 3, 4] rfl ((b_spread_89 C hi ih) _ _ _ _ _ h)
    · rw [if_pos c1] at h
      refine v_aload_n C 1 dX11_spread_23 rfl rfl ?_
      refine n_getR C fl_70 dX11_spread_24 ?_
      refine v_iload C 4 dX11_spread_27 rfl ?_
      refine v_aload_n C 1 dX11_spread_29 rfl rfl ?_
      refine v_iconst C 4 dX11_spread_30 (by decide) ?_
      refine v_iload C 3 dX11_spread_31 rfl ?_
      refine v_iconst C 0 dX11_spread_33 (by decide) ?_
      refine v_iconst C 0 dX11_spread_34 (by decide) ?_
      obtain ⟨q2, hq2, h⟩ := bd_of h
      refine vm_call C [.int 4, .int x4, .int 0, .int 0] [.int x5, .ref (ad 19)] (c_lays hi _ _ _ _ _ hq2) hY_lays ml_115 ⟨Nat.le_of_ble_eq_true rfl, Nat.le_of_ble_eq_true rfl⟩ ⟨Nat.zero_le _, Nat.zero_le _⟩ rfl rfl (Nat.le_of_ble_eq_true rfl) dX11_spread_35 (wm_inj hi cy _) ?_
      obtain ⟨g2, h⟩ := gd_of h
      refine vm_iast C 19 iI_19 (ix_in g2) dX11_spread_38 ?_
      refine v_aload_n C 1 dX11_spread_39 rfl rfl ?_
      refine n_getR C fl_73 dX11_spread_40 ?_
      refine v_iload C 4 dX11_spread_43 rfl ?_
      refine v_bipush C (-9) dX11_spread_45 (by decide) ?_
      obtain ⟨g3, h⟩ := gd_of h
      refine vm_iast C 20 iI_20 (ix_in g3) dX11_spread_47 ?_
      refine v_iinc C (x5 + 1) 4 [(5, .int (x5 + 1)), (6, .int (σ.2.1 1 (x3 : Int32).toNatClampNeg)), (0, .ref (ad 0)), (3, .int x3), (4, .int x4)] dX11_spread_48 rfl rfl (by decide) rfl ?_
      refine v_aload_n C 2 dX11_spread_51 rfl rfl ?_
      refine v_iconst C 3 dX11_spread_52 (by decide) ?_
      refine v_iload C 4 dX11_spread_53 rfl ?_
      refine v_iconst C 0 dX11_spread_55 (by decide) ?_
      refine v_iconst C 0 dX11_spread_56 (by decide) ?_
      obtain ⟨q3, hq3, h⟩ := bd_of h
      refine vm_call C [.int 3, .int x4, .int 0, .int 0] [] (c_lays hi _ _ _ _ _ hq3) hY_lays ml_115 ⟨Nat.le_of_ble_eq_true rfl, Nat.le_of_ble_eq_true rfl⟩ ⟨Nat.zero_le _, Nat.zero_le _⟩ rfl rfl (Nat.le_of_ble_eq_true rfl) dX11_spread_57 (wm_inj hi cy _) ?_
      refine v_istore C [(4, .int q3.1), (5, .int (x5 + 1)), (6, .int (σ.2.1 1 (x3 : Int32).toNatClampNeg)), (0, .ref (ad 0)), (3, .int x3)] dX11_spread_60 (by decide) rfl ?_
      refine v_iinc C (x3 + 1) 4 [(3, .int (x3 + 1)), (4, .int q3.1), (5, .int (x5 + 1)), (6, .int (σ.2.1 1 (x3 : Int32).toNatClampNeg)), (0, .ref (ad 0))] dX11_spread_62 rfl rfl (by decide) rfl ?_
      refine v_goto C 8 dX11_spread_65 (by decide) ?_
      exact v_sub [4, 0, 1, 2] rfl (ih _ _ _ _ h)
set_option maxHeartbeats 4000000 in
set_option maxRecDepth 20000 in
theorem c_spread {l : Launch} {D : va_G} {cy : Nat → ClassId} {ad : Nat → Nat} {q : Int32 × MS} (hi : ∀ i j, i < 34 → j < 34 → ad i = ad j → i = j) (x1 : Int32) (x2 : Int32) (σ : MS) (h : f_spread x1 x2 σ = some q) : MV l D (cyT cy) (inAd ad) yX11_spread cX11_spread 9 (some .int) 3 64 0 0 [.ref (ad 0), .int x1, .int x2] (wm cy ad σ) (some (.int q.1)) (wm cy ad q.2) := by
  refine MV.of (by decide) (wm_inj hi cy σ) (Nat.le_of_ble_eq_true rfl) [(0, .ref (ad 0)), (1, .int x1), (2, .int x2)] rfl ?_
  intro p e s m args below meth c C
  rw [f_spread] at h
  refine v_iload_n C 2 dX11_spread_0 rfl rfl ?_
  refine v_istore_n C [(3, .int x2), (0, .ref (ad 0)), (1, .int x1), (2, .int x2)] dX11_spread_1 rfl (by decide) rfl ?_
  refine v_iload_n C 2 dX11_spread_2 rfl rfl ?_
  refine v_istore C [(4, .int x1), (3, .int x2), (0, .ref (ad 0)), (1, .int x1), (2, .int x2)] dX11_spread_3 (by decide) rfl ?_
  refine v_iconst C 0 dX11_spread_5 (by decide) ?_
  refine v_istore C [(5, .int 0), (4, .int x1), (3, .int x2), (0, .ref (ad 0)), (1, .int x1), (2, .int x2)] dX11_spread_6 (by decide) rfl ?_
  exact v_sub [3, 2, 1, 0] rfl ((l_spread_8 C hi 10000) _ _ _ _ h)
set_option maxHeartbeats 4000000 in
set_option maxRecDepth 20000 in
theorem b_longBy_279 {p : Program} {l : Launch} {e : Env} {s : State} {m : MethodId} {args : Array Value} {below : List Frame} {meth : Method} {c : Code} {D : va_G} {cy : Nat → ClassId} {ad : Nat → Nat} {q : Int32 × MS} (C : vC p s m args meth c cX11_longBy 13 (some .int) RX11 D (cyT cy)) (hi : ∀ i j, i < 34 → j < 34 → ad i = ad j → i = j) {k281 : Int32 → Int32 → Int32 → Int32 → Int32 → Int32 → Int32 → Int32 → MS → Option (Int32 × MS)} (hk281 : ∀ (x4 : Int32) (x5 : Int32) (x6 : Int32) (x7 : Int32) (x8 : Int32) (x9 : Int32) (x10 : Int32) (x11 : Int32)  (σ : MS), k281 x4 x5 x6 x7 x8 x9 x10 x11 σ = some q → V p l e { frames := 6, cells := 0, slots := 0, locals := 144 } s m args below meth c D (inAd ad) 13 (MQ below (vQ D (inAd ad) (some (.int q.1)) (wm cy ad q.2)) args s 0 0 (inAd ad)) 0 0 (wm cy ad σ) 281 [(0, .ref (ad 0)), (4, .int x4), (5, .int x5), (6, .int x6), (7, .int x7), (8, .int x8), (9, .int x9), (10, .int x10), (11, .int x11)] []) : ∀ (x4 : Int32) (x5 : Int32) (x6 : Int32) (x7 : Int32) (x8 : Int32) (x10 : Int32) (x11 : Int32) (s0 : Int32) (σ : MS), B_longBy_279 k281 x4 x5 x6 x7 x8 x10 x11 s0 σ = some q → V p l e { frames := 6, cells := 0, slots := 0, locals := 144 } s m args below meth c D (inAd ad) 13 (MQ below (vQ D (inAd ad) (some (.int q.1)) (wm cy ad q.2)) args s 0 0 (inAd ad)) 0 0 (wm cy ad σ) 279 [(0, .ref (ad 0)), (4, .int x4), (5, .int x5), (6, .int x6), (7, .int x7), (8, .int x8), (10, .int x10), (11, .int x11)] [.int s0] := by
  intro x4 x5 x6 x7 x8 x10 x11 s0 σ h
  rw [B_longBy_279] at h
  refine v_istore C [(9, .int s0), (0, .ref (ad 0)), (4, .int x4), (5, .int x5), (6, .int x6), (7, .int x7), (8, .int x8), (10, .int x10), (11, .int x11)] dX11_longBy_279 (by decide) rfl ?_
  exact v_sub [1, 2, 3, 4, 5, 6, 0, 7, 8] rfl (hk281 _ _ _ _ _ _ _ _ _ h)
set_option maxHeartbeats 4000000 in
set_option maxRecDepth 20000 in
theorem b_longBy_260 {p : Program} {l : Launch} {e : Env} {s : State} {m : MethodId} {args : Array Value} {below : List Frame} {meth : Method} {c : Code} {D : va_G} {cy : Nat → ClassId} {ad : Nat → Nat} {q : Int32 × MS} (C : vC p s m args meth c cX11_longBy 13 (some .int) RX11 D (cyT cy)) (hi : ∀ i j, i < 34 → j < 34 → ad i = ad j → i = j) {k281 : Int32 → Int32 → Int32 → Int32 → Int32 → Int32 → Int32 → Int32 → MS → Option (Int32 × MS)} (hk281 : ∀ (x4 : Int32) (x5 : Int32) (x6 : Int32) (x7 : Int32) (x8 : Int32) (x9 : Int32) (x10 : Int32) (x11 : Int32)  (σ : MS), k281 x4 x5 x6 x7 x8 x9 x10 x11 σ = some q → V p l e { frames := 6, cells := 0, slots := 0, locals := 144 } s m args below meth c D (inAd ad) 13 (MQ below (vQ D (inAd ad) (some (.int q.1)) (wm cy ad q.2)) args s 0 0 (inAd ad)) 0 0 (wm cy ad σ) 281 [(0, .ref (ad 0)), (4, .int x4), (5, .int x5), (6, .int x6), (7, .int x7), (8, .int x8), (9, .int x9), (10, .int x10), (11, .int x11)] []) : ∀ (x4 : Int32) (x5 : Int32) (x6 : Int32) (x7 : Int32) (x9 : Int32) (x10 : Int32) (x11 : Int32) (s0 : Int32) (σ : MS), B_longBy_260 k281 x4 x5 x6 x7 x9 x10 x11 s0 σ = some q → V p l e { frames := 6, cells := 0, slots := 0, locals := 144 } s m args below meth c D (inAd ad) 13 (MQ below (vQ D (inAd ad) (some (.int q.1)) (wm cy ad q.2)) args s 0 0 (inAd ad)) 0 0 (wm cy ad σ) 260 [(0, .ref (ad 0)), (4, .int x4), (5, .int x5), (6, .int x6), (7, .int x7), (9, .int x9), (10, .int x10), (11, .int x11)] [.int s0] := by
  intro x4 x5 x6 x7 x9 x10 x11 s0 σ h
  rw [B_longBy_260] at h
  refine v_istore C [(8, .int s0), (0, .ref (ad 0)), (4, .int x4), (5, .int x5), (6, .int x6), (7, .int x7), (9, .int x9), (10, .int x10), (11, .int x11)] dX11_longBy_260 (by decide) rfl ?_
  refine v_iload C 8 dX11_longBy_262 rfl ?_
  refine v_if_eq C 272 dX11_longBy_264 (by decide) (fun c1 => ?_) (fun c1 => ?_)
  · rw [if_pos c1] at h
    refine v_aload_n C 1 dX11_longBy_272 rfl rfl ?_
    refine n_getR C fl_79 dX11_longBy_273 ?_
    refine v_iload C 7 dX11_longBy_276 rfl ?_
    obtain ⟨g1, h⟩ := gd_of h
    refine vm_iald C 22 iI_22 (ix_in g1) dX11_longBy_278 ?_
    exact v_sub [1, 2, 3, 4, 5, 0, 7, 8] rfl ((b_longBy_279 C hi hk281) _ _ _ _ _ _ _ _ _ h)
  · rw [if_neg c1] at h
    refine v_iload C 6 dX11_longBy_267 rfl ?_
    refine v_goto C 279 dX11_longBy_269 (by decide) ?_
    exact v_sub [1, 2, 3, 4, 5, 0, 7, 8] rfl ((b_longBy_279 C hi hk281) _ _ _ _ _ _ _ _ _ h)
set_option maxHeartbeats 4000000 in
set_option maxRecDepth 20000 in
theorem b_longBy_240 {p : Program} {l : Launch} {e : Env} {s : State} {m : MethodId} {args : Array Value} {below : List Frame} {meth : Method} {c : Code} {D : va_G} {cy : Nat → ClassId} {ad : Nat → Nat} {q : Int32 × MS} (C : vC p s m args meth c cX11_longBy 13 (some .int) RX11 D (cyT cy)) (hi : ∀ i j, i < 34 → j < 34 → ad i = ad j → i = j) {k281 : Int32 → Int32 → Int32 → Int32 → Int32 → Int32 → Int32 → Int32 → MS → Option (Int32 × MS)} (hk281 : ∀ (x4 : Int32) (x5 : Int32) (x6 : Int32) (x7 : Int32) (x8 : Int32) (x9 : Int32) (x10 : Int32) (x11 : Int32)  (σ : MS), k281 x4 x5 x6 x7 x8 x9 x10 x11 σ = some q → V p l e { frames := 6, cells := 0, slots := 0, locals := 144 } s m args below meth c D (inAd ad) 13 (MQ below (vQ D (inAd ad) (some (.int q.1)) (wm cy ad q.2)) args s 0 0 (inAd ad)) 0 0 (wm cy ad σ) 281 [(0, .ref (ad 0)), (4, .int x4), (5, .int x5), (6, .int x6), (7, .int x7), (8, .int x8), (9, .int x9), (10, .int x10), (11, .int x11)] []) : ∀ (x4 : Int32) (x5 : Int32) (x6 : Int32) (x7 : Int32) (x8 : Int32) (x9 : Int32) (x11 : Int32) (s0 : Int32) (s1 : Int32) (σ : MS), B_longBy_240 k281 x4 x5 x6 x7 x8 x9 x11 s0 s1 σ = some q → V p l e { frames := 6, cells := 0, slots := 0, locals := 144 } s m args below meth c D (inAd ad) 13 (MQ below (vQ D (inAd ad) (some (.int q.1)) (wm cy ad q.2)) args s 0 0 (inAd ad)) 0 0 (wm cy ad σ) 240 [(0, .ref (ad 0)), (4, .int x4), (5, .int x5), (6, .int x6), (7, .int x7), (8, .int x8), (9, .int x9), (11, .int x11)] [.int s0, .int s1] := by
  intro x4 x5 x6 x7 x8 x9 x11 s0 s1 σ h
  rw [B_longBy_240] at h
  refine v_isub C dX11_longBy_240 ?_
  refine v_istore C [(10, .int (s1 - s0)), (0, .ref (ad 0)), (4, .int x4), (5, .int x5), (6, .int x6), (7, .int x7), (8, .int x8), (9, .int x9), (11, .int x11)] dX11_longBy_241 (by decide) rfl ?_
  refine v_iload C 8 dX11_longBy_243 rfl ?_
  refine v_if_eq C 253 dX11_longBy_245 (by decide) (fun c1 => ?_) (fun c1 => ?_)
  · rw [if_pos c1] at h
    refine v_aload_n C 1 dX11_longBy_253 rfl rfl ?_
    refine n_getR C fl_76 dX11_longBy_254 ?_
    refine v_iload C 0 dX11_longBy_257 rfl ?_
    obtain ⟨g1, h⟩ := gd_of h
    refine vm_iald C 21 iI_21 (ix_in g1) dX11_longBy_259 ?_
    exact v_sub [1, 2, 3, 4, 5, 7, 0, 8] rfl ((b_longBy_260 C hi hk281) _ _ _ _ _ _ _ _ _ h)
  · rw [if_neg c1] at h
    refine v_iload C 6 dX11_longBy_248 rfl ?_
    refine v_goto C 260 dX11_longBy_250 (by decide) ?_
    exact v_sub [1, 2, 3, 4, 5, 7, 0, 8] rfl ((b_longBy_260 C hi hk281) _ _ _ _ _ _ _ _ _ h)
set_option maxHeartbeats 4000000 in
set_option maxRecDepth 20000 in
theorem b_longBy_226 {p : Program} {l : Launch} {e : Env} {s : State} {m : MethodId} {args : Array Value} {below : List Frame} {meth : Method} {c : Code} {D : va_G} {cy : Nat → ClassId} {ad : Nat → Nat} {q : Int32 × MS} (C : vC p s m args meth c cX11_longBy 13 (some .int) RX11 D (cyT cy)) (hi : ∀ i j, i < 34 → j < 34 → ad i = ad j → i = j) {k281 : Int32 → Int32 → Int32 → Int32 → Int32 → Int32 → Int32 → Int32 → MS → Option (Int32 × MS)} (hk281 : ∀ (x4 : Int32) (x5 : Int32) (x6 : Int32) (x7 : Int32) (x8 : Int32) (x9 : Int32) (x10 : Int32) (x11 : Int32)  (σ : MS), k281 x4 x5 x6 x7 x8 x9 x10 x11 σ = some q → V p l e { frames := 6, cells := 0, slots := 0, locals := 144 } s m args below meth c D (inAd ad) 13 (MQ below (vQ D (inAd ad) (some (.int q.1)) (wm cy ad q.2)) args s 0 0 (inAd ad)) 0 0 (wm cy ad σ) 281 [(0, .ref (ad 0)), (4, .int x4), (5, .int x5), (6, .int x6), (7, .int x7), (8, .int x8), (9, .int x9), (10, .int x10), (11, .int x11)] []) : ∀ (x4 : Int32) (x5 : Int32) (x6 : Int32) (x7 : Int32) (x8 : Int32) (x9 : Int32) (x10 : Int32) (s0 : Int32) (σ : MS), B_longBy_226 k281 x4 x5 x6 x7 x8 x9 x10 s0 σ = some q → V p l e { frames := 6, cells := 0, slots := 0, locals := 144 } s m args below meth c D (inAd ad) 13 (MQ below (vQ D (inAd ad) (some (.int q.1)) (wm cy ad q.2)) args s 0 0 (inAd ad)) 0 0 (wm cy ad σ) 226 [(0, .ref (ad 0)), (4, .int x4), (5, .int x5), (6, .int x6), (7, .int x7), (8, .int x8), (9, .int x9), (10, .int x10)] [.int s0] := by
  intro x4 x5 x6 x7 x8 x9 x10 s0 σ h
  rw [B_longBy_226] at h
  refine v_istore C [(11, .int s0), (0, .ref (ad 0)), (4, .int x4), (5, .int x5), (6, .int x6), (7, .int x7), (8, .int x8), (9, .int x9), (10, .int x10)] dX11_longBy_226 (by decide) rfl ?_
  refine v_iload C 8 dX11_longBy_228 rfl ?_
  refine v_iload C 0 dX11_longBy_230 rfl ?_
  refine v_if_eq C 239 dX11_longBy_232 (by decide) (fun c1 => ?_) (fun c1 => ?_)
  · rw [if_pos c1] at h
    refine v_iconst C 1 dX11_longBy_239 (by decide) ?_
    exact v_sub [1, 2, 3, 4, 5, 6, 7, 0] rfl ((b_longBy_240 C hi hk281) _ _ _ _ _ _ _ _ _ _ h)
  · rw [if_neg c1] at h
    refine v_iconst C 0 dX11_longBy_235 (by decide) ?_
    refine v_goto C 240 dX11_longBy_236 (by decide) ?_
    exact v_sub [1, 2, 3, 4, 5, 6, 7, 0] rfl ((b_longBy_240 C hi hk281) _ _ _ _ _ _ _ _ _ _ h)
set_option maxHeartbeats 4000000 in
set_option maxRecDepth 20000 in
theorem b_longBy_137 {p : Program} {l : Launch} {e : Env} {s : State} {m : MethodId} {args : Array Value} {below : List Frame} {meth : Method} {c : Code} {D : va_G} {cy : Nat → ClassId} {ad : Nat → Nat} {q : Int32 × MS} (C : vC p s m args meth c cX11_longBy 13 (some .int) RX11 D (cyT cy)) (hi : ∀ i j, i < 34 → j < 34 → ad i = ad j → i = j) {k281 : Int32 → Int32 → Int32 → Int32 → Int32 → Int32 → Int32 → Int32 → MS → Option (Int32 × MS)} (hk281 : ∀ (x4 : Int32) (x5 : Int32) (x6 : Int32) (x7 : Int32) (x8 : Int32) (x9 : Int32) (x10 : Int32) (x11 : Int32)  (σ : MS), k281 x4 x5 x6 x7 x8 x9 x10 x11 σ = some q → V p l e { frames := 6, cells := 0, slots := 0, locals := 144 } s m args below meth c D (inAd ad) 13 (MQ below (vQ D (inAd ad) (some (.int q.1)) (wm cy ad q.2)) args s 0 0 (inAd ad)) 0 0 (wm cy ad σ) 281 [(0, .ref (ad 0)), (4, .int x4), (5, .int x5), (6, .int x6), (7, .int x7), (8, .int x8), (9, .int x9), (10, .int x10), (11, .int x11)] []) : ∀ (x4 : Int32) (x5 : Int32) (x6 : Int32) (x7 : Int32) (x8 : Int32) (x9 : Int32) (x10 : Int32) (x11 : Int32) (s0 : Int32) (σ : MS), B_longBy_137 k281 x4 x5 x6 x7 x8 x9 x10 x11 s0 σ = some q → V p l e { frames := 6, cells := 0, slots := 0, locals := 144 } s m args below meth c D (inAd ad) 13 (MQ below (vQ D (inAd ad) (some (.int q.1)) (wm cy ad q.2)) args s 0 0 (inAd ad)) 0 0 (wm cy ad σ) 137 [(0, .ref (ad 0)), (4, .int x4), (5, .int x5), (6, .int x6), (7, .int x7), (8, .int x8), (9, .int x9), (10, .int x10), (11, .int x11)] [.int s0, .ref (ad 0)] := by
  intro x4 x5 x6 x7 x8 x9 x10 x11 s0 σ h
  rw [B_longBy_137] at h
  obtain ⟨g1, h⟩ := gd_of h
  refine n_putZ C (bzb_in g1) fl_186 dX11_longBy_137 ?_
  refine v_aload_n C 0 dX11_longBy_140 rfl rfl ?_
  refine v_bipush C 92 dX11_longBy_141 (by decide) ?_
  obtain ⟨q1, hq1, h⟩ := bd_of h
  refine vm_call C [.int 92] [] (c_puts hi _ _ hq1) hY_puts ml_136 ⟨Nat.le_of_ble_eq_true rfl, Nat.le_of_ble_eq_true rfl⟩ ⟨Nat.zero_le _, Nat.zero_le _⟩ rfl rfl (Nat.le_of_ble_eq_true rfl) dX11_longBy_143 (wm_inj hi cy _) ?_
  refine v_aload_n C 0 dX11_longBy_146 rfl rfl ?_
  refine v_iconst C 2 dX11_longBy_147 (by decide) ?_
  refine v_iload C 5 dX11_longBy_148 rfl ?_
  refine v_aload_n C 0 dX11_longBy_150 rfl rfl ?_
  refine v_iload C 6 dX11_longBy_151 rfl ?_
  refine v_iload C 4 dX11_longBy_153 rfl ?_
  refine v_iconst C 1 dX11_longBy_155 (by decide) ?_
  refine v_iadd C dX11_longBy_156 ?_
  obtain ⟨q2, hq2, h⟩ := bd_of h
  refine vm_call C [.int x9, .int (x7 + 1)] [.int x8, .int 2, .ref (ad 0)] (c_spread hi _ _ _ hq2) hY_spread ml_207 ⟨Nat.le_of_ble_eq_true rfl, Nat.le_of_ble_eq_true rfl⟩ ⟨Nat.zero_le _, Nat.zero_le _⟩ rfl rfl (Nat.le_of_ble_eq_true rfl) dX11_longBy_157 (wm_inj hi cy _) ?_
  refine v_iconst C 0 dX11_longBy_160 (by decide) ?_
  obtain ⟨q3, hq3, h⟩ := bd_of h
  refine vm_call C [.int 2, .int x8, .int q2.1, .int 0] [] (c_lays hi _ _ _ _ _ hq3) hY_lays ml_115 ⟨Nat.le_of_ble_eq_true rfl, Nat.le_of_ble_eq_true rfl⟩ ⟨Nat.zero_le _, Nat.zero_le _⟩ rfl rfl (Nat.le_of_ble_eq_true rfl) dX11_longBy_161 (wm_inj hi cy _) ?_
  refine v_istore C [(8, .int q3.1), (0, .ref (ad 0)), (4, .int x4), (5, .int x5), (6, .int x6), (7, .int x7), (9, .int x9), (10, .int x10), (11, .int x11)] dX11_longBy_164 (by decide) rfl ?_
  refine v_iinc C (x9 + 1) 6 [(9, .int (x9 + 1)), (8, .int q3.1), (0, .ref (ad 0)), (4, .int x4), (5, .int x5), (6, .int x6), (7, .int x7), (10, .int x10), (11, .int x11)] dX11_longBy_166 rfl rfl (by decide) rfl ?_
  refine v_aload_n C 2 dX11_longBy_169 rfl rfl ?_
  refine v_iload C 6 dX11_longBy_170 rfl ?_
  refine v_iconst C 1 dX11_longBy_172 (by decide) ?_
  refine v_iadd C dX11_longBy_173 ?_
  obtain ⟨q4, hq4, h⟩ := bd_of h
  refine vm_call C [.int (x7 + 1)] [] (c_behind hi _ _ hq4) hY_behind ml_127 ⟨Nat.le_of_ble_eq_true rfl, Nat.le_of_ble_eq_true rfl⟩ ⟨Nat.zero_le _, Nat.zero_le _⟩ rfl rfl (Nat.le_of_ble_eq_true rfl) dX11_longBy_174 (wm_inj hi cy _) ?_
  refine v_istore C [(7, .int q4.1), (9, .int (x9 + 1)), (8, .int q3.1), (0, .ref (ad 0)), (4, .int x4), (5, .int x5), (6, .int x6), (10, .int x10), (11, .int x11)] dX11_longBy_177 (by decide) rfl ?_
  refine v_goto C 281 dX11_longBy_179 (by decide) ?_
  exact v_sub [3, 4, 5, 6, 0, 2, 1, 7, 8] rfl (hk281 _ _ _ _ _ _ _ _ _ h)
set_option maxHeartbeats 4000000 in
set_option maxRecDepth 20000 in
theorem b_longBy_208 {p : Program} {l : Launch} {e : Env} {s : State} {m : MethodId} {args : Array Value} {below : List Frame} {meth : Method} {c : Code} {D : va_G} {cy : Nat → ClassId} {ad : Nat → Nat} {q : Int32 × MS} (C : vC p s m args meth c cX11_longBy 13 (some .int) RX11 D (cyT cy)) (hi : ∀ i j, i < 34 → j < 34 → ad i = ad j → i = j) {k281 : Int32 → Int32 → Int32 → Int32 → Int32 → Int32 → Int32 → Int32 → MS → Option (Int32 × MS)} (hk281 : ∀ (x4 : Int32) (x5 : Int32) (x6 : Int32) (x7 : Int32) (x8 : Int32) (x9 : Int32) (x10 : Int32) (x11 : Int32)  (σ : MS), k281 x4 x5 x6 x7 x8 x9 x10 x11 σ = some q → V p l e { frames := 6, cells := 0, slots := 0, locals := 144 } s m args below meth c D (inAd ad) 13 (MQ below (vQ D (inAd ad) (some (.int q.1)) (wm cy ad q.2)) args s 0 0 (inAd ad)) 0 0 (wm cy ad σ) 281 [(0, .ref (ad 0)), (4, .int x4), (5, .int x5), (6, .int x6), (7, .int x7), (8, .int x8), (9, .int x9), (10, .int x10), (11, .int x11)] []) : ∀ (x4 : Int32) (x5 : Int32) (x6 : Int32) (x7 : Int32) (x8 : Int32) (x9 : Int32) (x10 : Int32) (σ : MS), B_longBy_208 k281 x4 x5 x6 x7 x8 x9 x10 σ = some q → V p l e { frames := 6, cells := 0, slots := 0, locals := 144 } s m args below meth c D (inAd ad) 13 (MQ below (vQ D (inAd ad) (some (.int q.1)) (wm cy ad q.2)) args s 0 0 (inAd ad)) 0 0 (wm cy ad σ) 208 [(0, .ref (ad 0)), (4, .int x4), (5, .int x5), (6, .int x6), (7, .int x7), (8, .int x8), (9, .int x9), (10, .int x10)] [] := by
  intro x4 x5 x6 x7 x8 x9 x10 σ h
  rw [B_longBy_208] at h
  refine v_aload_n C 0 dX11_longBy_208 rfl rfl ?_
  refine v_iload C 4 dX11_longBy_209 rfl ?_
  obtain ⟨q1, hq1, h⟩ := bd_of h
  refine vm_call C [.int x7] [] (c_behind hi _ _ hq1) hY_behind ml_127 ⟨Nat.le_of_ble_eq_true rfl, Nat.le_of_ble_eq_true rfl⟩ ⟨Nat.zero_le _, Nat.zero_le _⟩ rfl rfl (Nat.le_of_ble_eq_true rfl) dX11_longBy_211 (wm_inj hi cy _) ?_
  refine v_istore C [(7, .int q1.1), (0, .ref (ad 0)), (4, .int x4), (5, .int x5), (6, .int x6), (8, .int x8), (9, .int x9), (10, .int x10)] dX11_longBy_214 (by decide) rfl ?_
  refine v_iload C 7 dX11_longBy_216 rfl ?_
  refine v_if_ne C 225 dX11_longBy_218 (by decide) (fun c1 => ?_) (fun c1 => ?_)
  · rw [if_neg c1] at h
    refine v_iconst C 0 dX11_longBy_225 (by decide) ?_
    exact v_sub [1, 2, 3, 4, 0, 5, 6, 7] rfl ((b_longBy_226 C hi hk281) _ _ _ _ _ _ _ _ _ h)
  · rw [if_pos c1] at h
    refine v_iconst C 1 dX11_longBy_221 (by decide) ?_
    refine v_goto C 226 dX11_longBy_222 (by decide) ?_
    exact v_sub [1, 2, 3, 4, 0, 5, 6, 7] rfl ((b_longBy_226 C hi hk281) _ _ _ _ _ _ _ _ _ h)
set_option maxHeartbeats 4000000 in
set_option maxRecDepth 20000 in
theorem b_longBy_281 {p : Program} {l : Launch} {e : Env} {s : State} {m : MethodId} {args : Array Value} {below : List Frame} {meth : Method} {c : Code} {D : va_G} {cy : Nat → ClassId} {ad : Nat → Nat} {q : Int32 × MS} (C : vC p s m args meth c cX11_longBy 13 (some .int) RX11 D (cyT cy)) (hi : ∀ i j, i < 34 → j < 34 → ad i = ad j → i = j) {k38 : Int32 → Int32 → Int32 → Int32 → Int32 → Int32 → Int32 → Int32 → MS → Option (Int32 × MS)} (hk38 : ∀ (x4 : Int32) (x5 : Int32) (x6 : Int32) (x7 : Int32) (x8 : Int32) (x9 : Int32) (x10 : Int32) (x11 : Int32)  (σ : MS), k38 x4 x5 x6 x7 x8 x9 x10 x11 σ = some q → V p l e { frames := 6, cells := 0, slots := 0, locals := 144 } s m args below meth c D (inAd ad) 13 (MQ below (vQ D (inAd ad) (some (.int q.1)) (wm cy ad q.2)) args s 0 0 (inAd ad)) 0 0 (wm cy ad σ) 38 [(0, .ref (ad 0)), (4, .int x4), (5, .int x5), (6, .int x6), (7, .int x7), (8, .int x8), (9, .int x9), (10, .int x10), (11, .int x11)] []) : ∀ (x4 : Int32) (x5 : Int32) (x6 : Int32) (x7 : Int32) (x8 : Int32) (x9 : Int32) (x10 : Int32) (x11 : Int32) (σ : MS), B_longBy_281 k38 x4 x5 x6 x7 x8 x9 x10 x11 σ = some q → V p l e { frames := 6, cells := 0, slots := 0, locals := 144 } s m args below meth c D (inAd ad) 13 (MQ below (vQ D (inAd ad) (some (.int q.1)) (wm cy ad q.2)) args s 0 0 (inAd ad)) 0 0 (wm cy ad σ) 281 [(0, .ref (ad 0)), (4, .int x4), (5, .int x5), (6, .int x6), (7, .int x7), (8, .int x8), (9, .int x9), (10, .int x10), (11, .int x11)] [] := by
  intro x4 x5 x6 x7 x8 x9 x10 x11 σ h
  rw [B_longBy_281] at h
  refine v_aload_n C 0 dX11_longBy_281 rfl rfl ?_
  refine v_iload C 3 dX11_longBy_282 rfl ?_
  obtain ⟨q1, hq1, h⟩ := bd_of h
  refine vm_call C [.int x6] [] (c_checks hi _ _ hq1) hY_checks ml_194 ⟨Nat.le_of_ble_eq_true rfl, Nat.le_of_ble_eq_true rfl⟩ ⟨Nat.zero_le _, Nat.zero_le _⟩ rfl rfl (Nat.le_of_ble_eq_true rfl) dX11_longBy_284 (wm_inj hi cy _) ?_
  refine v_goto C 38 dX11_longBy_287 (by decide) ?_
  exact v_sub [0, 1, 2, 3, 4, 5, 6, 7, 8] rfl (hk38 _ _ _ _ _ _ _ _ _ h)
set_option maxHeartbeats 4000000 in
set_option maxRecDepth 20000 in
theorem b_longBy_290 {p : Program} {l : Launch} {e : Env} {s : State} {m : MethodId} {args : Array Value} {below : List Frame} {meth : Method} {c : Code} {D : va_G} {cy : Nat → ClassId} {ad : Nat → Nat} {q : Int32 × MS} (C : vC p s m args meth c cX11_longBy 13 (some .int) RX11 D (cyT cy)) (hi : ∀ i j, i < 34 → j < 34 → ad i = ad j → i = j) : ∀ (x4 : Int32) (x5 : Int32) (x6 : Int32) (σ : MS), B_longBy_290 x4 x5 x6 σ = some q → V p l e { frames := 6, cells := 0, slots := 0, locals := 144 } s m args below meth c D (inAd ad) 13 (MQ below (vQ D (inAd ad) (some (.int q.1)) (wm cy ad q.2)) args s 0 0 (inAd ad)) 0 0 (wm cy ad σ) 290 [(0, .ref (ad 0)), (4, .int x4), (5, .int x5), (6, .int x6)] [] := by
  intro x4 x5 x6 σ h
  rw [B_longBy_290] at h
  refine v_aload_n C 0 dX11_longBy_290 rfl rfl ?_
  refine v_iload C 3 dX11_longBy_291 rfl ?_
  refine v_iload C 1 dX11_longBy_293 rfl ?_
  refine v_iload C 2 dX11_longBy_295 rfl ?_
  obtain ⟨q1, hq1, h⟩ := bd_of h
  refine vm_call C [.int x6, .int x4, .int x5] [] (c_told hi _ _ _ _ hq1) hY_told ml_201 ⟨Nat.le_of_ble_eq_true rfl, Nat.le_of_ble_eq_true rfl⟩ ⟨Nat.zero_le _, Nat.zero_le _⟩ rfl rfl (Nat.le_of_ble_eq_true rfl) dX11_longBy_297 (wm_inj hi cy _) ?_
  obtain rfl := Option.some.inj h
  exact v_iret C dX11_longBy_300
set_option maxHeartbeats 4000000 in
set_option maxRecDepth 20000 in
theorem l_longBy_38 {p : Program} {l : Launch} {e : Env} {s : State} {m : MethodId} {args : Array Value} {below : List Frame} {meth : Method} {c : Code} {D : va_G} {cy : Nat → ClassId} {ad : Nat → Nat} {q : Int32 × MS} (C : vC p s m args meth c cX11_longBy 13 (some .int) RX11 D (cyT cy)) (hi : ∀ i j, i < 34 → j < 34 → ad i = ad j → i = j) : ∀ (n : Nat) (x4 : Int32) (x5 : Int32) (x6 : Int32) (x7 : Int32) (x8 : Int32) (x9 : Int32) (x10 : Int32) (x11 : Int32) (σ : MS), L_longBy_38 n x4 x5 x6 x7 x8 x9 x10 x11 σ = some q → V p l e { frames := 6, cells := 0, slots := 0, locals := 144 } s m args below meth c D (inAd ad) 13 (MQ below (vQ D (inAd ad) (some (.int q.1)) (wm cy ad q.2)) args s 0 0 (inAd ad)) 0 0 (wm cy ad σ) 38 [(0, .ref (ad 0)), (4, .int x4), (5, .int x5), (6, .int x6), (7, .int x7), (8, .int x8), (9, .int x9), (10, .int x10), (11, .int x11)] [] := by
  intro n
  induction n with
  | zero =>
    intro x4 x5 x6 x7 x8 x9 x10 x11 σ h
    rw [L_longBy_38.eq_1] at h
    cases h
  | succ n ih =>
    intro x4 x5 x6 x7 x8 x9 x10 x11 σ h
    rw [L_longBy_38.eq_2] at h
    refine v_iload C 8 dX11_longBy_38 rfl ?_
    refine v_if_ne C 290 dX11_longBy_40 (by decide) (fun c1 => ?_) (fun c1 => ?_)
    · rw [if_neg c1] at h
      exact v_sub [0, 1, 2, 3] rfl ((b_longBy_290 C hi) _ _ _ _ h)
    · rw [if_pos c1] at h
      refine v_aload_n C 0 dX11_longBy_43 rfl rfl ?_
      refine n_getZ C fl_186 dX11_longBy_44 ?_
      refine v_if_ne C 290 dX11_longBy_47 (by decide) (fun c2 => ?_) (fun c2 => ?_)
      · rw [if_neg c2] at h
        exact v_sub [0, 1, 2, 3] rfl ((b_longBy_290 C hi) _ _ _ _ h)
      · rw [if_pos c2] at h
        refine v_aload_n C 0 dX11_longBy_50 rfl rfl ?_
        refine n_getR C fl_7 dX11_longBy_51 ?_
        refine v_iload C 4 dX11_longBy_54 rfl ?_
        obtain ⟨g1, h⟩ := gd_of h
        refine vm_iald C 1 iI_1 (ix_in g1) dX11_longBy_56 ?_
        refine v_istore C [(12, .int (σ.2.1 1 (x7 : Int32).toNatClampNeg)), (0, .ref (ad 0)), (4, .int x4), (5, .int x5), (6, .int x6), (7, .int x7), (8, .int x8), (9, .int x9), (10, .int x10), (11, .int x11)] dX11_longBy_57 (by decide) rfl ?_
        refine v_iload C 0 dX11_longBy_59 rfl ?_
        refine v_bipush C 83 dX11_longBy_61 (by decide) ?_
        refine v_icmp_ne C 117 dX11_longBy_63 (by decide) (fun c3 => ?_) (fun c3 => ?_)
        · rw [if_neg c3] at h
          refine v_iload C 0 dX11_longBy_117 rfl ?_
          refine v_bipush C 80 dX11_longBy_119 (by decide) ?_
          refine v_icmp_ne C 182 dX11_longBy_121 (by decide) (fun c4 => ?_) (fun c4 => ?_)
          · rw [if_neg c4] at h
            refine v_iload C 0 dX11_longBy_182 rfl ?_
            refine v_bipush C 49 dX11_longBy_184 (by decide) ?_
            refine v_icmp_ne C 198 dX11_longBy_186 (by decide) (fun c5 => ?_) (fun c5 => ?_)
            · rw [if_neg c5] at h
              refine v_aload_n C 1 dX11_longBy_198 rfl rfl ?_
              refine v_iload C 6 dX11_longBy_199 rfl ?_
              refine v_iload C 7 dX11_longBy_201 rfl ?_
              refine v_iload C 4 dX11_longBy_203 rfl ?_
              obtain ⟨q1, hq1, h⟩ := bd_of h
              refine vm_call C [.int x8, .int x9, .int x6] [] (c_tells hi _ _ _ _ hq1) hY_tells ml_197 ⟨Nat.le_of_ble_eq_true rfl, Nat.le_of_ble_eq_true rfl⟩ ⟨Nat.zero_le _, Nat.zero_le _⟩ rfl rfl (Nat.le_of_ble_eq_true rfl) dX11_longBy_205 (wm_inj hi cy _) ?_
              exact v_sub [1, 2, 3, 4, 5, 6, 7, 8] rfl ((b_longBy_208 C hi (b_longBy_281 C hi ih)) _ _ _ _ _ _ _ _ h)
            · rw [if_pos c5] at h
              refine v_aload_n C 1 dX11_longBy_189 rfl rfl ?_
              refine v_bipush C 42 dX11_longBy_190 (by decide) ?_
              obtain ⟨q2, hq2, h⟩ := bd_of h
              refine vm_call C [.int 42] [] (c_puts hi _ _ hq2) hY_puts ml_136 ⟨Nat.le_of_ble_eq_true rfl, Nat.le_of_ble_eq_true rfl⟩ ⟨Nat.zero_le _, Nat.zero_le _⟩ rfl rfl (Nat.le_of_ble_eq_true rfl) dX11_longBy_192 (wm_inj hi cy _) ?_
              refine v_goto C 208 dX11_longBy_195 (by decide) ?_
              exact v_sub [1, 2, 3, 4, 5, 6, 7, 8] rfl ((b_longBy_208 C hi (b_longBy_281 C hi ih)) _ _ _ _ _ _ _ _ h)
          · rw [if_pos c4] at h
            refine v_aload_n C 1 dX11_longBy_124 rfl rfl ?_
            refine v_iload C 7 dX11_longBy_125 rfl ?_
            refine v_bipush C 10 dX11_longBy_127 (by decide) ?_
            refine v_icmp_lt C 136 dX11_longBy_129 (by decide) (fun c6 => ?_) (fun c6 => ?_)
            · rw [if_pos c6] at h
              refine v_iconst C 0 dX11_longBy_136 (by decide) ?_
              exact v_sub [1, 2, 3, 4, 5, 6, 7, 8, 9] rfl ((b_longBy_137 C hi (b_longBy_281 C hi ih)) _ _ _ _ _ _ _ _ _ _ h)
            · rw [if_neg c6] at h
              refine v_iconst C 1 dX11_longBy_132 (by decide) ?_
              refine v_goto C 137 dX11_longBy_133 (by decide) ?_
              exact v_sub [1, 2, 3, 4, 5, 6, 7, 8, 9] rfl ((b_longBy_137 C hi (b_longBy_281 C hi ih)) _ _ _ _ _ _ _ _ _ _ h)
        · rw [if_pos c3] at h
          refine v_aload_n C 1 dX11_longBy_66 rfl rfl ?_
          refine v_bipush C 44 dX11_longBy_67 (by decide) ?_
          obtain ⟨q3, hq3, h⟩ := bd_of h
          refine vm_call C [.int 44] [] (c_puts hi _ _ hq3) hY_puts ml_136 ⟨Nat.le_of_ble_eq_true rfl, Nat.le_of_ble_eq_true rfl⟩ ⟨Nat.zero_le _, Nat.zero_le _⟩ rfl rfl (Nat.le_of_ble_eq_true rfl) dX11_longBy_69 (wm_inj hi cy _) ?_
          refine v_aload_n C 1 dX11_longBy_72 rfl rfl ?_
          refine n_getR C fl_76 dX11_longBy_73 ?_
          refine v_iload C 8 dX11_longBy_76 rfl ?_
          refine v_aload_n C 1 dX11_longBy_78 rfl rfl ?_
          refine v_iconst C 4 dX11_longBy_79 (by decide) ?_
          refine v_iload C 6 dX11_longBy_80 rfl ?_
          refine v_iconst C 0 dX11_longBy_82 (by decide) ?_
          refine v_iconst C 0 dX11_longBy_83 (by decide) ?_
          obtain ⟨q4, hq4, h⟩ := bd_of h
          refine vm_call C [.int 4, .int x8, .int 0, .int 0] [.int x10, .ref (ad 21)] (c_lays hi _ _ _ _ _ hq4) hY_lays ml_115 ⟨Nat.le_of_ble_eq_true rfl, Nat.le_of_ble_eq_true rfl⟩ ⟨Nat.zero_le _, Nat.zero_le _⟩ rfl rfl (Nat.le_of_ble_eq_true rfl) dX11_longBy_84 (wm_inj hi cy _) ?_
          obtain ⟨g2, h⟩ := gd_of h
          refine vm_iast C 21 iI_21 (ix_in g2) dX11_longBy_87 ?_
          refine v_aload_n C 1 dX11_longBy_88 rfl rfl ?_
          refine n_getR C fl_79 dX11_longBy_89 ?_
          refine v_iload C 8 dX11_longBy_92 rfl ?_
          refine v_iload C 7 dX11_longBy_94 rfl ?_
          obtain ⟨g3, h⟩ := gd_of h
          refine vm_iast C 22 iI_22 (ix_in g3) dX11_longBy_96 ?_
          refine v_iinc C (x10 + 1) 8 [(10, .int (x10 + 1)), (12, .int (σ.2.1 1 (x7 : Int32).toNatClampNeg)), (0, .ref (ad 0)), (4, .int x4), (5, .int x5), (6, .int x6), (7, .int x7), (8, .int x8), (9, .int x9), (11, .int x11)] dX11_longBy_97 rfl rfl (by decide) rfl ?_
          refine v_aload_n C 2 dX11_longBy_100 rfl rfl ?_
          refine v_iconst C 3 dX11_longBy_101 (by decide) ?_
          refine v_iload C 7 dX11_longBy_102 rfl ?_
          refine v_iconst C 0 dX11_longBy_104 (by decide) ?_
          refine v_iconst C 0 dX11_longBy_105 (by decide) ?_
          obtain ⟨q5, hq5, h⟩ := bd_of h
          refine vm_call C [.int 3, .int x8, .int 0, .int 0] [] (c_lays hi _ _ _ _ _ hq5) hY_lays ml_115 ⟨Nat.le_of_ble_eq_true rfl, Nat.le_of_ble_eq_true rfl⟩ ⟨Nat.zero_le _, Nat.zero_le _⟩ rfl rfl (Nat.le_of_ble_eq_true rfl) dX11_longBy_106 (wm_inj hi cy _) ?_
          refine v_istore C [(8, .int q5.1), (10, .int (x10 + 1)), (12, .int (σ.2.1 1 (x7 : Int32).toNatClampNeg)), (0, .ref (ad 0)), (4, .int x4), (5, .int x5), (6, .int x6), (7, .int x7), (9, .int x9), (11, .int x11)] dX11_longBy_109 (by decide) rfl ?_
          refine v_iinc C (x7 + 1) 7 [(7, .int (x7 + 1)), (8, .int q5.1), (10, .int (x10 + 1)), (12, .int (σ.2.1 1 (x7 : Int32).toNatClampNeg)), (0, .ref (ad 0)), (4, .int x4), (5, .int x5), (6, .int x6), (9, .int x9), (11, .int x11)] dX11_longBy_111 rfl rfl (by decide) rfl ?_
          refine v_goto C 281 dX11_longBy_114 (by decide) ?_
          exact v_sub [4, 5, 6, 7, 0, 1, 8, 2, 9] rfl ((b_longBy_281 C hi ih) _ _ _ _ _ _ _ _ _ h)
set_option maxHeartbeats 4000000 in
set_option maxRecDepth 20000 in
theorem c_longBy {l : Launch} {D : va_G} {cy : Nat → ClassId} {ad : Nat → Nat} {q : Int32 × MS} (hi : ∀ i j, i < 34 → j < 34 → ad i = ad j → i = j) (x1 : Int32) (x2 : Int32) (x3 : Int32) (σ : MS) (h : f_longBy x1 x2 x3 σ = some q) : MV l D (cyT cy) (inAd ad) yX11_longBy cX11_longBy 13 (some .int) 6 144 0 0 [.ref (ad 0), .int x1, .int x2, .int x3] (wm cy ad σ) (some (.int q.1)) (wm cy ad q.2) := by
  refine MV.of (by decide) (wm_inj hi cy σ) (Nat.le_of_ble_eq_true rfl) [(0, .ref (ad 0)), (1, .int x1), (2, .int x2), (3, .int x3)] rfl ?_
  intro p e s m args below meth c C
  rw [f_longBy] at h
  refine v_aload_n C 0 dX11_longBy_0 rfl rfl ?_
  refine n_getI C fl_140 dX11_longBy_1 ?_
  refine v_istore C [(4, .int (σ.1 19)), (0, .ref (ad 0)), (1, .int x1), (2, .int x2), (3, .int x3)] dX11_longBy_4 (by decide) rfl ?_
  refine v_aload_n C 1 dX11_longBy_6 rfl rfl ?_
  refine n_getI C fl_45 dX11_longBy_7 ?_
  refine v_istore C [(5, .int (σ.1 21)), (4, .int (σ.1 19)), (0, .ref (ad 0)), (1, .int x1), (2, .int x2), (3, .int x3)] dX11_longBy_10 (by decide) rfl ?_
  refine v_aload_n C 2 dX11_longBy_12 rfl rfl ?_
  refine n_getI C fl_133 dX11_longBy_13 ?_
  refine v_istore C [(6, .int (σ.1 1)), (5, .int (σ.1 21)), (4, .int (σ.1 19)), (0, .ref (ad 0)), (1, .int x1), (2, .int x2), (3, .int x3)] dX11_longBy_16 (by decide) rfl ?_
  refine v_iload_n C 5 dX11_longBy_18 rfl rfl ?_
  refine v_istore C [(7, .int x2), (6, .int (σ.1 1)), (5, .int (σ.1 21)), (4, .int (σ.1 19)), (0, .ref (ad 0)), (1, .int x1), (2, .int x2), (3, .int x3)] dX11_longBy_19 (by decide) rfl ?_
  refine v_iload_n C 5 dX11_longBy_21 rfl rfl ?_
  refine v_istore C [(8, .int x1), (7, .int x2), (6, .int (σ.1 1)), (5, .int (σ.1 21)), (4, .int (σ.1 19)), (0, .ref (ad 0)), (1, .int x1), (2, .int x2), (3, .int x3)] dX11_longBy_22 (by decide) rfl ?_
  refine v_iload_n C 8 dX11_longBy_24 rfl rfl ?_
  refine v_istore C [(9, .int x3), (8, .int x1), (7, .int x2), (6, .int (σ.1 1)), (5, .int (σ.1 21)), (4, .int (σ.1 19)), (0, .ref (ad 0)), (1, .int x1), (2, .int x2), (3, .int x3)] dX11_longBy_25 (by decide) rfl ?_
  refine v_iconst C 0 dX11_longBy_27 (by decide) ?_
  refine v_istore C [(10, .int 0), (9, .int x3), (8, .int x1), (7, .int x2), (6, .int (σ.1 1)), (5, .int (σ.1 21)), (4, .int (σ.1 19)), (0, .ref (ad 0)), (1, .int x1), (2, .int x2), (3, .int x3)] dX11_longBy_28 (by decide) rfl ?_
  refine v_iconst C 0 dX11_longBy_30 (by decide) ?_
  refine v_istore C [(11, .int 0), (10, .int 0), (9, .int x3), (8, .int x1), (7, .int x2), (6, .int (σ.1 1)), (5, .int (σ.1 21)), (4, .int (σ.1 19)), (0, .ref (ad 0)), (1, .int x1), (2, .int x2), (3, .int x3)] dX11_longBy_31 (by decide) rfl ?_
  refine v_aload_n C 8 dX11_longBy_33 rfl rfl ?_
  refine v_iconst C 0 dX11_longBy_34 (by decide) ?_
  refine n_putZ C (Or.inl rfl) fl_186 dX11_longBy_35 ?_
  exact v_sub [8, 7, 6, 5, 4, 3, 2, 1, 0] rfl ((l_longBy_38 C hi 10000) _ _ _ _ _ _ _ _ _ h)
