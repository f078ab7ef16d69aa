theorem dX11_readsGiven_0 : decode cX11_readsGiven 0 = .ok (.aload_n 0, 1) := by decide +kernel
theorem dX11_readsGiven_1 : decode cX11_readsGiven 1 = .ok (.getfield 225, 3) := by decide +kernel
theorem dX11_readsGiven_4 : decode cX11_readsGiven 4 = .ok (.iconst 3, 1) := by decide +kernel
theorem dX11_readsGiven_5 : decode cX11_readsGiven 5 = .ok (.if_icmp .ne 7, 3) := by decide +kernel
theorem dX11_readsGiven_8 : decode cX11_readsGiven 8 = .ok (.iconst 1, 1) := by decide +kernel
theorem dX11_readsGiven_9 : decode cX11_readsGiven 9 = .ok (.goto 4, 3) := by decide +kernel
theorem dX11_readsGiven_12 : decode cX11_readsGiven 12 = .ok (.iconst 0, 1) := by decide +kernel
theorem dX11_readsGiven_13 : decode cX11_readsGiven 13 = .ok (.istore_n 2, 1) := by decide +kernel
theorem dX11_readsGiven_14 : decode cX11_readsGiven 14 = .ok (.iload_n 2, 1) := by decide +kernel
theorem dX11_readsGiven_15 : decode cX11_readsGiven 15 = .ok (.ifCond .eq 15, 3) := by decide +kernel
theorem dX11_readsGiven_18 : decode cX11_readsGiven 18 = .ok (.aload_n 0, 1) := by decide +kernel
theorem dX11_readsGiven_19 : decode cX11_readsGiven 19 = .ok (.getfield 7, 3) := by decide +kernel
theorem dX11_readsGiven_22 : decode cX11_readsGiven 22 = .ok (.aload_n 0, 1) := by decide +kernel
theorem dX11_readsGiven_23 : decode cX11_readsGiven 23 = .ok (.getfield 228, 3) := by decide +kernel
theorem dX11_readsGiven_26 : decode cX11_readsGiven 26 = .ok (.iaload, 1) := by decide +kernel
theorem dX11_readsGiven_27 : decode cX11_readsGiven 27 = .ok (.goto 4, 3) := by decide +kernel
theorem dX11_readsGiven_30 : decode cX11_readsGiven 30 = .ok (.iconst 0, 1) := by decide +kernel
theorem dX11_readsGiven_31 : decode cX11_readsGiven 31 = .ok (.istore_n 3, 1) := by decide +kernel
theorem dX11_readsGiven_32 : decode cX11_readsGiven 32 = .ok (.aload_n 0, 1) := by decide +kernel
theorem dX11_readsGiven_33 : decode cX11_readsGiven 33 = .ok (.getfield 213, 3) := by decide +kernel
theorem dX11_readsGiven_36 : decode cX11_readsGiven 36 = .ok (.istore 4, 2) := by decide +kernel
theorem dX11_readsGiven_38 : decode cX11_readsGiven 38 = .ok (.iload_n 1, 1) := by decide +kernel
theorem dX11_readsGiven_39 : decode cX11_readsGiven 39 = .ok (.bipush 42, 2) := by decide +kernel
theorem dX11_readsGiven_41 : decode cX11_readsGiven 41 = .ok (.if_icmp .ne 41, 3) := by decide +kernel
theorem dX11_readsGiven_44 : decode cX11_readsGiven 44 = .ok (.iload_n 3, 1) := by decide +kernel
theorem dX11_readsGiven_45 : decode cX11_readsGiven 45 = .ok (.bipush 49, 2) := by decide +kernel
theorem dX11_readsGiven_47 : decode cX11_readsGiven 47 = .ok (.if_icmp .ne 35, 3) := by decide +kernel
theorem dX11_readsGiven_50 : decode cX11_readsGiven 50 = .ok (.aload_n 0, 1) := by decide +kernel
theorem dX11_readsGiven_51 : decode cX11_readsGiven 51 = .ok (.dup, 1) := by decide +kernel
theorem dX11_readsGiven_52 : decode cX11_readsGiven 52 = .ok (.getfield 213, 3) := by decide +kernel
theorem dX11_readsGiven_55 : decode cX11_readsGiven 55 = .ok (.iconst 1, 1) := by decide +kernel
theorem dX11_readsGiven_56 : decode cX11_readsGiven 56 = .ok (.iadd, 1) := by decide +kernel
theorem dX11_readsGiven_57 : decode cX11_readsGiven 57 = .ok (.putfield 213, 3) := by decide +kernel
theorem dX11_readsGiven_60 : decode cX11_readsGiven 60 = .ok (.aload_n 0, 1) := by decide +kernel
theorem dX11_readsGiven_61 : decode cX11_readsGiven 61 = .ok (.getfield 133, 3) := by decide +kernel
theorem dX11_readsGiven_64 : decode cX11_readsGiven 64 = .ok (.istore 5, 2) := by decide +kernel
theorem dX11_readsGiven_66 : decode cX11_readsGiven 66 = .ok (.aload_n 0, 1) := by decide +kernel
theorem dX11_readsGiven_67 : decode cX11_readsGiven 67 = .ok (.bipush 42, 2) := by decide +kernel
theorem dX11_readsGiven_69 : decode cX11_readsGiven 69 = .ok (.invokevirtual 136, 3) := by decide +kernel
theorem dX11_readsGiven_72 : decode cX11_readsGiven 72 = .ok (.aload_n 0, 1) := by decide +kernel
theorem dX11_readsGiven_73 : decode cX11_readsGiven 73 = .ok (.iload 4, 2) := by decide +kernel
theorem dX11_readsGiven_75 : decode cX11_readsGiven 75 = .ok (.iload 5, 2) := by decide +kernel
theorem dX11_readsGiven_77 : decode cX11_readsGiven 77 = .ok (.invokevirtual 304, 3) := by decide +kernel
theorem dX11_readsGiven_80 : decode cX11_readsGiven 80 = .ok (.iconst 1, 1) := by decide +kernel
theorem dX11_readsGiven_81 : decode cX11_readsGiven 81 = .ok (.ireturn, 1) := by decide +kernel
theorem dX11_readsGiven_82 : decode cX11_readsGiven 82 = .ok (.iload_n 1, 1) := by decide +kernel
theorem dX11_readsGiven_83 : decode cX11_readsGiven 83 = .ok (.bipush 44, 2) := by decide +kernel
theorem dX11_readsGiven_85 : decode cX11_readsGiven 85 = .ok (.if_icmp .ne 48, 3) := by decide +kernel
theorem dX11_readsGiven_88 : decode cX11_readsGiven 88 = .ok (.iload_n 3, 1) := by decide +kernel
theorem dX11_readsGiven_89 : decode cX11_readsGiven 89 = .ok (.bipush 83, 2) := by decide +kernel
theorem dX11_readsGiven_91 : decode cX11_readsGiven 91 = .ok (.if_icmp .ne 42, 3) := by decide +kernel
theorem dX11_readsGiven_94 : decode cX11_readsGiven 94 = .ok (.aload_n 0, 1) := by decide +kernel
theorem dX11_readsGiven_95 : decode cX11_readsGiven 95 = .ok (.dup, 1) := by decide +kernel
theorem dX11_readsGiven_96 : decode cX11_readsGiven 96 = .ok (.getfield 213, 3) := by decide +kernel
theorem dX11_readsGiven_99 : decode cX11_readsGiven 99 = .ok (.iconst 1, 1) := by decide +kernel
theorem dX11_readsGiven_100 : decode cX11_readsGiven 100 = .ok (.iadd, 1) := by decide +kernel
theorem dX11_readsGiven_101 : decode cX11_readsGiven 101 = .ok (.putfield 213, 3) := by decide +kernel
theorem dX11_readsGiven_104 : decode cX11_readsGiven 104 = .ok (.aload_n 0, 1) := by decide +kernel
theorem dX11_readsGiven_105 : decode cX11_readsGiven 105 = .ok (.bipush 11, 2) := by decide +kernel
theorem dX11_readsGiven_107 : decode cX11_readsGiven 107 = .ok (.iload 4, 2) := by decide +kernel
theorem dX11_readsGiven_109 : decode cX11_readsGiven 109 = .ok (.invokevirtual 265, 3) := by decide +kernel
theorem dX11_readsGiven_112 : decode cX11_readsGiven 112 = .ok (.aload_n 0, 1) := by decide +kernel
theorem dX11_readsGiven_113 : decode cX11_readsGiven 113 = .ok (.iconst 3, 1) := by decide +kernel
theorem dX11_readsGiven_114 : decode cX11_readsGiven 114 = .ok (.aload_n 0, 1) := by decide +kernel
theorem dX11_readsGiven_115 : decode cX11_readsGiven 115 = .ok (.getfield 228, 3) := by decide +kernel
theorem dX11_readsGiven_118 : decode cX11_readsGiven 118 = .ok (.iconst 1, 1) := by decide +kernel
theorem dX11_readsGiven_119 : decode cX11_readsGiven 119 = .ok (.iadd, 1) := by decide +kernel
theorem dX11_readsGiven_120 : decode cX11_readsGiven 120 = .ok (.aload_n 0, 1) := by decide +kernel
theorem dX11_readsGiven_121 : decode cX11_readsGiven 121 = .ok (.getfield 231, 3) := by decide +kernel
theorem dX11_readsGiven_124 : decode cX11_readsGiven 124 = .ok (.aload_n 0, 1) := by decide +kernel
theorem dX11_readsGiven_125 : decode cX11_readsGiven 125 = .ok (.getfield 234, 3) := by decide +kernel
theorem dX11_readsGiven_128 : decode cX11_readsGiven 128 = .ok (.invokevirtual 274, 3) := by decide +kernel
theorem dX11_readsGiven_131 : decode cX11_readsGiven 131 = .ok (.iconst 1, 1) := by decide +kernel
theorem dX11_readsGiven_132 : decode cX11_readsGiven 132 = .ok (.ireturn, 1) := by decide +kernel
theorem dX11_readsGiven_133 : decode cX11_readsGiven 133 = .ok (.iload_n 1, 1) := by decide +kernel
theorem dX11_readsGiven_134 : decode cX11_readsGiven 134 = .ok (.bipush 92, 2) := by decide +kernel
theorem dX11_readsGiven_136 : decode cX11_readsGiven 136 = .ok (.if_icmp .ne 124, 3) := by decide +kernel
theorem dX11_readsGiven_139 : decode cX11_readsGiven 139 = .ok (.iload_n 3, 1) := by decide +kernel
theorem dX11_readsGiven_140 : decode cX11_readsGiven 140 = .ok (.bipush 80, 2) := by decide +kernel
theorem dX11_readsGiven_142 : decode cX11_readsGiven 142 = .ok (.if_icmp .ne 118, 3) := by decide +kernel
theorem dX11_readsGiven_145 : decode cX11_readsGiven 145 = .ok (.aload_n 0, 1) := by decide +kernel
theorem dX11_readsGiven_146 : decode cX11_readsGiven 146 = .ok (.getfield 222, 3) := by decide +kernel
theorem dX11_readsGiven_149 : decode cX11_readsGiven 149 = .ok (.bipush 10, 2) := by decide +kernel
theorem dX11_readsGiven_151 : decode cX11_readsGiven 151 = .ok (.if_icmp .ge 109, 3) := by decide +kernel
theorem dX11_readsGiven_154 : decode cX11_readsGiven 154 = .ok (.aload_n 0, 1) := by decide +kernel
theorem dX11_readsGiven_155 : decode cX11_readsGiven 155 = .ok (.dup, 1) := by decide +kernel
theorem dX11_readsGiven_156 : decode cX11_readsGiven 156 = .ok (.getfield 213, 3) := by decide +kernel
theorem dX11_readsGiven_159 : decode cX11_readsGiven 159 = .ok (.iconst 1, 1) := by decide +kernel
theorem dX11_readsGiven_160 : decode cX11_readsGiven 160 = .ok (.iadd, 1) := by decide +kernel
theorem dX11_readsGiven_161 : decode cX11_readsGiven 161 = .ok (.putfield 213, 3) := by decide +kernel
theorem dX11_readsGiven_164 : decode cX11_readsGiven 164 = .ok (.aload_n 0, 1) := by decide +kernel
theorem dX11_readsGiven_165 : decode cX11_readsGiven 165 = .ok (.bipush 13, 2) := by decide +kernel
theorem dX11_readsGiven_167 : decode cX11_readsGiven 167 = .ok (.iload 4, 2) := by decide +kernel
theorem dX11_readsGiven_169 : decode cX11_readsGiven 169 = .ok (.invokevirtual 265, 3) := by decide +kernel
theorem dX11_readsGiven_172 : decode cX11_readsGiven 172 = .ok (.aload_n 0, 1) := by decide +kernel
theorem dX11_readsGiven_173 : decode cX11_readsGiven 173 = .ok (.aload_n 0, 1) := by decide +kernel
theorem dX11_readsGiven_174 : decode cX11_readsGiven 174 = .ok (.getfield 228, 3) := by decide +kernel
theorem dX11_readsGiven_177 : decode cX11_readsGiven 177 = .ok (.iconst 1, 1) := by decide +kernel
theorem dX11_readsGiven_178 : decode cX11_readsGiven 178 = .ok (.iadd, 1) := by decide +kernel
theorem dX11_readsGiven_179 : decode cX11_readsGiven 179 = .ok (.aload_n 0, 1) := by decide +kernel
theorem dX11_readsGiven_180 : decode cX11_readsGiven 180 = .ok (.getfield 231, 3) := by decide +kernel
theorem dX11_readsGiven_183 : decode cX11_readsGiven 183 = .ok (.aload_n 0, 1) := by decide +kernel
theorem dX11_readsGiven_184 : decode cX11_readsGiven 184 = .ok (.getfield 234, 3) := by decide +kernel
theorem dX11_readsGiven_187 : decode cX11_readsGiven 187 = .ok (.aload_n 0, 1) := by decide +kernel
theorem dX11_readsGiven_188 : decode cX11_readsGiven 188 = .ok (.getfield 222, 3) := by decide +kernel
theorem dX11_readsGiven_191 : decode cX11_readsGiven 191 = .ok (.invokevirtual 255, 3) := by decide +kernel
theorem dX11_readsGiven_194 : decode cX11_readsGiven 194 = .ok (.istore 5, 2) := by decide +kernel
theorem dX11_readsGiven_196 : decode cX11_readsGiven 196 = .ok (.aload_n 0, 1) := by decide +kernel
theorem dX11_readsGiven_197 : decode cX11_readsGiven 197 = .ok (.aload_n 0, 1) := by decide +kernel
theorem dX11_readsGiven_198 : decode cX11_readsGiven 198 = .ok (.getfield 234, 3) := by decide +kernel
theorem dX11_readsGiven_201 : decode cX11_readsGiven 201 = .ok (.aload_n 0, 1) := by decide +kernel
theorem dX11_readsGiven_202 : decode cX11_readsGiven 202 = .ok (.getfield 231, 3) := by decide +kernel
theorem dX11_readsGiven_205 : decode cX11_readsGiven 205 = .ok (.aload_n 0, 1) := by decide +kernel
theorem dX11_readsGiven_206 : decode cX11_readsGiven 206 = .ok (.getfield 222, 3) := by decide +kernel
theorem dX11_readsGiven_209 : decode cX11_readsGiven 209 = .ok (.invokevirtual 177, 3) := by decide +kernel
theorem dX11_readsGiven_212 : decode cX11_readsGiven 212 = .ok (.istore 6, 2) := by decide +kernel
theorem dX11_readsGiven_214 : decode cX11_readsGiven 214 = .ok (.aload_n 0, 1) := by decide +kernel
theorem dX11_readsGiven_215 : decode cX11_readsGiven 215 = .ok (.getfield 109, 3) := by decide +kernel
theorem dX11_readsGiven_218 : decode cX11_readsGiven 218 = .ok (.aload_n 0, 1) := by decide +kernel
theorem dX11_readsGiven_219 : decode cX11_readsGiven 219 = .ok (.getfield 222, 3) := by decide +kernel
theorem dX11_readsGiven_222 : decode cX11_readsGiven 222 = .ok (.iload 5, 2) := by decide +kernel
theorem dX11_readsGiven_224 : decode cX11_readsGiven 224 = .ok (.iastore, 1) := by decide +kernel
theorem dX11_readsGiven_225 : decode cX11_readsGiven 225 = .ok (.aload_n 0, 1) := by decide +kernel
theorem dX11_readsGiven_226 : decode cX11_readsGiven 226 = .ok (.iconst 3, 1) := by decide +kernel
theorem dX11_readsGiven_227 : decode cX11_readsGiven 227 = .ok (.aload_n 0, 1) := by decide +kernel
theorem dX11_readsGiven_228 : decode cX11_readsGiven 228 = .ok (.aload_n 0, 1) := by decide +kernel
theorem dX11_readsGiven_229 : decode cX11_readsGiven 229 = .ok (.getfield 228, 3) := by decide +kernel
theorem dX11_readsGiven_232 : decode cX11_readsGiven 232 = .ok (.iconst 1, 1) := by decide +kernel
theorem dX11_readsGiven_233 : decode cX11_readsGiven 233 = .ok (.iadd, 1) := by decide +kernel
theorem dX11_readsGiven_234 : decode cX11_readsGiven 234 = .ok (.invokevirtual 127, 3) := by decide +kernel
theorem dX11_readsGiven_237 : decode cX11_readsGiven 237 = .ok (.aload_n 0, 1) := by decide +kernel
theorem dX11_readsGiven_238 : decode cX11_readsGiven 238 = .ok (.getfield 231, 3) := by decide +kernel
theorem dX11_readsGiven_241 : decode cX11_readsGiven 241 = .ok (.iconst 1, 1) := by decide +kernel
theorem dX11_readsGiven_242 : decode cX11_readsGiven 242 = .ok (.iadd, 1) := by decide +kernel
theorem dX11_readsGiven_243 : decode cX11_readsGiven 243 = .ok (.iload 6, 2) := by decide +kernel
theorem dX11_readsGiven_245 : decode cX11_readsGiven 245 = .ok (.invokevirtual 274, 3) := by decide +kernel
theorem dX11_readsGiven_248 : decode cX11_readsGiven 248 = .ok (.aload_n 0, 1) := by decide +kernel
theorem dX11_readsGiven_249 : decode cX11_readsGiven 249 = .ok (.dup, 1) := by decide +kernel
theorem dX11_readsGiven_250 : decode cX11_readsGiven 250 = .ok (.getfield 222, 3) := by decide +kernel
theorem dX11_readsGiven_253 : decode cX11_readsGiven 253 = .ok (.iconst 1, 1) := by decide +kernel
theorem dX11_readsGiven_254 : decode cX11_readsGiven 254 = .ok (.iadd, 1) := by decide +kernel
theorem dX11_readsGiven_255 : decode cX11_readsGiven 255 = .ok (.putfield 222, 3) := by decide +kernel
theorem dX11_readsGiven_258 : decode cX11_readsGiven 258 = .ok (.iconst 1, 1) := by decide +kernel
theorem dX11_readsGiven_259 : decode cX11_readsGiven 259 = .ok (.ireturn, 1) := by decide +kernel
theorem dX11_readsGiven_260 : decode cX11_readsGiven 260 = .ok (.iconst 0, 1) := by decide +kernel
theorem dX11_readsGiven_261 : decode cX11_readsGiven 261 = .ok (.ireturn, 1) := by decide +kernel
theorem dX11_readsFound_0 : decode cX11_readsFound 0 = .ok (.aload_n 0, 1) := by decide +kernel
theorem dX11_readsFound_1 : decode cX11_readsFound 1 = .ok (.getfield 213, 3) := by decide +kernel
theorem dX11_readsFound_4 : decode cX11_readsFound 4 = .ok (.istore_n 2, 1) := by decide +kernel
theorem dX11_readsFound_5 : decode cX11_readsFound 5 = .ok (.aload_n 0, 1) := by decide +kernel
theorem dX11_readsFound_6 : decode cX11_readsFound 6 = .ok (.dup, 1) := by decide +kernel
theorem dX11_readsFound_7 : decode cX11_readsFound 7 = .ok (.getfield 213, 3) := by decide +kernel
theorem dX11_readsFound_10 : decode cX11_readsFound 10 = .ok (.iconst 1, 1) := by decide +kernel
theorem dX11_readsFound_11 : decode cX11_readsFound 11 = .ok (.iadd, 1) := by decide +kernel
theorem dX11_readsFound_12 : decode cX11_readsFound 12 = .ok (.putfield 213, 3) := by decide +kernel
theorem dX11_readsFound_15 : decode cX11_readsFound 15 = .ok (.iload_n 1, 1) := by decide +kernel
theorem dX11_readsFound_16 : decode cX11_readsFound 16 = .ok (.bipush 58, 2) := by decide +kernel
theorem dX11_readsFound_18 : decode cX11_readsFound 18 = .ok (.if_icmp .ne 16, 3) := by decide +kernel
theorem dX11_readsFound_21 : decode cX11_readsFound 21 = .ok (.aload_n 0, 1) := by decide +kernel
theorem dX11_readsFound_22 : decode cX11_readsFound 22 = .ok (.iconst 5, 1) := by decide +kernel
theorem dX11_readsFound_23 : decode cX11_readsFound 23 = .ok (.iload_n 2, 1) := by decide +kernel
theorem dX11_readsFound_24 : decode cX11_readsFound 24 = .ok (.invokevirtual 265, 3) := by decide +kernel
theorem dX11_readsFound_27 : decode cX11_readsFound 27 = .ok (.aload_n 0, 1) := by decide +kernel
theorem dX11_readsFound_28 : decode cX11_readsFound 28 = .ok (.invokevirtual 307, 3) := by decide +kernel
theorem dX11_readsFound_31 : decode cX11_readsFound 31 = .ok (.goto 127, 3) := by decide +kernel
theorem dX11_readsFound_34 : decode cX11_readsFound 34 = .ok (.iload_n 1, 1) := by decide +kernel
theorem dX11_readsFound_35 : decode cX11_readsFound 35 = .ok (.bipush 46, 2) := by decide +kernel
theorem dX11_readsFound_37 : decode cX11_readsFound 37 = .ok (.if_icmp .ne 21, 3) := by decide +kernel
theorem dX11_readsFound_40 : decode cX11_readsFound 40 = .ok (.aload_n 0, 1) := by decide +kernel
theorem dX11_readsFound_41 : decode cX11_readsFound 41 = .ok (.bipush 7, 2) := by decide +kernel
theorem dX11_readsFound_43 : decode cX11_readsFound 43 = .ok (.iload_n 2, 1) := by decide +kernel
theorem dX11_readsFound_44 : decode cX11_readsFound 44 = .ok (.invokevirtual 265, 3) := by decide +kernel
theorem dX11_readsFound_47 : decode cX11_readsFound 47 = .ok (.aload_n 0, 1) := by decide +kernel
theorem dX11_readsFound_48 : decode cX11_readsFound 48 = .ok (.iconst 1, 1) := by decide +kernel
theorem dX11_readsFound_49 : decode cX11_readsFound 49 = .ok (.iconst 0, 1) := by decide +kernel
theorem dX11_readsFound_50 : decode cX11_readsFound 50 = .ok (.iconst 0, 1) := by decide +kernel
theorem dX11_readsFound_51 : decode cX11_readsFound 51 = .ok (.iconst 0, 1) := by decide +kernel
theorem dX11_readsFound_52 : decode cX11_readsFound 52 = .ok (.invokevirtual 274, 3) := by decide +kernel
theorem dX11_readsFound_55 : decode cX11_readsFound 55 = .ok (.goto 103, 3) := by decide +kernel
theorem dX11_readsFound_58 : decode cX11_readsFound 58 = .ok (.iload_n 1, 1) := by decide +kernel
theorem dX11_readsFound_59 : decode cX11_readsFound 59 = .ok (.bipush 60, 2) := by decide +kernel
theorem dX11_readsFound_61 : decode cX11_readsFound 61 = .ok (.if_icmp .eq 9, 3) := by decide +kernel
theorem dX11_readsFound_64 : decode cX11_readsFound 64 = .ok (.iload_n 1, 1) := by decide +kernel
theorem dX11_readsFound_65 : decode cX11_readsFound 65 = .ok (.bipush 62, 2) := by decide +kernel
theorem dX11_readsFound_67 : decode cX11_readsFound 67 = .ok (.if_icmp .ne 32, 3) := by decide +kernel
theorem dX11_readsFound_70 : decode cX11_readsFound 70 = .ok (.aload_n 0, 1) := by decide +kernel
theorem dX11_readsFound_71 : decode cX11_readsFound 71 = .ok (.iload_n 1, 1) := by decide +kernel
theorem dX11_readsFound_72 : decode cX11_readsFound 72 = .ok (.bipush 60, 2) := by decide +kernel
theorem dX11_readsFound_74 : decode cX11_readsFound 74 = .ok (.if_icmp .ne 8, 3) := by decide +kernel
theorem dX11_readsFound_77 : decode cX11_readsFound 77 = .ok (.bipush 9, 2) := by decide +kernel
theorem dX11_readsFound_79 : decode cX11_readsFound 79 = .ok (.goto 5, 3) := by decide +kernel
theorem dX11_readsFound_82 : decode cX11_readsFound 82 = .ok (.bipush 10, 2) := by decide +kernel
theorem dX11_readsFound_84 : decode cX11_readsFound 84 = .ok (.iload_n 2, 1) := by decide +kernel
theorem dX11_readsFound_85 : decode cX11_readsFound 85 = .ok (.invokevirtual 265, 3) := by decide +kernel
theorem dX11_readsFound_88 : decode cX11_readsFound 88 = .ok (.aload_n 0, 1) := by decide +kernel
theorem dX11_readsFound_89 : decode cX11_readsFound 89 = .ok (.iconst 2, 1) := by decide +kernel
theorem dX11_readsFound_90 : decode cX11_readsFound 90 = .ok (.iconst 0, 1) := by decide +kernel
theorem dX11_readsFound_91 : decode cX11_readsFound 91 = .ok (.iconst 0, 1) := by decide +kernel
theorem dX11_readsFound_92 : decode cX11_readsFound 92 = .ok (.iconst 0, 1) := by decide +kernel
theorem dX11_readsFound_93 : decode cX11_readsFound 93 = .ok (.invokevirtual 274, 3) := by decide +kernel
theorem dX11_readsFound_96 : decode cX11_readsFound 96 = .ok (.goto 62, 3) := by decide +kernel
theorem dX11_readsFound_99 : decode cX11_readsFound 99 = .ok (.iload_n 1, 1) := by decide +kernel
theorem dX11_readsFound_100 : decode cX11_readsFound 100 = .ok (.bipush 97, 2) := by decide +kernel
theorem dX11_readsFound_102 : decode cX11_readsFound 102 = .ok (.if_icmp .lt 34, 3) := by decide +kernel
theorem dX11_readsFound_105 : decode cX11_readsFound 105 = .ok (.aload_n 0, 1) := by decide +kernel
theorem dX11_readsFound_106 : decode cX11_readsFound 106 = .ok (.iload_n 2, 1) := by decide +kernel
theorem dX11_readsFound_107 : decode cX11_readsFound 107 = .ok (.aload_n 0, 1) := by decide +kernel
theorem dX11_readsFound_108 : decode cX11_readsFound 108 = .ok (.iconst 1, 1) := by decide +kernel
theorem dX11_readsFound_109 : decode cX11_readsFound 109 = .ok (.iload_n 1, 1) := by decide +kernel
theorem dX11_readsFound_110 : decode cX11_readsFound 110 = .ok (.iconst 0, 1) := by decide +kernel
theorem dX11_readsFound_111 : decode cX11_readsFound 111 = .ok (.iconst 0, 1) := by decide +kernel
theorem dX11_readsFound_112 : decode cX11_readsFound 112 = .ok (.invokevirtual 115, 3) := by decide +kernel
theorem dX11_readsFound_115 : decode cX11_readsFound 115 = .ok (.aload_n 0, 1) := by decide +kernel
theorem dX11_readsFound_116 : decode cX11_readsFound 116 = .ok (.getfield 271, 3) := by decide +kernel
theorem dX11_readsFound_119 : decode cX11_readsFound 119 = .ok (.bipush 51, 2) := by decide +kernel
theorem dX11_readsFound_121 : decode cX11_readsFound 121 = .ok (.iconst 3, 1) := by decide +kernel
theorem dX11_readsFound_122 : decode cX11_readsFound 122 = .ok (.iload_n 1, 1) := by decide +kernel
theorem dX11_readsFound_123 : decode cX11_readsFound 123 = .ok (.iadd, 1) := by decide +kernel
theorem dX11_readsFound_124 : decode cX11_readsFound 124 = .ok (.bipush 97, 2) := by decide +kernel
theorem dX11_readsFound_126 : decode cX11_readsFound 126 = .ok (.isub, 1) := by decide +kernel
theorem dX11_readsFound_127 : decode cX11_readsFound 127 = .ok (.imul, 1) := by decide +kernel
theorem dX11_readsFound_128 : decode cX11_readsFound 128 = .ok (.iadd, 1) := by decide +kernel
theorem dX11_readsFound_129 : decode cX11_readsFound 129 = .ok (.iconst 0, 1) := by decide +kernel
theorem dX11_readsFound_130 : decode cX11_readsFound 130 = .ok (.invokevirtual 310, 3) := by decide +kernel
theorem dX11_readsFound_133 : decode cX11_readsFound 133 = .ok (.goto 25, 3) := by decide +kernel
theorem dX11_readsFound_136 : decode cX11_readsFound 136 = .ok (.aload_n 0, 1) := by decide +kernel
theorem dX11_readsFound_137 : decode cX11_readsFound 137 = .ok (.iload_n 2, 1) := by decide +kernel
theorem dX11_readsFound_138 : decode cX11_readsFound 138 = .ok (.iload_n 1, 1) := by decide +kernel
theorem dX11_readsFound_139 : decode cX11_readsFound 139 = .ok (.bipush 48, 2) := by decide +kernel
theorem dX11_readsFound_141 : decode cX11_readsFound 141 = .ok (.isub, 1) := by decide +kernel
theorem dX11_readsFound_142 : decode cX11_readsFound 142 = .ok (.aload_n 0, 1) := by decide +kernel
theorem dX11_readsFound_143 : decode cX11_readsFound 143 = .ok (.getfield 109, 3) := by decide +kernel
theorem dX11_readsFound_146 : decode cX11_readsFound 146 = .ok (.iload_n 1, 1) := by decide +kernel
theorem dX11_readsFound_147 : decode cX11_readsFound 147 = .ok (.bipush 48, 2) := by decide +kernel
theorem dX11_readsFound_149 : decode cX11_readsFound 149 = .ok (.isub, 1) := by decide +kernel
theorem dX11_readsFound_150 : decode cX11_readsFound 150 = .ok (.iaload, 1) := by decide +kernel
theorem dX11_readsFound_151 : decode cX11_readsFound 151 = .ok (.iload_n 1, 1) := by decide +kernel
theorem dX11_readsFound_152 : decode cX11_readsFound 152 = .ok (.bipush 48, 2) := by decide +kernel
theorem dX11_readsFound_154 : decode cX11_readsFound 154 = .ok (.isub, 1) := by decide +kernel
theorem dX11_readsFound_155 : decode cX11_readsFound 155 = .ok (.invokevirtual 310, 3) := by decide +kernel
theorem dX11_readsFound_158 : decode cX11_readsFound 158 = .ok (.return_, 1) := by decide +kernel
theorem dX11_canStand_0 : decode cX11_canStand 0 = .ok (.iload_n 1, 1) := by decide +kernel
theorem dX11_canStand_1 : decode cX11_canStand 1 = .ok (.bipush 48, 2) := by decide +kernel
theorem dX11_canStand_3 : decode cX11_canStand 3 = .ok (.bipush 57, 2) := by decide +kernel
theorem dX11_canStand_5 : decode cX11_canStand 5 = .ok (.invokestatic 297, 3) := by decide +kernel
theorem dX11_canStand_8 : decode cX11_canStand 8 = .ok (.ifCond .eq 18, 3) := by decide +kernel
theorem dX11_canStand_11 : decode cX11_canStand 11 = .ok (.iload_n 1, 1) := by decide +kernel
theorem dX11_canStand_12 : decode cX11_canStand 12 = .ok (.bipush 48, 2) := by decide +kernel
theorem dX11_canStand_14 : decode cX11_canStand 14 = .ok (.isub, 1) := by decide +kernel
theorem dX11_canStand_15 : decode cX11_canStand 15 = .ok (.aload_n 0, 1) := by decide +kernel
theorem dX11_canStand_16 : decode cX11_canStand 16 = .ok (.getfield 222, 3) := by decide +kernel
theorem dX11_canStand_19 : decode cX11_canStand 19 = .ok (.if_icmp .ge 7, 3) := by decide +kernel
theorem dX11_canStand_22 : decode cX11_canStand 22 = .ok (.iconst 1, 1) := by decide +kernel
theorem dX11_canStand_23 : decode cX11_canStand 23 = .ok (.goto 4, 3) := by decide +kernel
theorem dX11_canStand_26 : decode cX11_canStand 26 = .ok (.iconst 0, 1) := by decide +kernel
theorem dX11_canStand_27 : decode cX11_canStand 27 = .ok (.istore_n 2, 1) := by decide +kernel
theorem dX11_canStand_28 : decode cX11_canStand 28 = .ok (.iload_n 2, 1) := by decide +kernel
theorem dX11_canStand_29 : decode cX11_canStand 29 = .ok (.ifCond .ne 49, 3) := by decide +kernel
theorem dX11_canStand_32 : decode cX11_canStand 32 = .ok (.iload_n 1, 1) := by decide +kernel
theorem dX11_canStand_33 : decode cX11_canStand 33 = .ok (.bipush 97, 2) := by decide +kernel
theorem dX11_canStand_35 : decode cX11_canStand 35 = .ok (.bipush 100, 2) := by decide +kernel
theorem dX11_canStand_37 : decode cX11_canStand 37 = .ok (.invokestatic 297, 3) := by decide +kernel
theorem dX11_canStand_40 : decode cX11_canStand 40 = .ok (.ifCond .eq 14, 3) := by decide +kernel
theorem dX11_canStand_43 : decode cX11_canStand 43 = .ok (.iload_n 1, 1) := by decide +kernel
theorem dX11_canStand_44 : decode cX11_canStand 44 = .ok (.bipush 97, 2) := by decide +kernel
theorem dX11_canStand_46 : decode cX11_canStand 46 = .ok (.isub, 1) := by decide +kernel
theorem dX11_canStand_47 : decode cX11_canStand 47 = .ok (.aload_n 0, 1) := by decide +kernel
theorem dX11_canStand_48 : decode cX11_canStand 48 = .ok (.getfield 313, 3) := by decide +kernel
theorem dX11_canStand_51 : decode cX11_canStand 51 = .ok (.if_icmp .lt 27, 3) := by decide +kernel
theorem dX11_canStand_54 : decode cX11_canStand 54 = .ok (.iload_n 1, 1) := by decide +kernel
theorem dX11_canStand_55 : decode cX11_canStand 55 = .ok (.bipush 58, 2) := by decide +kernel
theorem dX11_canStand_57 : decode cX11_canStand 57 = .ok (.if_icmp .eq 21, 3) := by decide +kernel
theorem dX11_canStand_60 : decode cX11_canStand 60 = .ok (.iload_n 1, 1) := by decide +kernel
theorem dX11_canStand_61 : decode cX11_canStand 61 = .ok (.bipush 46, 2) := by decide +kernel
theorem dX11_canStand_63 : decode cX11_canStand 63 = .ok (.if_icmp .eq 15, 3) := by decide +kernel
theorem dX11_canStand_66 : decode cX11_canStand 66 = .ok (.iload_n 1, 1) := by decide +kernel
theorem dX11_canStand_67 : decode cX11_canStand 67 = .ok (.bipush 60, 2) := by decide +kernel
theorem dX11_canStand_69 : decode cX11_canStand 69 = .ok (.if_icmp .eq 9, 3) := by decide +kernel
theorem dX11_canStand_72 : decode cX11_canStand 72 = .ok (.iload_n 1, 1) := by decide +kernel
theorem dX11_canStand_73 : decode cX11_canStand 73 = .ok (.bipush 62, 2) := by decide +kernel
theorem dX11_canStand_75 : decode cX11_canStand 75 = .ok (.if_icmp .ne 7, 3) := by decide +kernel
theorem dX11_canStand_78 : decode cX11_canStand 78 = .ok (.iconst 1, 1) := by decide +kernel
theorem dX11_canStand_79 : decode cX11_canStand 79 = .ok (.goto 4, 3) := by decide +kernel
theorem dX11_canStand_82 : decode cX11_canStand 82 = .ok (.iconst 0, 1) := by decide +kernel
theorem dX11_canStand_83 : decode cX11_canStand 83 = .ok (.ireturn, 1) := by decide +kernel
theorem dX11_reads_0 : decode cX11_reads 0 = .ok (.aload_n 0, 1) := by decide +kernel
theorem dX11_reads_1 : decode cX11_reads 1 = .ok (.invokevirtual 290, 3) := by decide +kernel
theorem dX11_reads_4 : decode cX11_reads 4 = .ok (.istore_n 1, 1) := by decide +kernel
theorem dX11_reads_5 : decode cX11_reads 5 = .ok (.iload_n 1, 1) := by decide +kernel
theorem dX11_reads_6 : decode cX11_reads 6 = .ok (.bipush (-9), 2) := by decide +kernel
theorem dX11_reads_8 : decode cX11_reads 8 = .ok (.if_icmp .ne 14, 3) := by decide +kernel
theorem dX11_reads_11 : decode cX11_reads 11 = .ok (.aload_n 0, 1) := by decide +kernel
theorem dX11_reads_12 : decode cX11_reads 12 = .ok (.aload_n 0, 1) := by decide +kernel
theorem dX11_reads_13 : decode cX11_reads 13 = .ok (.getfield 213, 3) := by decide +kernel
theorem dX11_reads_16 : decode cX11_reads 16 = .ok (.invokevirtual 240, 3) := by decide +kernel
theorem dX11_reads_19 : decode cX11_reads 19 = .ok (.goto 63, 3) := by decide +kernel
theorem dX11_reads_22 : decode cX11_reads 22 = .ok (.aload_n 0, 1) := by decide +kernel
theorem dX11_reads_23 : decode cX11_reads 23 = .ok (.getfield 237, 3) := by decide +kernel
theorem dX11_reads_26 : decode cX11_reads 26 = .ok (.ifCond .eq 11, 3) := by decide +kernel
theorem dX11_reads_29 : decode cX11_reads 29 = .ok (.aload_n 0, 1) := by decide +kernel
theorem dX11_reads_30 : decode cX11_reads 30 = .ok (.iload_n 1, 1) := by decide +kernel
theorem dX11_reads_31 : decode cX11_reads 31 = .ok (.invokevirtual 316, 3) := by decide +kernel
theorem dX11_reads_34 : decode cX11_reads 34 = .ok (.goto 48, 3) := by decide +kernel
theorem dX11_reads_37 : decode cX11_reads 37 = .ok (.iload_n 1, 1) := by decide +kernel
theorem dX11_reads_38 : decode cX11_reads 38 = .ok (.bipush 35, 2) := by decide +kernel
theorem dX11_reads_40 : decode cX11_reads 40 = .ok (.if_icmp .ne 10, 3) := by decide +kernel
theorem dX11_reads_43 : decode cX11_reads 43 = .ok (.aload_n 0, 1) := by decide +kernel
theorem dX11_reads_44 : decode cX11_reads 44 = .ok (.invokevirtual 319, 3) := by decide +kernel
theorem dX11_reads_47 : decode cX11_reads 47 = .ok (.goto 35, 3) := by decide +kernel
theorem dX11_reads_50 : decode cX11_reads 50 = .ok (.aload_n 0, 1) := by decide +kernel
theorem dX11_reads_51 : decode cX11_reads 51 = .ok (.iload_n 1, 1) := by decide +kernel
theorem dX11_reads_52 : decode cX11_reads 52 = .ok (.invokevirtual 322, 3) := by decide +kernel
theorem dX11_reads_55 : decode cX11_reads 55 = .ok (.ifCond .eq 11, 3) := by decide +kernel
theorem dX11_reads_58 : decode cX11_reads 58 = .ok (.aload_n 0, 1) := by decide +kernel
theorem dX11_reads_59 : decode cX11_reads 59 = .ok (.iload_n 1, 1) := by decide +kernel
theorem dX11_reads_60 : decode cX11_reads 60 = .ok (.invokevirtual 325, 3) := by decide +kernel
theorem dX11_reads_63 : decode cX11_reads 63 = .ok (.goto 19, 3) := by decide +kernel
theorem dX11_reads_66 : decode cX11_reads 66 = .ok (.aload_n 0, 1) := by decide +kernel
theorem dX11_reads_67 : decode cX11_reads 67 = .ok (.iload_n 1, 1) := by decide +kernel
theorem dX11_reads_68 : decode cX11_reads 68 = .ok (.invokevirtual 328, 3) := by decide +kernel
theorem dX11_reads_71 : decode cX11_reads 71 = .ok (.ifCond .ne 11, 3) := by decide +kernel
theorem dX11_reads_74 : decode cX11_reads 74 = .ok (.aload_n 0, 1) := by decide +kernel
theorem dX11_reads_75 : decode cX11_reads 75 = .ok (.aload_n 0, 1) := by decide +kernel
theorem dX11_reads_76 : decode cX11_reads 76 = .ok (.getfield 213, 3) := by decide +kernel
theorem dX11_reads_79 : decode cX11_reads 79 = .ok (.invokevirtual 240, 3) := by decide +kernel
theorem dX11_reads_82 : decode cX11_reads 82 = .ok (.return_, 1) := by decide +kernel
theorem dX11_again_0 : decode cX11_again 0 = .ok (.aload_n 0, 1) := by decide +kernel
theorem dX11_again_1 : decode cX11_again 1 = .ok (.aload_n 0, 1) := by decide +kernel
theorem dX11_again_2 : decode cX11_again 2 = .ok (.getfield 88, 3) := by decide +kernel
theorem dX11_again_5 : decode cX11_again 5 = .ok (.iload_n 1, 1) := by decide +kernel
theorem dX11_again_6 : decode cX11_again 6 = .ok (.iaload, 1) := by decide +kernel
theorem dX11_again_7 : decode cX11_again 7 = .ok (.putfield 222, 3) := by decide +kernel
theorem dX11_again_10 : decode cX11_again 10 = .ok (.aload_n 0, 1) := by decide +kernel
theorem dX11_again_11 : decode cX11_again 11 = .ok (.aload_n 0, 1) := by decide +kernel
theorem dX11_again_12 : decode cX11_again 12 = .ok (.getfield 91, 3) := by decide +kernel
theorem dX11_again_15 : decode cX11_again 15 = .ok (.iload_n 1, 1) := by decide +kernel
theorem dX11_again_16 : decode cX11_again 16 = .ok (.iaload, 1) := by decide +kernel
theorem dX11_again_17 : decode cX11_again 17 = .ok (.putfield 225, 3) := by decide +kernel
theorem dX11_again_20 : decode cX11_again 20 = .ok (.aload_n 0, 1) := by decide +kernel
theorem dX11_again_21 : decode cX11_again 21 = .ok (.aload_n 0, 1) := by decide +kernel
theorem dX11_again_22 : decode cX11_again 22 = .ok (.getfield 94, 3) := by decide +kernel
theorem dX11_again_25 : decode cX11_again 25 = .ok (.iload_n 1, 1) := by decide +kernel
theorem dX11_again_26 : decode cX11_again 26 = .ok (.iaload, 1) := by decide +kernel
theorem dX11_again_27 : decode cX11_again 27 = .ok (.putfield 228, 3) := by decide +kernel
theorem dX11_again_30 : decode cX11_again 30 = .ok (.aload_n 0, 1) := by decide +kernel
theorem dX11_again_31 : decode cX11_again 31 = .ok (.aload_n 0, 1) := by decide +kernel
theorem dX11_again_32 : decode cX11_again 32 = .ok (.getfield 97, 3) := by decide +kernel
theorem dX11_again_35 : decode cX11_again 35 = .ok (.iload_n 1, 1) := by decide +kernel
theorem dX11_again_36 : decode cX11_again 36 = .ok (.iaload, 1) := by decide +kernel
theorem dX11_again_37 : decode cX11_again 37 = .ok (.putfield 231, 3) := by decide +kernel
theorem dX11_again_40 : decode cX11_again 40 = .ok (.aload_n 0, 1) := by decide +kernel
theorem dX11_again_41 : decode cX11_again 41 = .ok (.aload_n 0, 1) := by decide +kernel
theorem dX11_again_42 : decode cX11_again 42 = .ok (.getfield 100, 3) := by decide +kernel
theorem dX11_again_45 : decode cX11_again 45 = .ok (.iload_n 1, 1) := by decide +kernel
theorem dX11_again_46 : decode cX11_again 46 = .ok (.iaload, 1) := by decide +kernel
theorem dX11_again_47 : decode cX11_again 47 = .ok (.putfield 234, 3) := by decide +kernel
theorem dX11_again_50 : decode cX11_again 50 = .ok (.return_, 1) := by decide +kernel
theorem dX11_joined_0 : decode cX11_joined 0 = .ok (.aload_n 0, 1) := by decide +kernel
theorem dX11_joined_1 : decode cX11_joined 1 = .ok (.getfield 133, 3) := by decide +kernel
theorem dX11_joined_4 : decode cX11_joined 4 = .ok (.istore 4, 2) := by decide +kernel
theorem dX11_joined_6 : decode cX11_joined 6 = .ok (.aload_n 0, 1) := by decide +kernel
theorem dX11_joined_7 : decode cX11_joined 7 = .ok (.iload_n 1, 1) := by decide +kernel
theorem dX11_joined_8 : decode cX11_joined 8 = .ok (.invokevirtual 136, 3) := by decide +kernel
theorem dX11_joined_11 : decode cX11_joined 11 = .ok (.iload_n 2, 1) := by decide +kernel
theorem dX11_joined_12 : decode cX11_joined 12 = .ok (.ifCond .lt 8, 3) := by decide +kernel
theorem dX11_joined_15 : decode cX11_joined 15 = .ok (.aload_n 0, 1) := by decide +kernel
theorem dX11_joined_16 : decode cX11_joined 16 = .ok (.iload_n 2, 1) := by decide +kernel
theorem dX11_joined_17 : decode cX11_joined 17 = .ok (.invokevirtual 331, 3) := by decide +kernel
theorem dX11_joined_20 : decode cX11_joined 20 = .ok (.aload_n 0, 1) := by decide +kernel
theorem dX11_joined_21 : decode cX11_joined 21 = .ok (.iload_n 3, 1) := by decide +kernel
theorem dX11_joined_22 : decode cX11_joined 22 = .ok (.invokevirtual 331, 3) := by decide +kernel
theorem dX11_joined_25 : decode cX11_joined 25 = .ok (.iload 4, 2) := by decide +kernel
theorem dX11_joined_27 : decode cX11_joined 27 = .ok (.ireturn, 1) := by decide +kernel
theorem dX11_namesOne_0 : decode cX11_namesOne 0 = .ok (.aload_n 0, 1) := by decide +kernel
theorem dX11_namesOne_1 : decode cX11_namesOne 1 = .ok (.getfield 103, 3) := by decide +kernel
theorem dX11_namesOne_4 : decode cX11_namesOne 4 = .ok (.iload_n 1, 1) := by decide +kernel
theorem dX11_namesOne_5 : decode cX11_namesOne 5 = .ok (.aload_n 0, 1) := by decide +kernel
theorem dX11_namesOne_6 : decode cX11_namesOne 6 = .ok (.getfield 249, 3) := by decide +kernel
theorem dX11_namesOne_9 : decode cX11_namesOne 9 = .ok (.iastore, 1) := by decide +kernel
theorem dX11_namesOne_10 : decode cX11_namesOne 10 = .ok (.aload_n 0, 1) := by decide +kernel
theorem dX11_namesOne_11 : decode cX11_namesOne 11 = .ok (.getfield 82, 3) := by decide +kernel
theorem dX11_namesOne_14 : decode cX11_namesOne 14 = .ok (.iload_n 1, 1) := by decide +kernel
theorem dX11_namesOne_15 : decode cX11_namesOne 15 = .ok (.iload_n 2, 1) := by decide +kernel
theorem dX11_namesOne_16 : decode cX11_namesOne 16 = .ok (.iastore, 1) := by decide +kernel
theorem dX11_namesOne_17 : decode cX11_namesOne 17 = .ok (.aload_n 0, 1) := by decide +kernel
theorem dX11_namesOne_18 : decode cX11_namesOne 18 = .ok (.getfield 109, 3) := by decide +kernel
theorem dX11_namesOne_21 : decode cX11_namesOne 21 = .ok (.aload_n 0, 1) := by decide +kernel
theorem dX11_namesOne_22 : decode cX11_namesOne 22 = .ok (.getfield 222, 3) := by decide +kernel
theorem dX11_namesOne_25 : decode cX11_namesOne 25 = .ok (.aload_n 0, 1) := by decide +kernel
theorem dX11_namesOne_26 : decode cX11_namesOne 26 = .ok (.getfield 249, 3) := by decide +kernel
theorem dX11_namesOne_29 : decode cX11_namesOne 29 = .ok (.iastore, 1) := by decide +kernel
theorem dX11_namesOne_30 : decode cX11_namesOne 30 = .ok (.aload_n 0, 1) := by decide +kernel
theorem dX11_namesOne_31 : decode cX11_namesOne 31 = .ok (.dup, 1) := by decide +kernel
theorem dX11_namesOne_32 : decode cX11_namesOne 32 = .ok (.getfield 222, 3) := by decide +kernel
theorem dX11_namesOne_35 : decode cX11_namesOne 35 = .ok (.iconst 1, 1) := by decide +kernel
theorem dX11_namesOne_36 : decode cX11_namesOne 36 = .ok (.iadd, 1) := by decide +kernel
theorem dX11_namesOne_37 : decode cX11_namesOne 37 = .ok (.putfield 222, 3) := by decide +kernel
theorem dX11_namesOne_40 : decode cX11_namesOne 40 = .ok (.aload_n 0, 1) := by decide +kernel
theorem dX11_namesOne_41 : decode cX11_namesOne 41 = .ok (.iconst 0, 1) := by decide +kernel
theorem dX11_namesOne_42 : decode cX11_namesOne 42 = .ok (.putfield 243, 3) := by decide +kernel
theorem dX11_namesOne_45 : decode cX11_namesOne 45 = .ok (.aload_n 0, 1) := by decide +kernel
theorem dX11_namesOne_46 : decode cX11_namesOne 46 = .ok (.invokevirtual 307, 3) := by decide +kernel
theorem dX11_namesOne_49 : decode cX11_namesOne 49 = .ok (.return_, 1) := by decide +kernel
set_option maxHeartbeats 4000000 in
set_option maxRecDepth 20000 in
theorem b_readsGiven_260 {p : Program} {l : Launch} {e : Env} {s : State} {m : MethodId} {args : Array Value} {below : List Frame} {meth : Method} {c : Code} {D : va_G} {cy : Nat → ClassId} {ad : Nat → Nat} {q : Int32 × MS} (C : vC p s m args meth c cX11_readsGiven 7 (some .boolean) RX11 D (cyT cy)) (hi : ∀ i j, i < 34 → j < 34 → ad i = ad j → i = j) : ∀ (σ : MS), B_readsGiven_260 σ = some q → V p l e { frames := 7, cells := 0, slots := 0, locals := 180 } s m args below meth c D (inAd ad) 7 (MQ below (vQ D (inAd ad) (some (.int q.1)) (wm cy ad q.2)) args s 0 0 (inAd ad)) 0 0 (wm cy ad σ) 260 [(0, .ref (ad 0))] [] := by
  intro σ h
  rw [B_readsGiven_260] at h
  refine v_iconst C 0 dX11_readsGiven_260 (by decide) ?_
  obtain rfl := Option.some.inj h
  exact v_zret C (Or.inl rfl) dX11_readsGiven_261
set_option maxHeartbeats 4000000 in
set_option maxRecDepth 20000 in
theorem b_readsGiven_133 {p : Program} {l : Launch} {e : Env} {s : State} {m : MethodId} {args : Array Value} {below : List Frame} {meth : Method} {c : Code} {D : va_G} {cy : Nat → ClassId} {ad : Nat → Nat} {q : Int32 × MS} (C : vC p s m args meth c cX11_readsGiven 7 (some .boolean) RX11 D (cyT cy)) (hi : ∀ i j, i < 34 → j < 34 → ad i = ad j → i = j) : ∀ (x1 : Int32) (x3 : Int32) (x4 : Int32) (σ : MS), B_readsGiven_133 x1 x3 x4 σ = some q → V p l e { frames := 7, cells := 0, slots := 0, locals := 180 } s m args below meth c D (inAd ad) 7 (MQ below (vQ D (inAd ad) (some (.int q.1)) (wm cy ad q.2)) args s 0 0 (inAd ad)) 0 0 (wm cy ad σ) 133 [(0, .ref (ad 0)), (1, .int x1), (3, .int x3), (4, .int x4)] [] := by
  intro x1 x3 x4 σ h
  rw [B_readsGiven_133] at h
  refine v_iload_n C 1 dX11_readsGiven_133 rfl rfl ?_
  refine v_bipush C 92 dX11_readsGiven_134 (by decide) ?_
  refine v_icmp_ne C 260 dX11_readsGiven_136 (by decide) (fun c1 => ?_) (fun c1 => ?_)
  · rw [if_neg c1] at h
    exact v_sub [0] rfl ((b_readsGiven_260 C hi) _ h)
  · rw [if_pos c1] at h
    refine v_iload_n C 2 dX11_readsGiven_139 rfl rfl ?_
    refine v_bipush C 80 dX11_readsGiven_140 (by decide) ?_
    refine v_icmp_ne C 260 dX11_readsGiven_142 (by decide) (fun c2 => ?_) (fun c2 => ?_)
    · rw [if_neg c2] at h
      exact v_sub [0] rfl ((b_readsGiven_260 C hi) _ h)
    · rw [if_pos c2] at h
      refine v_aload_n C 0 dX11_readsGiven_145 rfl rfl ?_
      refine n_getI C fl_222 dX11_readsGiven_146 ?_
      refine v_bipush C 10 dX11_readsGiven_149 (by decide) ?_
      refine v_icmp_ge C 260 dX11_readsGiven_151 (by decide) (fun c3 => ?_) (fun c3 => ?_)
      · rw [if_pos c3] at h
        exact v_sub [0] rfl ((b_readsGiven_260 C hi) _ h)
      · rw [if_neg c3] at h
        refine v_aload_n C 0 dX11_readsGiven_154 rfl rfl ?_
        refine v_dup C dX11_readsGiven_155 rfl ?_
        refine n_getI C fl_213 dX11_readsGiven_156 ?_
        refine v_iconst C 1 dX11_readsGiven_159 (by decide) ?_
        refine v_iadd C dX11_readsGiven_160 ?_
        refine n_putI C fl_213 dX11_readsGiven_161 ?_
        refine v_aload_n C 0 dX11_readsGiven_164 rfl rfl ?_
        refine v_bipush C 13 dX11_readsGiven_165 (by decide) ?_
        refine v_iload C 3 dX11_readsGiven_167 rfl ?_
        obtain ⟨q1, hq1, h⟩ := bd_of h
        refine vm_call C [.int 13, .int x4] [] (c_begins hi _ _ _ hq1) hY_begins ml_265 ⟨Nat.le_of_ble_eq_true rfl, Nat.le_of_ble_eq_true rfl⟩ ⟨Nat.zero_le _, Nat.zero_le _⟩ rfl rfl (Nat.le_of_ble_eq_true rfl) dX11_readsGiven_169 (wm_inj hi cy _) ?_
        refine v_aload_n C 0 dX11_readsGiven_172 rfl rfl ?_
        refine v_aload_n C 0 dX11_readsGiven_173 rfl rfl ?_
        refine n_getI C fl_228 dX11_readsGiven_174 ?_
        refine v_iconst C 1 dX11_readsGiven_177 (by decide) ?_
        refine v_iadd C dX11_readsGiven_178 ?_
        refine v_aload_n C 0 dX11_readsGiven_179 rfl rfl ?_
        refine n_getI C fl_231 dX11_readsGiven_180 ?_
        refine v_aload_n C 0 dX11_readsGiven_183 rfl rfl ?_
        refine n_getI C fl_234 dX11_readsGiven_184 ?_
        refine v_aload_n C 0 dX11_readsGiven_187 rfl rfl ?_
        refine n_getI C fl_222 dX11_readsGiven_188 ?_
        obtain ⟨q2, hq2, h⟩ := bd_of h
        refine vm_call C [.int ((q1.2.1 48) + 1), .int (q1.2.1 49), .int (q1.2.1 50), .int (q1.2.1 46)] [] (c_typeBy hi _ _ _ _ _ hq2) hY_typeBy ml_255 ⟨Nat.le_of_ble_eq_true rfl, Nat.le_of_ble_eq_true rfl⟩ ⟨Nat.zero_le _, Nat.zero_le _⟩ rfl rfl (Nat.le_of_ble_eq_true rfl) dX11_readsGiven_191 (wm_inj hi cy _) ?_
        refine v_istore C [(5, .int q2.1), (0, .ref (ad 0)), (1, .int x1), (3, .int x3), (4, .int x4)] dX11_readsGiven_194 (by decide) rfl ?_
        refine v_aload_n C 1 dX11_readsGiven_196 rfl rfl ?_
        refine v_aload_n C 1 dX11_readsGiven_197 rfl rfl ?_
        refine n_getI C fl_234 dX11_readsGiven_198 ?_
        refine v_aload_n C 1 dX11_readsGiven_201 rfl rfl ?_
        refine n_getI C fl_231 dX11_readsGiven_202 ?_
        refine v_aload_n C 1 dX11_readsGiven_205 rfl rfl ?_
        refine n_getI C fl_222 dX11_readsGiven_206 ?_
        obtain ⟨q3, hq3, h⟩ := bd_of h
        refine vm_call C [.int (q2.2.1 50), .int (q2.2.1 49), .int (q2.2.1 46)] [] (c_with hi _ _ _ _ hq3) hY_with ml_177 ⟨Nat.le_of_ble_eq_true rfl, Nat.le_of_ble_eq_true rfl⟩ ⟨Nat.zero_le _, Nat.zero_le _⟩ rfl rfl (Nat.le_of_ble_eq_true rfl) dX11_readsGiven_209 (wm_inj hi cy _) ?_
        refine v_istore C [(6, .int q3.1), (5, .int q2.1), (0, .ref (ad 0)), (1, .int x1), (3, .int x3), (4, .int x4)] dX11_readsGiven_212 (by decide) rfl ?_
        refine v_aload_n C 2 dX11_readsGiven_214 rfl rfl ?_
        refine n_getR C fl_109 dX11_readsGiven_215 ?_
        refine v_aload_n C 2 dX11_readsGiven_218 rfl rfl ?_
        refine n_getI C fl_222 dX11_readsGiven_219 ?_
        refine v_iload C 1 dX11_readsGiven_222 rfl ?_
        obtain ⟨g1, h⟩ := gd_of h
        refine vm_iast C 32 iI_32 (ix_in g1) dX11_readsGiven_224 ?_
        refine v_aload_n C 2 dX11_readsGiven_225 rfl rfl ?_
        refine v_iconst C 3 dX11_readsGiven_226 (by decide) ?_
        refine v_aload_n C 2 dX11_readsGiven_227 rfl rfl ?_
        refine v_aload_n C 2 dX11_readsGiven_228 rfl rfl ?_
        refine n_getI C fl_228 dX11_readsGiven_229 ?_
        refine v_iconst C 1 dX11_readsGiven_232 (by decide) ?_
        refine v_iadd C dX11_readsGiven_233 ?_
        obtain ⟨q4, hq4, h⟩ := bd_of h
        refine vm_call C [.int (((setA q3.2 32 ((q3.2.1 46) : Int32).toNatClampNeg q2.1).1 48) + 1)] [.int 3, .ref (ad 0)] (c_behind hi _ _ hq4) hY_behind ml_127 ⟨Nat.le_of_ble_eq_true rfl, Nat.le_of_ble_eq_true rfl⟩ ⟨Nat.zero_le _, Nat.zero_le _⟩ rfl rfl (Nat.le_of_ble_eq_true rfl) dX11_readsGiven_234 (wm_inj hi cy _) ?_
        refine v_aload_n C 2 dX11_readsGiven_237 rfl rfl ?_
        refine n_getI C fl_231 dX11_readsGiven_238 ?_
        refine v_iconst C 1 dX11_readsGiven_241 (by decide) ?_
        refine v_iadd C dX11_readsGiven_242 ?_
        refine v_iload C 0 dX11_readsGiven_243 rfl ?_
        obtain ⟨q5, hq5, h⟩ := bd_of h
        refine vm_call C [.int 3, .int q4.1, .int ((q4.2.1 49) + 1), .int q3.1] [] (c_dueTerm hi _ _ _ _ _ hq5) hY_dueTerm ml_274 ⟨Nat.le_of_ble_eq_true rfl, Nat.le_of_ble_eq_true rfl⟩ ⟨Nat.zero_le _, Nat.zero_le _⟩ rfl rfl (Nat.le_of_ble_eq_true rfl) dX11_readsGiven_245 (wm_inj hi cy _) ?_
        refine v_aload_n C 2 dX11_readsGiven_248 rfl rfl ?_
        refine v_dup C dX11_readsGiven_249 rfl ?_
        refine n_getI C fl_222 dX11_readsGiven_250 ?_
        refine v_iconst C 1 dX11_readsGiven_253 (by decide) ?_
        refine v_iadd C dX11_readsGiven_254 ?_
        refine n_putI C fl_222 dX11_readsGiven_255 ?_
        refine v_iconst C 1 dX11_readsGiven_258 (by decide) ?_
        obtain rfl := Option.some.inj h
        exact v_zret C (Or.inr rfl) dX11_readsGiven_259
set_option maxHeartbeats 4000000 in
set_option maxRecDepth 20000 in
theorem b_readsGiven_82 {p : Program} {l : Launch} {e : Env} {s : State} {m : MethodId} {args : Array Value} {below : List Frame} {meth : Method} {c : Code} {D : va_G} {cy : Nat → ClassId} {ad : Nat → Nat} {q : Int32 × MS} (C : vC p s m args meth c cX11_readsGiven 7 (some .boolean) RX11 D (cyT cy)) (hi : ∀ i j, i < 34 → j < 34 → ad i = ad j → i = j) : ∀ (x1 : Int32) (x3 : Int32) (x4 : Int32) (σ : MS), B_readsGiven_82 x1 x3 x4 σ = some q → V p l e { frames := 7, cells := 0, slots := 0, locals := 180 } s m args below meth c D (inAd ad) 7 (MQ below (vQ D (inAd ad) (some (.int q.1)) (wm cy ad q.2)) args s 0 0 (inAd ad)) 0 0 (wm cy ad σ) 82 [(0, .ref (ad 0)), (1, .int x1), (3, .int x3), (4, .int x4)] [] := by
  intro x1 x3 x4 σ h
  rw [B_readsGiven_82] at h
  refine v_iload_n C 1 dX11_readsGiven_82 rfl rfl ?_
  refine v_bipush C 44 dX11_readsGiven_83 (by decide) ?_
  refine v_icmp_ne C 133 dX11_readsGiven_85 (by decide) (fun c1 => ?_) (fun c1 => ?_)
  · rw [if_neg c1] at h
    exact v_sub [0, 1, 2, 3] rfl ((b_readsGiven_133 C hi) _ _ _ _ h)
  · rw [if_pos c1] at h
    refine v_iload_n C 2 dX11_readsGiven_88 rfl rfl ?_
    refine v_bipush C 83 dX11_readsGiven_89 (by decide) ?_
    refine v_icmp_ne C 133 dX11_readsGiven_91 (by decide) (fun c2 => ?_) (fun c2 => ?_)
    · rw [if_neg c2] at h
      exact v_sub [0, 1, 2, 3] rfl ((b_readsGiven_133 C hi) _ _ _ _ h)
    · rw [if_pos c2] at h
      refine v_aload_n C 0 dX11_readsGiven_94 rfl rfl ?_
      refine v_dup C dX11_readsGiven_95 rfl ?_
      refine n_getI C fl_213 dX11_readsGiven_96 ?_
      refine v_iconst C 1 dX11_readsGiven_99 (by decide) ?_
      refine v_iadd C dX11_readsGiven_100 ?_
      refine n_putI C fl_213 dX11_readsGiven_101 ?_
      refine v_aload_n C 0 dX11_readsGiven_104 rfl rfl ?_
      refine v_bipush C 11 dX11_readsGiven_105 (by decide) ?_
      refine v_iload C 3 dX11_readsGiven_107 rfl ?_
      obtain ⟨q1, hq1, h⟩ := bd_of h
      refine vm_call C [.int 11, .int x4] [] (c_begins hi _ _ _ hq1) hY_begins ml_265 ⟨Nat.le_of_ble_eq_true rfl, Nat.le_of_ble_eq_true rfl⟩ ⟨Nat.zero_le _, Nat.zero_le _⟩ rfl rfl (Nat.le_of_ble_eq_true rfl) dX11_readsGiven_109 (wm_inj hi cy _) ?_
      refine v_aload_n C 0 dX11_readsGiven_112 rfl rfl ?_
      refine v_iconst C 3 dX11_readsGiven_113 (by decide) ?_
      refine v_aload_n C 0 dX11_readsGiven_114 rfl rfl ?_
      refine n_getI C fl_228 dX11_readsGiven_115 ?_
      refine v_iconst C 1 dX11_readsGiven_118 (by decide) ?_
      refine v_iadd C dX11_readsGiven_119 ?_
      refine v_aload_n C 0 dX11_readsGiven_120 rfl rfl ?_
      refine n_getI C fl_231 dX11_readsGiven_121 ?_
      refine v_aload_n C 0 dX11_readsGiven_124 rfl rfl ?_
      refine n_getI C fl_234 dX11_readsGiven_125 ?_
      obtain ⟨q2, hq2, h⟩ := bd_of h
      refine vm_call C [.int 3, .int ((q1.2.1 48) + 1), .int (q1.2.1 49), .int (q1.2.1 50)] [] (c_dueTerm hi _ _ _ _ _ hq2) hY_dueTerm ml_274 ⟨Nat.le_of_ble_eq_true rfl, Nat.le_of_ble_eq_true rfl⟩ ⟨Nat.zero_le _, Nat.zero_le _⟩ rfl rfl (Nat.le_of_ble_eq_true rfl) dX11_readsGiven_128 (wm_inj hi cy _) ?_
      refine v_iconst C 1 dX11_readsGiven_131 (by decide) ?_
      obtain rfl := Option.some.inj h
      exact v_zret C (Or.inr rfl) dX11_readsGiven_132
set_option maxHeartbeats 4000000 in
set_option maxRecDepth 20000 in
theorem b_readsGiven_31 {p : Program} {l : Launch} {e : Env} {s : State} {m : MethodId} {args : Array Value} {below : List Frame} {meth : Method} {c : Code} {D : va_G} {cy : Nat → ClassId} {ad : Nat → Nat} {q : Int32 × MS} (C : vC p s m args meth c cX11_readsGiven 7 (some .boolean) RX11 D (cyT cy)) (hi : ∀ i j, i < 34 → j < 34 → ad i = ad j → i = j) : ∀ (x1 : Int32) (s0 : Int32) (σ : MS), B_readsGiven_31 x1 s0 σ = some q → V p l e { frames := 7, cells := 0, slots := 0, locals := 180 } s m args below meth c D (inAd ad) 7 (MQ below (vQ D (inAd ad) (some (.int q.1)) (wm cy ad q.2)) args s 0 0 (inAd ad)) 0 0 (wm cy ad σ) 31 [(0, .ref (ad 0)), (1, .int x1)] [.int s0] := by
  intro x1 s0 σ h
  rw [B_readsGiven_31] at h
  refine v_istore_n C [(3, .int s0), (0, .ref (ad 0)), (1, .int x1)] dX11_readsGiven_31 rfl (by decide) rfl ?_
  refine v_aload_n C 1 dX11_readsGiven_32 rfl rfl ?_
  refine n_getI C fl_213 dX11_readsGiven_33 ?_
  refine v_istore C [(4, .int (σ.1 56)), (3, .int s0), (0, .ref (ad 0)), (1, .int x1)] dX11_readsGiven_36 (by decide) rfl ?_
  refine v_iload_n C 3 dX11_readsGiven_38 rfl rfl ?_
  refine v_bipush C 42 dX11_readsGiven_39 (by decide) ?_
  refine v_icmp_ne C 82 dX11_readsGiven_41 (by decide) (fun c1 => ?_) (fun c1 => ?_)
  · rw [if_neg c1] at h
    exact v_sub [2, 3, 1, 0] rfl ((b_readsGiven_82 C hi) _ _ _ _ h)
  · rw [if_pos c1] at h
    refine v_iload_n C 1 dX11_readsGiven_44 rfl rfl ?_
    refine v_bipush C 49 dX11_readsGiven_45 (by decide) ?_
    refine v_icmp_ne C 82 dX11_readsGiven_47 (by decide) (fun c2 => ?_) (fun c2 => ?_)
    · rw [if_neg c2] at h
      exact v_sub [2, 3, 1, 0] rfl ((b_readsGiven_82 C hi) _ _ _ _ h)
    · rw [if_pos c2] at h
      refine v_aload_n C 2 dX11_readsGiven_50 rfl rfl ?_
      refine v_dup C dX11_readsGiven_51 rfl ?_
      refine n_getI C fl_213 dX11_readsGiven_52 ?_
      refine v_iconst C 1 dX11_readsGiven_55 (by decide) ?_
      refine v_iadd C dX11_readsGiven_56 ?_
      refine n_putI C fl_213 dX11_readsGiven_57 ?_
      refine v_aload_n C 2 dX11_readsGiven_60 rfl rfl ?_
      refine n_getI C fl_133 dX11_readsGiven_61 ?_
      refine v_istore C [(5, .int ((setF σ 56 ((σ.1 56) + 1)).1 1)), (4, .int (σ.1 56)), (3, .int s0), (0, .ref (ad 0)), (1, .int x1)] dX11_readsGiven_64 (by decide) rfl ?_
      refine v_aload_n C 3 dX11_readsGiven_66 rfl rfl ?_
      refine v_bipush C 42 dX11_readsGiven_67 (by decide) ?_
      obtain ⟨q1, hq1, h⟩ := bd_of h
      refine vm_call C [.int 42] [] (c_puts hi _ _ hq1) hY_puts ml_136 ⟨Nat.le_of_ble_eq_true rfl, Nat.le_of_ble_eq_true rfl⟩ ⟨Nat.zero_le _, Nat.zero_le _⟩ rfl rfl (Nat.le_of_ble_eq_true rfl) dX11_readsGiven_69 (wm_inj hi cy _) ?_
      refine v_aload_n C 3 dX11_readsGiven_72 rfl rfl ?_
      refine v_iload C 1 dX11_readsGiven_73 rfl ?_
      refine v_iload C 0 dX11_readsGiven_75 rfl ?_
      obtain ⟨q2, hq2, h⟩ := bd_of h
      refine vm_call C [.int (σ.1 56), .int ((setF σ 56 ((σ.1 56) + 1)).1 1)] [] (c_endsGiven hi _ _ _ hq2) hY_endsGiven ml_304 ⟨Nat.le_of_ble_eq_true rfl, Nat.le_of_ble_eq_true rfl⟩ ⟨Nat.zero_le _, Nat.zero_le _⟩ rfl rfl (Nat.le_of_ble_eq_true rfl) dX11_readsGiven_77 (wm_inj hi cy _) ?_
      refine v_iconst C 1 dX11_readsGiven_80 (by decide) ?_
      obtain rfl := Option.some.inj h
      exact v_zret C (Or.inr rfl) dX11_readsGiven_81
set_option maxHeartbeats 4000000 in
set_option maxRecDepth 20000 in
theorem b_readsGiven_13 {p : Program} {l : Launch} {e : Env} {s : State} {m : MethodId} {args : Array Value} {below : List Frame} {meth : Method} {c : Code} {D : va_G} {cy : Nat → ClassId} {ad : Nat → Nat} {q : Int32 × MS} (C : vC p s m args meth c cX11_readsGiven 7 (some .boolean) RX11 D (cyT cy)) (hi : ∀ i j, i < 34 → j < 34 → ad i = ad j → i = j) : ∀ (x1 : Int32) (s0 : Int32) (σ : MS), B_readsGiven_13 x1 s0 σ = some q → V p l e { frames := 7, cells := 0, slots := 0, locals := 180 } s m args below meth c D (inAd ad) 7 (MQ below (vQ D (inAd ad) (some (.int q.1)) (wm cy ad q.2)) args s 0 0 (inAd ad)) 0 0 (wm cy ad σ) 13 [(0, .ref (ad 0)), (1, .int x1)] [.int s0] := by
  intro x1 s0 σ h
  rw [B_readsGiven_13] at h
  refine v_istore_n C [(2, .int s0), (0, .ref (ad 0)), (1, .int x1)] dX11_readsGiven_13 rfl (by decide) rfl ?_
  refine v_iload_n C 0 dX11_readsGiven_14 rfl rfl ?_
  refine v_if_eq C 30 dX11_readsGiven_15 (by decide) (fun c1 => ?_) (fun c1 => ?_)
  · rw [if_pos c1] at h
    refine v_iconst C 0 dX11_readsGiven_30 (by decide) ?_
    exact v_sub [1, 2] rfl ((b_readsGiven_31 C hi) _ _ _ h)
  · rw [if_neg c1] at h
    refine v_aload_n C 1 dX11_readsGiven_18 rfl rfl ?_
    refine n_getR C fl_7 dX11_readsGiven_19 ?_
    refine v_aload_n C 1 dX11_readsGiven_22 rfl rfl ?_
    refine n_getI C fl_228 dX11_readsGiven_23 ?_
    obtain ⟨g1, h⟩ := gd_of h
    refine vm_iald C 1 iI_1 (ix_in g1) dX11_readsGiven_26 ?_
    refine v_goto C 31 dX11_readsGiven_27 (by decide) ?_
    exact v_sub [1, 2] rfl ((b_readsGiven_31 C hi) _ _ _ h)
set_option maxHeartbeats 4000000 in
set_option maxRecDepth 20000 in
theorem c_readsGiven {l : Launch} {D : va_G} {cy : Nat → ClassId} {ad : Nat → Nat} {q : Int32 × MS} (hi : ∀ i j, i < 34 → j < 34 → ad i = ad j → i = j) (x1 : Int32) (σ : MS) (h : f_readsGiven x1 σ = some q) : MV l D (cyT cy) (inAd ad) yX11_readsGiven cX11_readsGiven 7 (some .boolean) 7 180 0 0 [.ref (ad 0), .int x1] (wm cy ad σ) (some (.int q.1)) (wm cy ad q.2) := by
  refine MV.of (by decide) (wm_inj hi cy σ) (Nat.le_of_ble_eq_true rfl) [(0, .ref (ad 0)), (1, .int x1)] rfl ?_
  intro p e s m args below meth c C
  rw [f_readsGiven] at h
  refine v_aload_n C 0 dX11_readsGiven_0 rfl rfl ?_
  refine n_getI C fl_225 dX11_readsGiven_1 ?_
  refine v_iconst C 3 dX11_readsGiven_4 (by decide) ?_
  refine v_icmp_ne C 12 dX11_readsGiven_5 (by decide) (fun c1 => ?_) (fun c1 => ?_)
  · rw [if_neg c1] at h
    refine v_iconst C 0 dX11_readsGiven_12 (by decide) ?_
    exact v_sub [0, 1] rfl ((b_readsGiven_13 C hi) _ _ _ h)
  · rw [if_pos c1] at h
    refine v_iconst C 1 dX11_readsGiven_8 (by decide) ?_
    refine v_goto C 13 dX11_readsGiven_9 (by decide) ?_
    exact v_sub [0, 1] rfl ((b_readsGiven_13 C hi) _ _ _ h)
set_option maxHeartbeats 4000000 in
set_option maxRecDepth 20000 in
theorem b_readsFound_84 {p : Program} {l : Launch} {e : Env} {s : State} {m : MethodId} {args : Array Value} {below : List Frame} {meth : Method} {c : Code} {D : va_G} {cy : Nat → ClassId} {ad : Nat → Nat} {q : Int32 × MS} (C : vC p s m args meth c cX11_readsFound 3 none RX11 D (cyT cy)) (hi : ∀ i j, i < 34 → j < 34 → ad i = ad j → i = j) {k158 : MS → Option (Int32 × MS)} (hk158 : ∀  (σ : MS), k158 σ = some q → V p l e { frames := 10, cells := 0, slots := 0, locals := 251 } s m args below meth c D (inAd ad) 3 (MQ below (vQ D (inAd ad) none (wm cy ad q.2)) args s 0 0 (inAd ad)) 0 0 (wm cy ad σ) 158 [(0, .ref (ad 0))] []) : ∀ (x2 : Int32) (s0 : Int32) (σ : MS), B_readsFound_84 k158 x2 s0 σ = some q → V p l e { frames := 10, cells := 0, slots := 0, locals := 251 } s m args below meth c D (inAd ad) 3 (MQ below (vQ D (inAd ad) none (wm cy ad q.2)) args s 0 0 (inAd ad)) 0 0 (wm cy ad σ) 84 [(0, .ref (ad 0)), (2, .int x2)] [.int s0, .ref (ad 0)] := by
  intro x2 s0 σ h
  rw [B_readsFound_84] at h
  refine v_iload_n C 1 dX11_readsFound_84 rfl rfl ?_
  obtain ⟨q1, hq1, h⟩ := bd_of h
  refine vm_call C [.int s0, .int x2] [] (c_begins hi _ _ _ hq1) hY_begins ml_265 ⟨Nat.le_of_ble_eq_true rfl, Nat.le_of_ble_eq_true rfl⟩ ⟨Nat.zero_le _, Nat.zero_le _⟩ rfl rfl (Nat.le_of_ble_eq_true rfl) dX11_readsFound_85 (wm_inj hi cy _) ?_
  refine v_aload_n C 0 dX11_readsFound_88 rfl rfl ?_
  refine v_iconst C 2 dX11_readsFound_89 (by decide) ?_
  refine v_iconst C 0 dX11_readsFound_90 (by decide) ?_
  refine v_iconst C 0 dX11_readsFound_91 (by decide) ?_
  refine v_iconst C 0 dX11_readsFound_92 (by decide) ?_
  obtain ⟨q2, hq2, h⟩ := bd_of h
  refine vm_call C [.int 2, .int 0, .int 0, .int 0] [] (c_dueTerm hi _ _ _ _ _ hq2) hY_dueTerm ml_274 ⟨Nat.le_of_ble_eq_true rfl, Nat.le_of_ble_eq_true rfl⟩ ⟨Nat.zero_le _, Nat.zero_le _⟩ rfl rfl (Nat.le_of_ble_eq_true rfl) dX11_readsFound_93 (wm_inj hi cy _) ?_
  refine v_goto C 158 dX11_readsFound_96 (by decide) ?_
  exact v_sub [0] rfl (hk158 _ h)
set_option maxHeartbeats 4000000 in
set_option maxRecDepth 20000 in
theorem b_readsFound_70 {p : Program} {l : Launch} {e : Env} {s : State} {m : MethodId} {args : Array Value} {below : List Frame} {meth : Method} {c : Code} {D : va_G} {cy : Nat → ClassId} {ad : Nat → Nat} {q : Int32 × MS} (C : vC p s m args meth c cX11_readsFound 3 none RX11 D (cyT cy)) (hi : ∀ i j, i < 34 → j < 34 → ad i = ad j → i = j) {k158 : MS → Option (Int32 × MS)} (hk158 : ∀  (σ : MS), k158 σ = some q → V p l e { frames := 10, cells := 0, slots := 0, locals := 251 } s m args below meth c D (inAd ad) 3 (MQ below (vQ D (inAd ad) none (wm cy ad q.2)) args s 0 0 (inAd ad)) 0 0 (wm cy ad σ) 158 [(0, .ref (ad 0))] []) : ∀ (x1 : Int32) (x2 : Int32) (σ : MS), B_readsFound_70 k158 x1 x2 σ = some q → V p l e { frames := 10, cells := 0, slots := 0, locals := 251 } s m args below meth c D (inAd ad) 3 (MQ below (vQ D (inAd ad) none (wm cy ad q.2)) args s 0 0 (inAd ad)) 0 0 (wm cy ad σ) 70 [(0, .ref (ad 0)), (1, .int x1), (2, .int x2)] [] := by
  intro x1 x2 σ h
  rw [B_readsFound_70] at h
  refine v_aload_n C 0 dX11_readsFound_70 rfl rfl ?_
  refine v_iload_n C 1 dX11_readsFound_71 rfl rfl ?_
  refine v_bipush C 60 dX11_readsFound_72 (by decide) ?_
  refine v_icmp_ne C 82 dX11_readsFound_74 (by decide) (fun c1 => ?_) (fun c1 => ?_)
  · rw [if_neg c1] at h
    refine v_bipush C 10 dX11_readsFound_82 (by decide) ?_
    exact v_sub [0, 2] rfl ((b_readsFound_84 C hi hk158) _ _ _ h)
  · rw [if_pos c1] at h
    refine v_bipush C 9 dX11_readsFound_77 (by decide) ?_
    refine v_goto C 84 dX11_readsFound_79 (by decide) ?_
    exact v_sub [0, 2] rfl ((b_readsFound_84 C hi hk158) _ _ _ h)
set_option maxHeartbeats 4000000 in
set_option maxRecDepth 20000 in
theorem b_readsFound_158 {p : Program} {l : Launch} {e : Env} {s : State} {m : MethodId} {args : Array Value} {below : List Frame} {meth : Method} {c : Code} {D : va_G} {cy : Nat → ClassId} {ad : Nat → Nat} {q : Int32 × MS} (C : vC p s m args meth c cX11_readsFound 3 none RX11 D (cyT cy)) (hi : ∀ i j, i < 34 → j < 34 → ad i = ad j → i = j) : ∀ (σ : MS), B_readsFound_158 σ = some q → V p l e { frames := 10, cells := 0, slots := 0, locals := 251 } s m args below meth c D (inAd ad) 3 (MQ below (vQ D (inAd ad) none (wm cy ad q.2)) args s 0 0 (inAd ad)) 0 0 (wm cy ad σ) 158 [(0, .ref (ad 0))] [] := by
  intro σ h
  rw [B_readsFound_158] at h
  obtain rfl := Option.some.inj h
  exact v_vret C dX11_readsFound_158
set_option maxHeartbeats 4000000 in
set_option maxRecDepth 20000 in
theorem c_readsFound {l : Launch} {D : va_G} {cy : Nat → ClassId} {ad : Nat → Nat} {q : Int32 × MS} (hi : ∀ i j, i < 34 → j < 34 → ad i = ad j → i = j) (x1 : Int32) (σ : MS) (h : f_readsFound x1 σ = some q) : MV l D (cyT cy) (inAd ad) yX11_readsFound cX11_readsFound 3 none 10 251 0 0 [.ref (ad 0), .int x1] (wm cy ad σ) none (wm cy ad q.2) := by
  refine MV.of (by decide) (wm_inj hi cy σ) (Nat.le_of_ble_eq_true rfl) [(0, .ref (ad 0)), (1, .int x1)] rfl ?_
  intro p e s m args below meth c C
  rw [f_readsFound] at h
  refine v_aload_n C 0 dX11_readsFound_0 rfl rfl ?_
  refine n_getI C fl_213 dX11_readsFound_1 ?_
  refine v_istore_n C [(2, .int (σ.1 56)), (0, .ref (ad 0)), (1, .int x1)] dX11_readsFound_4 rfl (by decide) rfl ?_
  refine v_aload_n C 1 dX11_readsFound_5 rfl rfl ?_
  refine v_dup C dX11_readsFound_6 rfl ?_
  refine n_getI C fl_213 dX11_readsFound_7 ?_
  refine v_iconst C 1 dX11_readsFound_10 (by decide) ?_
  refine v_iadd C dX11_readsFound_11 ?_
  refine n_putI C fl_213 dX11_readsFound_12 ?_
  refine v_iload_n C 2 dX11_readsFound_15 rfl rfl ?_
  refine v_bipush C 58 dX11_readsFound_16 (by decide) ?_
  refine v_icmp_ne C 34 dX11_readsFound_18 (by decide) (fun c1 => ?_) (fun c1 => ?_)
  · rw [if_neg c1] at h
    refine v_iload_n C 2 dX11_readsFound_34 rfl rfl ?_
    refine v_bipush C 46 dX11_readsFound_35 (by decide) ?_
    refine v_icmp_ne C 58 dX11_readsFound_37 (by decide) (fun c2 => ?_) (fun c2 => ?_)
    · rw [if_neg c2] at h
      refine v_iload_n C 2 dX11_readsFound_58 rfl rfl ?_
      refine v_bipush C 60 dX11_readsFound_59 (by decide) ?_
      refine v_icmp_eq C 70 dX11_readsFound_61 (by decide) (fun c3 => ?_) (fun c3 => ?_)
      · rw [if_pos c3] at h
        exact v_sub [1, 2, 0] rfl ((b_readsFound_70 C hi (b_readsFound_158 C hi)) _ _ _ h)
      · rw [if_neg c3] at h
        refine v_iload_n C 2 dX11_readsFound_64 rfl rfl ?_
        refine v_bipush C 62 dX11_readsFound_65 (by decide) ?_
        refine v_icmp_ne C 99 dX11_readsFound_67 (by decide) (fun c4 => ?_) (fun c4 => ?_)
        · rw [if_neg c4] at h
          refine v_iload_n C 2 dX11_readsFound_99 rfl rfl ?_
          refine v_bipush C 97 dX11_readsFound_100 (by decide) ?_
          refine v_icmp_lt C 136 dX11_readsFound_102 (by decide) (fun c5 => ?_) (fun c5 => ?_)
          · rw [if_pos c5] at h
            refine v_aload_n C 1 dX11_readsFound_136 rfl rfl ?_
            refine v_iload_n C 0 dX11_readsFound_137 rfl rfl ?_
            refine v_iload_n C 2 dX11_readsFound_138 rfl rfl ?_
            refine v_bipush C 48 dX11_readsFound_139 (by decide) ?_
            refine v_isub C dX11_readsFound_141 ?_
            refine v_aload_n C 1 dX11_readsFound_142 rfl rfl ?_
            refine n_getR C fl_109 dX11_readsFound_143 ?_
            refine v_iload_n C 2 dX11_readsFound_146 rfl rfl ?_
            refine v_bipush C 48 dX11_readsFound_147 (by decide) ?_
            refine v_isub C dX11_readsFound_149 ?_
            obtain ⟨g1, h⟩ := gd_of h
            refine vm_iald C 32 iI_32 (ix_in g1) dX11_readsFound_150 ?_
            refine v_iload_n C 2 dX11_readsFound_151 rfl rfl ?_
            refine v_bipush C 48 dX11_readsFound_152 (by decide) ?_
            refine v_isub C dX11_readsFound_154 ?_
            obtain ⟨q1, hq1, h⟩ := bd_of h
            refine vm_call C [.int (σ.1 56), .int (x1 - 48), .int ((setF σ 56 ((σ.1 56) + 1)).2.1 32 ((x1 - 48) : Int32).toNatClampNeg), .int (x1 - 48)] [] (c_readsSimple hi _ _ _ _ _ hq1) hY_readsSimple ml_310 ⟨Nat.le_of_ble_eq_true rfl, Nat.le_of_ble_eq_true rfl⟩ ⟨Nat.zero_le _, Nat.zero_le _⟩ rfl rfl (Nat.le_of_ble_eq_true rfl) dX11_readsFound_155 (wm_inj hi cy _) ?_
            exact v_sub [1] rfl ((b_readsFound_158 C hi) _ h)
          · rw [if_neg c5] at h
            refine v_aload_n C 1 dX11_readsFound_105 rfl rfl ?_
            refine v_iload_n C 0 dX11_readsFound_106 rfl rfl ?_
            refine v_aload_n C 1 dX11_readsFound_107 rfl rfl ?_
            refine v_iconst C 1 dX11_readsFound_108 (by decide) ?_
            refine v_iload_n C 2 dX11_readsFound_109 rfl rfl ?_
            refine v_iconst C 0 dX11_readsFound_110 (by decide) ?_
            refine v_iconst C 0 dX11_readsFound_111 (by decide) ?_
            obtain ⟨q2, hq2, h⟩ := bd_of h
            refine vm_call C [.int 1, .int x1, .int 0, .int 0] [.int (σ.1 56), .ref (ad 0)] (c_lays hi _ _ _ _ _ hq2) hY_lays ml_115 ⟨Nat.le_of_ble_eq_true rfl, Nat.le_of_ble_eq_true rfl⟩ ⟨Nat.zero_le _, Nat.zero_le _⟩ rfl rfl (Nat.le_of_ble_eq_true rfl) dX11_readsFound_112 (wm_inj hi cy _) ?_
            refine v_aload_n C 1 dX11_readsFound_115 rfl rfl ?_
            refine n_getI C fl_271 dX11_readsFound_116 ?_
            refine v_bipush C 51 dX11_readsFound_119 (by decide) ?_
            refine v_iconst C 3 dX11_readsFound_121 (by decide) ?_
            refine v_iload_n C 2 dX11_readsFound_122 rfl rfl ?_
            refine v_iadd C dX11_readsFound_123 ?_
            refine v_bipush C 97 dX11_readsFound_124 (by decide) ?_
            refine v_isub C dX11_readsFound_126 ?_
            refine v_imul C dX11_readsFound_127 ?_
            refine v_iadd C dX11_readsFound_128 ?_
            refine v_iconst C 0 dX11_readsFound_129 (by decide) ?_
            obtain ⟨q3, hq3, h⟩ := bd_of h
            refine vm_call C [.int (σ.1 56), .int q2.1, .int ((q2.2.1 7) + (51 * ((3 + x1) - 97))), .int 0] [] (c_readsSimple hi _ _ _ _ _ hq3) hY_readsSimple ml_310 ⟨Nat.le_of_ble_eq_true rfl, Nat.le_of_ble_eq_true rfl⟩ ⟨Nat.zero_le _, Nat.zero_le _⟩ rfl rfl (Nat.le_of_ble_eq_true rfl) dX11_readsFound_130 (wm_inj hi cy _) ?_
            refine v_goto C 158 dX11_readsFound_133 (by decide) ?_
            exact v_sub [1] rfl ((b_readsFound_158 C hi) _ h)
        · rw [if_pos c4] at h
          exact v_sub [1, 2, 0] rfl ((b_readsFound_70 C hi (b_readsFound_158 C hi)) _ _ _ h)
    · rw [if_pos c2] at h
      refine v_aload_n C 1 dX11_readsFound_40 rfl rfl ?_
      refine v_bipush C 7 dX11_readsFound_41 (by decide) ?_
      refine v_iload_n C 0 dX11_readsFound_43 rfl rfl ?_
      obtain ⟨q4, hq4, h⟩ := bd_of h
      refine vm_call C [.int 7, .int (σ.1 56)] [] (c_begins hi _ _ _ hq4) hY_begins ml_265 ⟨Nat.le_of_ble_eq_true rfl, Nat.le_of_ble_eq_true rfl⟩ ⟨Nat.zero_le _, Nat.zero_le _⟩ rfl rfl (Nat.le_of_ble_eq_true rfl) dX11_readsFound_44 (wm_inj hi cy _) ?_
      refine v_aload_n C 1 dX11_readsFound_47 rfl rfl ?_
      refine v_iconst C 1 dX11_readsFound_48 (by decide) ?_
      refine v_iconst C 0 dX11_readsFound_49 (by decide) ?_
      refine v_iconst C 0 dX11_readsFound_50 (by decide) ?_
      refine v_iconst C 0 dX11_readsFound_51 (by decide) ?_
      obtain ⟨q5, hq5, h⟩ := bd_of h
      refine vm_call C [.int 1, .int 0, .int 0, .int 0] [] (c_dueTerm hi _ _ _ _ _ hq5) hY_dueTerm ml_274 ⟨Nat.le_of_ble_eq_true rfl, Nat.le_of_ble_eq_true rfl⟩ ⟨Nat.zero_le _, Nat.zero_le _⟩ rfl rfl (Nat.le_of_ble_eq_true rfl) dX11_readsFound_52 (wm_inj hi cy _) ?_
      refine v_goto C 158 dX11_readsFound_55 (by decide) ?_
      exact v_sub [1] rfl ((b_readsFound_158 C hi) _ h)
  · rw [if_pos c1] at h
    refine v_aload_n C 1 dX11_readsFound_21 rfl rfl ?_
    refine v_iconst C 5 dX11_readsFound_22 (by decide) ?_
    refine v_iload_n C 0 dX11_readsFound_23 rfl rfl ?_
    obtain ⟨q6, hq6, h⟩ := bd_of h
    refine vm_call C [.int 5, .int (σ.1 56)] [] (c_begins hi _ _ _ hq6) hY_begins ml_265 ⟨Nat.le_of_ble_eq_true rfl, Nat.le_of_ble_eq_true rfl⟩ ⟨Nat.zero_le _, Nat.zero_le _⟩ rfl rfl (Nat.le_of_ble_eq_true rfl) dX11_readsFound_24 (wm_inj hi cy _) ?_
    refine v_aload_n C 1 dX11_readsFound_27 rfl rfl ?_
    obtain ⟨q7, hq7, h⟩ := bd_of h
    refine vm_call C [] [] (c_dueType hi _ hq7) hY_dueType ml_307 ⟨Nat.le_of_ble_eq_true rfl, Nat.le_of_ble_eq_true rfl⟩ ⟨Nat.zero_le _, Nat.zero_le _⟩ rfl rfl (Nat.le_of_ble_eq_true rfl) dX11_readsFound_28 (wm_inj hi cy _) ?_
    refine v_goto C 158 dX11_readsFound_31 (by decide) ?_
    exact v_sub [1] rfl ((b_readsFound_158 C hi) _ h)
set_option maxHeartbeats 4000000 in
set_option maxRecDepth 20000 in
theorem b_canStand_54 {p : Program} {l : Launch} {e : Env} {s : State} {m : MethodId} {args : Array Value} {below : List Frame} {meth : Method} {c : Code} {D : va_G} {cy : Nat → ClassId} {ad : Nat → Nat} {q : Int32 × MS} (C : vC p s m args meth c cX11_canStand 3 (some .boolean) RX11 D (cyT cy)) (hi : ∀ i j, i < 34 → j < 34 → ad i = ad j → i = j) {k78 : MS → Option (Int32 × MS)} {k83 : Int32 → MS → Option (Int32 × MS)} (hk78 : ∀  (σ : MS), k78 σ = some q → V p l e { frames := 1, cells := 0, slots := 0, locals := 22 } s m args below meth c D (inAd ad) 3 (MQ below (vQ D (inAd ad) (some (.int q.1)) (wm cy ad q.2)) args s 0 0 (inAd ad)) 0 0 (wm cy ad σ) 78 [(0, .ref (ad 0))] []) (hk83 : ∀ (s0 : Int32)  (σ : MS), k83 s0 σ = some q → V p l e { frames := 1, cells := 0, slots := 0, locals := 22 } s m args below meth c D (inAd ad) 3 (MQ below (vQ D (inAd ad) (some (.int q.1)) (wm cy ad q.2)) args s 0 0 (inAd ad)) 0 0 (wm cy ad σ) 83 [(0, .ref (ad 0))] [.int s0]) : ∀ (x1 : Int32) (σ : MS), B_canStand_54 k78 k83 x1 σ = some q → V p l e { frames := 1, cells := 0, slots := 0, locals := 22 } s m args below meth c D (inAd ad) 3 (MQ below (vQ D (inAd ad) (some (.int q.1)) (wm cy ad q.2)) args s 0 0 (inAd ad)) 0 0 (wm cy ad σ) 54 [(0, .ref (ad 0)), (1, .int x1)] [] := by
  intro x1 σ h
  rw [B_canStand_54] at h
  refine v_iload_n C 1 dX11_canStand_54 rfl rfl ?_
  refine v_bipush C 58 dX11_canStand_55 (by decide) ?_
  refine v_icmp_eq C 78 dX11_canStand_57 (by decide) (fun c1 => ?_) (fun c1 => ?_)
  · rw [if_pos c1] at h
    exact v_sub [0] rfl (hk78 _ h)
  · rw [if_neg c1] at h
    refine v_iload_n C 1 dX11_canStand_60 rfl rfl ?_
    refine v_bipush C 46 dX11_canStand_61 (by decide) ?_
    refine v_icmp_eq C 78 dX11_canStand_63 (by decide) (fun c2 => ?_) (fun c2 => ?_)
    · rw [if_pos c2] at h
      exact v_sub [0] rfl (hk78 _ h)
    · rw [if_neg c2] at h
      refine v_iload_n C 1 dX11_canStand_66 rfl rfl ?_
      refine v_bipush C 60 dX11_canStand_67 (by decide) ?_
      refine v_icmp_eq C 78 dX11_canStand_69 (by decide) (fun c3 => ?_) (fun c3 => ?_)
      · rw [if_pos c3] at h
        exact v_sub [0] rfl (hk78 _ h)
      · rw [if_neg c3] at h
        refine v_iload_n C 1 dX11_canStand_72 rfl rfl ?_
        refine v_bipush C 62 dX11_canStand_73 (by decide) ?_
        refine v_icmp_ne C 82 dX11_canStand_75 (by decide) (fun c4 => ?_) (fun c4 => ?_)
        · rw [if_neg c4] at h
          refine v_iconst C 0 dX11_canStand_82 (by decide) ?_
          exact v_sub [0] rfl (hk83 _ _ h)
        · rw [if_pos c4] at h
          exact v_sub [0] rfl (hk78 _ h)
set_option maxHeartbeats 4000000 in
set_option maxRecDepth 20000 in
theorem b_canStand_83 {p : Program} {l : Launch} {e : Env} {s : State} {m : MethodId} {args : Array Value} {below : List Frame} {meth : Method} {c : Code} {D : va_G} {cy : Nat → ClassId} {ad : Nat → Nat} {q : Int32 × MS} (C : vC p s m args meth c cX11_canStand 3 (some .boolean) RX11 D (cyT cy)) (hi : ∀ i j, i < 34 → j < 34 → ad i = ad j → i = j) : ∀ (s0 : Int32) (σ : MS), B_canStand_83 s0 σ = some q → V p l e { frames := 1, cells := 0, slots := 0, locals := 22 } s m args below meth c D (inAd ad) 3 (MQ below (vQ D (inAd ad) (some (.int q.1)) (wm cy ad q.2)) args s 0 0 (inAd ad)) 0 0 (wm cy ad σ) 83 [(0, .ref (ad 0))] [.int s0] := by
  intro s0 σ h
  rw [B_canStand_83] at h
  obtain ⟨g1, h⟩ := gd_of h
  obtain rfl := Option.some.inj h
  exact v_zret C (bzb_in g1) dX11_canStand_83
set_option maxHeartbeats 4000000 in
set_option maxRecDepth 20000 in
theorem b_canStand_78 {p : Program} {l : Launch} {e : Env} {s : State} {m : MethodId} {args : Array Value} {below : List Frame} {meth : Method} {c : Code} {D : va_G} {cy : Nat → ClassId} {ad : Nat → Nat} {q : Int32 × MS} (C : vC p s m args meth c cX11_canStand 3 (some .boolean) RX11 D (cyT cy)) (hi : ∀ i j, i < 34 → j < 34 → ad i = ad j → i = j) {k83 : Int32 → MS → Option (Int32 × MS)} (hk83 : ∀ (s0 : Int32)  (σ : MS), k83 s0 σ = some q → V p l e { frames := 1, cells := 0, slots := 0, locals := 22 } s m args below meth c D (inAd ad) 3 (MQ below (vQ D (inAd ad) (some (.int q.1)) (wm cy ad q.2)) args s 0 0 (inAd ad)) 0 0 (wm cy ad σ) 83 [(0, .ref (ad 0))] [.int s0]) : ∀ (σ : MS), B_canStand_78 k83 σ = some q → V p l e { frames := 1, cells := 0, slots := 0, locals := 22 } s m args below meth c D (inAd ad) 3 (MQ below (vQ D (inAd ad) (some (.int q.1)) (wm cy ad q.2)) args s 0 0 (inAd ad)) 0 0 (wm cy ad σ) 78 [(0, .ref (ad 0))] [] := by
  intro σ h
  rw [B_canStand_78] at h
  refine v_iconst C 1 dX11_canStand_78 (by decide) ?_
  refine v_goto C 83 dX11_canStand_79 (by decide) ?_
  exact v_sub [0] rfl (hk83 _ _ h)
set_option maxHeartbeats 4000000 in
set_option maxRecDepth 20000 in
theorem b_canStand_27 {p : Program} {l : Launch} {e : Env} {s : State} {m : MethodId} {args : Array Value} {below : List Frame} {meth : Method} {c : Code} {D : va_G} {cy : Nat → ClassId} {ad : Nat → Nat} {q : Int32 × MS} (C : vC p s m args meth c cX11_canStand 3 (some .boolean) RX11 D (cyT cy)) (hi : ∀ i j, i < 34 → j < 34 → ad i = ad j → i = j) : ∀ (x1 : Int32) (s0 : Int32) (σ : MS), B_canStand_27 x1 s0 σ = some q → V p l e { frames := 1, cells := 0, slots := 0, locals := 22 } s m args below meth c D (inAd ad) 3 (MQ below (vQ D (inAd ad) (some (.int q.1)) (wm cy ad q.2)) args s 0 0 (inAd ad)) 0 0 (wm cy ad σ) 27 [(0, .ref (ad 0)), (1, .int x1)] [.int s0] := by
  intro x1 s0 σ h
  rw [B_canStand_27] at h
  refine v_istore_n C [(2, .int s0), (0, .ref (ad 0)), (1, .int x1)] dX11_canStand_27 rfl (by decide) rfl ?_
  refine v_iload_n C 0 dX11_canStand_28 rfl rfl ?_
  refine v_if_ne C 78 dX11_canStand_29 (by decide) (fun c1 => ?_) (fun c1 => ?_)
  · rw [if_neg c1] at h
    exact v_sub [1] rfl ((b_canStand_78 C hi (b_canStand_83 C hi)) _ h)
  · rw [if_pos c1] at h
    refine v_iload_n C 2 dX11_canStand_32 rfl rfl ?_
    refine v_bipush C 97 dX11_canStand_33 (by decide) ?_
    refine v_bipush C 100 dX11_canStand_35 (by decide) ?_
    obtain ⟨q1, hq1, h⟩ := bd_of h
    refine vm_callS C [.int x1, .int 97, .int 100] [] (c_in hi _ _ _ _ hq1) hY_in ml_297 ⟨Nat.le_of_ble_eq_true rfl, Nat.le_of_ble_eq_true rfl⟩ ⟨Nat.zero_le _, Nat.zero_le _⟩ rfl rfl (Nat.le_of_ble_eq_true rfl) dX11_canStand_37 (wm_inj hi cy _) ?_
    refine v_if_eq C 54 dX11_canStand_40 (by decide) (fun c2 => ?_) (fun c2 => ?_)
    · rw [if_pos c2] at h
      exact v_sub [1, 2] rfl ((b_canStand_54 C hi (b_canStand_78 C hi (b_canStand_83 C hi)) (b_canStand_83 C hi)) _ _ h)
    · rw [if_neg c2] at h
      refine v_iload_n C 2 dX11_canStand_43 rfl rfl ?_
      refine v_bipush C 97 dX11_canStand_44 (by decide) ?_
      refine v_isub C dX11_canStand_46 ?_
      refine v_aload_n C 1 dX11_canStand_47 rfl rfl ?_
      refine n_getI C fl_313 dX11_canStand_48 ?_
      refine v_icmp_lt C 78 dX11_canStand_51 (by decide) (fun c3 => ?_) (fun c3 => ?_)
      · rw [if_pos c3] at h
        exact v_sub [1] rfl ((b_canStand_78 C hi (b_canStand_83 C hi)) _ h)
      · rw [if_neg c3] at h
        exact v_sub [1, 2] rfl ((b_canStand_54 C hi (b_canStand_78 C hi (b_canStand_83 C hi)) (b_canStand_83 C hi)) _ _ h)
set_option maxHeartbeats 4000000 in
set_option maxRecDepth 20000 in
theorem b_canStand_26 {p : Program} {l : Launch} {e : Env} {s : State} {m : MethodId} {args : Array Value} {below : List Frame} {meth : Method} {c : Code} {D : va_G} {cy : Nat → ClassId} {ad : Nat → Nat} {q : Int32 × MS} (C : vC p s m args meth c cX11_canStand 3 (some .boolean) RX11 D (cyT cy)) (hi : ∀ i j, i < 34 → j < 34 → ad i = ad j → i = j) {k27 : Int32 → Int32 → MS → Option (Int32 × MS)} (hk27 : ∀ (x1 : Int32) (s0 : Int32)  (σ : MS), k27 x1 s0 σ = some q → V p l e { frames := 1, cells := 0, slots := 0, locals := 22 } s m args below meth c D (inAd ad) 3 (MQ below (vQ D (inAd ad) (some (.int q.1)) (wm cy ad q.2)) args s 0 0 (inAd ad)) 0 0 (wm cy ad σ) 27 [(0, .ref (ad 0)), (1, .int x1)] [.int s0]) : ∀ (x1 : Int32) (σ : MS), B_canStand_26 k27 x1 σ = some q → V p l e { frames := 1, cells := 0, slots := 0, locals := 22 } s m args below meth c D (inAd ad) 3 (MQ below (vQ D (inAd ad) (some (.int q.1)) (wm cy ad q.2)) args s 0 0 (inAd ad)) 0 0 (wm cy ad σ) 26 [(0, .ref (ad 0)), (1, .int x1)] [] := by
  intro x1 σ h
  rw [B_canStand_26] at h
  refine v_iconst C 0 dX11_canStand_26 (by decide) ?_
  exact v_sub [0, 1] rfl (hk27 _ _ _ h)
set_option maxHeartbeats 4000000 in
set_option maxRecDepth 20000 in
theorem c_canStand {l : Launch} {D : va_G} {cy : Nat → ClassId} {ad : Nat → Nat} {q : Int32 × MS} (hi : ∀ i j, i < 34 → j < 34 → ad i = ad j → i = j) (x1 : Int32) (σ : MS) (h : f_canStand x1 σ = some q) : MV l D (cyT cy) (inAd ad) yX11_canStand cX11_canStand 3 (some .boolean) 1 22 0 0 [.ref (ad 0), .int x1] (wm cy ad σ) (some (.int q.1)) (wm cy ad q.2) := by
  refine MV.of (by decide) (wm_inj hi cy σ) (Nat.le_of_ble_eq_true rfl) [(0, .ref (ad 0)), (1, .int x1)] rfl ?_
  intro p e s m args below meth c C
  rw [f_canStand] at h
  refine v_iload_n C 1 dX11_canStand_0 rfl rfl ?_
  refine v_bipush C 48 dX11_canStand_1 (by decide) ?_
  refine v_bipush C 57 dX11_canStand_3 (by decide) ?_
  obtain ⟨q1, hq1, h⟩ := bd_of h
  refine vm_callS C [.int x1, .int 48, .int 57] [] (c_in hi _ _ _ _ hq1) hY_in ml_297 ⟨Nat.le_of_ble_eq_true rfl, Nat.le_of_ble_eq_true rfl⟩ ⟨Nat.zero_le _, Nat.zero_le _⟩ rfl rfl (Nat.le_of_ble_eq_true rfl) dX11_canStand_5 (wm_inj hi cy _) ?_
  refine v_if_eq C 26 dX11_canStand_8 (by decide) (fun c1 => ?_) (fun c1 => ?_)
  · rw [if_pos c1] at h
    exact v_sub [0, 1] rfl ((b_canStand_26 C hi (b_canStand_27 C hi)) _ _ h)
  · rw [if_neg c1] at h
    refine v_iload_n C 1 dX11_canStand_11 rfl rfl ?_
    refine v_bipush C 48 dX11_canStand_12 (by decide) ?_
    refine v_isub C dX11_canStand_14 ?_
    refine v_aload_n C 0 dX11_canStand_15 rfl rfl ?_
    refine n_getI C fl_222 dX11_canStand_16 ?_
    refine v_icmp_ge C 26 dX11_canStand_19 (by decide) (fun c2 => ?_) (fun c2 => ?_)
    · rw [if_pos c2] at h
      exact v_sub [0, 1] rfl ((b_canStand_26 C hi (b_canStand_27 C hi)) _ _ h)
    · rw [if_neg c2] at h
      refine v_iconst C 1 dX11_canStand_22 (by decide) ?_
      refine v_goto C 27 dX11_canStand_23 (by decide) ?_
      exact v_sub [0, 1] rfl ((b_canStand_27 C hi) _ _ _ h)
set_option maxHeartbeats 4000000 in
set_option maxRecDepth 20000 in
theorem b_reads_82 {p : Program} {l : Launch} {e : Env} {s : State} {m : MethodId} {args : Array Value} {below : List Frame} {meth : Method} {c : Code} {D : va_G} {cy : Nat → ClassId} {ad : Nat → Nat} {q : Int32 × MS} (C : vC p s m args meth c cX11_reads 2 none RX11 D (cyT cy)) (hi : ∀ i j, i < 34 → j < 34 → ad i = ad j → i = j) : ∀ (σ : MS), B_reads_82 σ = some q → V p l e { frames := 11, cells := 0, slots := 0, locals := 273 } s m args below meth c D (inAd ad) 2 (MQ below (vQ D (inAd ad) none (wm cy ad q.2)) args s 0 0 (inAd ad)) 0 0 (wm cy ad σ) 82 [(0, .ref (ad 0))] [] := by
  intro σ h
  rw [B_reads_82] at h
  obtain rfl := Option.some.inj h
  exact v_vret C dX11_reads_82
set_option maxHeartbeats 4000000 in
set_option maxRecDepth 20000 in
theorem c_reads {l : Launch} {D : va_G} {cy : Nat → ClassId} {ad : Nat → Nat} {q : Int32 × MS} (hi : ∀ i j, i < 34 → j < 34 → ad i = ad j → i = j) (σ : MS) (h : f_reads σ = some q) : MV l D (cyT cy) (inAd ad) yX11_reads cX11_reads 2 none 11 273 0 0 [.ref (ad 0)] (wm cy ad σ) none (wm cy ad q.2) := by
  refine MV.of (by decide) (wm_inj hi cy σ) (Nat.le_of_ble_eq_true rfl) [(0, .ref (ad 0))] rfl ?_
  intro p e s m args below meth c C
  rw [f_reads] at h
  refine v_aload_n C 0 dX11_reads_0 rfl rfl ?_
  obtain ⟨q1, hq1, h⟩ := bd_of h
  refine vm_call C [] [] (c_here hi _ hq1) hY_here ml_290 ⟨Nat.le_of_ble_eq_true rfl, Nat.le_of_ble_eq_true rfl⟩ ⟨Nat.zero_le _, Nat.zero_le _⟩ rfl rfl (Nat.le_of_ble_eq_true rfl) dX11_reads_1 (wm_inj hi cy _) ?_
  refine v_istore_n C [(1, .int q1.1), (0, .ref (ad 0))] dX11_reads_4 rfl (by decide) rfl ?_
  refine v_iload_n C 0 dX11_reads_5 rfl rfl ?_
  refine v_bipush C (-9) dX11_reads_6 (by decide) ?_
  refine v_icmp_ne C 22 dX11_reads_8 (by decide) (fun c1 => ?_) (fun c1 => ?_)
  · rw [if_neg c1] at h
    refine v_aload_n C 1 dX11_reads_22 rfl rfl ?_
    refine n_getZ C fl_237 dX11_reads_23 ?_
    refine v_if_eq C 37 dX11_reads_26 (by decide) (fun c2 => ?_) (fun c2 => ?_)
    · rw [if_pos c2] at h
      refine v_iload_n C 0 dX11_reads_37 rfl rfl ?_
      refine v_bipush C 35 dX11_reads_38 (by decide) ?_
      refine v_icmp_ne C 50 dX11_reads_40 (by decide) (fun c3 => ?_) (fun c3 => ?_)
      · rw [if_neg c3] at h
        refine v_aload_n C 1 dX11_reads_50 rfl rfl ?_
        refine v_iload_n C 0 dX11_reads_51 rfl rfl ?_
        obtain ⟨q2, hq2, h⟩ := bd_of h
        refine vm_call C [.int q1.1] [] (c_canStand hi _ _ hq2) hY_canStand ml_322 ⟨Nat.le_of_ble_eq_true rfl, Nat.le_of_ble_eq_true rfl⟩ ⟨Nat.zero_le _, Nat.zero_le _⟩ rfl rfl (Nat.le_of_ble_eq_true rfl) dX11_reads_52 (wm_inj hi cy _) ?_
        refine v_if_eq C 66 dX11_reads_55 (by decide) (fun c4 => ?_) (fun c4 => ?_)
        · rw [if_pos c4] at h
          refine v_aload_n C 1 dX11_reads_66 rfl rfl ?_
          refine v_iload_n C 0 dX11_reads_67 rfl rfl ?_
          obtain ⟨q3, hq3, h⟩ := bd_of h
          refine vm_call C [.int q1.1] [] (c_readsGiven hi _ _ hq3) hY_readsGiven ml_328 ⟨Nat.le_of_ble_eq_true rfl, Nat.le_of_ble_eq_true rfl⟩ ⟨Nat.zero_le _, Nat.zero_le _⟩ rfl rfl (Nat.le_of_ble_eq_true rfl) dX11_reads_68 (wm_inj hi cy _) ?_
          refine v_if_ne C 82 dX11_reads_71 (by decide) (fun c5 => ?_) (fun c5 => ?_)
          · rw [if_neg c5] at h
            exact v_sub [1] rfl ((b_reads_82 C hi) _ h)
          · rw [if_pos c5] at h
            refine v_aload_n C 1 dX11_reads_74 rfl rfl ?_
            refine v_aload_n C 1 dX11_reads_75 rfl rfl ?_
            refine n_getI C fl_213 dX11_reads_76 ?_
            obtain ⟨q4, hq4, h⟩ := bd_of h
            refine vm_call C [.int (q3.2.1 56)] [] (c_fails hi _ _ hq4) hY_fails ml_240 ⟨Nat.le_of_ble_eq_true rfl, Nat.le_of_ble_eq_true rfl⟩ ⟨Nat.zero_le _, Nat.zero_le _⟩ rfl rfl (Nat.le_of_ble_eq_true rfl) dX11_reads_79 (wm_inj hi cy _) ?_
            exact v_sub [1] rfl ((b_reads_82 C hi) _ h)
        · rw [if_neg c4] at h
          refine v_aload_n C 1 dX11_reads_58 rfl rfl ?_
          refine v_iload_n C 0 dX11_reads_59 rfl rfl ?_
          obtain ⟨q5, hq5, h⟩ := bd_of h
          refine vm_call C [.int q1.1] [] (c_readsFound hi _ _ hq5) hY_readsFound ml_325 ⟨Nat.le_of_ble_eq_true rfl, Nat.le_of_ble_eq_true rfl⟩ ⟨Nat.zero_le _, Nat.zero_le _⟩ rfl rfl (Nat.le_of_ble_eq_true rfl) dX11_reads_60 (wm_inj hi cy _) ?_
          refine v_goto C 82 dX11_reads_63 (by decide) ?_
          exact v_sub [1] rfl ((b_reads_82 C hi) _ h)
      · rw [if_pos c3] at h
        refine v_aload_n C 1 dX11_reads_43 rfl rfl ?_
        obtain ⟨q6, hq6, h⟩ := bd_of h
        refine vm_call C [] [] (c_readsEntry hi _ hq6) hY_readsEntry ml_319 ⟨Nat.le_of_ble_eq_true rfl, Nat.le_of_ble_eq_true rfl⟩ ⟨Nat.zero_le _, Nat.zero_le _⟩ rfl rfl (Nat.le_of_ble_eq_true rfl) dX11_reads_44 (wm_inj hi cy _) ?_
        refine v_goto C 82 dX11_reads_47 (by decide) ?_
        exact v_sub [1] rfl ((b_reads_82 C hi) _ h)
    · rw [if_neg c2] at h
      refine v_aload_n C 1 dX11_reads_29 rfl rfl ?_
      refine v_iload_n C 0 dX11_reads_30 rfl rfl ?_
      obtain ⟨q7, hq7, h⟩ := bd_of h
      refine vm_call C [.int q1.1] [] (c_readsType hi _ _ hq7) hY_readsType ml_316 ⟨Nat.le_of_ble_eq_true rfl, Nat.le_of_ble_eq_true rfl⟩ ⟨Nat.zero_le _, Nat.zero_le _⟩ rfl rfl (Nat.le_of_ble_eq_true rfl) dX11_reads_31 (wm_inj hi cy _) ?_
      refine v_goto C 82 dX11_reads_34 (by decide) ?_
      exact v_sub [1] rfl ((b_reads_82 C hi) _ h)
  · rw [if_pos c1] at h
    refine v_aload_n C 1 dX11_reads_11 rfl rfl ?_
    refine v_aload_n C 1 dX11_reads_12 rfl rfl ?_
    refine n_getI C fl_213 dX11_reads_13 ?_
    obtain ⟨q8, hq8, h⟩ := bd_of h
    refine vm_call C [.int (q1.2.1 56)] [] (c_fails hi _ _ hq8) hY_fails ml_240 ⟨Nat.le_of_ble_eq_true rfl, Nat.le_of_ble_eq_true rfl⟩ ⟨Nat.zero_le _, Nat.zero_le _⟩ rfl rfl (Nat.le_of_ble_eq_true rfl) dX11_reads_16 (wm_inj hi cy _) ?_
    refine v_goto C 82 dX11_reads_19 (by decide) ?_
    exact v_sub [1] rfl ((b_reads_82 C hi) _ h)
set_option maxHeartbeats 4000000 in
set_option maxRecDepth 20000 in
theorem c_again {l : Launch} {D : va_G} {cy : Nat → ClassId} {ad : Nat → Nat} {q : Int32 × MS} (hi : ∀ i j, i < 34 → j < 34 → ad i = ad j → i = j) (x1 : Int32) (σ : MS) (h : f_again x1 σ = some q) : MV l D (cyT cy) (inAd ad) yX11_again cX11_again 2 none 0 0 0 0 [.ref (ad 0), .int x1] (wm cy ad σ) none (wm cy ad q.2) := by
  refine MV.of (by decide) (wm_inj hi cy σ) (Nat.le_of_ble_eq_true rfl) [(0, .ref (ad 0)), (1, .int x1)] rfl ?_
  intro p e s m args below meth c C
  rw [f_again] at h
  refine v_aload_n C 0 dX11_again_0 rfl rfl ?_
  refine v_aload_n C 0 dX11_again_1 rfl rfl ?_
  refine n_getR C fl_88 dX11_again_2 ?_
  refine v_iload_n C 1 dX11_again_5 rfl rfl ?_
  obtain ⟨g1, h⟩ := gd_of h
  refine vm_iald C 25 iI_25 (ix_in g1) dX11_again_6 ?_
  refine n_putI C fl_222 dX11_again_7 ?_
  refine v_aload_n C 0 dX11_again_10 rfl rfl ?_
  refine v_aload_n C 0 dX11_again_11 rfl rfl ?_
  refine n_getR C fl_91 dX11_again_12 ?_
  refine v_iload_n C 1 dX11_again_15 rfl rfl ?_
  obtain ⟨g2, h⟩ := gd_of h
  refine vm_iald C 26 iI_26 (ix_in g2) dX11_again_16 ?_
  refine n_putI C fl_225 dX11_again_17 ?_
  refine v_aload_n C 0 dX11_again_20 rfl rfl ?_
  refine v_aload_n C 0 dX11_again_21 rfl rfl ?_
  refine n_getR C fl_94 dX11_again_22 ?_
  refine v_iload_n C 1 dX11_again_25 rfl rfl ?_
  obtain ⟨g3, h⟩ := gd_of h
  refine vm_iald C 27 iI_27 (ix_in g3) dX11_again_26 ?_
  refine n_putI C fl_228 dX11_again_27 ?_
  refine v_aload_n C 0 dX11_again_30 rfl rfl ?_
  refine v_aload_n C 0 dX11_again_31 rfl rfl ?_
  refine n_getR C fl_97 dX11_again_32 ?_
  refine v_iload_n C 1 dX11_again_35 rfl rfl ?_
  obtain ⟨g4, h⟩ := gd_of h
  refine vm_iald C 28 iI_28 (ix_in g4) dX11_again_36 ?_
  refine n_putI C fl_231 dX11_again_37 ?_
  refine v_aload_n C 0 dX11_again_40 rfl rfl ?_
  refine v_aload_n C 0 dX11_again_41 rfl rfl ?_
  refine n_getR C fl_100 dX11_again_42 ?_
  refine v_iload_n C 1 dX11_again_45 rfl rfl ?_
  obtain ⟨g5, h⟩ := gd_of h
  refine vm_iald C 29 iI_29 (ix_in g5) dX11_again_46 ?_
  refine n_putI C fl_234 dX11_again_47 ?_
  obtain rfl := Option.some.inj h
  exact v_vret C dX11_again_50
set_option maxHeartbeats 4000000 in
set_option maxRecDepth 20000 in
theorem b_joined_20 {p : Program} {l : Launch} {e : Env} {s : State} {m : MethodId} {args : Array Value} {below : List Frame} {meth : Method} {c : Code} {D : va_G} {cy : Nat → ClassId} {ad : Nat → Nat} {q : Int32 × MS} (C : vC p s m args meth c cX11_joined 5 (some .int) RX11 D (cyT cy)) (hi : ∀ i j, i < 34 → j < 34 → ad i = ad j → i = j) : ∀ (x3 : Int32) (x4 : Int32) (σ : MS), B_joined_20 x3 x4 σ = some q → V p l e { frames := 5, cells := 0, slots := 0, locals := 108 } s m args below meth c D (inAd ad) 5 (MQ below (vQ D (inAd ad) (some (.int q.1)) (wm cy ad q.2)) args s 0 0 (inAd ad)) 0 0 (wm cy ad σ) 20 [(0, .ref (ad 0)), (3, .int x3), (4, .int x4)] [] := by
  intro x3 x4 σ h
  rw [B_joined_20] at h
  refine v_aload_n C 0 dX11_joined_20 rfl rfl ?_
  refine v_iload_n C 1 dX11_joined_21 rfl rfl ?_
  obtain ⟨q1, hq1, h⟩ := bd_of h
  refine vm_call C [.int x3] [] (c_putsForm hi _ _ hq1) hY_putsForm ml_331 ⟨Nat.le_of_ble_eq_true rfl, Nat.le_of_ble_eq_true rfl⟩ ⟨Nat.zero_le _, Nat.zero_le _⟩ rfl rfl (Nat.le_of_ble_eq_true rfl) dX11_joined_22 (wm_inj hi cy _) ?_
  refine v_iload C 2 dX11_joined_25 rfl ?_
  obtain rfl := Option.some.inj h
  exact v_iret C dX11_joined_27
set_option maxHeartbeats 4000000 in
set_option maxRecDepth 20000 in
theorem c_joined {l : Launch} {D : va_G} {cy : Nat → ClassId} {ad : Nat → Nat} {q : Int32 × MS} (hi : ∀ i j, i < 34 → j < 34 → ad i = ad j → i = j) (x1 : Int32) (x2 : Int32) (x3 : Int32) (σ : MS) (h : f_joined x1 x2 x3 σ = some q) : MV l D (cyT cy) (inAd ad) yX11_joined cX11_joined 5 (some .int) 5 108 0 0 [.ref (ad 0), .int x1, .int x2, .int x3] (wm cy ad σ) (some (.int q.1)) (wm cy ad q.2) := by
  refine MV.of (by decide) (wm_inj hi cy σ) (Nat.le_of_ble_eq_true rfl) [(0, .ref (ad 0)), (1, .int x1), (2, .int x2), (3, .int x3)] rfl ?_
  intro p e s m args below meth c C
  rw [f_joined] at h
  refine v_aload_n C 0 dX11_joined_0 rfl rfl ?_
  refine n_getI C fl_133 dX11_joined_1 ?_
  refine v_istore C [(4, .int (σ.1 1)), (0, .ref (ad 0)), (1, .int x1), (2, .int x2), (3, .int x3)] dX11_joined_4 (by decide) rfl ?_
  refine v_aload_n C 1 dX11_joined_6 rfl rfl ?_
  refine v_iload_n C 2 dX11_joined_7 rfl rfl ?_
  obtain ⟨q1, hq1, h⟩ := bd_of h
  refine vm_call C [.int x1] [] (c_puts hi _ _ hq1) hY_puts ml_136 ⟨Nat.le_of_ble_eq_true rfl, Nat.le_of_ble_eq_true rfl⟩ ⟨Nat.zero_le _, Nat.zero_le _⟩ rfl rfl (Nat.le_of_ble_eq_true rfl) dX11_joined_8 (wm_inj hi cy _) ?_
  refine v_iload_n C 3 dX11_joined_11 rfl rfl ?_
  refine v_if_lt C 20 dX11_joined_12 (by decide) (fun c1 => ?_) (fun c1 => ?_)
  · rw [if_pos c1] at h
    exact v_sub [1, 4, 0] rfl ((b_joined_20 C hi) _ _ _ h)
  · rw [if_neg c1] at h
    refine v_aload_n C 1 dX11_joined_15 rfl rfl ?_
    refine v_iload_n C 3 dX11_joined_16 rfl rfl ?_
    obtain ⟨q2, hq2, h⟩ := bd_of h
    refine vm_call C [.int x2] [] (c_putsForm hi _ _ hq2) hY_putsForm ml_331 ⟨Nat.le_of_ble_eq_true rfl, Nat.le_of_ble_eq_true rfl⟩ ⟨Nat.zero_le _, Nat.zero_le _⟩ rfl rfl (Nat.le_of_ble_eq_true rfl) dX11_joined_17 (wm_inj hi cy _) ?_
    exact v_sub [1, 4, 0] rfl ((b_joined_20 C hi) _ _ _ h)
set_option maxHeartbeats 4000000 in
set_option maxRecDepth 20000 in
theorem c_namesOne {l : Launch} {D : va_G} {cy : Nat → ClassId} {ad : Nat → Nat} {q : Int32 × MS} (hi : ∀ i j, i < 34 → j < 34 → ad i = ad j → i = j) (x1 : Int32) (x2 : Int32) (σ : MS) (h : f_namesOne x1 x2 σ = some q) : MV l D (cyT cy) (inAd ad) yX11_namesOne cX11_namesOne 3 none 1 20 0 0 [.ref (ad 0), .int x1, .int x2] (wm cy ad σ) none (wm cy ad q.2) := by
  refine MV.of (by decide) (wm_inj hi cy σ) (Nat.le_of_ble_eq_true rfl) [(0, .ref (ad 0)), (1, .int x1), (2, .int x2)] rfl ?_
  intro p e s m args below meth c C
  rw [f_namesOne] at h
  refine v_aload_n C 0 dX11_namesOne_0 rfl rfl ?_
  refine n_getR C fl_103 dX11_namesOne_1 ?_
  refine v_iload_n C 1 dX11_namesOne_4 rfl rfl ?_
  refine v_aload_n C 0 dX11_namesOne_5 rfl rfl ?_
  refine n_getI C fl_249 dX11_namesOne_6 ?_
  obtain ⟨g1, h⟩ := gd_of h
  refine vm_iast C 30 iI_30 (ix_in g1) dX11_namesOne_9 ?_
  refine v_aload_n C 0 dX11_namesOne_10 rfl rfl ?_
  refine n_getR C fl_82 dX11_namesOne_11 ?_
  refine v_iload_n C 1 dX11_namesOne_14 rfl rfl ?_
  refine v_iload_n C 2 dX11_namesOne_15 rfl rfl ?_
  obtain ⟨g2, h⟩ := gd_of h
  refine vm_iast C 23 iI_23 (ix_in g2) dX11_namesOne_16 ?_
  refine v_aload_n C 0 dX11_namesOne_17 rfl rfl ?_
  refine n_getR C fl_109 dX11_namesOne_18 ?_
  refine v_aload_n C 0 dX11_namesOne_21 rfl rfl ?_
  refine n_getI C fl_222 dX11_namesOne_22 ?_
  refine v_aload_n C 0 dX11_namesOne_25 rfl rfl ?_
  refine n_getI C fl_249 dX11_namesOne_26 ?_
  obtain ⟨g3, h⟩ := gd_of h
  refine vm_iast C 32 iI_32 (ix_in g3) dX11_namesOne_29 ?_
  refine v_aload_n C 0 dX11_namesOne_30 rfl rfl ?_
  refine v_dup C dX11_namesOne_31 rfl ?_
  refine n_getI C fl_222 dX11_namesOne_32 ?_
  refine v_iconst C 1 dX11_namesOne_35 (by decide) ?_
  refine v_iadd C dX11_namesOne_36 ?_
  refine n_putI C fl_222 dX11_namesOne_37 ?_
  refine v_aload_n C 0 dX11_namesOne_40 rfl rfl ?_
  refine v_iconst C 0 dX11_namesOne_41 (by decide) ?_
  refine n_putI C fl_243 dX11_namesOne_42 ?_
  refine v_aload_n C 0 dX11_namesOne_45 rfl rfl ?_
  obtain ⟨q1, hq1, h⟩ := bd_of h
  refine vm_call C [] [] (c_dueType hi _ hq1) hY_dueType ml_307 ⟨Nat.le_of_ble_eq_true rfl, Nat.le_of_ble_eq_true rfl⟩ ⟨Nat.zero_le _, Nat.zero_le _⟩ rfl rfl (Nat.le_of_ble_eq_true rfl) dX11_namesOne_46 (wm_inj hi cy _) ?_
  obtain rfl := Option.some.inj h
  exact v_vret C dX11_namesOne_49
