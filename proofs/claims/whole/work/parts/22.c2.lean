theorem dX8_evaluate_0 : decode cX8_evaluate 0 = .ok (.aload_n 0, 1) := by decide +kernel
theorem dX8_evaluate_1 : decode cX8_evaluate 1 = .ok (.getfield 28, 3) := by decide +kernel
theorem dX8_evaluate_4 : decode cX8_evaluate 4 = .ok (.iload_n 1, 1) := by decide +kernel
theorem dX8_evaluate_5 : decode cX8_evaluate 5 = .ok (.invokevirtual 43, 3) := by decide +kernel
theorem dX8_evaluate_8 : decode cX8_evaluate 8 = .ok (.istore 4, 2) := by decide +kernel
theorem dX8_evaluate_10 : decode cX8_evaluate 10 = .ok (.aload_n 0, 1) := by decide +kernel
theorem dX8_evaluate_11 : decode cX8_evaluate 11 = .ok (.iload_n 1, 1) := by decide +kernel
theorem dX8_evaluate_12 : decode cX8_evaluate 12 = .ok (.iconst 1, 1) := by decide +kernel
theorem dX8_evaluate_13 : decode cX8_evaluate 13 = .ok (.iadd, 1) := by decide +kernel
theorem dX8_evaluate_14 : decode cX8_evaluate 14 = .ok (.putfield 64, 3) := by decide +kernel
theorem dX8_evaluate_17 : decode cX8_evaluate 17 = .ok (.iload_n 3, 1) := by decide +kernel
theorem dX8_evaluate_18 : decode cX8_evaluate 18 = .ok (.ifCond .gt 5, 3) := by decide +kernel
theorem dX8_evaluate_21 : decode cX8_evaluate 21 = .ok (.iconst 0, 1) := by decide +kernel
theorem dX8_evaluate_22 : decode cX8_evaluate 22 = .ok (.ireturn, 1) := by decide +kernel
theorem dX8_evaluate_23 : decode cX8_evaluate 23 = .ok (.iload 4, 2) := by decide +kernel
theorem dX8_evaluate_25 : decode cX8_evaluate 25 = .ok (.lookupswitch 198 #[(42, 59), (44, 123), (46, 123), (60, 91), (62, 107), (92, 68)], 59) := by decide +kernel
theorem dX8_evaluate_84 : decode cX8_evaluate 84 = .ok (.aload_n 0, 1) := by decide +kernel
theorem dX8_evaluate_85 : decode cX8_evaluate 85 = .ok (.bipush 6, 2) := by decide +kernel
theorem dX8_evaluate_87 : decode cX8_evaluate 87 = .ok (.iconst 0, 1) := by decide +kernel
theorem dX8_evaluate_88 : decode cX8_evaluate 88 = .ok (.iconst 0, 1) := by decide +kernel
theorem dX8_evaluate_89 : decode cX8_evaluate 89 = .ok (.invokevirtual 32, 3) := by decide +kernel
theorem dX8_evaluate_92 : decode cX8_evaluate 92 = .ok (.ireturn, 1) := by decide +kernel
theorem dX8_evaluate_93 : decode cX8_evaluate 93 = .ok (.aload_n 0, 1) := by decide +kernel
theorem dX8_evaluate_94 : decode cX8_evaluate 94 = .ok (.aload_n 0, 1) := by decide +kernel
theorem dX8_evaluate_95 : decode cX8_evaluate 95 = .ok (.getfield 28, 3) := by decide +kernel
theorem dX8_evaluate_98 : decode cX8_evaluate 98 = .ok (.iload_n 1, 1) := by decide +kernel
theorem dX8_evaluate_99 : decode cX8_evaluate 99 = .ok (.invokevirtual 55, 3) := by decide +kernel
theorem dX8_evaluate_102 : decode cX8_evaluate 102 = .ok (.putfield 64, 3) := by decide +kernel
theorem dX8_evaluate_105 : decode cX8_evaluate 105 = .ok (.aload_n 0, 1) := by decide +kernel
theorem dX8_evaluate_106 : decode cX8_evaluate 106 = .ok (.bipush 8, 2) := by decide +kernel
theorem dX8_evaluate_108 : decode cX8_evaluate 108 = .ok (.iload_n 1, 1) := by decide +kernel
theorem dX8_evaluate_109 : decode cX8_evaluate 109 = .ok (.iconst 1, 1) := by decide +kernel
theorem dX8_evaluate_110 : decode cX8_evaluate 110 = .ok (.iadd, 1) := by decide +kernel
theorem dX8_evaluate_111 : decode cX8_evaluate 111 = .ok (.iload_n 2, 1) := by decide +kernel
theorem dX8_evaluate_112 : decode cX8_evaluate 112 = .ok (.invokevirtual 32, 3) := by decide +kernel
theorem dX8_evaluate_115 : decode cX8_evaluate 115 = .ok (.ireturn, 1) := by decide +kernel
theorem dX8_evaluate_116 : decode cX8_evaluate 116 = .ok (.aload_n 0, 1) := by decide +kernel
theorem dX8_evaluate_117 : decode cX8_evaluate 117 = .ok (.aload_n 0, 1) := by decide +kernel
theorem dX8_evaluate_118 : decode cX8_evaluate 118 = .ok (.iload_n 1, 1) := by decide +kernel
theorem dX8_evaluate_119 : decode cX8_evaluate 119 = .ok (.iconst 1, 1) := by decide +kernel
theorem dX8_evaluate_120 : decode cX8_evaluate 120 = .ok (.iadd, 1) := by decide +kernel
theorem dX8_evaluate_121 : decode cX8_evaluate 121 = .ok (.iload_n 2, 1) := by decide +kernel
theorem dX8_evaluate_122 : decode cX8_evaluate 122 = .ok (.iload_n 3, 1) := by decide +kernel
theorem dX8_evaluate_123 : decode cX8_evaluate 123 = .ok (.iconst 1, 1) := by decide +kernel
theorem dX8_evaluate_124 : decode cX8_evaluate 124 = .ok (.isub, 1) := by decide +kernel
theorem dX8_evaluate_125 : decode cX8_evaluate 125 = .ok (.invokevirtual 66, 3) := by decide +kernel
theorem dX8_evaluate_128 : decode cX8_evaluate 128 = .ok (.invokevirtual 69, 3) := by decide +kernel
theorem dX8_evaluate_131 : decode cX8_evaluate 131 = .ok (.ireturn, 1) := by decide +kernel
theorem dX8_evaluate_132 : decode cX8_evaluate 132 = .ok (.aload_n 0, 1) := by decide +kernel
theorem dX8_evaluate_133 : decode cX8_evaluate 133 = .ok (.aload_n 0, 1) := by decide +kernel
theorem dX8_evaluate_134 : decode cX8_evaluate 134 = .ok (.iload_n 1, 1) := by decide +kernel
theorem dX8_evaluate_135 : decode cX8_evaluate 135 = .ok (.iconst 1, 1) := by decide +kernel
theorem dX8_evaluate_136 : decode cX8_evaluate 136 = .ok (.iadd, 1) := by decide +kernel
theorem dX8_evaluate_137 : decode cX8_evaluate 137 = .ok (.iload_n 2, 1) := by decide +kernel
theorem dX8_evaluate_138 : decode cX8_evaluate 138 = .ok (.iload_n 3, 1) := by decide +kernel
theorem dX8_evaluate_139 : decode cX8_evaluate 139 = .ok (.iconst 1, 1) := by decide +kernel
theorem dX8_evaluate_140 : decode cX8_evaluate 140 = .ok (.isub, 1) := by decide +kernel
theorem dX8_evaluate_141 : decode cX8_evaluate 141 = .ok (.invokevirtual 66, 3) := by decide +kernel
theorem dX8_evaluate_144 : decode cX8_evaluate 144 = .ok (.invokevirtual 72, 3) := by decide +kernel
theorem dX8_evaluate_147 : decode cX8_evaluate 147 = .ok (.ireturn, 1) := by decide +kernel
theorem dX8_evaluate_148 : decode cX8_evaluate 148 = .ok (.aload_n 0, 1) := by decide +kernel
theorem dX8_evaluate_149 : decode cX8_evaluate 149 = .ok (.iload_n 1, 1) := by decide +kernel
theorem dX8_evaluate_150 : decode cX8_evaluate 150 = .ok (.iconst 1, 1) := by decide +kernel
theorem dX8_evaluate_151 : decode cX8_evaluate 151 = .ok (.iadd, 1) := by decide +kernel
theorem dX8_evaluate_152 : decode cX8_evaluate 152 = .ok (.iload_n 2, 1) := by decide +kernel
theorem dX8_evaluate_153 : decode cX8_evaluate 153 = .ok (.iload_n 3, 1) := by decide +kernel
theorem dX8_evaluate_154 : decode cX8_evaluate 154 = .ok (.iconst 1, 1) := by decide +kernel
theorem dX8_evaluate_155 : decode cX8_evaluate 155 = .ok (.isub, 1) := by decide +kernel
theorem dX8_evaluate_156 : decode cX8_evaluate 156 = .ok (.invokevirtual 66, 3) := by decide +kernel
theorem dX8_evaluate_159 : decode cX8_evaluate 159 = .ok (.istore 5, 2) := by decide +kernel
theorem dX8_evaluate_161 : decode cX8_evaluate 161 = .ok (.aload_n 0, 1) := by decide +kernel
theorem dX8_evaluate_162 : decode cX8_evaluate 162 = .ok (.aload_n 0, 1) := by decide +kernel
theorem dX8_evaluate_163 : decode cX8_evaluate 163 = .ok (.getfield 64, 3) := by decide +kernel
theorem dX8_evaluate_166 : decode cX8_evaluate 166 = .ok (.iload_n 2, 1) := by decide +kernel
theorem dX8_evaluate_167 : decode cX8_evaluate 167 = .ok (.iload_n 3, 1) := by decide +kernel
theorem dX8_evaluate_168 : decode cX8_evaluate 168 = .ok (.iconst 1, 1) := by decide +kernel
theorem dX8_evaluate_169 : decode cX8_evaluate 169 = .ok (.isub, 1) := by decide +kernel
theorem dX8_evaluate_170 : decode cX8_evaluate 170 = .ok (.invokevirtual 66, 3) := by decide +kernel
theorem dX8_evaluate_173 : decode cX8_evaluate 173 = .ok (.istore 6, 2) := by decide +kernel
theorem dX8_evaluate_175 : decode cX8_evaluate 175 = .ok (.aload_n 0, 1) := by decide +kernel
theorem dX8_evaluate_176 : decode cX8_evaluate 176 = .ok (.getfield 64, 3) := by decide +kernel
theorem dX8_evaluate_179 : decode cX8_evaluate 179 = .ok (.istore 7, 2) := by decide +kernel
theorem dX8_evaluate_181 : decode cX8_evaluate 181 = .ok (.iload 4, 2) := by decide +kernel
theorem dX8_evaluate_183 : decode cX8_evaluate 183 = .ok (.bipush 44, 2) := by decide +kernel
theorem dX8_evaluate_185 : decode cX8_evaluate 185 = .ok (.if_icmp .ne 16, 3) := by decide +kernel
theorem dX8_evaluate_188 : decode cX8_evaluate 188 = .ok (.aload_n 0, 1) := by decide +kernel
theorem dX8_evaluate_189 : decode cX8_evaluate 189 = .ok (.bipush 7, 2) := by decide +kernel
theorem dX8_evaluate_191 : decode cX8_evaluate 191 = .ok (.iload 5, 2) := by decide +kernel
theorem dX8_evaluate_193 : decode cX8_evaluate 193 = .ok (.iload 6, 2) := by decide +kernel
theorem dX8_evaluate_195 : decode cX8_evaluate 195 = .ok (.invokevirtual 32, 3) := by decide +kernel
theorem dX8_evaluate_198 : decode cX8_evaluate 198 = .ok (.goto 14, 3) := by decide +kernel
theorem dX8_evaluate_201 : decode cX8_evaluate 201 = .ok (.aload_n 0, 1) := by decide +kernel
theorem dX8_evaluate_202 : decode cX8_evaluate 202 = .ok (.iload 5, 2) := by decide +kernel
theorem dX8_evaluate_204 : decode cX8_evaluate 204 = .ok (.iload 6, 2) := by decide +kernel
theorem dX8_evaluate_206 : decode cX8_evaluate 206 = .ok (.iload_n 3, 1) := by decide +kernel
theorem dX8_evaluate_207 : decode cX8_evaluate 207 = .ok (.iconst 1, 1) := by decide +kernel
theorem dX8_evaluate_208 : decode cX8_evaluate 208 = .ok (.isub, 1) := by decide +kernel
theorem dX8_evaluate_209 : decode cX8_evaluate 209 = .ok (.invokevirtual 75, 3) := by decide +kernel
theorem dX8_evaluate_212 : decode cX8_evaluate 212 = .ok (.istore 8, 2) := by decide +kernel
theorem dX8_evaluate_214 : decode cX8_evaluate 214 = .ok (.aload_n 0, 1) := by decide +kernel
theorem dX8_evaluate_215 : decode cX8_evaluate 215 = .ok (.iload 7, 2) := by decide +kernel
theorem dX8_evaluate_217 : decode cX8_evaluate 217 = .ok (.putfield 64, 3) := by decide +kernel
theorem dX8_evaluate_220 : decode cX8_evaluate 220 = .ok (.iload 8, 2) := by decide +kernel
theorem dX8_evaluate_222 : decode cX8_evaluate 222 = .ok (.ireturn, 1) := by decide +kernel
theorem dX8_evaluate_223 : decode cX8_evaluate 223 = .ok (.aload_n 0, 1) := by decide +kernel
theorem dX8_evaluate_224 : decode cX8_evaluate 224 = .ok (.getfield 28, 3) := by decide +kernel
theorem dX8_evaluate_227 : decode cX8_evaluate 227 = .ok (.iload 4, 2) := by decide +kernel
theorem dX8_evaluate_229 : decode cX8_evaluate 229 = .ok (.invokevirtual 78, 3) := by decide +kernel
theorem dX8_evaluate_232 : decode cX8_evaluate 232 = .ok (.ifCond .eq 12, 3) := by decide +kernel
theorem dX8_evaluate_235 : decode cX8_evaluate 235 = .ok (.aload_n 0, 1) := by decide +kernel
theorem dX8_evaluate_236 : decode cX8_evaluate 236 = .ok (.iload 4, 2) := by decide +kernel
theorem dX8_evaluate_238 : decode cX8_evaluate 238 = .ok (.invokevirtual 82, 3) := by decide +kernel
theorem dX8_evaluate_241 : decode cX8_evaluate 241 = .ok (.goto 13, 3) := by decide +kernel
theorem dX8_evaluate_244 : decode cX8_evaluate 244 = .ok (.aload_n 0, 1) := by decide +kernel
theorem dX8_evaluate_245 : decode cX8_evaluate 245 = .ok (.iload_n 2, 1) := by decide +kernel
theorem dX8_evaluate_246 : decode cX8_evaluate 246 = .ok (.iload 4, 2) := by decide +kernel
theorem dX8_evaluate_248 : decode cX8_evaluate 248 = .ok (.bipush 48, 2) := by decide +kernel
theorem dX8_evaluate_250 : decode cX8_evaluate 250 = .ok (.isub, 1) := by decide +kernel
theorem dX8_evaluate_251 : decode cX8_evaluate 251 = .ok (.invokevirtual 85, 3) := by decide +kernel
theorem dX8_evaluate_254 : decode cX8_evaluate 254 = .ok (.ireturn, 1) := by decide +kernel
theorem dX8_apply_0 : decode cX8_apply 0 = .ok (.aload_n 0, 1) := by decide +kernel
theorem dX8_apply_1 : decode cX8_apply 1 = .ok (.iload_n 1, 1) := by decide +kernel
theorem dX8_apply_2 : decode cX8_apply 2 = .ok (.invokevirtual 36, 3) := by decide +kernel
theorem dX8_apply_5 : decode cX8_apply 5 = .ok (.bipush 8, 2) := by decide +kernel
theorem dX8_apply_7 : decode cX8_apply 7 = .ok (.if_icmp .eq 11, 3) := by decide +kernel
theorem dX8_apply_10 : decode cX8_apply 10 = .ok (.aload_n 0, 1) := by decide +kernel
theorem dX8_apply_11 : decode cX8_apply 11 = .ok (.iconst 3, 1) := by decide +kernel
theorem dX8_apply_12 : decode cX8_apply 12 = .ok (.iload_n 1, 1) := by decide +kernel
theorem dX8_apply_13 : decode cX8_apply 13 = .ok (.iload_n 2, 1) := by decide +kernel
theorem dX8_apply_14 : decode cX8_apply 14 = .ok (.invokevirtual 32, 3) := by decide +kernel
theorem dX8_apply_17 : decode cX8_apply 17 = .ok (.ireturn, 1) := by decide +kernel
theorem dX8_apply_18 : decode cX8_apply 18 = .ok (.aload_n 0, 1) := by decide +kernel
theorem dX8_apply_19 : decode cX8_apply 19 = .ok (.aload_n 0, 1) := by decide +kernel
theorem dX8_apply_20 : decode cX8_apply 20 = .ok (.iload_n 1, 1) := by decide +kernel
theorem dX8_apply_21 : decode cX8_apply 21 = .ok (.invokevirtual 40, 3) := by decide +kernel
theorem dX8_apply_24 : decode cX8_apply 24 = .ok (.aload_n 0, 1) := by decide +kernel
theorem dX8_apply_25 : decode cX8_apply 25 = .ok (.aload_n 0, 1) := by decide +kernel
theorem dX8_apply_26 : decode cX8_apply 26 = .ok (.iload_n 1, 1) := by decide +kernel
theorem dX8_apply_27 : decode cX8_apply 27 = .ok (.invokevirtual 48, 3) := by decide +kernel
theorem dX8_apply_30 : decode cX8_apply 30 = .ok (.iload_n 2, 1) := by decide +kernel
theorem dX8_apply_31 : decode cX8_apply 31 = .ok (.invokevirtual 58, 3) := by decide +kernel
theorem dX8_apply_34 : decode cX8_apply 34 = .ok (.iload_n 3, 1) := by decide +kernel
theorem dX8_apply_35 : decode cX8_apply 35 = .ok (.invokevirtual 66, 3) := by decide +kernel
theorem dX8_apply_38 : decode cX8_apply 38 = .ok (.ireturn, 1) := by decide +kernel
theorem dX8_secondType_0 : decode cX8_secondType 0 = .ok (.aload_n 0, 1) := by decide +kernel
theorem dX8_secondType_1 : decode cX8_secondType 1 = .ok (.getfield 28, 3) := by decide +kernel
theorem dX8_secondType_4 : decode cX8_secondType 4 = .ok (.aload_n 0, 1) := by decide +kernel
theorem dX8_secondType_5 : decode cX8_secondType 5 = .ok (.iload_n 1, 1) := by decide +kernel
theorem dX8_secondType_6 : decode cX8_secondType 6 = .ok (.invokevirtual 40, 3) := by decide +kernel
theorem dX8_secondType_9 : decode cX8_secondType 9 = .ok (.iconst 1, 1) := by decide +kernel
theorem dX8_secondType_10 : decode cX8_secondType 10 = .ok (.iadd, 1) := by decide +kernel
theorem dX8_secondType_11 : decode cX8_secondType 11 = .ok (.invokevirtual 55, 3) := by decide +kernel
theorem dX8_secondType_14 : decode cX8_secondType 14 = .ok (.istore_n 3, 1) := by decide +kernel
theorem dX8_secondType_15 : decode cX8_secondType 15 = .ok (.aload_n 0, 1) := by decide +kernel
theorem dX8_secondType_16 : decode cX8_secondType 16 = .ok (.iload_n 3, 1) := by decide +kernel
theorem dX8_secondType_17 : decode cX8_secondType 17 = .ok (.aload_n 0, 1) := by decide +kernel
theorem dX8_secondType_18 : decode cX8_secondType 18 = .ok (.aload_n 0, 1) := by decide +kernel
theorem dX8_secondType_19 : decode cX8_secondType 19 = .ok (.iload_n 1, 1) := by decide +kernel
theorem dX8_secondType_20 : decode cX8_secondType 20 = .ok (.invokevirtual 48, 3) := by decide +kernel
theorem dX8_secondType_23 : decode cX8_secondType 23 = .ok (.iload_n 2, 1) := by decide +kernel
theorem dX8_secondType_24 : decode cX8_secondType 24 = .ok (.invokevirtual 58, 3) := by decide +kernel
theorem dX8_secondType_27 : decode cX8_secondType 27 = .ok (.invokevirtual 51, 3) := by decide +kernel
theorem dX8_secondType_30 : decode cX8_secondType 30 = .ok (.ireturn, 1) := by decide +kernel
theorem dX5_at_0 : decode cX5_at 0 = .ok (.iload_n 1, 1) := by decide +kernel
theorem dX5_at_1 : decode cX5_at 1 = .ok (.ifCond .lt 26, 3) := by decide +kernel
theorem dX5_at_4 : decode cX5_at 4 = .ok (.iload_n 1, 1) := by decide +kernel
theorem dX5_at_5 : decode cX5_at 5 = .ok (.aload_n 0, 1) := by decide +kernel
theorem dX5_at_6 : decode cX5_at 6 = .ok (.getfield 17, 3) := by decide +kernel
theorem dX5_at_9 : decode cX5_at 9 = .ok (.if_icmp .ge 18, 3) := by decide +kernel
theorem dX5_at_12 : decode cX5_at 12 = .ok (.iload_n 1, 1) := by decide +kernel
theorem dX5_at_13 : decode cX5_at 13 = .ok (.bipush 6, 2) := by decide +kernel
theorem dX5_at_15 : decode cX5_at 15 = .ok (.if_icmp .ge 12, 3) := by decide +kernel
theorem dX5_at_18 : decode cX5_at 18 = .ok (.aload_n 0, 1) := by decide +kernel
theorem dX5_at_19 : decode cX5_at 19 = .ok (.getfield 11, 3) := by decide +kernel
theorem dX5_at_22 : decode cX5_at 22 = .ok (.iload_n 1, 1) := by decide +kernel
theorem dX5_at_23 : decode cX5_at 23 = .ok (.aaload, 1) := by decide +kernel
theorem dX5_at_24 : decode cX5_at 24 = .ok (.goto 4, 3) := by decide +kernel
theorem dX5_at_27 : decode cX5_at 27 = .ok (.aconst_null, 1) := by decide +kernel
theorem dX5_at_28 : decode cX5_at 28 = .ok (.areturn, 1) := by decide +kernel
theorem dX4_fail_0 : decode cX4_fail 0 = .ok (.aload_n 0, 1) := by decide +kernel
theorem dX4_fail_1 : decode cX4_fail 1 = .ok (.iload_n 1, 1) := by decide +kernel
theorem dX4_fail_2 : decode cX4_fail 2 = .ok (.putfield 44, 3) := by decide +kernel
theorem dX4_fail_5 : decode cX4_fail 5 = .ok (.iconst 0, 1) := by decide +kernel
theorem dX4_fail_6 : decode cX4_fail 6 = .ok (.ireturn, 1) := by decide +kernel
theorem dX4_hasRead_0 : decode cX4_hasRead 0 = .ok (.aload_n 0, 1) := by decide +kernel
theorem dX4_hasRead_1 : decode cX4_hasRead 1 = .ok (.iload_n 1, 1) := by decide +kernel
theorem dX4_hasRead_2 : decode cX4_hasRead 2 = .ok (.putfield 207, 3) := by decide +kernel
theorem dX4_hasRead_5 : decode cX4_hasRead 5 = .ok (.aload_n 0, 1) := by decide +kernel
theorem dX4_hasRead_6 : decode cX4_hasRead 6 = .ok (.iload_n 2, 1) := by decide +kernel
theorem dX4_hasRead_7 : decode cX4_hasRead 7 = .ok (.putfield 210, 3) := by decide +kernel
theorem dX4_hasRead_10 : decode cX4_hasRead 10 = .ok (.iconst 1, 1) := by decide +kernel
theorem dX4_hasRead_11 : decode cX4_hasRead 11 = .ok (.ireturn, 1) := by decide +kernel
theorem dX4_readEntry_0 : decode cX4_readEntry 0 = .ok (.aload_n 0, 1) := by decide +kernel
theorem dX4_readEntry_1 : decode cX4_readEntry 1 = .ok (.dup, 1) := by decide +kernel
theorem dX4_readEntry_2 : decode cX4_readEntry 2 = .ok (.getfield 41, 3) := by decide +kernel
theorem dX4_readEntry_5 : decode cX4_readEntry 5 = .ok (.iconst 1, 1) := by decide +kernel
theorem dX4_readEntry_6 : decode cX4_readEntry 6 = .ok (.iadd, 1) := by decide +kernel
theorem dX4_readEntry_7 : decode cX4_readEntry 7 = .ok (.putfield 41, 3) := by decide +kernel
theorem dX4_readEntry_10 : decode cX4_readEntry 10 = .ok (.aload_n 0, 1) := by decide +kernel
theorem dX4_readEntry_11 : decode cX4_readEntry 11 = .ok (.getfield 21, 3) := by decide +kernel
theorem dX4_readEntry_14 : decode cX4_readEntry 14 = .ok (.aload_n 0, 1) := by decide +kernel
theorem dX4_readEntry_15 : decode cX4_readEntry 15 = .ok (.invokevirtual 99, 3) := by decide +kernel
theorem dX4_readEntry_18 : decode cX4_readEntry 18 = .ok (.bipush 48, 2) := by decide +kernel
theorem dX4_readEntry_20 : decode cX4_readEntry 20 = .ok (.isub, 1) := by decide +kernel
theorem dX4_readEntry_21 : decode cX4_readEntry 21 = .ok (.invokevirtual 235, 3) := by decide +kernel
theorem dX4_readEntry_24 : decode cX4_readEntry 24 = .ok (.astore_n 1, 1) := by decide +kernel
theorem dX4_readEntry_25 : decode cX4_readEntry 25 = .ok (.aload_n 1, 1) := by decide +kernel
theorem dX4_readEntry_26 : decode cX4_readEntry 26 = .ok (.ifnonnull 12, 3) := by decide +kernel
theorem dX4_readEntry_29 : decode cX4_readEntry 29 = .ok (.aload_n 0, 1) := by decide +kernel
theorem dX4_readEntry_30 : decode cX4_readEntry 30 = .ok (.aload_n 0, 1) := by decide +kernel
theorem dX4_readEntry_31 : decode cX4_readEntry 31 = .ok (.getfield 41, 3) := by decide +kernel
theorem dX4_readEntry_34 : decode cX4_readEntry 34 = .ok (.invokevirtual 95, 3) := by decide +kernel
theorem dX4_readEntry_37 : decode cX4_readEntry 37 = .ok (.ireturn, 1) := by decide +kernel
theorem dX4_readEntry_38 : decode cX4_readEntry 38 = .ok (.aload_n 0, 1) := by decide +kernel
theorem dX4_readEntry_39 : decode cX4_readEntry 39 = .ok (.dup, 1) := by decide +kernel
theorem dX4_readEntry_40 : decode cX4_readEntry 40 = .ok (.getfield 41, 3) := by decide +kernel
theorem dX4_readEntry_43 : decode cX4_readEntry 43 = .ok (.iconst 1, 1) := by decide +kernel
theorem dX4_readEntry_44 : decode cX4_readEntry 44 = .ok (.iadd, 1) := by decide +kernel
theorem dX4_readEntry_45 : decode cX4_readEntry 45 = .ok (.putfield 41, 3) := by decide +kernel
theorem dX4_readEntry_48 : decode cX4_readEntry 48 = .ok (.aload_n 0, 1) := by decide +kernel
theorem dX4_readEntry_49 : decode cX4_readEntry 49 = .ok (.getfield 25, 3) := by decide +kernel
theorem dX4_readEntry_52 : decode cX4_readEntry 52 = .ok (.aload_n 1, 1) := by decide +kernel
theorem dX4_readEntry_53 : decode cX4_readEntry 53 = .ok (.getfield 239, 3) := by decide +kernel
theorem dX4_readEntry_56 : decode cX4_readEntry 56 = .ok (.invokevirtual 243, 3) := by decide +kernel
theorem dX4_readEntry_59 : decode cX4_readEntry 59 = .ok (.istore_n 2, 1) := by decide +kernel
theorem dX4_readEntry_60 : decode cX4_readEntry 60 = .ok (.aload_n 0, 1) := by decide +kernel
theorem dX4_readEntry_61 : decode cX4_readEntry 61 = .ok (.getfield 25, 3) := by decide +kernel
theorem dX4_readEntry_64 : decode cX4_readEntry 64 = .ok (.aload_n 1, 1) := by decide +kernel
theorem dX4_readEntry_65 : decode cX4_readEntry 65 = .ok (.getfield 247, 3) := by decide +kernel
theorem dX4_readEntry_68 : decode cX4_readEntry 68 = .ok (.invokevirtual 243, 3) := by decide +kernel
theorem dX4_readEntry_71 : decode cX4_readEntry 71 = .ok (.istore_n 3, 1) := by decide +kernel
theorem dX4_readEntry_72 : decode cX4_readEntry 72 = .ok (.aload_n 0, 1) := by decide +kernel
theorem dX4_readEntry_73 : decode cX4_readEntry 73 = .ok (.getfield 29, 3) := by decide +kernel
theorem dX4_readEntry_76 : decode cX4_readEntry 76 = .ok (.iload_n 3, 1) := by decide +kernel
theorem dX4_readEntry_77 : decode cX4_readEntry 77 = .ok (.iconst 0, 1) := by decide +kernel
theorem dX4_readEntry_78 : decode cX4_readEntry 78 = .ok (.bipush 104, 2) := by decide +kernel
theorem dX4_readEntry_80 : decode cX4_readEntry 80 = .ok (.invokevirtual 186, 3) := by decide +kernel
theorem dX4_readEntry_83 : decode cX4_readEntry 83 = .ok (.istore 4, 2) := by decide +kernel
theorem dX4_readEntry_85 : decode cX4_readEntry 85 = .ok (.aload_n 0, 1) := by decide +kernel
theorem dX4_readEntry_86 : decode cX4_readEntry 86 = .ok (.aload_n 0, 1) := by decide +kernel
theorem dX4_readEntry_87 : decode cX4_readEntry 87 = .ok (.getfield 29, 3) := by decide +kernel
theorem dX4_readEntry_90 : decode cX4_readEntry 90 = .ok (.iload_n 2, 1) := by decide +kernel
theorem dX4_readEntry_91 : decode cX4_readEntry 91 = .ok (.iconst 0, 1) := by decide +kernel
theorem dX4_readEntry_92 : decode cX4_readEntry 92 = .ok (.invokevirtual 66, 3) := by decide +kernel
theorem dX4_readEntry_95 : decode cX4_readEntry 95 = .ok (.iload 4, 2) := by decide +kernel
theorem dX4_readEntry_97 : decode cX4_readEntry 97 = .ok (.invokevirtual 223, 3) := by decide +kernel
theorem dX4_readEntry_100 : decode cX4_readEntry 100 = .ok (.ireturn, 1) := by decide +kernel
theorem dX8_typeOfVariable_0 : decode cX8_typeOfVariable 0 = .ok (.iload_n 1, 1) := by decide +kernel
theorem dX8_typeOfVariable_1 : decode cX8_typeOfVariable 1 = .ok (.ifCond .lt 18, 3) := by decide +kernel
theorem dX8_typeOfVariable_4 : decode cX8_typeOfVariable 4 = .ok (.iload_n 1, 1) := by decide +kernel
theorem dX8_typeOfVariable_5 : decode cX8_typeOfVariable 5 = .ok (.bipush 10, 2) := by decide +kernel
theorem dX8_typeOfVariable_7 : decode cX8_typeOfVariable 7 = .ok (.if_icmp .ge 12, 3) := by decide +kernel
theorem dX8_typeOfVariable_10 : decode cX8_typeOfVariable 10 = .ok (.aload_n 0, 1) := by decide +kernel
theorem dX8_typeOfVariable_11 : decode cX8_typeOfVariable 11 = .ok (.getfield 25, 3) := by decide +kernel
theorem dX8_typeOfVariable_14 : decode cX8_typeOfVariable 14 = .ok (.iload_n 1, 1) := by decide +kernel
theorem dX8_typeOfVariable_15 : decode cX8_typeOfVariable 15 = .ok (.iaload, 1) := by decide +kernel
theorem dX8_typeOfVariable_16 : decode cX8_typeOfVariable 16 = .ok (.goto 4, 3) := by decide +kernel
theorem dX8_typeOfVariable_19 : decode cX8_typeOfVariable 19 = .ok (.iconst 0, 1) := by decide +kernel
theorem dX8_typeOfVariable_20 : decode cX8_typeOfVariable 20 = .ok (.ireturn, 1) := by decide +kernel
theorem dX7_constantTypeOf_0 : decode cX7_constantTypeOf 0 = .ok (.iload_n 1, 1) := by decide +kernel
theorem dX7_constantTypeOf_1 : decode cX7_constantTypeOf 1 = .ok (.bipush 97, 2) := by decide +kernel
theorem dX7_constantTypeOf_3 : decode cX7_constantTypeOf 3 = .ok (.isub, 1) := by decide +kernel
theorem dX7_constantTypeOf_4 : decode cX7_constantTypeOf 4 = .ok (.istore_n 2, 1) := by decide +kernel
theorem dX7_constantTypeOf_5 : decode cX7_constantTypeOf 5 = .ok (.iload_n 2, 1) := by decide +kernel
theorem dX7_constantTypeOf_6 : decode cX7_constantTypeOf 6 = .ok (.ifCond .lt 25, 3) := by decide +kernel
theorem dX7_constantTypeOf_9 : decode cX7_constantTypeOf 9 = .ok (.iload_n 2, 1) := by decide +kernel
theorem dX7_constantTypeOf_10 : decode cX7_constantTypeOf 10 = .ok (.aload_n 0, 1) := by decide +kernel
theorem dX7_constantTypeOf_11 : decode cX7_constantTypeOf 11 = .ok (.getfield 28, 3) := by decide +kernel
theorem dX7_constantTypeOf_14 : decode cX7_constantTypeOf 14 = .ok (.if_icmp .ge 17, 3) := by decide +kernel
theorem dX7_constantTypeOf_17 : decode cX7_constantTypeOf 17 = .ok (.iload_n 2, 1) := by decide +kernel
theorem dX7_constantTypeOf_18 : decode cX7_constantTypeOf 18 = .ok (.iconst 4, 1) := by decide +kernel
theorem dX7_constantTypeOf_19 : decode cX7_constantTypeOf 19 = .ok (.if_icmp .ge 12, 3) := by decide +kernel
theorem dX7_constantTypeOf_22 : decode cX7_constantTypeOf 22 = .ok (.aload_n 0, 1) := by decide +kernel
theorem dX7_constantTypeOf_23 : decode cX7_constantTypeOf 23 = .ok (.getfield 18, 3) := by decide +kernel
theorem dX7_constantTypeOf_26 : decode cX7_constantTypeOf 26 = .ok (.iload_n 2, 1) := by decide +kernel
theorem dX7_constantTypeOf_27 : decode cX7_constantTypeOf 27 = .ok (.iaload, 1) := by decide +kernel
theorem dX7_constantTypeOf_28 : decode cX7_constantTypeOf 28 = .ok (.goto 4, 3) := by decide +kernel
theorem dX7_constantTypeOf_31 : decode cX7_constantTypeOf 31 = .ok (.iconst (-1), 1) := by decide +kernel
theorem dX7_constantTypeOf_32 : decode cX7_constantTypeOf 32 = .ok (.ireturn, 1) := by decide +kernel
theorem dX8_typeOfConstant_0 : decode cX8_typeOfConstant 0 = .ok (.aload_n 0, 1) := by decide +kernel
theorem dX8_typeOfConstant_1 : decode cX8_typeOfConstant 1 = .ok (.aload_n 0, 1) := by decide +kernel
theorem dX8_typeOfConstant_2 : decode cX8_typeOfConstant 2 = .ok (.getfield 28, 3) := by decide +kernel
theorem dX8_typeOfConstant_5 : decode cX8_typeOfConstant 5 = .ok (.iload_n 1, 1) := by decide +kernel
theorem dX8_typeOfConstant_6 : decode cX8_typeOfConstant 6 = .ok (.invokevirtual 61, 3) := by decide +kernel
theorem dX8_typeOfConstant_9 : decode cX8_typeOfConstant 9 = .ok (.iconst 0, 1) := by decide +kernel
theorem dX8_typeOfConstant_10 : decode cX8_typeOfConstant 10 = .ok (.invokevirtual 51, 3) := by decide +kernel
theorem dX8_typeOfConstant_13 : decode cX8_typeOfConstant 13 = .ok (.ireturn, 1) := by decide +kernel
theorem dX4_readName_0 : decode cX4_readName 0 = .ok (.aload_n 0, 1) := by decide +kernel
theorem dX4_readName_1 : decode cX4_readName 1 = .ok (.invokevirtual 99, 3) := by decide +kernel
theorem dX4_readName_4 : decode cX4_readName 4 = .ok (.istore_n 2, 1) := by decide +kernel
theorem dX4_readName_5 : decode cX4_readName 5 = .ok (.iload_n 2, 1) := by decide +kernel
theorem dX4_readName_6 : decode cX4_readName 6 = .ok (.bipush 48, 2) := by decide +kernel
theorem dX4_readName_8 : decode cX4_readName 8 = .ok (.isub, 1) := by decide +kernel
theorem dX4_readName_9 : decode cX4_readName 9 = .ok (.istore_n 3, 1) := by decide +kernel
theorem dX4_readName_10 : decode cX4_readName 10 = .ok (.iload_n 3, 1) := by decide +kernel
theorem dX4_readName_11 : decode cX4_readName 11 = .ok (.ifCond .lt 44, 3) := by decide +kernel
theorem dX4_readName_14 : decode cX4_readName 14 = .ok (.iload_n 3, 1) := by decide +kernel
theorem dX4_readName_15 : decode cX4_readName 15 = .ok (.iload_n 1, 1) := by decide +kernel
theorem dX4_readName_16 : decode cX4_readName 16 = .ok (.if_icmp .ge 39, 3) := by decide +kernel
theorem dX4_readName_19 : decode cX4_readName 19 = .ok (.aload_n 0, 1) := by decide +kernel
theorem dX4_readName_20 : decode cX4_readName 20 = .ok (.dup, 1) := by decide +kernel
theorem dX4_readName_21 : decode cX4_readName 21 = .ok (.getfield 41, 3) := by decide +kernel
theorem dX4_readName_24 : decode cX4_readName 24 = .ok (.iconst 1, 1) := by decide +kernel
theorem dX4_readName_25 : decode cX4_readName 25 = .ok (.iadd, 1) := by decide +kernel
theorem dX4_readName_26 : decode cX4_readName 26 = .ok (.putfield 41, 3) := by decide +kernel
theorem dX4_readName_29 : decode cX4_readName 29 = .ok (.aload_n 0, 1) := by decide +kernel
theorem dX4_readName_30 : decode cX4_readName 30 = .ok (.aload_n 0, 1) := by decide +kernel
theorem dX4_readName_31 : decode cX4_readName 31 = .ok (.getfield 29, 3) := by decide +kernel
theorem dX4_readName_34 : decode cX4_readName 34 = .ok (.iload_n 3, 1) := by decide +kernel
theorem dX4_readName_35 : decode cX4_readName 35 = .ok (.invokevirtual 217, 3) := by decide +kernel
theorem dX4_readName_38 : decode cX4_readName 38 = .ok (.aload_n 0, 1) := by decide +kernel
theorem dX4_readName_39 : decode cX4_readName 39 = .ok (.getfield 29, 3) := by decide +kernel
theorem dX4_readName_42 : decode cX4_readName 42 = .ok (.aload_n 0, 1) := by decide +kernel
theorem dX4_readName_43 : decode cX4_readName 43 = .ok (.iload_n 1, 1) := by decide +kernel
theorem dX4_readName_44 : decode cX4_readName 44 = .ok (.invokevirtual 145, 3) := by decide +kernel
theorem dX4_readName_47 : decode cX4_readName 47 = .ok (.iload_n 3, 1) := by decide +kernel
theorem dX4_readName_48 : decode cX4_readName 48 = .ok (.invokevirtual 220, 3) := by decide +kernel
theorem dX4_readName_51 : decode cX4_readName 51 = .ok (.invokevirtual 223, 3) := by decide +kernel
theorem dX4_readName_54 : decode cX4_readName 54 = .ok (.ireturn, 1) := by decide +kernel
theorem dX4_readName_55 : decode cX4_readName 55 = .ok (.aload_n 0, 1) := by decide +kernel
theorem dX4_readName_56 : decode cX4_readName 56 = .ok (.getfield 25, 3) := by decide +kernel
theorem dX4_readName_59 : decode cX4_readName 59 = .ok (.iload_n 2, 1) := by decide +kernel
theorem dX4_readName_60 : decode cX4_readName 60 = .ok (.invokevirtual 226, 3) := by decide +kernel
theorem dX4_readName_63 : decode cX4_readName 63 = .ok (.ifCond .eq 34, 3) := by decide +kernel
theorem dX4_readName_66 : decode cX4_readName 66 = .ok (.aload_n 0, 1) := by decide +kernel
theorem dX4_readName_67 : decode cX4_readName 67 = .ok (.dup, 1) := by decide +kernel
theorem dX4_readName_68 : decode cX4_readName 68 = .ok (.getfield 41, 3) := by decide +kernel
theorem dX4_readName_71 : decode cX4_readName 71 = .ok (.iconst 1, 1) := by decide +kernel
theorem dX4_readName_72 : decode cX4_readName 72 = .ok (.iadd, 1) := by decide +kernel
theorem dX4_readName_73 : decode cX4_readName 73 = .ok (.putfield 41, 3) := by decide +kernel
theorem dX4_readName_76 : decode cX4_readName 76 = .ok (.aload_n 0, 1) := by decide +kernel
theorem dX4_readName_77 : decode cX4_readName 77 = .ok (.aload_n 0, 1) := by decide +kernel
theorem dX4_readName_78 : decode cX4_readName 78 = .ok (.getfield 29, 3) := by decide +kernel
theorem dX4_readName_81 : decode cX4_readName 81 = .ok (.iload_n 2, 1) := by decide +kernel
theorem dX4_readName_82 : decode cX4_readName 82 = .ok (.invokevirtual 229, 3) := by decide +kernel
theorem dX4_readName_85 : decode cX4_readName 85 = .ok (.aload_n 0, 1) := by decide +kernel
theorem dX4_readName_86 : decode cX4_readName 86 = .ok (.getfield 29, 3) := by decide +kernel
theorem dX4_readName_89 : decode cX4_readName 89 = .ok (.iload_n 2, 1) := by decide +kernel
theorem dX4_readName_90 : decode cX4_readName 90 = .ok (.invokevirtual 232, 3) := by decide +kernel
theorem dX4_readName_93 : decode cX4_readName 93 = .ok (.invokevirtual 223, 3) := by decide +kernel
theorem dX4_readName_96 : decode cX4_readName 96 = .ok (.ireturn, 1) := by decide +kernel
theorem dX4_readName_97 : decode cX4_readName 97 = .ok (.aload_n 0, 1) := by decide +kernel
theorem dX4_readName_98 : decode cX4_readName 98 = .ok (.aload_n 0, 1) := by decide +kernel
theorem dX4_readName_99 : decode cX4_readName 99 = .ok (.getfield 41, 3) := by decide +kernel
theorem dX4_readName_102 : decode cX4_readName 102 = .ok (.invokevirtual 95, 3) := by decide +kernel
theorem dX4_readName_105 : decode cX4_readName 105 = .ok (.ireturn, 1) := by decide +kernel
theorem dX9_bound_0 : decode cX9_bound 0 = .ok (.iload_n 2, 1) := by decide +kernel
theorem dX9_bound_1 : decode cX9_bound 1 = .ok (.bipush 10, 2) := by decide +kernel
theorem dX9_bound_3 : decode cX9_bound 3 = .ok (.if_icmp .lt 8, 3) := by decide +kernel
theorem dX9_bound_6 : decode cX9_bound 6 = .ok (.aload_n 0, 1) := by decide +kernel
theorem dX9_bound_7 : decode cX9_bound 7 = .ok (.iconst 1, 1) := by decide +kernel
theorem dX9_bound_8 : decode cX9_bound 8 = .ok (.putfield 42, 3) := by decide +kernel
theorem dX9_bound_11 : decode cX9_bound 11 = .ok (.aload_n 0, 1) := by decide +kernel
theorem dX9_bound_12 : decode cX9_bound 12 = .ok (.getfield 15, 3) := by decide +kernel
theorem dX9_bound_15 : decode cX9_bound 15 = .ok (.iload_n 2, 1) := by decide +kernel
theorem dX9_bound_16 : decode cX9_bound 16 = .ok (.iload_n 1, 1) := by decide +kernel
theorem dX9_bound_17 : decode cX9_bound 17 = .ok (.invokevirtual 96, 3) := by decide +kernel
theorem dX9_bound_20 : decode cX9_bound 20 = .ok (.ireturn, 1) := by decide +kernel
set_option maxHeartbeats 4000000 in
set_option maxRecDepth 20000 in
theorem b_Values_evaluate_212 {p : Program} {l : Launch} {e : Env} {s : State} {m : MethodId} {args : Array Value} {below : List Frame} {meth : Method} {c : Code} {D : va_G} {cy : Nat → ClassId} {ad : Nat → Nat} {q : Int32 × CS}  {r_evaluate : Int32 → Int32 → Int32 → CS → Option (Int32 × CS)} {r_apply : Int32 → Int32 → Int32 → CS → Option (Int32 × CS)} {d : Nat} (C : vC p s m args meth c cX8_evaluate 9 (some .int) RX8 D (cyT cy)) (hA : adOK ad) (hr_evaluate : ∀ (z1 : Int32) (z2 : Int32) (z3 : Int32) (σ : CS) (q : Int32 × CS), r_evaluate z1 z2 z3 σ = some q → MV l D (cyT cy) (inC ad) yX8_evaluate cX8_evaluate 9 (some .int) (2 + d) (46 + 40 * d) 0 0 [.ref (ad 38), .int z1, .int z2, .int z3] (wc cy ad σ) (some (.int q.1)) (wc cy ad q.2)) (hr_apply : ∀ (z1 : Int32) (z2 : Int32) (z3 : Int32) (σ : CS) (q : Int32 × CS), r_apply z1 z2 z3 σ = some q → MV l D (cyT cy) (inC ad) yX8_apply cX8_apply 4 (some .int) (2 + d) (46 + 40 * d) 0 0 [.ref (ad 38), .int z1, .int z2, .int z3] (wc cy ad σ) (some (.int q.1)) (wc cy ad q.2)) : ∀ (x7 : Int32) (s0 : Int32) (σ : CS), B_Values_evaluate_212 r_evaluate r_apply x7 s0 σ = some q → V p l e { frames := 2 + (d + 1), cells := 0, slots := 0, locals := 46 + 40 * (d + 1) } s m args below meth c D (inC ad) 9 (MQ below (vQ D (inC ad) (some (.int q.1)) (wc cy ad q.2)) args s 0 0 (inC ad)) 0 0 (wc cy ad σ) 212 [(0, .ref (ad 38)), (7, .int x7)] [.int s0] := by
  intro x7 s0 σ h
  rw [B_Values_evaluate_212] at h
  refine v_istore C [(8, .int s0), (0, .ref (ad 38)), (7, .int x7)] dX8_evaluate_212 (by decide) rfl ?_
  refine v_aload_n C 1 dX8_evaluate_214 rfl rfl ?_
  refine v_iload C 2 dX8_evaluate_215 rfl ?_
  refine c_putI C fl_8_64 fw_8_6 rfl (by decide) (okS _ 38 (by decide) rfl) dX8_evaluate_217 ?_
  refine v_iload C 0 dX8_evaluate_220 rfl ?_
  obtain rfl := Option.some.inj h
  exact v_iret C dX8_evaluate_222
set_option maxHeartbeats 4000000 in
set_option maxRecDepth 20000 in
theorem b_Values_evaluate_254 {p : Program} {l : Launch} {e : Env} {s : State} {m : MethodId} {args : Array Value} {below : List Frame} {meth : Method} {c : Code} {D : va_G} {cy : Nat → ClassId} {ad : Nat → Nat} {q : Int32 × CS}  {r_evaluate : Int32 → Int32 → Int32 → CS → Option (Int32 × CS)} {r_apply : Int32 → Int32 → Int32 → CS → Option (Int32 × CS)} {d : Nat} (C : vC p s m args meth c cX8_evaluate 9 (some .int) RX8 D (cyT cy)) (hA : adOK ad) (hr_evaluate : ∀ (z1 : Int32) (z2 : Int32) (z3 : Int32) (σ : CS) (q : Int32 × CS), r_evaluate z1 z2 z3 σ = some q → MV l D (cyT cy) (inC ad) yX8_evaluate cX8_evaluate 9 (some .int) (2 + d) (46 + 40 * d) 0 0 [.ref (ad 38), .int z1, .int z2, .int z3] (wc cy ad σ) (some (.int q.1)) (wc cy ad q.2)) (hr_apply : ∀ (z1 : Int32) (z2 : Int32) (z3 : Int32) (σ : CS) (q : Int32 × CS), r_apply z1 z2 z3 σ = some q → MV l D (cyT cy) (inC ad) yX8_apply cX8_apply 4 (some .int) (2 + d) (46 + 40 * d) 0 0 [.ref (ad 38), .int z1, .int z2, .int z3] (wc cy ad σ) (some (.int q.1)) (wc cy ad q.2)) : ∀ (s0 : Int32) (σ : CS), B_Values_evaluate_254 r_evaluate r_apply s0 σ = some q → V p l e { frames := 2 + (d + 1), cells := 0, slots := 0, locals := 46 + 40 * (d + 1) } s m args below meth c D (inC ad) 9 (MQ below (vQ D (inC ad) (some (.int q.1)) (wc cy ad q.2)) args s 0 0 (inC ad)) 0 0 (wc cy ad σ) 254 [(0, .ref (ad 38))] [.int s0] := by
  intro s0 σ h
  rw [B_Values_evaluate_254] at h
  obtain rfl := Option.some.inj h
  exact v_iret C dX8_evaluate_254
set_option maxHeartbeats 4000000 in
set_option maxRecDepth 20000 in
theorem w_Values_evaluate {l : Launch} {D : va_G} {cy : Nat → ClassId} {ad : Nat → Nat} {q : Int32 × CS} {r_evaluate : Int32 → Int32 → Int32 → CS → Option (Int32 × CS)} {r_apply : Int32 → Int32 → Int32 → CS → Option (Int32 × CS)} {d : Nat} (hA : adOK ad) (hr_evaluate : ∀ (z1 : Int32) (z2 : Int32) (z3 : Int32) (σ : CS) (q : Int32 × CS), r_evaluate z1 z2 z3 σ = some q → MV l D (cyT cy) (inC ad) yX8_evaluate cX8_evaluate 9 (some .int) (2 + d) (46 + 40 * d) 0 0 [.ref (ad 38), .int z1, .int z2, .int z3] (wc cy ad σ) (some (.int q.1)) (wc cy ad q.2)) (hr_apply : ∀ (z1 : Int32) (z2 : Int32) (z3 : Int32) (σ : CS) (q : Int32 × CS), r_apply z1 z2 z3 σ = some q → MV l D (cyT cy) (inC ad) yX8_apply cX8_apply 4 (some .int) (2 + d) (46 + 40 * d) 0 0 [.ref (ad 38), .int z1, .int z2, .int z3] (wc cy ad σ) (some (.int q.1)) (wc cy ad q.2)) (x1 : Int32) (x2 : Int32) (x3 : Int32) (σ : CS) (h : F_Values_evaluate r_evaluate r_apply x1 x2 x3 σ = some q) : MV l D (cyT cy) (inC ad) yX8_evaluate cX8_evaluate 9 (some .int) (2 + (d + 1)) (46 + 40 * (d + 1)) 0 0 [.ref (ad 38), .int x1, .int x2, .int x3] (wc cy ad σ) (some (.int q.1)) (wc cy ad q.2) := by
  refine MV.of (by decide) (wc_D hA cy σ) (Nat.le_of_ble_eq_true rfl) [(0, .ref (ad 38)), (1, .int x1), (2, .int x2), (3, .int x3)] rfl ?_
  intro p e s m args below meth c C
  rw [F_Values_evaluate] at h
  refine v_aload_n C 0 dX8_evaluate_0 rfl rfl ?_
  refine c_getS C 34 fl_8_28 rfl rfl (by decide) (okS _ 38 (by decide) rfl) dX8_evaluate_1 ?_
  refine v_iload_n C 1 dX8_evaluate_4 rfl rfl ?_
  obtain ⟨q1, hq1, h⟩ := bd_of h
  refine c_call C [.int x1] [] (c_Signs_at hA _ _ hq1) hY_Signs_at rfl (by decide) (okS _ 34 (by decide) rfl) ml_8_43 ⟨(by omega : 0 + 1 ≤ 2 + (d + 1)), (by omega : 8 + (2 + 11) + 0 ≤ 46 + 40 * (d + 1))⟩ ⟨Nat.zero_le _, Nat.zero_le _⟩ rfl rfl (Nat.le_of_ble_eq_true rfl) dX8_evaluate_5 (wc_D hA cy _) ?_
  refine v_istore C [(4, .int q1.1), (0, .ref (ad 38)), (1, .int x1), (2, .int x2), (3, .int x3)] dX8_evaluate_8 (by decide) rfl ?_
  refine v_aload_n C 1 dX8_evaluate_10 rfl rfl ?_
  refine v_iload_n C 2 dX8_evaluate_11 rfl rfl ?_
  refine v_iconst C 1 dX8_evaluate_12 (by decide) ?_
  refine v_iadd C dX8_evaluate_13 ?_
  refine c_putI C fl_8_64 fw_8_6 rfl (by decide) (okS _ 38 (by decide) rfl) dX8_evaluate_14 ?_
  refine v_iload_n C 4 dX8_evaluate_17 rfl rfl ?_
  refine v_if_gt C 23 dX8_evaluate_18 (by decide) (fun c1 => ?_) (fun c1 => ?_)
  · rw [if_pos c1] at h
    refine v_iload C 0 dX8_evaluate_23 rfl ?_
    by_cases c2 : q1.1 = 42
    · rw [if_pos c2] at h
      refine v_lookup C 84 dX8_evaluate_25 (by decide) (by rw [c2]; try rfl) (by decide) ?_
      refine v_aload_n C 1 dX8_evaluate_84 rfl rfl ?_
      refine v_bipush C 6 dX8_evaluate_85 (by decide) ?_
      refine v_iconst C 0 dX8_evaluate_87 (by decide) ?_
      refine v_iconst C 0 dX8_evaluate_88 (by decide) ?_
      obtain ⟨q2, hq2, h⟩ := bd_of h
      refine c_call C [.int 6, .int 0, .int 0] [] (c_Values_make hA _ _ _ _ hq2) hY_Values_make rfl (by decide) (okS _ 38 (by decide) rfl) ml_8_32 ⟨(by omega : 0 + 1 ≤ 2 + (d + 1)), (by omega : 8 + (4 + 11) + 0 ≤ 46 + 40 * (d + 1))⟩ ⟨Nat.zero_le _, Nat.zero_le _⟩ rfl rfl (Nat.le_of_ble_eq_true rfl) dX8_evaluate_89 (wc_D hA cy _) ?_
      obtain rfl := Option.some.inj h
      exact v_iret C dX8_evaluate_92
    rw [if_neg c2] at h
    by_cases c3 : q1.1 = 44
    · rw [if_pos c3] at h
      refine v_lookup C 148 dX8_evaluate_25 (by decide) (by rw [c3]; try rfl) (by decide) ?_
      refine v_aload_n C 1 dX8_evaluate_148 rfl rfl ?_
      refine v_iload_n C 2 dX8_evaluate_149 rfl rfl ?_
      refine v_iconst C 1 dX8_evaluate_150 (by decide) ?_
      refine v_iadd C dX8_evaluate_151 ?_
      refine v_iload_n C 3 dX8_evaluate_152 rfl rfl ?_
      refine v_iload_n C 4 dX8_evaluate_153 rfl rfl ?_
      refine v_iconst C 1 dX8_evaluate_154 (by decide) ?_
      refine v_isub C dX8_evaluate_155 ?_
      obtain ⟨q3, hq3, h⟩ := bd_of h
      refine c_call C [.int (x1 + 1), .int x2, .int (x3 - 1)] [] (hr_evaluate _ _ _ _ _ hq3) hY_Values_evaluate rfl (by decide) (okS _ 38 (by decide) rfl) ml_8_66 ⟨(by omega : (2 + d) + 1 ≤ 2 + (d + 1)), (by omega : 8 + (9 + 11) + (46 + 40 * d) ≤ 46 + 40 * (d + 1))⟩ ⟨Nat.zero_le _, Nat.zero_le _⟩ rfl rfl (Nat.le_of_ble_eq_true rfl) dX8_evaluate_156 (wc_D hA cy _) ?_
      refine v_istore C [(5, .int q3.1), (4, .int q1.1), (0, .ref (ad 38)), (1, .int x1), (2, .int x2), (3, .int x3)] dX8_evaluate_159 (by decide) rfl ?_
      refine v_aload_n C 2 dX8_evaluate_161 rfl rfl ?_
      refine v_aload_n C 2 dX8_evaluate_162 rfl rfl ?_
      refine c_getI C fl_8_64 rfl (okS _ 38 (by decide) rfl) dX8_evaluate_163 ?_
      refine v_iload_n C 4 dX8_evaluate_166 rfl rfl ?_
      refine v_iload_n C 5 dX8_evaluate_167 rfl rfl ?_
      refine v_iconst C 1 dX8_evaluate_168 (by decide) ?_
      refine v_isub C dX8_evaluate_169 ?_
      obtain ⟨q4, hq4, h⟩ := bd_of h
      refine c_call C [.int (q3.2.1 38 6), .int x2, .int (x3 - 1)] [] (hr_evaluate _ _ _ _ _ hq4) hY_Values_evaluate rfl (by decide) (okS _ 38 (by decide) rfl) ml_8_66 ⟨(by omega : (2 + d) + 1 ≤ 2 + (d + 1)), (by omega : 8 + (9 + 11) + (46 + 40 * d) ≤ 46 + 40 * (d + 1))⟩ ⟨Nat.zero_le _, Nat.zero_le _⟩ rfl rfl (Nat.le_of_ble_eq_true rfl) dX8_evaluate_170 (wc_D hA cy _) ?_
      refine v_istore C [(6, .int q4.1), (5, .int q3.1), (4, .int q1.1), (0, .ref (ad 38)), (1, .int x1), (2, .int x2), (3, .int x3)] dX8_evaluate_173 (by decide) rfl ?_
      refine v_aload_n C 3 dX8_evaluate_175 rfl rfl ?_
      refine c_getI C fl_8_64 rfl (okS _ 38 (by decide) rfl) dX8_evaluate_176 ?_
      refine v_istore C [(7, .int (q4.2.1 38 6)), (6, .int q4.1), (5, .int q3.1), (4, .int q1.1), (0, .ref (ad 38)), (1, .int x1), (2, .int x2), (3, .int x3)] dX8_evaluate_179 (by decide) rfl ?_
      refine v_iload C 3 dX8_evaluate_181 rfl ?_
      refine v_bipush C 44 dX8_evaluate_183 (by decide) ?_
      refine v_icmp_ne C 201 dX8_evaluate_185 (by decide) (fun c4 => ?_) (fun c4 => ?_)
      · rw [if_neg c4] at h
        refine v_aload_n C 4 dX8_evaluate_201 rfl rfl ?_
        refine v_iload C 2 dX8_evaluate_202 rfl ?_
        refine v_iload C 1 dX8_evaluate_204 rfl ?_
        refine v_iload_n C 7 dX8_evaluate_206 rfl rfl ?_
        refine v_iconst C 1 dX8_evaluate_207 (by decide) ?_
        refine v_isub C dX8_evaluate_208 ?_
        obtain ⟨q5, hq5, h⟩ := bd_of h
        refine c_call C [.int q3.1, .int q4.1, .int (x3 - 1)] [] (hr_apply _ _ _ _ _ hq5) hY_Values_apply rfl (by decide) (okS _ 38 (by decide) rfl) ml_8_75 ⟨(by omega : (2 + d) + 1 ≤ 2 + (d + 1)), (by omega : 8 + (4 + 11) + (46 + 40 * d) ≤ 46 + 40 * (d + 1))⟩ ⟨Nat.zero_le _, Nat.zero_le _⟩ rfl rfl (Nat.le_of_ble_eq_true rfl) dX8_evaluate_209 (wc_D hA cy _) ?_
        exact v_sub [4, 0] rfl ((b_Values_evaluate_212 C hA hr_evaluate hr_apply) _ _ _ h)
      · rw [if_pos c4] at h
        refine v_aload_n C 4 dX8_evaluate_188 rfl rfl ?_
        refine v_bipush C 7 dX8_evaluate_189 (by decide) ?_
        refine v_iload C 2 dX8_evaluate_191 rfl ?_
        refine v_iload C 1 dX8_evaluate_193 rfl ?_
        obtain ⟨q6, hq6, h⟩ := bd_of h
        refine c_call C [.int 7, .int q3.1, .int q4.1] [] (c_Values_make hA _ _ _ _ hq6) hY_Values_make rfl (by decide) (okS _ 38 (by decide) rfl) ml_8_32 ⟨(by omega : 0 + 1 ≤ 2 + (d + 1)), (by omega : 8 + (4 + 11) + 0 ≤ 46 + 40 * (d + 1))⟩ ⟨Nat.zero_le _, Nat.zero_le _⟩ rfl rfl (Nat.le_of_ble_eq_true rfl) dX8_evaluate_195 (wc_D hA cy _) ?_
        refine v_goto C 212 dX8_evaluate_198 (by decide) ?_
        exact v_sub [4, 0] rfl ((b_Values_evaluate_212 C hA hr_evaluate hr_apply) _ _ _ h)
    rw [if_neg c3] at h
    by_cases c5 : q1.1 = 46
    · rw [if_pos c5] at h
      refine v_lookup C 148 dX8_evaluate_25 (by decide) (by rw [c5]; try rfl) (by decide) ?_
      refine v_aload_n C 1 dX8_evaluate_148 rfl rfl ?_
      refine v_iload_n C 2 dX8_evaluate_149 rfl rfl ?_
      refine v_iconst C 1 dX8_evaluate_150 (by decide) ?_
      refine v_iadd C dX8_evaluate_151 ?_
      refine v_iload_n C 3 dX8_evaluate_152 rfl rfl ?_
      refine v_iload_n C 4 dX8_evaluate_153 rfl rfl ?_
      refine v_iconst C 1 dX8_evaluate_154 (by decide) ?_
      refine v_isub C dX8_evaluate_155 ?_
      obtain ⟨q7, hq7, h⟩ := bd_of h
      refine c_call C [.int (x1 + 1), .int x2, .int (x3 - 1)] [] (hr_evaluate _ _ _ _ _ hq7) hY_Values_evaluate rfl (by decide) (okS _ 38 (by decide) rfl) ml_8_66 ⟨(by omega : (2 + d) + 1 ≤ 2 + (d + 1)), (by omega : 8 + (9 + 11) + (46 + 40 * d) ≤ 46 + 40 * (d + 1))⟩ ⟨Nat.zero_le _, Nat.zero_le _⟩ rfl rfl (Nat.le_of_ble_eq_true rfl) dX8_evaluate_156 (wc_D hA cy _) ?_
      refine v_istore C [(5, .int q7.1), (4, .int q1.1), (0, .ref (ad 38)), (1, .int x1), (2, .int x2), (3, .int x3)] dX8_evaluate_159 (by decide) rfl ?_
      refine v_aload_n C 2 dX8_evaluate_161 rfl rfl ?_
      refine v_aload_n C 2 dX8_evaluate_162 rfl rfl ?_
      refine c_getI C fl_8_64 rfl (okS _ 38 (by decide) rfl) dX8_evaluate_163 ?_
      refine v_iload_n C 4 dX8_evaluate_166 rfl rfl ?_
      refine v_iload_n C 5 dX8_evaluate_167 rfl rfl ?_
      refine v_iconst C 1 dX8_evaluate_168 (by decide) ?_
      refine v_isub C dX8_evaluate_169 ?_
      obtain ⟨q8, hq8, h⟩ := bd_of h
      refine c_call C [.int (q7.2.1 38 6), .int x2, .int (x3 - 1)] [] (hr_evaluate _ _ _ _ _ hq8) hY_Values_evaluate rfl (by decide) (okS _ 38 (by decide) rfl) ml_8_66 ⟨(by omega : (2 + d) + 1 ≤ 2 + (d + 1)), (by omega : 8 + (9 + 11) + (46 + 40 * d) ≤ 46 + 40 * (d + 1))⟩ ⟨Nat.zero_le _, Nat.zero_le _⟩ rfl rfl (Nat.le_of_ble_eq_true rfl) dX8_evaluate_170 (wc_D hA cy _) ?_
      refine v_istore C [(6, .int q8.1), (5, .int q7.1), (4, .int q1.1), (0, .ref (ad 38)), (1, .int x1), (2, .int x2), (3, .int x3)] dX8_evaluate_173 (by decide) rfl ?_
      refine v_aload_n C 3 dX8_evaluate_175 rfl rfl ?_
      refine c_getI C fl_8_64 rfl (okS _ 38 (by decide) rfl) dX8_evaluate_176 ?_
      refine v_istore C [(7, .int (q8.2.1 38 6)), (6, .int q8.1), (5, .int q7.1), (4, .int q1.1), (0, .ref (ad 38)), (1, .int x1), (2, .int x2), (3, .int x3)] dX8_evaluate_179 (by decide) rfl ?_
      refine v_iload C 3 dX8_evaluate_181 rfl ?_
      refine v_bipush C 44 dX8_evaluate_183 (by decide) ?_
      refine v_icmp_ne C 201 dX8_evaluate_185 (by decide) (fun c6 => ?_) (fun c6 => ?_)
      · rw [if_neg c6] at h
        refine v_aload_n C 4 dX8_evaluate_201 rfl rfl ?_
        refine v_iload C 2 dX8_evaluate_202 rfl ?_
        refine v_iload C 1 dX8_evaluate_204 rfl ?_
        refine v_iload_n C 7 dX8_evaluate_206 rfl rfl ?_
        refine v_iconst C 1 dX8_evaluate_207 (by decide) ?_
        refine v_isub C dX8_evaluate_208 ?_
        obtain ⟨q9, hq9, h⟩ := bd_of h
        refine c_call C [.int q7.1, .int q8.1, .int (x3 - 1)] [] (hr_apply _ _ _ _ _ hq9) hY_Values_apply rfl (by decide) (okS _ 38 (by decide) rfl) ml_8_75 ⟨(by omega : (2 + d) + 1 ≤ 2 + (d + 1)), (by omega : 8 + (4 + 11) + (46 + 40 * d) ≤ 46 + 40 * (d + 1))⟩ ⟨Nat.zero_le _, Nat.zero_le _⟩ rfl rfl (Nat.le_of_ble_eq_true rfl) dX8_evaluate_209 (wc_D hA cy _) ?_
        exact v_sub [4, 0] rfl ((b_Values_evaluate_212 C hA hr_evaluate hr_apply) _ _ _ h)
      · rw [if_pos c6] at h
        refine v_aload_n C 4 dX8_evaluate_188 rfl rfl ?_
        refine v_bipush C 7 dX8_evaluate_189 (by decide) ?_
        refine v_iload C 2 dX8_evaluate_191 rfl ?_
        refine v_iload C 1 dX8_evaluate_193 rfl ?_
        obtain ⟨q10, hq10, h⟩ := bd_of h
        refine c_call C [.int 7, .int q7.1, .int q8.1] [] (c_Values_make hA _ _ _ _ hq10) hY_Values_make rfl (by decide) (okS _ 38 (by decide) rfl) ml_8_32 ⟨(by omega : 0 + 1 ≤ 2 + (d + 1)), (by omega : 8 + (4 + 11) + 0 ≤ 46 + 40 * (d + 1))⟩ ⟨Nat.zero_le _, Nat.zero_le _⟩ rfl rfl (Nat.le_of_ble_eq_true rfl) dX8_evaluate_195 (wc_D hA cy _) ?_
        refine v_goto C 212 dX8_evaluate_198 (by decide) ?_
        exact v_sub [4, 0] rfl ((b_Values_evaluate_212 C hA hr_evaluate hr_apply) _ _ _ h)
    rw [if_neg c5] at h
    by_cases c7 : q1.1 = 60
    · rw [if_pos c7] at h
      refine v_lookup C 116 dX8_evaluate_25 (by decide) (by rw [c7]; try rfl) (by decide) ?_
      refine v_aload_n C 1 dX8_evaluate_116 rfl rfl ?_
      refine v_aload_n C 1 dX8_evaluate_117 rfl rfl ?_
      refine v_iload_n C 2 dX8_evaluate_118 rfl rfl ?_
      refine v_iconst C 1 dX8_evaluate_119 (by decide) ?_
      refine v_iadd C dX8_evaluate_120 ?_
      refine v_iload_n C 3 dX8_evaluate_121 rfl rfl ?_
      refine v_iload_n C 4 dX8_evaluate_122 rfl rfl ?_
      refine v_iconst C 1 dX8_evaluate_123 (by decide) ?_
      refine v_isub C dX8_evaluate_124 ?_
      obtain ⟨q11, hq11, h⟩ := bd_of h
      refine c_call C [.int (x1 + 1), .int x2, .int (x3 - 1)] [.ref (ad 38)] (hr_evaluate _ _ _ _ _ hq11) hY_Values_evaluate rfl (by decide) (okS _ 38 (by decide) rfl) ml_8_66 ⟨(by omega : (2 + d) + 1 ≤ 2 + (d + 1)), (by omega : 8 + (9 + 11) + (46 + 40 * d) ≤ 46 + 40 * (d + 1))⟩ ⟨Nat.zero_le _, Nat.zero_le _⟩ rfl rfl (Nat.le_of_ble_eq_true rfl) dX8_evaluate_125 (wc_D hA cy _) ?_
      obtain ⟨q12, hq12, h⟩ := bd_of h
      refine c_call C [.int q11.1] [] (c_Values_firstOf hA _ _ hq12) hY_Values_firstOf rfl (by decide) (okS _ 38 (by decide) rfl) ml_8_69 ⟨(by omega : 1 + 1 ≤ 2 + (d + 1)), (by omega : 8 + (2 + 11) + 23 ≤ 46 + 40 * (d + 1))⟩ ⟨Nat.zero_le _, Nat.zero_le _⟩ rfl rfl (Nat.le_of_ble_eq_true rfl) dX8_evaluate_128 (wc_D hA cy _) ?_
      obtain rfl := Option.some.inj h
      exact v_iret C dX8_evaluate_131
    rw [if_neg c7] at h
    by_cases c8 : q1.1 = 62
    · rw [if_pos c8] at h
      refine v_lookup C 132 dX8_evaluate_25 (by decide) (by rw [c8]; try rfl) (by decide) ?_
      refine v_aload_n C 1 dX8_evaluate_132 rfl rfl ?_
      refine v_aload_n C 1 dX8_evaluate_133 rfl rfl ?_
      refine v_iload_n C 2 dX8_evaluate_134 rfl rfl ?_
      refine v_iconst C 1 dX8_evaluate_135 (by decide) ?_
      refine v_iadd C dX8_evaluate_136 ?_
      refine v_iload_n C 3 dX8_evaluate_137 rfl rfl ?_
      refine v_iload_n C 4 dX8_evaluate_138 rfl rfl ?_
      refine v_iconst C 1 dX8_evaluate_139 (by decide) ?_
      refine v_isub C dX8_evaluate_140 ?_
      obtain ⟨q13, hq13, h⟩ := bd_of h
      refine c_call C [.int (x1 + 1), .int x2, .int (x3 - 1)] [.ref (ad 38)] (hr_evaluate _ _ _ _ _ hq13) hY_Values_evaluate rfl (by decide) (okS _ 38 (by decide) rfl) ml_8_66 ⟨(by omega : (2 + d) + 1 ≤ 2 + (d + 1)), (by omega : 8 + (9 + 11) + (46 + 40 * d) ≤ 46 + 40 * (d + 1))⟩ ⟨Nat.zero_le _, Nat.zero_le _⟩ rfl rfl (Nat.le_of_ble_eq_true rfl) dX8_evaluate_141 (wc_D hA cy _) ?_
      obtain ⟨q14, hq14, h⟩ := bd_of h
      refine c_call C [.int q13.1] [] (c_Values_secondOf hA _ _ hq14) hY_Values_secondOf rfl (by decide) (okS _ 38 (by decide) rfl) ml_8_72 ⟨(by omega : 1 + 1 ≤ 2 + (d + 1)), (by omega : 8 + (2 + 11) + 23 ≤ 46 + 40 * (d + 1))⟩ ⟨Nat.zero_le _, Nat.zero_le _⟩ rfl rfl (Nat.le_of_ble_eq_true rfl) dX8_evaluate_144 (wc_D hA cy _) ?_
      obtain rfl := Option.some.inj h
      exact v_iret C dX8_evaluate_147
    rw [if_neg c8] at h
    by_cases c9 : q1.1 = 92
    · rw [if_pos c9] at h
      refine v_lookup C 93 dX8_evaluate_25 (by decide) (by rw [c9]; try rfl) (by decide) ?_
      refine v_aload_n C 1 dX8_evaluate_93 rfl rfl ?_
      refine v_aload_n C 1 dX8_evaluate_94 rfl rfl ?_
      refine c_getS C 34 fl_8_28 rfl rfl (by decide) (okS _ 38 (by decide) rfl) dX8_evaluate_95 ?_
      refine v_iload_n C 2 dX8_evaluate_98 rfl rfl ?_
      obtain ⟨q15, hq15, h⟩ := bd_of h
      refine c_call C [.int x1] [.ref (ad 38)] (c_Signs_behind hA _ _ hq15) hY_Signs_behind rfl (by decide) (okS _ 34 (by decide) rfl) ml_8_55 ⟨(by omega : 1 + 1 ≤ 2 + (d + 1)), (by omega : 8 + (4 + 11) + 22 ≤ 46 + 40 * (d + 1))⟩ ⟨Nat.zero_le _, Nat.zero_le _⟩ rfl rfl (Nat.le_of_ble_eq_true rfl) dX8_evaluate_99 (wc_D hA cy _) ?_
      refine c_putI C fl_8_64 fw_8_6 rfl (by decide) (okS _ 38 (by decide) rfl) dX8_evaluate_102 ?_
      refine v_aload_n C 1 dX8_evaluate_105 rfl rfl ?_
      refine v_bipush C 8 dX8_evaluate_106 (by decide) ?_
      refine v_iload_n C 2 dX8_evaluate_108 rfl rfl ?_
      refine v_iconst C 1 dX8_evaluate_109 (by decide) ?_
      refine v_iadd C dX8_evaluate_110 ?_
      refine v_iload_n C 3 dX8_evaluate_111 rfl rfl ?_
      obtain ⟨q16, hq16, h⟩ := bd_of h
      refine c_call C [.int 8, .int (x1 + 1), .int x2] [] (c_Values_make hA _ _ _ _ hq16) hY_Values_make rfl (by decide) (okS _ 38 (by decide) rfl) ml_8_32 ⟨(by omega : 0 + 1 ≤ 2 + (d + 1)), (by omega : 8 + (4 + 11) + 0 ≤ 46 + 40 * (d + 1))⟩ ⟨Nat.zero_le _, Nat.zero_le _⟩ rfl rfl (Nat.le_of_ble_eq_true rfl) dX8_evaluate_112 (wc_D hA cy _) ?_
      obtain rfl := Option.some.inj h
      exact v_iret C dX8_evaluate_115
    rw [if_neg c9] at h
    refine v_lookup C 223 dX8_evaluate_25 (by decide) (show Op.lookupswitch.offset [(42, 59), (44, 123), (46, 123), (60, 91), (62, 107), (92, 68)] 198 (q1.1 : Int32).toInt = 198 from by rw [lv_osw (a := 42) c2 (by decide), lv_osw (a := 44) c3 (by decide), lv_osw (a := 46) c5 (by decide), lv_osw (a := 60) c7 (by decide), lv_osw (a := 62) c8 (by decide), lv_osw (a := 92) c9 (by decide)]; try rfl) (by decide) ?_
    refine v_aload_n C 1 dX8_evaluate_223 rfl rfl ?_
    refine c_getS C 34 fl_8_28 rfl rfl (by decide) (okS _ 38 (by decide) rfl) dX8_evaluate_224 ?_
    refine v_iload C 0 dX8_evaluate_227 rfl ?_
    obtain ⟨q17, hq17, h⟩ := bd_of h
    refine c_call C [.int q1.1] [] (c_Signs_isConstant hA _ _ hq17) hY_Signs_isConstant rfl (by decide) (okS _ 34 (by decide) rfl) ml_8_78 ⟨(by omega : 0 + 1 ≤ 2 + (d + 1)), (by omega : 8 + (2 + 11) + 0 ≤ 46 + 40 * (d + 1))⟩ ⟨Nat.zero_le _, Nat.zero_le _⟩ rfl rfl (Nat.le_of_ble_eq_true rfl) dX8_evaluate_229 (wc_D hA cy _) ?_
    refine v_if_eq C 244 dX8_evaluate_232 (by decide) (fun c10 => ?_) (fun c10 => ?_)
    · rw [if_pos c10] at h
      refine v_aload_n C 1 dX8_evaluate_244 rfl rfl ?_
      refine v_iload_n C 3 dX8_evaluate_245 rfl rfl ?_
      refine v_iload C 0 dX8_evaluate_246 rfl ?_
      refine v_bipush C 48 dX8_evaluate_248 (by decide) ?_
      refine v_isub C dX8_evaluate_250 ?_
      obtain ⟨q18, hq18, h⟩ := bd_of h
      refine c_call C [.int x2, .int (q1.1 - 48)] [] (c_Values_variableIn hA _ _ _ hq18) hY_Values_variableIn rfl (by decide) (okS _ 38 (by decide) rfl) ml_8_85 ⟨(by omega : 1 + 1 ≤ 2 + (d + 1)), (by omega : 8 + (6 + 11) + 21 ≤ 46 + 40 * (d + 1))⟩ ⟨Nat.zero_le _, Nat.zero_le _⟩ rfl rfl (Nat.le_of_ble_eq_true rfl) dX8_evaluate_251 (wc_D hA cy _) ?_
      exact v_sub [1] rfl ((b_Values_evaluate_254 C hA hr_evaluate hr_apply) _ _ h)
    · rw [if_neg c10] at h
      refine v_aload_n C 1 dX8_evaluate_235 rfl rfl ?_
      refine v_iload C 0 dX8_evaluate_236 rfl ?_
      obtain ⟨q19, hq19, h⟩ := bd_of h
      refine c_call C [.int q1.1] [] (c_Values_constantOf hA _ _ hq19) hY_Values_constantOf rfl (by decide) (okS _ 38 (by decide) rfl) ml_8_82 ⟨(by omega : 1 + 1 ≤ 2 + (d + 1)), (by omega : 8 + (2 + 11) + 23 ≤ 46 + 40 * (d + 1))⟩ ⟨Nat.zero_le _, Nat.zero_le _⟩ rfl rfl (Nat.le_of_ble_eq_true rfl) dX8_evaluate_238 (wc_D hA cy _) ?_
      refine v_goto C 254 dX8_evaluate_241 (by decide) ?_
      exact v_sub [1] rfl ((b_Values_evaluate_254 C hA hr_evaluate hr_apply) _ _ h)
  · rw [if_neg c1] at h
    refine v_iconst C 0 dX8_evaluate_21 (by decide) ?_
    obtain rfl := Option.some.inj h
    exact v_iret C dX8_evaluate_22
set_option maxHeartbeats 4000000 in
set_option maxRecDepth 20000 in
theorem w_Values_apply {l : Launch} {D : va_G} {cy : Nat → ClassId} {ad : Nat → Nat} {q : Int32 × CS} {r_evaluate : Int32 → Int32 → Int32 → CS → Option (Int32 × CS)} {r_apply : Int32 → Int32 → Int32 → CS → Option (Int32 × CS)} {d : Nat} (hA : adOK ad) (hr_evaluate : ∀ (z1 : Int32) (z2 : Int32) (z3 : Int32) (σ : CS) (q : Int32 × CS), r_evaluate z1 z2 z3 σ = some q → MV l D (cyT cy) (inC ad) yX8_evaluate cX8_evaluate 9 (some .int) (2 + d) (46 + 40 * d) 0 0 [.ref (ad 38), .int z1, .int z2, .int z3] (wc cy ad σ) (some (.int q.1)) (wc cy ad q.2)) (hr_apply : ∀ (z1 : Int32) (z2 : Int32) (z3 : Int32) (σ : CS) (q : Int32 × CS), r_apply z1 z2 z3 σ = some q → MV l D (cyT cy) (inC ad) yX8_apply cX8_apply 4 (some .int) (2 + d) (46 + 40 * d) 0 0 [.ref (ad 38), .int z1, .int z2, .int z3] (wc cy ad σ) (some (.int q.1)) (wc cy ad q.2)) (x1 : Int32) (x2 : Int32) (x3 : Int32) (σ : CS) (h : F_Values_apply r_evaluate r_apply x1 x2 x3 σ = some q) : MV l D (cyT cy) (inC ad) yX8_apply cX8_apply 4 (some .int) (2 + (d + 1)) (46 + 40 * (d + 1)) 0 0 [.ref (ad 38), .int x1, .int x2, .int x3] (wc cy ad σ) (some (.int q.1)) (wc cy ad q.2) := by
  refine MV.of (by decide) (wc_D hA cy σ) (Nat.le_of_ble_eq_true rfl) [(0, .ref (ad 38)), (1, .int x1), (2, .int x2), (3, .int x3)] rfl ?_
  intro p e s m args below meth c C
  rw [F_Values_apply] at h
  refine v_aload_n C 0 dX8_apply_0 rfl rfl ?_
  refine v_iload_n C 1 dX8_apply_1 rfl rfl ?_
  obtain ⟨q1, hq1, h⟩ := bd_of h
  refine c_call C [.int x1] [] (c_Values_kindOf hA _ _ hq1) hY_Values_kindOf rfl (by decide) (okS _ 38 (by decide) rfl) ml_8_36 ⟨(by omega : 0 + 1 ≤ 2 + (d + 1)), (by omega : 8 + (2 + 11) + 0 ≤ 46 + 40 * (d + 1))⟩ ⟨Nat.zero_le _, Nat.zero_le _⟩ rfl rfl (Nat.le_of_ble_eq_true rfl) dX8_apply_2 (wc_D hA cy _) ?_
  refine v_bipush C 8 dX8_apply_5 (by decide) ?_
  refine v_icmp_eq C 18 dX8_apply_7 (by decide) (fun c1 => ?_) (fun c1 => ?_)
  · rw [if_pos c1] at h
    refine v_aload_n C 0 dX8_apply_18 rfl rfl ?_
    refine v_aload_n C 0 dX8_apply_19 rfl rfl ?_
    refine v_iload_n C 1 dX8_apply_20 rfl rfl ?_
    obtain ⟨q2, hq2, h⟩ := bd_of h
    refine c_call C [.int x1] [.ref (ad 38)] (c_Values_leftOf hA _ _ hq2) hY_Values_leftOf rfl (by decide) (okS _ 38 (by decide) rfl) ml_8_40 ⟨(by omega : 0 + 1 ≤ 2 + (d + 1)), (by omega : 8 + (2 + 11) + 0 ≤ 46 + 40 * (d + 1))⟩ ⟨Nat.zero_le _, Nat.zero_le _⟩ rfl rfl (Nat.le_of_ble_eq_true rfl) dX8_apply_21 (wc_D hA cy _) ?_
    refine v_aload_n C 0 dX8_apply_24 rfl rfl ?_
    refine v_aload_n C 0 dX8_apply_25 rfl rfl ?_
    refine v_iload_n C 1 dX8_apply_26 rfl rfl ?_
    obtain ⟨q3, hq3, h⟩ := bd_of h
    refine c_call C [.int x1] [.ref (ad 38), .int q2.1, .ref (ad 38)] (c_Values_rightOf hA _ _ hq3) hY_Values_rightOf rfl (by decide) (okS _ 38 (by decide) rfl) ml_8_48 ⟨(by omega : 0 + 1 ≤ 2 + (d + 1)), (by omega : 8 + (2 + 11) + 0 ≤ 46 + 40 * (d + 1))⟩ ⟨Nat.zero_le _, Nat.zero_le _⟩ rfl rfl (Nat.le_of_ble_eq_true rfl) dX8_apply_27 (wc_D hA cy _) ?_
    refine v_iload_n C 2 dX8_apply_30 rfl rfl ?_
    obtain ⟨q4, hq4, h⟩ := bd_of h
    refine c_call C [.int q3.1, .int x2] [.int q2.1, .ref (ad 38)] (c_Values_extended hA _ _ _ hq4) hY_Values_extended rfl (by decide) (okS _ 38 (by decide) rfl) ml_8_58 ⟨(by omega : 1 + 1 ≤ 2 + (d + 1)), (by omega : 8 + (3 + 11) + 23 ≤ 46 + 40 * (d + 1))⟩ ⟨Nat.zero_le _, Nat.zero_le _⟩ rfl rfl (Nat.le_of_ble_eq_true rfl) dX8_apply_31 (wc_D hA cy _) ?_
    refine v_iload_n C 3 dX8_apply_34 rfl rfl ?_
    obtain ⟨q5, hq5, h⟩ := bd_of h
    refine c_call C [.int q2.1, .int q4.1, .int x3] [] (hr_evaluate _ _ _ _ _ hq5) hY_Values_evaluate rfl (by decide) (okS _ 38 (by decide) rfl) ml_8_66 ⟨(by omega : (2 + d) + 1 ≤ 2 + (d + 1)), (by omega : 8 + (9 + 11) + (46 + 40 * d) ≤ 46 + 40 * (d + 1))⟩ ⟨Nat.zero_le _, Nat.zero_le _⟩ rfl rfl (Nat.le_of_ble_eq_true rfl) dX8_apply_35 (wc_D hA cy _) ?_
    obtain rfl := Option.some.inj h
    exact v_iret C dX8_apply_38
  · rw [if_neg c1] at h
    refine v_aload_n C 0 dX8_apply_10 rfl rfl ?_
    refine v_iconst C 3 dX8_apply_11 (by decide) ?_
    refine v_iload_n C 1 dX8_apply_12 rfl rfl ?_
    refine v_iload_n C 2 dX8_apply_13 rfl rfl ?_
    obtain ⟨q6, hq6, h⟩ := bd_of h
    refine c_call C [.int 3, .int x1, .int x2] [] (c_Values_make hA _ _ _ _ hq6) hY_Values_make rfl (by decide) (okS _ 38 (by decide) rfl) ml_8_32 ⟨(by omega : 0 + 1 ≤ 2 + (d + 1)), (by omega : 8 + (4 + 11) + 0 ≤ 46 + 40 * (d + 1))⟩ ⟨Nat.zero_le _, Nat.zero_le _⟩ rfl rfl (Nat.le_of_ble_eq_true rfl) dX8_apply_14 (wc_D hA cy _) ?_
    obtain rfl := Option.some.inj h
    exact v_iret C dX8_apply_17
set_option maxHeartbeats 4000000 in
set_option maxRecDepth 20000 in
theorem g_Values {l : Launch} {D : va_G} {cy : Nat → ClassId} {ad : Nat → Nat} (hA : adOK ad) : ∀ d : Nat, (∀ (z1 : Int32) (z2 : Int32) (z3 : Int32) (σ : CS) (q : Int32 × CS), f_Values_evaluate d z1 z2 z3 σ = some q → MV l D (cyT cy) (inC ad) yX8_evaluate cX8_evaluate 9 (some .int) (2 + d) (46 + 40 * d) 0 0 [.ref (ad 38), .int z1, .int z2, .int z3] (wc cy ad σ) (some (.int q.1)) (wc cy ad q.2)) ∧ (∀ (z1 : Int32) (z2 : Int32) (z3 : Int32) (σ : CS) (q : Int32 × CS), f_Values_apply d z1 z2 z3 σ = some q → MV l D (cyT cy) (inC ad) yX8_apply cX8_apply 4 (some .int) (2 + d) (46 + 40 * d) 0 0 [.ref (ad 38), .int z1, .int z2, .int z3] (wc cy ad σ) (some (.int q.1)) (wc cy ad q.2)) := by
  intro d
  induction d with
  | zero => exact ⟨(fun _ _ _ _ _ h => absurd (show (none : Option (Int32 × CS)) = some _ from h) (by simp)), (fun _ _ _ _ _ h => absurd (show (none : Option (Int32 × CS)) = some _ from h) (by simp))⟩
  | succ d ih =>
    obtain ⟨h0, h1⟩ := ih
    exact ⟨(fun _ _ _ _ _ h => w_Values_evaluate hA h0 h1 _ _ _ _ h), (fun _ _ _ _ _ h => w_Values_apply hA h0 h1 _ _ _ _ h)⟩
set_option maxHeartbeats 4000000 in
set_option maxRecDepth 20000 in
theorem c_Values_evaluate {l : Launch} {D : va_G} {cy : Nat → ClassId} {ad : Nat → Nat} {q : Int32 × CS} (hA : adOK ad) (z1 : Int32) (z2 : Int32) (z3 : Int32) (σ : CS) (h : f_Values_evaluate 220 z1 z2 z3 σ = some q) : MV l D (cyT cy) (inC ad) yX8_evaluate cX8_evaluate 9 (some .int) 222 8846 0 0 [.ref (ad 38), .int z1, .int z2, .int z3] (wc cy ad σ) (some (.int q.1)) (wc cy ad q.2) := (g_Values hA 220).1 _ _ _ _ _ h
set_option maxHeartbeats 4000000 in
set_option maxRecDepth 20000 in
theorem c_Values_apply {l : Launch} {D : va_G} {cy : Nat → ClassId} {ad : Nat → Nat} {q : Int32 × CS} (hA : adOK ad) (z1 : Int32) (z2 : Int32) (z3 : Int32) (σ : CS) (h : f_Values_apply 220 z1 z2 z3 σ = some q) : MV l D (cyT cy) (inC ad) yX8_apply cX8_apply 4 (some .int) 222 8846 0 0 [.ref (ad 38), .int z1, .int z2, .int z3] (wc cy ad σ) (some (.int q.1)) (wc cy ad q.2) := (g_Values hA 220).2 _ _ _ _ _ h
set_option maxHeartbeats 4000000 in
set_option maxRecDepth 20000 in
theorem c_Values_secondType {l : Launch} {D : va_G} {cy : Nat → ClassId} {ad : Nat → Nat} {q : Int32 × CS} (hA : adOK ad) (x1 : Int32) (x2 : Int32) (σ : CS) (h : f_Values_secondType x1 x2 σ = some q) : MV l D (cyT cy) (inC ad) yX8_secondType cX8_secondType 4 (some .int) (2) (45) 0 0 [.ref (ad 38), .int x1, .int x2] (wc cy ad σ) (some (.int q.1)) (wc cy ad q.2) := by
  refine MV.of (by decide) (wc_D hA cy σ) (Nat.le_of_ble_eq_true rfl) [(0, .ref (ad 38)), (1, .int x1), (2, .int x2)] rfl ?_
  intro p e s m args below meth c C
  rw [f_Values_secondType] at h
  refine v_aload_n C 0 dX8_secondType_0 rfl rfl ?_
  refine c_getS C 34 fl_8_28 rfl rfl (by decide) (okS _ 38 (by decide) rfl) dX8_secondType_1 ?_
  refine v_aload_n C 0 dX8_secondType_4 rfl rfl ?_
  refine v_iload_n C 1 dX8_secondType_5 rfl rfl ?_
  obtain ⟨q1, hq1, h⟩ := bd_of h
  refine c_call C [.int x1] [.ref (ad 34)] (c_Values_leftOf hA _ _ hq1) hY_Values_leftOf rfl (by decide) (okS _ 38 (by decide) rfl) ml_8_40 ⟨(by omega : 0 + 1 ≤ 2), (by omega : 8 + (2 + 11) + 0 ≤ 45)⟩ ⟨Nat.zero_le _, Nat.zero_le _⟩ rfl rfl (Nat.le_of_ble_eq_true rfl) dX8_secondType_6 (wc_D hA cy _) ?_
  refine v_iconst C 1 dX8_secondType_9 (by decide) ?_
  refine v_iadd C dX8_secondType_10 ?_
  obtain ⟨q2, hq2, h⟩ := bd_of h
  refine c_call C [.int (q1.1 + 1)] [] (c_Signs_behind hA _ _ hq2) hY_Signs_behind rfl (by decide) (okS _ 34 (by decide) rfl) ml_8_55 ⟨(by omega : 1 + 1 ≤ 2), (by omega : 8 + (4 + 11) + 22 ≤ 45)⟩ ⟨Nat.zero_le _, Nat.zero_le _⟩ rfl rfl (Nat.le_of_ble_eq_true rfl) dX8_secondType_11 (wc_D hA cy _) ?_
  refine v_istore_n C [(3, .int q2.1), (0, .ref (ad 38)), (1, .int x1), (2, .int x2)] dX8_secondType_14 rfl (by decide) rfl ?_
  refine v_aload_n C 1 dX8_secondType_15 rfl rfl ?_
  refine v_iload_n C 0 dX8_secondType_16 rfl rfl ?_
  refine v_aload_n C 1 dX8_secondType_17 rfl rfl ?_
  refine v_aload_n C 1 dX8_secondType_18 rfl rfl ?_
  refine v_iload_n C 2 dX8_secondType_19 rfl rfl ?_
  obtain ⟨q3, hq3, h⟩ := bd_of h
  refine c_call C [.int x1] [.ref (ad 38), .int q2.1, .ref (ad 38)] (c_Values_rightOf hA _ _ hq3) hY_Values_rightOf rfl (by decide) (okS _ 38 (by decide) rfl) ml_8_48 ⟨(by omega : 0 + 1 ≤ 2), (by omega : 8 + (2 + 11) + 0 ≤ 45)⟩ ⟨Nat.zero_le _, Nat.zero_le _⟩ rfl rfl (Nat.le_of_ble_eq_true rfl) dX8_secondType_20 (wc_D hA cy _) ?_
  refine v_iload_n C 3 dX8_secondType_23 rfl rfl ?_
  obtain ⟨q4, hq4, h⟩ := bd_of h
  refine c_call C [.int q3.1, .int x2] [.int q2.1, .ref (ad 38)] (c_Values_extended hA _ _ _ hq4) hY_Values_extended rfl (by decide) (okS _ 38 (by decide) rfl) ml_8_58 ⟨(by omega : 1 + 1 ≤ 2), (by omega : 8 + (3 + 11) + 23 ≤ 45)⟩ ⟨Nat.zero_le _, Nat.zero_le _⟩ rfl rfl (Nat.le_of_ble_eq_true rfl) dX8_secondType_24 (wc_D hA cy _) ?_
  obtain ⟨q5, hq5, h⟩ := bd_of h
  refine c_call C [.int q2.1, .int q4.1] [] (c_Values_typeAt hA _ _ _ hq5) hY_Values_typeAt rfl (by decide) (okS _ 38 (by decide) rfl) ml_8_51 ⟨(by omega : 1 + 1 ≤ 2), (by omega : 8 + (3 + 11) + 23 ≤ 45)⟩ ⟨Nat.zero_le _, Nat.zero_le _⟩ rfl rfl (Nat.le_of_ble_eq_true rfl) dX8_secondType_27 (wc_D hA cy _) ?_
  obtain rfl := Option.some.inj h
  exact v_iret C dX8_secondType_30
set_option maxHeartbeats 4000000 in
set_option maxRecDepth 20000 in
theorem b_Shelf_at_28 {p : Program} {l : Launch} {e : Env} {s : State} {m : MethodId} {args : Array Value} {below : List Frame} {meth : Method} {c : Code} {D : va_G} {cy : Nat → ClassId} {ad : Nat → Nat} {q : Option Nat × CS} {t : Nat}  (C : vC p s m args meth c cX5_at 2 (some (.object "JudgedTerms$Entry")) RX5 D (cyT cy)) (hA : adOK ad) : ∀ (s0 : Option Nat) (σ : CS), B_Shelf_at_28 t s0 σ = some q → V p l e { frames := 0, cells := 0, slots := 0, locals := 0 } s m args below meth c D (inC ad) 2 (MQ below (vQ D (inC ad) (some (va_rf (Option.map ad q.1))) (wc cy ad q.2)) args s 0 0 (inC ad)) 0 0 (wc cy ad σ) 28 [(0, .ref (ad t))] [va_rf (Option.map ad s0)] := by
  intro s0 σ h
  rw [B_Shelf_at_28] at h
  obtain rfl := Option.some.inj h
  exact c_aret C rfl (Or.inl ⟨_, rfl⟩) s0 dX5_at_28
set_option maxHeartbeats 4000000 in
set_option maxRecDepth 20000 in
theorem b_Shelf_at_27 {p : Program} {l : Launch} {e : Env} {s : State} {m : MethodId} {args : Array Value} {below : List Frame} {meth : Method} {c : Code} {D : va_G} {cy : Nat → ClassId} {ad : Nat → Nat} {q : Option Nat × CS} {t : Nat}  (C : vC p s m args meth c cX5_at 2 (some (.object "JudgedTerms$Entry")) RX5 D (cyT cy)) (hA : adOK ad) {k28 : (Option Nat) → CS → Option ((Option Nat) × CS)} (hk28 : ∀ (s0 : Option Nat) (σ : CS), k28 s0 σ = some q → V p l e { frames := 0, cells := 0, slots := 0, locals := 0 } s m args below meth c D (inC ad) 2 (MQ below (vQ D (inC ad) (some (va_rf (Option.map ad q.1))) (wc cy ad q.2)) args s 0 0 (inC ad)) 0 0 (wc cy ad σ) 28 [(0, .ref (ad t))] [va_rf (Option.map ad s0)]) : ∀ (σ : CS), B_Shelf_at_27 t k28 σ = some q → V p l e { frames := 0, cells := 0, slots := 0, locals := 0 } s m args below meth c D (inC ad) 2 (MQ below (vQ D (inC ad) (some (va_rf (Option.map ad q.1))) (wc cy ad q.2)) args s 0 0 (inC ad)) 0 0 (wc cy ad σ) 27 [(0, .ref (ad t))] [] := by
  intro σ h
  rw [B_Shelf_at_27] at h
  refine c_null C dX5_at_27 ?_
  exact v_sub [0] rfl (hk28 _ _ h)
set_option maxHeartbeats 4000000 in
set_option maxRecDepth 20000 in
theorem c_Shelf_at {l : Launch} {D : va_G} {cy : Nat → ClassId} {ad : Nat → Nat} {q : Option Nat × CS} (hA : adOK ad) (t : Nat) (x1 : Int32) (σ : CS) (h : f_Shelf_at t x1 σ = some q) : MV l D (cyT cy) (inC ad) yX5_at cX5_at 2 (some (.object "JudgedTerms$Entry")) (0) (0) 0 0 [.ref (ad t), .int x1] (wc cy ad σ) (some (va_rf (Option.map ad q.1))) (wc cy ad q.2) := by
  refine MV.of (by decide) (wc_D hA cy σ) (Nat.le_of_ble_eq_true rfl) [(0, .ref (ad t)), (1, .int x1)] rfl ?_
  intro p e s m args below meth c C
  rw [f_Shelf_at] at h
  refine v_iload_n C 1 dX5_at_0 rfl rfl ?_
  refine v_if_lt C 27 dX5_at_1 (by decide) (fun c1 => ?_) (fun c1 => ?_)
  · rw [if_pos c1] at h
    exact v_sub [0] rfl ((b_Shelf_at_27 C hA (b_Shelf_at_28 C hA)) _ h)
  · rw [if_neg c1] at h
    refine v_iload_n C 1 dX5_at_4 rfl rfl ?_
    refine v_aload_n C 0 dX5_at_5 rfl rfl ?_
    obtain ⟨g1, h⟩ := gd_of h
    refine c_getI C fl_5_17 rfl g1 dX5_at_6 ?_
    refine v_icmp_ge C 27 dX5_at_9 (by decide) (fun c2 => ?_) (fun c2 => ?_)
    · rw [if_pos c2] at h
      exact v_sub [0] rfl ((b_Shelf_at_27 C hA (b_Shelf_at_28 C hA)) _ h)
    · rw [if_neg c2] at h
      refine v_iload_n C 1 dX5_at_12 rfl rfl ?_
      refine v_bipush C 6 dX5_at_13 (by decide) ?_
      refine v_icmp_ge C 27 dX5_at_15 (by decide) (fun c3 => ?_) (fun c3 => ?_)
      · rw [if_pos c3] at h
        exact v_sub [0] rfl ((b_Shelf_at_27 C hA (b_Shelf_at_28 C hA)) _ h)
      · rw [if_neg c3] at h
        refine v_aload_n C 0 dX5_at_18 rfl rfl ?_
        obtain ⟨g2, h⟩ := gd_of h
        refine c_getR C fl_5_11 rfl g2 dX5_at_19 ?_
        refine v_iload_n C 1 dX5_at_22 rfl rfl ?_
        obtain ⟨a1, ha1, h⟩ := bd_of h
        rw [ha1]
        obtain ⟨g3, h⟩ := gd_of h
        obtain ⟨g4, h⟩ := gd_of h
        refine c_aald C g3 (by decide) rfl (ix_in g4) dX5_at_23 ?_
        refine v_goto C 28 dX5_at_24 (by decide) ?_
        exact v_sub [0] rfl ((b_Shelf_at_28 C hA) _ _ h)
set_option maxHeartbeats 4000000 in
set_option maxRecDepth 20000 in
theorem c_Reader_fail {l : Launch} {D : va_G} {cy : Nat → ClassId} {ad : Nat → Nat} {q : Int32 × CS} (hA : adOK ad) (x1 : Int32) (σ : CS) (h : f_Reader_fail x1 σ = some q) : MV l D (cyT cy) (inC ad) yX4_fail cX4_fail 2 (some .boolean) (0) (0) 0 0 [.ref (ad 43), .int x1] (wc cy ad σ) (some (.int q.1)) (wc cy ad q.2) := by
  refine MV.of (by decide) (wc_D hA cy σ) (Nat.le_of_ble_eq_true rfl) [(0, .ref (ad 43)), (1, .int x1)] rfl ?_
  intro p e s m args below meth c C
  rw [f_Reader_fail] at h
  refine v_aload_n C 0 dX4_fail_0 rfl rfl ?_
  refine v_iload_n C 1 dX4_fail_1 rfl rfl ?_
  refine c_putI C fl_4_44 fw_4_8 rfl (by decide) (okS _ 43 (by decide) rfl) dX4_fail_2 ?_
  refine v_iconst C 0 dX4_fail_5 (by decide) ?_
  obtain rfl := Option.some.inj h
  exact v_zret C (Or.inl rfl) dX4_fail_6
set_option maxHeartbeats 4000000 in
set_option maxRecDepth 20000 in
theorem c_Reader_hasRead {l : Launch} {D : va_G} {cy : Nat → ClassId} {ad : Nat → Nat} {q : Int32 × CS} (hA : adOK ad) (x1 : Int32) (x2 : Int32) (σ : CS) (h : f_Reader_hasRead x1 x2 σ = some q) : MV l D (cyT cy) (inC ad) yX4_hasRead cX4_hasRead 3 (some .boolean) (0) (0) 0 0 [.ref (ad 43), .int x1, .int x2] (wc cy ad σ) (some (.int q.1)) (wc cy ad q.2) := by
  refine MV.of (by decide) (wc_D hA cy σ) (Nat.le_of_ble_eq_true rfl) [(0, .ref (ad 43)), (1, .int x1), (2, .int x2)] rfl ?_
  intro p e s m args below meth c C
  rw [f_Reader_hasRead] at h
  refine v_aload_n C 0 dX4_hasRead_0 rfl rfl ?_
  refine v_iload_n C 1 dX4_hasRead_1 rfl rfl ?_
  refine c_putI C fl_4_207 fw_4_10 rfl (by decide) (okS _ 43 (by decide) rfl) dX4_hasRead_2 ?_
  refine v_aload_n C 0 dX4_hasRead_5 rfl rfl ?_
  refine v_iload_n C 2 dX4_hasRead_6 rfl rfl ?_
  refine c_putI C fl_4_210 fw_4_11 rfl (by decide) (okS _ 43 (by decide) rfl) dX4_hasRead_7 ?_
  refine v_iconst C 1 dX4_hasRead_10 (by decide) ?_
  obtain rfl := Option.some.inj h
  exact v_zret C (Or.inr rfl) dX4_hasRead_11
set_option maxHeartbeats 4000000 in
set_option maxRecDepth 20000 in
theorem c_Reader_readEntry {l : Launch} {D : va_G} {cy : Nat → ClassId} {ad : Nat → Nat} {q : Int32 × CS} (hA : adOK ad) (σ : CS) (h : f_Reader_readEntry σ = some q) : MV l D (cyT cy) (inC ad) yX4_readEntry cX4_readEntry 5 (some .boolean) (223) (8874) 0 0 [.ref (ad 43)] (wc cy ad σ) (some (.int q.1)) (wc cy ad q.2) := by
  refine MV.of (by decide) (wc_D hA cy σ) (Nat.le_of_ble_eq_true rfl) [(0, .ref (ad 43))] rfl ?_
  intro p e s m args below meth c C
  rw [f_Reader_readEntry] at h
  refine v_aload_n C 0 dX4_readEntry_0 rfl rfl ?_
  refine v_dup C dX4_readEntry_1 rfl ?_
  refine c_getI C fl_4_41 rfl (okS _ 43 (by decide) rfl) dX4_readEntry_2 ?_
  refine v_iconst C 1 dX4_readEntry_5 (by decide) ?_
  refine v_iadd C dX4_readEntry_6 ?_
  refine c_putI C fl_4_41 fw_4_7 rfl (by decide) (okS _ 43 (by decide) rfl) dX4_readEntry_7 ?_
  refine v_aload_n C 0 dX4_readEntry_10 rfl rfl ?_
  refine c_getR C fl_4_21 rfl (okS _ 43 (by decide) rfl) dX4_readEntry_11 ?_
  refine v_aload_n C 0 dX4_readEntry_14 rfl rfl ?_
  obtain ⟨q1, hq1, h⟩ := bd_of h
  refine c_call C [] [va_rf (Option.map ad (rfv (sI σ 43 7 ((σ.1 43 7) + 1)) 43 6))] (c_Reader_peek hA _ hq1) hY_Reader_peek rfl (by decide) (okS _ 43 (by decide) rfl) ml_4_99 ⟨(by omega : 0 + 1 ≤ 223), (by omega : 8 + (1 + 11) + 0 ≤ 8874)⟩ ⟨Nat.zero_le _, Nat.zero_le _⟩ rfl rfl (by simp only [List.map, cat_rf]; exact Nat.le_of_ble_eq_true rfl) dX4_readEntry_15 (wc_D hA cy _) ?_
  refine v_bipush C 48 dX4_readEntry_18 (by decide) ?_
  refine v_isub C dX4_readEntry_20 ?_
  obtain ⟨a1, ha1, h⟩ := bd_of h
  rw [ha1]
  obtain ⟨g1, h⟩ := gd_of h
  obtain ⟨q2, hq2, h⟩ := bd_of h
  refine c_call C [.int (q1.1 - 48)] [] (c_Shelf_at hA _ _ _ hq2) hY_Shelf_at rfl (by decide) g1 ml_4_235 ⟨(by omega : 0 + 1 ≤ 223), (by omega : 8 + (2 + 11) + 0 ≤ 8874)⟩ ⟨Nat.zero_le _, Nat.zero_le _⟩ rfl rfl (Nat.le_of_ble_eq_true rfl) dX4_readEntry_21 (wc_D hA cy _) ?_
  refine c_astore_n C q2.1 [(1, va_rf (Option.map ad q2.1)), (0, .ref (ad 43))] dX4_readEntry_24 rfl (by decide) rfl ?_
  refine c_aload_n C q2.1 0 dX4_readEntry_25 rfl rfl ?_
  refine c_ifnonnull C 38 dX4_readEntry_26 (by decide) (fun a2 c1 => ?_) (fun c1 => ?_)
  · try rw [c1]
    replace h := el_s c1 h
    refine v_aload_n C 1 dX4_readEntry_38 rfl rfl ?_
    refine v_dup C dX4_readEntry_39 rfl ?_
    refine c_getI C fl_4_41 rfl (okS _ 43 (by decide) rfl) dX4_readEntry_40 ?_
    refine v_iconst C 1 dX4_readEntry_43 (by decide) ?_
    refine v_iadd C dX4_readEntry_44 ?_
    refine c_putI C fl_4_41 fw_4_7 rfl (by decide) (okS _ 43 (by decide) rfl) dX4_readEntry_45 ?_
    refine v_aload_n C 1 dX4_readEntry_48 rfl rfl ?_
    refine c_getS C 34 fl_4_25 rfl rfl (by decide) (okS _ 43 (by decide) rfl) dX4_readEntry_49 ?_
    refine v_aload_n C 0 dX4_readEntry_52 rfl rfl ?_
    obtain ⟨g3, h⟩ := gd_of h
    refine c_getRN C fl_4_239 rfl g3 dX4_readEntry_53 ?_
    obtain ⟨q4, hq4, h⟩ := bd_of h
    refine c_call C [va_rf (Option.map ad (rfv (sI q2.2 43 7 ((q2.2.1 43 7) + 1)) a2 0))] [] (c_Signs_copyOf hA _ _ hq4) hY_Signs_copyOf rfl (by decide) (okS _ 34 (by decide) rfl) ml_4_243 ⟨(by omega : 1 + 1 ≤ 223), (by omega : 8 + (4 + 11) + 21 ≤ 8874)⟩ ⟨Nat.zero_le _, Nat.zero_le _⟩ rfl rfl (Nat.le_of_ble_eq_true rfl) dX4_readEntry_56 (wc_D hA cy _) ?_
    refine v_istore_n C [(2, .int q4.1), (1, .ref (ad a2)), (0, .ref (ad 43))] dX4_readEntry_59 rfl (by decide) rfl ?_
    refine v_aload_n C 2 dX4_readEntry_60 rfl rfl ?_
    refine c_getS C 34 fl_4_25 rfl rfl (by decide) (okS _ 43 (by decide) rfl) dX4_readEntry_61 ?_
    refine v_aload_n C 1 dX4_readEntry_64 rfl rfl ?_
    obtain ⟨g4, h⟩ := gd_of h
    refine c_getRN C fl_4_247 rfl g4 dX4_readEntry_65 ?_
    obtain ⟨q5, hq5, h⟩ := bd_of h
    refine c_call C [va_rf (Option.map ad (rfv q4.2 a2 1))] [] (c_Signs_copyOf hA _ _ hq5) hY_Signs_copyOf rfl (by decide) (okS _ 34 (by decide) rfl) ml_4_243 ⟨(by omega : 1 + 1 ≤ 223), (by omega : 8 + (4 + 11) + 21 ≤ 8874)⟩ ⟨Nat.zero_le _, Nat.zero_le _⟩ rfl rfl (Nat.le_of_ble_eq_true rfl) dX4_readEntry_68 (wc_D hA cy _) ?_
    refine v_istore_n C [(3, .int q5.1), (2, .int q4.1), (1, .ref (ad a2)), (0, .ref (ad 43))] dX4_readEntry_71 rfl (by decide) rfl ?_
    refine v_aload_n C 3 dX4_readEntry_72 rfl rfl ?_
    refine c_getS C 38 fl_4_29 rfl rfl (by decide) (okS _ 43 (by decide) rfl) dX4_readEntry_73 ?_
    refine v_iload_n C 0 dX4_readEntry_76 rfl rfl ?_
    refine v_iconst C 0 dX4_readEntry_77 (by decide) ?_
    refine v_bipush C 104 dX4_readEntry_78 (by decide) ?_
    obtain ⟨q6, hq6, h⟩ := bd_of h
    refine c_callN C [.int q5.1, .int 0, .int 104] [] (c_Values_evaluate hA _ _ _ _ hq6) hY_Values_evaluate rfl (by decide) (okS _ 38 (by decide) rfl) ml_4_186 ⟨(by omega : 222 + 1 ≤ 223), (by omega : 8 + (9 + 11) + 8846 ≤ 8874)⟩ ⟨Nat.zero_le _, Nat.zero_le _⟩ rfl rfl (Nat.le_of_ble_eq_true rfl) dX4_readEntry_80 (wc_D hA cy _) ?_
    refine v_istore C [(4, .int q6.1), (3, .int q5.1), (2, .int q4.1), (1, .ref (ad a2)), (0, .ref (ad 43))] dX4_readEntry_83 (by decide) rfl ?_
    refine v_aload_n C 4 dX4_readEntry_85 rfl rfl ?_
    refine v_aload_n C 4 dX4_readEntry_86 rfl rfl ?_
    refine c_getS C 38 fl_4_29 rfl rfl (by decide) (okS _ 43 (by decide) rfl) dX4_readEntry_87 ?_
    refine v_iload_n C 2 dX4_readEntry_90 rfl rfl ?_
    refine v_iconst C 0 dX4_readEntry_91 (by decide) ?_
    obtain ⟨q7, hq7, h⟩ := bd_of h
    refine c_call C [.int q4.1, .int 0] [.ref (ad 43)] (c_Values_typeAt hA _ _ _ hq7) hY_Values_typeAt rfl (by decide) (okS _ 38 (by decide) rfl) ml_4_66 ⟨(by omega : 1 + 1 ≤ 223), (by omega : 8 + (3 + 11) + 23 ≤ 8874)⟩ ⟨Nat.zero_le _, Nat.zero_le _⟩ rfl rfl (Nat.le_of_ble_eq_true rfl) dX4_readEntry_92 (wc_D hA cy _) ?_
    refine v_iload C 0 dX4_readEntry_95 rfl ?_
    obtain ⟨q8, hq8, h⟩ := bd_of h
    refine c_call C [.int q7.1, .int q6.1] [] (c_Reader_hasRead hA _ _ _ hq8) hY_Reader_hasRead rfl (by decide) (okS _ 43 (by decide) rfl) ml_4_223 ⟨(by omega : 0 + 1 ≤ 223), (by omega : 8 + (3 + 11) + 0 ≤ 8874)⟩ ⟨Nat.zero_le _, Nat.zero_le _⟩ rfl rfl (Nat.le_of_ble_eq_true rfl) dX4_readEntry_97 (wc_D hA cy _) ?_
    obtain ⟨g5, h⟩ := gd_of h
    obtain rfl := Option.some.inj h
    exact v_zret C (bzb_in g5) dX4_readEntry_100
  · try rw [c1]
    replace h := el_n c1 h
    refine v_aload_n C 1 dX4_readEntry_29 rfl rfl ?_
    refine v_aload_n C 1 dX4_readEntry_30 rfl rfl ?_
    refine c_getI C fl_4_41 rfl (okS _ 43 (by decide) rfl) dX4_readEntry_31 ?_
    obtain ⟨q3, hq3, h⟩ := bd_of h
    refine c_call C [.int (q2.2.1 43 7)] [] (c_Reader_fail hA _ _ hq3) hY_Reader_fail rfl (by decide) (okS _ 43 (by decide) rfl) ml_4_95 ⟨(by omega : 0 + 1 ≤ 223), (by omega : 8 + (2 + 11) + 0 ≤ 8874)⟩ ⟨Nat.zero_le _, Nat.zero_le _⟩ rfl rfl (Nat.le_of_ble_eq_true rfl) dX4_readEntry_34 (wc_D hA cy _) ?_
    obtain ⟨g2, h⟩ := gd_of h
    obtain rfl := Option.some.inj h
    exact v_zret C (bzb_in g2) dX4_readEntry_37
set_option maxHeartbeats 4000000 in
set_option maxRecDepth 20000 in
theorem b_Values_typeOfVariable_20 {p : Program} {l : Launch} {e : Env} {s : State} {m : MethodId} {args : Array Value} {below : List Frame} {meth : Method} {c : Code} {D : va_G} {cy : Nat → ClassId} {ad : Nat → Nat} {q : Int32 × CS}  (C : vC p s m args meth c cX8_typeOfVariable 2 (some .int) RX8 D (cyT cy)) (hA : adOK ad) : ∀ (s0 : Int32) (σ : CS), B_Values_typeOfVariable_20 s0 σ = some q → V p l e { frames := 0, cells := 0, slots := 0, locals := 0 } s m args below meth c D (inC ad) 2 (MQ below (vQ D (inC ad) (some (.int q.1)) (wc cy ad q.2)) args s 0 0 (inC ad)) 0 0 (wc cy ad σ) 20 [(0, .ref (ad 38))] [.int s0] := by
  intro s0 σ h
  rw [B_Values_typeOfVariable_20] at h
  obtain rfl := Option.some.inj h
  exact v_iret C dX8_typeOfVariable_20
set_option maxHeartbeats 4000000 in
set_option maxRecDepth 20000 in
theorem b_Values_typeOfVariable_19 {p : Program} {l : Launch} {e : Env} {s : State} {m : MethodId} {args : Array Value} {below : List Frame} {meth : Method} {c : Code} {D : va_G} {cy : Nat → ClassId} {ad : Nat → Nat} {q : Int32 × CS}  (C : vC p s m args meth c cX8_typeOfVariable 2 (some .int) RX8 D (cyT cy)) (hA : adOK ad) {k20 : Int32 → CS → Option (Int32 × CS)} (hk20 : ∀ (s0 : Int32) (σ : CS), k20 s0 σ = some q → V p l e { frames := 0, cells := 0, slots := 0, locals := 0 } s m args below meth c D (inC ad) 2 (MQ below (vQ D (inC ad) (some (.int q.1)) (wc cy ad q.2)) args s 0 0 (inC ad)) 0 0 (wc cy ad σ) 20 [(0, .ref (ad 38))] [.int s0]) : ∀ (σ : CS), B_Values_typeOfVariable_19 k20 σ = some q → V p l e { frames := 0, cells := 0, slots := 0, locals := 0 } s m args below meth c D (inC ad) 2 (MQ below (vQ D (inC ad) (some (.int q.1)) (wc cy ad q.2)) args s 0 0 (inC ad)) 0 0 (wc cy ad σ) 19 [(0, .ref (ad 38))] [] := by
  intro σ h
  rw [B_Values_typeOfVariable_19] at h
  refine v_iconst C 0 dX8_typeOfVariable_19 (by decide) ?_
  exact v_sub [0] rfl (hk20 _ _ h)
set_option maxHeartbeats 4000000 in
set_option maxRecDepth 20000 in
theorem c_Values_typeOfVariable {l : Launch} {D : va_G} {cy : Nat → ClassId} {ad : Nat → Nat} {q : Int32 × CS} (hA : adOK ad) (x1 : Int32) (σ : CS) (h : f_Values_typeOfVariable x1 σ = some q) : MV l D (cyT cy) (inC ad) yX8_typeOfVariable cX8_typeOfVariable 2 (some .int) (0) (0) 0 0 [.ref (ad 38), .int x1] (wc cy ad σ) (some (.int q.1)) (wc cy ad q.2) := by
  refine MV.of (by decide) (wc_D hA cy σ) (Nat.le_of_ble_eq_true rfl) [(0, .ref (ad 38)), (1, .int x1)] rfl ?_
  intro p e s m args below meth c C
  rw [f_Values_typeOfVariable] at h
  refine v_iload_n C 1 dX8_typeOfVariable_0 rfl rfl ?_
  refine v_if_lt C 19 dX8_typeOfVariable_1 (by decide) (fun c1 => ?_) (fun c1 => ?_)
  · rw [if_pos c1] at h
    exact v_sub [0] rfl ((b_Values_typeOfVariable_19 C hA (b_Values_typeOfVariable_20 C hA)) _ h)
  · rw [if_neg c1] at h
    refine v_iload_n C 1 dX8_typeOfVariable_4 rfl rfl ?_
    refine v_bipush C 10 dX8_typeOfVariable_5 (by decide) ?_
    refine v_icmp_ge C 19 dX8_typeOfVariable_7 (by decide) (fun c2 => ?_) (fun c2 => ?_)
    · rw [if_pos c2] at h
      exact v_sub [0] rfl ((b_Values_typeOfVariable_19 C hA (b_Values_typeOfVariable_20 C hA)) _ h)
    · rw [if_neg c2] at h
      refine v_aload_n C 0 dX8_typeOfVariable_10 rfl rfl ?_
      refine c_getS C 42 fl_8_25 rfl rfl (by decide) (okS _ 38 (by decide) rfl) dX8_typeOfVariable_11 ?_
      refine v_iload_n C 1 dX8_typeOfVariable_14 rfl rfl ?_
      obtain ⟨g1, h⟩ := gd_of h
      refine c_iald C (okS _ 42 (by decide) rfl) (ix_in g1) dX8_typeOfVariable_15 ?_
      refine v_goto C 20 dX8_typeOfVariable_16 (by decide) ?_
      exact v_sub [0] rfl ((b_Values_typeOfVariable_20 C hA) _ _ h)
set_option maxHeartbeats 4000000 in
set_option maxRecDepth 20000 in
theorem b_Signs_constantTypeOf_32 {p : Program} {l : Launch} {e : Env} {s : State} {m : MethodId} {args : Array Value} {below : List Frame} {meth : Method} {c : Code} {D : va_G} {cy : Nat → ClassId} {ad : Nat → Nat} {q : Int32 × CS}  (C : vC p s m args meth c cX7_constantTypeOf 3 (some .int) RX7 D (cyT cy)) (hA : adOK ad) : ∀ (s0 : Int32) (σ : CS), B_Signs_constantTypeOf_32 s0 σ = some q → V p l e { frames := 0, cells := 0, slots := 0, locals := 0 } s m args below meth c D (inC ad) 3 (MQ below (vQ D (inC ad) (some (.int q.1)) (wc cy ad q.2)) args s 0 0 (inC ad)) 0 0 (wc cy ad σ) 32 [(0, .ref (ad 34))] [.int s0] := by
  intro s0 σ h
  rw [B_Signs_constantTypeOf_32] at h
  obtain rfl := Option.some.inj h
  exact v_iret C dX7_constantTypeOf_32
set_option maxHeartbeats 4000000 in
set_option maxRecDepth 20000 in
theorem b_Signs_constantTypeOf_31 {p : Program} {l : Launch} {e : Env} {s : State} {m : MethodId} {args : Array Value} {below : List Frame} {meth : Method} {c : Code} {D : va_G} {cy : Nat → ClassId} {ad : Nat → Nat} {q : Int32 × CS}  (C : vC p s m args meth c cX7_constantTypeOf 3 (some .int) RX7 D (cyT cy)) (hA : adOK ad) {k32 : Int32 → CS → Option (Int32 × CS)} (hk32 : ∀ (s0 : Int32) (σ : CS), k32 s0 σ = some q → V p l e { frames := 0, cells := 0, slots := 0, locals := 0 } s m args below meth c D (inC ad) 3 (MQ below (vQ D (inC ad) (some (.int q.1)) (wc cy ad q.2)) args s 0 0 (inC ad)) 0 0 (wc cy ad σ) 32 [(0, .ref (ad 34))] [.int s0]) : ∀ (σ : CS), B_Signs_constantTypeOf_31 k32 σ = some q → V p l e { frames := 0, cells := 0, slots := 0, locals := 0 } s m args below meth c D (inC ad) 3 (MQ below (vQ D (inC ad) (some (.int q.1)) (wc cy ad q.2)) args s 0 0 (inC ad)) 0 0 (wc cy ad σ) 31 [(0, .ref (ad 34))] [] := by
  intro σ h
  rw [B_Signs_constantTypeOf_31] at h
  refine v_iconst C (-1) dX7_constantTypeOf_31 (by decide) ?_
  exact v_sub [0] rfl (hk32 _ _ h)
set_option maxHeartbeats 4000000 in
set_option maxRecDepth 20000 in
theorem c_Signs_constantTypeOf {l : Launch} {D : va_G} {cy : Nat → ClassId} {ad : Nat → Nat} {q : Int32 × CS} (hA : adOK ad) (x1 : Int32) (σ : CS) (h : f_Signs_constantTypeOf x1 σ = some q) : MV l D (cyT cy) (inC ad) yX7_constantTypeOf cX7_constantTypeOf 3 (some .int) (0) (0) 0 0 [.ref (ad 34), .int x1] (wc cy ad σ) (some (.int q.1)) (wc cy ad q.2) := by
  refine MV.of (by decide) (wc_D hA cy σ) (Nat.le_of_ble_eq_true rfl) [(0, .ref (ad 34)), (1, .int x1)] rfl ?_
  intro p e s m args below meth c C
  rw [f_Signs_constantTypeOf] at h
  refine v_iload_n C 1 dX7_constantTypeOf_0 rfl rfl ?_
  refine v_bipush C 97 dX7_constantTypeOf_1 (by decide) ?_
  refine v_isub C dX7_constantTypeOf_3 ?_
  refine v_istore_n C [(2, .int (x1 - 97)), (0, .ref (ad 34)), (1, .int x1)] dX7_constantTypeOf_4 rfl (by decide) rfl ?_
  refine v_iload_n C 0 dX7_constantTypeOf_5 rfl rfl ?_
  refine v_if_lt C 31 dX7_constantTypeOf_6 (by decide) (fun c1 => ?_) (fun c1 => ?_)
  · rw [if_pos c1] at h
    exact v_sub [1] rfl ((b_Signs_constantTypeOf_31 C hA (b_Signs_constantTypeOf_32 C hA)) _ h)
  · rw [if_neg c1] at h
    refine v_iload_n C 0 dX7_constantTypeOf_9 rfl rfl ?_
    refine v_aload_n C 1 dX7_constantTypeOf_10 rfl rfl ?_
    refine c_getI C fl_7_28 rfl (okS _ 34 (by decide) rfl) dX7_constantTypeOf_11 ?_
    refine v_icmp_ge C 31 dX7_constantTypeOf_14 (by decide) (fun c2 => ?_) (fun c2 => ?_)
    · rw [if_pos c2] at h
      exact v_sub [1] rfl ((b_Signs_constantTypeOf_31 C hA (b_Signs_constantTypeOf_32 C hA)) _ h)
    · rw [if_neg c2] at h
      refine v_iload_n C 0 dX7_constantTypeOf_17 rfl rfl ?_
      refine v_iconst C 4 dX7_constantTypeOf_18 (by decide) ?_
      refine v_icmp_ge C 31 dX7_constantTypeOf_19 (by decide) (fun c3 => ?_) (fun c3 => ?_)
      · rw [if_pos c3] at h
        exact v_sub [1] rfl ((b_Signs_constantTypeOf_31 C hA (b_Signs_constantTypeOf_32 C hA)) _ h)
      · rw [if_neg c3] at h
        refine v_aload_n C 1 dX7_constantTypeOf_22 rfl rfl ?_
        refine c_getS C 37 fl_7_18 rfl rfl (by decide) (okS _ 34 (by decide) rfl) dX7_constantTypeOf_23 ?_
        refine v_iload_n C 0 dX7_constantTypeOf_26 rfl rfl ?_
        obtain ⟨g1, h⟩ := gd_of h
        refine c_iald C (okS _ 37 (by decide) rfl) (ix_in g1) dX7_constantTypeOf_27 ?_
        refine v_goto C 32 dX7_constantTypeOf_28 (by decide) ?_
        exact v_sub [1] rfl ((b_Signs_constantTypeOf_32 C hA) _ _ h)
set_option maxHeartbeats 4000000 in
set_option maxRecDepth 20000 in
theorem c_Values_typeOfConstant {l : Launch} {D : va_G} {cy : Nat → ClassId} {ad : Nat → Nat} {q : Int32 × CS} (hA : adOK ad) (x1 : Int32) (σ : CS) (h : f_Values_typeOfConstant x1 σ = some q) : MV l D (cyT cy) (inC ad) yX8_typeOfConstant cX8_typeOfConstant 2 (some .int) (2) (45) 0 0 [.ref (ad 38), .int x1] (wc cy ad σ) (some (.int q.1)) (wc cy ad q.2) := by
  refine MV.of (by decide) (wc_D hA cy σ) (Nat.le_of_ble_eq_true rfl) [(0, .ref (ad 38)), (1, .int x1)] rfl ?_
  intro p e s m args below meth c C
  rw [f_Values_typeOfConstant] at h
  refine v_aload_n C 0 dX8_typeOfConstant_0 rfl rfl ?_
  refine v_aload_n C 0 dX8_typeOfConstant_1 rfl rfl ?_
  refine c_getS C 34 fl_8_28 rfl rfl (by decide) (okS _ 38 (by decide) rfl) dX8_typeOfConstant_2 ?_
  refine v_iload_n C 1 dX8_typeOfConstant_5 rfl rfl ?_
  obtain ⟨q1, hq1, h⟩ := bd_of h
  refine c_call C [.int x1] [.ref (ad 38)] (c_Signs_constantTypeOf hA _ _ hq1) hY_Signs_constantTypeOf rfl (by decide) (okS _ 34 (by decide) rfl) ml_8_61 ⟨(by omega : 0 + 1 ≤ 2), (by omega : 8 + (3 + 11) + 0 ≤ 45)⟩ ⟨Nat.zero_le _, Nat.zero_le _⟩ rfl rfl (Nat.le_of_ble_eq_true rfl) dX8_typeOfConstant_6 (wc_D hA cy _) ?_
  refine v_iconst C 0 dX8_typeOfConstant_9 (by decide) ?_
  obtain ⟨q2, hq2, h⟩ := bd_of h
  refine c_call C [.int q1.1, .int 0] [] (c_Values_typeAt hA _ _ _ hq2) hY_Values_typeAt rfl (by decide) (okS _ 38 (by decide) rfl) ml_8_51 ⟨(by omega : 1 + 1 ≤ 2), (by omega : 8 + (3 + 11) + 23 ≤ 45)⟩ ⟨Nat.zero_le _, Nat.zero_le _⟩ rfl rfl (Nat.le_of_ble_eq_true rfl) dX8_typeOfConstant_10 (wc_D hA cy _) ?_
  obtain rfl := Option.some.inj h
  exact v_iret C dX8_typeOfConstant_13
set_option maxHeartbeats 4000000 in
set_option maxRecDepth 20000 in
theorem b_Reader_readName_55 {p : Program} {l : Launch} {e : Env} {s : State} {m : MethodId} {args : Array Value} {below : List Frame} {meth : Method} {c : Code} {D : va_G} {cy : Nat → ClassId} {ad : Nat → Nat} {q : Int32 × CS}  (C : vC p s m args meth c cX4_readName 4 (some .boolean) RX4 D (cyT cy)) (hA : adOK ad) : ∀ (x2 : Int32) (σ : CS), B_Reader_readName_55 x2 σ = some q → V p l e { frames := 3, cells := 0, slots := 0, locals := 66 } s m args below meth c D (inC ad) 4 (MQ below (vQ D (inC ad) (some (.int q.1)) (wc cy ad q.2)) args s 0 0 (inC ad)) 0 0 (wc cy ad σ) 55 [(0, .ref (ad 43)), (2, .int x2)] [] := by
  intro x2 σ h
  rw [B_Reader_readName_55] at h
  refine v_aload_n C 0 dX4_readName_55 rfl rfl ?_
  refine c_getS C 34 fl_4_25 rfl rfl (by decide) (okS _ 43 (by decide) rfl) dX4_readName_56 ?_
  refine v_iload_n C 1 dX4_readName_59 rfl rfl ?_
  obtain ⟨q1, hq1, h⟩ := bd_of h
  refine c_call C [.int x2] [] (c_Signs_isConstant hA _ _ hq1) hY_Signs_isConstant rfl (by decide) (okS _ 34 (by decide) rfl) ml_4_226 ⟨(by omega : 0 + 1 ≤ 3), (by omega : 8 + (2 + 11) + 0 ≤ 66)⟩ ⟨Nat.zero_le _, Nat.zero_le _⟩ rfl rfl (Nat.le_of_ble_eq_true rfl) dX4_readName_60 (wc_D hA cy _) ?_
  refine v_if_eq C 97 dX4_readName_63 (by decide) (fun c1 => ?_) (fun c1 => ?_)
  · rw [if_pos c1] at h
    refine v_aload_n C 0 dX4_readName_97 rfl rfl ?_
    refine v_aload_n C 0 dX4_readName_98 rfl rfl ?_
    refine c_getI C fl_4_41 rfl (okS _ 43 (by decide) rfl) dX4_readName_99 ?_
    obtain ⟨q2, hq2, h⟩ := bd_of h
    refine c_call C [.int (q1.2.1 43 7)] [] (c_Reader_fail hA _ _ hq2) hY_Reader_fail rfl (by decide) (okS _ 43 (by decide) rfl) ml_4_95 ⟨(by omega : 0 + 1 ≤ 3), (by omega : 8 + (2 + 11) + 0 ≤ 66)⟩ ⟨Nat.zero_le _, Nat.zero_le _⟩ rfl rfl (Nat.le_of_ble_eq_true rfl) dX4_readName_102 (wc_D hA cy _) ?_
    obtain ⟨g1, h⟩ := gd_of h
    obtain rfl := Option.some.inj h
    exact v_zret C (bzb_in g1) dX4_readName_105
  · rw [if_neg c1] at h
    refine v_aload_n C 0 dX4_readName_66 rfl rfl ?_
    refine v_dup C dX4_readName_67 rfl ?_
    refine c_getI C fl_4_41 rfl (okS _ 43 (by decide) rfl) dX4_readName_68 ?_
    refine v_iconst C 1 dX4_readName_71 (by decide) ?_
    refine v_iadd C dX4_readName_72 ?_
    refine c_putI C fl_4_41 fw_4_7 rfl (by decide) (okS _ 43 (by decide) rfl) dX4_readName_73 ?_
    refine v_aload_n C 0 dX4_readName_76 rfl rfl ?_
    refine v_aload_n C 0 dX4_readName_77 rfl rfl ?_
    refine c_getS C 38 fl_4_29 rfl rfl (by decide) (okS _ 43 (by decide) rfl) dX4_readName_78 ?_
    refine v_iload_n C 1 dX4_readName_81 rfl rfl ?_
    obtain ⟨q3, hq3, h⟩ := bd_of h
    refine c_call C [.int x2] [.ref (ad 43)] (c_Values_typeOfConstant hA _ _ hq3) hY_Values_typeOfConstant rfl (by decide) (okS _ 38 (by decide) rfl) ml_4_229 ⟨(by omega : 2 + 1 ≤ 3), (by omega : 8 + (2 + 11) + 45 ≤ 66)⟩ ⟨Nat.zero_le _, Nat.zero_le _⟩ rfl rfl (Nat.le_of_ble_eq_true rfl) dX4_readName_82 (wc_D hA cy _) ?_
    refine v_aload_n C 0 dX4_readName_85 rfl rfl ?_
    refine c_getS C 38 fl_4_29 rfl rfl (by decide) (okS _ 43 (by decide) rfl) dX4_readName_86 ?_
    refine v_iload_n C 1 dX4_readName_89 rfl rfl ?_
    obtain ⟨q4, hq4, h⟩ := bd_of h
    refine c_call C [.int x2] [.int q3.1, .ref (ad 43)] (c_Values_constantOf hA _ _ hq4) hY_Values_constantOf rfl (by decide) (okS _ 38 (by decide) rfl) ml_4_232 ⟨(by omega : 1 + 1 ≤ 3), (by omega : 8 + (2 + 11) + 23 ≤ 66)⟩ ⟨Nat.zero_le _, Nat.zero_le _⟩ rfl rfl (Nat.le_of_ble_eq_true rfl) dX4_readName_90 (wc_D hA cy _) ?_
    obtain ⟨q5, hq5, h⟩ := bd_of h
    refine c_call C [.int q3.1, .int q4.1] [] (c_Reader_hasRead hA _ _ _ hq5) hY_Reader_hasRead rfl (by decide) (okS _ 43 (by decide) rfl) ml_4_223 ⟨(by omega : 0 + 1 ≤ 3), (by omega : 8 + (3 + 11) + 0 ≤ 66)⟩ ⟨Nat.zero_le _, Nat.zero_le _⟩ rfl rfl (Nat.le_of_ble_eq_true rfl) dX4_readName_93 (wc_D hA cy _) ?_
    obtain ⟨g2, h⟩ := gd_of h
    obtain rfl := Option.some.inj h
    exact v_zret C (bzb_in g2) dX4_readName_96
set_option maxHeartbeats 4000000 in
set_option maxRecDepth 20000 in
theorem c_Reader_readName {l : Launch} {D : va_G} {cy : Nat → ClassId} {ad : Nat → Nat} {q : Int32 × CS} (hA : adOK ad) (x1 : Int32) (σ : CS) (h : f_Reader_readName x1 σ = some q) : MV l D (cyT cy) (inC ad) yX4_readName cX4_readName 4 (some .boolean) (3) (66) 0 0 [.ref (ad 43), .int x1] (wc cy ad σ) (some (.int q.1)) (wc cy ad q.2) := by
  refine MV.of (by decide) (wc_D hA cy σ) (Nat.le_of_ble_eq_true rfl) [(0, .ref (ad 43)), (1, .int x1)] rfl ?_
  intro p e s m args below meth c C
  rw [f_Reader_readName] at h
  refine v_aload_n C 0 dX4_readName_0 rfl rfl ?_
  obtain ⟨q1, hq1, h⟩ := bd_of h
  refine c_call C [] [] (c_Reader_peek hA _ hq1) hY_Reader_peek rfl (by decide) (okS _ 43 (by decide) rfl) ml_4_99 ⟨(by omega : 0 + 1 ≤ 3), (by omega : 8 + (1 + 11) + 0 ≤ 66)⟩ ⟨Nat.zero_le _, Nat.zero_le _⟩ rfl rfl (Nat.le_of_ble_eq_true rfl) dX4_readName_1 (wc_D hA cy _) ?_
  refine v_istore_n C [(2, .int q1.1), (0, .ref (ad 43)), (1, .int x1)] dX4_readName_4 rfl (by decide) rfl ?_
  refine v_iload_n C 0 dX4_readName_5 rfl rfl ?_
  refine v_bipush C 48 dX4_readName_6 (by decide) ?_
  refine v_isub C dX4_readName_8 ?_
  refine v_istore_n C [(3, .int (q1.1 - 48)), (2, .int q1.1), (0, .ref (ad 43)), (1, .int x1)] dX4_readName_9 rfl (by decide) rfl ?_
  refine v_iload_n C 0 dX4_readName_10 rfl rfl ?_
  refine v_if_lt C 55 dX4_readName_11 (by decide) (fun c1 => ?_) (fun c1 => ?_)
  · rw [if_pos c1] at h
    exact v_sub [2, 1] rfl ((b_Reader_readName_55 C hA) _ _ h)
  · rw [if_neg c1] at h
    refine v_iload_n C 0 dX4_readName_14 rfl rfl ?_
    refine v_iload_n C 3 dX4_readName_15 rfl rfl ?_
    refine v_icmp_ge C 55 dX4_readName_16 (by decide) (fun c2 => ?_) (fun c2 => ?_)
    · rw [if_pos c2] at h
      exact v_sub [2, 1] rfl ((b_Reader_readName_55 C hA) _ _ h)
    · rw [if_neg c2] at h
      refine v_aload_n C 2 dX4_readName_19 rfl rfl ?_
      refine v_dup C dX4_readName_20 rfl ?_
      refine c_getI C fl_4_41 rfl (okS _ 43 (by decide) rfl) dX4_readName_21 ?_
      refine v_iconst C 1 dX4_readName_24 (by decide) ?_
      refine v_iadd C dX4_readName_25 ?_
      refine c_putI C fl_4_41 fw_4_7 rfl (by decide) (okS _ 43 (by decide) rfl) dX4_readName_26 ?_
      refine v_aload_n C 2 dX4_readName_29 rfl rfl ?_
      refine v_aload_n C 2 dX4_readName_30 rfl rfl ?_
      refine c_getS C 38 fl_4_29 rfl rfl (by decide) (okS _ 43 (by decide) rfl) dX4_readName_31 ?_
      refine v_iload_n C 0 dX4_readName_34 rfl rfl ?_
      obtain ⟨q2, hq2, h⟩ := bd_of h
      refine c_call C [.int (q1.1 - 48)] [.ref (ad 43)] (c_Values_typeOfVariable hA _ _ hq2) hY_Values_typeOfVariable rfl (by decide) (okS _ 38 (by decide) rfl) ml_4_217 ⟨(by omega : 0 + 1 ≤ 3), (by omega : 8 + (2 + 11) + 0 ≤ 66)⟩ ⟨Nat.zero_le _, Nat.zero_le _⟩ rfl rfl (Nat.le_of_ble_eq_true rfl) dX4_readName_35 (wc_D hA cy _) ?_
      refine v_aload_n C 2 dX4_readName_38 rfl rfl ?_
      refine c_getS C 38 fl_4_29 rfl rfl (by decide) (okS _ 43 (by decide) rfl) dX4_readName_39 ?_
      refine v_aload_n C 2 dX4_readName_42 rfl rfl ?_
      refine v_iload_n C 3 dX4_readName_43 rfl rfl ?_
      obtain ⟨q3, hq3, h⟩ := bd_of h
      refine c_call C [.int x1] [.ref (ad 38), .int q2.1, .ref (ad 43)] (c_Reader_scope hA _ _ hq3) hY_Reader_scope rfl (by decide) (okS _ 43 (by decide) rfl) ml_4_145 ⟨(by omega : 0 + 1 ≤ 3), (by omega : 8 + (2 + 11) + 0 ≤ 66)⟩ ⟨Nat.zero_le _, Nat.zero_le _⟩ rfl rfl (Nat.le_of_ble_eq_true rfl) dX4_readName_44 (wc_D hA cy _) ?_
      refine v_iload_n C 0 dX4_readName_47 rfl rfl ?_
      obtain ⟨q4, hq4, h⟩ := bd_of h
      refine c_call C [.int q3.1, .int (q1.1 - 48)] [.int q2.1, .ref (ad 43)] (c_Values_variableIn hA _ _ _ hq4) hY_Values_variableIn rfl (by decide) (okS _ 38 (by decide) rfl) ml_4_220 ⟨(by omega : 1 + 1 ≤ 3), (by omega : 8 + (6 + 11) + 21 ≤ 66)⟩ ⟨Nat.zero_le _, Nat.zero_le _⟩ rfl rfl (Nat.le_of_ble_eq_true rfl) dX4_readName_48 (wc_D hA cy _) ?_
      obtain ⟨q5, hq5, h⟩ := bd_of h
      refine c_call C [.int q2.1, .int q4.1] [] (c_Reader_hasRead hA _ _ _ hq5) hY_Reader_hasRead rfl (by decide) (okS _ 43 (by decide) rfl) ml_4_223 ⟨(by omega : 0 + 1 ≤ 3), (by omega : 8 + (3 + 11) + 0 ≤ 66)⟩ ⟨Nat.zero_le _, Nat.zero_le _⟩ rfl rfl (Nat.le_of_ble_eq_true rfl) dX4_readName_51 (wc_D hA cy _) ?_
      obtain ⟨g1, h⟩ := gd_of h
      obtain rfl := Option.some.inj h
      exact v_zret C (bzb_in g1) dX4_readName_54
set_option maxHeartbeats 4000000 in
set_option maxRecDepth 20000 in
theorem b_Writer_bound_11 {p : Program} {l : Launch} {e : Env} {s : State} {m : MethodId} {args : Array Value} {below : List Frame} {meth : Method} {c : Code} {D : va_G} {cy : Nat → ClassId} {ad : Nat → Nat} {q : Int32 × CS}  (C : vC p s m args meth c cX9_bound 3 (some .int) RX9 D (cyT cy)) (hA : adOK ad) : ∀ (x1 : Int32) (x2 : Int32) (σ : CS), B_Writer_bound_11 x1 x2 σ = some q → V p l e { frames := 2, cells := 0, slots := 0, locals := 45 } s m args below meth c D (inC ad) 3 (MQ below (vQ D (inC ad) (some (.int q.1)) (wc cy ad q.2)) args s 0 0 (inC ad)) 0 0 (wc cy ad σ) 11 [(0, .ref (ad 44)), (1, .int x1), (2, .int x2)] [] := by
  intro x1 x2 σ h
  rw [B_Writer_bound_11] at h
  refine v_aload_n C 0 dX9_bound_11 rfl rfl ?_
  refine c_getS C 38 fl_9_15 rfl rfl (by decide) (okS _ 44 (by decide) rfl) dX9_bound_12 ?_
  refine v_iload_n C 2 dX9_bound_15 rfl rfl ?_
  refine v_iload_n C 1 dX9_bound_16 rfl rfl ?_
  obtain ⟨q1, hq1, h⟩ := bd_of h
  refine c_call C [.int x2, .int x1] [] (c_Values_newVariable hA _ _ _ hq1) hY_Values_newVariable rfl (by decide) (okS _ 38 (by decide) rfl) ml_9_96 ⟨(by omega : 1 + 1 ≤ 2), (by omega : 8 + (3 + 11) + 23 ≤ 45)⟩ ⟨Nat.zero_le _, Nat.zero_le _⟩ rfl rfl (Nat.le_of_ble_eq_true rfl) dX9_bound_17 (wc_D hA cy _) ?_
  obtain rfl := Option.some.inj h
  exact v_iret C dX9_bound_20
set_option maxHeartbeats 4000000 in
set_option maxRecDepth 20000 in
theorem c_Writer_bound {l : Launch} {D : va_G} {cy : Nat → ClassId} {ad : Nat → Nat} {q : Int32 × CS} (hA : adOK ad) (x1 : Int32) (x2 : Int32) (σ : CS) (h : f_Writer_bound x1 x2 σ = some q) : MV l D (cyT cy) (inC ad) yX9_bound cX9_bound 3 (some .int) (2) (45) 0 0 [.ref (ad 44), .int x1, .int x2] (wc cy ad σ) (some (.int q.1)) (wc cy ad q.2) := by
  refine MV.of (by decide) (wc_D hA cy σ) (Nat.le_of_ble_eq_true rfl) [(0, .ref (ad 44)), (1, .int x1), (2, .int x2)] rfl ?_
  intro p e s m args below meth c C
  rw [f_Writer_bound] at h
  refine v_iload_n C 2 dX9_bound_0 rfl rfl ?_
  refine v_bipush C 10 dX9_bound_1 (by decide) ?_
  refine v_icmp_lt C 11 dX9_bound_3 (by decide) (fun c1 => ?_) (fun c1 => ?_)
  · rw [if_pos c1] at h
    exact v_sub [0, 1, 2] rfl ((b_Writer_bound_11 C hA) _ _ _ h)
  · rw [if_neg c1] at h
    refine v_aload_n C 0 dX9_bound_6 rfl rfl ?_
    refine v_iconst C 1 dX9_bound_7 (by decide) ?_
    refine c_putZ C (Or.inr rfl) fl_9_42 fw_9_3 rfl (by decide) (okS _ 44 (by decide) rfl) dX9_bound_8 ?_
    exact v_sub [0, 1, 2] rfl ((b_Writer_bound_11 C hA) _ _ _ h)
