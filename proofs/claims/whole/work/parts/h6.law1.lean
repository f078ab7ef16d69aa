set_option maxRecDepth 20000 in
theorem cl_L_7 : Cond.classLink R_law 7 RX10 ∈ tg := tg_at 113 (by decide +kernel) rfl
set_option maxRecDepth 20000 in
theorem ml_L_9 : Cond.methodLink R_law 9 yX10_init ∈ tg := tg_at 115 (by decide +kernel) rfl
set_option maxRecDepth 20000 in
theorem ml_L_13 : Cond.methodLink R_law 13 yX10_type ∈ tg := tg_at 366 (by decide +kernel) rfl
set_option maxRecDepth 20000 in
theorem ml_L_18 : Cond.methodLink R_law 18 yX10_clear ∈ tg := tg_at 370 (by decide +kernel) rfl
set_option maxRecDepth 20000 in
theorem ml_L_23 : Cond.methodLink R_law 23 yX10_laws ∈ tg := tg_at 374 (by decide +kernel) rfl
set_option maxRecDepth 20000 in
theorem ml_L_27 : Cond.methodLink R_law 27 yX10_law ∈ tg := tg_at 749 (by decide +kernel) rfl
set_option maxRecDepth 20000 in
theorem ml_L_32 : Cond.methodLink R_law 32 yX10_given ∈ tg := tg_at 756 (by decide +kernel) rfl
set_option maxRecDepth 20000 in
theorem ml_L_36 : Cond.methodLink R_law 36 yX10_found ∈ tg := tg_at 772 (by decide +kernel) rfl
set_option maxRecDepth 20000 in
theorem ml_L_40 : Cond.methodLink R_law 40 yX10_same ∈ tg := tg_at 780 (by decide +kernel) rfl
set_option maxRecDepth 20000 in
theorem ml_L_44 : Cond.methodLink R_law 44 yX10_enters ∈ tg := tg_at 789 (by decide +kernel) rfl
set_option maxRecDepth 20000 in
theorem ml_L_48 : Cond.methodLink R_law 48 yX10_drops ∈ tg := tg_at 828 (by decide +kernel) rfl
set_option maxRecDepth 20000 in
theorem ml_L_52 : Cond.methodLink R_law 52 yX10_undo ∈ tg := tg_at 837 (by decide +kernel) rfl
set_option maxRecDepth 20000 in
theorem ml_L_56 : Cond.methodLink R_law 56 yX10_entry ∈ tg := tg_at 845 (by decide +kernel) rfl
set_option maxRecDepth 20000 in
theorem ml_L_60 : Cond.methodLink R_law 60 yX10_like ∈ tg := tg_at 849 (by decide +kernel) rfl
set_option maxRecDepth 20000 in
theorem ml_L_65 : Cond.methodLink R_law 65 yX10_sees ∈ tg := tg_at 862 (by decide +kernel) rfl
set_option maxRecDepth 20000 in
theorem ml_L_69 : Cond.methodLink R_law 69 yX10_forget ∈ tg := tg_at 870 (by decide +kernel) rfl
set_option maxRecDepth 20000 in
theorem ml_L_73 : Cond.methodLink R_law 73 yX10_unseen ∈ tg := tg_at 874 (by decide +kernel) rfl
set_option maxRecDepth 20000 in
theorem ml_L_77 : Cond.methodLink R_law 77 yX10_keep ∈ tg := tg_at 883 (by decide +kernel) rfl
set_option maxRecDepth 20000 in
theorem ml_L_81 : Cond.methodLink R_law 81 yX10_back ∈ tg := tg_at 888 (by decide +kernel) rfl
set_option maxRecDepth 20000 in
theorem ml_L_85 : Cond.methodLink R_law 85 yX10_count ∈ tg := tg_at 892 (by decide +kernel) rfl
set_option maxRecDepth 20000 in
theorem cl_L_10 : Cond.classLink R_law 10 RX11 ∈ tg := tg_at 896 (by decide +kernel) rfl
set_option maxRecDepth 20000 in
theorem ml_L_12 : Cond.methodLink R_law 12 yX11_init ∈ tg := tg_at 898 (by decide +kernel) rfl
set_option maxRecDepth 20000 in
theorem ml_L_17 : Cond.methodLink R_law 17 yX11_type ∈ tg := tg_at 1094 (by decide +kernel) rfl
set_option maxRecDepth 20000 in
theorem ml_L_22 : Cond.methodLink R_law 22 yX11_clear ∈ tg := tg_at 1101 (by decide +kernel) rfl
set_option maxRecDepth 20000 in
theorem ml_L_26 : Cond.methodLink R_law 26 yX11_laws ∈ tg := tg_at 1105 (by decide +kernel) rfl
set_option maxRecDepth 20000 in
theorem ml_L_31 : Cond.methodLink R_law 31 yX11_law ∈ tg := tg_at 1352 (by decide +kernel) rfl
set_option maxRecDepth 20000 in
theorem ml_L_35 : Cond.methodLink R_law 35 yX11_given ∈ tg := tg_at 1360 (by decide +kernel) rfl
set_option maxRecDepth 20000 in
theorem ml_L_39 : Cond.methodLink R_law 39 yX11_found ∈ tg := tg_at 1376 (by decide +kernel) rfl
set_option maxRecDepth 20000 in
theorem ml_L_43 : Cond.methodLink R_law 43 yX11_same ∈ tg := tg_at 1380 (by decide +kernel) rfl
set_option maxRecDepth 20000 in
theorem ml_L_47 : Cond.methodLink R_law 47 yX11_enters ∈ tg := tg_at 1384 (by decide +kernel) rfl
set_option maxRecDepth 20000 in
theorem ml_L_51 : Cond.methodLink R_law 51 yX11_drops ∈ tg := tg_at 1392 (by decide +kernel) rfl
set_option maxRecDepth 20000 in
theorem ml_L_55 : Cond.methodLink R_law 55 yX11_undo ∈ tg := tg_at 1404 (by decide +kernel) rfl
set_option maxRecDepth 20000 in
theorem ml_L_59 : Cond.methodLink R_law 59 yX11_entry ∈ tg := tg_at 1408 (by decide +kernel) rfl
set_option maxRecDepth 20000 in
theorem ml_L_64 : Cond.methodLink R_law 64 yX11_like ∈ tg := tg_at 1412 (by decide +kernel) rfl
set_option maxRecDepth 20000 in
theorem ml_L_68 : Cond.methodLink R_law 68 yX11_sees ∈ tg := tg_at 1420 (by decide +kernel) rfl
set_option maxRecDepth 20000 in
theorem ml_L_72 : Cond.methodLink R_law 72 yX11_forget ∈ tg := tg_at 1424 (by decide +kernel) rfl
set_option maxRecDepth 20000 in
theorem ml_L_76 : Cond.methodLink R_law 76 yX11_unseen ∈ tg := tg_at 1428 (by decide +kernel) rfl
set_option maxRecDepth 20000 in
theorem ml_L_80 : Cond.methodLink R_law 80 yX11_keep ∈ tg := tg_at 1432 (by decide +kernel) rfl
set_option maxRecDepth 20000 in
theorem ml_L_84 : Cond.methodLink R_law 84 yX11_back ∈ tg := tg_at 1436 (by decide +kernel) rfl
set_option maxRecDepth 20000 in
theorem ml_L_88 : Cond.methodLink R_law 88 yX11_count ∈ tg := tg_at 1440 (by decide +kernel) rfl
set_option maxRecDepth 20000 in
theorem in_10 : Cond.instantiable RX10 9 ∈ tg := tg_at 114 (by decide +kernel) rfl
set_option maxRecDepth 20000 in
theorem in_11 : Cond.instantiable RX11 62 ∈ tg := tg_at 897 (by decide +kernel) rfl
set_option maxRecDepth 20000 in
theorem ini_10 : Cond.initialized RX10 ∈ tg := tg_at 98 (by decide +kernel) rfl
set_option maxRecDepth 20000 in
theorem ini_11 : Cond.initialized RX11 ∈ tg := tg_at 107 (by decide +kernel) rfl
set_option maxRecDepth 20000 in
theorem df_10 : ∀ j, j < 9 → defaultValue (tyX10 j) = vp_V ((List.range (nfl 10)).map (fun k => if isR 10 k = true then Value.null else .int 0)) j := fun j hj => by
  rcases (show j = 0 ∨ j = 1 ∨ j = 2 ∨ j = 3 ∨ j = 4 ∨ j = 5 ∨ j = 6 ∨ j = 7 ∨ j = 8 by omega) with rfl | rfl | rfl | rfl | rfl | rfl | rfl | rfl | rfl <;> rfl
set_option maxRecDepth 20000 in
theorem df_11 : ∀ j, j < 62 → defaultValue (tyX11 j) = vp_V ((List.range 62).map (fun k => if mref k = 0 then Value.int 0 else .null)) j := by decide +kernel
set_option maxRecDepth 20000 in
theorem hYI_10 : vYI yX10_init cX10_init 3 0 := ⟨tg_at 116 (by decide +kernel) rfl, tg_at 98 (by decide +kernel) rfl, tg_at 117 (by rfl) rfl, rfl, by decide, by decide, by decide +kernel⟩
set_option maxRecDepth 20000 in
theorem hYI_11 : vYI yX11_init cX11_init 2 0 := ⟨tg_at 899 (by decide +kernel) rfl, tg_at 107 (by decide +kernel) rfl, tg_at 900 (by rfl) rfl, rfl, by decide, by decide, by decide +kernel⟩
set_option maxRecDepth 20000 in
theorem hY_J_enters : vY RX10 yX10_enters cX10_enters 1 (some .int) 0 := ⟨tg_at 790 (by decide +kernel) rfl, tg_at 791 (by decide +kernel) rfl, tg_at 98 (by decide +kernel) rfl, tg_at 792 (by rfl) rfl, rfl, by decide, by decide, by decide +kernel⟩
set_option maxRecDepth 20000 in
theorem hY_J_sees : vY RX10 yX10_sees cX10_sees 2 (some .int) 1 := ⟨tg_at 863 (by decide +kernel) rfl, tg_at 864 (by decide +kernel) rfl, tg_at 98 (by decide +kernel) rfl, tg_at 865 (by rfl) rfl, rfl, by decide, by decide, by decide +kernel⟩
set_option maxRecDepth 20000 in
theorem hY_J_laws : vY RX10 yX10_laws cX10_laws 3 (some .int) 0 := ⟨tg_at 375 (by decide +kernel) rfl, tg_at 376 (by decide +kernel) rfl, tg_at 98 (by decide +kernel) rfl, tg_at 377 (by rfl) rfl, rfl, by decide, by decide, by decide +kernel⟩
theorem dL_0 : decode code 0 = .ok (.new 7, 3) := by decide +kernel
theorem dL_3 : decode code 3 = .ok (.dup, 1) := by decide +kernel
theorem dL_4 : decode code 4 = .ok (.invokespecial 9, 3) := by decide +kernel
theorem dL_7 : decode code 7 = .ok (.astore_n 1, 1) := by decide +kernel
theorem dL_8 : decode code 8 = .ok (.new 10, 3) := by decide +kernel
theorem dL_11 : decode code 11 = .ok (.dup, 1) := by decide +kernel
theorem dL_12 : decode code 12 = .ok (.invokespecial 12, 3) := by decide +kernel
theorem dL_15 : decode code 15 = .ok (.astore_n 2, 1) := by decide +kernel
theorem dL_16 : decode code 16 = .ok (.iconst 0, 1) := by decide +kernel
theorem dL_17 : decode code 17 = .ok (.istore_n 3, 1) := by decide +kernel
theorem dL_18 : decode code 18 = .ok (.iload_n 3, 1) := by decide +kernel
theorem dL_19 : decode code 19 = .ok (.aload_n 0, 1) := by decide +kernel
theorem dL_20 : decode code 20 = .ok (.arraylength, 1) := by decide +kernel
theorem dL_21 : decode code 21 = .ok (.iconst 4, 1) := by decide +kernel
theorem dL_22 : decode code 22 = .ok (.isub, 1) := by decide +kernel
theorem dL_23 : decode code 23 = .ok (.if_icmp .gt 497, 3) := by decide +kernel
theorem dL_26 : decode code 26 = .ok (.aload_n 0, 1) := by decide +kernel
theorem dL_27 : decode code 27 = .ok (.iload_n 3, 1) := by decide +kernel
theorem dL_28 : decode code 28 = .ok (.iaload, 1) := by decide +kernel
theorem dL_29 : decode code 29 = .ok (.bipush 31, 2) := by decide +kernel
theorem dL_31 : decode code 31 = .ok (.iand, 1) := by decide +kernel
theorem dL_32 : decode code 32 = .ok (.tableswitch 482 0 17 #[88, 111, 124, 137, 180, 203, 226, 239, 252, 275, 288, 331, 364, 387, 400, 413, 436, 459], 88) := by decide +kernel
theorem dL_120 : decode code 120 = .ok (.aload_n 1, 1) := by decide +kernel
theorem dL_121 : decode code 121 = .ok (.aload_n 0, 1) := by decide +kernel
theorem dL_122 : decode code 122 = .ok (.iload_n 3, 1) := by decide +kernel
theorem dL_123 : decode code 123 = .ok (.iconst 1, 1) := by decide +kernel
theorem dL_124 : decode code 124 = .ok (.iadd, 1) := by decide +kernel
theorem dL_125 : decode code 125 = .ok (.iaload, 1) := by decide +kernel
theorem dL_126 : decode code 126 = .ok (.invokevirtual 13, 3) := by decide +kernel
theorem dL_129 : decode code 129 = .ok (.aload_n 2, 1) := by decide +kernel
theorem dL_130 : decode code 130 = .ok (.aload_n 0, 1) := by decide +kernel
theorem dL_131 : decode code 131 = .ok (.iload_n 3, 1) := by decide +kernel
theorem dL_132 : decode code 132 = .ok (.iconst 1, 1) := by decide +kernel
theorem dL_133 : decode code 133 = .ok (.iadd, 1) := by decide +kernel
theorem dL_134 : decode code 134 = .ok (.iaload, 1) := by decide +kernel
theorem dL_135 : decode code 135 = .ok (.invokevirtual 17, 3) := by decide +kernel
theorem dL_138 : decode code 138 = .ok (.if_icmp .eq 376, 3) := by decide +kernel
theorem dL_141 : decode code 141 = .ok (.iconst 0, 1) := by decide +kernel
theorem dL_142 : decode code 142 = .ok (.ireturn, 1) := by decide +kernel
theorem dL_143 : decode code 143 = .ok (.aload_n 1, 1) := by decide +kernel
theorem dL_144 : decode code 144 = .ok (.invokevirtual 18, 3) := by decide +kernel
theorem dL_147 : decode code 147 = .ok (.aload_n 2, 1) := by decide +kernel
theorem dL_148 : decode code 148 = .ok (.invokevirtual 22, 3) := by decide +kernel
theorem dL_151 : decode code 151 = .ok (.if_icmp .eq 363, 3) := by decide +kernel
theorem dL_154 : decode code 154 = .ok (.iconst 0, 1) := by decide +kernel
theorem dL_155 : decode code 155 = .ok (.ireturn, 1) := by decide +kernel
theorem dL_156 : decode code 156 = .ok (.aload_n 1, 1) := by decide +kernel
theorem dL_157 : decode code 157 = .ok (.invokevirtual 23, 3) := by decide +kernel
theorem dL_160 : decode code 160 = .ok (.aload_n 2, 1) := by decide +kernel
theorem dL_161 : decode code 161 = .ok (.invokevirtual 26, 3) := by decide +kernel
theorem dL_164 : decode code 164 = .ok (.if_icmp .eq 350, 3) := by decide +kernel
theorem dL_167 : decode code 167 = .ok (.iconst 0, 1) := by decide +kernel
theorem dL_168 : decode code 168 = .ok (.ireturn, 1) := by decide +kernel
theorem dL_169 : decode code 169 = .ok (.aload_n 1, 1) := by decide +kernel
theorem dL_170 : decode code 170 = .ok (.aload_n 0, 1) := by decide +kernel
theorem dL_171 : decode code 171 = .ok (.iload_n 3, 1) := by decide +kernel
theorem dL_172 : decode code 172 = .ok (.iconst 1, 1) := by decide +kernel
theorem dL_173 : decode code 173 = .ok (.iadd, 1) := by decide +kernel
theorem dL_174 : decode code 174 = .ok (.iaload, 1) := by decide +kernel
theorem dL_175 : decode code 175 = .ok (.aload_n 0, 1) := by decide +kernel
theorem dL_176 : decode code 176 = .ok (.iload_n 3, 1) := by decide +kernel
theorem dL_177 : decode code 177 = .ok (.iconst 2, 1) := by decide +kernel
theorem dL_178 : decode code 178 = .ok (.iadd, 1) := by decide +kernel
theorem dL_179 : decode code 179 = .ok (.iaload, 1) := by decide +kernel
theorem dL_180 : decode code 180 = .ok (.aload_n 0, 1) := by decide +kernel
theorem dL_181 : decode code 181 = .ok (.iload_n 3, 1) := by decide +kernel
theorem dL_182 : decode code 182 = .ok (.iconst 3, 1) := by decide +kernel
theorem dL_183 : decode code 183 = .ok (.iadd, 1) := by decide +kernel
theorem dL_184 : decode code 184 = .ok (.iaload, 1) := by decide +kernel
theorem dL_185 : decode code 185 = .ok (.invokevirtual 27, 3) := by decide +kernel
theorem dL_188 : decode code 188 = .ok (.aload_n 2, 1) := by decide +kernel
theorem dL_189 : decode code 189 = .ok (.aload_n 0, 1) := by decide +kernel
theorem dL_190 : decode code 190 = .ok (.iload_n 3, 1) := by decide +kernel
theorem dL_191 : decode code 191 = .ok (.iconst 1, 1) := by decide +kernel
theorem dL_192 : decode code 192 = .ok (.iadd, 1) := by decide +kernel
theorem dL_193 : decode code 193 = .ok (.iaload, 1) := by decide +kernel
theorem dL_194 : decode code 194 = .ok (.aload_n 0, 1) := by decide +kernel
theorem dL_195 : decode code 195 = .ok (.iload_n 3, 1) := by decide +kernel
theorem dL_196 : decode code 196 = .ok (.iconst 2, 1) := by decide +kernel
theorem dL_197 : decode code 197 = .ok (.iadd, 1) := by decide +kernel
theorem dL_198 : decode code 198 = .ok (.iaload, 1) := by decide +kernel
theorem dL_199 : decode code 199 = .ok (.aload_n 0, 1) := by decide +kernel
theorem dL_200 : decode code 200 = .ok (.iload_n 3, 1) := by decide +kernel
theorem dL_201 : decode code 201 = .ok (.iconst 3, 1) := by decide +kernel
theorem dL_202 : decode code 202 = .ok (.iadd, 1) := by decide +kernel
theorem dL_203 : decode code 203 = .ok (.iaload, 1) := by decide +kernel
theorem dL_204 : decode code 204 = .ok (.invokevirtual 31, 3) := by decide +kernel
theorem dL_207 : decode code 207 = .ok (.if_icmp .eq 307, 3) := by decide +kernel
theorem dL_210 : decode code 210 = .ok (.iconst 0, 1) := by decide +kernel
theorem dL_211 : decode code 211 = .ok (.ireturn, 1) := by decide +kernel
theorem dL_212 : decode code 212 = .ok (.aload_n 1, 1) := by decide +kernel
theorem dL_213 : decode code 213 = .ok (.aload_n 0, 1) := by decide +kernel
theorem dL_214 : decode code 214 = .ok (.iload_n 3, 1) := by decide +kernel
theorem dL_215 : decode code 215 = .ok (.iconst 1, 1) := by decide +kernel
theorem dL_216 : decode code 216 = .ok (.iadd, 1) := by decide +kernel
theorem dL_217 : decode code 217 = .ok (.iaload, 1) := by decide +kernel
theorem dL_218 : decode code 218 = .ok (.invokevirtual 32, 3) := by decide +kernel
theorem dL_221 : decode code 221 = .ok (.aload_n 2, 1) := by decide +kernel
theorem dL_222 : decode code 222 = .ok (.aload_n 0, 1) := by decide +kernel
theorem dL_223 : decode code 223 = .ok (.iload_n 3, 1) := by decide +kernel
theorem dL_224 : decode code 224 = .ok (.iconst 1, 1) := by decide +kernel
theorem dL_225 : decode code 225 = .ok (.iadd, 1) := by decide +kernel
theorem dL_226 : decode code 226 = .ok (.iaload, 1) := by decide +kernel
theorem dL_227 : decode code 227 = .ok (.invokevirtual 35, 3) := by decide +kernel
theorem dL_230 : decode code 230 = .ok (.if_icmp .eq 284, 3) := by decide +kernel
theorem dL_233 : decode code 233 = .ok (.iconst 0, 1) := by decide +kernel
theorem dL_234 : decode code 234 = .ok (.ireturn, 1) := by decide +kernel
theorem dL_235 : decode code 235 = .ok (.aload_n 1, 1) := by decide +kernel
theorem dL_236 : decode code 236 = .ok (.aload_n 0, 1) := by decide +kernel
theorem dL_237 : decode code 237 = .ok (.iload_n 3, 1) := by decide +kernel
theorem dL_238 : decode code 238 = .ok (.iconst 1, 1) := by decide +kernel
theorem dL_239 : decode code 239 = .ok (.iadd, 1) := by decide +kernel
theorem dL_240 : decode code 240 = .ok (.iaload, 1) := by decide +kernel
theorem dL_241 : decode code 241 = .ok (.invokevirtual 36, 3) := by decide +kernel
theorem dL_244 : decode code 244 = .ok (.aload_n 2, 1) := by decide +kernel
theorem dL_245 : decode code 245 = .ok (.aload_n 0, 1) := by decide +kernel
theorem dL_246 : decode code 246 = .ok (.iload_n 3, 1) := by decide +kernel
theorem dL_247 : decode code 247 = .ok (.iconst 1, 1) := by decide +kernel
theorem dL_248 : decode code 248 = .ok (.iadd, 1) := by decide +kernel
theorem dL_249 : decode code 249 = .ok (.iaload, 1) := by decide +kernel
theorem dL_250 : decode code 250 = .ok (.invokevirtual 39, 3) := by decide +kernel
theorem dL_253 : decode code 253 = .ok (.if_icmp .eq 261, 3) := by decide +kernel
theorem dL_256 : decode code 256 = .ok (.iconst 0, 1) := by decide +kernel
theorem dL_257 : decode code 257 = .ok (.ireturn, 1) := by decide +kernel
theorem dL_258 : decode code 258 = .ok (.aload_n 1, 1) := by decide +kernel
theorem dL_259 : decode code 259 = .ok (.invokevirtual 40, 3) := by decide +kernel
theorem dL_262 : decode code 262 = .ok (.aload_n 2, 1) := by decide +kernel
theorem dL_263 : decode code 263 = .ok (.invokevirtual 43, 3) := by decide +kernel
theorem dL_266 : decode code 266 = .ok (.if_icmp .eq 248, 3) := by decide +kernel
theorem dL_269 : decode code 269 = .ok (.iconst 0, 1) := by decide +kernel
theorem dL_270 : decode code 270 = .ok (.ireturn, 1) := by decide +kernel
theorem dL_271 : decode code 271 = .ok (.aload_n 1, 1) := by decide +kernel
theorem dL_272 : decode code 272 = .ok (.invokevirtual 44, 3) := by decide +kernel
theorem dL_275 : decode code 275 = .ok (.aload_n 2, 1) := by decide +kernel
theorem dL_276 : decode code 276 = .ok (.invokevirtual 47, 3) := by decide +kernel
theorem dL_279 : decode code 279 = .ok (.if_icmp .eq 235, 3) := by decide +kernel
theorem dL_282 : decode code 282 = .ok (.iconst 0, 1) := by decide +kernel
theorem dL_283 : decode code 283 = .ok (.ireturn, 1) := by decide +kernel
theorem dL_284 : decode code 284 = .ok (.aload_n 1, 1) := by decide +kernel
theorem dL_285 : decode code 285 = .ok (.aload_n 0, 1) := by decide +kernel
theorem dL_286 : decode code 286 = .ok (.iload_n 3, 1) := by decide +kernel
theorem dL_287 : decode code 287 = .ok (.iconst 1, 1) := by decide +kernel
theorem dL_288 : decode code 288 = .ok (.iadd, 1) := by decide +kernel
theorem dL_289 : decode code 289 = .ok (.iaload, 1) := by decide +kernel
theorem dL_290 : decode code 290 = .ok (.invokevirtual 48, 3) := by decide +kernel
theorem dL_293 : decode code 293 = .ok (.aload_n 2, 1) := by decide +kernel
theorem dL_294 : decode code 294 = .ok (.aload_n 0, 1) := by decide +kernel
theorem dL_295 : decode code 295 = .ok (.iload_n 3, 1) := by decide +kernel
theorem dL_296 : decode code 296 = .ok (.iconst 1, 1) := by decide +kernel
theorem dL_297 : decode code 297 = .ok (.iadd, 1) := by decide +kernel
theorem dL_298 : decode code 298 = .ok (.iaload, 1) := by decide +kernel
theorem dL_299 : decode code 299 = .ok (.invokevirtual 51, 3) := by decide +kernel
theorem dL_302 : decode code 302 = .ok (.if_icmp .eq 212, 3) := by decide +kernel
theorem dL_305 : decode code 305 = .ok (.iconst 0, 1) := by decide +kernel
theorem dL_306 : decode code 306 = .ok (.ireturn, 1) := by decide +kernel
theorem dL_307 : decode code 307 = .ok (.aload_n 1, 1) := by decide +kernel
theorem dL_308 : decode code 308 = .ok (.invokevirtual 52, 3) := by decide +kernel
theorem dL_311 : decode code 311 = .ok (.aload_n 2, 1) := by decide +kernel
theorem dL_312 : decode code 312 = .ok (.invokevirtual 55, 3) := by decide +kernel
theorem dL_315 : decode code 315 = .ok (.if_icmp .eq 199, 3) := by decide +kernel
theorem dL_318 : decode code 318 = .ok (.iconst 0, 1) := by decide +kernel
theorem dL_319 : decode code 319 = .ok (.ireturn, 1) := by decide +kernel
theorem dL_320 : decode code 320 = .ok (.aload_n 1, 1) := by decide +kernel
theorem dL_321 : decode code 321 = .ok (.aload_n 0, 1) := by decide +kernel
theorem dL_322 : decode code 322 = .ok (.iload_n 3, 1) := by decide +kernel
theorem dL_323 : decode code 323 = .ok (.iconst 1, 1) := by decide +kernel
theorem dL_324 : decode code 324 = .ok (.iadd, 1) := by decide +kernel
theorem dL_325 : decode code 325 = .ok (.iaload, 1) := by decide +kernel
theorem dL_326 : decode code 326 = .ok (.aload_n 0, 1) := by decide +kernel
theorem dL_327 : decode code 327 = .ok (.iload_n 3, 1) := by decide +kernel
theorem dL_328 : decode code 328 = .ok (.iconst 2, 1) := by decide +kernel
theorem dL_329 : decode code 329 = .ok (.iadd, 1) := by decide +kernel
theorem dL_330 : decode code 330 = .ok (.iaload, 1) := by decide +kernel
theorem dL_331 : decode code 331 = .ok (.aload_n 0, 1) := by decide +kernel
theorem dL_332 : decode code 332 = .ok (.iload_n 3, 1) := by decide +kernel
theorem dL_333 : decode code 333 = .ok (.iconst 3, 1) := by decide +kernel
theorem dL_334 : decode code 334 = .ok (.iadd, 1) := by decide +kernel
theorem dL_335 : decode code 335 = .ok (.iaload, 1) := by decide +kernel
theorem dL_336 : decode code 336 = .ok (.invokevirtual 56, 3) := by decide +kernel
theorem dL_339 : decode code 339 = .ok (.aload_n 2, 1) := by decide +kernel
theorem dL_340 : decode code 340 = .ok (.aload_n 0, 1) := by decide +kernel
theorem dL_341 : decode code 341 = .ok (.iload_n 3, 1) := by decide +kernel
theorem dL_342 : decode code 342 = .ok (.iconst 1, 1) := by decide +kernel
theorem dL_343 : decode code 343 = .ok (.iadd, 1) := by decide +kernel
theorem dL_344 : decode code 344 = .ok (.iaload, 1) := by decide +kernel
theorem dL_345 : decode code 345 = .ok (.aload_n 0, 1) := by decide +kernel
theorem dL_346 : decode code 346 = .ok (.iload_n 3, 1) := by decide +kernel
theorem dL_347 : decode code 347 = .ok (.iconst 2, 1) := by decide +kernel
theorem dL_348 : decode code 348 = .ok (.iadd, 1) := by decide +kernel
theorem dL_349 : decode code 349 = .ok (.iaload, 1) := by decide +kernel
theorem dL_350 : decode code 350 = .ok (.aload_n 0, 1) := by decide +kernel
theorem dL_351 : decode code 351 = .ok (.iload_n 3, 1) := by decide +kernel
theorem dL_352 : decode code 352 = .ok (.iconst 3, 1) := by decide +kernel
theorem dL_353 : decode code 353 = .ok (.iadd, 1) := by decide +kernel
theorem dL_354 : decode code 354 = .ok (.iaload, 1) := by decide +kernel
theorem dL_355 : decode code 355 = .ok (.invokevirtual 59, 3) := by decide +kernel
theorem dL_358 : decode code 358 = .ok (.if_icmp .eq 156, 3) := by decide +kernel
theorem dL_361 : decode code 361 = .ok (.iconst 0, 1) := by decide +kernel
theorem dL_362 : decode code 362 = .ok (.ireturn, 1) := by decide +kernel
theorem dL_363 : decode code 363 = .ok (.aload_n 1, 1) := by decide +kernel
theorem dL_364 : decode code 364 = .ok (.aload_n 0, 1) := by decide +kernel
theorem dL_365 : decode code 365 = .ok (.iload_n 3, 1) := by decide +kernel
theorem dL_366 : decode code 366 = .ok (.iconst 1, 1) := by decide +kernel
theorem dL_367 : decode code 367 = .ok (.iadd, 1) := by decide +kernel
theorem dL_368 : decode code 368 = .ok (.iaload, 1) := by decide +kernel
theorem dL_369 : decode code 369 = .ok (.aload_n 0, 1) := by decide +kernel
theorem dL_370 : decode code 370 = .ok (.iload_n 3, 1) := by decide +kernel
theorem dL_371 : decode code 371 = .ok (.iconst 2, 1) := by decide +kernel
theorem dL_372 : decode code 372 = .ok (.iadd, 1) := by decide +kernel
theorem dL_373 : decode code 373 = .ok (.iaload, 1) := by decide +kernel
theorem dL_374 : decode code 374 = .ok (.invokevirtual 60, 3) := by decide +kernel
theorem dL_377 : decode code 377 = .ok (.aload_n 2, 1) := by decide +kernel
theorem dL_378 : decode code 378 = .ok (.aload_n 0, 1) := by decide +kernel
theorem dL_379 : decode code 379 = .ok (.iload_n 3, 1) := by decide +kernel
theorem dL_380 : decode code 380 = .ok (.iconst 1, 1) := by decide +kernel
theorem dL_381 : decode code 381 = .ok (.iadd, 1) := by decide +kernel
theorem dL_382 : decode code 382 = .ok (.iaload, 1) := by decide +kernel
theorem dL_383 : decode code 383 = .ok (.aload_n 0, 1) := by decide +kernel
theorem dL_384 : decode code 384 = .ok (.iload_n 3, 1) := by decide +kernel
theorem dL_385 : decode code 385 = .ok (.iconst 2, 1) := by decide +kernel
theorem dL_386 : decode code 386 = .ok (.iadd, 1) := by decide +kernel
theorem dL_387 : decode code 387 = .ok (.iaload, 1) := by decide +kernel
theorem dL_388 : decode code 388 = .ok (.invokevirtual 64, 3) := by decide +kernel
theorem dL_391 : decode code 391 = .ok (.if_icmp .eq 123, 3) := by decide +kernel
theorem dL_394 : decode code 394 = .ok (.iconst 0, 1) := by decide +kernel
theorem dL_395 : decode code 395 = .ok (.ireturn, 1) := by decide +kernel
theorem dL_396 : decode code 396 = .ok (.aload_n 1, 1) := by decide +kernel
theorem dL_397 : decode code 397 = .ok (.aload_n 0, 1) := by decide +kernel
theorem dL_398 : decode code 398 = .ok (.iload_n 3, 1) := by decide +kernel
theorem dL_399 : decode code 399 = .ok (.iconst 1, 1) := by decide +kernel
theorem dL_400 : decode code 400 = .ok (.iadd, 1) := by decide +kernel
theorem dL_401 : decode code 401 = .ok (.iaload, 1) := by decide +kernel
theorem dL_402 : decode code 402 = .ok (.invokevirtual 65, 3) := by decide +kernel
theorem dL_405 : decode code 405 = .ok (.aload_n 2, 1) := by decide +kernel
theorem dL_406 : decode code 406 = .ok (.aload_n 0, 1) := by decide +kernel
theorem dL_407 : decode code 407 = .ok (.iload_n 3, 1) := by decide +kernel
theorem dL_408 : decode code 408 = .ok (.iconst 1, 1) := by decide +kernel
theorem dL_409 : decode code 409 = .ok (.iadd, 1) := by decide +kernel
theorem dL_410 : decode code 410 = .ok (.iaload, 1) := by decide +kernel
theorem dL_411 : decode code 411 = .ok (.invokevirtual 68, 3) := by decide +kernel
theorem dL_414 : decode code 414 = .ok (.if_icmp .eq 100, 3) := by decide +kernel
theorem dL_417 : decode code 417 = .ok (.iconst 0, 1) := by decide +kernel
theorem dL_418 : decode code 418 = .ok (.ireturn, 1) := by decide +kernel
theorem dL_419 : decode code 419 = .ok (.aload_n 1, 1) := by decide +kernel
theorem dL_420 : decode code 420 = .ok (.invokevirtual 69, 3) := by decide +kernel
theorem dL_423 : decode code 423 = .ok (.aload_n 2, 1) := by decide +kernel
theorem dL_424 : decode code 424 = .ok (.invokevirtual 72, 3) := by decide +kernel
theorem dL_427 : decode code 427 = .ok (.if_icmp .eq 87, 3) := by decide +kernel
theorem dL_430 : decode code 430 = .ok (.iconst 0, 1) := by decide +kernel
theorem dL_431 : decode code 431 = .ok (.ireturn, 1) := by decide +kernel
theorem dL_432 : decode code 432 = .ok (.aload_n 1, 1) := by decide +kernel
theorem dL_433 : decode code 433 = .ok (.invokevirtual 73, 3) := by decide +kernel
theorem dL_436 : decode code 436 = .ok (.aload_n 2, 1) := by decide +kernel
theorem dL_437 : decode code 437 = .ok (.invokevirtual 76, 3) := by decide +kernel
theorem dL_440 : decode code 440 = .ok (.if_icmp .eq 74, 3) := by decide +kernel
theorem dL_443 : decode code 443 = .ok (.iconst 0, 1) := by decide +kernel
theorem dL_444 : decode code 444 = .ok (.ireturn, 1) := by decide +kernel
theorem dL_445 : decode code 445 = .ok (.aload_n 1, 1) := by decide +kernel
theorem dL_446 : decode code 446 = .ok (.aload_n 0, 1) := by decide +kernel
theorem dL_447 : decode code 447 = .ok (.iload_n 3, 1) := by decide +kernel
theorem dL_448 : decode code 448 = .ok (.iconst 1, 1) := by decide +kernel
theorem dL_449 : decode code 449 = .ok (.iadd, 1) := by decide +kernel
theorem dL_450 : decode code 450 = .ok (.iaload, 1) := by decide +kernel
theorem dL_451 : decode code 451 = .ok (.invokevirtual 77, 3) := by decide +kernel
theorem dL_454 : decode code 454 = .ok (.aload_n 2, 1) := by decide +kernel
theorem dL_455 : decode code 455 = .ok (.aload_n 0, 1) := by decide +kernel
theorem dL_456 : decode code 456 = .ok (.iload_n 3, 1) := by decide +kernel
theorem dL_457 : decode code 457 = .ok (.iconst 1, 1) := by decide +kernel
theorem dL_458 : decode code 458 = .ok (.iadd, 1) := by decide +kernel
theorem dL_459 : decode code 459 = .ok (.iaload, 1) := by decide +kernel
theorem dL_460 : decode code 460 = .ok (.invokevirtual 80, 3) := by decide +kernel
theorem dL_463 : decode code 463 = .ok (.if_icmp .eq 51, 3) := by decide +kernel
theorem dL_466 : decode code 466 = .ok (.iconst 0, 1) := by decide +kernel
theorem dL_467 : decode code 467 = .ok (.ireturn, 1) := by decide +kernel
theorem dL_468 : decode code 468 = .ok (.aload_n 1, 1) := by decide +kernel
theorem dL_469 : decode code 469 = .ok (.aload_n 0, 1) := by decide +kernel
theorem dL_470 : decode code 470 = .ok (.iload_n 3, 1) := by decide +kernel
theorem dL_471 : decode code 471 = .ok (.iconst 1, 1) := by decide +kernel
theorem dL_472 : decode code 472 = .ok (.iadd, 1) := by decide +kernel
theorem dL_473 : decode code 473 = .ok (.iaload, 1) := by decide +kernel
theorem dL_474 : decode code 474 = .ok (.invokevirtual 81, 3) := by decide +kernel
theorem dL_477 : decode code 477 = .ok (.aload_n 2, 1) := by decide +kernel
theorem dL_478 : decode code 478 = .ok (.aload_n 0, 1) := by decide +kernel
theorem dL_479 : decode code 479 = .ok (.iload_n 3, 1) := by decide +kernel
theorem dL_480 : decode code 480 = .ok (.iconst 1, 1) := by decide +kernel
theorem dL_481 : decode code 481 = .ok (.iadd, 1) := by decide +kernel
theorem dL_482 : decode code 482 = .ok (.iaload, 1) := by decide +kernel
theorem dL_483 : decode code 483 = .ok (.invokevirtual 84, 3) := by decide +kernel
theorem dL_486 : decode code 486 = .ok (.if_icmp .eq 28, 3) := by decide +kernel
theorem dL_489 : decode code 489 = .ok (.iconst 0, 1) := by decide +kernel
theorem dL_490 : decode code 490 = .ok (.ireturn, 1) := by decide +kernel
theorem dL_491 : decode code 491 = .ok (.aload_n 1, 1) := by decide +kernel
theorem dL_492 : decode code 492 = .ok (.aload_n 0, 1) := by decide +kernel
theorem dL_493 : decode code 493 = .ok (.iload_n 3, 1) := by decide +kernel
theorem dL_494 : decode code 494 = .ok (.iconst 1, 1) := by decide +kernel
theorem dL_495 : decode code 495 = .ok (.iadd, 1) := by decide +kernel
theorem dL_496 : decode code 496 = .ok (.iaload, 1) := by decide +kernel
theorem dL_497 : decode code 497 = .ok (.invokevirtual 85, 3) := by decide +kernel
theorem dL_500 : decode code 500 = .ok (.aload_n 2, 1) := by decide +kernel
theorem dL_501 : decode code 501 = .ok (.aload_n 0, 1) := by decide +kernel
theorem dL_502 : decode code 502 = .ok (.iload_n 3, 1) := by decide +kernel
theorem dL_503 : decode code 503 = .ok (.iconst 1, 1) := by decide +kernel
theorem dL_504 : decode code 504 = .ok (.iadd, 1) := by decide +kernel
theorem dL_505 : decode code 505 = .ok (.iaload, 1) := by decide +kernel
theorem dL_506 : decode code 506 = .ok (.invokevirtual 88, 3) := by decide +kernel
theorem dL_509 : decode code 509 = .ok (.if_icmp .eq 5, 3) := by decide +kernel
theorem dL_512 : decode code 512 = .ok (.iconst 0, 1) := by decide +kernel
theorem dL_513 : decode code 513 = .ok (.ireturn, 1) := by decide +kernel
theorem dL_514 : decode code 514 = .ok (.iinc 3 4, 3) := by decide +kernel
theorem dL_517 : decode code 517 = .ok (.goto (-499), 3) := by decide +kernel
theorem dL_520 : decode code 520 = .ok (.iconst 1, 1) := by decide +kernel
theorem dL_521 : decode code 521 = .ok (.ireturn, 1) := by decide +kernel

theorem ac_spec {s : State} {args : Array Value} {ty : FieldType} (h : (Cond.arrayClass ty).before args s = true) : ∃ cA kA comp, s.vm.findClass ("[" ++ ty.toString) = some cA ∧ s.vm.classes[cA]? = some kA ∧ kA.kind = .array comp ty := by
  simp only [Cond.before, Cond.holds, Cond.value, beq_iff_eq] at h
  cases hc : s.vm.findClass ("[" ++ ty.toString) with
  | none => simp [hc] at h
  | some cA =>
    cases hk : s.vm.classes[cA]? with
    | none => simp [hc, hk] at h
    | some kA =>
      simp only [hc, hk, Option.bind_some, Option.map_some, Option.some.injEq] at h
      cases hkk : kA.kind with
      | array comp t =>
        rw [hkk] at h
        simp only [decide_eq_true_eq] at h
        subst h
        exact ⟨cA, kA, comp, rfl, hk, hkk⟩
      | _ => rw [hkk] at h; simp at h
theorem kn_1 {s : State} {C : String} {T : u_T} {N k : Nat} (e : vwCl[k]? = some (C, T, N)) (h : ∃ (cC : ClassId) (iS : Nat → Nat), u_Kn s C T N cC iS) : ∃ ci : ClassId × (Nat → Nat), ∀ q : vw_C, vwCl[k]? = some q → u_Kn s q.1 q.2.1 q.2.2 ci.1 ci.2 := by
  obtain ⟨c, i, h⟩ := h
  refine ⟨(c, i), fun q hq => ?_⟩
  rw [e] at hq
  cases hq
  exact h
theorem kn_all {s : State} {args : Array Value} (hts : ∀ w ∈ tg, w.before args s = true) : ∀ k : Nat, ∃ ci : ClassId × (Nat → Nat), ∀ q : vw_C, vwCl[k]? = some q → u_Kn s q.1 q.2.1 q.2.2 ci.1 ci.2 := fun k => match k with
  | 0 => kn_1 (k := 0) rfl (u_known (n := 2) hts ixX0 (hts _ in_0))
  | 1 => kn_1 (k := 1) rfl (u_known (n := 1) hts ixX1 (hts _ in_1))
  | 2 => kn_1 (k := 2) rfl (u_known (n := 3) hts ixX2 (hts _ in_2))
  | 3 => kn_1 (k := 3) rfl (u_known (n := 4) hts ixX3 (hts _ in_3))
  | 4 => kn_1 (k := 4) rfl (u_known (n := 15) hts ixX4 (hts _ in_4))
  | 5 => kn_1 (k := 5) rfl (u_known (n := 2) hts ixX5 (hts _ in_5))
  | 6 => kn_1 (k := 6) rfl (u_known (n := 3) hts ixX6 (hts _ in_6))
  | 7 => kn_1 (k := 7) rfl (u_known (n := 6) hts ixX7 (hts _ in_7))
  | 8 => kn_1 (k := 8) rfl (u_known (n := 7) hts ixX8 (hts _ in_8))
  | 9 => kn_1 (k := 9) rfl (u_known (n := 4) hts ixX9 (hts _ in_9))
  | 10 => kn_1 (k := 10) rfl (u_known (n := 9) hts ixX10 (hts _ in_10))
  | 11 => kn_1 (k := 11) rfl (u_known (n := 62) hts ixX11 (hts _ in_11))
  | k + 12 => ⟨((kn_1 (k := 0) rfl (u_known (n := 2) hts ixX0 (hts _ in_0))).choose), fun q h => by simp [vwCl] at h⟩
theorem lw_NW {s : State} {b : Nat} (hts : ∀ w ∈ lw_tbl, w.before #[Value.ref b] s = true) : NW s := fun w hw => by
  have h := hts w (List.mem_filter.mp hw).1
  have hi := (List.mem_filter.mp hw).2
  cases w <;> first | (simp [isNw] at hi; done) | exact va_Nw.of rfl h | skip
  next ty =>
    cases ty <;> first | (simp [isNw] at hi; done) | skip
    exact va_AO.of h
/-- what the law's body stands on -/
theorem lw_C {p : Program} {s : State} {m : MethodId} {meth : Method} {c : Code} {b L : Nat} {xs : Nat → Int32} (C0 : lw_At p s m meth c b L xs) : ∃ (D : va_G) (cy : Nat → ClassId), vC p s m #[Value.ref b] meth c code 4 ret R_law D (cyT cy) := by
  obtain ⟨hx, hb, hr, hml, hown, hts, hX, hbl, hlocks, hgv⟩ := C0
  have htg : ∀ w ∈ tg, w.before #[Value.ref b] s = true := fun w hw => hts w (List.mem_filter.mp hw).1
  have hN := lw_NW hts
  obtain ⟨c0, k0, p0, a1, a2, a3⟩ := ac_spec (htg _ ja_int)
  obtain ⟨c1, k1, p1, b1, b2, b3⟩ := ac_spec (htg _ mi_l)
  obtain ⟨c2, k2, p2, d1, d2, d3⟩ := ac_spec (htg _ mi_z)
  obtain ⟨p3, c3, k3, e1, e2, e3, e4, e5⟩ := Cond.arrayOver_spec (va_AO.use (A := #[]) (hN _ ao_0))
  obtain ⟨p4, c4, k4, f1, f2, f3, f4, f5⟩ := Cond.arrayOver_spec (va_AO.use (A := #[]) (hN _ ao_1))
  obtain ⟨p5, c5, k5, g1, g2, g3, g4, g5⟩ := Cond.arrayOver_spec (va_AO.use (A := #[]) (hN _ ao_5))
  have kn := kn_all htg
  refine ⟨(fun k => (kn k).choose.1, fun k => (kn k).choose.2), (fun k => match k with | 0 => c0 | 1 => c1 | 2 => c2 | 3 => c3 | 4 => c4 | _ => c5), hx, hb, hml, hown, htg, hr, hlocks, ⟨fun k q hq => (kn k).choose_spec q hq, fun k q hq => ?_⟩, hN⟩
  match k, hq with
  | 0, hq => cases hq; exact ⟨fun n z => ⟨(fun k h => by cases h), k0, a2, p0, a3⟩, a1⟩
  | 1, hq => cases hq; exact ⟨fun n z => ⟨(fun k h => by cases h), k1, b2, p1, b3⟩, b1⟩
  | 2, hq => cases hq; exact ⟨fun n z => ⟨(fun k h => by cases h), k2, d2, p2, d3⟩, d1⟩
  | 3, hq => cases hq; exact ⟨fun n z => ⟨(fun k h => by cases h), k3, e3, p3, e4⟩, k3, p3, e3, e4, e1, e5⟩
  | 4, hq => cases hq; exact ⟨fun n z => ⟨(fun k h => by cases h), k4, f3, p4, f4⟩, k4, p4, f3, f4, f1, f5⟩
  | 5, hq => cases hq; exact ⟨fun n z => ⟨(fun k h => by cases h), k5, g3, p5, g4⟩, k5, p5, g3, g4, g1, g5⟩
  | k + 6, hq => simp [cyT] at hq
section LM
variable {p : Program} {l : Launch} {e : Env} {R : Room} {s : State} {m : MethodId} {args : Array Value} {below : List Frame} {meth : Method} {c : Code} {Q : State → Prop} {cc : ByteArray} {nL kc ks pc : Nat} {ret : Option FieldType} {own : String} {D : va_G} {ls : List (Nat × Value)} {st : List Value} {cy : Nat → ClassId} {b0 : Nat}
theorem fv_blank (ad : Nat → Nat) : (List.range 62).map (fvN ad 0 mz) = (List.range 62).map (fun k => if mref k = 0 then Value.int 0 else .null) := by
  apply List.map_congr_left
  intro k _
  unfold fvN
  by_cases h : mref k = 0
  · rw [if_pos h, if_pos h]; rfl
  · rw [if_neg h, if_neg h, if_neg (by omega)]
theorem wmN_0 (cy : Nat → ClassId) (ad : Nat → Nat) : wmN cy ad 0 0 mz = [(ad 0, .inr (11, (List.range 62).map (fun k => if mref k = 0 then Value.int 0 else .null)))] := by
  unfold wmN
  show [(ad 0, cellN cy ad 0 mz 0)] = _
  rw [← fv_blank ad]
  rfl
/-- the reference's cell is made -/
theorem lm_new (C : vC p s m args meth c cc nL ret own D (cyT cy)) (hz : s.heap.size = b0) {idx : Nat} (h1 : Cond.classLink own idx RX11 ∈ tg) (hR1 : 49 + 1 ≤ R.cells) (hR2 : ks + 62 ≤ R.slots) (d : decode cc pc = .ok (.new idx, 3)) (k : V p l e R s m args below meth c D (geA b0) nL Q 50 (ks + 62) (wc cy (adL b0) kz ++ wmN cy (adM b0) 0 0 mz) (pc + 3) ls (.ref (adM b0 0) :: st)) : V p l e R s m args below meth c D (geA b0) nL Q 49 ks (wc cy (adL b0) kz) pc ls st := fun H locs la hP hD hS hl => by
  refine va_new C.1 C.2.1 C.2.2.2.2.1 ixX11 tyX11 tyX11_ok C.2.2.2.1 (C.2.2.2.2.1 _ h1) (C.2.2.2.2.1 _ in_11) (C.2.2.2.2.1 _ ini_11) C.2.2.2.2.2.2.2.1 hP hD hS (fun q h => hz ▸ h) (ci := 11) rfl df_11 hR1 hR2 d (fun q H1 hP1 hD1 hS1 => ?_)
  intro T hT X
  have hb : H1.size ≤ b0 + 50 := by
    have := X.heapSize
    rw [hT, hz] at this
    exact this
  have hlen : (wc cy (adL b0) kz).length = 49 := wc_length cy (adL b0) kz
  have hlast : (wc cy (adL b0) kz ++ [(q, (.inr (11, (List.range 62).map (fun k => if mref k = 0 then Value.int 0 else .null)) : va_E))])[49]? = some (q, (.inr (11, (List.range 62).map (fun k => if mref k = 0 then Value.int 0 else .null)) : va_E)) := by
    rw [List.getElem?_append_right (by omega)]; simp [hlen]
  have hlt : q < H1.size := (hP1 _ _ hlast).lt
  have hge : b0 ≤ q := hD1.2 _ _ hlast
  have hq : q = adM b0 0 := by
    show q = b0 + 49 + 0
    by_cases h8 : q - b0 < 49
    · have hj' : (wc cy (adL b0) kz ++ [(q, (.inr (11, (List.range 62).map (fun k => if mref k = 0 then Value.int 0 else .null)) : va_E))])[q - b0]? = some (adL b0 (q - b0), cellC cy (adL b0) kz (q - b0)) := by
        rw [List.getElem?_append_left (by omega)]; exact wc_at cy (adL b0) kz (by omega)
      have := hD1.1 _ _ _ _ hj' hlast (show adL b0 (q - b0) = q by rw [adL_lo h8]; omega)
      omega
    · omega
  subst hq
  rw [← wmN_0 cy (adM b0)] at hP1 hD1
  exact k H1 locs la hP1 hD1 hS1 hl T hT X
/-- the reference is made -/
theorem lm_init (C : vC p s m args meth c cc nL ret own D (cyT cy)) (hz : s.heap.size = b0) {idx : Nat} (hlk : Cond.methodLink own idx yX11_init ∈ tg) (hR : 2 + 1 ≤ R.frames ∧ 8 + (2 + 11) + 60 ≤ R.locals) (hf : 50 + 33 ≤ R.cells ∧ ks + 16130 ≤ R.slots) (hcat : (st.map fun v => v.category).sum ≤ 8) (d : decode cc pc = .ok (.invokespecial idx, 3)) (k : V p l e R s m args below meth c D (geA b0) nL Q 83 (ks + 16130) (wl cy b0 kz mu0) (pc + 3) ls st) : V p l e R s m args below meth c D (geA b0) nL Q 50 ks (wc cy (adL b0) kz ++ wmN cy (adM b0) 0 0 mz) pc ls (.ref (adM b0 0) :: st) := fun H locs la hP hD hS hl => by
  intro T hT X
  have hlen : (wc cy (adL b0) kz).length = 49 := wc_length cy (adL b0) kz
  have hP1 : va_P D vwCl (wc cy (adL b0) kz) H := fun k q hk => hP k q (by
    rw [List.getElem?_append_left ((List.getElem?_eq_some_iff.mp hk).1)]; exact hk)
  have hP2 : va_P D vwCl (wmN cy (adM b0) 0 0 mz) H := fun k q hk => hP (49 + k) q (by
    rw [List.getElem?_append_right (by omega), hlen, show 49 + k - 49 = k by omega]; exact hk)
  have hb : H.size = adM b0 1 := by
    have h1 := X.heapSize
    rw [hT, hz] at h1
    have h2 := (hP2 0 _ (wmN_at cy (adM b0) 0 0 mz (by decide))).lt
    unfold adM at h2 ⊢
    simp only at h2
    omega
  obtain ⟨y1, y3, y4, y5, y6, y7, y8⟩ := hYI_11
  obtain ⟨v, st₀, t, T', L, h0, X', hL, e1, e2, ⟨hv, hp, hs, hz9, hk⟩, stp⟩ := va_runI (Ts := tg) (n := 0) (bytes := cX11_init) (maxL := 2) (As := []) (rest := st) ⟨C.1, C.2.1, C.2.2.1, C.2.2.2.1, C.2.2.2.2.1⟩ (c_Model_init (cy := cy) (D := D) (adM_C b0)) (cwI 0 C.2.2.2.2.1 (tg_code y4) rfl rfl rfl (C.2.2.2.2.1 _ y3) (C.2.2.2.2.1 _ hlk) (C.2.2.2.2.1 _ y1) y5 ⟨y6, y7, y8⟩ hR) ⟨fun a U g mk q => by
      obtain ⟨q0, qP, qK, qN, qs⟩ := q
      exact ⟨q0, qP, va_K.moved (u := U) (U := U.calling g mk a) (Vm.Alike.refl U.vm) qK, NW.same (u := U) (U := U.calling g mk a) rfl qN, qs⟩, fun U hU hW => ⟨rfl, by rw [hU]; exact hP2, va_K.moved hW.alike C.2.2.2.2.2.2.2.1, NW.warm hW C.2.2.2.2.2.2.2.2, by rw [hU]; exact hb⟩⟩ rfl rfl hl.1 rfl (lv_room hcat) d hf T hT X
  cases hv
  rw [h0] at hz9 hk
  have hge : ∀ q, geA (adM b0 0) q → geA b0 q := fun q h => by
    have h : adM b0 0 ≤ q := h
    unfold adM at h
    show b0 ≤ q
    omega
  have hc : va_P D vwCl (wc cy (adL b0) kz) T'.heap := hP1.kept (fun k x hx => by
    obtain ⟨a1, a2⟩ := wc_len cy _ kz hx
    rw [e1]
    refine hk x.1 ((hP1 k x hx).lt) (fun g => ?_)
    have g : adM b0 0 ≤ x.1 := g
    rw [a2, adL_lo (show k < 49 from a1)] at g
    unfold adM at g
    have a1' : k < 49 := a1
    omega)
  obtain ⟨t2, a1, b1⟩ := k T'.heap (locs ++ L) la (va_P.app hc (by rw [e1]; exact hp)) (wl_D cy b0 kz mu0) ⟨Nat.le_trans hS.1 (by rw [e1]; exact hz9), fun q h1 h2 => by rw [e1, hk q (Nat.lt_of_lt_of_le h1 hS.1) (fun g => h2 (hge q g))]; exact hS.2.1 q h1 h2, fun q hq => by
      rcases List.mem_append.mp hq with h | h
      · exact hS.2.2 q h
      · exact hge _ (hL q h)⟩ hl T' rfl X'
  exact ⟨t2, stp t2 a1, b1⟩
end LM
