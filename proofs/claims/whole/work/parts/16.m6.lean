theorem dX11_handsTerm_0 : decode cX11_handsTerm 0 = .ok (.aload_n 0, 1) := by decide +kernel
theorem dX11_handsTerm_1 : decode cX11_handsTerm 1 = .ok (.getfield 219, 3) := by decide +kernel
theorem dX11_handsTerm_4 : decode cX11_handsTerm 4 = .ok (.iconst 1, 1) := by decide +kernel
theorem dX11_handsTerm_5 : decode cX11_handsTerm 5 = .ok (.isub, 1) := by decide +kernel
theorem dX11_handsTerm_6 : decode cX11_handsTerm 6 = .ok (.istore_n 1, 1) := by decide +kernel
theorem dX11_handsTerm_7 : decode cX11_handsTerm 7 = .ok (.aload_n 0, 1) := by decide +kernel
theorem dX11_handsTerm_8 : decode cX11_handsTerm 8 = .ok (.iload_n 1, 1) := by decide +kernel
theorem dX11_handsTerm_9 : decode cX11_handsTerm 9 = .ok (.invokevirtual 334, 3) := by decide +kernel
theorem dX11_handsTerm_12 : decode cX11_handsTerm 12 = .ok (.aload_n 0, 1) := by decide +kernel
theorem dX11_handsTerm_13 : decode cX11_handsTerm 13 = .ok (.getfield 82, 3) := by decide +kernel
theorem dX11_handsTerm_16 : decode cX11_handsTerm 16 = .ok (.iload_n 1, 1) := by decide +kernel
theorem dX11_handsTerm_17 : decode cX11_handsTerm 17 = .ok (.iaload, 1) := by decide +kernel
theorem dX11_handsTerm_18 : decode cX11_handsTerm 18 = .ok (.tableswitch 325 0 12 #[66, 325, 325, 325, 325, 325, 105, 138, 190, 198, 198, 206, 286], 66) := by decide +kernel
theorem dX11_handsTerm_84 : decode cX11_handsTerm 84 = .ok (.aload_n 0, 1) := by decide +kernel
theorem dX11_handsTerm_85 : decode cX11_handsTerm 85 = .ok (.dup, 1) := by decide +kernel
theorem dX11_handsTerm_86 : decode cX11_handsTerm 86 = .ok (.getfield 219, 3) := by decide +kernel
theorem dX11_handsTerm_89 : decode cX11_handsTerm 89 = .ok (.iconst 1, 1) := by decide +kernel
theorem dX11_handsTerm_90 : decode cX11_handsTerm 90 = .ok (.isub, 1) := by decide +kernel
theorem dX11_handsTerm_91 : decode cX11_handsTerm 91 = .ok (.putfield 219, 3) := by decide +kernel
theorem dX11_handsTerm_94 : decode cX11_handsTerm 94 = .ok (.aload_n 0, 1) := by decide +kernel
theorem dX11_handsTerm_95 : decode cX11_handsTerm 95 = .ok (.aload_n 0, 1) := by decide +kernel
theorem dX11_handsTerm_96 : decode cX11_handsTerm 96 = .ok (.getfield 85, 3) := by decide +kernel
theorem dX11_handsTerm_99 : decode cX11_handsTerm 99 = .ok (.iload_n 1, 1) := by decide +kernel
theorem dX11_handsTerm_100 : decode cX11_handsTerm 100 = .ok (.iaload, 1) := by decide +kernel
theorem dX11_handsTerm_101 : decode cX11_handsTerm 101 = .ok (.aload_n 0, 1) := by decide +kernel
theorem dX11_handsTerm_102 : decode cX11_handsTerm 102 = .ok (.aload_n 0, 1) := by decide +kernel
theorem dX11_handsTerm_103 : decode cX11_handsTerm 103 = .ok (.getfield 103, 3) := by decide +kernel
theorem dX11_handsTerm_106 : decode cX11_handsTerm 106 = .ok (.iload_n 1, 1) := by decide +kernel
theorem dX11_handsTerm_107 : decode cX11_handsTerm 107 = .ok (.iaload, 1) := by decide +kernel
theorem dX11_handsTerm_108 : decode cX11_handsTerm 108 = .ok (.bipush (-9), 2) := by decide +kernel
theorem dX11_handsTerm_110 : decode cX11_handsTerm 110 = .ok (.aload_n 0, 1) := by decide +kernel
theorem dX11_handsTerm_111 : decode cX11_handsTerm 111 = .ok (.getfield 249, 3) := by decide +kernel
theorem dX11_handsTerm_114 : decode cX11_handsTerm 114 = .ok (.invokevirtual 343, 3) := by decide +kernel
theorem dX11_handsTerm_117 : decode cX11_handsTerm 117 = .ok (.invokevirtual 278, 3) := by decide +kernel
theorem dX11_handsTerm_120 : decode cX11_handsTerm 120 = .ok (.goto 255, 3) := by decide +kernel
theorem dX11_handsTerm_123 : decode cX11_handsTerm 123 = .ok (.aload_n 0, 1) := by decide +kernel
theorem dX11_handsTerm_124 : decode cX11_handsTerm 124 = .ok (.dup, 1) := by decide +kernel
theorem dX11_handsTerm_125 : decode cX11_handsTerm 125 = .ok (.getfield 219, 3) := by decide +kernel
theorem dX11_handsTerm_128 : decode cX11_handsTerm 128 = .ok (.iconst 1, 1) := by decide +kernel
theorem dX11_handsTerm_129 : decode cX11_handsTerm 129 = .ok (.isub, 1) := by decide +kernel
theorem dX11_handsTerm_130 : decode cX11_handsTerm 130 = .ok (.putfield 219, 3) := by decide +kernel
theorem dX11_handsTerm_133 : decode cX11_handsTerm 133 = .ok (.aload_n 0, 1) := by decide +kernel
theorem dX11_handsTerm_134 : decode cX11_handsTerm 134 = .ok (.aload_n 0, 1) := by decide +kernel
theorem dX11_handsTerm_135 : decode cX11_handsTerm 135 = .ok (.getfield 85, 3) := by decide +kernel
theorem dX11_handsTerm_138 : decode cX11_handsTerm 138 = .ok (.iload_n 1, 1) := by decide +kernel
theorem dX11_handsTerm_139 : decode cX11_handsTerm 139 = .ok (.iaload, 1) := by decide +kernel
theorem dX11_handsTerm_140 : decode cX11_handsTerm 140 = .ok (.aload_n 0, 1) := by decide +kernel
theorem dX11_handsTerm_141 : decode cX11_handsTerm 141 = .ok (.getfield 103, 3) := by decide +kernel
theorem dX11_handsTerm_144 : decode cX11_handsTerm 144 = .ok (.iload_n 1, 1) := by decide +kernel
theorem dX11_handsTerm_145 : decode cX11_handsTerm 145 = .ok (.iaload, 1) := by decide +kernel
theorem dX11_handsTerm_146 : decode cX11_handsTerm 146 = .ok (.aload_n 0, 1) := by decide +kernel
theorem dX11_handsTerm_147 : decode cX11_handsTerm 147 = .ok (.getfield 249, 3) := by decide +kernel
theorem dX11_handsTerm_150 : decode cX11_handsTerm 150 = .ok (.invokevirtual 287, 3) := by decide +kernel
theorem dX11_handsTerm_153 : decode cX11_handsTerm 153 = .ok (.goto 222, 3) := by decide +kernel
theorem dX11_handsTerm_156 : decode cX11_handsTerm 156 = .ok (.aload_n 0, 1) := by decide +kernel
theorem dX11_handsTerm_157 : decode cX11_handsTerm 157 = .ok (.getfield 103, 3) := by decide +kernel
theorem dX11_handsTerm_160 : decode cX11_handsTerm 160 = .ok (.iload_n 1, 1) := by decide +kernel
theorem dX11_handsTerm_161 : decode cX11_handsTerm 161 = .ok (.aload_n 0, 1) := by decide +kernel
theorem dX11_handsTerm_162 : decode cX11_handsTerm 162 = .ok (.getfield 249, 3) := by decide +kernel
theorem dX11_handsTerm_165 : decode cX11_handsTerm 165 = .ok (.iastore, 1) := by decide +kernel
theorem dX11_handsTerm_166 : decode cX11_handsTerm 166 = .ok (.aload_n 0, 1) := by decide +kernel
theorem dX11_handsTerm_167 : decode cX11_handsTerm 167 = .ok (.getfield 106, 3) := by decide +kernel
theorem dX11_handsTerm_170 : decode cX11_handsTerm 170 = .ok (.iload_n 1, 1) := by decide +kernel
theorem dX11_handsTerm_171 : decode cX11_handsTerm 171 = .ok (.aload_n 0, 1) := by decide +kernel
theorem dX11_handsTerm_172 : decode cX11_handsTerm 172 = .ok (.getfield 252, 3) := by decide +kernel
theorem dX11_handsTerm_175 : decode cX11_handsTerm 175 = .ok (.iastore, 1) := by decide +kernel
theorem dX11_handsTerm_176 : decode cX11_handsTerm 176 = .ok (.aload_n 0, 1) := by decide +kernel
theorem dX11_handsTerm_177 : decode cX11_handsTerm 177 = .ok (.getfield 82, 3) := by decide +kernel
theorem dX11_handsTerm_180 : decode cX11_handsTerm 180 = .ok (.iload_n 1, 1) := by decide +kernel
theorem dX11_handsTerm_181 : decode cX11_handsTerm 181 = .ok (.bipush 8, 2) := by decide +kernel
theorem dX11_handsTerm_183 : decode cX11_handsTerm 183 = .ok (.iastore, 1) := by decide +kernel
theorem dX11_handsTerm_184 : decode cX11_handsTerm 184 = .ok (.aload_n 0, 1) := by decide +kernel
theorem dX11_handsTerm_185 : decode cX11_handsTerm 185 = .ok (.iconst 0, 1) := by decide +kernel
theorem dX11_handsTerm_186 : decode cX11_handsTerm 186 = .ok (.putfield 243, 3) := by decide +kernel
theorem dX11_handsTerm_189 : decode cX11_handsTerm 189 = .ok (.aload_n 0, 1) := by decide +kernel
theorem dX11_handsTerm_190 : decode cX11_handsTerm 190 = .ok (.iconst 3, 1) := by decide +kernel
theorem dX11_handsTerm_191 : decode cX11_handsTerm 191 = .ok (.aload_n 0, 1) := by decide +kernel
theorem dX11_handsTerm_192 : decode cX11_handsTerm 192 = .ok (.getfield 252, 3) := by decide +kernel
theorem dX11_handsTerm_195 : decode cX11_handsTerm 195 = .ok (.iconst 1, 1) := by decide +kernel
theorem dX11_handsTerm_196 : decode cX11_handsTerm 196 = .ok (.iadd, 1) := by decide +kernel
theorem dX11_handsTerm_197 : decode cX11_handsTerm 197 = .ok (.aload_n 0, 1) := by decide +kernel
theorem dX11_handsTerm_198 : decode cX11_handsTerm 198 = .ok (.getfield 222, 3) := by decide +kernel
theorem dX11_handsTerm_201 : decode cX11_handsTerm 201 = .ok (.iconst 0, 1) := by decide +kernel
theorem dX11_handsTerm_202 : decode cX11_handsTerm 202 = .ok (.invokevirtual 274, 3) := by decide +kernel
theorem dX11_handsTerm_205 : decode cX11_handsTerm 205 = .ok (.goto 170, 3) := by decide +kernel
theorem dX11_handsTerm_208 : decode cX11_handsTerm 208 = .ok (.aload_n 0, 1) := by decide +kernel
theorem dX11_handsTerm_209 : decode cX11_handsTerm 209 = .ok (.iload_n 1, 1) := by decide +kernel
theorem dX11_handsTerm_210 : decode cX11_handsTerm 210 = .ok (.invokevirtual 349, 3) := by decide +kernel
theorem dX11_handsTerm_213 : decode cX11_handsTerm 213 = .ok (.goto 162, 3) := by decide +kernel
theorem dX11_handsTerm_216 : decode cX11_handsTerm 216 = .ok (.aload_n 0, 1) := by decide +kernel
theorem dX11_handsTerm_217 : decode cX11_handsTerm 217 = .ok (.iload_n 1, 1) := by decide +kernel
theorem dX11_handsTerm_218 : decode cX11_handsTerm 218 = .ok (.invokevirtual 352, 3) := by decide +kernel
theorem dX11_handsTerm_221 : decode cX11_handsTerm 221 = .ok (.goto 154, 3) := by decide +kernel
theorem dX11_handsTerm_224 : decode cX11_handsTerm 224 = .ok (.aload_n 0, 1) := by decide +kernel
theorem dX11_handsTerm_225 : decode cX11_handsTerm 225 = .ok (.getfield 103, 3) := by decide +kernel
theorem dX11_handsTerm_228 : decode cX11_handsTerm 228 = .ok (.iload_n 1, 1) := by decide +kernel
theorem dX11_handsTerm_229 : decode cX11_handsTerm 229 = .ok (.aload_n 0, 1) := by decide +kernel
theorem dX11_handsTerm_230 : decode cX11_handsTerm 230 = .ok (.getfield 249, 3) := by decide +kernel
theorem dX11_handsTerm_233 : decode cX11_handsTerm 233 = .ok (.iastore, 1) := by decide +kernel
theorem dX11_handsTerm_234 : decode cX11_handsTerm 234 = .ok (.aload_n 0, 1) := by decide +kernel
theorem dX11_handsTerm_235 : decode cX11_handsTerm 235 = .ok (.getfield 82, 3) := by decide +kernel
theorem dX11_handsTerm_238 : decode cX11_handsTerm 238 = .ok (.iload_n 1, 1) := by decide +kernel
theorem dX11_handsTerm_239 : decode cX11_handsTerm 239 = .ok (.bipush 12, 2) := by decide +kernel
theorem dX11_handsTerm_241 : decode cX11_handsTerm 241 = .ok (.iastore, 1) := by decide +kernel
theorem dX11_handsTerm_242 : decode cX11_handsTerm 242 = .ok (.aload_n 0, 1) := by decide +kernel
theorem dX11_handsTerm_243 : decode cX11_handsTerm 243 = .ok (.iconst 0, 1) := by decide +kernel
theorem dX11_handsTerm_244 : decode cX11_handsTerm 244 = .ok (.putfield 243, 3) := by decide +kernel
theorem dX11_handsTerm_247 : decode cX11_handsTerm 247 = .ok (.aload_n 0, 1) := by decide +kernel
theorem dX11_handsTerm_248 : decode cX11_handsTerm 248 = .ok (.iconst 3, 1) := by decide +kernel
theorem dX11_handsTerm_249 : decode cX11_handsTerm 249 = .ok (.aload_n 0, 1) := by decide +kernel
theorem dX11_handsTerm_250 : decode cX11_handsTerm 250 = .ok (.aload_n 0, 1) := by decide +kernel
theorem dX11_handsTerm_251 : decode cX11_handsTerm 251 = .ok (.getfield 228, 3) := by decide +kernel
theorem dX11_handsTerm_254 : decode cX11_handsTerm 254 = .ok (.iconst 1, 1) := by decide +kernel
theorem dX11_handsTerm_255 : decode cX11_handsTerm 255 = .ok (.iadd, 1) := by decide +kernel
theorem dX11_handsTerm_256 : decode cX11_handsTerm 256 = .ok (.invokevirtual 127, 3) := by decide +kernel
theorem dX11_handsTerm_259 : decode cX11_handsTerm 259 = .ok (.aload_n 0, 1) := by decide +kernel
theorem dX11_handsTerm_260 : decode cX11_handsTerm 260 = .ok (.getfield 231, 3) := by decide +kernel
theorem dX11_handsTerm_263 : decode cX11_handsTerm 263 = .ok (.iconst 1, 1) := by decide +kernel
theorem dX11_handsTerm_264 : decode cX11_handsTerm 264 = .ok (.iadd, 1) := by decide +kernel
theorem dX11_handsTerm_265 : decode cX11_handsTerm 265 = .ok (.aload_n 0, 1) := by decide +kernel
theorem dX11_handsTerm_266 : decode cX11_handsTerm 266 = .ok (.aload_n 0, 1) := by decide +kernel
theorem dX11_handsTerm_267 : decode cX11_handsTerm 267 = .ok (.getfield 234, 3) := by decide +kernel
theorem dX11_handsTerm_270 : decode cX11_handsTerm 270 = .ok (.aload_n 0, 1) := by decide +kernel
theorem dX11_handsTerm_271 : decode cX11_handsTerm 271 = .ok (.getfield 231, 3) := by decide +kernel
theorem dX11_handsTerm_274 : decode cX11_handsTerm 274 = .ok (.bipush 10, 2) := by decide +kernel
theorem dX11_handsTerm_276 : decode cX11_handsTerm 276 = .ok (.if_icmp .ge 10, 3) := by decide +kernel
theorem dX11_handsTerm_279 : decode cX11_handsTerm 279 = .ok (.aload_n 0, 1) := by decide +kernel
theorem dX11_handsTerm_280 : decode cX11_handsTerm 280 = .ok (.getfield 231, 3) := by decide +kernel
theorem dX11_handsTerm_283 : decode cX11_handsTerm 283 = .ok (.goto 4, 3) := by decide +kernel
theorem dX11_handsTerm_286 : decode cX11_handsTerm 286 = .ok (.iconst 0, 1) := by decide +kernel
theorem dX11_handsTerm_287 : decode cX11_handsTerm 287 = .ok (.aload_n 0, 1) := by decide +kernel
theorem dX11_handsTerm_288 : decode cX11_handsTerm 288 = .ok (.aload_n 0, 1) := by decide +kernel
theorem dX11_handsTerm_289 : decode cX11_handsTerm 289 = .ok (.getfield 249, 3) := by decide +kernel
theorem dX11_handsTerm_292 : decode cX11_handsTerm 292 = .ok (.invokevirtual 346, 3) := by decide +kernel
theorem dX11_handsTerm_295 : decode cX11_handsTerm 295 = .ok (.invokevirtual 177, 3) := by decide +kernel
theorem dX11_handsTerm_298 : decode cX11_handsTerm 298 = .ok (.invokevirtual 274, 3) := by decide +kernel
theorem dX11_handsTerm_301 : decode cX11_handsTerm 301 = .ok (.goto 74, 3) := by decide +kernel
theorem dX11_handsTerm_304 : decode cX11_handsTerm 304 = .ok (.aload_n 0, 1) := by decide +kernel
theorem dX11_handsTerm_305 : decode cX11_handsTerm 305 = .ok (.dup, 1) := by decide +kernel
theorem dX11_handsTerm_306 : decode cX11_handsTerm 306 = .ok (.getfield 219, 3) := by decide +kernel
theorem dX11_handsTerm_309 : decode cX11_handsTerm 309 = .ok (.iconst 1, 1) := by decide +kernel
theorem dX11_handsTerm_310 : decode cX11_handsTerm 310 = .ok (.isub, 1) := by decide +kernel
theorem dX11_handsTerm_311 : decode cX11_handsTerm 311 = .ok (.putfield 219, 3) := by decide +kernel
theorem dX11_handsTerm_314 : decode cX11_handsTerm 314 = .ok (.aload_n 0, 1) := by decide +kernel
theorem dX11_handsTerm_315 : decode cX11_handsTerm 315 = .ok (.aload_n 0, 1) := by decide +kernel
theorem dX11_handsTerm_316 : decode cX11_handsTerm 316 = .ok (.getfield 85, 3) := by decide +kernel
theorem dX11_handsTerm_319 : decode cX11_handsTerm 319 = .ok (.iload_n 1, 1) := by decide +kernel
theorem dX11_handsTerm_320 : decode cX11_handsTerm 320 = .ok (.iaload, 1) := by decide +kernel
theorem dX11_handsTerm_321 : decode cX11_handsTerm 321 = .ok (.aload_n 0, 1) := by decide +kernel
theorem dX11_handsTerm_322 : decode cX11_handsTerm 322 = .ok (.bipush 44, 2) := by decide +kernel
theorem dX11_handsTerm_324 : decode cX11_handsTerm 324 = .ok (.aload_n 0, 1) := by decide +kernel
theorem dX11_handsTerm_325 : decode cX11_handsTerm 325 = .ok (.getfield 103, 3) := by decide +kernel
theorem dX11_handsTerm_328 : decode cX11_handsTerm 328 = .ok (.iload_n 1, 1) := by decide +kernel
theorem dX11_handsTerm_329 : decode cX11_handsTerm 329 = .ok (.iaload, 1) := by decide +kernel
theorem dX11_handsTerm_330 : decode cX11_handsTerm 330 = .ok (.aload_n 0, 1) := by decide +kernel
theorem dX11_handsTerm_331 : decode cX11_handsTerm 331 = .ok (.getfield 249, 3) := by decide +kernel
theorem dX11_handsTerm_334 : decode cX11_handsTerm 334 = .ok (.invokevirtual 343, 3) := by decide +kernel
theorem dX11_handsTerm_337 : decode cX11_handsTerm 337 = .ok (.invokevirtual 304, 3) := by decide +kernel
theorem dX11_handsTerm_340 : decode cX11_handsTerm 340 = .ok (.goto 35, 3) := by decide +kernel
theorem dX11_handsTerm_343 : decode cX11_handsTerm 343 = .ok (.aload_n 0, 1) := by decide +kernel
theorem dX11_handsTerm_344 : decode cX11_handsTerm 344 = .ok (.dup, 1) := by decide +kernel
theorem dX11_handsTerm_345 : decode cX11_handsTerm 345 = .ok (.getfield 219, 3) := by decide +kernel
theorem dX11_handsTerm_348 : decode cX11_handsTerm 348 = .ok (.iconst 1, 1) := by decide +kernel
theorem dX11_handsTerm_349 : decode cX11_handsTerm 349 = .ok (.isub, 1) := by decide +kernel
theorem dX11_handsTerm_350 : decode cX11_handsTerm 350 = .ok (.putfield 219, 3) := by decide +kernel
theorem dX11_handsTerm_353 : decode cX11_handsTerm 353 = .ok (.aload_n 0, 1) := by decide +kernel
theorem dX11_handsTerm_354 : decode cX11_handsTerm 354 = .ok (.aload_n 0, 1) := by decide +kernel
theorem dX11_handsTerm_355 : decode cX11_handsTerm 355 = .ok (.getfield 85, 3) := by decide +kernel
theorem dX11_handsTerm_358 : decode cX11_handsTerm 358 = .ok (.iload_n 1, 1) := by decide +kernel
theorem dX11_handsTerm_359 : decode cX11_handsTerm 359 = .ok (.iaload, 1) := by decide +kernel
theorem dX11_handsTerm_360 : decode cX11_handsTerm 360 = .ok (.aload_n 0, 1) := by decide +kernel
theorem dX11_handsTerm_361 : decode cX11_handsTerm 361 = .ok (.bipush 92, 2) := by decide +kernel
theorem dX11_handsTerm_363 : decode cX11_handsTerm 363 = .ok (.bipush (-9), 2) := by decide +kernel
theorem dX11_handsTerm_365 : decode cX11_handsTerm 365 = .ok (.aload_n 0, 1) := by decide +kernel
theorem dX11_handsTerm_366 : decode cX11_handsTerm 366 = .ok (.getfield 249, 3) := by decide +kernel
theorem dX11_handsTerm_369 : decode cX11_handsTerm 369 = .ok (.invokevirtual 343, 3) := by decide +kernel
theorem dX11_handsTerm_372 : decode cX11_handsTerm 372 = .ok (.invokevirtual 304, 3) := by decide +kernel
theorem dX11_handsTerm_375 : decode cX11_handsTerm 375 = .ok (.return_, 1) := by decide +kernel
theorem dX11_readsWhole_0 : decode cX11_readsWhole 0 = .ok (.aload_n 0, 1) := by decide +kernel
theorem dX11_readsWhole_1 : decode cX11_readsWhole 1 = .ok (.iconst 0, 1) := by decide +kernel
theorem dX11_readsWhole_2 : decode cX11_readsWhole 2 = .ok (.putfield 219, 3) := by decide +kernel
theorem dX11_readsWhole_5 : decode cX11_readsWhole 5 = .ok (.aload_n 0, 1) := by decide +kernel
theorem dX11_readsWhole_6 : decode cX11_readsWhole 6 = .ok (.iconst 0, 1) := by decide +kernel
theorem dX11_readsWhole_7 : decode cX11_readsWhole 7 = .ok (.putfield 222, 3) := by decide +kernel
theorem dX11_readsWhole_10 : decode cX11_readsWhole 10 = .ok (.aload_n 0, 1) := by decide +kernel
theorem dX11_readsWhole_11 : decode cX11_readsWhole 11 = .ok (.iconst 0, 1) := by decide +kernel
theorem dX11_readsWhole_12 : decode cX11_readsWhole 12 = .ok (.putfield 243, 3) := by decide +kernel
theorem dX11_readsWhole_15 : decode cX11_readsWhole 15 = .ok (.aload_n 0, 1) := by decide +kernel
theorem dX11_readsWhole_16 : decode cX11_readsWhole 16 = .ok (.getfield 210, 3) := by decide +kernel
theorem dX11_readsWhole_19 : decode cX11_readsWhole 19 = .ok (.ifCond .ge 53, 3) := by decide +kernel
theorem dX11_readsWhole_22 : decode cX11_readsWhole 22 = .ok (.aload_n 0, 1) := by decide +kernel
theorem dX11_readsWhole_23 : decode cX11_readsWhole 23 = .ok (.getfield 219, 3) := by decide +kernel
theorem dX11_readsWhole_26 : decode cX11_readsWhole 26 = .ok (.ifCond .gt 10, 3) := by decide +kernel
theorem dX11_readsWhole_29 : decode cX11_readsWhole 29 = .ok (.aload_n 0, 1) := by decide +kernel
theorem dX11_readsWhole_30 : decode cX11_readsWhole 30 = .ok (.getfield 243, 3) := by decide +kernel
theorem dX11_readsWhole_33 : decode cX11_readsWhole 33 = .ok (.ifCond .ne 39, 3) := by decide +kernel
theorem dX11_readsWhole_36 : decode cX11_readsWhole 36 = .ok (.aload_n 0, 1) := by decide +kernel
theorem dX11_readsWhole_37 : decode cX11_readsWhole 37 = .ok (.getfield 243, 3) := by decide +kernel
theorem dX11_readsWhole_40 : decode cX11_readsWhole 40 = .ok (.ifCond .ne 10, 3) := by decide +kernel
theorem dX11_readsWhole_43 : decode cX11_readsWhole 43 = .ok (.aload_n 0, 1) := by decide +kernel
theorem dX11_readsWhole_44 : decode cX11_readsWhole 44 = .ok (.invokevirtual 355, 3) := by decide +kernel
theorem dX11_readsWhole_47 : decode cX11_readsWhole 47 = .ok (.goto (-32), 3) := by decide +kernel
theorem dX11_readsWhole_50 : decode cX11_readsWhole 50 = .ok (.aload_n 0, 1) := by decide +kernel
theorem dX11_readsWhole_51 : decode cX11_readsWhole 51 = .ok (.getfield 243, 3) := by decide +kernel
theorem dX11_readsWhole_54 : decode cX11_readsWhole 54 = .ok (.iconst 1, 1) := by decide +kernel
theorem dX11_readsWhole_55 : decode cX11_readsWhole 55 = .ok (.if_icmp .ne 10, 3) := by decide +kernel
theorem dX11_readsWhole_58 : decode cX11_readsWhole 58 = .ok (.aload_n 0, 1) := by decide +kernel
theorem dX11_readsWhole_59 : decode cX11_readsWhole 59 = .ok (.invokevirtual 358, 3) := by decide +kernel
theorem dX11_readsWhole_62 : decode cX11_readsWhole 62 = .ok (.goto (-47), 3) := by decide +kernel
theorem dX11_readsWhole_65 : decode cX11_readsWhole 65 = .ok (.aload_n 0, 1) := by decide +kernel
theorem dX11_readsWhole_66 : decode cX11_readsWhole 66 = .ok (.invokevirtual 361, 3) := by decide +kernel
theorem dX11_readsWhole_69 : decode cX11_readsWhole 69 = .ok (.goto (-54), 3) := by decide +kernel
theorem dX11_readsWhole_72 : decode cX11_readsWhole 72 = .ok (.return_, 1) := by decide +kernel
theorem dX11_starts_0 : decode cX11_starts 0 = .ok (.aload_n 0, 1) := by decide +kernel
theorem dX11_starts_1 : decode cX11_starts 1 = .ok (.sipush 1734, 3) := by decide +kernel
theorem dX11_starts_4 : decode cX11_starts 4 = .ok (.putfield 133, 3) := by decide +kernel
theorem dX11_starts_7 : decode cX11_starts 7 = .ok (.aload_n 0, 1) := by decide +kernel
theorem dX11_starts_8 : decode cX11_starts 8 = .ok (.bipush 20, 2) := by decide +kernel
theorem dX11_starts_10 : decode cX11_starts 10 = .ok (.putfield 140, 3) := by decide +kernel
theorem dX11_starts_13 : decode cX11_starts 13 = .ok (.aload_n 0, 1) := by decide +kernel
theorem dX11_starts_14 : decode cX11_starts 14 = .ok (.iconst 1, 1) := by decide +kernel
theorem dX11_starts_15 : decode cX11_starts 15 = .ok (.putfield 45, 3) := by decide +kernel
theorem dX11_starts_18 : decode cX11_starts 18 = .ok (.aload_n 0, 1) := by decide +kernel
theorem dX11_starts_19 : decode cX11_starts 19 = .ok (.bipush (-9), 2) := by decide +kernel
theorem dX11_starts_21 : decode cX11_starts 21 = .ok (.putfield 210, 3) := by decide +kernel
theorem dX11_starts_24 : decode cX11_starts 24 = .ok (.aload_n 0, 1) := by decide +kernel
theorem dX11_starts_25 : decode cX11_starts 25 = .ok (.iconst 0, 1) := by decide +kernel
theorem dX11_starts_26 : decode cX11_starts 26 = .ok (.putfield 213, 3) := by decide +kernel
theorem dX11_starts_29 : decode cX11_starts 29 = .ok (.aload_n 0, 1) := by decide +kernel
theorem dX11_starts_30 : decode cX11_starts 30 = .ok (.aload_n 0, 1) := by decide +kernel
theorem dX11_starts_31 : decode cX11_starts 31 = .ok (.getfield 364, 3) := by decide +kernel
theorem dX11_starts_34 : decode cX11_starts 34 = .ok (.putfield 294, 3) := by decide +kernel
theorem dX11_starts_37 : decode cX11_starts 37 = .ok (.return_, 1) := by decide +kernel
theorem dX11_wholeType_0 : decode cX11_wholeType 0 = .ok (.aload_n 0, 1) := by decide +kernel
theorem dX11_wholeType_1 : decode cX11_wholeType 1 = .ok (.invokevirtual 307, 3) := by decide +kernel
theorem dX11_wholeType_4 : decode cX11_wholeType 4 = .ok (.aload_n 0, 1) := by decide +kernel
theorem dX11_wholeType_5 : decode cX11_wholeType 5 = .ok (.iconst 0, 1) := by decide +kernel
theorem dX11_wholeType_6 : decode cX11_wholeType 6 = .ok (.putfield 225, 3) := by decide +kernel
theorem dX11_wholeType_9 : decode cX11_wholeType 9 = .ok (.aload_n 0, 1) := by decide +kernel
theorem dX11_wholeType_10 : decode cX11_wholeType 10 = .ok (.invokevirtual 367, 3) := by decide +kernel
theorem dX11_wholeType_13 : decode cX11_wholeType 13 = .ok (.aload_n 0, 1) := by decide +kernel
theorem dX11_wholeType_14 : decode cX11_wholeType 14 = .ok (.getfield 249, 3) := by decide +kernel
theorem dX11_wholeType_17 : decode cX11_wholeType 17 = .ok (.ireturn, 1) := by decide +kernel
theorem dX11_wholeGiven_0 : decode cX11_wholeGiven 0 = .ok (.aload_n 0, 1) := by decide +kernel
theorem dX11_wholeGiven_1 : decode cX11_wholeGiven 1 = .ok (.iconst 3, 1) := by decide +kernel
theorem dX11_wholeGiven_2 : decode cX11_wholeGiven 2 = .ok (.iload_n 1, 1) := by decide +kernel
theorem dX11_wholeGiven_3 : decode cX11_wholeGiven 3 = .ok (.iconst 0, 1) := by decide +kernel
theorem dX11_wholeGiven_4 : decode cX11_wholeGiven 4 = .ok (.iconst 0, 1) := by decide +kernel
theorem dX11_wholeGiven_5 : decode cX11_wholeGiven 5 = .ok (.invokevirtual 274, 3) := by decide +kernel
theorem dX11_wholeGiven_8 : decode cX11_wholeGiven 8 = .ok (.aload_n 0, 1) := by decide +kernel
theorem dX11_wholeGiven_9 : decode cX11_wholeGiven 9 = .ok (.invokevirtual 367, 3) := by decide +kernel
theorem dX11_wholeGiven_12 : decode cX11_wholeGiven 12 = .ok (.aload_n 0, 1) := by decide +kernel
theorem dX11_wholeGiven_13 : decode cX11_wholeGiven 13 = .ok (.getfield 249, 3) := by decide +kernel
theorem dX11_wholeGiven_16 : decode cX11_wholeGiven 16 = .ok (.ireturn, 1) := by decide +kernel
theorem dX11_wants_0 : decode cX11_wants 0 = .ok (.iload_n 1, 1) := by decide +kernel
theorem dX11_wants_1 : decode cX11_wants 1 = .ok (.ifCond .ne 11, 3) := by decide +kernel
theorem dX11_wants_4 : decode cX11_wants 4 = .ok (.aload_n 0, 1) := by decide +kernel
theorem dX11_wants_5 : decode cX11_wants 5 = .ok (.aload_n 0, 1) := by decide +kernel
theorem dX11_wants_6 : decode cX11_wants 6 = .ok (.getfield 213, 3) := by decide +kernel
theorem dX11_wants_9 : decode cX11_wants 9 = .ok (.invokevirtual 240, 3) := by decide +kernel
theorem dX11_wants_12 : decode cX11_wants 12 = .ok (.return_, 1) := by decide +kernel
theorem dX11_readsTerms_0 : decode cX11_readsTerms 0 = .ok (.aload_n 0, 1) := by decide +kernel
theorem dX11_readsTerms_1 : decode cX11_readsTerms 1 = .ok (.invokevirtual 370, 3) := by decide +kernel
theorem dX11_readsTerms_4 : decode cX11_readsTerms 4 = .ok (.aload_n 0, 1) := by decide +kernel
theorem dX11_readsTerms_5 : decode cX11_readsTerms 5 = .ok (.aload_n 0, 1) := by decide +kernel
theorem dX11_readsTerms_6 : decode cX11_readsTerms 6 = .ok (.invokevirtual 373, 3) := by decide +kernel
theorem dX11_readsTerms_9 : decode cX11_readsTerms 9 = .ok (.putfield 376, 3) := by decide +kernel
theorem dX11_readsTerms_12 : decode cX11_readsTerms 12 = .ok (.aload_n 0, 1) := by decide +kernel
theorem dX11_readsTerms_13 : decode cX11_readsTerms 13 = .ok (.aload_n 0, 1) := by decide +kernel
theorem dX11_readsTerms_14 : decode cX11_readsTerms 14 = .ok (.getfield 210, 3) := by decide +kernel
theorem dX11_readsTerms_17 : decode cX11_readsTerms 17 = .ok (.ifCond .ge 14, 3) := by decide +kernel
theorem dX11_readsTerms_20 : decode cX11_readsTerms 20 = .ok (.aload_n 0, 1) := by decide +kernel
theorem dX11_readsTerms_21 : decode cX11_readsTerms 21 = .ok (.aload_n 0, 1) := by decide +kernel
theorem dX11_readsTerms_22 : decode cX11_readsTerms 22 = .ok (.getfield 376, 3) := by decide +kernel
theorem dX11_readsTerms_25 : decode cX11_readsTerms 25 = .ok (.invokevirtual 379, 3) := by decide +kernel
theorem dX11_readsTerms_28 : decode cX11_readsTerms 28 = .ok (.goto 4, 3) := by decide +kernel
theorem dX11_readsTerms_31 : decode cX11_readsTerms 31 = .ok (.iconst 0, 1) := by decide +kernel
theorem dX11_readsTerms_32 : decode cX11_readsTerms 32 = .ok (.putfield 382, 3) := by decide +kernel
theorem dX11_readsTerms_35 : decode cX11_readsTerms 35 = .ok (.aload_n 0, 1) := by decide +kernel
theorem dX11_readsTerms_36 : decode cX11_readsTerms 36 = .ok (.aload_n 0, 1) := by decide +kernel
theorem dX11_readsTerms_37 : decode cX11_readsTerms 37 = .ok (.getfield 210, 3) := by decide +kernel
theorem dX11_readsTerms_40 : decode cX11_readsTerms 40 = .ok (.ifCond .ge 19, 3) := by decide +kernel
theorem dX11_readsTerms_43 : decode cX11_readsTerms 43 = .ok (.iload_n 1, 1) := by decide +kernel
theorem dX11_readsTerms_44 : decode cX11_readsTerms 44 = .ok (.iconst 1, 1) := by decide +kernel
theorem dX11_readsTerms_45 : decode cX11_readsTerms 45 = .ok (.if_icmp .le 14, 3) := by decide +kernel
theorem dX11_readsTerms_48 : decode cX11_readsTerms 48 = .ok (.aload_n 0, 1) := by decide +kernel
theorem dX11_readsTerms_49 : decode cX11_readsTerms 49 = .ok (.aload_n 0, 1) := by decide +kernel
theorem dX11_readsTerms_50 : decode cX11_readsTerms 50 = .ok (.getfield 376, 3) := by decide +kernel
theorem dX11_readsTerms_53 : decode cX11_readsTerms 53 = .ok (.invokevirtual 379, 3) := by decide +kernel
theorem dX11_readsTerms_56 : decode cX11_readsTerms 56 = .ok (.goto 4, 3) := by decide +kernel
theorem dX11_readsTerms_59 : decode cX11_readsTerms 59 = .ok (.iconst 0, 1) := by decide +kernel
theorem dX11_readsTerms_60 : decode cX11_readsTerms 60 = .ok (.putfield 385, 3) := by decide +kernel
theorem dX11_readsTerms_63 : decode cX11_readsTerms 63 = .ok (.aload_n 0, 1) := by decide +kernel
theorem dX11_readsTerms_64 : decode cX11_readsTerms 64 = .ok (.getfield 210, 3) := by decide +kernel
theorem dX11_readsTerms_67 : decode cX11_readsTerms 67 = .ok (.ifCond .ge 23, 3) := by decide +kernel
theorem dX11_readsTerms_70 : decode cX11_readsTerms 70 = .ok (.aload_n 0, 1) := by decide +kernel
theorem dX11_readsTerms_71 : decode cX11_readsTerms 71 = .ok (.aload_n 0, 1) := by decide +kernel
theorem dX11_readsTerms_72 : decode cX11_readsTerms 72 = .ok (.getfield 213, 3) := by decide +kernel
theorem dX11_readsTerms_75 : decode cX11_readsTerms 75 = .ok (.aload_n 0, 1) := by decide +kernel
theorem dX11_readsTerms_76 : decode cX11_readsTerms 76 = .ok (.getfield 216, 3) := by decide +kernel
theorem dX11_readsTerms_79 : decode cX11_readsTerms 79 = .ok (.if_icmp .ne 7, 3) := by decide +kernel
theorem dX11_readsTerms_82 : decode cX11_readsTerms 82 = .ok (.iconst 1, 1) := by decide +kernel
theorem dX11_readsTerms_83 : decode cX11_readsTerms 83 = .ok (.goto 4, 3) := by decide +kernel
theorem dX11_readsTerms_86 : decode cX11_readsTerms 86 = .ok (.iconst 0, 1) := by decide +kernel
theorem dX11_readsTerms_87 : decode cX11_readsTerms 87 = .ok (.invokevirtual 388, 3) := by decide +kernel
theorem dX11_readsTerms_90 : decode cX11_readsTerms 90 = .ok (.return_, 1) := by decide +kernel
theorem dX11_type_0 : decode cX11_type 0 = .ok (.iload_n 1, 1) := by decide +kernel
theorem dX11_type_1 : decode cX11_type 1 = .ok (.iconst 0, 1) := by decide +kernel
theorem dX11_type_2 : decode cX11_type 2 = .ok (.sipush 255, 3) := by decide +kernel
theorem dX11_type_5 : decode cX11_type 5 = .ok (.invokestatic 297, 3) := by decide +kernel
theorem dX11_type_8 : decode cX11_type 8 = .ok (.ifCond .ne 5, 3) := by decide +kernel
theorem dX11_type_11 : decode cX11_type 11 = .ok (.iconst (-1), 1) := by decide +kernel
theorem dX11_type_12 : decode cX11_type 12 = .ok (.ireturn, 1) := by decide +kernel
theorem dX11_type_13 : decode cX11_type 13 = .ok (.aload_n 0, 1) := by decide +kernel
theorem dX11_type_14 : decode cX11_type 14 = .ok (.getfield 216, 3) := by decide +kernel
theorem dX11_type_17 : decode cX11_type 17 = .ok (.bipush 32, 2) := by decide +kernel
theorem dX11_type_19 : decode cX11_type 19 = .ok (.if_icmp .ne 6, 3) := by decide +kernel
theorem dX11_type_22 : decode cX11_type 22 = .ok (.bipush (-3), 2) := by decide +kernel
theorem dX11_type_24 : decode cX11_type 24 = .ok (.ireturn, 1) := by decide +kernel
theorem dX11_type_25 : decode cX11_type 25 = .ok (.aload_n 0, 1) := by decide +kernel
theorem dX11_type_26 : decode cX11_type 26 = .ok (.getfield 13, 3) := by decide +kernel
theorem dX11_type_29 : decode cX11_type 29 = .ok (.aload_n 0, 1) := by decide +kernel
theorem dX11_type_30 : decode cX11_type 30 = .ok (.getfield 216, 3) := by decide +kernel
theorem dX11_type_33 : decode cX11_type 33 = .ok (.iload_n 1, 1) := by decide +kernel
theorem dX11_type_34 : decode cX11_type 34 = .ok (.iastore, 1) := by decide +kernel
theorem dX11_type_35 : decode cX11_type 35 = .ok (.aload_n 0, 1) := by decide +kernel
theorem dX11_type_36 : decode cX11_type 36 = .ok (.dup, 1) := by decide +kernel
theorem dX11_type_37 : decode cX11_type 37 = .ok (.getfield 216, 3) := by decide +kernel
theorem dX11_type_40 : decode cX11_type 40 = .ok (.iconst 1, 1) := by decide +kernel
theorem dX11_type_41 : decode cX11_type 41 = .ok (.iadd, 1) := by decide +kernel
theorem dX11_type_42 : decode cX11_type 42 = .ok (.putfield 216, 3) := by decide +kernel
theorem dX11_type_45 : decode cX11_type 45 = .ok (.aload_n 0, 1) := by decide +kernel
theorem dX11_type_46 : decode cX11_type 46 = .ok (.getfield 216, 3) := by decide +kernel
theorem dX11_type_49 : decode cX11_type 49 = .ok (.ireturn, 1) := by decide +kernel
theorem dX11_clear_0 : decode cX11_clear 0 = .ok (.aload_n 0, 1) := by decide +kernel
theorem dX11_clear_1 : decode cX11_clear 1 = .ok (.getfield 216, 3) := by decide +kernel
theorem dX11_clear_4 : decode cX11_clear 4 = .ok (.istore_n 1, 1) := by decide +kernel
theorem dX11_clear_5 : decode cX11_clear 5 = .ok (.aload_n 0, 1) := by decide +kernel
theorem dX11_clear_6 : decode cX11_clear 6 = .ok (.iconst 0, 1) := by decide +kernel
theorem dX11_clear_7 : decode cX11_clear 7 = .ok (.putfield 216, 3) := by decide +kernel
theorem dX11_clear_10 : decode cX11_clear 10 = .ok (.iload_n 1, 1) := by decide +kernel
theorem dX11_clear_11 : decode cX11_clear 11 = .ok (.ireturn, 1) := by decide +kernel
theorem dX11_nextFamily_0 : decode cX11_nextFamily 0 = .ok (.aload_n 0, 1) := by decide +kernel
theorem dX11_nextFamily_1 : decode cX11_nextFamily 1 = .ok (.getfield 268, 3) := by decide +kernel
theorem dX11_nextFamily_4 : decode cX11_nextFamily 4 = .ok (.iconst 3, 1) := by decide +kernel
theorem dX11_nextFamily_5 : decode cX11_nextFamily 5 = .ok (.if_icmp .ne 12, 3) := by decide +kernel
theorem dX11_nextFamily_8 : decode cX11_nextFamily 8 = .ok (.aload_n 0, 1) := by decide +kernel
theorem dX11_nextFamily_9 : decode cX11_nextFamily 9 = .ok (.aload_n 0, 1) := by decide +kernel
theorem dX11_nextFamily_10 : decode cX11_nextFamily 10 = .ok (.getfield 213, 3) := by decide +kernel
theorem dX11_nextFamily_13 : decode cX11_nextFamily 13 = .ok (.invokevirtual 240, 3) := by decide +kernel
theorem dX11_nextFamily_16 : decode cX11_nextFamily 16 = .ok (.return_, 1) := by decide +kernel
theorem dX11_nextFamily_17 : decode cX11_nextFamily 17 = .ok (.aload_n 0, 1) := by decide +kernel
theorem dX11_nextFamily_18 : decode cX11_nextFamily 18 = .ok (.dup, 1) := by decide +kernel
theorem dX11_nextFamily_19 : decode cX11_nextFamily 19 = .ok (.getfield 213, 3) := by decide +kernel
theorem dX11_nextFamily_22 : decode cX11_nextFamily 22 = .ok (.iconst 1, 1) := by decide +kernel
theorem dX11_nextFamily_23 : decode cX11_nextFamily 23 = .ok (.iadd, 1) := by decide +kernel
theorem dX11_nextFamily_24 : decode cX11_nextFamily 24 = .ok (.putfield 213, 3) := by decide +kernel
theorem dX11_nextFamily_27 : decode cX11_nextFamily 27 = .ok (.aload_n 0, 1) := by decide +kernel
theorem dX11_nextFamily_28 : decode cX11_nextFamily 28 = .ok (.getfield 16, 3) := by decide +kernel
theorem dX11_nextFamily_31 : decode cX11_nextFamily 31 = .ok (.aload_n 0, 1) := by decide +kernel
theorem dX11_nextFamily_32 : decode cX11_nextFamily 32 = .ok (.getfield 268, 3) := by decide +kernel
theorem dX11_nextFamily_35 : decode cX11_nextFamily 35 = .ok (.iconst 0, 1) := by decide +kernel
theorem dX11_nextFamily_36 : decode cX11_nextFamily 36 = .ok (.bastore, 1) := by decide +kernel
theorem dX11_nextFamily_37 : decode cX11_nextFamily 37 = .ok (.aload_n 0, 1) := by decide +kernel
theorem dX11_nextFamily_38 : decode cX11_nextFamily 38 = .ok (.invokevirtual 290, 3) := by decide +kernel
theorem dX11_nextFamily_41 : decode cX11_nextFamily 41 = .ok (.bipush 59, 2) := by decide +kernel
theorem dX11_nextFamily_43 : decode cX11_nextFamily 43 = .ok (.if_icmp .eq 77, 3) := by decide +kernel
theorem dX11_nextFamily_46 : decode cX11_nextFamily 46 = .ok (.aload_n 0, 1) := by decide +kernel
theorem dX11_nextFamily_47 : decode cX11_nextFamily 47 = .ok (.invokevirtual 373, 3) := by decide +kernel
theorem dX11_nextFamily_50 : decode cX11_nextFamily 50 = .ok (.istore_n 1, 1) := by decide +kernel
theorem dX11_nextFamily_51 : decode cX11_nextFamily 51 = .ok (.aload_n 0, 1) := by decide +kernel
theorem dX11_nextFamily_52 : decode cX11_nextFamily 52 = .ok (.getfield 210, 3) := by decide +kernel
theorem dX11_nextFamily_55 : decode cX11_nextFamily 55 = .ok (.ifCond .ge 10, 3) := by decide +kernel
theorem dX11_nextFamily_58 : decode cX11_nextFamily 58 = .ok (.aload_n 0, 1) := by decide +kernel
theorem dX11_nextFamily_59 : decode cX11_nextFamily 59 = .ok (.getfield 246, 3) := by decide +kernel
theorem dX11_nextFamily_62 : decode cX11_nextFamily 62 = .ok (.goto 4, 3) := by decide +kernel
theorem dX11_nextFamily_65 : decode cX11_nextFamily 65 = .ok (.iconst 0, 1) := by decide +kernel
theorem dX11_nextFamily_66 : decode cX11_nextFamily 66 = .ok (.istore_n 2, 1) := by decide +kernel
theorem dX11_nextFamily_67 : decode cX11_nextFamily 67 = .ok (.aload_n 0, 1) := by decide +kernel
theorem dX11_nextFamily_68 : decode cX11_nextFamily 68 = .ok (.getfield 210, 3) := by decide +kernel
theorem dX11_nextFamily_71 : decode cX11_nextFamily 71 = .ok (.ifCond .ge 16, 3) := by decide +kernel
theorem dX11_nextFamily_74 : decode cX11_nextFamily 74 = .ok (.aload_n 0, 1) := by decide +kernel
theorem dX11_nextFamily_75 : decode cX11_nextFamily 75 = .ok (.iload_n 1, 1) := by decide +kernel
theorem dX11_nextFamily_76 : decode cX11_nextFamily 76 = .ok (.invokevirtual 340, 3) := by decide +kernel
theorem dX11_nextFamily_79 : decode cX11_nextFamily 79 = .ok (.ifCond .ne 8, 3) := by decide +kernel
theorem dX11_nextFamily_82 : decode cX11_nextFamily 82 = .ok (.aload_n 0, 1) := by decide +kernel
theorem dX11_nextFamily_83 : decode cX11_nextFamily 83 = .ok (.iload_n 2, 1) := by decide +kernel
theorem dX11_nextFamily_84 : decode cX11_nextFamily 84 = .ok (.invokevirtual 240, 3) := by decide +kernel
theorem dX11_nextFamily_87 : decode cX11_nextFamily 87 = .ok (.aload_n 0, 1) := by decide +kernel
theorem dX11_nextFamily_88 : decode cX11_nextFamily 88 = .ok (.getfield 210, 3) := by decide +kernel
theorem dX11_nextFamily_91 : decode cX11_nextFamily 91 = .ok (.ifCond .ge 29, 3) := by decide +kernel
theorem dX11_nextFamily_94 : decode cX11_nextFamily 94 = .ok (.aload_n 0, 1) := by decide +kernel
theorem dX11_nextFamily_95 : decode cX11_nextFamily 95 = .ok (.iload_n 1, 1) := by decide +kernel
theorem dX11_nextFamily_96 : decode cX11_nextFamily 96 = .ok (.sipush 969, 3) := by decide +kernel
theorem dX11_nextFamily_99 : decode cX11_nextFamily 99 = .ok (.bipush 51, 2) := by decide +kernel
theorem dX11_nextFamily_101 : decode cX11_nextFamily 101 = .ok (.aload_n 0, 1) := by decide +kernel
theorem dX11_nextFamily_102 : decode cX11_nextFamily 102 = .ok (.getfield 268, 3) := by decide +kernel
theorem dX11_nextFamily_105 : decode cX11_nextFamily 105 = .ok (.imul, 1) := by decide +kernel
theorem dX11_nextFamily_106 : decode cX11_nextFamily 106 = .ok (.iadd, 1) := by decide +kernel
theorem dX11_nextFamily_107 : decode cX11_nextFamily 107 = .ok (.invokevirtual 392, 3) := by decide +kernel
theorem dX11_nextFamily_110 : decode cX11_nextFamily 110 = .ok (.aload_n 0, 1) := by decide +kernel
theorem dX11_nextFamily_111 : decode cX11_nextFamily 111 = .ok (.getfield 16, 3) := by decide +kernel
theorem dX11_nextFamily_114 : decode cX11_nextFamily 114 = .ok (.aload_n 0, 1) := by decide +kernel
theorem dX11_nextFamily_115 : decode cX11_nextFamily 115 = .ok (.getfield 268, 3) := by decide +kernel
theorem dX11_nextFamily_118 : decode cX11_nextFamily 118 = .ok (.iconst 1, 1) := by decide +kernel
theorem dX11_nextFamily_119 : decode cX11_nextFamily 119 = .ok (.bastore, 1) := by decide +kernel
theorem dX11_nextFamily_120 : decode cX11_nextFamily 120 = .ok (.aload_n 0, 1) := by decide +kernel
theorem dX11_nextFamily_121 : decode cX11_nextFamily 121 = .ok (.dup, 1) := by decide +kernel
theorem dX11_nextFamily_122 : decode cX11_nextFamily 122 = .ok (.getfield 268, 3) := by decide +kernel
theorem dX11_nextFamily_125 : decode cX11_nextFamily 125 = .ok (.iconst 1, 1) := by decide +kernel
theorem dX11_nextFamily_126 : decode cX11_nextFamily 126 = .ok (.iadd, 1) := by decide +kernel
theorem dX11_nextFamily_127 : decode cX11_nextFamily 127 = .ok (.putfield 268, 3) := by decide +kernel
theorem dX11_nextFamily_130 : decode cX11_nextFamily 130 = .ok (.return_, 1) := by decide +kernel
set_option maxHeartbeats 4000000 in
set_option maxRecDepth 20000 in
theorem b_handsTerm_287 {p : Program} {l : Launch} {e : Env} {s : State} {m : MethodId} {args : Array Value} {below : List Frame} {meth : Method} {c : Code} {D : va_G} {cy : Nat → ClassId} {ad : Nat → Nat} {q : Int32 × MS} (C : vC p s m args meth c cX11_handsTerm 2 none RX11 D (cyT cy)) (hi : ∀ i j, i < 34 → j < 34 → ad i = ad j → i = j) {k375 : MS → Option (Int32 × MS)} (hk375 : ∀  (σ : MS), k375 σ = some q → V p l e { frames := 10, cells := 0, slots := 0, locals := 254 } s m args below meth c D (inAd ad) 2 (MQ below (vQ D (inAd ad) none (wm cy ad q.2)) args s 0 0 (inAd ad)) 0 0 (wm cy ad σ) 375 [(0, .ref (ad 0))] []) : ∀ (s0 : Int32) (s1 : Int32) (s3 : Int32) (s4 : Int32) (s5 : Int32) (σ : MS), B_handsTerm_287 k375 s0 s1 s3 s4 s5 σ = some q → V p l e { frames := 10, cells := 0, slots := 0, locals := 254 } s m args below meth c D (inAd ad) 2 (MQ below (vQ D (inAd ad) none (wm cy ad q.2)) args s 0 0 (inAd ad)) 0 0 (wm cy ad σ) 287 [(0, .ref (ad 0))] [.int s0, .int s1, .ref (ad 0), .int s3, .int s4, .int s5, .ref (ad 0)] := by
  intro s0 s1 s3 s4 s5 σ h
  rw [B_handsTerm_287] at h
  refine v_aload_n C 0 dX11_handsTerm_287 rfl rfl ?_
  refine v_aload_n C 0 dX11_handsTerm_288 rfl rfl ?_
  refine n_getI C fl_249 dX11_handsTerm_289 ?_
  obtain ⟨q1, hq1, h⟩ := bd_of h
  refine vm_call C [.int (σ.1 54)] [.int s0, .int s1, .ref (ad 0), .int s3, .int s4, .int s5, .ref (ad 0)] (c_valueOf hi _ _ hq1) hY_valueOf ml_346 ⟨Nat.le_of_ble_eq_true rfl, Nat.le_of_ble_eq_true rfl⟩ ⟨Nat.zero_le _, Nat.zero_le _⟩ rfl rfl (Nat.le_of_ble_eq_true rfl) dX11_handsTerm_292 (wm_inj hi cy _) ?_
  obtain ⟨q2, hq2, h⟩ := bd_of h
  refine vm_call C [.int s1, .int s0, .int q1.1] [.int s3, .int s4, .int s5, .ref (ad 0)] (c_with hi _ _ _ _ hq2) hY_with ml_177 ⟨Nat.le_of_ble_eq_true rfl, Nat.le_of_ble_eq_true rfl⟩ ⟨Nat.zero_le _, Nat.zero_le _⟩ rfl rfl (Nat.le_of_ble_eq_true rfl) dX11_handsTerm_295 (wm_inj hi cy _) ?_
  obtain ⟨q3, hq3, h⟩ := bd_of h
  refine vm_call C [.int s5, .int s4, .int s3, .int q2.1] [] (c_dueTerm hi _ _ _ _ _ hq3) hY_dueTerm ml_274 ⟨Nat.le_of_ble_eq_true rfl, Nat.le_of_ble_eq_true rfl⟩ ⟨Nat.zero_le _, Nat.zero_le _⟩ rfl rfl (Nat.le_of_ble_eq_true rfl) dX11_handsTerm_298 (wm_inj hi cy _) ?_
  refine v_goto C 375 dX11_handsTerm_301 (by decide) ?_
  exact v_sub [0] rfl (hk375 _ h)
set_option maxHeartbeats 4000000 in
set_option maxRecDepth 20000 in
theorem b_handsTerm_375 {p : Program} {l : Launch} {e : Env} {s : State} {m : MethodId} {args : Array Value} {below : List Frame} {meth : Method} {c : Code} {D : va_G} {cy : Nat → ClassId} {ad : Nat → Nat} {q : Int32 × MS} (C : vC p s m args meth c cX11_handsTerm 2 none RX11 D (cyT cy)) (hi : ∀ i j, i < 34 → j < 34 → ad i = ad j → i = j) : ∀ (σ : MS), B_handsTerm_375 σ = some q → V p l e { frames := 10, cells := 0, slots := 0, locals := 254 } s m args below meth c D (inAd ad) 2 (MQ below (vQ D (inAd ad) none (wm cy ad q.2)) args s 0 0 (inAd ad)) 0 0 (wm cy ad σ) 375 [(0, .ref (ad 0))] [] := by
  intro σ h
  rw [B_handsTerm_375] at h
  obtain rfl := Option.some.inj h
  exact v_vret C dX11_handsTerm_375
set_option maxHeartbeats 4000000 in
set_option maxRecDepth 20000 in
theorem c_handsTerm {l : Launch} {D : va_G} {cy : Nat → ClassId} {ad : Nat → Nat} {q : Int32 × MS} (hi : ∀ i j, i < 34 → j < 34 → ad i = ad j → i = j) (σ : MS) (h : f_handsTerm σ = some q) : MV l D (cyT cy) (inAd ad) yX11_handsTerm cX11_handsTerm 2 none 10 254 0 0 [.ref (ad 0)] (wm cy ad σ) none (wm cy ad q.2) := by
  refine MV.of (by decide) (wm_inj hi cy σ) (Nat.le_of_ble_eq_true rfl) [(0, .ref (ad 0))] rfl ?_
  intro p e s m args below meth c C
  rw [f_handsTerm] at h
  refine v_aload_n C 0 dX11_handsTerm_0 rfl rfl ?_
  refine n_getI C fl_219 dX11_handsTerm_1 ?_
  refine v_iconst C 1 dX11_handsTerm_4 (by decide) ?_
  refine v_isub C dX11_handsTerm_5 ?_
  refine v_istore_n C [(1, .int ((σ.1 44) - 1)), (0, .ref (ad 0))] dX11_handsTerm_6 rfl (by decide) rfl ?_
  refine v_aload_n C 1 dX11_handsTerm_7 rfl rfl ?_
  refine v_iload_n C 0 dX11_handsTerm_8 rfl rfl ?_
  obtain ⟨q1, hq1, h⟩ := bd_of h
  refine vm_call C [.int ((σ.1 44) - 1)] [] (c_again hi _ _ hq1) hY_again ml_334 ⟨Nat.le_of_ble_eq_true rfl, Nat.le_of_ble_eq_true rfl⟩ ⟨Nat.zero_le _, Nat.zero_le _⟩ rfl rfl (Nat.le_of_ble_eq_true rfl) dX11_handsTerm_9 (wm_inj hi cy _) ?_
  refine v_aload_n C 1 dX11_handsTerm_12 rfl rfl ?_
  refine n_getR C fl_82 dX11_handsTerm_13 ?_
  refine v_iload_n C 0 dX11_handsTerm_16 rfl rfl ?_
  obtain ⟨g1, h⟩ := gd_of h
  refine vm_iald C 23 iI_23 (ix_in g1) dX11_handsTerm_17 ?_
  by_cases c1 : (q1.2.2.1 23 (((σ.1 44) - 1) : Int32).toNatClampNeg) = 0
  · rw [if_pos c1] at h
    refine v_tableIn C 84 dX11_handsTerm_18 (by rw [c1]; decide) (by rw [c1]; decide) (by rw [c1]; try rfl) (by decide) ?_
    refine v_aload_n C 1 dX11_handsTerm_84 rfl rfl ?_
    refine v_dup C dX11_handsTerm_85 rfl ?_
    refine n_getI C fl_219 dX11_handsTerm_86 ?_
    refine v_iconst C 1 dX11_handsTerm_89 (by decide) ?_
    refine v_isub C dX11_handsTerm_90 ?_
    refine n_putI C fl_219 dX11_handsTerm_91 ?_
    refine v_aload_n C 1 dX11_handsTerm_94 rfl rfl ?_
    refine v_aload_n C 1 dX11_handsTerm_95 rfl rfl ?_
    refine n_getR C fl_85 dX11_handsTerm_96 ?_
    refine v_iload_n C 0 dX11_handsTerm_99 rfl rfl ?_
    obtain ⟨g2, h⟩ := gd_of h
    refine vm_iald C 24 iI_24 (ix_in g2) dX11_handsTerm_100 ?_
    refine v_aload_n C 1 dX11_handsTerm_101 rfl rfl ?_
    refine v_aload_n C 1 dX11_handsTerm_102 rfl rfl ?_
    refine n_getR C fl_103 dX11_handsTerm_103 ?_
    refine v_iload_n C 0 dX11_handsTerm_106 rfl rfl ?_
    obtain ⟨g3, h⟩ := gd_of h
    refine vm_iald C 30 iI_30 (ix_in g3) dX11_handsTerm_107 ?_
    refine v_bipush C (-9) dX11_handsTerm_108 (by decide) ?_
    refine v_aload_n C 1 dX11_handsTerm_110 rfl rfl ?_
    refine n_getI C fl_249 dX11_handsTerm_111 ?_
    obtain ⟨q2, hq2, h⟩ := bd_of h
    refine vm_call C [.int ((setF q1.2 44 ((q1.2.1 44) - 1)).2.1 30 (((σ.1 44) - 1) : Int32).toNatClampNeg), .int (-9), .int ((setF q1.2 44 ((q1.2.1 44) - 1)).1 54)] [.int ((setF q1.2 44 ((q1.2.1 44) - 1)).2.1 24 (((σ.1 44) - 1) : Int32).toNatClampNeg), .ref (ad 0)] (c_joined hi _ _ _ _ hq2) hY_joined ml_343 ⟨Nat.le_of_ble_eq_true rfl, Nat.le_of_ble_eq_true rfl⟩ ⟨Nat.zero_le _, Nat.zero_le _⟩ rfl rfl (Nat.le_of_ble_eq_true rfl) dX11_handsTerm_114 (wm_inj hi cy _) ?_
    obtain ⟨q3, hq3, h⟩ := bd_of h
    refine vm_call C [.int ((setF q1.2 44 ((q1.2.1 44) - 1)).2.1 24 (((σ.1 44) - 1) : Int32).toNatClampNeg), .int q2.1] [] (c_endsType hi _ _ _ hq3) hY_endsType ml_278 ⟨Nat.le_of_ble_eq_true rfl, Nat.le_of_ble_eq_true rfl⟩ ⟨Nat.zero_le _, Nat.zero_le _⟩ rfl rfl (Nat.le_of_ble_eq_true rfl) dX11_handsTerm_117 (wm_inj hi cy _) ?_
    refine v_goto C 375 dX11_handsTerm_120 (by decide) ?_
    exact v_sub [1] rfl ((b_handsTerm_375 C hi) _ h)
  rw [if_neg c1] at h
  by_cases c2 : (q1.2.2.1 23 (((σ.1 44) - 1) : Int32).toNatClampNeg) = 1
  · rw [if_pos c2] at h
    refine v_tableIn C 343 dX11_handsTerm_18 (by rw [c2]; decide) (by rw [c2]; decide) (by rw [c2]; try rfl) (by decide) ?_
    refine v_aload_n C 1 dX11_handsTerm_343 rfl rfl ?_
    refine v_dup C dX11_handsTerm_344 rfl ?_
    refine n_getI C fl_219 dX11_handsTerm_345 ?_
    refine v_iconst C 1 dX11_handsTerm_348 (by decide) ?_
    refine v_isub C dX11_handsTerm_349 ?_
    refine n_putI C fl_219 dX11_handsTerm_350 ?_
    refine v_aload_n C 1 dX11_handsTerm_353 rfl rfl ?_
    refine v_aload_n C 1 dX11_handsTerm_354 rfl rfl ?_
    refine n_getR C fl_85 dX11_handsTerm_355 ?_
    refine v_iload_n C 0 dX11_handsTerm_358 rfl rfl ?_
    obtain ⟨g4, h⟩ := gd_of h
    refine vm_iald C 24 iI_24 (ix_in g4) dX11_handsTerm_359 ?_
    refine v_aload_n C 1 dX11_handsTerm_360 rfl rfl ?_
    refine v_bipush C 92 dX11_handsTerm_361 (by decide) ?_
    refine v_bipush C (-9) dX11_handsTerm_363 (by decide) ?_
    refine v_aload_n C 1 dX11_handsTerm_365 rfl rfl ?_
    refine n_getI C fl_249 dX11_handsTerm_366 ?_
    obtain ⟨q4, hq4, h⟩ := bd_of h
    refine vm_call C [.int 92, .int (-9), .int ((setF q1.2 44 ((q1.2.1 44) - 1)).1 54)] [.int ((setF q1.2 44 ((q1.2.1 44) - 1)).2.1 24 (((σ.1 44) - 1) : Int32).toNatClampNeg), .ref (ad 0)] (c_joined hi _ _ _ _ hq4) hY_joined ml_343 ⟨Nat.le_of_ble_eq_true rfl, Nat.le_of_ble_eq_true rfl⟩ ⟨Nat.zero_le _, Nat.zero_le _⟩ rfl rfl (Nat.le_of_ble_eq_true rfl) dX11_handsTerm_369 (wm_inj hi cy _) ?_
    obtain ⟨q5, hq5, h⟩ := bd_of h
    refine vm_call C [.int ((setF q1.2 44 ((q1.2.1 44) - 1)).2.1 24 (((σ.1 44) - 1) : Int32).toNatClampNeg), .int q4.1] [] (c_endsGiven hi _ _ _ hq5) hY_endsGiven ml_304 ⟨Nat.le_of_ble_eq_true rfl, Nat.le_of_ble_eq_true rfl⟩ ⟨Nat.zero_le _, Nat.zero_le _⟩ rfl rfl (Nat.le_of_ble_eq_true rfl) dX11_handsTerm_372 (wm_inj hi cy _) ?_
    exact v_sub [1] rfl ((b_handsTerm_375 C hi) _ h)
  rw [if_neg c2] at h
  by_cases c3 : (q1.2.2.1 23 (((σ.1 44) - 1) : Int32).toNatClampNeg) = 2
  · rw [if_pos c3] at h
    refine v_tableIn C 343 dX11_handsTerm_18 (by rw [c3]; decide) (by rw [c3]; decide) (by rw [c3]; try rfl) (by decide) ?_
    refine v_aload_n C 1 dX11_handsTerm_343 rfl rfl ?_
    refine v_dup C dX11_handsTerm_344 rfl ?_
    refine n_getI C fl_219 dX11_handsTerm_345 ?_
    refine v_iconst C 1 dX11_handsTerm_348 (by decide) ?_
    refine v_isub C dX11_handsTerm_349 ?_
    refine n_putI C fl_219 dX11_handsTerm_350 ?_
    refine v_aload_n C 1 dX11_handsTerm_353 rfl rfl ?_
    refine v_aload_n C 1 dX11_handsTerm_354 rfl rfl ?_
    refine n_getR C fl_85 dX11_handsTerm_355 ?_
    refine v_iload_n C 0 dX11_handsTerm_358 rfl rfl ?_
    obtain ⟨g5, h⟩ := gd_of h
    refine vm_iald C 24 iI_24 (ix_in g5) dX11_handsTerm_359 ?_
    refine v_aload_n C 1 dX11_handsTerm_360 rfl rfl ?_
    refine v_bipush C 92 dX11_handsTerm_361 (by decide) ?_
    refine v_bipush C (-9) dX11_handsTerm_363 (by decide) ?_
    refine v_aload_n C 1 dX11_handsTerm_365 rfl rfl ?_
    refine n_getI C fl_249 dX11_handsTerm_366 ?_
    obtain ⟨q6, hq6, h⟩ := bd_of h
    refine vm_call C [.int 92, .int (-9), .int ((setF q1.2 44 ((q1.2.1 44) - 1)).1 54)] [.int ((setF q1.2 44 ((q1.2.1 44) - 1)).2.1 24 (((σ.1 44) - 1) : Int32).toNatClampNeg), .ref (ad 0)] (c_joined hi _ _ _ _ hq6) hY_joined ml_343 ⟨Nat.le_of_ble_eq_true rfl, Nat.le_of_ble_eq_true rfl⟩ ⟨Nat.zero_le _, Nat.zero_le _⟩ rfl rfl (Nat.le_of_ble_eq_true rfl) dX11_handsTerm_369 (wm_inj hi cy _) ?_
    obtain ⟨q7, hq7, h⟩ := bd_of h
    refine vm_call C [.int ((setF q1.2 44 ((q1.2.1 44) - 1)).2.1 24 (((σ.1 44) - 1) : Int32).toNatClampNeg), .int q6.1] [] (c_endsGiven hi _ _ _ hq7) hY_endsGiven ml_304 ⟨Nat.le_of_ble_eq_true rfl, Nat.le_of_ble_eq_true rfl⟩ ⟨Nat.zero_le _, Nat.zero_le _⟩ rfl rfl (Nat.le_of_ble_eq_true rfl) dX11_handsTerm_372 (wm_inj hi cy _) ?_
    exact v_sub [1] rfl ((b_handsTerm_375 C hi) _ h)
  rw [if_neg c3] at h
  by_cases c4 : (q1.2.2.1 23 (((σ.1 44) - 1) : Int32).toNatClampNeg) = 3
  · rw [if_pos c4] at h
    refine v_tableIn C 343 dX11_handsTerm_18 (by rw [c4]; decide) (by rw [c4]; decide) (by rw [c4]; try rfl) (by decide) ?_
    refine v_aload_n C 1 dX11_handsTerm_343 rfl rfl ?_
    refine v_dup C dX11_handsTerm_344 rfl ?_
    refine n_getI C fl_219 dX11_handsTerm_345 ?_
    refine v_iconst C 1 dX11_handsTerm_348 (by decide) ?_
    refine v_isub C dX11_handsTerm_349 ?_
    refine n_putI C fl_219 dX11_handsTerm_350 ?_
    refine v_aload_n C 1 dX11_handsTerm_353 rfl rfl ?_
    refine v_aload_n C 1 dX11_handsTerm_354 rfl rfl ?_
    refine n_getR C fl_85 dX11_handsTerm_355 ?_
    refine v_iload_n C 0 dX11_handsTerm_358 rfl rfl ?_
    obtain ⟨g6, h⟩ := gd_of h
    refine vm_iald C 24 iI_24 (ix_in g6) dX11_handsTerm_359 ?_
    refine v_aload_n C 1 dX11_handsTerm_360 rfl rfl ?_
    refine v_bipush C 92 dX11_handsTerm_361 (by decide) ?_
    refine v_bipush C (-9) dX11_handsTerm_363 (by decide) ?_
    refine v_aload_n C 1 dX11_handsTerm_365 rfl rfl ?_
    refine n_getI C fl_249 dX11_handsTerm_366 ?_
    obtain ⟨q8, hq8, h⟩ := bd_of h
    refine vm_call C [.int 92, .int (-9), .int ((setF q1.2 44 ((q1.2.1 44) - 1)).1 54)] [.int ((setF q1.2 44 ((q1.2.1 44) - 1)).2.1 24 (((σ.1 44) - 1) : Int32).toNatClampNeg), .ref (ad 0)] (c_joined hi _ _ _ _ hq8) hY_joined ml_343 ⟨Nat.le_of_ble_eq_true rfl, Nat.le_of_ble_eq_true rfl⟩ ⟨Nat.zero_le _, Nat.zero_le _⟩ rfl rfl (Nat.le_of_ble_eq_true rfl) dX11_handsTerm_369 (wm_inj hi cy _) ?_
    obtain ⟨q9, hq9, h⟩ := bd_of h
    refine vm_call C [.int ((setF q1.2 44 ((q1.2.1 44) - 1)).2.1 24 (((σ.1 44) - 1) : Int32).toNatClampNeg), .int q8.1] [] (c_endsGiven hi _ _ _ hq9) hY_endsGiven ml_304 ⟨Nat.le_of_ble_eq_true rfl, Nat.le_of_ble_eq_true rfl⟩ ⟨Nat.zero_le _, Nat.zero_le _⟩ rfl rfl (Nat.le_of_ble_eq_true rfl) dX11_handsTerm_372 (wm_inj hi cy _) ?_
    exact v_sub [1] rfl ((b_handsTerm_375 C hi) _ h)
  rw [if_neg c4] at h
  by_cases c5 : (q1.2.2.1 23 (((σ.1 44) - 1) : Int32).toNatClampNeg) = 4
  · rw [if_pos c5] at h
    refine v_tableIn C 343 dX11_handsTerm_18 (by rw [c5]; decide) (by rw [c5]; decide) (by rw [c5]; try rfl) (by decide) ?_
    refine v_aload_n C 1 dX11_handsTerm_343 rfl rfl ?_
    refine v_dup C dX11_handsTerm_344 rfl ?_
    refine n_getI C fl_219 dX11_handsTerm_345 ?_
    refine v_iconst C 1 dX11_handsTerm_348 (by decide) ?_
    refine v_isub C dX11_handsTerm_349 ?_
    refine n_putI C fl_219 dX11_handsTerm_350 ?_
    refine v_aload_n C 1 dX11_handsTerm_353 rfl rfl ?_
    refine v_aload_n C 1 dX11_handsTerm_354 rfl rfl ?_
    refine n_getR C fl_85 dX11_handsTerm_355 ?_
    refine v_iload_n C 0 dX11_handsTerm_358 rfl rfl ?_
    obtain ⟨g7, h⟩ := gd_of h
    refine vm_iald C 24 iI_24 (ix_in g7) dX11_handsTerm_359 ?_
    refine v_aload_n C 1 dX11_handsTerm_360 rfl rfl ?_
    refine v_bipush C 92 dX11_handsTerm_361 (by decide) ?_
    refine v_bipush C (-9) dX11_handsTerm_363 (by decide) ?_
    refine v_aload_n C 1 dX11_handsTerm_365 rfl rfl ?_
    refine n_getI C fl_249 dX11_handsTerm_366 ?_
    obtain ⟨q10, hq10, h⟩ := bd_of h
    refine vm_call C [.int 92, .int (-9), .int ((setF q1.2 44 ((q1.2.1 44) - 1)).1 54)] [.int ((setF q1.2 44 ((q1.2.1 44) - 1)).2.1 24 (((σ.1 44) - 1) : Int32).toNatClampNeg), .ref (ad 0)] (c_joined hi _ _ _ _ hq10) hY_joined ml_343 ⟨Nat.le_of_ble_eq_true rfl, Nat.le_of_ble_eq_true rfl⟩ ⟨Nat.zero_le _, Nat.zero_le _⟩ rfl rfl (Nat.le_of_ble_eq_true rfl) dX11_handsTerm_369 (wm_inj hi cy _) ?_
    obtain ⟨q11, hq11, h⟩ := bd_of h
    refine vm_call C [.int ((setF q1.2 44 ((q1.2.1 44) - 1)).2.1 24 (((σ.1 44) - 1) : Int32).toNatClampNeg), .int q10.1] [] (c_endsGiven hi _ _ _ hq11) hY_endsGiven ml_304 ⟨Nat.le_of_ble_eq_true rfl, Nat.le_of_ble_eq_true rfl⟩ ⟨Nat.zero_le _, Nat.zero_le _⟩ rfl rfl (Nat.le_of_ble_eq_true rfl) dX11_handsTerm_372 (wm_inj hi cy _) ?_
    exact v_sub [1] rfl ((b_handsTerm_375 C hi) _ h)
  rw [if_neg c5] at h
  by_cases c6 : (q1.2.2.1 23 (((σ.1 44) - 1) : Int32).toNatClampNeg) = 5
  · rw [if_pos c6] at h
    refine v_tableIn C 343 dX11_handsTerm_18 (by rw [c6]; decide) (by rw [c6]; decide) (by rw [c6]; try rfl) (by decide) ?_
    refine v_aload_n C 1 dX11_handsTerm_343 rfl rfl ?_
    refine v_dup C dX11_handsTerm_344 rfl ?_
    refine n_getI C fl_219 dX11_handsTerm_345 ?_
    refine v_iconst C 1 dX11_handsTerm_348 (by decide) ?_
    refine v_isub C dX11_handsTerm_349 ?_
    refine n_putI C fl_219 dX11_handsTerm_350 ?_
    refine v_aload_n C 1 dX11_handsTerm_353 rfl rfl ?_
    refine v_aload_n C 1 dX11_handsTerm_354 rfl rfl ?_
    refine n_getR C fl_85 dX11_handsTerm_355 ?_
    refine v_iload_n C 0 dX11_handsTerm_358 rfl rfl ?_
    obtain ⟨g8, h⟩ := gd_of h
    refine vm_iald C 24 iI_24 (ix_in g8) dX11_handsTerm_359 ?_
    refine v_aload_n C 1 dX11_handsTerm_360 rfl rfl ?_
    refine v_bipush C 92 dX11_handsTerm_361 (by decide) ?_
    refine v_bipush C (-9) dX11_handsTerm_363 (by decide) ?_
    refine v_aload_n C 1 dX11_handsTerm_365 rfl rfl ?_
    refine n_getI C fl_249 dX11_handsTerm_366 ?_
    obtain ⟨q12, hq12, h⟩ := bd_of h
    refine vm_call C [.int 92, .int (-9), .int ((setF q1.2 44 ((q1.2.1 44) - 1)).1 54)] [.int ((setF q1.2 44 ((q1.2.1 44) - 1)).2.1 24 (((σ.1 44) - 1) : Int32).toNatClampNeg), .ref (ad 0)] (c_joined hi _ _ _ _ hq12) hY_joined ml_343 ⟨Nat.le_of_ble_eq_true rfl, Nat.le_of_ble_eq_true rfl⟩ ⟨Nat.zero_le _, Nat.zero_le _⟩ rfl rfl (Nat.le_of_ble_eq_true rfl) dX11_handsTerm_369 (wm_inj hi cy _) ?_
    obtain ⟨q13, hq13, h⟩ := bd_of h
    refine vm_call C [.int ((setF q1.2 44 ((q1.2.1 44) - 1)).2.1 24 (((σ.1 44) - 1) : Int32).toNatClampNeg), .int q12.1] [] (c_endsGiven hi _ _ _ hq13) hY_endsGiven ml_304 ⟨Nat.le_of_ble_eq_true rfl, Nat.le_of_ble_eq_true rfl⟩ ⟨Nat.zero_le _, Nat.zero_le _⟩ rfl rfl (Nat.le_of_ble_eq_true rfl) dX11_handsTerm_372 (wm_inj hi cy _) ?_
    exact v_sub [1] rfl ((b_handsTerm_375 C hi) _ h)
  rw [if_neg c6] at h
  by_cases c7 : (q1.2.2.1 23 (((σ.1 44) - 1) : Int32).toNatClampNeg) = 6
  · rw [if_pos c7] at h
    refine v_tableIn C 123 dX11_handsTerm_18 (by rw [c7]; decide) (by rw [c7]; decide) (by rw [c7]; try rfl) (by decide) ?_
    refine v_aload_n C 1 dX11_handsTerm_123 rfl rfl ?_
    refine v_dup C dX11_handsTerm_124 rfl ?_
    refine n_getI C fl_219 dX11_handsTerm_125 ?_
    refine v_iconst C 1 dX11_handsTerm_128 (by decide) ?_
    refine v_isub C dX11_handsTerm_129 ?_
    refine n_putI C fl_219 dX11_handsTerm_130 ?_
    refine v_aload_n C 1 dX11_handsTerm_133 rfl rfl ?_
    refine v_aload_n C 1 dX11_handsTerm_134 rfl rfl ?_
    refine n_getR C fl_85 dX11_handsTerm_135 ?_
    refine v_iload_n C 0 dX11_handsTerm_138 rfl rfl ?_
    obtain ⟨g9, h⟩ := gd_of h
    refine vm_iald C 24 iI_24 (ix_in g9) dX11_handsTerm_139 ?_
    refine v_aload_n C 1 dX11_handsTerm_140 rfl rfl ?_
    refine n_getR C fl_103 dX11_handsTerm_141 ?_
    refine v_iload_n C 0 dX11_handsTerm_144 rfl rfl ?_
    obtain ⟨g10, h⟩ := gd_of h
    refine vm_iald C 30 iI_30 (ix_in g10) dX11_handsTerm_145 ?_
    refine v_aload_n C 1 dX11_handsTerm_146 rfl rfl ?_
    refine n_getI C fl_249 dX11_handsTerm_147 ?_
    obtain ⟨q14, hq14, h⟩ := bd_of h
    refine vm_call C [.int ((setF q1.2 44 ((q1.2.1 44) - 1)).2.1 24 (((σ.1 44) - 1) : Int32).toNatClampNeg), .int ((setF q1.2 44 ((q1.2.1 44) - 1)).2.1 30 (((σ.1 44) - 1) : Int32).toNatClampNeg), .int ((setF q1.2 44 ((q1.2.1 44) - 1)).1 54)] [] (c_endsFound hi _ _ _ _ hq14) hY_endsFound ml_287 ⟨Nat.le_of_ble_eq_true rfl, Nat.le_of_ble_eq_true rfl⟩ ⟨Nat.zero_le _, Nat.zero_le _⟩ rfl rfl (Nat.le_of_ble_eq_true rfl) dX11_handsTerm_150 (wm_inj hi cy _) ?_
    refine v_goto C 375 dX11_handsTerm_153 (by decide) ?_
    exact v_sub [1] rfl ((b_handsTerm_375 C hi) _ h)
  rw [if_neg c7] at h
  by_cases c8 : (q1.2.2.1 23 (((σ.1 44) - 1) : Int32).toNatClampNeg) = 7
  · rw [if_pos c8] at h
    refine v_tableIn C 156 dX11_handsTerm_18 (by rw [c8]; decide) (by rw [c8]; decide) (by rw [c8]; try rfl) (by decide) ?_
    refine v_aload_n C 1 dX11_handsTerm_156 rfl rfl ?_
    refine n_getR C fl_103 dX11_handsTerm_157 ?_
    refine v_iload_n C 0 dX11_handsTerm_160 rfl rfl ?_
    refine v_aload_n C 1 dX11_handsTerm_161 rfl rfl ?_
    refine n_getI C fl_249 dX11_handsTerm_162 ?_
    obtain ⟨g11, h⟩ := gd_of h
    refine vm_iast C 30 iI_30 (ix_in g11) dX11_handsTerm_165 ?_
    refine v_aload_n C 1 dX11_handsTerm_166 rfl rfl ?_
    refine n_getR C fl_106 dX11_handsTerm_167 ?_
    refine v_iload_n C 0 dX11_handsTerm_170 rfl rfl ?_
    refine v_aload_n C 1 dX11_handsTerm_171 rfl rfl ?_
    refine n_getI C fl_252 dX11_handsTerm_172 ?_
    obtain ⟨g12, h⟩ := gd_of h
    refine vm_iast C 31 iI_31 (ix_in g12) dX11_handsTerm_175 ?_
    refine v_aload_n C 1 dX11_handsTerm_176 rfl rfl ?_
    refine n_getR C fl_82 dX11_handsTerm_177 ?_
    refine v_iload_n C 0 dX11_handsTerm_180 rfl rfl ?_
    refine v_bipush C 8 dX11_handsTerm_181 (by decide) ?_
    obtain ⟨g13, h⟩ := gd_of h
    refine vm_iast C 23 iI_23 (ix_in g13) dX11_handsTerm_183 ?_
    refine v_aload_n C 1 dX11_handsTerm_184 rfl rfl ?_
    refine v_iconst C 0 dX11_handsTerm_185 (by decide) ?_
    refine n_putI C fl_243 dX11_handsTerm_186 ?_
    refine v_aload_n C 1 dX11_handsTerm_189 rfl rfl ?_
    refine v_iconst C 3 dX11_handsTerm_190 (by decide) ?_
    refine v_aload_n C 1 dX11_handsTerm_191 rfl rfl ?_
    refine n_getI C fl_252 dX11_handsTerm_192 ?_
    refine v_iconst C 1 dX11_handsTerm_195 (by decide) ?_
    refine v_iadd C dX11_handsTerm_196 ?_
    refine v_aload_n C 1 dX11_handsTerm_197 rfl rfl ?_
    refine n_getI C fl_222 dX11_handsTerm_198 ?_
    refine v_iconst C 0 dX11_handsTerm_201 (by decide) ?_
    obtain ⟨q15, hq15, h⟩ := bd_of h
    refine vm_call C [.int 3, .int (((setF (setA (setA (setA q1.2 30 (((σ.1 44) - 1) : Int32).toNatClampNeg (q1.2.1 54)) 31 (((σ.1 44) - 1) : Int32).toNatClampNeg ((setA q1.2 30 (((σ.1 44) - 1) : Int32).toNatClampNeg (q1.2.1 54)).1 55)) 23 (((σ.1 44) - 1) : Int32).toNatClampNeg 8) 52 0).1 55) + 1), .int ((setF (setA (setA (setA q1.2 30 (((σ.1 44) - 1) : Int32).toNatClampNeg (q1.2.1 54)) 31 (((σ.1 44) - 1) : Int32).toNatClampNeg ((setA q1.2 30 (((σ.1 44) - 1) : Int32).toNatClampNeg (q1.2.1 54)).1 55)) 23 (((σ.1 44) - 1) : Int32).toNatClampNeg 8) 52 0).1 46), .int 0] [] (c_dueTerm hi _ _ _ _ _ hq15) hY_dueTerm ml_274 ⟨Nat.le_of_ble_eq_true rfl, Nat.le_of_ble_eq_true rfl⟩ ⟨Nat.zero_le _, Nat.zero_le _⟩ rfl rfl (Nat.le_of_ble_eq_true rfl) dX11_handsTerm_202 (wm_inj hi cy _) ?_
    refine v_goto C 375 dX11_handsTerm_205 (by decide) ?_
    exact v_sub [1] rfl ((b_handsTerm_375 C hi) _ h)
  rw [if_neg c8] at h
  by_cases c9 : (q1.2.2.1 23 (((σ.1 44) - 1) : Int32).toNatClampNeg) = 8
  · rw [if_pos c9] at h
    refine v_tableIn C 208 dX11_handsTerm_18 (by rw [c9]; decide) (by rw [c9]; decide) (by rw [c9]; try rfl) (by decide) ?_
    refine v_aload_n C 1 dX11_handsTerm_208 rfl rfl ?_
    refine v_iload_n C 0 dX11_handsTerm_209 rfl rfl ?_
    obtain ⟨q16, hq16, h⟩ := bd_of h
    refine vm_call C [.int ((σ.1 44) - 1)] [] (c_handsGiven hi _ _ hq16) hY_handsGiven ml_349 ⟨Nat.le_of_ble_eq_true rfl, Nat.le_of_ble_eq_true rfl⟩ ⟨Nat.zero_le _, Nat.zero_le _⟩ rfl rfl (Nat.le_of_ble_eq_true rfl) dX11_handsTerm_210 (wm_inj hi cy _) ?_
    refine v_goto C 375 dX11_handsTerm_213 (by decide) ?_
    exact v_sub [1] rfl ((b_handsTerm_375 C hi) _ h)
  rw [if_neg c9] at h
  by_cases c10 : (q1.2.2.1 23 (((σ.1 44) - 1) : Int32).toNatClampNeg) = 9
  · rw [if_pos c10] at h
    refine v_tableIn C 216 dX11_handsTerm_18 (by rw [c10]; decide) (by rw [c10]; decide) (by rw [c10]; try rfl) (by decide) ?_
    refine v_aload_n C 1 dX11_handsTerm_216 rfl rfl ?_
    refine v_iload_n C 0 dX11_handsTerm_217 rfl rfl ?_
    obtain ⟨q17, hq17, h⟩ := bd_of h
    refine vm_call C [.int ((σ.1 44) - 1)] [] (c_handsTaken hi _ _ hq17) hY_handsTaken ml_352 ⟨Nat.le_of_ble_eq_true rfl, Nat.le_of_ble_eq_true rfl⟩ ⟨Nat.zero_le _, Nat.zero_le _⟩ rfl rfl (Nat.le_of_ble_eq_true rfl) dX11_handsTerm_218 (wm_inj hi cy _) ?_
    refine v_goto C 375 dX11_handsTerm_221 (by decide) ?_
    exact v_sub [1] rfl ((b_handsTerm_375 C hi) _ h)
  rw [if_neg c10] at h
  by_cases c11 : (q1.2.2.1 23 (((σ.1 44) - 1) : Int32).toNatClampNeg) = 10
  · rw [if_pos c11] at h
    refine v_tableIn C 216 dX11_handsTerm_18 (by rw [c11]; decide) (by rw [c11]; decide) (by rw [c11]; try rfl) (by decide) ?_
    refine v_aload_n C 1 dX11_handsTerm_216 rfl rfl ?_
    refine v_iload_n C 0 dX11_handsTerm_217 rfl rfl ?_
    obtain ⟨q18, hq18, h⟩ := bd_of h
    refine vm_call C [.int ((σ.1 44) - 1)] [] (c_handsTaken hi _ _ hq18) hY_handsTaken ml_352 ⟨Nat.le_of_ble_eq_true rfl, Nat.le_of_ble_eq_true rfl⟩ ⟨Nat.zero_le _, Nat.zero_le _⟩ rfl rfl (Nat.le_of_ble_eq_true rfl) dX11_handsTerm_218 (wm_inj hi cy _) ?_
    refine v_goto C 375 dX11_handsTerm_221 (by decide) ?_
    exact v_sub [1] rfl ((b_handsTerm_375 C hi) _ h)
  rw [if_neg c11] at h
  by_cases c12 : (q1.2.2.1 23 (((σ.1 44) - 1) : Int32).toNatClampNeg) = 11
  · rw [if_pos c12] at h
    refine v_tableIn C 224 dX11_handsTerm_18 (by rw [c12]; decide) (by rw [c12]; decide) (by rw [c12]; try rfl) (by decide) ?_
    refine v_aload_n C 1 dX11_handsTerm_224 rfl rfl ?_
    refine n_getR C fl_103 dX11_handsTerm_225 ?_
    refine v_iload_n C 0 dX11_handsTerm_228 rfl rfl ?_
    refine v_aload_n C 1 dX11_handsTerm_229 rfl rfl ?_
    refine n_getI C fl_249 dX11_handsTerm_230 ?_
    obtain ⟨g14, h⟩ := gd_of h
    refine vm_iast C 30 iI_30 (ix_in g14) dX11_handsTerm_233 ?_
    refine v_aload_n C 1 dX11_handsTerm_234 rfl rfl ?_
    refine n_getR C fl_82 dX11_handsTerm_235 ?_
    refine v_iload_n C 0 dX11_handsTerm_238 rfl rfl ?_
    refine v_bipush C 12 dX11_handsTerm_239 (by decide) ?_
    obtain ⟨g15, h⟩ := gd_of h
    refine vm_iast C 23 iI_23 (ix_in g15) dX11_handsTerm_241 ?_
    refine v_aload_n C 1 dX11_handsTerm_242 rfl rfl ?_
    refine v_iconst C 0 dX11_handsTerm_243 (by decide) ?_
    refine n_putI C fl_243 dX11_handsTerm_244 ?_
    refine v_aload_n C 1 dX11_handsTerm_247 rfl rfl ?_
    refine v_iconst C 3 dX11_handsTerm_248 (by decide) ?_
    refine v_aload_n C 1 dX11_handsTerm_249 rfl rfl ?_
    refine v_aload_n C 1 dX11_handsTerm_250 rfl rfl ?_
    refine n_getI C fl_228 dX11_handsTerm_251 ?_
    refine v_iconst C 1 dX11_handsTerm_254 (by decide) ?_
    refine v_iadd C dX11_handsTerm_255 ?_
    obtain ⟨q19, hq19, h⟩ := bd_of h
    refine vm_call C [.int (((setF (setA (setA q1.2 30 (((σ.1 44) - 1) : Int32).toNatClampNeg (q1.2.1 54)) 23 (((σ.1 44) - 1) : Int32).toNatClampNeg 12) 52 0).1 48) + 1)] [.int 3, .ref (ad 0)] (c_behind hi _ _ hq19) hY_behind ml_127 ⟨Nat.le_of_ble_eq_true rfl, Nat.le_of_ble_eq_true rfl⟩ ⟨Nat.zero_le _, Nat.zero_le _⟩ rfl rfl (Nat.le_of_ble_eq_true rfl) dX11_handsTerm_256 (wm_inj hi cy _) ?_
    refine v_aload_n C 1 dX11_handsTerm_259 rfl rfl ?_
    refine n_getI C fl_231 dX11_handsTerm_260 ?_
    refine v_iconst C 1 dX11_handsTerm_263 (by decide) ?_
    refine v_iadd C dX11_handsTerm_264 ?_
    refine v_aload_n C 1 dX11_handsTerm_265 rfl rfl ?_
    refine v_aload_n C 1 dX11_handsTerm_266 rfl rfl ?_
    refine n_getI C fl_234 dX11_handsTerm_267 ?_
    refine v_aload_n C 1 dX11_handsTerm_270 rfl rfl ?_
    refine n_getI C fl_231 dX11_handsTerm_271 ?_
    refine v_bipush C 10 dX11_handsTerm_274 (by decide) ?_
    refine v_icmp_ge C 286 dX11_handsTerm_276 (by decide) (fun c13 => ?_) (fun c13 => ?_)
    · rw [if_pos c13] at h
      refine v_iconst C 0 dX11_handsTerm_286 (by decide) ?_
      exact v_sub [1] rfl ((b_handsTerm_287 C hi (b_handsTerm_375 C hi)) _ _ _ _ _ _ h)
    · rw [if_neg c13] at h
      refine v_aload_n C 1 dX11_handsTerm_279 rfl rfl ?_
      refine n_getI C fl_231 dX11_handsTerm_280 ?_
      refine v_goto C 287 dX11_handsTerm_283 (by decide) ?_
      exact v_sub [1] rfl ((b_handsTerm_287 C hi (b_handsTerm_375 C hi)) _ _ _ _ _ _ h)
  rw [if_neg c12] at h
  by_cases c14 : (q1.2.2.1 23 (((σ.1 44) - 1) : Int32).toNatClampNeg) = 12
  · rw [if_pos c14] at h
    refine v_tableIn C 304 dX11_handsTerm_18 (by rw [c14]; decide) (by rw [c14]; decide) (by rw [c14]; try rfl) (by decide) ?_
    refine v_aload_n C 1 dX11_handsTerm_304 rfl rfl ?_
    refine v_dup C dX11_handsTerm_305 rfl ?_
    refine n_getI C fl_219 dX11_handsTerm_306 ?_
    refine v_iconst C 1 dX11_handsTerm_309 (by decide) ?_
    refine v_isub C dX11_handsTerm_310 ?_
    refine n_putI C fl_219 dX11_handsTerm_311 ?_
    refine v_aload_n C 1 dX11_handsTerm_314 rfl rfl ?_
    refine v_aload_n C 1 dX11_handsTerm_315 rfl rfl ?_
    refine n_getR C fl_85 dX11_handsTerm_316 ?_
    refine v_iload_n C 0 dX11_handsTerm_319 rfl rfl ?_
    obtain ⟨g16, h⟩ := gd_of h
    refine vm_iald C 24 iI_24 (ix_in g16) dX11_handsTerm_320 ?_
    refine v_aload_n C 1 dX11_handsTerm_321 rfl rfl ?_
    refine v_bipush C 44 dX11_handsTerm_322 (by decide) ?_
    refine v_aload_n C 1 dX11_handsTerm_324 rfl rfl ?_
    refine n_getR C fl_103 dX11_handsTerm_325 ?_
    refine v_iload_n C 0 dX11_handsTerm_328 rfl rfl ?_
    obtain ⟨g17, h⟩ := gd_of h
    refine vm_iald C 30 iI_30 (ix_in g17) dX11_handsTerm_329 ?_
    refine v_aload_n C 1 dX11_handsTerm_330 rfl rfl ?_
    refine n_getI C fl_249 dX11_handsTerm_331 ?_
    obtain ⟨q20, hq20, h⟩ := bd_of h
    refine vm_call C [.int 44, .int ((setF q1.2 44 ((q1.2.1 44) - 1)).2.1 30 (((σ.1 44) - 1) : Int32).toNatClampNeg), .int ((setF q1.2 44 ((q1.2.1 44) - 1)).1 54)] [.int ((setF q1.2 44 ((q1.2.1 44) - 1)).2.1 24 (((σ.1 44) - 1) : Int32).toNatClampNeg), .ref (ad 0)] (c_joined hi _ _ _ _ hq20) hY_joined ml_343 ⟨Nat.le_of_ble_eq_true rfl, Nat.le_of_ble_eq_true rfl⟩ ⟨Nat.zero_le _, Nat.zero_le _⟩ rfl rfl (Nat.le_of_ble_eq_true rfl) dX11_handsTerm_334 (wm_inj hi cy _) ?_
    obtain ⟨q21, hq21, h⟩ := bd_of h
    refine vm_call C [.int ((setF q1.2 44 ((q1.2.1 44) - 1)).2.1 24 (((σ.1 44) - 1) : Int32).toNatClampNeg), .int q20.1] [] (c_endsGiven hi _ _ _ hq21) hY_endsGiven ml_304 ⟨Nat.le_of_ble_eq_true rfl, Nat.le_of_ble_eq_true rfl⟩ ⟨Nat.zero_le _, Nat.zero_le _⟩ rfl rfl (Nat.le_of_ble_eq_true rfl) dX11_handsTerm_337 (wm_inj hi cy _) ?_
    refine v_goto C 375 dX11_handsTerm_340 (by decide) ?_
    exact v_sub [1] rfl ((b_handsTerm_375 C hi) _ h)
  rw [if_neg c14] at h
  refine v_tableOut C 343 dX11_handsTerm_18 (sw_out 12 (by decide) (fun i hi9 => by have k0 := lv_neT c1 (show (0 : Int32).toInt = 0 from by decide); have k1 := lv_neT c2 (show (1 : Int32).toInt = 1 from by decide); have k2 := lv_neT c3 (show (2 : Int32).toInt = 2 from by decide); have k3 := lv_neT c4 (show (3 : Int32).toInt = 3 from by decide); have k4 := lv_neT c5 (show (4 : Int32).toInt = 4 from by decide); have k5 := lv_neT c6 (show (5 : Int32).toInt = 5 from by decide); have k6 := lv_neT c7 (show (6 : Int32).toInt = 6 from by decide); have k7 := lv_neT c8 (show (7 : Int32).toInt = 7 from by decide); have k8 := lv_neT c9 (show (8 : Int32).toInt = 8 from by decide); have k9 := lv_neT c10 (show (9 : Int32).toInt = 9 from by decide); have k10 := lv_neT c11 (show (10 : Int32).toInt = 10 from by decide); have k11 := lv_neT c12 (show (11 : Int32).toInt = 11 from by decide); have k12 := lv_neT c14 (show (12 : Int32).toInt = 12 from by decide); omega)) (by decide) ?_
  refine v_aload_n C 1 dX11_handsTerm_343 rfl rfl ?_
  refine v_dup C dX11_handsTerm_344 rfl ?_
  refine n_getI C fl_219 dX11_handsTerm_345 ?_
  refine v_iconst C 1 dX11_handsTerm_348 (by decide) ?_
  refine v_isub C dX11_handsTerm_349 ?_
  refine n_putI C fl_219 dX11_handsTerm_350 ?_
  refine v_aload_n C 1 dX11_handsTerm_353 rfl rfl ?_
  refine v_aload_n C 1 dX11_handsTerm_354 rfl rfl ?_
  refine n_getR C fl_85 dX11_handsTerm_355 ?_
  refine v_iload_n C 0 dX11_handsTerm_358 rfl rfl ?_
  obtain ⟨g18, h⟩ := gd_of h
  refine vm_iald C 24 iI_24 (ix_in g18) dX11_handsTerm_359 ?_
  refine v_aload_n C 1 dX11_handsTerm_360 rfl rfl ?_
  refine v_bipush C 92 dX11_handsTerm_361 (by decide) ?_
  refine v_bipush C (-9) dX11_handsTerm_363 (by decide) ?_
  refine v_aload_n C 1 dX11_handsTerm_365 rfl rfl ?_
  refine n_getI C fl_249 dX11_handsTerm_366 ?_
  obtain ⟨q22, hq22, h⟩ := bd_of h
  refine vm_call C [.int 92, .int (-9), .int ((setF q1.2 44 ((q1.2.1 44) - 1)).1 54)] [.int ((setF q1.2 44 ((q1.2.1 44) - 1)).2.1 24 (((σ.1 44) - 1) : Int32).toNatClampNeg), .ref (ad 0)] (c_joined hi _ _ _ _ hq22) hY_joined ml_343 ⟨Nat.le_of_ble_eq_true rfl, Nat.le_of_ble_eq_true rfl⟩ ⟨Nat.zero_le _, Nat.zero_le _⟩ rfl rfl (Nat.le_of_ble_eq_true rfl) dX11_handsTerm_369 (wm_inj hi cy _) ?_
  obtain ⟨q23, hq23, h⟩ := bd_of h
  refine vm_call C [.int ((setF q1.2 44 ((q1.2.1 44) - 1)).2.1 24 (((σ.1 44) - 1) : Int32).toNatClampNeg), .int q22.1] [] (c_endsGiven hi _ _ _ hq23) hY_endsGiven ml_304 ⟨Nat.le_of_ble_eq_true rfl, Nat.le_of_ble_eq_true rfl⟩ ⟨Nat.zero_le _, Nat.zero_le _⟩ rfl rfl (Nat.le_of_ble_eq_true rfl) dX11_handsTerm_372 (wm_inj hi cy _) ?_
  exact v_sub [1] rfl ((b_handsTerm_375 C hi) _ h)
set_option maxHeartbeats 4000000 in
set_option maxRecDepth 20000 in
theorem b_readsWhole_36 {p : Program} {l : Launch} {e : Env} {s : State} {m : MethodId} {args : Array Value} {below : List Frame} {meth : Method} {c : Code} {D : va_G} {cy : Nat → ClassId} {ad : Nat → Nat} {q : Int32 × MS} (C : vC p s m args meth c cX11_readsWhole 1 none RX11 D (cyT cy)) (hi : ∀ i j, i < 34 → j < 34 → ad i = ad j → i = j) {k15 : MS → Option (Int32 × MS)} (hk15 : ∀  (σ : MS), k15 σ = some q → V p l e { frames := 12, cells := 0, slots := 0, locals := 294 } s m args below meth c D (inAd ad) 1 (MQ below (vQ D (inAd ad) none (wm cy ad q.2)) args s 0 0 (inAd ad)) 0 0 (wm cy ad σ) 15 [(0, .ref (ad 0))] []) : ∀ (σ : MS), B_readsWhole_36 k15 σ = some q → V p l e { frames := 12, cells := 0, slots := 0, locals := 294 } s m args below meth c D (inAd ad) 1 (MQ below (vQ D (inAd ad) none (wm cy ad q.2)) args s 0 0 (inAd ad)) 0 0 (wm cy ad σ) 36 [(0, .ref (ad 0))] [] := by
  intro σ h
  rw [B_readsWhole_36] at h
  refine v_aload_n C 0 dX11_readsWhole_36 rfl rfl ?_
  refine n_getI C fl_243 dX11_readsWhole_37 ?_
  refine v_if_ne C 50 dX11_readsWhole_40 (by decide) (fun c1 => ?_) (fun c1 => ?_)
  · rw [if_neg c1] at h
    refine v_aload_n C 0 dX11_readsWhole_50 rfl rfl ?_
    refine n_getI C fl_243 dX11_readsWhole_51 ?_
    refine v_iconst C 1 dX11_readsWhole_54 (by decide) ?_
    refine v_icmp_ne C 65 dX11_readsWhole_55 (by decide) (fun c2 => ?_) (fun c2 => ?_)
    · rw [if_neg c2] at h
      refine v_aload_n C 0 dX11_readsWhole_65 rfl rfl ?_
      obtain ⟨q1, hq1, h⟩ := bd_of h
      refine vm_call C [] [] (c_handsTerm hi _ hq1) hY_handsTerm ml_361 ⟨Nat.le_of_ble_eq_true rfl, Nat.le_of_ble_eq_true rfl⟩ ⟨Nat.zero_le _, Nat.zero_le _⟩ rfl rfl (Nat.le_of_ble_eq_true rfl) dX11_readsWhole_66 (wm_inj hi cy _) ?_
      refine v_goto C 15 dX11_readsWhole_69 (by decide) ?_
      exact v_sub [0] rfl (hk15 _ h)
    · rw [if_pos c2] at h
      refine v_aload_n C 0 dX11_readsWhole_58 rfl rfl ?_
      obtain ⟨q2, hq2, h⟩ := bd_of h
      refine vm_call C [] [] (c_handsType hi _ hq2) hY_handsType ml_358 ⟨Nat.le_of_ble_eq_true rfl, Nat.le_of_ble_eq_true rfl⟩ ⟨Nat.zero_le _, Nat.zero_le _⟩ rfl rfl (Nat.le_of_ble_eq_true rfl) dX11_readsWhole_59 (wm_inj hi cy _) ?_
      refine v_goto C 15 dX11_readsWhole_62 (by decide) ?_
      exact v_sub [0] rfl (hk15 _ h)
  · rw [if_pos c1] at h
    refine v_aload_n C 0 dX11_readsWhole_43 rfl rfl ?_
    obtain ⟨q3, hq3, h⟩ := bd_of h
    refine vm_call C [] [] (c_reads hi _ hq3) hY_reads ml_355 ⟨Nat.le_of_ble_eq_true rfl, Nat.le_of_ble_eq_true rfl⟩ ⟨Nat.zero_le _, Nat.zero_le _⟩ rfl rfl (Nat.le_of_ble_eq_true rfl) dX11_readsWhole_44 (wm_inj hi cy _) ?_
    refine v_goto C 15 dX11_readsWhole_47 (by decide) ?_
    exact v_sub [0] rfl (hk15 _ h)
set_option maxHeartbeats 4000000 in
set_option maxRecDepth 20000 in
theorem b_readsWhole_72 {p : Program} {l : Launch} {e : Env} {s : State} {m : MethodId} {args : Array Value} {below : List Frame} {meth : Method} {c : Code} {D : va_G} {cy : Nat → ClassId} {ad : Nat → Nat} {q : Int32 × MS} (C : vC p s m args meth c cX11_readsWhole 1 none RX11 D (cyT cy)) (hi : ∀ i j, i < 34 → j < 34 → ad i = ad j → i = j) : ∀ (σ : MS), B_readsWhole_72 σ = some q → V p l e { frames := 12, cells := 0, slots := 0, locals := 294 } s m args below meth c D (inAd ad) 1 (MQ below (vQ D (inAd ad) none (wm cy ad q.2)) args s 0 0 (inAd ad)) 0 0 (wm cy ad σ) 72 [(0, .ref (ad 0))] [] := by
  intro σ h
  rw [B_readsWhole_72] at h
  obtain rfl := Option.some.inj h
  exact v_vret C dX11_readsWhole_72
set_option maxHeartbeats 4000000 in
set_option maxRecDepth 20000 in
theorem l_readsWhole_15 {p : Program} {l : Launch} {e : Env} {s : State} {m : MethodId} {args : Array Value} {below : List Frame} {meth : Method} {c : Code} {D : va_G} {cy : Nat → ClassId} {ad : Nat → Nat} {q : Int32 × MS} (C : vC p s m args meth c cX11_readsWhole 1 none RX11 D (cyT cy)) (hi : ∀ i j, i < 34 → j < 34 → ad i = ad j → i = j) : ∀ (n : Nat) (σ : MS), L_readsWhole_15 n σ = some q → V p l e { frames := 12, cells := 0, slots := 0, locals := 294 } s m args below meth c D (inAd ad) 1 (MQ below (vQ D (inAd ad) none (wm cy ad q.2)) args s 0 0 (inAd ad)) 0 0 (wm cy ad σ) 15 [(0, .ref (ad 0))] [] := by
  intro n
  induction n with
  | zero =>
    intro σ h
    rw [L_readsWhole_15.eq_1] at h
    cases h
  | succ n ih =>
    intro σ h
    rw [L_readsWhole_15.eq_2] at h
    refine v_aload_n C 0 dX11_readsWhole_15 rfl rfl ?_
    refine n_getI C fl_210 dX11_readsWhole_16 ?_
    refine v_if_ge C 72 dX11_readsWhole_19 (by decide) (fun c1 => ?_) (fun c1 => ?_)
    · rw [if_pos c1] at h
      exact v_sub [0] rfl ((b_readsWhole_72 C hi) _ h)
    · rw [if_neg c1] at h
      refine v_aload_n C 0 dX11_readsWhole_22 rfl rfl ?_
      refine n_getI C fl_219 dX11_readsWhole_23 ?_
      refine v_if_gt C 36 dX11_readsWhole_26 (by decide) (fun c2 => ?_) (fun c2 => ?_)
      · rw [if_pos c2] at h
        exact v_sub [0] rfl ((b_readsWhole_36 C hi ih) _ h)
      · rw [if_neg c2] at h
        refine v_aload_n C 0 dX11_readsWhole_29 rfl rfl ?_
        refine n_getI C fl_243 dX11_readsWhole_30 ?_
        refine v_if_ne C 72 dX11_readsWhole_33 (by decide) (fun c3 => ?_) (fun c3 => ?_)
        · rw [if_neg c3] at h
          exact v_sub [0] rfl ((b_readsWhole_72 C hi) _ h)
        · rw [if_pos c3] at h
          exact v_sub [0] rfl ((b_readsWhole_36 C hi ih) _ h)
set_option maxHeartbeats 4000000 in
set_option maxRecDepth 20000 in
theorem c_readsWhole {l : Launch} {D : va_G} {cy : Nat → ClassId} {ad : Nat → Nat} {q : Int32 × MS} (hi : ∀ i j, i < 34 → j < 34 → ad i = ad j → i = j) (σ : MS) (h : f_readsWhole σ = some q) : MV l D (cyT cy) (inAd ad) yX11_readsWhole cX11_readsWhole 1 none 12 294 0 0 [.ref (ad 0)] (wm cy ad σ) none (wm cy ad q.2) := by
  refine MV.of (by decide) (wm_inj hi cy σ) (Nat.le_of_ble_eq_true rfl) [(0, .ref (ad 0))] rfl ?_
  intro p e s m args below meth c C
  rw [f_readsWhole] at h
  refine v_aload_n C 0 dX11_readsWhole_0 rfl rfl ?_
  refine v_iconst C 0 dX11_readsWhole_1 (by decide) ?_
  refine n_putI C fl_219 dX11_readsWhole_2 ?_
  refine v_aload_n C 0 dX11_readsWhole_5 rfl rfl ?_
  refine v_iconst C 0 dX11_readsWhole_6 (by decide) ?_
  refine n_putI C fl_222 dX11_readsWhole_7 ?_
  refine v_aload_n C 0 dX11_readsWhole_10 rfl rfl ?_
  refine v_iconst C 0 dX11_readsWhole_11 (by decide) ?_
  refine n_putI C fl_243 dX11_readsWhole_12 ?_
  exact v_sub [0] rfl ((l_readsWhole_15 C hi 10000) _ h)
set_option maxHeartbeats 4000000 in
set_option maxRecDepth 20000 in
theorem c_starts {l : Launch} {D : va_G} {cy : Nat → ClassId} {ad : Nat → Nat} {q : Int32 × MS} (hi : ∀ i j, i < 34 → j < 34 → ad i = ad j → i = j) (σ : MS) (h : f_starts σ = some q) : MV l D (cyT cy) (inAd ad) yX11_starts cX11_starts 1 none 0 0 0 0 [.ref (ad 0)] (wm cy ad σ) none (wm cy ad q.2) := by
  refine MV.of (by decide) (wm_inj hi cy σ) (Nat.le_of_ble_eq_true rfl) [(0, .ref (ad 0))] rfl ?_
  intro p e s m args below meth c C
  rw [f_starts] at h
  refine v_aload_n C 0 dX11_starts_0 rfl rfl ?_
  refine v_sipush C 1734 dX11_starts_1 (by decide) ?_
  refine n_putI C fl_133 dX11_starts_4 ?_
  refine v_aload_n C 0 dX11_starts_7 rfl rfl ?_
  refine v_bipush C 20 dX11_starts_8 (by decide) ?_
  refine n_putI C fl_140 dX11_starts_10 ?_
  refine v_aload_n C 0 dX11_starts_13 rfl rfl ?_
  refine v_iconst C 1 dX11_starts_14 (by decide) ?_
  refine n_putI C fl_45 dX11_starts_15 ?_
  refine v_aload_n C 0 dX11_starts_18 rfl rfl ?_
  refine v_bipush C (-9) dX11_starts_19 (by decide) ?_
  refine n_putI C fl_210 dX11_starts_21 ?_
  refine v_aload_n C 0 dX11_starts_24 rfl rfl ?_
  refine v_iconst C 0 dX11_starts_25 (by decide) ?_
  refine n_putI C fl_213 dX11_starts_26 ?_
  refine v_aload_n C 0 dX11_starts_29 rfl rfl ?_
  refine v_aload_n C 0 dX11_starts_30 rfl rfl ?_
  refine n_getI C fl_364 dX11_starts_31 ?_
  refine n_putI C fl_294 dX11_starts_34 ?_
  obtain rfl := Option.some.inj h
  exact v_vret C dX11_starts_37
set_option maxHeartbeats 4000000 in
set_option maxRecDepth 20000 in
theorem c_wholeType {l : Launch} {D : va_G} {cy : Nat → ClassId} {ad : Nat → Nat} {q : Int32 × MS} (hi : ∀ i j, i < 34 → j < 34 → ad i = ad j → i = j) (σ : MS) (h : f_wholeType σ = some q) : MV l D (cyT cy) (inAd ad) yX11_wholeType cX11_wholeType 1 (some .int) 13 314 0 0 [.ref (ad 0)] (wm cy ad σ) (some (.int q.1)) (wm cy ad q.2) := by
  refine MV.of (by decide) (wm_inj hi cy σ) (Nat.le_of_ble_eq_true rfl) [(0, .ref (ad 0))] rfl ?_
  intro p e s m args below meth c C
  rw [f_wholeType] at h
  refine v_aload_n C 0 dX11_wholeType_0 rfl rfl ?_
  obtain ⟨q1, hq1, h⟩ := bd_of h
  refine vm_call C [] [] (c_dueType hi _ hq1) hY_dueType ml_307 ⟨Nat.le_of_ble_eq_true rfl, Nat.le_of_ble_eq_true rfl⟩ ⟨Nat.zero_le _, Nat.zero_le _⟩ rfl rfl (Nat.le_of_ble_eq_true rfl) dX11_wholeType_1 (wm_inj hi cy _) ?_
  refine v_aload_n C 0 dX11_wholeType_4 rfl rfl ?_
  refine v_iconst C 0 dX11_wholeType_5 (by decide) ?_
  refine n_putI C fl_225 dX11_wholeType_6 ?_
  refine v_aload_n C 0 dX11_wholeType_9 rfl rfl ?_
  obtain ⟨q2, hq2, h⟩ := bd_of h
  refine vm_call C [] [] (c_readsWhole hi _ hq2) hY_readsWhole ml_367 ⟨Nat.le_of_ble_eq_true rfl, Nat.le_of_ble_eq_true rfl⟩ ⟨Nat.zero_le _, Nat.zero_le _⟩ rfl rfl (Nat.le_of_ble_eq_true rfl) dX11_wholeType_10 (wm_inj hi cy _) ?_
  refine v_aload_n C 0 dX11_wholeType_13 rfl rfl ?_
  refine n_getI C fl_249 dX11_wholeType_14 ?_
  obtain rfl := Option.some.inj h
  exact v_iret C dX11_wholeType_17
set_option maxHeartbeats 4000000 in
set_option maxRecDepth 20000 in
theorem c_wholeGiven {l : Launch} {D : va_G} {cy : Nat → ClassId} {ad : Nat → Nat} {q : Int32 × MS} (hi : ∀ i j, i < 34 → j < 34 → ad i = ad j → i = j) (x1 : Int32) (σ : MS) (h : f_wholeGiven x1 σ = some q) : MV l D (cyT cy) (inAd ad) yX11_wholeGiven cX11_wholeGiven 2 (some .int) 13 314 0 0 [.ref (ad 0), .int x1] (wm cy ad σ) (some (.int q.1)) (wm cy ad q.2) := by
  refine MV.of (by decide) (wm_inj hi cy σ) (Nat.le_of_ble_eq_true rfl) [(0, .ref (ad 0)), (1, .int x1)] rfl ?_
  intro p e s m args below meth c C
  rw [f_wholeGiven] at h
  refine v_aload_n C 0 dX11_wholeGiven_0 rfl rfl ?_
  refine v_iconst C 3 dX11_wholeGiven_1 (by decide) ?_
  refine v_iload_n C 1 dX11_wholeGiven_2 rfl rfl ?_
  refine v_iconst C 0 dX11_wholeGiven_3 (by decide) ?_
  refine v_iconst C 0 dX11_wholeGiven_4 (by decide) ?_
  obtain ⟨q1, hq1, h⟩ := bd_of h
  refine vm_call C [.int 3, .int x1, .int 0, .int 0] [] (c_dueTerm hi _ _ _ _ _ hq1) hY_dueTerm ml_274 ⟨Nat.le_of_ble_eq_true rfl, Nat.le_of_ble_eq_true rfl⟩ ⟨Nat.zero_le _, Nat.zero_le _⟩ rfl rfl (Nat.le_of_ble_eq_true rfl) dX11_wholeGiven_5 (wm_inj hi cy _) ?_
  refine v_aload_n C 0 dX11_wholeGiven_8 rfl rfl ?_
  obtain ⟨q2, hq2, h⟩ := bd_of h
  refine vm_call C [] [] (c_readsWhole hi _ hq2) hY_readsWhole ml_367 ⟨Nat.le_of_ble_eq_true rfl, Nat.le_of_ble_eq_true rfl⟩ ⟨Nat.zero_le _, Nat.zero_le _⟩ rfl rfl (Nat.le_of_ble_eq_true rfl) dX11_wholeGiven_9 (wm_inj hi cy _) ?_
  refine v_aload_n C 0 dX11_wholeGiven_12 rfl rfl ?_
  refine n_getI C fl_249 dX11_wholeGiven_13 ?_
  obtain rfl := Option.some.inj h
  exact v_iret C dX11_wholeGiven_16
set_option maxHeartbeats 4000000 in
set_option maxRecDepth 20000 in
theorem b_wants_12 {p : Program} {l : Launch} {e : Env} {s : State} {m : MethodId} {args : Array Value} {below : List Frame} {meth : Method} {c : Code} {D : va_G} {cy : Nat → ClassId} {ad : Nat → Nat} {q : Int32 × MS} (C : vC p s m args meth c cX11_wants 2 none RX11 D (cyT cy)) (hi : ∀ i j, i < 34 → j < 34 → ad i = ad j → i = j) : ∀ (σ : MS), B_wants_12 σ = some q → V p l e { frames := 1, cells := 0, slots := 0, locals := 21 } s m args below meth c D (inAd ad) 2 (MQ below (vQ D (inAd ad) none (wm cy ad q.2)) args s 0 0 (inAd ad)) 0 0 (wm cy ad σ) 12 [(0, .ref (ad 0))] [] := by
  intro σ h
  rw [B_wants_12] at h
  obtain rfl := Option.some.inj h
  exact v_vret C dX11_wants_12
set_option maxHeartbeats 4000000 in
set_option maxRecDepth 20000 in
theorem c_wants {l : Launch} {D : va_G} {cy : Nat → ClassId} {ad : Nat → Nat} {q : Int32 × MS} (hi : ∀ i j, i < 34 → j < 34 → ad i = ad j → i = j) (x1 : Int32) (σ : MS) (h : f_wants x1 σ = some q) : MV l D (cyT cy) (inAd ad) yX11_wants cX11_wants 2 none 1 21 0 0 [.ref (ad 0), .int x1] (wm cy ad σ) none (wm cy ad q.2) := by
  refine MV.of (by decide) (wm_inj hi cy σ) (Nat.le_of_ble_eq_true rfl) [(0, .ref (ad 0)), (1, .int x1)] rfl ?_
  intro p e s m args below meth c C
  rw [f_wants] at h
  refine v_iload_n C 1 dX11_wants_0 rfl rfl ?_
  refine v_if_ne C 12 dX11_wants_1 (by decide) (fun c1 => ?_) (fun c1 => ?_)
  · rw [if_neg c1] at h
    exact v_sub [0] rfl ((b_wants_12 C hi) _ h)
  · rw [if_pos c1] at h
    refine v_aload_n C 0 dX11_wants_4 rfl rfl ?_
    refine v_aload_n C 0 dX11_wants_5 rfl rfl ?_
    refine n_getI C fl_213 dX11_wants_6 ?_
    obtain ⟨q1, hq1, h⟩ := bd_of h
    refine vm_call C [.int (σ.1 56)] [] (c_fails hi _ _ hq1) hY_fails ml_240 ⟨Nat.le_of_ble_eq_true rfl, Nat.le_of_ble_eq_true rfl⟩ ⟨Nat.zero_le _, Nat.zero_le _⟩ rfl rfl (Nat.le_of_ble_eq_true rfl) dX11_wants_9 (wm_inj hi cy _) ?_
    exact v_sub [0] rfl ((b_wants_12 C hi) _ h)
set_option maxHeartbeats 4000000 in
set_option maxRecDepth 20000 in
theorem b_readsTerms_87 {p : Program} {l : Launch} {e : Env} {s : State} {m : MethodId} {args : Array Value} {below : List Frame} {meth : Method} {c : Code} {D : va_G} {cy : Nat → ClassId} {ad : Nat → Nat} {q : Int32 × MS} (C : vC p s m args meth c cX11_readsTerms 2 none RX11 D (cyT cy)) (hi : ∀ i j, i < 34 → j < 34 → ad i = ad j → i = j) {k90 : MS → Option (Int32 × MS)} (hk90 : ∀  (σ : MS), k90 σ = some q → V p l e { frames := 14, cells := 0, slots := 0, locals := 335 } s m args below meth c D (inAd ad) 2 (MQ below (vQ D (inAd ad) none (wm cy ad q.2)) args s 0 0 (inAd ad)) 0 0 (wm cy ad σ) 90 [(0, .ref (ad 0))] []) : ∀ (s0 : Int32) (σ : MS), B_readsTerms_87 k90 s0 σ = some q → V p l e { frames := 14, cells := 0, slots := 0, locals := 335 } s m args below meth c D (inAd ad) 2 (MQ below (vQ D (inAd ad) none (wm cy ad q.2)) args s 0 0 (inAd ad)) 0 0 (wm cy ad σ) 87 [(0, .ref (ad 0))] [.int s0, .ref (ad 0)] := by
  intro s0 σ h
  rw [B_readsTerms_87] at h
  obtain ⟨q1, hq1, h⟩ := bd_of h
  refine vm_call C [.int s0] [] (c_wants hi _ _ hq1) hY_wants ml_388 ⟨Nat.le_of_ble_eq_true rfl, Nat.le_of_ble_eq_true rfl⟩ ⟨Nat.zero_le _, Nat.zero_le _⟩ rfl rfl (Nat.le_of_ble_eq_true rfl) dX11_readsTerms_87 (wm_inj hi cy _) ?_
  exact v_sub [0] rfl (hk90 _ h)
set_option maxHeartbeats 4000000 in
set_option maxRecDepth 20000 in
theorem b_readsTerms_90 {p : Program} {l : Launch} {e : Env} {s : State} {m : MethodId} {args : Array Value} {below : List Frame} {meth : Method} {c : Code} {D : va_G} {cy : Nat → ClassId} {ad : Nat → Nat} {q : Int32 × MS} (C : vC p s m args meth c cX11_readsTerms 2 none RX11 D (cyT cy)) (hi : ∀ i j, i < 34 → j < 34 → ad i = ad j → i = j) : ∀ (σ : MS), B_readsTerms_90 σ = some q → V p l e { frames := 14, cells := 0, slots := 0, locals := 335 } s m args below meth c D (inAd ad) 2 (MQ below (vQ D (inAd ad) none (wm cy ad q.2)) args s 0 0 (inAd ad)) 0 0 (wm cy ad σ) 90 [(0, .ref (ad 0))] [] := by
  intro σ h
  rw [B_readsTerms_90] at h
  obtain rfl := Option.some.inj h
  exact v_vret C dX11_readsTerms_90
set_option maxHeartbeats 4000000 in
set_option maxRecDepth 20000 in
theorem b_readsTerms_60 {p : Program} {l : Launch} {e : Env} {s : State} {m : MethodId} {args : Array Value} {below : List Frame} {meth : Method} {c : Code} {D : va_G} {cy : Nat → ClassId} {ad : Nat → Nat} {q : Int32 × MS} (C : vC p s m args meth c cX11_readsTerms 2 none RX11 D (cyT cy)) (hi : ∀ i j, i < 34 → j < 34 → ad i = ad j → i = j) : ∀ (s0 : Int32) (σ : MS), B_readsTerms_60 s0 σ = some q → V p l e { frames := 14, cells := 0, slots := 0, locals := 335 } s m args below meth c D (inAd ad) 2 (MQ below (vQ D (inAd ad) none (wm cy ad q.2)) args s 0 0 (inAd ad)) 0 0 (wm cy ad σ) 60 [(0, .ref (ad 0))] [.int s0, .ref (ad 0)] := by
  intro s0 σ h
  rw [B_readsTerms_60] at h
  refine n_putI C fl_385 dX11_readsTerms_60 ?_
  refine v_aload_n C 0 dX11_readsTerms_63 rfl rfl ?_
  refine n_getI C fl_210 dX11_readsTerms_64 ?_
  refine v_if_ge C 90 dX11_readsTerms_67 (by decide) (fun c1 => ?_) (fun c1 => ?_)
  · rw [if_pos c1] at h
    exact v_sub [0] rfl ((b_readsTerms_90 C hi) _ h)
  · rw [if_neg c1] at h
    refine v_aload_n C 0 dX11_readsTerms_70 rfl rfl ?_
    refine v_aload_n C 0 dX11_readsTerms_71 rfl rfl ?_
    refine n_getI C fl_213 dX11_readsTerms_72 ?_
    refine v_aload_n C 0 dX11_readsTerms_75 rfl rfl ?_
    refine n_getI C fl_216 dX11_readsTerms_76 ?_
    refine v_icmp_ne C 86 dX11_readsTerms_79 (by decide) (fun c2 => ?_) (fun c2 => ?_)
    · rw [if_neg c2] at h
      refine v_iconst C 0 dX11_readsTerms_86 (by decide) ?_
      exact v_sub [0] rfl ((b_readsTerms_87 C hi (b_readsTerms_90 C hi)) _ _ h)
    · rw [if_pos c2] at h
      refine v_iconst C 1 dX11_readsTerms_82 (by decide) ?_
      refine v_goto C 87 dX11_readsTerms_83 (by decide) ?_
      exact v_sub [0] rfl ((b_readsTerms_87 C hi (b_readsTerms_90 C hi)) _ _ h)
set_option maxHeartbeats 4000000 in
set_option maxRecDepth 20000 in
theorem b_readsTerms_59 {p : Program} {l : Launch} {e : Env} {s : State} {m : MethodId} {args : Array Value} {below : List Frame} {meth : Method} {c : Code} {D : va_G} {cy : Nat → ClassId} {ad : Nat → Nat} {q : Int32 × MS} (C : vC p s m args meth c cX11_readsTerms 2 none RX11 D (cyT cy)) (hi : ∀ i j, i < 34 → j < 34 → ad i = ad j → i = j) {k60 : Int32 → MS → Option (Int32 × MS)} (hk60 : ∀ (s0 : Int32)  (σ : MS), k60 s0 σ = some q → V p l e { frames := 14, cells := 0, slots := 0, locals := 335 } s m args below meth c D (inAd ad) 2 (MQ below (vQ D (inAd ad) none (wm cy ad q.2)) args s 0 0 (inAd ad)) 0 0 (wm cy ad σ) 60 [(0, .ref (ad 0))] [.int s0, .ref (ad 0)]) : ∀ (σ : MS), B_readsTerms_59 k60 σ = some q → V p l e { frames := 14, cells := 0, slots := 0, locals := 335 } s m args below meth c D (inAd ad) 2 (MQ below (vQ D (inAd ad) none (wm cy ad q.2)) args s 0 0 (inAd ad)) 0 0 (wm cy ad σ) 59 [(0, .ref (ad 0))] [.ref (ad 0)] := by
  intro σ h
  rw [B_readsTerms_59] at h
  refine v_iconst C 0 dX11_readsTerms_59 (by decide) ?_
  exact v_sub [0] rfl (hk60 _ _ h)
set_option maxHeartbeats 4000000 in
set_option maxRecDepth 20000 in
theorem b_readsTerms_32 {p : Program} {l : Launch} {e : Env} {s : State} {m : MethodId} {args : Array Value} {below : List Frame} {meth : Method} {c : Code} {D : va_G} {cy : Nat → ClassId} {ad : Nat → Nat} {q : Int32 × MS} (C : vC p s m args meth c cX11_readsTerms 2 none RX11 D (cyT cy)) (hi : ∀ i j, i < 34 → j < 34 → ad i = ad j → i = j) : ∀ (x1 : Int32) (s0 : Int32) (σ : MS), B_readsTerms_32 x1 s0 σ = some q → V p l e { frames := 14, cells := 0, slots := 0, locals := 335 } s m args below meth c D (inAd ad) 2 (MQ below (vQ D (inAd ad) none (wm cy ad q.2)) args s 0 0 (inAd ad)) 0 0 (wm cy ad σ) 32 [(0, .ref (ad 0)), (1, .int x1)] [.int s0, .ref (ad 0)] := by
  intro x1 s0 σ h
  rw [B_readsTerms_32] at h
  refine n_putI C fl_382 dX11_readsTerms_32 ?_
  refine v_aload_n C 0 dX11_readsTerms_35 rfl rfl ?_
  refine v_aload_n C 0 dX11_readsTerms_36 rfl rfl ?_
  refine n_getI C fl_210 dX11_readsTerms_37 ?_
  refine v_if_ge C 59 dX11_readsTerms_40 (by decide) (fun c1 => ?_) (fun c1 => ?_)
  · rw [if_pos c1] at h
    exact v_sub [0] rfl ((b_readsTerms_59 C hi (b_readsTerms_60 C hi)) _ h)
  · rw [if_neg c1] at h
    refine v_iload_n C 1 dX11_readsTerms_43 rfl rfl ?_
    refine v_iconst C 1 dX11_readsTerms_44 (by decide) ?_
    refine v_icmp_le C 59 dX11_readsTerms_45 (by decide) (fun c2 => ?_) (fun c2 => ?_)
    · rw [if_pos c2] at h
      exact v_sub [0] rfl ((b_readsTerms_59 C hi (b_readsTerms_60 C hi)) _ h)
    · rw [if_neg c2] at h
      refine v_aload_n C 0 dX11_readsTerms_48 rfl rfl ?_
      refine v_aload_n C 0 dX11_readsTerms_49 rfl rfl ?_
      refine n_getI C fl_376 dX11_readsTerms_50 ?_
      obtain ⟨q1, hq1, h⟩ := bd_of h
      refine vm_call C [.int ((setF σ 59 s0).1 58)] [.ref (ad 0)] (c_wholeGiven hi _ _ hq1) hY_wholeGiven ml_379 ⟨Nat.le_of_ble_eq_true rfl, Nat.le_of_ble_eq_true rfl⟩ ⟨Nat.zero_le _, Nat.zero_le _⟩ rfl rfl (Nat.le_of_ble_eq_true rfl) dX11_readsTerms_53 (wm_inj hi cy _) ?_
      refine v_goto C 60 dX11_readsTerms_56 (by decide) ?_
      exact v_sub [0] rfl ((b_readsTerms_60 C hi) _ _ h)
set_option maxHeartbeats 4000000 in
set_option maxRecDepth 20000 in
theorem c_readsTerms {l : Launch} {D : va_G} {cy : Nat → ClassId} {ad : Nat → Nat} {q : Int32 × MS} (hi : ∀ i j, i < 34 → j < 34 → ad i = ad j → i = j) (x1 : Int32) (σ : MS) (h : f_readsTerms x1 σ = some q) : MV l D (cyT cy) (inAd ad) yX11_readsTerms cX11_readsTerms 2 none 14 335 0 0 [.ref (ad 0), .int x1] (wm cy ad σ) none (wm cy ad q.2) := by
  refine MV.of (by decide) (wm_inj hi cy σ) (Nat.le_of_ble_eq_true rfl) [(0, .ref (ad 0)), (1, .int x1)] rfl ?_
  intro p e s m args below meth c C
  rw [f_readsTerms] at h
  refine v_aload_n C 0 dX11_readsTerms_0 rfl rfl ?_
  obtain ⟨q1, hq1, h⟩ := bd_of h
  refine vm_call C [] [] (c_starts hi _ hq1) hY_starts ml_370 ⟨Nat.le_of_ble_eq_true rfl, Nat.le_of_ble_eq_true rfl⟩ ⟨Nat.zero_le _, Nat.zero_le _⟩ rfl rfl (Nat.le_of_ble_eq_true rfl) dX11_readsTerms_1 (wm_inj hi cy _) ?_
  refine v_aload_n C 0 dX11_readsTerms_4 rfl rfl ?_
  refine v_aload_n C 0 dX11_readsTerms_5 rfl rfl ?_
  obtain ⟨q2, hq2, h⟩ := bd_of h
  refine vm_call C [] [.ref (ad 0)] (c_wholeType hi _ hq2) hY_wholeType ml_373 ⟨Nat.le_of_ble_eq_true rfl, Nat.le_of_ble_eq_true rfl⟩ ⟨Nat.zero_le _, Nat.zero_le _⟩ rfl rfl (Nat.le_of_ble_eq_true rfl) dX11_readsTerms_6 (wm_inj hi cy _) ?_
  refine n_putI C fl_376 dX11_readsTerms_9 ?_
  refine v_aload_n C 0 dX11_readsTerms_12 rfl rfl ?_
  refine v_aload_n C 0 dX11_readsTerms_13 rfl rfl ?_
  refine n_getI C fl_210 dX11_readsTerms_14 ?_
  refine v_if_ge C 31 dX11_readsTerms_17 (by decide) (fun c1 => ?_) (fun c1 => ?_)
  · rw [if_pos c1] at h
    refine v_iconst C 0 dX11_readsTerms_31 (by decide) ?_
    exact v_sub [0, 1] rfl ((b_readsTerms_32 C hi) _ _ _ h)
  · rw [if_neg c1] at h
    refine v_aload_n C 0 dX11_readsTerms_20 rfl rfl ?_
    refine v_aload_n C 0 dX11_readsTerms_21 rfl rfl ?_
    refine n_getI C fl_376 dX11_readsTerms_22 ?_
    obtain ⟨q3, hq3, h⟩ := bd_of h
    refine vm_call C [.int ((setF q2.2 58 q2.1).1 58)] [.ref (ad 0)] (c_wholeGiven hi _ _ hq3) hY_wholeGiven ml_379 ⟨Nat.le_of_ble_eq_true rfl, Nat.le_of_ble_eq_true rfl⟩ ⟨Nat.zero_le _, Nat.zero_le _⟩ rfl rfl (Nat.le_of_ble_eq_true rfl) dX11_readsTerms_25 (wm_inj hi cy _) ?_
    refine v_goto C 32 dX11_readsTerms_28 (by decide) ?_
    exact v_sub [0, 1] rfl ((b_readsTerms_32 C hi) _ _ _ h)
set_option maxHeartbeats 4000000 in
set_option maxRecDepth 20000 in
theorem c_type {l : Launch} {D : va_G} {cy : Nat → ClassId} {ad : Nat → Nat} {q : Int32 × MS} (hi : ∀ i j, i < 34 → j < 34 → ad i = ad j → i = j) (x1 : Int32) (σ : MS) (h : f_type x1 σ = some q) : MV l D (cyT cy) (inAd ad) yX11_type cX11_type 2 (some .int) 1 22 0 0 [.ref (ad 0), .int x1] (wm cy ad σ) (some (.int q.1)) (wm cy ad q.2) := by
  refine MV.of (by decide) (wm_inj hi cy σ) (Nat.le_of_ble_eq_true rfl) [(0, .ref (ad 0)), (1, .int x1)] rfl ?_
  intro p e s m args below meth c C
  rw [f_type] at h
  refine v_iload_n C 1 dX11_type_0 rfl rfl ?_
  refine v_iconst C 0 dX11_type_1 (by decide) ?_
  refine v_sipush C 255 dX11_type_2 (by decide) ?_
  obtain ⟨q1, hq1, h⟩ := bd_of h
  refine vm_callS C [.int x1, .int 0, .int 255] [] (c_in hi _ _ _ _ hq1) hY_in ml_297 ⟨Nat.le_of_ble_eq_true rfl, Nat.le_of_ble_eq_true rfl⟩ ⟨Nat.zero_le _, Nat.zero_le _⟩ rfl rfl (Nat.le_of_ble_eq_true rfl) dX11_type_5 (wm_inj hi cy _) ?_
  refine v_if_ne C 13 dX11_type_8 (by decide) (fun c1 => ?_) (fun c1 => ?_)
  · rw [if_neg c1] at h
    refine v_aload_n C 0 dX11_type_13 rfl rfl ?_
    refine n_getI C fl_216 dX11_type_14 ?_
    refine v_bipush C 32 dX11_type_17 (by decide) ?_
    refine v_icmp_ne C 25 dX11_type_19 (by decide) (fun c2 => ?_) (fun c2 => ?_)
    · rw [if_neg c2] at h
      refine v_aload_n C 0 dX11_type_25 rfl rfl ?_
      refine n_getR C fl_13 dX11_type_26 ?_
      refine v_aload_n C 0 dX11_type_29 rfl rfl ?_
      refine n_getI C fl_216 dX11_type_30 ?_
      refine v_iload_n C 1 dX11_type_33 rfl rfl ?_
      obtain ⟨g1, h⟩ := gd_of h
      refine vm_iast C 2 iI_2 (ix_in g1) dX11_type_34 ?_
      refine v_aload_n C 0 dX11_type_35 rfl rfl ?_
      refine v_dup C dX11_type_36 rfl ?_
      refine n_getI C fl_216 dX11_type_37 ?_
      refine v_iconst C 1 dX11_type_40 (by decide) ?_
      refine v_iadd C dX11_type_41 ?_
      refine n_putI C fl_216 dX11_type_42 ?_
      refine v_aload_n C 0 dX11_type_45 rfl rfl ?_
      refine n_getI C fl_216 dX11_type_46 ?_
      obtain rfl := Option.some.inj h
      exact v_iret C dX11_type_49
    · rw [if_pos c2] at h
      refine v_bipush C (-3) dX11_type_22 (by decide) ?_
      obtain rfl := Option.some.inj h
      exact v_iret C dX11_type_24
  · rw [if_pos c1] at h
    refine v_iconst C (-1) dX11_type_11 (by decide) ?_
    obtain rfl := Option.some.inj h
    exact v_iret C dX11_type_12
set_option maxHeartbeats 4000000 in
set_option maxRecDepth 20000 in
theorem c_clear {l : Launch} {D : va_G} {cy : Nat → ClassId} {ad : Nat → Nat} {q : Int32 × MS} (hi : ∀ i j, i < 34 → j < 34 → ad i = ad j → i = j) (σ : MS) (h : f_clear σ = some q) : MV l D (cyT cy) (inAd ad) yX11_clear cX11_clear 2 (some .int) 0 0 0 0 [.ref (ad 0)] (wm cy ad σ) (some (.int q.1)) (wm cy ad q.2) := by
  refine MV.of (by decide) (wm_inj hi cy σ) (Nat.le_of_ble_eq_true rfl) [(0, .ref (ad 0))] rfl ?_
  intro p e s m args below meth c C
  rw [f_clear] at h
  refine v_aload_n C 0 dX11_clear_0 rfl rfl ?_
  refine n_getI C fl_216 dX11_clear_1 ?_
  refine v_istore_n C [(1, .int (σ.1 3)), (0, .ref (ad 0))] dX11_clear_4 rfl (by decide) rfl ?_
  refine v_aload_n C 1 dX11_clear_5 rfl rfl ?_
  refine v_iconst C 0 dX11_clear_6 (by decide) ?_
  refine n_putI C fl_216 dX11_clear_7 ?_
  refine v_iload_n C 0 dX11_clear_10 rfl rfl ?_
  obtain rfl := Option.some.inj h
  exact v_iret C dX11_clear_11
set_option maxHeartbeats 4000000 in
set_option maxRecDepth 20000 in
theorem b_nextFamily_87 {p : Program} {l : Launch} {e : Env} {s : State} {m : MethodId} {args : Array Value} {below : List Frame} {meth : Method} {c : Code} {D : va_G} {cy : Nat → ClassId} {ad : Nat → Nat} {q : Int32 × MS} (C : vC p s m args meth c cX11_nextFamily 3 none RX11 D (cyT cy)) (hi : ∀ i j, i < 34 → j < 34 → ad i = ad j → i = j) {k120 : MS → Option (Int32 × MS)} (hk120 : ∀  (σ : MS), k120 σ = some q → V p l e { frames := 14, cells := 0, slots := 0, locals := 334 } s m args below meth c D (inAd ad) 3 (MQ below (vQ D (inAd ad) none (wm cy ad q.2)) args s 0 0 (inAd ad)) 0 0 (wm cy ad σ) 120 [(0, .ref (ad 0))] []) : ∀ (x1 : Int32) (σ : MS), B_nextFamily_87 k120 x1 σ = some q → V p l e { frames := 14, cells := 0, slots := 0, locals := 334 } s m args below meth c D (inAd ad) 3 (MQ below (vQ D (inAd ad) none (wm cy ad q.2)) args s 0 0 (inAd ad)) 0 0 (wm cy ad σ) 87 [(0, .ref (ad 0)), (1, .int x1)] [] := by
  intro x1 σ h
  rw [B_nextFamily_87] at h
  refine v_aload_n C 0 dX11_nextFamily_87 rfl rfl ?_
  refine n_getI C fl_210 dX11_nextFamily_88 ?_
  refine v_if_ge C 120 dX11_nextFamily_91 (by decide) (fun c1 => ?_) (fun c1 => ?_)
  · rw [if_pos c1] at h
    exact v_sub [0] rfl (hk120 _ h)
  · rw [if_neg c1] at h
    refine v_aload_n C 0 dX11_nextFamily_94 rfl rfl ?_
    refine v_iload_n C 1 dX11_nextFamily_95 rfl rfl ?_
    refine v_sipush C 969 dX11_nextFamily_96 (by decide) ?_
    refine v_bipush C 51 dX11_nextFamily_99 (by decide) ?_
    refine v_aload_n C 0 dX11_nextFamily_101 rfl rfl ?_
    refine n_getI C fl_268 dX11_nextFamily_102 ?_
    refine v_imul C dX11_nextFamily_105 ?_
    refine v_iadd C dX11_nextFamily_106 ?_
    obtain ⟨q1, hq1, h⟩ := bd_of h
    refine vm_call C [.int x1, .int (969 + (51 * (σ.1 4)))] [] (c_toSlot hi _ _ _ hq1) hY_toSlot ml_392 ⟨Nat.le_of_ble_eq_true rfl, Nat.le_of_ble_eq_true rfl⟩ ⟨Nat.zero_le _, Nat.zero_le _⟩ rfl rfl (Nat.le_of_ble_eq_true rfl) dX11_nextFamily_107 (wm_inj hi cy _) ?_
    refine v_aload_n C 0 dX11_nextFamily_110 rfl rfl ?_
    refine n_getR C fl_16 dX11_nextFamily_111 ?_
    refine v_aload_n C 0 dX11_nextFamily_114 rfl rfl ?_
    refine n_getI C fl_268 dX11_nextFamily_115 ?_
    refine v_iconst C 1 dX11_nextFamily_118 (by decide) ?_
    obtain ⟨g1, h⟩ := gd_of h
    refine vm_zast C (Or.inr rfl) 3 (by decide) (by decide) rfl (ix_in g1) dX11_nextFamily_119 ?_
    exact v_sub [0] rfl (hk120 _ h)
set_option maxHeartbeats 4000000 in
set_option maxRecDepth 20000 in
theorem b_nextFamily_66 {p : Program} {l : Launch} {e : Env} {s : State} {m : MethodId} {args : Array Value} {below : List Frame} {meth : Method} {c : Code} {D : va_G} {cy : Nat → ClassId} {ad : Nat → Nat} {q : Int32 × MS} (C : vC p s m args meth c cX11_nextFamily 3 none RX11 D (cyT cy)) (hi : ∀ i j, i < 34 → j < 34 → ad i = ad j → i = j) {k120 : MS → Option (Int32 × MS)} (hk120 : ∀  (σ : MS), k120 σ = some q → V p l e { frames := 14, cells := 0, slots := 0, locals := 334 } s m args below meth c D (inAd ad) 3 (MQ below (vQ D (inAd ad) none (wm cy ad q.2)) args s 0 0 (inAd ad)) 0 0 (wm cy ad σ) 120 [(0, .ref (ad 0))] []) : ∀ (x1 : Int32) (s0 : Int32) (σ : MS), B_nextFamily_66 k120 x1 s0 σ = some q → V p l e { frames := 14, cells := 0, slots := 0, locals := 334 } s m args below meth c D (inAd ad) 3 (MQ below (vQ D (inAd ad) none (wm cy ad q.2)) args s 0 0 (inAd ad)) 0 0 (wm cy ad σ) 66 [(0, .ref (ad 0)), (1, .int x1)] [.int s0] := by
  intro x1 s0 σ h
  rw [B_nextFamily_66] at h
  refine v_istore_n C [(2, .int s0), (0, .ref (ad 0)), (1, .int x1)] dX11_nextFamily_66 rfl (by decide) rfl ?_
  refine v_aload_n C 1 dX11_nextFamily_67 rfl rfl ?_
  refine n_getI C fl_210 dX11_nextFamily_68 ?_
  refine v_if_ge C 87 dX11_nextFamily_71 (by decide) (fun c1 => ?_) (fun c1 => ?_)
  · rw [if_pos c1] at h
    exact v_sub [1, 2] rfl ((b_nextFamily_87 C hi hk120) _ _ h)
  · rw [if_neg c1] at h
    refine v_aload_n C 1 dX11_nextFamily_74 rfl rfl ?_
    refine v_iload_n C 2 dX11_nextFamily_75 rfl rfl ?_
    obtain ⟨q1, hq1, h⟩ := bd_of h
    refine vm_call C [.int x1] [] (c_isData hi _ _ hq1) hY_isData ml_340 ⟨Nat.le_of_ble_eq_true rfl, Nat.le_of_ble_eq_true rfl⟩ ⟨Nat.zero_le _, Nat.zero_le _⟩ rfl rfl (Nat.le_of_ble_eq_true rfl) dX11_nextFamily_76 (wm_inj hi cy _) ?_
    refine v_if_ne C 87 dX11_nextFamily_79 (by decide) (fun c2 => ?_) (fun c2 => ?_)
    · rw [if_neg c2] at h
      exact v_sub [1, 2] rfl ((b_nextFamily_87 C hi hk120) _ _ h)
    · rw [if_pos c2] at h
      refine v_aload_n C 1 dX11_nextFamily_82 rfl rfl ?_
      refine v_iload_n C 0 dX11_nextFamily_83 rfl rfl ?_
      obtain ⟨q2, hq2, h⟩ := bd_of h
      refine vm_call C [.int s0] [] (c_fails hi _ _ hq2) hY_fails ml_240 ⟨Nat.le_of_ble_eq_true rfl, Nat.le_of_ble_eq_true rfl⟩ ⟨Nat.zero_le _, Nat.zero_le _⟩ rfl rfl (Nat.le_of_ble_eq_true rfl) dX11_nextFamily_84 (wm_inj hi cy _) ?_
      exact v_sub [1, 2] rfl ((b_nextFamily_87 C hi hk120) _ _ h)
set_option maxHeartbeats 4000000 in
set_option maxRecDepth 20000 in
theorem b_nextFamily_120 {p : Program} {l : Launch} {e : Env} {s : State} {m : MethodId} {args : Array Value} {below : List Frame} {meth : Method} {c : Code} {D : va_G} {cy : Nat → ClassId} {ad : Nat → Nat} {q : Int32 × MS} (C : vC p s m args meth c cX11_nextFamily 3 none RX11 D (cyT cy)) (hi : ∀ i j, i < 34 → j < 34 → ad i = ad j → i = j) : ∀ (σ : MS), B_nextFamily_120 σ = some q → V p l e { frames := 14, cells := 0, slots := 0, locals := 334 } s m args below meth c D (inAd ad) 3 (MQ below (vQ D (inAd ad) none (wm cy ad q.2)) args s 0 0 (inAd ad)) 0 0 (wm cy ad σ) 120 [(0, .ref (ad 0))] [] := by
  intro σ h
  rw [B_nextFamily_120] at h
  refine v_aload_n C 0 dX11_nextFamily_120 rfl rfl ?_
  refine v_dup C dX11_nextFamily_121 rfl ?_
  refine n_getI C fl_268 dX11_nextFamily_122 ?_
  refine v_iconst C 1 dX11_nextFamily_125 (by decide) ?_
  refine v_iadd C dX11_nextFamily_126 ?_
  refine n_putI C fl_268 dX11_nextFamily_127 ?_
  obtain rfl := Option.some.inj h
  exact v_vret C dX11_nextFamily_130
set_option maxHeartbeats 4000000 in
set_option maxRecDepth 20000 in
theorem c_nextFamily {l : Launch} {D : va_G} {cy : Nat → ClassId} {ad : Nat → Nat} {q : Int32 × MS} (hi : ∀ i j, i < 34 → j < 34 → ad i = ad j → i = j) (σ : MS) (h : f_nextFamily σ = some q) : MV l D (cyT cy) (inAd ad) yX11_nextFamily cX11_nextFamily 3 none 14 334 0 0 [.ref (ad 0)] (wm cy ad σ) none (wm cy ad q.2) := by
  refine MV.of (by decide) (wm_inj hi cy σ) (Nat.le_of_ble_eq_true rfl) [(0, .ref (ad 0))] rfl ?_
  intro p e s m args below meth c C
  rw [f_nextFamily] at h
  refine v_aload_n C 0 dX11_nextFamily_0 rfl rfl ?_
  refine n_getI C fl_268 dX11_nextFamily_1 ?_
  refine v_iconst C 3 dX11_nextFamily_4 (by decide) ?_
  refine v_icmp_ne C 17 dX11_nextFamily_5 (by decide) (fun c1 => ?_) (fun c1 => ?_)
  · rw [if_neg c1] at h
    refine v_aload_n C 0 dX11_nextFamily_17 rfl rfl ?_
    refine v_dup C dX11_nextFamily_18 rfl ?_
    refine n_getI C fl_213 dX11_nextFamily_19 ?_
    refine v_iconst C 1 dX11_nextFamily_22 (by decide) ?_
    refine v_iadd C dX11_nextFamily_23 ?_
    refine n_putI C fl_213 dX11_nextFamily_24 ?_
    refine v_aload_n C 0 dX11_nextFamily_27 rfl rfl ?_
    refine n_getR C fl_16 dX11_nextFamily_28 ?_
    refine v_aload_n C 0 dX11_nextFamily_31 rfl rfl ?_
    refine n_getI C fl_268 dX11_nextFamily_32 ?_
    refine v_iconst C 0 dX11_nextFamily_35 (by decide) ?_
    obtain ⟨g1, h⟩ := gd_of h
    refine vm_zast C (Or.inl rfl) 3 (by decide) (by decide) rfl (ix_in g1) dX11_nextFamily_36 ?_
    refine v_aload_n C 0 dX11_nextFamily_37 rfl rfl ?_
    obtain ⟨q1, hq1, h⟩ := bd_of h
    refine vm_call C [] [] (c_here hi _ hq1) hY_here ml_290 ⟨Nat.le_of_ble_eq_true rfl, Nat.le_of_ble_eq_true rfl⟩ ⟨Nat.zero_le _, Nat.zero_le _⟩ rfl rfl (Nat.le_of_ble_eq_true rfl) dX11_nextFamily_38 (wm_inj hi cy _) ?_
    refine v_bipush C 59 dX11_nextFamily_41 (by decide) ?_
    refine v_icmp_eq C 120 dX11_nextFamily_43 (by decide) (fun c2 => ?_) (fun c2 => ?_)
    · rw [if_pos c2] at h
      exact v_sub [0] rfl ((b_nextFamily_120 C hi) _ h)
    · rw [if_neg c2] at h
      refine v_aload_n C 0 dX11_nextFamily_46 rfl rfl ?_
      obtain ⟨q2, hq2, h⟩ := bd_of h
      refine vm_call C [] [] (c_wholeType hi _ hq2) hY_wholeType ml_373 ⟨Nat.le_of_ble_eq_true rfl, Nat.le_of_ble_eq_true rfl⟩ ⟨Nat.zero_le _, Nat.zero_le _⟩ rfl rfl (Nat.le_of_ble_eq_true rfl) dX11_nextFamily_47 (wm_inj hi cy _) ?_
      refine v_istore_n C [(1, .int q2.1), (0, .ref (ad 0))] dX11_nextFamily_50 rfl (by decide) rfl ?_
      refine v_aload_n C 1 dX11_nextFamily_51 rfl rfl ?_
      refine n_getI C fl_210 dX11_nextFamily_52 ?_
      refine v_if_ge C 65 dX11_nextFamily_55 (by decide) (fun c3 => ?_) (fun c3 => ?_)
      · rw [if_pos c3] at h
        refine v_iconst C 0 dX11_nextFamily_65 (by decide) ?_
        exact v_sub [1, 0] rfl ((b_nextFamily_66 C hi (b_nextFamily_120 C hi)) _ _ _ h)
      · rw [if_neg c3] at h
        refine v_aload_n C 1 dX11_nextFamily_58 rfl rfl ?_
        refine n_getI C fl_246 dX11_nextFamily_59 ?_
        refine v_goto C 66 dX11_nextFamily_62 (by decide) ?_
        exact v_sub [1, 0] rfl ((b_nextFamily_66 C hi (b_nextFamily_120 C hi)) _ _ _ h)
  · rw [if_pos c1] at h
    refine v_aload_n C 0 dX11_nextFamily_8 rfl rfl ?_
    refine v_aload_n C 0 dX11_nextFamily_9 rfl rfl ?_
    refine n_getI C fl_213 dX11_nextFamily_10 ?_
    obtain ⟨q3, hq3, h⟩ := bd_of h
    refine vm_call C [.int (σ.1 56)] [] (c_fails hi _ _ hq3) hY_fails ml_240 ⟨Nat.le_of_ble_eq_true rfl, Nat.le_of_ble_eq_true rfl⟩ ⟨Nat.zero_le _, Nat.zero_le _⟩ rfl rfl (Nat.le_of_ble_eq_true rfl) dX11_nextFamily_13 (wm_inj hi cy _) ?_
    obtain rfl := Option.some.inj h
    exact v_vret C dX11_nextFamily_16
