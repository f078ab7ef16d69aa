theorem dX11_init_0 : decode cX11_init 0 = .ok (.aload_n 0, 1) := by decide +kernel
theorem dX11_init_1 : decode cX11_init 1 = .ok (.invokespecial 1, 3) := by decide +kernel
theorem dX11_init_4 : decode cX11_init 4 = .ok (.aload_n 0, 1) := by decide +kernel
theorem dX11_init_5 : decode cX11_init 5 = .ok (.sipush 9400, 3) := by decide +kernel
theorem dX11_init_8 : decode cX11_init 8 = .ok (.newarray .int, 2) := by decide +kernel
theorem dX11_init_10 : decode cX11_init 10 = .ok (.putfield 7, 3) := by decide +kernel
theorem dX11_init_13 : decode cX11_init 13 = .ok (.aload_n 0, 1) := by decide +kernel
theorem dX11_init_14 : decode cX11_init 14 = .ok (.bipush 32, 2) := by decide +kernel
theorem dX11_init_16 : decode cX11_init 16 = .ok (.newarray .int, 2) := by decide +kernel
theorem dX11_init_18 : decode cX11_init 18 = .ok (.putfield 13, 3) := by decide +kernel
theorem dX11_init_21 : decode cX11_init 21 = .ok (.aload_n 0, 1) := by decide +kernel
theorem dX11_init_22 : decode cX11_init 22 = .ok (.iconst 3, 1) := by decide +kernel
theorem dX11_init_23 : decode cX11_init 23 = .ok (.newarray .boolean, 2) := by decide +kernel
theorem dX11_init_25 : decode cX11_init 25 = .ok (.putfield 16, 3) := by decide +kernel
theorem dX11_init_28 : decode cX11_init 28 = .ok (.aload_n 0, 1) := by decide +kernel
theorem dX11_init_29 : decode cX11_init 29 = .ok (.iconst 4, 1) := by decide +kernel
theorem dX11_init_30 : decode cX11_init 30 = .ok (.newarray .int, 2) := by decide +kernel
theorem dX11_init_32 : decode cX11_init 32 = .ok (.putfield 20, 3) := by decide +kernel
theorem dX11_init_35 : decode cX11_init 35 = .ok (.aload_n 0, 1) := by decide +kernel
theorem dX11_init_36 : decode cX11_init 36 = .ok (.bipush 8, 2) := by decide +kernel
theorem dX11_init_38 : decode cX11_init 38 = .ok (.newarray .int, 2) := by decide +kernel
theorem dX11_init_40 : decode cX11_init 40 = .ok (.putfield 23, 3) := by decide +kernel
theorem dX11_init_43 : decode cX11_init 43 = .ok (.aload_n 0, 1) := by decide +kernel
theorem dX11_init_44 : decode cX11_init 44 = .ok (.bipush 8, 2) := by decide +kernel
theorem dX11_init_46 : decode cX11_init 46 = .ok (.newarray .int, 2) := by decide +kernel
theorem dX11_init_48 : decode cX11_init 48 = .ok (.putfield 26, 3) := by decide +kernel
theorem dX11_init_51 : decode cX11_init 51 = .ok (.aload_n 0, 1) := by decide +kernel
theorem dX11_init_52 : decode cX11_init 52 = .ok (.sipush 816, 3) := by decide +kernel
theorem dX11_init_55 : decode cX11_init 55 = .ok (.newarray .int, 2) := by decide +kernel
theorem dX11_init_57 : decode cX11_init 57 = .ok (.putfield 29, 3) := by decide +kernel
theorem dX11_init_60 : decode cX11_init 60 = .ok (.aload_n 0, 1) := by decide +kernel
theorem dX11_init_61 : decode cX11_init 61 = .ok (.sipush 1224, 3) := by decide +kernel
theorem dX11_init_64 : decode cX11_init 64 = .ok (.newarray .int, 2) := by decide +kernel
theorem dX11_init_66 : decode cX11_init 66 = .ok (.putfield 32, 3) := by decide +kernel
theorem dX11_init_69 : decode cX11_init 69 = .ok (.aload_n 0, 1) := by decide +kernel
theorem dX11_init_70 : decode cX11_init 70 = .ok (.iconst 2, 1) := by decide +kernel
theorem dX11_init_71 : decode cX11_init 71 = .ok (.newarray .int, 2) := by decide +kernel
theorem dX11_init_73 : decode cX11_init 73 = .ok (.putfield 35, 3) := by decide +kernel
theorem dX11_init_76 : decode cX11_init 76 = .ok (.aload_n 0, 1) := by decide +kernel
theorem dX11_init_77 : decode cX11_init 77 = .ok (.sipush 2400, 3) := by decide +kernel
theorem dX11_init_80 : decode cX11_init 80 = .ok (.newarray .long, 2) := by decide +kernel
theorem dX11_init_82 : decode cX11_init 82 = .ok (.putfield 38, 3) := by decide +kernel
theorem dX11_init_85 : decode cX11_init 85 = .ok (.aload_n 0, 1) := by decide +kernel
theorem dX11_init_86 : decode cX11_init 86 = .ok (.sipush 1200, 3) := by decide +kernel
theorem dX11_init_89 : decode cX11_init 89 = .ok (.newarray .int, 2) := by decide +kernel
theorem dX11_init_91 : decode cX11_init 91 = .ok (.putfield 42, 3) := by decide +kernel
theorem dX11_init_94 : decode cX11_init 94 = .ok (.aload_n 0, 1) := by decide +kernel
theorem dX11_init_95 : decode cX11_init 95 = .ok (.iconst 1, 1) := by decide +kernel
theorem dX11_init_96 : decode cX11_init 96 = .ok (.putfield 45, 3) := by decide +kernel
theorem dX11_init_99 : decode cX11_init 99 = .ok (.aload_n 0, 1) := by decide +kernel
theorem dX11_init_100 : decode cX11_init 100 = .ok (.bipush 60, 2) := by decide +kernel
theorem dX11_init_102 : decode cX11_init 102 = .ok (.newarray .int, 2) := by decide +kernel
theorem dX11_init_104 : decode cX11_init 104 = .ok (.putfield 49, 3) := by decide +kernel
theorem dX11_init_107 : decode cX11_init 107 = .ok (.aload_n 0, 1) := by decide +kernel
theorem dX11_init_108 : decode cX11_init 108 = .ok (.bipush 60, 2) := by decide +kernel
theorem dX11_init_110 : decode cX11_init 110 = .ok (.newarray .int, 2) := by decide +kernel
theorem dX11_init_112 : decode cX11_init 112 = .ok (.putfield 52, 3) := by decide +kernel
theorem dX11_init_115 : decode cX11_init 115 = .ok (.aload_n 0, 1) := by decide +kernel
theorem dX11_init_116 : decode cX11_init 116 = .ok (.bipush 60, 2) := by decide +kernel
theorem dX11_init_118 : decode cX11_init 118 = .ok (.newarray .int, 2) := by decide +kernel
theorem dX11_init_120 : decode cX11_init 120 = .ok (.putfield 55, 3) := by decide +kernel
theorem dX11_init_123 : decode cX11_init 123 = .ok (.aload_n 0, 1) := by decide +kernel
theorem dX11_init_124 : decode cX11_init 124 = .ok (.bipush 60, 2) := by decide +kernel
theorem dX11_init_126 : decode cX11_init 126 = .ok (.newarray .int, 2) := by decide +kernel
theorem dX11_init_128 : decode cX11_init 128 = .ok (.putfield 58, 3) := by decide +kernel
theorem dX11_init_131 : decode cX11_init 131 = .ok (.aload_n 0, 1) := by decide +kernel
theorem dX11_init_132 : decode cX11_init 132 = .ok (.bipush 60, 2) := by decide +kernel
theorem dX11_init_134 : decode cX11_init 134 = .ok (.newarray .int, 2) := by decide +kernel
theorem dX11_init_136 : decode cX11_init 136 = .ok (.putfield 61, 3) := by decide +kernel
theorem dX11_init_139 : decode cX11_init 139 = .ok (.aload_n 0, 1) := by decide +kernel
theorem dX11_init_140 : decode cX11_init 140 = .ok (.bipush 60, 2) := by decide +kernel
theorem dX11_init_142 : decode cX11_init 142 = .ok (.newarray .int, 2) := by decide +kernel
theorem dX11_init_144 : decode cX11_init 144 = .ok (.putfield 64, 3) := by decide +kernel
theorem dX11_init_147 : decode cX11_init 147 = .ok (.aload_n 0, 1) := by decide +kernel
theorem dX11_init_148 : decode cX11_init 148 = .ok (.bipush 60, 2) := by decide +kernel
theorem dX11_init_150 : decode cX11_init 150 = .ok (.newarray .int, 2) := by decide +kernel
theorem dX11_init_152 : decode cX11_init 152 = .ok (.putfield 67, 3) := by decide +kernel
theorem dX11_init_155 : decode cX11_init 155 = .ok (.aload_n 0, 1) := by decide +kernel
theorem dX11_init_156 : decode cX11_init 156 = .ok (.bipush 60, 2) := by decide +kernel
theorem dX11_init_158 : decode cX11_init 158 = .ok (.newarray .int, 2) := by decide +kernel
theorem dX11_init_160 : decode cX11_init 160 = .ok (.putfield 70, 3) := by decide +kernel
theorem dX11_init_163 : decode cX11_init 163 = .ok (.aload_n 0, 1) := by decide +kernel
theorem dX11_init_164 : decode cX11_init 164 = .ok (.bipush 60, 2) := by decide +kernel
theorem dX11_init_166 : decode cX11_init 166 = .ok (.newarray .int, 2) := by decide +kernel
theorem dX11_init_168 : decode cX11_init 168 = .ok (.putfield 73, 3) := by decide +kernel
theorem dX11_init_171 : decode cX11_init 171 = .ok (.aload_n 0, 1) := by decide +kernel
theorem dX11_init_172 : decode cX11_init 172 = .ok (.bipush 60, 2) := by decide +kernel
theorem dX11_init_174 : decode cX11_init 174 = .ok (.newarray .int, 2) := by decide +kernel
theorem dX11_init_176 : decode cX11_init 176 = .ok (.putfield 76, 3) := by decide +kernel
theorem dX11_init_179 : decode cX11_init 179 = .ok (.aload_n 0, 1) := by decide +kernel
theorem dX11_init_180 : decode cX11_init 180 = .ok (.bipush 60, 2) := by decide +kernel
theorem dX11_init_182 : decode cX11_init 182 = .ok (.newarray .int, 2) := by decide +kernel
theorem dX11_init_184 : decode cX11_init 184 = .ok (.putfield 79, 3) := by decide +kernel
theorem dX11_init_187 : decode cX11_init 187 = .ok (.aload_n 0, 1) := by decide +kernel
theorem dX11_init_188 : decode cX11_init 188 = .ok (.bipush 40, 2) := by decide +kernel
theorem dX11_init_190 : decode cX11_init 190 = .ok (.newarray .int, 2) := by decide +kernel
theorem dX11_init_192 : decode cX11_init 192 = .ok (.putfield 82, 3) := by decide +kernel
theorem dX11_init_195 : decode cX11_init 195 = .ok (.aload_n 0, 1) := by decide +kernel
theorem dX11_init_196 : decode cX11_init 196 = .ok (.bipush 40, 2) := by decide +kernel
theorem dX11_init_198 : decode cX11_init 198 = .ok (.newarray .int, 2) := by decide +kernel
theorem dX11_init_200 : decode cX11_init 200 = .ok (.putfield 85, 3) := by decide +kernel
theorem dX11_init_203 : decode cX11_init 203 = .ok (.aload_n 0, 1) := by decide +kernel
theorem dX11_init_204 : decode cX11_init 204 = .ok (.bipush 40, 2) := by decide +kernel
theorem dX11_init_206 : decode cX11_init 206 = .ok (.newarray .int, 2) := by decide +kernel
theorem dX11_init_208 : decode cX11_init 208 = .ok (.putfield 88, 3) := by decide +kernel
theorem dX11_init_211 : decode cX11_init 211 = .ok (.aload_n 0, 1) := by decide +kernel
theorem dX11_init_212 : decode cX11_init 212 = .ok (.bipush 40, 2) := by decide +kernel
theorem dX11_init_214 : decode cX11_init 214 = .ok (.newarray .int, 2) := by decide +kernel
theorem dX11_init_216 : decode cX11_init 216 = .ok (.putfield 91, 3) := by decide +kernel
theorem dX11_init_219 : decode cX11_init 219 = .ok (.aload_n 0, 1) := by decide +kernel
theorem dX11_init_220 : decode cX11_init 220 = .ok (.bipush 40, 2) := by decide +kernel
theorem dX11_init_222 : decode cX11_init 222 = .ok (.newarray .int, 2) := by decide +kernel
theorem dX11_init_224 : decode cX11_init 224 = .ok (.putfield 94, 3) := by decide +kernel
theorem dX11_init_227 : decode cX11_init 227 = .ok (.aload_n 0, 1) := by decide +kernel
theorem dX11_init_228 : decode cX11_init 228 = .ok (.bipush 40, 2) := by decide +kernel
theorem dX11_init_230 : decode cX11_init 230 = .ok (.newarray .int, 2) := by decide +kernel
theorem dX11_init_232 : decode cX11_init 232 = .ok (.putfield 97, 3) := by decide +kernel
theorem dX11_init_235 : decode cX11_init 235 = .ok (.aload_n 0, 1) := by decide +kernel
theorem dX11_init_236 : decode cX11_init 236 = .ok (.bipush 40, 2) := by decide +kernel
theorem dX11_init_238 : decode cX11_init 238 = .ok (.newarray .int, 2) := by decide +kernel
theorem dX11_init_240 : decode cX11_init 240 = .ok (.putfield 100, 3) := by decide +kernel
theorem dX11_init_243 : decode cX11_init 243 = .ok (.aload_n 0, 1) := by decide +kernel
theorem dX11_init_244 : decode cX11_init 244 = .ok (.bipush 40, 2) := by decide +kernel
theorem dX11_init_246 : decode cX11_init 246 = .ok (.newarray .int, 2) := by decide +kernel
theorem dX11_init_248 : decode cX11_init 248 = .ok (.putfield 103, 3) := by decide +kernel
theorem dX11_init_251 : decode cX11_init 251 = .ok (.aload_n 0, 1) := by decide +kernel
theorem dX11_init_252 : decode cX11_init 252 = .ok (.bipush 40, 2) := by decide +kernel
theorem dX11_init_254 : decode cX11_init 254 = .ok (.newarray .int, 2) := by decide +kernel
theorem dX11_init_256 : decode cX11_init 256 = .ok (.putfield 106, 3) := by decide +kernel
theorem dX11_init_259 : decode cX11_init 259 = .ok (.aload_n 0, 1) := by decide +kernel
theorem dX11_init_260 : decode cX11_init 260 = .ok (.bipush 10, 2) := by decide +kernel
theorem dX11_init_262 : decode cX11_init 262 = .ok (.newarray .int, 2) := by decide +kernel
theorem dX11_init_264 : decode cX11_init 264 = .ok (.putfield 109, 3) := by decide +kernel
theorem dX11_init_267 : decode cX11_init 267 = .ok (.aload_n 0, 1) := by decide +kernel
theorem dX11_init_268 : decode cX11_init 268 = .ok (.iconst 3, 1) := by decide +kernel
theorem dX11_init_269 : decode cX11_init 269 = .ok (.newarray .boolean, 2) := by decide +kernel
theorem dX11_init_271 : decode cX11_init 271 = .ok (.putfield 112, 3) := by decide +kernel
theorem dX11_init_274 : decode cX11_init 274 = .ok (.aload_n 0, 1) := by decide +kernel
theorem dX11_init_275 : decode cX11_init 275 = .ok (.getfield 35, 3) := by decide +kernel
theorem dX11_init_278 : decode cX11_init 278 = .ok (.iconst 0, 1) := by decide +kernel
theorem dX11_init_279 : decode cX11_init 279 = .ok (.bipush (-9), 2) := by decide +kernel
theorem dX11_init_281 : decode cX11_init 281 = .ok (.iastore, 1) := by decide +kernel
theorem dX11_init_282 : decode cX11_init 282 = .ok (.aload_n 0, 1) := by decide +kernel
theorem dX11_init_283 : decode cX11_init 283 = .ok (.getfield 35, 3) := by decide +kernel
theorem dX11_init_286 : decode cX11_init 286 = .ok (.iconst 1, 1) := by decide +kernel
theorem dX11_init_287 : decode cX11_init 287 = .ok (.bipush (-9), 2) := by decide +kernel
theorem dX11_init_289 : decode cX11_init 289 = .ok (.iastore, 1) := by decide +kernel
theorem dX11_init_290 : decode cX11_init 290 = .ok (.iconst 0, 1) := by decide +kernel
theorem dX11_init_291 : decode cX11_init 291 = .ok (.istore_n 1, 1) := by decide +kernel
theorem dX11_init_292 : decode cX11_init 292 = .ok (.iload_n 1, 1) := by decide +kernel
theorem dX11_init_293 : decode cX11_init 293 = .ok (.bipush 20, 2) := by decide +kernel
theorem dX11_init_295 : decode cX11_init 295 = .ok (.if_icmp .ge 18, 3) := by decide +kernel
theorem dX11_init_298 : decode cX11_init 298 = .ok (.aload_n 0, 1) := by decide +kernel
theorem dX11_init_299 : decode cX11_init 299 = .ok (.iconst 0, 1) := by decide +kernel
theorem dX11_init_300 : decode cX11_init 300 = .ok (.iload_n 1, 1) := by decide +kernel
theorem dX11_init_301 : decode cX11_init 301 = .ok (.iconst 0, 1) := by decide +kernel
theorem dX11_init_302 : decode cX11_init 302 = .ok (.iconst 0, 1) := by decide +kernel
theorem dX11_init_303 : decode cX11_init 303 = .ok (.invokevirtual 115, 3) := by decide +kernel
theorem dX11_init_306 : decode cX11_init 306 = .ok (.pop, 1) := by decide +kernel
theorem dX11_init_307 : decode cX11_init 307 = .ok (.iinc 1 1, 3) := by decide +kernel
theorem dX11_init_310 : decode cX11_init 310 = .ok (.goto (-18), 3) := by decide +kernel
theorem dX11_init_313 : decode cX11_init 313 = .ok (.iconst 0, 1) := by decide +kernel
theorem dX11_init_314 : decode cX11_init 314 = .ok (.istore_n 1, 1) := by decide +kernel
theorem dX11_init_315 : decode cX11_init 315 = .ok (.iload_n 1, 1) := by decide +kernel
theorem dX11_init_316 : decode cX11_init 316 = .ok (.bipush 10, 2) := by decide +kernel
theorem dX11_init_318 : decode cX11_init 318 = .ok (.if_icmp .ge 16, 3) := by decide +kernel
theorem dX11_init_321 : decode cX11_init 321 = .ok (.aload_n 0, 1) := by decide +kernel
theorem dX11_init_322 : decode cX11_init 322 = .ok (.getfield 42, 3) := by decide +kernel
theorem dX11_init_325 : decode cX11_init 325 = .ok (.iload_n 1, 1) := by decide +kernel
theorem dX11_init_326 : decode cX11_init 326 = .ok (.iload_n 1, 1) := by decide +kernel
theorem dX11_init_327 : decode cX11_init 327 = .ok (.iastore, 1) := by decide +kernel
theorem dX11_init_328 : decode cX11_init 328 = .ok (.iinc 1 1, 3) := by decide +kernel
theorem dX11_init_331 : decode cX11_init 331 = .ok (.goto (-16), 3) := by decide +kernel
theorem dX11_init_334 : decode cX11_init 334 = .ok (.return_, 1) := by decide +kernel
set_option maxRecDepth 20000 in
theorem mi_o : Cond.methodLink RX11 1 objectInit ∈ tg := tg_at 901 (by decide +kernel) rfl
set_option maxRecDepth 20000 in
theorem mi_l : Cond.arrayClass .long ∈ tg := tg_at 1093 (by decide +kernel) rfl
set_option maxRecDepth 20000 in
theorem mi_z : Cond.arrayClass .boolean ∈ tg := tg_at 230 (by decide +kernel) rfl
def fvN (ad : Nat → Nat) (f : Nat) (σ : MS) (k : Nat) : Value := if mref k = 0 then .int (σ.1 k) else if mref k ≤ f then .ref (ad (mref k)) else .null
def cellN (cy : Nat → ClassId) (ad : Nat → Nat) (f : Nat) (σ : MS) (j : Nat) : va_E := if j = 0 then .inr (11, (List.range 62).map (fvN ad f σ)) else cellM cy ad σ j
/-- the reference while it is made: n rows stand, f of them are in their fields -/
def wmN (cy : Nat → ClassId) (ad : Nat → Nat) (n f : Nat) (σ : MS) : va_W := (List.range (n + 1)).map (fun j => (ad j, cellN cy ad f σ j))
/-- the addresses of the reference's cells, one behind the other -/
def adC (ad : Nat → Nat) : Prop := ∀ i, ad i = ad 0 + i
def geA (b : Nat) : Nat → Prop := fun q => b ≤ q
theorem wmN_at (cy : Nat → ClassId) (ad : Nat → Nat) (n f : Nat) (σ : MS) {j : Nat} (hj : j < n + 1) : (wmN cy ad n f σ)[j]? = some (ad j, cellN cy ad f σ j) := by
  simp [wmN, List.getElem?_map, List.getElem?_range hj]
theorem mref_le (k : Nat) : mref k ≤ 33 := by
  unfold mref
  split <;> decide
theorem wmN_full (cy : Nat → ClassId) (ad : Nat → Nat) (σ : MS) : wmN cy ad 33 33 σ = wm cy ad σ := by
  unfold wmN wm
  apply List.map_congr_left
  intro j _
  unfold cellN
  by_cases hj : j = 0
  · subst hj
    rw [show fvN ad 33 σ = fvM ad σ from by funext k; simp [fvN, fvM, mref_le k]]
    simp [cellM]
  · simp [hj]
section MI
variable {p : Program} {l : Launch} {e : Env} {R : Room} {s : State} {m : MethodId} {args : Array Value} {below : List Frame} {meth : Method} {c : Code} {Q : State → Prop} {cc : ByteArray} {nL kc ks pc : Nat} {ret : Option FieldType} {D : va_G} {ls : List (Nat × Value)} {st : List Value} {cy : Nat → ClassId} {ad : Nat → Nat} {σ : MS} {n f : Nat}
theorem mi_q (hC : adC ad) {q : Nat} {e : va_E} {H1 : Heap} (hP1 : va_P D vwCl (wmN cy ad n f σ ++ [(q, e)]) H1) (hD1 : va_D (geA (ad 0)) (wmN cy ad n f σ ++ [(q, e)])) (hb : H1.size ≤ ad (n + 1) + 1) : q = ad (n + 1) := by
  have hlen : (wmN cy ad n f σ).length = n + 1 := by simp [wmN]
  have hlast : (wmN cy ad n f σ ++ [(q, e)])[n + 1]? = some (q, e) := by
    rw [List.getElem?_append_right (by omega)]; simp [hlen]
  have hlt : q < H1.size := (hP1 _ _ hlast).lt
  have h0 : ad 0 ≤ q := hD1.2 _ _ hlast
  by_cases h8 : q - ad 0 < n + 1
  · have hj' : (wmN cy ad n f σ ++ [(q, e)])[q - ad 0]? = some (ad (q - ad 0), cellN cy ad f σ (q - ad 0)) := by
      rw [List.getElem?_append_left (by omega)]; exact wmN_at cy ad n f σ h8
    have := hD1.1 _ _ _ _ hj' hlast (show ad (q - ad 0) = q by rw [hC]; omega)
    omega
  · rw [hC] at hb ⊢; omega
theorem wmN_nw {e : va_E} (he : cellN cy ad f σ (n + 1) = e) : wmN cy ad n f σ ++ [(ad (n + 1), e)] = wmN cy ad (n + 1) f σ := by
  unfold wmN
  rw [List.range_succ (n := n + 1), List.map_append]
  simp [he]
theorem mi_cy {ty : FieldType} {cA cB : ClassId} {t0 : Nat} (hK : va_K D vwCl (cyT cy) s) (ht : (cyT cy)[t0]? = some (cB, ty)) (hK2 : va_K D vwCl (cyT cy ++ [(cA, ty)]) s) : cA = cB := by
  have h1 := (hK.2 t0 _ ht).2
  have h2 := (hK2.2 6 (cA, ty) (by rfl)).2
  cases ty with
  | object C =>
    obtain ⟨_, _, _, _, _, e1⟩ := h1
    obtain ⟨_, _, _, _, _, e2⟩ := h2
    exact Option.some.inj (e2.symm.trans e1)
  | _ => exact Option.some.inj ((show s.vm.findClass _ = some cA from h2).symm.trans (show s.vm.findClass _ = some cB from h1))
theorem mi_newI (C : vC p s m args meth c cc nL ret RX11 D (cyT cy)) (hC : adC ad) (hz : s.heap.size = ad 1) (hk : kc = n) {x : Int32} {N : Nat} (hx : ¬ x < 0) (hN : x.toNatClampNeg = N) (hN2 : N ≤ 20000) (hc : cellN cy ad f σ (n + 1) = .inl (cy 0, (N, .inl (fun _ => 0)))) (hR1 : kc + 1 ≤ R.cells) (hR2 : ks + N ≤ R.slots) (d : decode cc pc = .ok (.newarray .int, 2)) (k : V p l e R s m args below meth c D (geA (ad 0)) nL Q (kc + 1) (ks + N) (wmN cy ad (n + 1) f σ) (pc + 2) ls (.ref (ad (n + 1)) :: st)) : V p l e R s m args below meth c D (geA (ad 0)) nL Q kc ks (wmN cy ad n f σ) pc ls (.int x :: st) := fun H locs la hP hD hS hl => by
  refine va_newa (atype := .int) (ty := .int) (a0 := (N, .inl (fun _ => 0))) C.1 C.2.1 (C.2.2.2.2.1 _ ja_int) rfl C.2.2.2.2.2.2.2.1 hP hD hS (fun q h => by rw [hz, hC] at h; show ad 0 ≤ q; omega) (fun cA => rfl) hx hN (show N * componentBytes .int ≤ 536870912 by simp only [componentBytes]; omega) hR1 hR2 d (fun q cA H1 hK1 hP1 hD1 hS1 => ?_)
  intro T hT X
  have hb : H1.size ≤ ad (n + 1) + 1 := by
    have := X.heapSize
    rw [hT] at this
    rw [hC (n + 1)]
    rw [hz, hC 1] at this
    omega
  have hq := mi_q hC hP1 hD1 hb
  subst hq
  have hcc : cA = cy 0 := mi_cy (t0 := 0) C.2.2.2.2.2.2.2.1 rfl hK1
  subst hcc
  rw [wmN_nw hc] at hP1 hD1
  exact k H1 locs la hP1 hD1 hS1 hl T hT X
theorem mi_newJ (C : vC p s m args meth c cc nL ret RX11 D (cyT cy)) (hC : adC ad) (hz : s.heap.size = ad 1) (hk : kc = n) {x : Int32} {N : Nat} (hx : ¬ x < 0) (hN : x.toNatClampNeg = N) (hN2 : N ≤ 20000) (hc : cellN cy ad f σ (n + 1) = .inl (cy 1, (N, .inr (.inl (fun _ => 0))))) (hR1 : kc + 1 ≤ R.cells) (hR2 : ks + N ≤ R.slots) (d : decode cc pc = .ok (.newarray .long, 2)) (k : V p l e R s m args below meth c D (geA (ad 0)) nL Q (kc + 1) (ks + N) (wmN cy ad (n + 1) f σ) (pc + 2) ls (.ref (ad (n + 1)) :: st)) : V p l e R s m args below meth c D (geA (ad 0)) nL Q kc ks (wmN cy ad n f σ) pc ls (.int x :: st) := fun H locs la hP hD hS hl => by
  refine va_newa (atype := .long) (ty := .long) (a0 := (N, .inr (.inl (fun _ => 0)))) C.1 C.2.1 (C.2.2.2.2.1 _ mi_l) rfl C.2.2.2.2.2.2.2.1 hP hD hS (fun q h => by rw [hz, hC] at h; show ad 0 ≤ q; omega) (fun cA => rfl) hx hN (show N * componentBytes .long ≤ 536870912 by simp only [componentBytes]; omega) hR1 hR2 d (fun q cA H1 hK1 hP1 hD1 hS1 => ?_)
  intro T hT X
  have hb : H1.size ≤ ad (n + 1) + 1 := by
    have := X.heapSize
    rw [hT] at this
    rw [hC (n + 1)]
    rw [hz, hC 1] at this
    omega
  have hq := mi_q hC hP1 hD1 hb
  subst hq
  have hcc : cA = cy 1 := mi_cy (t0 := 1) C.2.2.2.2.2.2.2.1 rfl hK1
  subst hcc
  rw [wmN_nw hc] at hP1 hD1
  exact k H1 locs la hP1 hD1 hS1 hl T hT X
theorem mi_newZ (C : vC p s m args meth c cc nL ret RX11 D (cyT cy)) (hC : adC ad) (hz : s.heap.size = ad 1) (hk : kc = n) {x : Int32} {N : Nat} (hx : ¬ x < 0) (hN : x.toNatClampNeg = N) (hN2 : N ≤ 20000) (hc : cellN cy ad f σ (n + 1) = .inl (cy 2, (N, .inl (fun _ => 0)))) (hR1 : kc + 1 ≤ R.cells) (hR2 : ks + N ≤ R.slots) (d : decode cc pc = .ok (.newarray .boolean, 2)) (k : V p l e R s m args below meth c D (geA (ad 0)) nL Q (kc + 1) (ks + N) (wmN cy ad (n + 1) f σ) (pc + 2) ls (.ref (ad (n + 1)) :: st)) : V p l e R s m args below meth c D (geA (ad 0)) nL Q kc ks (wmN cy ad n f σ) pc ls (.int x :: st) := fun H locs la hP hD hS hl => by
  refine va_newa (atype := .boolean) (ty := .boolean) (a0 := (N, .inl (fun _ => 0))) C.1 C.2.1 (C.2.2.2.2.1 _ mi_z) rfl C.2.2.2.2.2.2.2.1 hP hD hS (fun q h => by rw [hz, hC] at h; show ad 0 ≤ q; omega) (fun cA => rfl) hx hN (show N * componentBytes .boolean ≤ 536870912 by simp only [componentBytes]; omega) hR1 hR2 d (fun q cA H1 hK1 hP1 hD1 hS1 => ?_)
  intro T hT X
  have hb : H1.size ≤ ad (n + 1) + 1 := by
    have := X.heapSize
    rw [hT] at this
    rw [hC (n + 1)]
    rw [hz, hC 1] at this
    omega
  have hq := mi_q hC hP1 hD1 hb
  subst hq
  have hcc : cA = cy 2 := mi_cy (t0 := 2) C.2.2.2.2.2.2.2.1 rfl hK1
  subst hcc
  rw [wmN_nw hc] at hP1 hD1
  exact k H1 locs la hP1 hD1 hS1 hl T hT X
theorem fvN_set (k j : Nat) (hm : mref k = j) (hf : j = f + 1) (hinj : ∀ i, mref i = f + 1 → i = k) : ((List.range 62).map (fvN ad f σ)).set k (.ref (ad j)) = (List.range 62).map (fvN ad (f + 1) σ) := by
  rw [range_set]
  apply List.map_congr_left
  intro i _
  by_cases hi : i = k
  · subst hi
    simp [fvN, hm, hf]
  · have h1 : ¬ mref i = f + 1 := fun h => hi (hinj i h)
    simp only [if_neg hi, fvN]
    by_cases h0 : mref i = 0
    · simp [h0]
    · by_cases h2 : mref i ≤ f
      · have h3 : mref i ≤ f + 1 := by omega
        simp [h0, h2, h3]
      · have h3 : ¬ mref i ≤ f + 1 := by omega
        simp [h0, h2, h3]
theorem mi_putF (C : vC p s m args meth c cc nL ret RX11 D (cyT cy)) (hi : meth.name = "<init>") {idx k j : Nat} {ty : FieldType} (h : fR idx k j) (hf : j = f + 1) (hinj : ∀ i, mref i = f + 1 → i = k) (hfin : (TX11 k).2.2.2 = true) (hd : parseFieldDescriptor (TX11 k).2.2.1 = some ty) (ht : refKind ty = true) (d : decode cc pc = .ok (.putfield idx, 3)) (kk : V p l e R s m args below meth c D (geA (ad 0)) nL Q kc ks (wmN cy ad n (f + 1) σ) (pc + 3) ls st) : V p l e R s m args below meth c D (geA (ad 0)) nL Q kc ks (wmN cy ad n f σ) pc ls (.ref (ad j) :: .ref (ad 0) :: st) := by
  obtain ⟨h1, h2, h3, h4, h5⟩ := h
  have e : (wmN cy ad n f σ).set 0 (ad 0, .inr (11, ((List.range 62).map (fvN ad f σ)).set k (.ref (ad j)))) = wmN cy ad n (f + 1) σ := by
    rw [fvN_set k j h2 hf hinj]
    unfold wmN
    rw [range_set]
    apply List.map_congr_left
    intro i _
    by_cases hi : i = 0
    · subst hi; simp [cellN]
    · simp [cellN, hi]
  exact fun H locs la hP hD hS hl => va_putF C.1 C.2.1 C.2.2.2.2.1 ixX11 tyX11 tyX11_ok nmX11 C.2.2.2.1 C.2.2.2.2.2.2.2.1 hP hD hS 0 (wmN_at cy ad n f σ (by omega)) rfl k h1 (C.2.2.2.2.1 _ h5) (fun x h => by rw [h4] at h; exact h) hfin hi h4 hd (rf_n (r := some (ad j)) ht) (rf_f (r := some (ad j)) ht) (by simp; exact h1) d (fun H1 locs1 hP1 hD1 hS1 => kk H1 locs1 la (e ▸ hP1) (e ▸ hD1) hS1 hl)
theorem mi_putI (C : vC p s m args meth c cc nL ret RX11 D (cyT cy)) {idx k : Nat} {x : Int32} (h : fI idx k) (d : decode cc pc = .ok (.putfield idx, 3)) (kk : V p l e R s m args below meth c D (geA (ad 0)) nL Q kc ks (wmN cy ad n f (setF σ k x)) (pc + 3) ls st) : V p l e R s m args below meth c D (geA (ad 0)) nL Q kc ks (wmN cy ad n f σ) pc ls (.int x :: .ref (ad 0) :: st) := by
  obtain ⟨h1, h2, h3, h4, h5, h6⟩ := h
  have e : (wmN cy ad n f σ).set 0 (ad 0, .inr (11, ((List.range 62).map (fvN ad f σ)).set k (.int x))) = wmN cy ad n f (setF σ k x) := by
    unfold wmN
    rw [range_set, range_set]
    apply List.map_congr_left
    intro i _
    by_cases hi : i = 0
    · subst hi
      simp only [if_true, cellN]
      congr 3
      apply List.map_congr_left
      intro q _
      by_cases hq : q = k
      · subst hq; simp [fvN, h2, setF, upd]
      · simp [fvN, setF, upd, hq]
    · simp [cellN, cellM, hi, setF]
  exact v_put C 0 k ixX11 tyX11_ok nmX11 (wmN_at cy ad n f σ (by omega)) rfl h1 h3 h6 h4 h5 rfl rfl (by simpa using h1) d e kk
theorem mi_run {A1 A0 : Nat → Prop} {ws ws' : va_W} {mc ms : Nat} {rest : List Value} {r : Option Value} {a : Array Value} (hA : ∀ q, A1 q → A0 q) (hr : ∀ (H : Heap) (locs : List Loc) (la : Array Slot), va_P D vwCl ws H → lv_has la nL ls → va_Run p l e R s m args below meth c H locs kc ks mc ms (F0 m pc la st) rest (vQ D A1 r ws' a) A1) (hD' : va_D A0 ws → va_D A0 ws') (k : V p l e R s m args below meth c D A0 nL Q (kc + mc) (ks + ms) ws' (pc + 3) ls (r.toList ++ rest)) : V p l e R s m args below meth c D A0 nL Q kc ks ws pc ls st := fun H locs la hP hD hS hl => by
  intro T hT X
  obtain ⟨v, st₀, t, T', L, h0, X', hL, e1, e2, ⟨hv, hp, hz, hk⟩, stp⟩ := hr H locs la hP hl T hT X
  cases hv
  rw [h0] at hz hk
  obtain ⟨t2, a1, b1⟩ := k T'.heap (locs ++ L) la (by rw [e1]; exact hp) (hD' hD) ⟨Nat.le_trans hS.1 (by rw [e1]; exact hz), fun q h1 h2 => by rw [e1, hk q (Nat.lt_of_lt_of_le h1 hS.1) (fun h => h2 (hA q h))]; exact hS.2.1 q h1 h2, fun q hq => by
      rcases List.mem_append.mp hq with h | h
      · exact hS.2.2 q h
      · exact hA _ (hL q h)⟩ hl T' rfl X'
  exact ⟨t2, stp t2 a1, b1⟩
end MI
