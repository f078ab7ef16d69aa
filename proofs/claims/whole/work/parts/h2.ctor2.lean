def ke : CS := (fun _ _ => 0, fun _ _ => none, fun _ => 0, fun _ => 0, 0)
def kShelf (t : Nat) (σ : CS) : CS := sR (nwD σ 15 6) t 0 (some (ndC σ))
def js1 : CS := nwD ke 10 0
def js2 : CS := nwD js1 12 32
def js3 : CS := sR js2 0 0 (some 1)
def js4 : CS := nwD js3 3 0
def js5 : CS := nwD js4 16 3
def js6 : CS := sR js5 2 0 (some 3)
def js7 : CS := nwD js6 16 4
def js8 : CS := sR js7 2 1 (some 4)
def js9 : CS := sR js8 0 2 (some 2)
def js10 : CS := nwD js9 5 0
def js11 : CS := kShelf 5 js10
def js12 : CS := sR js11 0 3 (some 5)
def js13 : CS := nwD js12 2 0
def js14 : CS := nwD js13 17 8
def js15 : CS := sR js14 7 0 (some 8)
def js16 : CS := nwD js15 5 0
def js17 : CS := kShelf 9 js16
def js18 : CS := sR js17 8 ((0 : Int32).toNatClampNeg) (some 9)
def js19 : CS := nwD js18 5 0
def js20 : CS := kShelf 11 js19
def js21 : CS := sR js20 8 ((1 : Int32).toNatClampNeg) (some 11)
def js22 : CS := nwD js21 5 0
def js23 : CS := kShelf 13 js22
def js24 : CS := sR js23 8 ((2 : Int32).toNatClampNeg) (some 13)
def js25 : CS := nwD js24 5 0
def js26 : CS := kShelf 15 js25
def js27 : CS := sR js26 8 ((3 : Int32).toNatClampNeg) (some 15)
def js28 : CS := nwD js27 5 0
def js29 : CS := kShelf 17 js28
def js30 : CS := sR js29 8 ((4 : Int32).toNatClampNeg) (some 17)
def js31 : CS := nwD js30 5 0
def js32 : CS := kShelf 19 js31
def js33 : CS := sR js32 8 ((5 : Int32).toNatClampNeg) (some 19)
def js34 : CS := nwD js33 5 0
def js35 : CS := kShelf 21 js34
def js36 : CS := sR js35 8 ((6 : Int32).toNatClampNeg) (some 21)
def js37 : CS := nwD js36 5 0
def js38 : CS := kShelf 23 js37
def js39 : CS := sR js38 8 ((7 : Int32).toNatClampNeg) (some 23)
def js40 : CS := sR js39 0 4 (some 7)
def js41 : CS := nwD js40 6 0
def js42 : CS := nwD js41 15 4
def js43 : CS := sR js42 25 0 (some 26)
def js44 : CS := nwD js43 12 4
def js45 : CS := sR js44 25 1 (some 27)
def js46 : CS := sR js45 0 5 (some 25)
def js47 : CS := nwD js46 17 2
def js48 : CS := sR js47 0 6 (some 28)
def js49 : CS := nwD js48 14 2
def js50 : CS := sR js49 0 7 (some 29)
def js51 : CS := nwD js50 5 0
def js52 : CS := kShelf 30 js51
def js53 : CS := sR js52 28 ((0 : Int32).toNatClampNeg) (some 30)
def js54 : CS := nwD js53 5 0
def js55 : CS := kShelf 32 js54
def js56 : CS := sR js55 28 ((1 : Int32).toNatClampNeg) (some 32)
def js57 : CS := nwD js56 7 0
def js58 : CS := nwD js57 12 3600
def js59 : CS := sR js58 34 0 (some 35)
def js60 : CS := nwD js59 12 3
def js61 : CS := sR js60 34 2 (some 36)
def js62 : CS := nwD js61 12 4
def js63 : CS := sR js62 34 4 (some 37)
def js64 : CS := nwD js63 8 0
def js65 : CS := nwD js64 12 3072
def js66 : CS := sR js65 38 1 (some 39)
def js67 : CS := nwD js66 12 3072
def js68 : CS := sR js67 38 2 (some 40)
def js69 : CS := nwD js68 12 3072
def js70 : CS := sR js69 38 3 (some 41)
def js71 : CS := sI js70 38 4 1
def js72 : CS := nwD js71 12 10
def js73 : CS := sR js72 38 5 (some 42)
def js74 : CS := sR js73 38 0 (some 34)
def js75 : CS := nwD js74 4 0
def js76 : CS := nwD js75 9 0
def js77 : CS := sR js76 44 0 (some 34)
def js78 : CS := sR js77 44 1 (some 38)
def js79 : CS := nwD js78 12 11
def js80 : CS := sR js79 43 3 (some 45)
def js81 : CS := nwD js80 12 0
def js82 : CS := sR js81 43 4 (some 46)
def js83 : CS := nwD js82 5 0
def js84 : CS := kShelf 47 js83
def js85 : CS := sR js84 43 6 (some 47)
def js86 : CS := sR js85 43 0 (some 34)
def js87 : CS := sR js86 43 1 (some 38)
def js88 : CS := sR js87 43 2 (some 44)
def js89 : CS := sR js88 0 8 (some 43)
/-- references are few and lead to early cells -/
def PB (σ : CS) : Prop := ∀ j i a, σ.2.1 j i = some a → a < 49 ∧ i < 14
theorem PB_ke : PB ke := fun j i a h => by cases h
theorem PB_nw {σ : CS} (h : PB σ) (K n : Nat) : PB (nwD σ K n) := by
  intro j i a e
  by_cases hj : j = ndC σ
  · simp [nwD, hj] at e
  · simp only [nwD, if_neg hj] at e
    exact h j i a e
theorem PB_sI {σ : CS} (h : PB σ) (j k : Nat) (x : Int32) : PB (sI σ j k x) := h
theorem PB_sR {σ : CS} {t k x : Nat} (h : PB σ) (hk : k < 14) (hx : x < 49) : PB (sR σ t k (some x)) := by
  intro j i a e
  by_cases hj : j = t ∧ i = k
  · obtain ⟨rfl, rfl⟩ := hj
    rw [sR_at] at e
    injection e with e
    omega
  · rw [sR_ne _ _ (by omega)] at e
    exact h j i a e
theorem pb_js1 : PB js1 := PB_nw PB_ke _ _
theorem pb_js2 : PB js2 := PB_nw pb_js1 _ _
theorem pb_js3 : PB js3 := PB_sR pb_js2 (by decide) (by decide)
theorem pb_js4 : PB js4 := PB_nw pb_js3 _ _
theorem pb_js5 : PB js5 := PB_nw pb_js4 _ _
theorem pb_js6 : PB js6 := PB_sR pb_js5 (by decide) (by decide)
theorem pb_js7 : PB js7 := PB_nw pb_js6 _ _
theorem pb_js8 : PB js8 := PB_sR pb_js7 (by decide) (by decide)
theorem pb_js9 : PB js9 := PB_sR pb_js8 (by decide) (by decide)
theorem pb_js10 : PB js10 := PB_nw pb_js9 _ _
theorem pb_js11 : PB js11 := PB_sR (PB_nw pb_js10 _ _) (by decide) (x := 6) (by decide)
theorem pb_js12 : PB js12 := PB_sR pb_js11 (by decide) (by decide)
theorem pb_js13 : PB js13 := PB_nw pb_js12 _ _
theorem pb_js14 : PB js14 := PB_nw pb_js13 _ _
theorem pb_js15 : PB js15 := PB_sR pb_js14 (by decide) (by decide)
theorem pb_js16 : PB js16 := PB_nw pb_js15 _ _
theorem pb_js17 : PB js17 := PB_sR (PB_nw pb_js16 _ _) (by decide) (x := 10) (by decide)
theorem pb_js18 : PB js18 := PB_sR pb_js17 (by decide +kernel) (by decide)
theorem pb_js19 : PB js19 := PB_nw pb_js18 _ _
theorem pb_js20 : PB js20 := PB_sR (PB_nw pb_js19 _ _) (by decide) (x := 12) (by decide)
theorem pb_js21 : PB js21 := PB_sR pb_js20 (by decide +kernel) (by decide)
theorem pb_js22 : PB js22 := PB_nw pb_js21 _ _
theorem pb_js23 : PB js23 := PB_sR (PB_nw pb_js22 _ _) (by decide) (x := 14) (by decide)
theorem pb_js24 : PB js24 := PB_sR pb_js23 (by decide +kernel) (by decide)
theorem pb_js25 : PB js25 := PB_nw pb_js24 _ _
theorem pb_js26 : PB js26 := PB_sR (PB_nw pb_js25 _ _) (by decide) (x := 16) (by decide)
theorem pb_js27 : PB js27 := PB_sR pb_js26 (by decide +kernel) (by decide)
theorem pb_js28 : PB js28 := PB_nw pb_js27 _ _
theorem pb_js29 : PB js29 := PB_sR (PB_nw pb_js28 _ _) (by decide) (x := 18) (by decide)
theorem pb_js30 : PB js30 := PB_sR pb_js29 (by decide +kernel) (by decide)
theorem pb_js31 : PB js31 := PB_nw pb_js30 _ _
theorem pb_js32 : PB js32 := PB_sR (PB_nw pb_js31 _ _) (by decide) (x := 20) (by decide)
theorem pb_js33 : PB js33 := PB_sR pb_js32 (by decide +kernel) (by decide)
theorem pb_js34 : PB js34 := PB_nw pb_js33 _ _
theorem pb_js35 : PB js35 := PB_sR (PB_nw pb_js34 _ _) (by decide) (x := 22) (by decide)
theorem pb_js36 : PB js36 := PB_sR pb_js35 (by decide +kernel) (by decide)
theorem pb_js37 : PB js37 := PB_nw pb_js36 _ _
theorem pb_js38 : PB js38 := PB_sR (PB_nw pb_js37 _ _) (by decide) (x := 24) (by decide)
theorem pb_js39 : PB js39 := PB_sR pb_js38 (by decide +kernel) (by decide)
theorem pb_js40 : PB js40 := PB_sR pb_js39 (by decide) (by decide)
theorem pb_js41 : PB js41 := PB_nw pb_js40 _ _
theorem pb_js42 : PB js42 := PB_nw pb_js41 _ _
theorem pb_js43 : PB js43 := PB_sR pb_js42 (by decide) (by decide)
theorem pb_js44 : PB js44 := PB_nw pb_js43 _ _
theorem pb_js45 : PB js45 := PB_sR pb_js44 (by decide) (by decide)
theorem pb_js46 : PB js46 := PB_sR pb_js45 (by decide) (by decide)
theorem pb_js47 : PB js47 := PB_nw pb_js46 _ _
theorem pb_js48 : PB js48 := PB_sR pb_js47 (by decide) (by decide)
theorem pb_js49 : PB js49 := PB_nw pb_js48 _ _
theorem pb_js50 : PB js50 := PB_sR pb_js49 (by decide) (by decide)
theorem pb_js51 : PB js51 := PB_nw pb_js50 _ _
theorem pb_js52 : PB js52 := PB_sR (PB_nw pb_js51 _ _) (by decide) (x := 31) (by decide)
theorem pb_js53 : PB js53 := PB_sR pb_js52 (by decide +kernel) (by decide)
theorem pb_js54 : PB js54 := PB_nw pb_js53 _ _
theorem pb_js55 : PB js55 := PB_sR (PB_nw pb_js54 _ _) (by decide) (x := 33) (by decide)
theorem pb_js56 : PB js56 := PB_sR pb_js55 (by decide +kernel) (by decide)
theorem pb_js57 : PB js57 := PB_nw pb_js56 _ _
theorem pb_js58 : PB js58 := PB_nw pb_js57 _ _
theorem pb_js59 : PB js59 := PB_sR pb_js58 (by decide) (by decide)
theorem pb_js60 : PB js60 := PB_nw pb_js59 _ _
theorem pb_js61 : PB js61 := PB_sR pb_js60 (by decide) (by decide)
theorem pb_js62 : PB js62 := PB_nw pb_js61 _ _
theorem pb_js63 : PB js63 := PB_sR pb_js62 (by decide) (by decide)
theorem pb_js64 : PB js64 := PB_nw pb_js63 _ _
theorem pb_js65 : PB js65 := PB_nw pb_js64 _ _
theorem pb_js66 : PB js66 := PB_sR pb_js65 (by decide) (by decide)
theorem pb_js67 : PB js67 := PB_nw pb_js66 _ _
theorem pb_js68 : PB js68 := PB_sR pb_js67 (by decide) (by decide)
theorem pb_js69 : PB js69 := PB_nw pb_js68 _ _
theorem pb_js70 : PB js70 := PB_sR pb_js69 (by decide) (by decide)
theorem pb_js71 : PB js71 := PB_sI pb_js70 _ _ _
theorem pb_js72 : PB js72 := PB_nw pb_js71 _ _
theorem pb_js73 : PB js73 := PB_sR pb_js72 (by decide) (by decide)
theorem pb_js74 : PB js74 := PB_sR pb_js73 (by decide) (by decide)
theorem pb_js75 : PB js75 := PB_nw pb_js74 _ _
theorem pb_js76 : PB js76 := PB_nw pb_js75 _ _
theorem pb_js77 : PB js77 := PB_sR pb_js76 (by decide) (by decide)
theorem pb_js78 : PB js78 := PB_sR pb_js77 (by decide) (by decide)
theorem pb_js79 : PB js79 := PB_nw pb_js78 _ _
theorem pb_js80 : PB js80 := PB_sR pb_js79 (by decide) (by decide)
theorem pb_js81 : PB js81 := PB_nw pb_js80 _ _
theorem pb_js82 : PB js82 := PB_sR pb_js81 (by decide) (by decide)
theorem pb_js83 : PB js83 := PB_nw pb_js82 _ _
theorem pb_js84 : PB js84 := PB_sR (PB_nw pb_js83 _ _) (by decide) (x := 48) (by decide)
theorem pb_js85 : PB js85 := PB_sR pb_js84 (by decide) (by decide)
theorem pb_js86 : PB js86 := PB_sR pb_js85 (by decide) (by decide)
theorem pb_js87 : PB js87 := PB_sR pb_js86 (by decide) (by decide)
theorem pb_js88 : PB js88 := PB_sR pb_js87 (by decide) (by decide)
theorem pb_js89 : PB js89 := PB_sR pb_js88 (by decide) (by decide)
set_option maxRecDepth 20000 in
theorem oi_10_1 : Cond.methodLink RX10 1 objectInit ∈ tg := tg_at 118 (by decide +kernel) rfl
set_option maxRecDepth 20000 in
theorem ff_10_0 : fF 10 0 (.array .int) := ⟨RX10, TX10, 9, tyX10, rfl, tyX10_ok, nmX10, rfl, by decide +kernel⟩
set_option maxRecDepth 20000 in
theorem ff_10_3 : fF 10 3 (.object "JudgedTerms$Shelf") := ⟨RX10, TX10, 9, tyX10, rfl, tyX10_ok, nmX10, rfl, by decide +kernel⟩
set_option maxRecDepth 20000 in
theorem cl_10_27 : Cond.classLink RX10 27 RX2 ∈ tg := tg_at 163 (by decide +kernel) rfl
set_option maxRecDepth 20000 in
theorem in_2 : Cond.instantiable RX2 3 ∈ tg := tg_at 164 (by decide +kernel) rfl
set_option maxRecDepth 20000 in
theorem ini_2 : Cond.initialized RX2 ∈ tg := tg_at 101 (by decide +kernel) rfl
set_option maxRecDepth 20000 in
theorem df_2 : ∀ j, j < 3 → defaultValue (tyX2 j) = vp_V ((List.range (nfl 2)).map (fun k => if isR 2 k = true then Value.null else .int 0)) j := fun j hj => by
  rcases (show j = 0 ∨ j = 1 ∨ j = 2 by omega) with rfl | rfl | rfl <;> rfl
set_option maxRecDepth 20000 in
theorem oi_2_3 : Cond.methodLink RX2 3 objectInit ∈ tg := tg_at 168 (by decide +kernel) rfl
set_option maxRecDepth 20000 in
theorem cl_2_9 : Cond.classLink RX2 9 RX5 ∈ tg := tg_at 169 (by decide +kernel) rfl
set_option maxRecDepth 20000 in
theorem ao_5 : Cond.arrayOver (.object RX5) ∈ nws := nws_at 170 (by decide +kernel) rfl
set_option maxRecDepth 20000 in
theorem ff_2_0 : fF 2 0 (.array (.object "JudgedTerms$Shelf")) := ⟨RX2, TX2, 3, tyX2, rfl, tyX2_ok, nmX2, rfl, by decide +kernel⟩
set_option maxRecDepth 20000 in
theorem ml_2_17 : Cond.methodLinkNest RX2 17 yX5_init "JudgedTerms" ∈ nws := nws_at 171 (by decide +kernel) rfl
set_option maxRecDepth 20000 in
theorem ml_10_29 : Cond.methodLink RX10 29 yX2_init ∈ tg := tg_at 165 (by decide +kernel) rfl
set_option maxRecDepth 20000 in
theorem hYI_2 : vYI yX2_init cX2_init 2 0 := ⟨tg_at 166 (by decide +kernel) rfl, tg_at 101 (by decide +kernel) rfl, tg_at 167 (by rfl) rfl, rfl, by decide, by decide, by decide +kernel⟩
set_option maxRecDepth 20000 in
theorem ff_10_4 : fF 10 4 (.object "JudgedTerms$History") := ⟨RX10, TX10, 9, tyX10, rfl, tyX10_ok, nmX10, rfl, by decide +kernel⟩
set_option maxRecDepth 20000 in
theorem cl_10_34 : Cond.classLink RX10 34 RX6 ∈ tg := tg_at 183 (by decide +kernel) rfl
set_option maxRecDepth 20000 in
theorem in_6 : Cond.instantiable RX6 3 ∈ tg := tg_at 184 (by decide +kernel) rfl
set_option maxRecDepth 20000 in
theorem ini_6 : Cond.initialized RX6 ∈ tg := tg_at 102 (by decide +kernel) rfl
set_option maxRecDepth 20000 in
theorem df_6 : ∀ j, j < 3 → defaultValue (tyX6 j) = vp_V ((List.range (nfl 6)).map (fun k => if isR 6 k = true then Value.null else .int 0)) j := fun j hj => by
  rcases (show j = 0 ∨ j = 1 ∨ j = 2 by omega) with rfl | rfl | rfl <;> rfl
set_option maxRecDepth 20000 in
theorem oi_6_3 : Cond.methodLink RX6 3 objectInit ∈ tg := tg_at 188 (by decide +kernel) rfl
set_option maxRecDepth 20000 in
theorem cl_6_9 : Cond.classLink RX6 9 RX0 ∈ tg := tg_at 189 (by decide +kernel) rfl
set_option maxRecDepth 20000 in
theorem ff_6_0 : fF 6 0 (.array (.object "JudgedTerms$Entry")) := ⟨RX6, TX6, 3, tyX6, rfl, tyX6_ok, nmX6, rfl, by decide +kernel⟩
set_option maxRecDepth 20000 in
theorem ff_6_1 : fF 6 1 (.array .int) := ⟨RX6, TX6, 3, tyX6, rfl, tyX6_ok, nmX6, rfl, by decide +kernel⟩
set_option maxRecDepth 20000 in
theorem ml_10_36 : Cond.methodLinkNest RX10 36 yX6_init "JudgedTerms" ∈ nws := nws_at 185 (by decide +kernel) rfl
set_option maxRecDepth 20000 in
theorem hYI_6 : vYI yX6_init cX6_init 1 0 := ⟨tg_at 186 (by decide +kernel) rfl, tg_at 102 (by decide +kernel) rfl, tg_at 187 (by rfl) rfl, rfl, by decide, by decide, by decide +kernel⟩
set_option maxRecDepth 20000 in
theorem ff_10_5 : fF 10 5 (.object "JudgedTerms$Sights") := ⟨RX10, TX10, 9, tyX10, rfl, tyX10_ok, nmX10, rfl, by decide +kernel⟩
set_option maxRecDepth 20000 in
theorem ff_10_6 : fF 10 6 (.array (.object "JudgedTerms$Shelf")) := ⟨RX10, TX10, 9, tyX10, rfl, tyX10_ok, nmX10, rfl, by decide +kernel⟩
set_option maxRecDepth 20000 in
theorem ff_10_7 : fF 10 7 (.array .boolean) := ⟨RX10, TX10, 9, tyX10, rfl, tyX10_ok, nmX10, rfl, by decide +kernel⟩
set_option maxRecDepth 20000 in
theorem cl_10_49 : Cond.classLink RX10 49 RX7 ∈ tg := tg_at 201 (by decide +kernel) rfl
set_option maxRecDepth 20000 in
theorem in_7 : Cond.instantiable RX7 6 ∈ tg := tg_at 202 (by decide +kernel) rfl
set_option maxRecDepth 20000 in
theorem ini_7 : Cond.initialized RX7 ∈ tg := tg_at 103 (by decide +kernel) rfl
set_option maxRecDepth 20000 in
theorem df_7 : ∀ j, j < 6 → defaultValue (tyX7 j) = vp_V ((List.range (nfl 7)).map (fun k => if isR 7 k = true then Value.null else .int 0)) j := fun j hj => by
  rcases (show j = 0 ∨ j = 1 ∨ j = 2 ∨ j = 3 ∨ j = 4 ∨ j = 5 by omega) with rfl | rfl | rfl | rfl | rfl | rfl <;> rfl
set_option maxRecDepth 20000 in
theorem oi_7_3 : Cond.methodLink RX7 3 objectInit ∈ tg := tg_at 206 (by decide +kernel) rfl
set_option maxRecDepth 20000 in
theorem ff_7_0 : fF 7 0 (.array .int) := ⟨RX7, TX7, 6, tyX7, rfl, tyX7_ok, nmX7, rfl, by decide +kernel⟩
set_option maxRecDepth 20000 in
theorem ff_7_2 : fF 7 2 (.array .int) := ⟨RX7, TX7, 6, tyX7, rfl, tyX7_ok, nmX7, rfl, by decide +kernel⟩
set_option maxRecDepth 20000 in
theorem ff_7_4 : fF 7 4 (.array .int) := ⟨RX7, TX7, 6, tyX7, rfl, tyX7_ok, nmX7, rfl, by decide +kernel⟩
set_option maxRecDepth 20000 in
theorem ml_10_51 : Cond.methodLinkNest RX10 51 yX7_init "JudgedTerms" ∈ nws := nws_at 203 (by decide +kernel) rfl
set_option maxRecDepth 20000 in
theorem hYI_7 : vYI yX7_init cX7_init 1 0 := ⟨tg_at 204 (by decide +kernel) rfl, tg_at 103 (by decide +kernel) rfl, tg_at 205 (by rfl) rfl, rfl, by decide, by decide, by decide +kernel⟩
set_option maxRecDepth 20000 in
theorem cl_10_52 : Cond.classLink RX10 52 RX8 ∈ tg := tg_at 231 (by decide +kernel) rfl
set_option maxRecDepth 20000 in
theorem in_8 : Cond.instantiable RX8 7 ∈ tg := tg_at 232 (by decide +kernel) rfl
set_option maxRecDepth 20000 in
theorem ini_8 : Cond.initialized RX8 ∈ tg := tg_at 104 (by decide +kernel) rfl
set_option maxRecDepth 20000 in
theorem df_8 : ∀ j, j < 7 → defaultValue (tyX8 j) = vp_V ((List.range (nfl 8)).map (fun k => if isR 8 k = true then Value.null else .int 0)) j := fun j hj => by
  rcases (show j = 0 ∨ j = 1 ∨ j = 2 ∨ j = 3 ∨ j = 4 ∨ j = 5 ∨ j = 6 by omega) with rfl | rfl | rfl | rfl | rfl | rfl | rfl <;> rfl
set_option maxRecDepth 20000 in
theorem oi_8_3 : Cond.methodLink RX8 3 objectInit ∈ tg := tg_at 236 (by decide +kernel) rfl
set_option maxRecDepth 20000 in
theorem ff_8_1 : fF 8 1 (.array .int) := ⟨RX8, TX8, 7, tyX8, rfl, tyX8_ok, nmX8, rfl, by decide +kernel⟩
set_option maxRecDepth 20000 in
theorem ff_8_2 : fF 8 2 (.array .int) := ⟨RX8, TX8, 7, tyX8, rfl, tyX8_ok, nmX8, rfl, by decide +kernel⟩
set_option maxRecDepth 20000 in
theorem ff_8_3 : fF 8 3 (.array .int) := ⟨RX8, TX8, 7, tyX8, rfl, tyX8_ok, nmX8, rfl, by decide +kernel⟩
set_option maxRecDepth 20000 in
theorem ff_8_5 : fF 8 5 (.array .int) := ⟨RX8, TX8, 7, tyX8, rfl, tyX8_ok, nmX8, rfl, by decide +kernel⟩
set_option maxRecDepth 20000 in
theorem ff_8_0 : fF 8 0 (.object "JudgedTerms$Signs") := ⟨RX8, TX8, 7, tyX8, rfl, tyX8_ok, nmX8, rfl, by decide +kernel⟩
set_option maxRecDepth 20000 in
theorem ml_10_54 : Cond.methodLink RX10 54 yX8_init ∈ tg := tg_at 233 (by decide +kernel) rfl
set_option maxRecDepth 20000 in
theorem hYI_8 : vYI yX8_init cX8_init 2 1 := ⟨tg_at 234 (by decide +kernel) rfl, tg_at 104 (by decide +kernel) rfl, tg_at 235 (by rfl) rfl, rfl, by decide, by decide, by decide +kernel⟩
set_option maxRecDepth 20000 in
theorem cl_10_57 : Cond.classLink RX10 57 RX4 ∈ tg := tg_at 260 (by decide +kernel) rfl
set_option maxRecDepth 20000 in
theorem in_4 : Cond.instantiable RX4 15 ∈ tg := tg_at 261 (by decide +kernel) rfl
set_option maxRecDepth 20000 in
theorem ini_4 : Cond.initialized RX4 ∈ tg := tg_at 105 (by decide +kernel) rfl
set_option maxRecDepth 20000 in
theorem df_4 : ∀ j, j < 15 → defaultValue (tyX4 j) = vp_V ((List.range (nfl 4)).map (fun k => if isR 4 k = true then Value.null else .int 0)) j := fun j hj => by
  rcases (show j = 0 ∨ j = 1 ∨ j = 2 ∨ j = 3 ∨ j = 4 ∨ j = 5 ∨ j = 6 ∨ j = 7 ∨ j = 8 ∨ j = 9 ∨ j = 10 ∨ j = 11 ∨ j = 12 ∨ j = 13 ∨ j = 14 by omega) with rfl | rfl | rfl | rfl | rfl | rfl | rfl | rfl | rfl | rfl | rfl | rfl | rfl | rfl | rfl <;> rfl
set_option maxRecDepth 20000 in
theorem cl_10_59 : Cond.classLink RX10 59 RX9 ∈ tg := tg_at 262 (by decide +kernel) rfl
set_option maxRecDepth 20000 in
theorem in_9 : Cond.instantiable RX9 4 ∈ tg := tg_at 263 (by decide +kernel) rfl
set_option maxRecDepth 20000 in
theorem ini_9 : Cond.initialized RX9 ∈ tg := tg_at 106 (by decide +kernel) rfl
set_option maxRecDepth 20000 in
theorem df_9 : ∀ j, j < 4 → defaultValue (tyX9 j) = vp_V ((List.range (nfl 9)).map (fun k => if isR 9 k = true then Value.null else .int 0)) j := fun j hj => by
  rcases (show j = 0 ∨ j = 1 ∨ j = 2 ∨ j = 3 by omega) with rfl | rfl | rfl | rfl <;> rfl
set_option maxRecDepth 20000 in
theorem oi_9_3 : Cond.methodLink RX9 3 objectInit ∈ tg := tg_at 267 (by decide +kernel) rfl
set_option maxRecDepth 20000 in
theorem ff_9_0 : fF 9 0 (.object "JudgedTerms$Signs") := ⟨RX9, TX9, 4, tyX9, rfl, tyX9_ok, nmX9, rfl, by decide +kernel⟩
set_option maxRecDepth 20000 in
theorem ff_9_1 : fF 9 1 (.object "JudgedTerms$Values") := ⟨RX9, TX9, 4, tyX9, rfl, tyX9_ok, nmX9, rfl, by decide +kernel⟩
set_option maxRecDepth 20000 in
theorem ml_10_61 : Cond.methodLink RX10 61 yX9_init ∈ tg := tg_at 264 (by decide +kernel) rfl
set_option maxRecDepth 20000 in
theorem hYI_9 : vYI yX9_init cX9_init 3 2 := ⟨tg_at 265 (by decide +kernel) rfl, tg_at 106 (by decide +kernel) rfl, tg_at 266 (by rfl) rfl, rfl, by decide, by decide, by decide +kernel⟩
set_option maxRecDepth 20000 in
theorem oi_4_3 : Cond.methodLink RX4 3 objectInit ∈ tg := tg_at 284 (by decide +kernel) rfl
set_option maxRecDepth 20000 in
theorem ff_4_3 : fF 4 3 (.array .int) := ⟨RX4, TX4, 15, tyX4, rfl, tyX4_ok, nmX4, rfl, by decide +kernel⟩
set_option maxRecDepth 20000 in
theorem cl_4_18 : Cond.classLink RX4 18 RX5 ∈ tg := tg_at 285 (by decide +kernel) rfl
set_option maxRecDepth 20000 in
theorem ml_4_20 : Cond.methodLinkNest RX4 20 yX5_init "JudgedTerms" ∈ nws := nws_at 286 (by decide +kernel) rfl
set_option maxRecDepth 20000 in
theorem ff_4_0 : fF 4 0 (.object "JudgedTerms$Signs") := ⟨RX4, TX4, 15, tyX4, rfl, tyX4_ok, nmX4, rfl, by decide +kernel⟩
set_option maxRecDepth 20000 in
theorem ff_4_1 : fF 4 1 (.object "JudgedTerms$Values") := ⟨RX4, TX4, 15, tyX4, rfl, tyX4_ok, nmX4, rfl, by decide +kernel⟩
set_option maxRecDepth 20000 in
theorem ff_4_2 : fF 4 2 (.object "JudgedTerms$Writer") := ⟨RX4, TX4, 15, tyX4, rfl, tyX4_ok, nmX4, rfl, by decide +kernel⟩
set_option maxRecDepth 20000 in
theorem ml_10_64 : Cond.methodLink RX10 64 yX4_init ∈ tg := tg_at 281 (by decide +kernel) rfl
set_option maxRecDepth 20000 in
theorem hYI_4 : vYI yX4_init cX4_init 4 3 := ⟨tg_at 282 (by decide +kernel) rfl, tg_at 105 (by decide +kernel) rfl, tg_at 283 (by rfl) rfl, rfl, by decide, by decide, by decide +kernel⟩
set_option maxRecDepth 20000 in
theorem ff_10_8 : fF 10 8 (.object "JudgedTerms$Reader") := ⟨RX10, TX10, 9, tyX10, rfl, tyX10_ok, nmX10, rfl, by decide +kernel⟩
theorem dX2_init_0 : decode cX2_init 0 = .ok (.aload_n 0, 1) := by decide +kernel
theorem dX2_init_1 : decode cX2_init 1 = .ok (.invokespecial 3, 3) := by decide +kernel
theorem dX2_init_4 : decode cX2_init 4 = .ok (.aload_n 0, 1) := by decide +kernel
theorem dX2_init_5 : decode cX2_init 5 = .ok (.bipush 8, 2) := by decide +kernel
theorem dX2_init_7 : decode cX2_init 7 = .ok (.anewarray 9, 3) := by decide +kernel
theorem dX2_init_10 : decode cX2_init 10 = .ok (.putfield 11, 3) := by decide +kernel
theorem dX2_init_13 : decode cX2_init 13 = .ok (.iconst 0, 1) := by decide +kernel
theorem dX2_init_14 : decode cX2_init 14 = .ok (.istore_n 1, 1) := by decide +kernel
theorem dX2_init_15 : decode cX2_init 15 = .ok (.iload_n 1, 1) := by decide +kernel
theorem dX2_init_16 : decode cX2_init 16 = .ok (.bipush 8, 2) := by decide +kernel
theorem dX2_init_18 : decode cX2_init 18 = .ok (.if_icmp .ge 22, 3) := by decide +kernel
theorem dX2_init_21 : decode cX2_init 21 = .ok (.aload_n 0, 1) := by decide +kernel
theorem dX2_init_22 : decode cX2_init 22 = .ok (.getfield 11, 3) := by decide +kernel
theorem dX2_init_25 : decode cX2_init 25 = .ok (.iload_n 1, 1) := by decide +kernel
theorem dX2_init_26 : decode cX2_init 26 = .ok (.new 9, 3) := by decide +kernel
theorem dX2_init_29 : decode cX2_init 29 = .ok (.dup, 1) := by decide +kernel
theorem dX2_init_30 : decode cX2_init 30 = .ok (.invokespecial 17, 3) := by decide +kernel
theorem dX2_init_33 : decode cX2_init 33 = .ok (.aastore, 1) := by decide +kernel
theorem dX2_init_34 : decode cX2_init 34 = .ok (.iinc 1 1, 3) := by decide +kernel
theorem dX2_init_37 : decode cX2_init 37 = .ok (.goto (-22), 3) := by decide +kernel
theorem dX2_init_40 : decode cX2_init 40 = .ok (.return_, 1) := by decide +kernel
theorem dX6_init_0 : decode cX6_init 0 = .ok (.aload_n 0, 1) := by decide +kernel
theorem dX6_init_1 : decode cX6_init 1 = .ok (.invokespecial 3, 3) := by decide +kernel
theorem dX6_init_4 : decode cX6_init 4 = .ok (.aload_n 0, 1) := by decide +kernel
theorem dX6_init_5 : decode cX6_init 5 = .ok (.iconst 4, 1) := by decide +kernel
theorem dX6_init_6 : decode cX6_init 6 = .ok (.anewarray 9, 3) := by decide +kernel
theorem dX6_init_9 : decode cX6_init 9 = .ok (.putfield 11, 3) := by decide +kernel
theorem dX6_init_12 : decode cX6_init 12 = .ok (.aload_n 0, 1) := by decide +kernel
theorem dX6_init_13 : decode cX6_init 13 = .ok (.iconst 4, 1) := by decide +kernel
theorem dX6_init_14 : decode cX6_init 14 = .ok (.newarray .int, 2) := by decide +kernel
theorem dX6_init_16 : decode cX6_init 16 = .ok (.putfield 17, 3) := by decide +kernel
theorem dX6_init_19 : decode cX6_init 19 = .ok (.return_, 1) := by decide +kernel
theorem dX7_init_0 : decode cX7_init 0 = .ok (.aload_n 0, 1) := by decide +kernel
theorem dX7_init_1 : decode cX7_init 1 = .ok (.invokespecial 3, 3) := by decide +kernel
theorem dX7_init_4 : decode cX7_init 4 = .ok (.aload_n 0, 1) := by decide +kernel
theorem dX7_init_5 : decode cX7_init 5 = .ok (.sipush 3600, 3) := by decide +kernel
theorem dX7_init_8 : decode cX7_init 8 = .ok (.newarray .int, 2) := by decide +kernel
theorem dX7_init_10 : decode cX7_init 10 = .ok (.putfield 11, 3) := by decide +kernel
theorem dX7_init_13 : decode cX7_init 13 = .ok (.aload_n 0, 1) := by decide +kernel
theorem dX7_init_14 : decode cX7_init 14 = .ok (.iconst 3, 1) := by decide +kernel
theorem dX7_init_15 : decode cX7_init 15 = .ok (.newarray .int, 2) := by decide +kernel
theorem dX7_init_17 : decode cX7_init 17 = .ok (.putfield 15, 3) := by decide +kernel
theorem dX7_init_20 : decode cX7_init 20 = .ok (.aload_n 0, 1) := by decide +kernel
theorem dX7_init_21 : decode cX7_init 21 = .ok (.iconst 4, 1) := by decide +kernel
theorem dX7_init_22 : decode cX7_init 22 = .ok (.newarray .int, 2) := by decide +kernel
theorem dX7_init_24 : decode cX7_init 24 = .ok (.putfield 18, 3) := by decide +kernel
theorem dX7_init_27 : decode cX7_init 27 = .ok (.return_, 1) := by decide +kernel
theorem dX8_init_0 : decode cX8_init 0 = .ok (.aload_n 0, 1) := by decide +kernel
theorem dX8_init_1 : decode cX8_init 1 = .ok (.invokespecial 3, 3) := by decide +kernel
theorem dX8_init_4 : decode cX8_init 4 = .ok (.aload_n 0, 1) := by decide +kernel
theorem dX8_init_5 : decode cX8_init 5 = .ok (.sipush 3072, 3) := by decide +kernel
theorem dX8_init_8 : decode cX8_init 8 = .ok (.newarray .int, 2) := by decide +kernel
theorem dX8_init_10 : decode cX8_init 10 = .ok (.putfield 11, 3) := by decide +kernel
theorem dX8_init_13 : decode cX8_init 13 = .ok (.aload_n 0, 1) := by decide +kernel
theorem dX8_init_14 : decode cX8_init 14 = .ok (.sipush 3072, 3) := by decide +kernel
theorem dX8_init_17 : decode cX8_init 17 = .ok (.newarray .int, 2) := by decide +kernel
theorem dX8_init_19 : decode cX8_init 19 = .ok (.putfield 15, 3) := by decide +kernel
theorem dX8_init_22 : decode cX8_init 22 = .ok (.aload_n 0, 1) := by decide +kernel
theorem dX8_init_23 : decode cX8_init 23 = .ok (.sipush 3072, 3) := by decide +kernel
theorem dX8_init_26 : decode cX8_init 26 = .ok (.newarray .int, 2) := by decide +kernel
theorem dX8_init_28 : decode cX8_init 28 = .ok (.putfield 18, 3) := by decide +kernel
theorem dX8_init_31 : decode cX8_init 31 = .ok (.aload_n 0, 1) := by decide +kernel
theorem dX8_init_32 : decode cX8_init 32 = .ok (.iconst 1, 1) := by decide +kernel
theorem dX8_init_33 : decode cX8_init 33 = .ok (.putfield 21, 3) := by decide +kernel
theorem dX8_init_36 : decode cX8_init 36 = .ok (.aload_n 0, 1) := by decide +kernel
theorem dX8_init_37 : decode cX8_init 37 = .ok (.bipush 10, 2) := by decide +kernel
theorem dX8_init_39 : decode cX8_init 39 = .ok (.newarray .int, 2) := by decide +kernel
theorem dX8_init_41 : decode cX8_init 41 = .ok (.putfield 25, 3) := by decide +kernel
theorem dX8_init_44 : decode cX8_init 44 = .ok (.aload_n 0, 1) := by decide +kernel
theorem dX8_init_45 : decode cX8_init 45 = .ok (.aload_n 1, 1) := by decide +kernel
theorem dX8_init_46 : decode cX8_init 46 = .ok (.putfield 28, 3) := by decide +kernel
theorem dX8_init_49 : decode cX8_init 49 = .ok (.return_, 1) := by decide +kernel
theorem dX9_init_0 : decode cX9_init 0 = .ok (.aload_n 0, 1) := by decide +kernel
theorem dX9_init_1 : decode cX9_init 1 = .ok (.invokespecial 3, 3) := by decide +kernel
theorem dX9_init_4 : decode cX9_init 4 = .ok (.aload_n 0, 1) := by decide +kernel
theorem dX9_init_5 : decode cX9_init 5 = .ok (.aload_n 1, 1) := by decide +kernel
theorem dX9_init_6 : decode cX9_init 6 = .ok (.putfield 9, 3) := by decide +kernel
theorem dX9_init_9 : decode cX9_init 9 = .ok (.aload_n 0, 1) := by decide +kernel
theorem dX9_init_10 : decode cX9_init 10 = .ok (.aload_n 2, 1) := by decide +kernel
theorem dX9_init_11 : decode cX9_init 11 = .ok (.putfield 15, 3) := by decide +kernel
theorem dX9_init_14 : decode cX9_init 14 = .ok (.return_, 1) := by decide +kernel
theorem dX4_init_0 : decode cX4_init 0 = .ok (.aload_n 0, 1) := by decide +kernel
theorem dX4_init_1 : decode cX4_init 1 = .ok (.invokespecial 3, 3) := by decide +kernel
theorem dX4_init_4 : decode cX4_init 4 = .ok (.aload_n 0, 1) := by decide +kernel
theorem dX4_init_5 : decode cX4_init 5 = .ok (.bipush 11, 2) := by decide +kernel
theorem dX4_init_7 : decode cX4_init 7 = .ok (.newarray .int, 2) := by decide +kernel
theorem dX4_init_9 : decode cX4_init 9 = .ok (.putfield 9, 3) := by decide +kernel
theorem dX4_init_12 : decode cX4_init 12 = .ok (.aload_n 0, 1) := by decide +kernel
theorem dX4_init_13 : decode cX4_init 13 = .ok (.iconst 0, 1) := by decide +kernel
theorem dX4_init_14 : decode cX4_init 14 = .ok (.newarray .int, 2) := by decide +kernel
theorem dX4_init_16 : decode cX4_init 16 = .ok (.putfield 15, 3) := by decide +kernel
theorem dX4_init_19 : decode cX4_init 19 = .ok (.aload_n 0, 1) := by decide +kernel
theorem dX4_init_20 : decode cX4_init 20 = .ok (.new 18, 3) := by decide +kernel
theorem dX4_init_23 : decode cX4_init 23 = .ok (.dup, 1) := by decide +kernel
theorem dX4_init_24 : decode cX4_init 24 = .ok (.invokespecial 20, 3) := by decide +kernel
theorem dX4_init_27 : decode cX4_init 27 = .ok (.putfield 21, 3) := by decide +kernel
theorem dX4_init_30 : decode cX4_init 30 = .ok (.aload_n 0, 1) := by decide +kernel
theorem dX4_init_31 : decode cX4_init 31 = .ok (.aload_n 1, 1) := by decide +kernel
theorem dX4_init_32 : decode cX4_init 32 = .ok (.putfield 25, 3) := by decide +kernel
theorem dX4_init_35 : decode cX4_init 35 = .ok (.aload_n 0, 1) := by decide +kernel
theorem dX4_init_36 : decode cX4_init 36 = .ok (.aload_n 2, 1) := by decide +kernel
theorem dX4_init_37 : decode cX4_init 37 = .ok (.putfield 29, 3) := by decide +kernel
theorem dX4_init_40 : decode cX4_init 40 = .ok (.aload_n 0, 1) := by decide +kernel
theorem dX4_init_41 : decode cX4_init 41 = .ok (.aload_n 3, 1) := by decide +kernel
theorem dX4_init_42 : decode cX4_init 42 = .ok (.putfield 33, 3) := by decide +kernel
theorem dX4_init_45 : decode cX4_init 45 = .ok (.return_, 1) := by decide +kernel
theorem dX10_init_0 : decode cX10_init 0 = .ok (.aload_n 0, 1) := by decide +kernel
theorem dX10_init_1 : decode cX10_init 1 = .ok (.invokespecial 1, 3) := by decide +kernel
theorem dX10_init_4 : decode cX10_init 4 = .ok (.aload_n 0, 1) := by decide +kernel
theorem dX10_init_5 : decode cX10_init 5 = .ok (.bipush 32, 2) := by decide +kernel
theorem dX10_init_7 : decode cX10_init 7 = .ok (.newarray .int, 2) := by decide +kernel
theorem dX10_init_9 : decode cX10_init 9 = .ok (.putfield 9, 3) := by decide +kernel
theorem dX10_init_12 : decode cX10_init 12 = .ok (.aload_n 0, 1) := by decide +kernel
theorem dX10_init_13 : decode cX10_init 13 = .ok (.new 13, 3) := by decide +kernel
theorem dX10_init_16 : decode cX10_init 16 = .ok (.dup, 1) := by decide +kernel
theorem dX10_init_17 : decode cX10_init 17 = .ok (.invokespecial 15, 3) := by decide +kernel
theorem dX10_init_20 : decode cX10_init 20 = .ok (.putfield 16, 3) := by decide +kernel
theorem dX10_init_23 : decode cX10_init 23 = .ok (.aload_n 0, 1) := by decide +kernel
theorem dX10_init_24 : decode cX10_init 24 = .ok (.new 20, 3) := by decide +kernel
theorem dX10_init_27 : decode cX10_init 27 = .ok (.dup, 1) := by decide +kernel
theorem dX10_init_28 : decode cX10_init 28 = .ok (.invokespecial 22, 3) := by decide +kernel
theorem dX10_init_31 : decode cX10_init 31 = .ok (.putfield 23, 3) := by decide +kernel
theorem dX10_init_34 : decode cX10_init 34 = .ok (.aload_n 0, 1) := by decide +kernel
theorem dX10_init_35 : decode cX10_init 35 = .ok (.new 27, 3) := by decide +kernel
theorem dX10_init_38 : decode cX10_init 38 = .ok (.dup, 1) := by decide +kernel
theorem dX10_init_39 : decode cX10_init 39 = .ok (.invokespecial 29, 3) := by decide +kernel
theorem dX10_init_42 : decode cX10_init 42 = .ok (.putfield 30, 3) := by decide +kernel
theorem dX10_init_45 : decode cX10_init 45 = .ok (.aload_n 0, 1) := by decide +kernel
theorem dX10_init_46 : decode cX10_init 46 = .ok (.new 34, 3) := by decide +kernel
theorem dX10_init_49 : decode cX10_init 49 = .ok (.dup, 1) := by decide +kernel
theorem dX10_init_50 : decode cX10_init 50 = .ok (.invokespecial 36, 3) := by decide +kernel
theorem dX10_init_53 : decode cX10_init 53 = .ok (.putfield 37, 3) := by decide +kernel
theorem dX10_init_56 : decode cX10_init 56 = .ok (.aload_n 0, 1) := by decide +kernel
theorem dX10_init_57 : decode cX10_init 57 = .ok (.iconst 2, 1) := by decide +kernel
theorem dX10_init_58 : decode cX10_init 58 = .ok (.anewarray 20, 3) := by decide +kernel
theorem dX10_init_61 : decode cX10_init 61 = .ok (.putfield 41, 3) := by decide +kernel
theorem dX10_init_64 : decode cX10_init 64 = .ok (.aload_n 0, 1) := by decide +kernel
theorem dX10_init_65 : decode cX10_init 65 = .ok (.iconst 2, 1) := by decide +kernel
theorem dX10_init_66 : decode cX10_init 66 = .ok (.newarray .boolean, 2) := by decide +kernel
theorem dX10_init_68 : decode cX10_init 68 = .ok (.putfield 45, 3) := by decide +kernel
theorem dX10_init_71 : decode cX10_init 71 = .ok (.iconst 0, 1) := by decide +kernel
theorem dX10_init_72 : decode cX10_init 72 = .ok (.istore_n 1, 1) := by decide +kernel
theorem dX10_init_73 : decode cX10_init 73 = .ok (.iload_n 1, 1) := by decide +kernel
theorem dX10_init_74 : decode cX10_init 74 = .ok (.iconst 2, 1) := by decide +kernel
theorem dX10_init_75 : decode cX10_init 75 = .ok (.if_icmp .ge 22, 3) := by decide +kernel
theorem dX10_init_78 : decode cX10_init 78 = .ok (.aload_n 0, 1) := by decide +kernel
theorem dX10_init_79 : decode cX10_init 79 = .ok (.getfield 41, 3) := by decide +kernel
theorem dX10_init_82 : decode cX10_init 82 = .ok (.iload_n 1, 1) := by decide +kernel
theorem dX10_init_83 : decode cX10_init 83 = .ok (.new 20, 3) := by decide +kernel
theorem dX10_init_86 : decode cX10_init 86 = .ok (.dup, 1) := by decide +kernel
theorem dX10_init_87 : decode cX10_init 87 = .ok (.invokespecial 22, 3) := by decide +kernel
theorem dX10_init_90 : decode cX10_init 90 = .ok (.aastore, 1) := by decide +kernel
theorem dX10_init_91 : decode cX10_init 91 = .ok (.iinc 1 1, 3) := by decide +kernel
theorem dX10_init_94 : decode cX10_init 94 = .ok (.goto (-21), 3) := by decide +kernel
theorem dX10_init_97 : decode cX10_init 97 = .ok (.new 49, 3) := by decide +kernel
theorem dX10_init_100 : decode cX10_init 100 = .ok (.dup, 1) := by decide +kernel
theorem dX10_init_101 : decode cX10_init 101 = .ok (.invokespecial 51, 3) := by decide +kernel
theorem dX10_init_104 : decode cX10_init 104 = .ok (.astore_n 1, 1) := by decide +kernel
theorem dX10_init_105 : decode cX10_init 105 = .ok (.new 52, 3) := by decide +kernel
theorem dX10_init_108 : decode cX10_init 108 = .ok (.dup, 1) := by decide +kernel
theorem dX10_init_109 : decode cX10_init 109 = .ok (.aload_n 1, 1) := by decide +kernel
theorem dX10_init_110 : decode cX10_init 110 = .ok (.invokespecial 54, 3) := by decide +kernel
theorem dX10_init_113 : decode cX10_init 113 = .ok (.astore_n 2, 1) := by decide +kernel
theorem dX10_init_114 : decode cX10_init 114 = .ok (.aload_n 0, 1) := by decide +kernel
theorem dX10_init_115 : decode cX10_init 115 = .ok (.new 57, 3) := by decide +kernel
theorem dX10_init_118 : decode cX10_init 118 = .ok (.dup, 1) := by decide +kernel
theorem dX10_init_119 : decode cX10_init 119 = .ok (.aload_n 1, 1) := by decide +kernel
theorem dX10_init_120 : decode cX10_init 120 = .ok (.aload_n 2, 1) := by decide +kernel
theorem dX10_init_121 : decode cX10_init 121 = .ok (.new 59, 3) := by decide +kernel
theorem dX10_init_124 : decode cX10_init 124 = .ok (.dup, 1) := by decide +kernel
theorem dX10_init_125 : decode cX10_init 125 = .ok (.aload_n 1, 1) := by decide +kernel
theorem dX10_init_126 : decode cX10_init 126 = .ok (.aload_n 2, 1) := by decide +kernel
theorem dX10_init_127 : decode cX10_init 127 = .ok (.invokespecial 61, 3) := by decide +kernel
theorem dX10_init_130 : decode cX10_init 130 = .ok (.invokespecial 64, 3) := by decide +kernel
theorem dX10_init_133 : decode cX10_init 133 = .ok (.putfield 67, 3) := by decide +kernel
theorem dX10_init_136 : decode cX10_init 136 = .ok (.return_, 1) := by decide +kernel
