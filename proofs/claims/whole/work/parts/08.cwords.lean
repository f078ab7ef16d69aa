def okr (σ : CS) (r : Option Nat) (K : Nat) : Bool := r.elim true (fun a => okc σ a K)
theorem okr_at {σ : CS} {r : Option Nat} {K : Nat} (h : okr σ r K = true) : ∀ a, r = some a → okc σ a K = true := by
  intro a e; subst e; exact h
set_option maxRecDepth 20000 in
theorem fl_0_7 : fC RX0 7 0 0 := ⟨RX0, TX0, 2, ⟨rfl, ixX0, by decide, rfl, by decide, rfl⟩, tg_at 813 (by decide +kernel) rfl⟩
set_option maxRecDepth 20000 in
theorem fl_0_13 : fC RX0 13 0 1 := ⟨RX0, TX0, 2, ⟨rfl, ixX0, by decide, rfl, by decide, rfl⟩, tg_at 816 (by decide +kernel) rfl⟩
set_option maxRecDepth 20000 in
theorem fl_1_9 : fC RX1 9 1 0 := ⟨RX1, TX1, 1, ⟨rfl, ixX1, by decide, rfl, by decide, rfl⟩, tg_at 702 (by decide +kernel) rfl⟩
set_option maxRecDepth 20000 in
theorem fl_2_11 : fC RX2 11 2 0 := ⟨RX2, TX2, 3, ⟨rfl, ixX2, by decide, rfl, by decide, rfl⟩, tg_at 172 (by decide +kernel) rfl⟩
set_option maxRecDepth 20000 in
theorem fl_2_18 : fC RX2 18 2 1 := ⟨RX2, TX2, 3, ⟨rfl, ixX2, by decide, rfl, by decide, rfl⟩, tg_at 173 (by decide +kernel) rfl⟩
set_option maxRecDepth 20000 in
theorem fl_2_26 : fC RX2 26 2 2 := ⟨RX2, TX2, 3, ⟨rfl, ixX2, by decide, rfl, by decide, rfl⟩, tg_at 174 (by decide +kernel) rfl⟩
set_option maxRecDepth 20000 in
theorem fl_3_11 : fC RX3 11 3 0 := ⟨RX3, TX3, 4, ⟨rfl, ixX3, by decide, rfl, by decide, rfl⟩, tg_at 129 (by decide +kernel) rfl⟩
set_option maxRecDepth 20000 in
theorem fl_3_17 : fC RX3 17 3 1 := ⟨RX3, TX3, 4, ⟨rfl, ixX3, by decide, rfl, by decide, rfl⟩, tg_at 130 (by decide +kernel) rfl⟩
set_option maxRecDepth 20000 in
theorem fl_3_20 : fC RX3 20 3 2 := ⟨RX3, TX3, 4, ⟨rfl, ixX3, by decide, rfl, by decide, rfl⟩, tg_at 131 (by decide +kernel) rfl⟩
set_option maxRecDepth 20000 in
theorem fl_3_24 : fC RX3 24 3 3 := ⟨RX3, TX3, 4, ⟨rfl, ixX3, by decide, rfl, by decide, rfl⟩, tg_at 135 (by decide +kernel) rfl⟩
set_option maxRecDepth 20000 in
theorem fl_4_9 : fC RX4 9 4 3 := ⟨RX4, TX4, 15, ⟨rfl, ixX4, by decide, rfl, by decide, rfl⟩, tg_at 291 (by decide +kernel) rfl⟩
set_option maxRecDepth 20000 in
theorem fl_4_15 : fC RX4 15 4 4 := ⟨RX4, TX4, 15, ⟨rfl, ixX4, by decide, rfl, by decide, rfl⟩, tg_at 292 (by decide +kernel) rfl⟩
set_option maxRecDepth 20000 in
theorem fl_4_21 : fC RX4 21 4 6 := ⟨RX4, TX4, 15, ⟨rfl, ixX4, by decide, rfl, by decide, rfl⟩, tg_at 294 (by decide +kernel) rfl⟩
set_option maxRecDepth 20000 in
theorem fl_4_25 : fC RX4 25 4 0 := ⟨RX4, TX4, 15, ⟨rfl, ixX4, by decide, rfl, by decide, rfl⟩, tg_at 287 (by decide +kernel) rfl⟩
set_option maxRecDepth 20000 in
theorem fl_4_29 : fC RX4 29 4 1 := ⟨RX4, TX4, 15, ⟨rfl, ixX4, by decide, rfl, by decide, rfl⟩, tg_at 289 (by decide +kernel) rfl⟩
set_option maxRecDepth 20000 in
theorem fl_4_33 : fC RX4 33 4 2 := ⟨RX4, TX4, 15, ⟨rfl, ixX4, by decide, rfl, by decide, rfl⟩, tg_at 290 (by decide +kernel) rfl⟩
set_option maxRecDepth 20000 in
theorem fl_4_37 : fC RX4 37 4 5 := ⟨RX4, TX4, 15, ⟨rfl, ixX4, by decide, rfl, by decide, rfl⟩, tg_at 293 (by decide +kernel) rfl⟩
set_option maxRecDepth 20000 in
theorem fl_4_41 : fC RX4 41 4 7 := ⟨RX4, TX4, 15, ⟨rfl, ixX4, by decide, rfl, by decide, rfl⟩, tg_at 295 (by decide +kernel) rfl⟩
set_option maxRecDepth 20000 in
theorem fl_4_44 : fC RX4 44 4 8 := ⟨RX4, TX4, 15, ⟨rfl, ixX4, by decide, rfl, by decide, rfl⟩, tg_at 296 (by decide +kernel) rfl⟩
set_option maxRecDepth 20000 in
theorem fl_4_63 : fC RX4 63 4 12 := ⟨RX4, TX4, 15, ⟨rfl, ixX4, by decide, rfl, by decide, rfl⟩, tg_at 302 (by decide +kernel) rfl⟩
set_option maxRecDepth 20000 in
theorem fl_4_73 : fC RX4 73 4 13 := ⟨RX4, TX4, 15, ⟨rfl, ixX4, by decide, rfl, by decide, rfl⟩, tg_at 303 (by decide +kernel) rfl⟩
set_option maxRecDepth 20000 in
theorem fl_4_80 : fC RX4 80 4 14 := ⟨RX4, TX4, 15, ⟨rfl, ixX4, by decide, rfl, by decide, rfl⟩, tg_at 305 (by decide +kernel) rfl⟩
set_option maxRecDepth 20000 in
theorem fl_4_103 : fN RX4 103 7 3 := ⟨RX7, TX7, 6, "JudgedTerms", ⟨rfl, ixX7, by decide, rfl, by decide, rfl⟩, nws_at 213 (by decide +kernel) rfl⟩
set_option maxRecDepth 20000 in
theorem fl_4_106 : fN RX4 106 7 5 := ⟨RX7, TX7, 6, "JudgedTerms", ⟨rfl, ixX7, by decide, rfl, by decide, rfl⟩, nws_at 216 (by decide +kernel) rfl⟩
set_option maxRecDepth 20000 in
theorem fl_4_163 : fN RX4 163 7 1 := ⟨RX7, TX7, 6, "JudgedTerms", ⟨rfl, ixX7, by decide, rfl, by decide, rfl⟩, nws_at 210 (by decide +kernel) rfl⟩
set_option maxRecDepth 20000 in
theorem fl_4_166 : fN RX4 166 8 4 := ⟨RX8, TX8, 7, "JudgedTerms", ⟨rfl, ixX8, by decide, rfl, by decide, rfl⟩, nws_at 242 (by decide +kernel) rfl⟩
set_option maxRecDepth 20000 in
theorem fl_4_176 : fC RX4 176 4 9 := ⟨RX4, TX4, 15, ⟨rfl, ixX4, by decide, rfl, by decide, rfl⟩, tg_at 299 (by decide +kernel) rfl⟩
set_option maxRecDepth 20000 in
theorem fl_4_207 : fC RX4 207 4 10 := ⟨RX4, TX4, 15, ⟨rfl, ixX4, by decide, rfl, by decide, rfl⟩, tg_at 300 (by decide +kernel) rfl⟩
set_option maxRecDepth 20000 in
theorem fl_4_210 : fC RX4 210 4 11 := ⟨RX4, TX4, 15, ⟨rfl, ixX4, by decide, rfl, by decide, rfl⟩, tg_at 301 (by decide +kernel) rfl⟩
set_option maxRecDepth 20000 in
theorem fl_4_239 : fN RX4 239 0 0 := ⟨RX0, TX0, 2, "JudgedTerms", ⟨rfl, ixX0, by decide, rfl, by decide, rfl⟩, nws_at 815 (by decide +kernel) rfl⟩
set_option maxRecDepth 20000 in
theorem fl_4_247 : fN RX4 247 0 1 := ⟨RX0, TX0, 2, "JudgedTerms", ⟨rfl, ixX0, by decide, rfl, by decide, rfl⟩, nws_at 818 (by decide +kernel) rfl⟩
set_option maxRecDepth 20000 in
theorem fl_5_11 : fC RX5 11 5 0 := ⟨RX5, TX5, 2, ⟨rfl, ixX5, by decide, rfl, by decide, rfl⟩, tg_at 155 (by decide +kernel) rfl⟩
set_option maxRecDepth 20000 in
theorem fl_5_17 : fC RX5 17 5 1 := ⟨RX5, TX5, 2, ⟨rfl, ixX5, by decide, rfl, by decide, rfl⟩, tg_at 156 (by decide +kernel) rfl⟩
set_option maxRecDepth 20000 in
theorem fl_6_11 : fC RX6 11 6 0 := ⟨RX6, TX6, 3, ⟨rfl, ixX6, by decide, rfl, by decide, rfl⟩, tg_at 190 (by decide +kernel) rfl⟩
set_option maxRecDepth 20000 in
theorem fl_6_17 : fC RX6 17 6 1 := ⟨RX6, TX6, 3, ⟨rfl, ixX6, by decide, rfl, by decide, rfl⟩, tg_at 191 (by decide +kernel) rfl⟩
set_option maxRecDepth 20000 in
theorem fl_6_21 : fC RX6 21 6 2 := ⟨RX6, TX6, 3, ⟨rfl, ixX6, by decide, rfl, by decide, rfl⟩, tg_at 192 (by decide +kernel) rfl⟩
set_option maxRecDepth 20000 in
theorem fl_7_11 : fC RX7 11 7 0 := ⟨RX7, TX7, 6, ⟨rfl, ixX7, by decide, rfl, by decide, rfl⟩, tg_at 207 (by decide +kernel) rfl⟩
set_option maxRecDepth 20000 in
theorem fl_7_15 : fC RX7 15 7 2 := ⟨RX7, TX7, 6, ⟨rfl, ixX7, by decide, rfl, by decide, rfl⟩, tg_at 211 (by decide +kernel) rfl⟩
set_option maxRecDepth 20000 in
theorem fl_7_18 : fC RX7 18 7 4 := ⟨RX7, TX7, 6, ⟨rfl, ixX7, by decide, rfl, by decide, rfl⟩, tg_at 214 (by decide +kernel) rfl⟩
set_option maxRecDepth 20000 in
theorem fl_7_21 : fC RX7 21 7 1 := ⟨RX7, TX7, 6, ⟨rfl, ixX7, by decide, rfl, by decide, rfl⟩, tg_at 208 (by decide +kernel) rfl⟩
set_option maxRecDepth 20000 in
theorem fl_7_25 : fC RX7 25 7 3 := ⟨RX7, TX7, 6, ⟨rfl, ixX7, by decide, rfl, by decide, rfl⟩, tg_at 212 (by decide +kernel) rfl⟩
set_option maxRecDepth 20000 in
theorem fl_7_28 : fC RX7 28 7 5 := ⟨RX7, TX7, 6, ⟨rfl, ixX7, by decide, rfl, by decide, rfl⟩, tg_at 215 (by decide +kernel) rfl⟩
set_option maxRecDepth 20000 in
theorem fl_7_31 : fN RX7 31 3 2 := ⟨RX3, TX3, 4, "JudgedTerms", ⟨rfl, ixX3, by decide, rfl, by decide, rfl⟩, nws_at 132 (by decide +kernel) rfl⟩
set_option maxRecDepth 20000 in
theorem fl_7_46 : fN RX7 46 3 3 := ⟨RX3, TX3, 4, "JudgedTerms", ⟨rfl, ixX3, by decide, rfl, by decide, rfl⟩, nws_at 134 (by decide +kernel) rfl⟩
set_option maxRecDepth 20000 in
theorem fl_7_83 : fN RX7 83 1 0 := ⟨RX1, TX1, 1, "JudgedTerms", ⟨rfl, ixX1, by decide, rfl, by decide, rfl⟩, nws_at 703 (by decide +kernel) rfl⟩
set_option maxRecDepth 20000 in
theorem fl_8_11 : fC RX8 11 8 1 := ⟨RX8, TX8, 7, ⟨rfl, ixX8, by decide, rfl, by decide, rfl⟩, tg_at 238 (by decide +kernel) rfl⟩
set_option maxRecDepth 20000 in
theorem fl_8_15 : fC RX8 15 8 2 := ⟨RX8, TX8, 7, ⟨rfl, ixX8, by decide, rfl, by decide, rfl⟩, tg_at 239 (by decide +kernel) rfl⟩
set_option maxRecDepth 20000 in
theorem fl_8_18 : fC RX8 18 8 3 := ⟨RX8, TX8, 7, ⟨rfl, ixX8, by decide, rfl, by decide, rfl⟩, tg_at 240 (by decide +kernel) rfl⟩
set_option maxRecDepth 20000 in
theorem fl_8_21 : fC RX8 21 8 4 := ⟨RX8, TX8, 7, ⟨rfl, ixX8, by decide, rfl, by decide, rfl⟩, tg_at 241 (by decide +kernel) rfl⟩
set_option maxRecDepth 20000 in
theorem fl_8_25 : fC RX8 25 8 5 := ⟨RX8, TX8, 7, ⟨rfl, ixX8, by decide, rfl, by decide, rfl⟩, tg_at 243 (by decide +kernel) rfl⟩
set_option maxRecDepth 20000 in
theorem fl_8_28 : fC RX8 28 8 0 := ⟨RX8, TX8, 7, ⟨rfl, ixX8, by decide, rfl, by decide, rfl⟩, tg_at 237 (by decide +kernel) rfl⟩
set_option maxRecDepth 20000 in
theorem fl_8_64 : fC RX8 64 8 6 := ⟨RX8, TX8, 7, ⟨rfl, ixX8, by decide, rfl, by decide, rfl⟩, tg_at 244 (by decide +kernel) rfl⟩
set_option maxRecDepth 20000 in
theorem fl_9_9 : fC RX9 9 9 0 := ⟨RX9, TX9, 4, ⟨rfl, ixX9, by decide, rfl, by decide, rfl⟩, tg_at 268 (by decide +kernel) rfl⟩
set_option maxRecDepth 20000 in
theorem fl_9_15 : fC RX9 15 9 1 := ⟨RX9, TX9, 4, ⟨rfl, ixX9, by decide, rfl, by decide, rfl⟩, tg_at 269 (by decide +kernel) rfl⟩
set_option maxRecDepth 20000 in
theorem fl_9_33 : fN RX9 33 7 1 := ⟨RX7, TX7, 6, "JudgedTerms", ⟨rfl, ixX7, by decide, rfl, by decide, rfl⟩, nws_at 209 (by decide +kernel) rfl⟩
set_option maxRecDepth 20000 in
theorem fl_9_39 : fC RX9 39 9 2 := ⟨RX9, TX9, 4, ⟨rfl, ixX9, by decide, rfl, by decide, rfl⟩, tg_at 270 (by decide +kernel) rfl⟩
set_option maxRecDepth 20000 in
theorem fl_9_42 : fC RX9 42 9 3 := ⟨RX9, TX9, 4, ⟨rfl, ixX9, by decide, rfl, by decide, rfl⟩, tg_at 271 (by decide +kernel) rfl⟩
set_option maxRecDepth 20000 in
theorem fl_10_9 : fC RX10 9 10 0 := ⟨RX10, TX10, 9, ⟨rfl, ixX10, by decide, rfl, by decide, rfl⟩, tg_at 338 (by decide +kernel) rfl⟩
set_option maxRecDepth 20000 in
theorem fl_10_16 : fC RX10 16 10 2 := ⟨RX10, TX10, 9, ⟨rfl, ixX10, by decide, rfl, by decide, rfl⟩, tg_at 340 (by decide +kernel) rfl⟩
set_option maxRecDepth 20000 in
theorem fl_10_23 : fC RX10 23 10 3 := ⟨RX10, TX10, 9, ⟨rfl, ixX10, by decide, rfl, by decide, rfl⟩, tg_at 341 (by decide +kernel) rfl⟩
set_option maxRecDepth 20000 in
theorem fl_10_30 : fC RX10 30 10 4 := ⟨RX10, TX10, 9, ⟨rfl, ixX10, by decide, rfl, by decide, rfl⟩, tg_at 342 (by decide +kernel) rfl⟩
set_option maxRecDepth 20000 in
theorem fl_10_37 : fC RX10 37 10 5 := ⟨RX10, TX10, 9, ⟨rfl, ixX10, by decide, rfl, by decide, rfl⟩, tg_at 343 (by decide +kernel) rfl⟩
set_option maxRecDepth 20000 in
theorem fl_10_41 : fC RX10 41 10 6 := ⟨RX10, TX10, 9, ⟨rfl, ixX10, by decide, rfl, by decide, rfl⟩, tg_at 344 (by decide +kernel) rfl⟩
set_option maxRecDepth 20000 in
theorem fl_10_45 : fC RX10 45 10 7 := ⟨RX10, TX10, 9, ⟨rfl, ixX10, by decide, rfl, by decide, rfl⟩, tg_at 345 (by decide +kernel) rfl⟩
set_option maxRecDepth 20000 in
theorem fl_10_67 : fC RX10 67 10 8 := ⟨RX10, TX10, 9, ⟨rfl, ixX10, by decide, rfl, by decide, rfl⟩, tg_at 346 (by decide +kernel) rfl⟩
set_option maxRecDepth 20000 in
theorem fl_10_71 : fC RX10 71 10 1 := ⟨RX10, TX10, 9, ⟨rfl, ixX10, by decide, rfl, by decide, rfl⟩, tg_at 339 (by decide +kernel) rfl⟩
set_option maxRecDepth 20000 in
theorem fl_10_86 : fN RX10 86 4 8 := ⟨RX4, TX4, 15, "JudgedTerms", ⟨rfl, ixX4, by decide, rfl, by decide, rfl⟩, nws_at 297 (by decide +kernel) rfl⟩
set_option maxRecDepth 20000 in
theorem fl_10_89 : fN RX10 89 4 0 := ⟨RX4, TX4, 15, "JudgedTerms", ⟨rfl, ixX4, by decide, rfl, by decide, rfl⟩, nws_at 288 (by decide +kernel) rfl⟩
set_option maxRecDepth 20000 in
theorem fl_10_102 : fN RX10 102 3 2 := ⟨RX3, TX3, 4, "JudgedTerms", ⟨rfl, ixX3, by decide, rfl, by decide, rfl⟩, nws_at 133 (by decide +kernel) rfl⟩
set_option maxRecDepth 20000 in
theorem fl_10_105 : fN RX10 105 3 3 := ⟨RX3, TX3, 4, "JudgedTerms", ⟨rfl, ixX3, by decide, rfl, by decide, rfl⟩, nws_at 136 (by decide +kernel) rfl⟩
set_option maxRecDepth 20000 in
theorem fl_10_124 : fN RX10 124 4 13 := ⟨RX4, TX4, 15, "JudgedTerms", ⟨rfl, ixX4, by decide, rfl, by decide, rfl⟩, nws_at 304 (by decide +kernel) rfl⟩
set_option maxRecDepth 20000 in
theorem fl_10_134 : fN RX10 134 4 9 := ⟨RX4, TX4, 15, "JudgedTerms", ⟨rfl, ixX4, by decide, rfl, by decide, rfl⟩, nws_at 298 (by decide +kernel) rfl⟩
set_option maxRecDepth 20000 in
theorem fl_10_140 : fN RX10 140 4 14 := ⟨RX4, TX4, 15, "JudgedTerms", ⟨rfl, ixX4, by decide, rfl, by decide, rfl⟩, nws_at 306 (by decide +kernel) rfl⟩
set_option maxRecDepth 20000 in
theorem fl_10_147 : fN RX10 147 5 1 := ⟨RX5, TX5, 2, "JudgedTerms", ⟨rfl, ixX5, by decide, rfl, by decide, rfl⟩, nws_at 157 (by decide +kernel) rfl⟩
set_option maxRecDepth 20000 in
theorem fl_10_170 : fN RX10 170 2 2 := ⟨RX2, TX2, 3, "JudgedTerms", ⟨rfl, ixX2, by decide, rfl, by decide, rfl⟩, nws_at 175 (by decide +kernel) rfl⟩
set_option maxRecDepth 20000 in
theorem fl_10_174 : fN RX10 174 0 0 := ⟨RX0, TX0, 2, "JudgedTerms", ⟨rfl, ixX0, by decide, rfl, by decide, rfl⟩, nws_at 814 (by decide +kernel) rfl⟩
set_option maxRecDepth 20000 in
theorem fl_10_180 : fN RX10 180 0 1 := ⟨RX0, TX0, 2, "JudgedTerms", ⟨rfl, ixX0, by decide, rfl, by decide, rfl⟩, nws_at 817 (by decide +kernel) rfl⟩
set_option maxRecDepth 20000 in
theorem fl_10_187 : fN RX10 187 6 2 := ⟨RX6, TX6, 3, "JudgedTerms", ⟨rfl, ixX6, by decide, rfl, by decide, rfl⟩, nws_at 193 (by decide +kernel) rfl⟩
set_option maxRecDepth 20000 in
theorem fw_2_1 : fW 2 1 .int := ⟨RX2, TX2, 3, tyX2, rfl, tyX2_ok, nmX2, rfl, by decide +kernel⟩
set_option maxRecDepth 20000 in
theorem fw_2_2 : fW 2 2 .int := ⟨RX2, TX2, 3, tyX2, rfl, tyX2_ok, nmX2, rfl, by decide +kernel⟩
set_option maxRecDepth 20000 in
theorem fw_3_2 : fW 3 2 .int := ⟨RX3, TX3, 4, tyX3, rfl, tyX3_ok, nmX3, rfl, by decide +kernel⟩
set_option maxRecDepth 20000 in
theorem fw_3_3 : fW 3 3 .int := ⟨RX3, TX3, 4, tyX3, rfl, tyX3_ok, nmX3, rfl, by decide +kernel⟩
set_option maxRecDepth 20000 in
theorem fw_4_4 : fW 4 4 (.array .int) := ⟨RX4, TX4, 15, tyX4, rfl, tyX4_ok, nmX4, rfl, by decide +kernel⟩
set_option maxRecDepth 20000 in
theorem fw_4_5 : fW 4 5 .int := ⟨RX4, TX4, 15, tyX4, rfl, tyX4_ok, nmX4, rfl, by decide +kernel⟩
set_option maxRecDepth 20000 in
theorem fw_4_6 : fW 4 6 (.object "JudgedTerms$Shelf") := ⟨RX4, TX4, 15, tyX4, rfl, tyX4_ok, nmX4, rfl, by decide +kernel⟩
set_option maxRecDepth 20000 in
theorem fw_4_7 : fW 4 7 .int := ⟨RX4, TX4, 15, tyX4, rfl, tyX4_ok, nmX4, rfl, by decide +kernel⟩
set_option maxRecDepth 20000 in
theorem fw_4_8 : fW 4 8 .int := ⟨RX4, TX4, 15, tyX4, rfl, tyX4_ok, nmX4, rfl, by decide +kernel⟩
set_option maxRecDepth 20000 in
theorem fw_4_9 : fW 4 9 .int := ⟨RX4, TX4, 15, tyX4, rfl, tyX4_ok, nmX4, rfl, by decide +kernel⟩
set_option maxRecDepth 20000 in
theorem fw_4_10 : fW 4 10 .int := ⟨RX4, TX4, 15, tyX4, rfl, tyX4_ok, nmX4, rfl, by decide +kernel⟩
set_option maxRecDepth 20000 in
theorem fw_4_11 : fW 4 11 .int := ⟨RX4, TX4, 15, tyX4, rfl, tyX4_ok, nmX4, rfl, by decide +kernel⟩
set_option maxRecDepth 20000 in
theorem fw_4_12 : fW 4 12 .int := ⟨RX4, TX4, 15, tyX4, rfl, tyX4_ok, nmX4, rfl, by decide +kernel⟩
set_option maxRecDepth 20000 in
theorem fw_4_13 : fW 4 13 .int := ⟨RX4, TX4, 15, tyX4, rfl, tyX4_ok, nmX4, rfl, by decide +kernel⟩
set_option maxRecDepth 20000 in
theorem fw_4_14 : fW 4 14 .int := ⟨RX4, TX4, 15, tyX4, rfl, tyX4_ok, nmX4, rfl, by decide +kernel⟩
set_option maxRecDepth 20000 in
theorem fw_5_1 : fW 5 1 .int := ⟨RX5, TX5, 2, tyX5, rfl, tyX5_ok, nmX5, rfl, by decide +kernel⟩
set_option maxRecDepth 20000 in
theorem fw_6_2 : fW 6 2 .int := ⟨RX6, TX6, 3, tyX6, rfl, tyX6_ok, nmX6, rfl, by decide +kernel⟩
set_option maxRecDepth 20000 in
theorem fw_7_1 : fW 7 1 .int := ⟨RX7, TX7, 6, tyX7, rfl, tyX7_ok, nmX7, rfl, by decide +kernel⟩
set_option maxRecDepth 20000 in
theorem fw_7_3 : fW 7 3 .int := ⟨RX7, TX7, 6, tyX7, rfl, tyX7_ok, nmX7, rfl, by decide +kernel⟩
set_option maxRecDepth 20000 in
theorem fw_7_5 : fW 7 5 .int := ⟨RX7, TX7, 6, tyX7, rfl, tyX7_ok, nmX7, rfl, by decide +kernel⟩
set_option maxRecDepth 20000 in
theorem fw_8_4 : fW 8 4 .int := ⟨RX8, TX8, 7, tyX8, rfl, tyX8_ok, nmX8, rfl, by decide +kernel⟩
set_option maxRecDepth 20000 in
theorem fw_8_6 : fW 8 6 .int := ⟨RX8, TX8, 7, tyX8, rfl, tyX8_ok, nmX8, rfl, by decide +kernel⟩
set_option maxRecDepth 20000 in
theorem fw_9_2 : fW 9 2 .int := ⟨RX9, TX9, 4, tyX9, rfl, tyX9_ok, nmX9, rfl, by decide +kernel⟩
set_option maxRecDepth 20000 in
theorem fw_9_3 : fW 9 3 .boolean := ⟨RX9, TX9, 4, tyX9, rfl, tyX9_ok, nmX9, rfl, by decide +kernel⟩
set_option maxRecDepth 20000 in
theorem fw_10_1 : fW 10 1 .int := ⟨RX10, TX10, 9, tyX10, rfl, tyX10_ok, nmX10, rfl, by decide +kernel⟩
set_option maxRecDepth 20000 in
theorem ml_0_16 : Cond.methodLink RX0 16 yX1_equalTo ∈ tg := tg_at 857 (by decide +kernel) rfl
set_option maxRecDepth 20000 in
theorem ml_1_15 : Cond.methodLink RX1 15 yX1_signAt ∈ tg := tg_at 861 (by decide +kernel) rfl
set_option maxRecDepth 20000 in
theorem ml_2_22 : Cond.methodLink RX2 22 yX5_become ∈ tg := tg_at 797 (by decide +kernel) rfl
set_option maxRecDepth 20000 in
theorem ml_2_29 : Cond.methodLink RX2 29 Lib.Math.min.name ∈ tg := tg_at 801 (by decide +kernel) rfl
set_option maxRecDepth 20000 in
theorem mm_1 : Cond.static Lib.Math.min.name ∈ tg := tg_at 717 (by decide +kernel) rfl
set_option maxRecDepth 20000 in
theorem mm_2 : Cond.initialized "java/lang/Math" ∈ tg := tg_at 110 (by decide +kernel) rfl
set_option maxRecDepth 20000 in
theorem mm_3 : Cond.code Lib.Math.min.name Lib.Math.min.code 2 (some .int) ∈ tg := tg_at 718 (by decide +kernel) rfl
set_option maxRecDepth 20000 in
theorem ml_4_47 : Cond.methodLink RX4 47 yX7_begin ∈ tg := tg_at 382 (by decide +kernel) rfl
set_option maxRecDepth 20000 in
theorem ml_4_55 : Cond.methodLink RX4 55 yX8_release ∈ tg := tg_at 414 (by decide +kernel) rfl
set_option maxRecDepth 20000 in
theorem ml_4_59 : Cond.methodLink RX4 59 yX4_readType ∈ tg := tg_at 434 (by decide +kernel) rfl
set_option maxRecDepth 20000 in
theorem ml_4_66 : Cond.methodLink RX4 66 yX8_typeAt ∈ tg := tg_at 470 (by decide +kernel) rfl
set_option maxRecDepth 20000 in
theorem ml_4_70 : Cond.methodLink RX4 70 yX4_checkTerm ∈ tg := tg_at 521 (by decide +kernel) rfl
set_option maxRecDepth 20000 in
theorem ml_4_76 : Cond.methodLink RX4 76 yX4_readEnd ∈ tg := tg_at 764 (by decide +kernel) rfl
set_option maxRecDepth 20000 in
theorem ml_4_83 : Cond.methodLink RX4 83 yX4_inferTerm ∈ tg := tg_at 594 (by decide +kernel) rfl
set_option maxRecDepth 20000 in
theorem ml_4_95 : Cond.methodLink RX4 95 yX4_fail ∈ tg := tg_at 430 (by decide +kernel) rfl
set_option maxRecDepth 20000 in
theorem ml_4_99 : Cond.methodLink RX4 99 yX4_peek ∈ tg := tg_at 426 (by decide +kernel) rfl
set_option maxRecDepth 20000 in
theorem ml_4_109 : Cond.methodLink RX4 109 yX7_isData ∈ tg := tg_at 450 (by decide +kernel) rfl
set_option maxRecDepth 20000 in
theorem ml_4_112 : Cond.methodLink RX4 112 yX7_addFamily ∈ tg := tg_at 684 (by decide +kernel) rfl
set_option maxRecDepth 20000 in
theorem ml_4_115 : Cond.methodLink RX4 115 yX7_addConstant ∈ tg := tg_at 685 (by decide +kernel) rfl
set_option maxRecDepth 20000 in
theorem ml_4_118 : Cond.methodLink RX4 118 yX9_join ∈ tg := tg_at 494 (by decide +kernel) rfl
set_option maxRecDepth 20000 in
theorem ml_4_124 : Cond.methodLink RX4 124 yX4_refuse ∈ tg := tg_at 442 (by decide +kernel) rfl
set_option maxRecDepth 20000 in
theorem ml_4_127 : Cond.methodLink RX4 127 yX8_newVariable ∈ tg := tg_at 482 (by decide +kernel) rfl
set_option maxRecDepth 20000 in
theorem ml_4_130 : Cond.methodLink RX4 130 yX8_extended ∈ tg := tg_at 486 (by decide +kernel) rfl
set_option maxRecDepth 20000 in
theorem ml_4_133 : Cond.methodLink RX4 133 yX7_isFamily ∈ tg := tg_at 438 (by decide +kernel) rfl
set_option maxRecDepth 20000 in
theorem ml_4_136 : Cond.methodLink RX4 136 yX4_readBinder ∈ tg := tg_at 446 (by decide +kernel) rfl
set_option maxRecDepth 20000 in
theorem ml_4_139 : Cond.methodLink RX4 139 yX7_indexTypeOf ∈ tg := tg_at 517 (by decide +kernel) rfl
set_option maxRecDepth 20000 in
theorem ml_4_142 : Cond.methodLink RX4 142 yX4_join ∈ tg := tg_at 490 (by decide +kernel) rfl
set_option maxRecDepth 20000 in
theorem ml_4_145 : Cond.methodLink RX4 145 yX4_scope ∈ tg := tg_at 466 (by decide +kernel) rfl
set_option maxRecDepth 20000 in
theorem ml_4_148 : Cond.methodLink RX4 148 yX4_bind ∈ tg := tg_at 478 (by decide +kernel) rfl
set_option maxRecDepth 20000 in
theorem ml_4_151 : Cond.methodLink RX4 151 yX8_formOf ∈ tg := tg_at 525 (by decide +kernel) rfl
set_option maxRecDepth 20000 in
theorem ml_4_154 : Cond.methodLink RX4 154 yX4_readPair ∈ tg := tg_at 538 (by decide +kernel) rfl
set_option maxRecDepth 20000 in
theorem ml_4_157 : Cond.methodLink RX4 157 yX4_readFunction ∈ tg := tg_at 586 (by decide +kernel) rfl
set_option maxRecDepth 20000 in
theorem ml_4_160 : Cond.methodLink RX4 160 yX4_checkInferred ∈ tg := tg_at 590 (by decide +kernel) rfl
set_option maxRecDepth 20000 in
theorem ml_4_167 : Cond.methodLink RX4 167 yX9_begin ∈ tg := tg_at 645 (by decide +kernel) rfl
set_option maxRecDepth 20000 in
theorem ml_4_169 : Cond.methodLinkNest RX4 169 yX9_putType "JudgedTerms" ∈ nws := nws_at 646 (by decide +kernel) rfl
set_option maxRecDepth 20000 in
theorem ml_4_173 : Cond.methodLink RX4 173 yX9_written ∈ tg := tg_at 678 (by decide +kernel) rfl
set_option maxRecDepth 20000 in
theorem ml_4_179 : Cond.methodLink RX4 179 yX7_equal ∈ tg := tg_at 680 (by decide +kernel) rfl
set_option maxRecDepth 20000 in
theorem ml_4_183 : Cond.methodLink RX4 183 yX8_firstType ∈ tg := tg_at 542 (by decide +kernel) rfl
set_option maxRecDepth 20000 in
theorem ml_4_186 : Cond.methodLinkNest RX4 186 yX8_evaluate "JudgedTerms" ∈ nws := nws_at 551 (by decide +kernel) rfl
set_option maxRecDepth 20000 in
theorem ml_4_189 : Cond.methodLink RX4 189 yX8_secondType ∈ tg := tg_at 582 (by decide +kernel) rfl
set_option maxRecDepth 20000 in
theorem ml_4_192 : Cond.methodLink RX4 192 yX4_readEntry ∈ tg := tg_at 598 (by decide +kernel) rfl
set_option maxRecDepth 20000 in
theorem ml_4_195 : Cond.methodLink RX4 195 yX4_readAnnotated ∈ tg := tg_at 611 (by decide +kernel) rfl
set_option maxRecDepth 20000 in
theorem ml_4_198 : Cond.methodLink RX4 198 yX4_readApplied ∈ tg := tg_at 615 (by decide +kernel) rfl
set_option maxRecDepth 20000 in
theorem ml_4_201 : Cond.methodLink RX4 201 yX4_readComponent ∈ tg := tg_at 620 (by decide +kernel) rfl
set_option maxRecDepth 20000 in
theorem ml_4_204 : Cond.methodLink RX4 204 yX4_readName ∈ tg := tg_at 626 (by decide +kernel) rfl
set_option maxRecDepth 20000 in
theorem ml_4_213 : Cond.methodLinkNest RX4 213 yX9_putTerm "JudgedTerms" ∈ nws := nws_at 679 (by decide +kernel) rfl
set_option maxRecDepth 20000 in
theorem ml_4_217 : Cond.methodLink RX4 217 yX8_typeOfVariable ∈ tg := tg_at 630 (by decide +kernel) rfl
set_option maxRecDepth 20000 in
theorem ml_4_220 : Cond.methodLink RX4 220 yX8_variableIn ∈ tg := tg_at 634 (by decide +kernel) rfl
set_option maxRecDepth 20000 in
theorem ml_4_223 : Cond.methodLink RX4 223 yX4_hasRead ∈ tg := tg_at 607 (by decide +kernel) rfl
set_option maxRecDepth 20000 in
theorem ml_4_226 : Cond.methodLink RX4 226 yX7_isConstant ∈ tg := tg_at 635 (by decide +kernel) rfl
set_option maxRecDepth 20000 in
theorem ml_4_229 : Cond.methodLink RX4 229 yX8_typeOfConstant ∈ tg := tg_at 636 (by decide +kernel) rfl
set_option maxRecDepth 20000 in
theorem ml_4_232 : Cond.methodLink RX4 232 yX8_constantOf ∈ tg := tg_at 644 (by decide +kernel) rfl
set_option maxRecDepth 20000 in
theorem ml_4_235 : Cond.methodLink RX4 235 yX5_at ∈ tg := tg_at 602 (by decide +kernel) rfl
set_option maxRecDepth 20000 in
theorem ml_4_243 : Cond.methodLink RX4 243 yX7_copyOf ∈ tg := tg_at 606 (by decide +kernel) rfl
set_option maxRecDepth 20000 in
theorem ml_4_250 : Cond.methodLinkNest RX4 250 yX8_apply "JudgedTerms" ∈ nws := nws_at 619 (by decide +kernel) rfl
set_option maxRecDepth 20000 in
theorem ml_4_253 : Cond.methodLink RX4 253 yX8_firstOf ∈ tg := tg_at 624 (by decide +kernel) rfl
set_option maxRecDepth 20000 in
theorem ml_4_256 : Cond.methodLink RX4 256 yX8_secondOf ∈ tg := tg_at 625 (by decide +kernel) rfl
set_option maxRecDepth 20000 in
theorem ml_6_25 : Cond.methodLink RX6 25 yX0_likeness ∈ tg := tg_at 882 (by decide +kernel) rfl
set_option maxRecDepth 20000 in
theorem ml_7_34 : Cond.methodLink RX7 34 yX3_indexForm ∈ tg := tg_at 386 (by decide +kernel) rfl
set_option maxRecDepth 20000 in
theorem ml_7_38 : Cond.methodLink RX7 38 yX7_copyOf ∈ tg := tg_at 390 (by decide +kernel) rfl
set_option maxRecDepth 20000 in
theorem ml_7_42 : Cond.methodLink RX7 42 yX7_addFamily ∈ tg := tg_at 402 (by decide +kernel) rfl
set_option maxRecDepth 20000 in
theorem ml_7_47 : Cond.methodLink RX7 47 yX3_constantForm ∈ tg := tg_at 406 (by decide +kernel) rfl
set_option maxRecDepth 20000 in
theorem ml_7_50 : Cond.methodLink RX7 50 yX7_addConstant ∈ tg := tg_at 410 (by decide +kernel) rfl
set_option maxRecDepth 20000 in
theorem ml_7_62 : Cond.methodLink RX7 62 yX7_at ∈ tg := tg_at 458 (by decide +kernel) rfl
set_option maxRecDepth 20000 in
theorem ml_7_66 : Cond.methodLink RX7 66 yX7_partsOf ∈ tg := tg_at 462 (by decide +kernel) rfl
set_option maxRecDepth 20000 in
theorem ml_7_69 : Cond.methodLink RX7 69 yX7_behind ∈ tg := tg_at 454 (by decide +kernel) rfl
set_option maxRecDepth 20000 in
theorem ml_7_86 : Cond.methodLink RX7 86 yX1_signAt ∈ tg := tg_at 394 (by decide +kernel) rfl
set_option maxRecDepth 20000 in
theorem ml_7_89 : Cond.methodLink RX7 89 yX7_add ∈ tg := tg_at 398 (by decide +kernel) rfl
set_option maxRecDepth 20000 in
theorem ml_8_32 : Cond.methodLink RX8 32 yX8_make ∈ tg := tg_at 474 (by decide +kernel) rfl
set_option maxRecDepth 20000 in
theorem ml_8_36 : Cond.methodLink RX8 36 yX8_kindOf ∈ tg := tg_at 529 (by decide +kernel) rfl
set_option maxRecDepth 20000 in
theorem ml_8_40 : Cond.methodLink RX8 40 yX8_leftOf ∈ tg := tg_at 533 (by decide +kernel) rfl
set_option maxRecDepth 20000 in
theorem ml_8_43 : Cond.methodLink RX8 43 yX7_at ∈ tg := tg_at 537 (by decide +kernel) rfl
set_option maxRecDepth 20000 in
theorem ml_8_48 : Cond.methodLink RX8 48 yX8_rightOf ∈ tg := tg_at 546 (by decide +kernel) rfl
set_option maxRecDepth 20000 in
theorem ml_8_51 : Cond.methodLink RX8 51 yX8_typeAt ∈ tg := tg_at 550 (by decide +kernel) rfl
set_option maxRecDepth 20000 in
theorem ml_8_55 : Cond.methodLink RX8 55 yX7_behind ∈ tg := tg_at 555 (by decide +kernel) rfl
set_option maxRecDepth 20000 in
theorem ml_8_58 : Cond.methodLink RX8 58 yX8_extended ∈ tg := tg_at 569 (by decide +kernel) rfl
set_option maxRecDepth 20000 in
theorem ml_8_61 : Cond.methodLink RX8 61 yX7_constantTypeOf ∈ tg := tg_at 640 (by decide +kernel) rfl
set_option maxRecDepth 20000 in
theorem ml_8_66 : Cond.methodLink RX8 66 yX8_evaluate ∈ tg := tg_at 556 (by decide +kernel) rfl
set_option maxRecDepth 20000 in
theorem ml_8_69 : Cond.methodLink RX8 69 yX8_firstOf ∈ tg := tg_at 557 (by decide +kernel) rfl
set_option maxRecDepth 20000 in
theorem ml_8_72 : Cond.methodLink RX8 72 yX8_secondOf ∈ tg := tg_at 561 (by decide +kernel) rfl
set_option maxRecDepth 20000 in
theorem ml_8_75 : Cond.methodLink RX8 75 yX8_apply ∈ tg := tg_at 565 (by decide +kernel) rfl
set_option maxRecDepth 20000 in
theorem ml_8_78 : Cond.methodLink RX8 78 yX7_isConstant ∈ tg := tg_at 570 (by decide +kernel) rfl
set_option maxRecDepth 20000 in
theorem ml_8_82 : Cond.methodLink RX8 82 yX8_constantOf ∈ tg := tg_at 574 (by decide +kernel) rfl
set_option maxRecDepth 20000 in
theorem ml_8_85 : Cond.methodLink RX8 85 yX8_variableIn ∈ tg := tg_at 578 (by decide +kernel) rfl
set_option maxRecDepth 20000 in
theorem ml_9_19 : Cond.methodLink RX9 19 yX9_begin ∈ tg := tg_at 498 (by decide +kernel) rfl
set_option maxRecDepth 20000 in
theorem ml_9_22 : Cond.methodLink RX9 22 yX9_put ∈ tg := tg_at 502 (by decide +kernel) rfl
set_option maxRecDepth 20000 in
theorem ml_9_26 : Cond.methodLink RX9 26 yX9_putCopy ∈ tg := tg_at 507 (by decide +kernel) rfl
set_option maxRecDepth 20000 in
theorem ml_9_29 : Cond.methodLink RX9 29 yX9_written ∈ tg := tg_at 513 (by decide +kernel) rfl
set_option maxRecDepth 20000 in
theorem ml_9_46 : Cond.methodLink RX9 46 yX7_add ∈ tg := tg_at 506 (by decide +kernel) rfl
set_option maxRecDepth 20000 in
theorem ml_9_50 : Cond.methodLink RX9 50 yX7_behind ∈ tg := tg_at 511 (by decide +kernel) rfl
set_option maxRecDepth 20000 in
theorem ml_9_54 : Cond.methodLink RX9 54 yX7_at ∈ tg := tg_at 512 (by decide +kernel) rfl
set_option maxRecDepth 20000 in
theorem ml_9_57 : Cond.methodLink RX9 57 yX8_formOf ∈ tg := tg_at 650 (by decide +kernel) rfl
set_option maxRecDepth 20000 in
theorem ml_9_62 : Cond.methodLink RX9 62 yX8_firstType ∈ tg := tg_at 651 (by decide +kernel) rfl
set_option maxRecDepth 20000 in
theorem ml_9_65 : Cond.methodLink RX9 65 yX9_putType ∈ tg := tg_at 652 (by decide +kernel) rfl
set_option maxRecDepth 20000 in
theorem ml_9_69 : Cond.methodLink RX9 69 yX9_bound ∈ tg := tg_at 653 (by decide +kernel) rfl
set_option maxRecDepth 20000 in
theorem ml_9_73 : Cond.methodLink RX9 73 yX8_secondType ∈ tg := tg_at 658 (by decide +kernel) rfl
set_option maxRecDepth 20000 in
theorem ml_9_76 : Cond.methodLink RX9 76 yX7_indexTypeOf ∈ tg := tg_at 659 (by decide +kernel) rfl
set_option maxRecDepth 20000 in
theorem ml_9_79 : Cond.methodLink RX9 79 yX8_leftOf ∈ tg := tg_at 660 (by decide +kernel) rfl
set_option maxRecDepth 20000 in
theorem ml_9_82 : Cond.methodLink RX9 82 yX8_rightOf ∈ tg := tg_at 661 (by decide +kernel) rfl
set_option maxRecDepth 20000 in
theorem ml_9_85 : Cond.methodLinkNest RX9 85 yX8_evaluate "JudgedTerms" ∈ nws := nws_at 662 (by decide +kernel) rfl
set_option maxRecDepth 20000 in
theorem ml_9_89 : Cond.methodLink RX9 89 yX8_typeAt ∈ tg := tg_at 663 (by decide +kernel) rfl
set_option maxRecDepth 20000 in
theorem ml_9_92 : Cond.methodLink RX9 92 yX9_putTerm ∈ tg := tg_at 664 (by decide +kernel) rfl
set_option maxRecDepth 20000 in
theorem ml_9_96 : Cond.methodLink RX9 96 yX8_newVariable ∈ tg := tg_at 657 (by decide +kernel) rfl
set_option maxRecDepth 20000 in
theorem ml_9_99 : Cond.methodLink RX9 99 yX8_firstOf ∈ tg := tg_at 668 (by decide +kernel) rfl
set_option maxRecDepth 20000 in
theorem ml_9_102 : Cond.methodLink RX9 102 yX8_secondOf ∈ tg := tg_at 669 (by decide +kernel) rfl
set_option maxRecDepth 20000 in
theorem ml_9_105 : Cond.methodLinkNest RX9 105 yX8_apply "JudgedTerms" ∈ nws := nws_at 670 (by decide +kernel) rfl
set_option maxRecDepth 20000 in
theorem ml_9_108 : Cond.methodLink RX9 108 yX9_putLeft ∈ tg := tg_at 671 (by decide +kernel) rfl
set_option maxRecDepth 20000 in
theorem ml_9_111 : Cond.methodLink RX9 111 yX8_kindOf ∈ tg := tg_at 675 (by decide +kernel) rfl
set_option maxRecDepth 20000 in
theorem ml_9_114 : Cond.methodLink RX9 114 yX8_typeOfVariable ∈ tg := tg_at 676 (by decide +kernel) rfl
set_option maxRecDepth 20000 in
theorem ml_9_117 : Cond.methodLink RX9 117 yX8_typeOfConstant ∈ tg := tg_at 677 (by decide +kernel) rfl
set_option maxRecDepth 20000 in
theorem ml_10_75 : Cond.methodLink RX10 75 yX4_begin ∈ tg := tg_at 378 (by decide +kernel) rfl
set_option maxRecDepth 20000 in
theorem ml_10_100 : Cond.methodLink RX10 100 yX2_empty ∈ tg := tg_at 741 (by decide +kernel) rfl
set_option maxRecDepth 20000 in
theorem ml_10_101 : Cond.methodLink RX10 101 yX6_empty ∈ tg := tg_at 745 (by decide +kernel) rfl
set_option maxRecDepth 20000 in
theorem ml_10_108 : Cond.methodLink RX10 108 yX3_indexForm ∈ tg := tg_at 753 (by decide +kernel) rfl
set_option maxRecDepth 20000 in
theorem ml_10_112 : Cond.methodLink RX10 112 yX3_constantForm ∈ tg := tg_at 754 (by decide +kernel) rfl
set_option maxRecDepth 20000 in
theorem ml_10_115 : Cond.methodLink RX10 115 yX1_signAt ∈ tg := tg_at 755 (by decide +kernel) rfl
set_option maxRecDepth 20000 in
theorem ml_10_121 : Cond.methodLink RX10 121 yX4_readGiven ∈ tg := tg_at 760 (by decide +kernel) rfl
set_option maxRecDepth 20000 in
theorem ml_10_127 : Cond.methodLink RX10 127 yX7_answer ∈ tg := tg_at 768 (by decide +kernel) rfl
set_option maxRecDepth 20000 in
theorem ml_10_131 : Cond.methodLink RX10 131 yX4_readInferred ∈ tg := tg_at 776 (by decide +kernel) rfl
set_option maxRecDepth 20000 in
theorem ml_10_137 : Cond.methodLink RX10 137 yX4_readTwo ∈ tg := tg_at 784 (by decide +kernel) rfl
set_option maxRecDepth 20000 in
theorem ml_10_143 : Cond.methodLink RX10 143 yX7_equal ∈ tg := tg_at 788 (by decide +kernel) rfl
set_option maxRecDepth 20000 in
theorem ml_10_150 : Cond.methodLink RX10 150 yX2_note ∈ tg := tg_at 793 (by decide +kernel) rfl
set_option maxRecDepth 20000 in
theorem ml_10_162 : Cond.methodLink RX10 162 yX5_at ∈ tg := tg_at 832 (by decide +kernel) rfl
set_option maxRecDepth 20000 in
theorem ml_10_166 : Cond.methodLink RX10 166 yX5_remove ∈ tg := tg_at 833 (by decide +kernel) rfl
set_option maxRecDepth 20000 in
theorem ml_10_171 : Cond.methodLink RX10 171 yX2_restore ∈ tg := tg_at 841 (by decide +kernel) rfl
set_option maxRecDepth 20000 in
theorem ml_10_183 : Cond.methodLink RX10 183 yX0_likeness ∈ tg := tg_at 853 (by decide +kernel) rfl
set_option maxRecDepth 20000 in
theorem ml_10_191 : Cond.methodLink RX10 191 yX6_agreeWith ∈ tg := tg_at 878 (by decide +kernel) rfl
set_option maxRecDepth 20000 in
theorem ml_10_195 : Cond.methodLink RX10 195 yX5_become ∈ tg := tg_at 887 (by decide +kernel) rfl
set_option maxRecDepth 20000 in
theorem hY_Entry_likeness : vY RX0 yX0_likeness cX0_likeness 2 (some .int) 1 := ⟨tg_at 854 (by decide +kernel) rfl, tg_at 855 (by decide +kernel) rfl, tg_at 112 (by decide +kernel) rfl, tg_at 856 (by rfl) rfl, rfl, by decide, by decide, by decide +kernel⟩
set_option maxRecDepth 20000 in
theorem hY_Form_equalTo : vY RX1 yX1_equalTo cX1_equalTo 3 (some .boolean) 1 := ⟨tg_at 858 (by decide +kernel) rfl, tg_at 859 (by decide +kernel) rfl, tg_at 108 (by decide +kernel) rfl, tg_at 860 (by rfl) rfl, rfl, by decide, by decide, by decide +kernel⟩
set_option maxRecDepth 20000 in
theorem hY_Form_signAt : vY RX1 yX1_signAt cX1_signAt 2 (some .int) 1 := ⟨tg_at 395 (by decide +kernel) rfl, tg_at 396 (by decide +kernel) rfl, tg_at 108 (by decide +kernel) rfl, tg_at 397 (by rfl) rfl, rfl, by decide, by decide, by decide +kernel⟩
set_option maxRecDepth 20000 in
theorem hY_History_empty : vY RX2 yX2_empty cX2_empty 1 none 0 := ⟨tg_at 742 (by decide +kernel) rfl, tg_at 743 (by decide +kernel) rfl, tg_at 101 (by decide +kernel) rfl, tg_at 744 (by rfl) rfl, rfl, by decide, by decide, by decide +kernel⟩
set_option maxRecDepth 20000 in
theorem hY_History_note : vY RX2 yX2_note cX2_note 2 none 1 := ⟨tg_at 794 (by decide +kernel) rfl, tg_at 795 (by decide +kernel) rfl, tg_at 101 (by decide +kernel) rfl, tg_at 796 (by rfl) rfl, rfl, by decide, by decide, by decide +kernel⟩
set_option maxRecDepth 20000 in
theorem hY_History_restore : vY RX2 yX2_restore cX2_restore 2 none 1 := ⟨tg_at 842 (by decide +kernel) rfl, tg_at 843 (by decide +kernel) rfl, tg_at 101 (by decide +kernel) rfl, tg_at 844 (by rfl) rfl, rfl, by decide, by decide, by decide +kernel⟩
set_option maxRecDepth 20000 in
theorem hY_Laws_addConstant : vY RX3 yX3_addConstant cX3_addConstant 2 none 1 := ⟨tg_at 734 (by decide +kernel) rfl, tg_at 735 (by decide +kernel) rfl, tg_at 99 (by decide +kernel) rfl, tg_at 736 (by rfl) rfl, rfl, by decide, by decide, by decide +kernel⟩
set_option maxRecDepth 20000 in
theorem hY_Laws_addFamily : vY RX3 yX3_addFamily cX3_addFamily 2 none 1 := ⟨tg_at 730 (by decide +kernel) rfl, tg_at 731 (by decide +kernel) rfl, tg_at 99 (by decide +kernel) rfl, tg_at 732 (by rfl) rfl, rfl, by decide, by decide, by decide +kernel⟩
set_option maxRecDepth 20000 in
theorem hY_Laws_constantForm : vY RX3 yX3_constantForm cX3_constantForm 2 (some (.object "JudgedTerms$Form")) 1 := ⟨tg_at 407 (by decide +kernel) rfl, tg_at 408 (by decide +kernel) rfl, tg_at 99 (by decide +kernel) rfl, tg_at 409 (by rfl) rfl, rfl, by decide, by decide, by decide +kernel⟩
set_option maxRecDepth 20000 in
theorem hY_Laws_indexForm : vY RX3 yX3_indexForm cX3_indexForm 2 (some (.object "JudgedTerms$Form")) 1 := ⟨tg_at 387 (by decide +kernel) rfl, tg_at 388 (by decide +kernel) rfl, tg_at 99 (by decide +kernel) rfl, tg_at 389 (by rfl) rfl, rfl, by decide, by decide, by decide +kernel⟩
set_option maxRecDepth 20000 in
theorem hY_Reader_begin : vY RX4 yX4_begin cX4_begin 5 none 4 := ⟨tg_at 379 (by decide +kernel) rfl, tg_at 380 (by decide +kernel) rfl, tg_at 105 (by decide +kernel) rfl, tg_at 381 (by rfl) rfl, rfl, by decide, by decide, by decide +kernel⟩
set_option maxRecDepth 20000 in
theorem hY_Reader_bind : vY RX4 yX4_bind cX4_bind 4 (some .int) 2 := ⟨tg_at 480 (by decide +kernel) rfl, tg_at 8 (by decide +kernel) rfl, tg_at 105 (by decide +kernel) rfl, tg_at 481 (by rfl) rfl, rfl, by decide, by decide, by decide +kernel⟩
set_option maxRecDepth 20000 in
theorem hY_Reader_checkInferred : vY RX4 yX4_checkInferred cX4_checkInferred 9 (some .int) 2 := ⟨tg_at 592 (by decide +kernel) rfl, tg_at 17 (by decide +kernel) rfl, tg_at 105 (by decide +kernel) rfl, tg_at 593 (by rfl) rfl, rfl, by decide, by decide, by decide +kernel⟩
set_option maxRecDepth 20000 in
theorem hY_Reader_checkTerm : vY RX4 yX4_checkTerm cX4_checkTerm 6 (some .int) 2 := ⟨tg_at 523 (by decide +kernel) rfl, tg_at 12 (by decide +kernel) rfl, tg_at 105 (by decide +kernel) rfl, tg_at 524 (by rfl) rfl, rfl, by decide, by decide, by decide +kernel⟩
set_option maxRecDepth 20000 in
theorem hY_Reader_fail : vY RX4 yX4_fail cX4_fail 2 (some .boolean) 1 := ⟨tg_at 432 (by decide +kernel) rfl, tg_at 1 (by decide +kernel) rfl, tg_at 105 (by decide +kernel) rfl, tg_at 433 (by rfl) rfl, rfl, by decide, by decide, by decide +kernel⟩
set_option maxRecDepth 20000 in
theorem hY_Reader_hasMore : vY RX4 yX4_hasMore cX4_hasMore 1 (some .boolean) 0 := ⟨tg_at 419 (by decide +kernel) rfl, tg_at 420 (by decide +kernel) rfl, tg_at 105 (by decide +kernel) rfl, tg_at 421 (by rfl) rfl, rfl, by decide, by decide, by decide +kernel⟩
set_option maxRecDepth 20000 in
theorem hY_Reader_hasRead : vY RX4 yX4_hasRead cX4_hasRead 3 (some .boolean) 2 := ⟨tg_at 609 (by decide +kernel) rfl, tg_at 20 (by decide +kernel) rfl, tg_at 105 (by decide +kernel) rfl, tg_at 610 (by rfl) rfl, rfl, by decide, by decide, by decide +kernel⟩
set_option maxRecDepth 20000 in
theorem hY_Reader_inferTerm : vY RX4 yX4_inferTerm cX4_inferTerm 7 (some .int) 1 := ⟨tg_at 596 (by decide +kernel) rfl, tg_at 18 (by decide +kernel) rfl, tg_at 105 (by decide +kernel) rfl, tg_at 597 (by rfl) rfl, rfl, by decide, by decide, by decide +kernel⟩
set_option maxRecDepth 20000 in
theorem hY_Reader_join : vY RX4 yX4_join cX4_join 6 (some .int) 4 := ⟨tg_at 492 (by decide +kernel) rfl, tg_at 9 (by decide +kernel) rfl, tg_at 105 (by decide +kernel) rfl, tg_at 493 (by rfl) rfl, rfl, by decide, by decide, by decide +kernel⟩
set_option maxRecDepth 20000 in
theorem hY_Reader_peek : vY RX4 yX4_peek cX4_peek 1 (some .int) 0 := ⟨tg_at 428 (by decide +kernel) rfl, tg_at 0 (by decide +kernel) rfl, tg_at 105 (by decide +kernel) rfl, tg_at 429 (by rfl) rfl, rfl, by decide, by decide, by decide +kernel⟩
set_option maxRecDepth 20000 in
theorem hY_Reader_readAnnotated : vY RX4 yX4_readAnnotated cX4_readAnnotated 5 (some .boolean) 1 := ⟨tg_at 613 (by decide +kernel) rfl, tg_at 21 (by decide +kernel) rfl, tg_at 105 (by decide +kernel) rfl, tg_at 614 (by rfl) rfl, rfl, by decide, by decide, by decide +kernel⟩
set_option maxRecDepth 20000 in
theorem hY_Reader_readApplied : vY RX4 yX4_readApplied cX4_readApplied 8 (some .boolean) 1 := ⟨tg_at 617 (by decide +kernel) rfl, tg_at 22 (by decide +kernel) rfl, tg_at 105 (by decide +kernel) rfl, tg_at 618 (by rfl) rfl, rfl, by decide, by decide, by decide +kernel⟩
set_option maxRecDepth 20000 in
theorem hY_Reader_readBinder : vY RX4 yX4_readBinder cX4_readBinder 7 (some .int) 3 := ⟨tg_at 448 (by decide +kernel) rfl, tg_at 4 (by decide +kernel) rfl, tg_at 105 (by decide +kernel) rfl, tg_at 449 (by rfl) rfl, rfl, by decide, by decide, by decide +kernel⟩
set_option maxRecDepth 20000 in
theorem hY_Reader_readComponent : vY RX4 yX4_readComponent cX4_readComponent 8 (some .boolean) 1 := ⟨tg_at 622 (by decide +kernel) rfl, tg_at 23 (by decide +kernel) rfl, tg_at 105 (by decide +kernel) rfl, tg_at 623 (by rfl) rfl, rfl, by decide, by decide, by decide +kernel⟩
set_option maxRecDepth 20000 in
theorem hY_Reader_readEnd : vY RX4 yX4_readEnd cX4_readEnd 1 (some .boolean) 0 := ⟨tg_at 766 (by decide +kernel) rfl, tg_at 29 (by decide +kernel) rfl, tg_at 105 (by decide +kernel) rfl, tg_at 767 (by rfl) rfl, rfl, by decide, by decide, by decide +kernel⟩
set_option maxRecDepth 20000 in
theorem hY_Reader_readEntry : vY RX4 yX4_readEntry cX4_readEntry 5 (some .boolean) 0 := ⟨tg_at 600 (by decide +kernel) rfl, tg_at 19 (by decide +kernel) rfl, tg_at 105 (by decide +kernel) rfl, tg_at 601 (by rfl) rfl, rfl, by decide, by decide, by decide +kernel⟩
set_option maxRecDepth 20000 in
theorem hY_Reader_readFunction : vY RX4 yX4_readFunction cX4_readFunction 6 (some .int) 2 := ⟨tg_at 588 (by decide +kernel) rfl, tg_at 16 (by decide +kernel) rfl, tg_at 105 (by decide +kernel) rfl, tg_at 589 (by rfl) rfl, rfl, by decide, by decide, by decide +kernel⟩
set_option maxRecDepth 20000 in
theorem hY_Reader_readGiven : vY RX4 yX4_readGiven cX4_readGiven 1 (some .boolean) 0 := ⟨tg_at 761 (by decide +kernel) rfl, tg_at 762 (by decide +kernel) rfl, tg_at 105 (by decide +kernel) rfl, tg_at 763 (by rfl) rfl, rfl, by decide, by decide, by decide +kernel⟩
set_option maxRecDepth 20000 in
theorem hY_Reader_readInferred : vY RX4 yX4_readInferred cX4_readInferred 1 (some .boolean) 0 := ⟨tg_at 777 (by decide +kernel) rfl, tg_at 778 (by decide +kernel) rfl, tg_at 105 (by decide +kernel) rfl, tg_at 779 (by rfl) rfl, rfl, by decide, by decide, by decide +kernel⟩
set_option maxRecDepth 20000 in
theorem hY_Reader_readItem : vY RX4 yX4_readItem cX4_readItem 6 (some .boolean) 0 := ⟨tg_at 423 (by decide +kernel) rfl, tg_at 424 (by decide +kernel) rfl, tg_at 105 (by decide +kernel) rfl, tg_at 425 (by rfl) rfl, rfl, by decide, by decide, by decide +kernel⟩
set_option maxRecDepth 20000 in
theorem hY_Reader_readName : vY RX4 yX4_readName cX4_readName 4 (some .boolean) 1 := ⟨tg_at 628 (by decide +kernel) rfl, tg_at 24 (by decide +kernel) rfl, tg_at 105 (by decide +kernel) rfl, tg_at 629 (by rfl) rfl, rfl, by decide, by decide, by decide +kernel⟩
set_option maxRecDepth 20000 in
theorem hY_Reader_readPair : vY RX4 yX4_readPair cX4_readPair 7 (some .int) 2 := ⟨tg_at 540 (by decide +kernel) rfl, tg_at 13 (by decide +kernel) rfl, tg_at 105 (by decide +kernel) rfl, tg_at 541 (by rfl) rfl, rfl, by decide, by decide, by decide +kernel⟩
set_option maxRecDepth 20000 in
theorem hY_Reader_readTwo : vY RX4 yX4_readTwo cX4_readTwo 1 (some .boolean) 0 := ⟨tg_at 785 (by decide +kernel) rfl, tg_at 786 (by decide +kernel) rfl, tg_at 105 (by decide +kernel) rfl, tg_at 787 (by rfl) rfl, rfl, by decide, by decide, by decide +kernel⟩
set_option maxRecDepth 20000 in
theorem hY_Reader_readType : vY RX4 yX4_readType cX4_readType 7 (some .int) 1 := ⟨tg_at 436 (by decide +kernel) rfl, tg_at 2 (by decide +kernel) rfl, tg_at 105 (by decide +kernel) rfl, tg_at 437 (by rfl) rfl, rfl, by decide, by decide, by decide +kernel⟩
set_option maxRecDepth 20000 in
theorem hY_Reader_refuse : vY RX4 yX4_refuse cX4_refuse 2 (some .int) 1 := ⟨tg_at 444 (by decide +kernel) rfl, tg_at 3 (by decide +kernel) rfl, tg_at 105 (by decide +kernel) rfl, tg_at 445 (by rfl) rfl, rfl, by decide, by decide, by decide +kernel⟩
set_option maxRecDepth 20000 in
theorem hY_Reader_scope : vY RX4 yX4_scope cX4_scope 2 (some .int) 1 := ⟨tg_at 468 (by decide +kernel) rfl, tg_at 6 (by decide +kernel) rfl, tg_at 105 (by decide +kernel) rfl, tg_at 469 (by rfl) rfl, rfl, by decide, by decide, by decide +kernel⟩
set_option maxRecDepth 20000 in
theorem hY_Shelf_add : vY RX5 yX5_add cX5_add 2 none 1 := ⟨tg_at 825 (by decide +kernel) rfl, tg_at 826 (by decide +kernel) rfl, tg_at 100 (by decide +kernel) rfl, tg_at 827 (by rfl) rfl, rfl, by decide, by decide, by decide +kernel⟩
set_option maxRecDepth 20000 in
theorem hY_Shelf_at : vY RX5 yX5_at cX5_at 2 (some (.object "JudgedTerms$Entry")) 1 := ⟨tg_at 603 (by decide +kernel) rfl, tg_at 604 (by decide +kernel) rfl, tg_at 100 (by decide +kernel) rfl, tg_at 605 (by rfl) rfl, rfl, by decide, by decide, by decide +kernel⟩
set_option maxRecDepth 20000 in
theorem hY_Shelf_become : vY RX5 yX5_become cX5_become 3 none 1 := ⟨tg_at 798 (by decide +kernel) rfl, tg_at 799 (by decide +kernel) rfl, tg_at 100 (by decide +kernel) rfl, tg_at 800 (by rfl) rfl, rfl, by decide, by decide, by decide +kernel⟩
set_option maxRecDepth 20000 in
theorem hY_Shelf_empty : vY RX5 yX5_empty cX5_empty 1 none 0 := ⟨tg_at 738 (by decide +kernel) rfl, tg_at 739 (by decide +kernel) rfl, tg_at 100 (by decide +kernel) rfl, tg_at 740 (by rfl) rfl, rfl, by decide, by decide, by decide +kernel⟩
set_option maxRecDepth 20000 in
theorem hY_Shelf_remove : vY RX5 yX5_remove cX5_remove 3 none 1 := ⟨tg_at 834 (by decide +kernel) rfl, tg_at 835 (by decide +kernel) rfl, tg_at 100 (by decide +kernel) rfl, tg_at 836 (by rfl) rfl, rfl, by decide, by decide, by decide +kernel⟩
set_option maxRecDepth 20000 in
theorem hY_Sights_add : vY RX6 yX6_add cX6_add 3 none 2 := ⟨tg_at 867 (by decide +kernel) rfl, tg_at 868 (by decide +kernel) rfl, tg_at 102 (by decide +kernel) rfl, tg_at 869 (by rfl) rfl, rfl, by decide, by decide, by decide +kernel⟩
set_option maxRecDepth 20000 in
theorem hY_Sights_agreeWith : vY RX6 yX6_agreeWith cX6_agreeWith 3 (some .boolean) 1 := ⟨tg_at 879 (by decide +kernel) rfl, tg_at 880 (by decide +kernel) rfl, tg_at 102 (by decide +kernel) rfl, tg_at 881 (by rfl) rfl, rfl, by decide, by decide, by decide +kernel⟩
set_option maxRecDepth 20000 in
theorem hY_Sights_empty : vY RX6 yX6_empty cX6_empty 1 none 0 := ⟨tg_at 746 (by decide +kernel) rfl, tg_at 747 (by decide +kernel) rfl, tg_at 102 (by decide +kernel) rfl, tg_at 748 (by rfl) rfl, rfl, by decide, by decide, by decide +kernel⟩
set_option maxRecDepth 20000 in
theorem hY_Signs_add : vY RX7 yX7_add cX7_add 2 (some .boolean) 1 := ⟨tg_at 399 (by decide +kernel) rfl, tg_at 400 (by decide +kernel) rfl, tg_at 103 (by decide +kernel) rfl, tg_at 401 (by rfl) rfl, rfl, by decide, by decide, by decide +kernel⟩
set_option maxRecDepth 20000 in
theorem hY_Signs_addConstant : vY RX7 yX7_addConstant cX7_addConstant 2 none 1 := ⟨tg_at 411 (by decide +kernel) rfl, tg_at 412 (by decide +kernel) rfl, tg_at 103 (by decide +kernel) rfl, tg_at 413 (by rfl) rfl, rfl, by decide, by decide, by decide +kernel⟩
set_option maxRecDepth 20000 in
theorem hY_Signs_addFamily : vY RX7 yX7_addFamily cX7_addFamily 2 none 1 := ⟨tg_at 403 (by decide +kernel) rfl, tg_at 404 (by decide +kernel) rfl, tg_at 103 (by decide +kernel) rfl, tg_at 405 (by rfl) rfl, rfl, by decide, by decide, by decide +kernel⟩
set_option maxRecDepth 20000 in
theorem hY_Signs_answer : vY RX7 yX7_answer cX7_answer 4 (some .int) 2 := ⟨tg_at 769 (by decide +kernel) rfl, tg_at 770 (by decide +kernel) rfl, tg_at 103 (by decide +kernel) rfl, tg_at 771 (by rfl) rfl, rfl, by decide, by decide, by decide +kernel⟩
set_option maxRecDepth 20000 in
theorem hY_Signs_at : vY RX7 yX7_at cX7_at 2 (some .int) 1 := ⟨tg_at 459 (by decide +kernel) rfl, tg_at 460 (by decide +kernel) rfl, tg_at 103 (by decide +kernel) rfl, tg_at 461 (by rfl) rfl, rfl, by decide, by decide, by decide +kernel⟩
set_option maxRecDepth 20000 in
theorem hY_Signs_begin : vY RX7 yX7_begin cX7_begin 3 none 1 := ⟨tg_at 383 (by decide +kernel) rfl, tg_at 384 (by decide +kernel) rfl, tg_at 103 (by decide +kernel) rfl, tg_at 385 (by rfl) rfl, rfl, by decide, by decide, by decide +kernel⟩
set_option maxRecDepth 20000 in
theorem hY_Signs_behind : vY RX7 yX7_behind cX7_behind 4 (some .int) 1 := ⟨tg_at 455 (by decide +kernel) rfl, tg_at 456 (by decide +kernel) rfl, tg_at 103 (by decide +kernel) rfl, tg_at 457 (by rfl) rfl, rfl, by decide, by decide, by decide +kernel⟩
set_option maxRecDepth 20000 in
theorem hY_Signs_constantTypeOf : vY RX7 yX7_constantTypeOf cX7_constantTypeOf 3 (some .int) 1 := ⟨tg_at 641 (by decide +kernel) rfl, tg_at 642 (by decide +kernel) rfl, tg_at 103 (by decide +kernel) rfl, tg_at 643 (by rfl) rfl, rfl, by decide, by decide, by decide +kernel⟩
set_option maxRecDepth 20000 in
theorem hY_Signs_copyOf : vY RX7 yX7_copyOf cX7_copyOf 4 (some .int) 1 := ⟨tg_at 391 (by decide +kernel) rfl, tg_at 392 (by decide +kernel) rfl, tg_at 103 (by decide +kernel) rfl, tg_at 393 (by rfl) rfl, rfl, by decide, by decide, by decide +kernel⟩
set_option maxRecDepth 20000 in
theorem hY_Signs_equal : vY RX7 yX7_equal cX7_equal 5 (some .boolean) 2 := ⟨tg_at 681 (by decide +kernel) rfl, tg_at 682 (by decide +kernel) rfl, tg_at 103 (by decide +kernel) rfl, tg_at 683 (by rfl) rfl, rfl, by decide, by decide, by decide +kernel⟩
set_option maxRecDepth 20000 in
theorem hY_Signs_indexTypeOf : vY RX7 yX7_indexTypeOf cX7_indexTypeOf 3 (some .int) 1 := ⟨tg_at 518 (by decide +kernel) rfl, tg_at 519 (by decide +kernel) rfl, tg_at 103 (by decide +kernel) rfl, tg_at 520 (by rfl) rfl, rfl, by decide, by decide, by decide +kernel⟩
set_option maxRecDepth 20000 in
theorem hY_Signs_isConstant : vY RX7 yX7_isConstant cX7_isConstant 2 (some .boolean) 1 := ⟨tg_at 571 (by decide +kernel) rfl, tg_at 572 (by decide +kernel) rfl, tg_at 103 (by decide +kernel) rfl, tg_at 573 (by rfl) rfl, rfl, by decide, by decide, by decide +kernel⟩
set_option maxRecDepth 20000 in
theorem hY_Signs_isData : vY RX7 yX7_isData cX7_isData 4 (some .boolean) 1 := ⟨tg_at 451 (by decide +kernel) rfl, tg_at 452 (by decide +kernel) rfl, tg_at 103 (by decide +kernel) rfl, tg_at 453 (by rfl) rfl, rfl, by decide, by decide, by decide +kernel⟩
set_option maxRecDepth 20000 in
theorem hY_Signs_isFamily : vY RX7 yX7_isFamily cX7_isFamily 2 (some .boolean) 1 := ⟨tg_at 439 (by decide +kernel) rfl, tg_at 440 (by decide +kernel) rfl, tg_at 103 (by decide +kernel) rfl, tg_at 441 (by rfl) rfl, rfl, by decide, by decide, by decide +kernel⟩
set_option maxRecDepth 20000 in
theorem hY_Signs_partsOf : vY RX7 yX7_partsOf cX7_partsOf 3 (some .int) 1 := ⟨tg_at 464 (by decide +kernel) rfl, tg_at 5 (by decide +kernel) rfl, tg_at 103 (by decide +kernel) rfl, tg_at 465 (by rfl) rfl, rfl, by decide, by decide, by decide +kernel⟩
set_option maxRecDepth 20000 in
theorem hY_Values_apply : vY RX8 yX8_apply cX8_apply 4 (some .int) 3 := ⟨tg_at 567 (by decide +kernel) rfl, tg_at 15 (by decide +kernel) rfl, tg_at 104 (by decide +kernel) rfl, tg_at 568 (by rfl) rfl, rfl, by decide, by decide, by decide +kernel⟩
set_option maxRecDepth 20000 in
theorem hY_Values_constantOf : vY RX8 yX8_constantOf cX8_constantOf 2 (some .int) 1 := ⟨tg_at 575 (by decide +kernel) rfl, tg_at 576 (by decide +kernel) rfl, tg_at 104 (by decide +kernel) rfl, tg_at 577 (by rfl) rfl, rfl, by decide, by decide, by decide +kernel⟩
set_option maxRecDepth 20000 in
theorem hY_Values_evaluate : vY RX8 yX8_evaluate cX8_evaluate 9 (some .int) 3 := ⟨tg_at 553 (by decide +kernel) rfl, tg_at 14 (by decide +kernel) rfl, tg_at 104 (by decide +kernel) rfl, tg_at 554 (by rfl) rfl, rfl, by decide, by decide, by decide +kernel⟩
set_option maxRecDepth 20000 in
theorem hY_Values_extended : vY RX8 yX8_extended cX8_extended 3 (some .int) 2 := ⟨tg_at 487 (by decide +kernel) rfl, tg_at 488 (by decide +kernel) rfl, tg_at 104 (by decide +kernel) rfl, tg_at 489 (by rfl) rfl, rfl, by decide, by decide, by decide +kernel⟩
set_option maxRecDepth 20000 in
theorem hY_Values_firstOf : vY RX8 yX8_firstOf cX8_firstOf 2 (some .int) 1 := ⟨tg_at 558 (by decide +kernel) rfl, tg_at 559 (by decide +kernel) rfl, tg_at 104 (by decide +kernel) rfl, tg_at 560 (by rfl) rfl, rfl, by decide, by decide, by decide +kernel⟩
set_option maxRecDepth 20000 in
theorem hY_Values_firstType : vY RX8 yX8_firstType cX8_firstType 2 (some .int) 1 := ⟨tg_at 543 (by decide +kernel) rfl, tg_at 544 (by decide +kernel) rfl, tg_at 104 (by decide +kernel) rfl, tg_at 545 (by rfl) rfl, rfl, by decide, by decide, by decide +kernel⟩
set_option maxRecDepth 20000 in
theorem hY_Values_formOf : vY RX8 yX8_formOf cX8_formOf 2 (some .int) 1 := ⟨tg_at 526 (by decide +kernel) rfl, tg_at 527 (by decide +kernel) rfl, tg_at 104 (by decide +kernel) rfl, tg_at 528 (by rfl) rfl, rfl, by decide, by decide, by decide +kernel⟩
set_option maxRecDepth 20000 in
theorem hY_Values_kindOf : vY RX8 yX8_kindOf cX8_kindOf 2 (some .int) 1 := ⟨tg_at 530 (by decide +kernel) rfl, tg_at 531 (by decide +kernel) rfl, tg_at 104 (by decide +kernel) rfl, tg_at 532 (by rfl) rfl, rfl, by decide, by decide, by decide +kernel⟩
set_option maxRecDepth 20000 in
theorem hY_Values_leftOf : vY RX8 yX8_leftOf cX8_leftOf 2 (some .int) 1 := ⟨tg_at 534 (by decide +kernel) rfl, tg_at 535 (by decide +kernel) rfl, tg_at 104 (by decide +kernel) rfl, tg_at 536 (by rfl) rfl, rfl, by decide, by decide, by decide +kernel⟩
set_option maxRecDepth 20000 in
theorem hY_Values_make : vY RX8 yX8_make cX8_make 4 (some .int) 3 := ⟨tg_at 476 (by decide +kernel) rfl, tg_at 7 (by decide +kernel) rfl, tg_at 104 (by decide +kernel) rfl, tg_at 477 (by rfl) rfl, rfl, by decide, by decide, by decide +kernel⟩
set_option maxRecDepth 20000 in
theorem hY_Values_newVariable : vY RX8 yX8_newVariable cX8_newVariable 3 (some .int) 2 := ⟨tg_at 483 (by decide +kernel) rfl, tg_at 484 (by decide +kernel) rfl, tg_at 104 (by decide +kernel) rfl, tg_at 485 (by rfl) rfl, rfl, by decide, by decide, by decide +kernel⟩
set_option maxRecDepth 20000 in
theorem hY_Values_release : vY RX8 yX8_release cX8_release 2 none 1 := ⟨tg_at 415 (by decide +kernel) rfl, tg_at 416 (by decide +kernel) rfl, tg_at 104 (by decide +kernel) rfl, tg_at 417 (by rfl) rfl, rfl, by decide, by decide, by decide +kernel⟩
set_option maxRecDepth 20000 in
theorem hY_Values_rightOf : vY RX8 yX8_rightOf cX8_rightOf 2 (some .int) 1 := ⟨tg_at 547 (by decide +kernel) rfl, tg_at 548 (by decide +kernel) rfl, tg_at 104 (by decide +kernel) rfl, tg_at 549 (by rfl) rfl, rfl, by decide, by decide, by decide +kernel⟩
set_option maxRecDepth 20000 in
theorem hY_Values_secondOf : vY RX8 yX8_secondOf cX8_secondOf 2 (some .int) 1 := ⟨tg_at 562 (by decide +kernel) rfl, tg_at 563 (by decide +kernel) rfl, tg_at 104 (by decide +kernel) rfl, tg_at 564 (by rfl) rfl, rfl, by decide, by decide, by decide +kernel⟩
set_option maxRecDepth 20000 in
theorem hY_Values_secondType : vY RX8 yX8_secondType cX8_secondType 4 (some .int) 2 := ⟨tg_at 583 (by decide +kernel) rfl, tg_at 584 (by decide +kernel) rfl, tg_at 104 (by decide +kernel) rfl, tg_at 585 (by rfl) rfl, rfl, by decide, by decide, by decide +kernel⟩
set_option maxRecDepth 20000 in
theorem hY_Values_typeAt : vY RX8 yX8_typeAt cX8_typeAt 3 (some .int) 2 := ⟨tg_at 471 (by decide +kernel) rfl, tg_at 472 (by decide +kernel) rfl, tg_at 104 (by decide +kernel) rfl, tg_at 473 (by rfl) rfl, rfl, by decide, by decide, by decide +kernel⟩
set_option maxRecDepth 20000 in
theorem hY_Values_typeOfConstant : vY RX8 yX8_typeOfConstant cX8_typeOfConstant 2 (some .int) 1 := ⟨tg_at 637 (by decide +kernel) rfl, tg_at 638 (by decide +kernel) rfl, tg_at 104 (by decide +kernel) rfl, tg_at 639 (by rfl) rfl, rfl, by decide, by decide, by decide +kernel⟩
set_option maxRecDepth 20000 in
theorem hY_Values_typeOfVariable : vY RX8 yX8_typeOfVariable cX8_typeOfVariable 2 (some .int) 1 := ⟨tg_at 631 (by decide +kernel) rfl, tg_at 632 (by decide +kernel) rfl, tg_at 104 (by decide +kernel) rfl, tg_at 633 (by rfl) rfl, rfl, by decide, by decide, by decide +kernel⟩
set_option maxRecDepth 20000 in
theorem hY_Values_variableIn : vY RX8 yX8_variableIn cX8_variableIn 6 (some .int) 2 := ⟨tg_at 579 (by decide +kernel) rfl, tg_at 580 (by decide +kernel) rfl, tg_at 104 (by decide +kernel) rfl, tg_at 581 (by rfl) rfl, rfl, by decide, by decide, by decide +kernel⟩
set_option maxRecDepth 20000 in
theorem hY_Writer_begin : vY RX9 yX9_begin cX9_begin 1 none 0 := ⟨tg_at 499 (by decide +kernel) rfl, tg_at 500 (by decide +kernel) rfl, tg_at 106 (by decide +kernel) rfl, tg_at 501 (by rfl) rfl, rfl, by decide, by decide, by decide +kernel⟩
set_option maxRecDepth 20000 in
theorem hY_Writer_bound : vY RX9 yX9_bound cX9_bound 3 (some .int) 2 := ⟨tg_at 655 (by decide +kernel) rfl, tg_at 26 (by decide +kernel) rfl, tg_at 106 (by decide +kernel) rfl, tg_at 656 (by rfl) rfl, rfl, by decide, by decide, by decide +kernel⟩
set_option maxRecDepth 20000 in
theorem hY_Writer_join : vY RX9 yX9_join cX9_join 4 (some .int) 3 := ⟨tg_at 495 (by decide +kernel) rfl, tg_at 496 (by decide +kernel) rfl, tg_at 106 (by decide +kernel) rfl, tg_at 497 (by rfl) rfl, rfl, by decide, by decide, by decide +kernel⟩
set_option maxRecDepth 20000 in
theorem hY_Writer_put : vY RX9 yX9_put cX9_put 2 none 1 := ⟨tg_at 504 (by decide +kernel) rfl, tg_at 10 (by decide +kernel) rfl, tg_at 106 (by decide +kernel) rfl, tg_at 505 (by rfl) rfl, rfl, by decide, by decide, by decide +kernel⟩
set_option maxRecDepth 20000 in
theorem hY_Writer_putCopy : vY RX9 yX9_putCopy cX9_putCopy 4 none 1 := ⟨tg_at 509 (by decide +kernel) rfl, tg_at 11 (by decide +kernel) rfl, tg_at 106 (by decide +kernel) rfl, tg_at 510 (by rfl) rfl, rfl, by decide, by decide, by decide +kernel⟩
set_option maxRecDepth 20000 in
theorem hY_Writer_putLeft : vY RX9 yX9_putLeft cX9_putLeft 7 (some .int) 2 := ⟨tg_at 673 (by decide +kernel) rfl, tg_at 28 (by decide +kernel) rfl, tg_at 106 (by decide +kernel) rfl, tg_at 674 (by rfl) rfl, rfl, by decide, by decide, by decide +kernel⟩
set_option maxRecDepth 20000 in
theorem hY_Writer_putTerm : vY RX9 yX9_putTerm cX9_putTerm 7 none 3 := ⟨tg_at 666 (by decide +kernel) rfl, tg_at 27 (by decide +kernel) rfl, tg_at 106 (by decide +kernel) rfl, tg_at 667 (by rfl) rfl, rfl, by decide, by decide, by decide +kernel⟩
set_option maxRecDepth 20000 in
theorem hY_Writer_putType : vY RX9 yX9_putType cX9_putType 7 none 2 := ⟨tg_at 648 (by decide +kernel) rfl, tg_at 25 (by decide +kernel) rfl, tg_at 106 (by decide +kernel) rfl, tg_at 649 (by rfl) rfl, rfl, by decide, by decide, by decide +kernel⟩
set_option maxRecDepth 20000 in
theorem hY_Writer_written : vY RX9 yX9_written cX9_written 1 (some .int) 0 := ⟨tg_at 514 (by decide +kernel) rfl, tg_at 515 (by decide +kernel) rfl, tg_at 106 (by decide +kernel) rfl, tg_at 516 (by rfl) rfl, rfl, by decide, by decide, by decide +kernel⟩
set_option maxRecDepth 20000 in
theorem hY_J_back : vY RX10 yX10_back cX10_back 2 (some .int) 1 := ⟨tg_at 889 (by decide +kernel) rfl, tg_at 890 (by decide +kernel) rfl, tg_at 98 (by decide +kernel) rfl, tg_at 891 (by rfl) rfl, rfl, by decide, by decide, by decide +kernel⟩
set_option maxRecDepth 20000 in
theorem hY_J_clear : vY RX10 yX10_clear cX10_clear 2 (some .int) 0 := ⟨tg_at 371 (by decide +kernel) rfl, tg_at 372 (by decide +kernel) rfl, tg_at 98 (by decide +kernel) rfl, tg_at 373 (by rfl) rfl, rfl, by decide, by decide, by decide +kernel⟩
set_option maxRecDepth 20000 in
theorem hY_J_count : vY RX10 yX10_count cX10_count 2 (some .int) 1 := ⟨tg_at 893 (by decide +kernel) rfl, tg_at 894 (by decide +kernel) rfl, tg_at 98 (by decide +kernel) rfl, tg_at 895 (by rfl) rfl, rfl, by decide, by decide, by decide +kernel⟩
set_option maxRecDepth 20000 in
theorem hY_J_drops : vY RX10 yX10_drops cX10_drops 2 (some .int) 1 := ⟨tg_at 829 (by decide +kernel) rfl, tg_at 830 (by decide +kernel) rfl, tg_at 98 (by decide +kernel) rfl, tg_at 831 (by rfl) rfl, rfl, by decide, by decide, by decide +kernel⟩
set_option maxRecDepth 20000 in
theorem hY_J_entry : vY RX10 yX10_entry cX10_entry 6 (some .int) 3 := ⟨tg_at 846 (by decide +kernel) rfl, tg_at 847 (by decide +kernel) rfl, tg_at 98 (by decide +kernel) rfl, tg_at 848 (by rfl) rfl, rfl, by decide, by decide, by decide +kernel⟩
set_option maxRecDepth 20000 in
theorem hY_J_forget : vY RX10 yX10_forget cX10_forget 2 (some .int) 0 := ⟨tg_at 871 (by decide +kernel) rfl, tg_at 872 (by decide +kernel) rfl, tg_at 98 (by decide +kernel) rfl, tg_at 873 (by rfl) rfl, rfl, by decide, by decide, by decide +kernel⟩
set_option maxRecDepth 20000 in
theorem hY_J_found : vY RX10 yX10_found cX10_found 2 (some .int) 1 := ⟨tg_at 773 (by decide +kernel) rfl, tg_at 774 (by decide +kernel) rfl, tg_at 98 (by decide +kernel) rfl, tg_at 775 (by rfl) rfl, rfl, by decide, by decide, by decide +kernel⟩
set_option maxRecDepth 20000 in
theorem hY_J_given : vY RX10 yX10_given cX10_given 2 (some .int) 1 := ⟨tg_at 757 (by decide +kernel) rfl, tg_at 758 (by decide +kernel) rfl, tg_at 98 (by decide +kernel) rfl, tg_at 759 (by rfl) rfl, rfl, by decide, by decide, by decide +kernel⟩
set_option maxRecDepth 20000 in
theorem hY_J_keep : vY RX10 yX10_keep cX10_keep 2 (some .int) 1 := ⟨tg_at 884 (by decide +kernel) rfl, tg_at 885 (by decide +kernel) rfl, tg_at 98 (by decide +kernel) rfl, tg_at 886 (by rfl) rfl, rfl, by decide, by decide, by decide +kernel⟩
set_option maxRecDepth 20000 in
theorem hY_J_law : vY RX10 yX10_law cX10_law 5 (some .int) 3 := ⟨tg_at 750 (by decide +kernel) rfl, tg_at 751 (by decide +kernel) rfl, tg_at 98 (by decide +kernel) rfl, tg_at 752 (by rfl) rfl, rfl, by decide, by decide, by decide +kernel⟩
set_option maxRecDepth 20000 in
theorem hY_J_like : vY RX10 yX10_like cX10_like 5 (some .int) 2 := ⟨tg_at 850 (by decide +kernel) rfl, tg_at 851 (by decide +kernel) rfl, tg_at 98 (by decide +kernel) rfl, tg_at 852 (by rfl) rfl, rfl, by decide, by decide, by decide +kernel⟩
set_option maxRecDepth 20000 in
theorem hY_J_same : vY RX10 yX10_same cX10_same 1 (some .int) 0 := ⟨tg_at 781 (by decide +kernel) rfl, tg_at 782 (by decide +kernel) rfl, tg_at 98 (by decide +kernel) rfl, tg_at 783 (by rfl) rfl, rfl, by decide, by decide, by decide +kernel⟩
set_option maxRecDepth 20000 in
theorem hY_J_type : vY RX10 yX10_type cX10_type 2 (some .int) 1 := ⟨tg_at 367 (by decide +kernel) rfl, tg_at 368 (by decide +kernel) rfl, tg_at 98 (by decide +kernel) rfl, tg_at 369 (by rfl) rfl, rfl, by decide, by decide, by decide +kernel⟩
set_option maxRecDepth 20000 in
theorem hY_J_undo : vY RX10 yX10_undo cX10_undo 1 (some .int) 0 := ⟨tg_at 838 (by decide +kernel) rfl, tg_at 839 (by decide +kernel) rfl, tg_at 98 (by decide +kernel) rfl, tg_at 840 (by rfl) rfl, rfl, by decide, by decide, by decide +kernel⟩
set_option maxRecDepth 20000 in
theorem hY_J_unseen : vY RX10 yX10_unseen cX10_unseen 4 (some .int) 0 := ⟨tg_at 875 (by decide +kernel) rfl, tg_at 876 (by decide +kernel) rfl, tg_at 98 (by decide +kernel) rfl, tg_at 877 (by rfl) rfl, rfl, by decide, by decide, by decide +kernel⟩
