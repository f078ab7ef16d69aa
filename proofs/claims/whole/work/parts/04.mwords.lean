set_option maxRecDepth 20000 in
theorem iI_1 : isI 1 := ⟨by decide, by decide, rfl⟩
set_option maxRecDepth 20000 in
theorem iI_2 : isI 2 := ⟨by decide, by decide, rfl⟩
set_option maxRecDepth 20000 in
theorem iI_4 : isI 4 := ⟨by decide, by decide, rfl⟩
set_option maxRecDepth 20000 in
theorem iI_5 : isI 5 := ⟨by decide, by decide, rfl⟩
set_option maxRecDepth 20000 in
theorem iI_6 : isI 6 := ⟨by decide, by decide, rfl⟩
set_option maxRecDepth 20000 in
theorem iI_7 : isI 7 := ⟨by decide, by decide, rfl⟩
set_option maxRecDepth 20000 in
theorem iI_8 : isI 8 := ⟨by decide, by decide, rfl⟩
set_option maxRecDepth 20000 in
theorem iI_9 : isI 9 := ⟨by decide, by decide, rfl⟩
set_option maxRecDepth 20000 in
theorem iI_11 : isI 11 := ⟨by decide, by decide, rfl⟩
set_option maxRecDepth 20000 in
theorem iI_12 : isI 12 := ⟨by decide, by decide, rfl⟩
set_option maxRecDepth 20000 in
theorem iI_13 : isI 13 := ⟨by decide, by decide, rfl⟩
set_option maxRecDepth 20000 in
theorem iI_14 : isI 14 := ⟨by decide, by decide, rfl⟩
set_option maxRecDepth 20000 in
theorem iI_15 : isI 15 := ⟨by decide, by decide, rfl⟩
set_option maxRecDepth 20000 in
theorem iI_16 : isI 16 := ⟨by decide, by decide, rfl⟩
set_option maxRecDepth 20000 in
theorem iI_17 : isI 17 := ⟨by decide, by decide, rfl⟩
set_option maxRecDepth 20000 in
theorem iI_18 : isI 18 := ⟨by decide, by decide, rfl⟩
set_option maxRecDepth 20000 in
theorem iI_19 : isI 19 := ⟨by decide, by decide, rfl⟩
set_option maxRecDepth 20000 in
theorem iI_20 : isI 20 := ⟨by decide, by decide, rfl⟩
set_option maxRecDepth 20000 in
theorem iI_21 : isI 21 := ⟨by decide, by decide, rfl⟩
set_option maxRecDepth 20000 in
theorem iI_22 : isI 22 := ⟨by decide, by decide, rfl⟩
set_option maxRecDepth 20000 in
theorem iI_23 : isI 23 := ⟨by decide, by decide, rfl⟩
set_option maxRecDepth 20000 in
theorem iI_24 : isI 24 := ⟨by decide, by decide, rfl⟩
set_option maxRecDepth 20000 in
theorem iI_25 : isI 25 := ⟨by decide, by decide, rfl⟩
set_option maxRecDepth 20000 in
theorem iI_26 : isI 26 := ⟨by decide, by decide, rfl⟩
set_option maxRecDepth 20000 in
theorem iI_27 : isI 27 := ⟨by decide, by decide, rfl⟩
set_option maxRecDepth 20000 in
theorem iI_28 : isI 28 := ⟨by decide, by decide, rfl⟩
set_option maxRecDepth 20000 in
theorem iI_29 : isI 29 := ⟨by decide, by decide, rfl⟩
set_option maxRecDepth 20000 in
theorem iI_30 : isI 30 := ⟨by decide, by decide, rfl⟩
set_option maxRecDepth 20000 in
theorem iI_31 : isI 31 := ⟨by decide, by decide, rfl⟩
set_option maxRecDepth 20000 in
theorem iI_32 : isI 32 := ⟨by decide, by decide, rfl⟩
set_option maxRecDepth 20000 in
theorem fl_7 : fR 7 0 1 := ⟨by decide, rfl, by decide, rfl, tg_at 906 (by decide +kernel) rfl⟩
set_option maxRecDepth 20000 in
theorem fl_13 : fR 13 2 2 := ⟨by decide, rfl, by decide, rfl, tg_at 908 (by decide +kernel) rfl⟩
set_option maxRecDepth 20000 in
theorem fl_16 : fR 16 6 3 := ⟨by decide, rfl, by decide, rfl, tg_at 912 (by decide +kernel) rfl⟩
set_option maxRecDepth 20000 in
theorem fl_20 : fR 20 11 4 := ⟨by decide, rfl, by decide, rfl, tg_at 917 (by decide +kernel) rfl⟩
set_option maxRecDepth 20000 in
theorem fl_23 : fR 23 12 5 := ⟨by decide, rfl, by decide, rfl, tg_at 918 (by decide +kernel) rfl⟩
set_option maxRecDepth 20000 in
theorem fl_26 : fR 26 13 6 := ⟨by decide, rfl, by decide, rfl, tg_at 919 (by decide +kernel) rfl⟩
set_option maxRecDepth 20000 in
theorem fl_29 : fR 29 14 7 := ⟨by decide, rfl, by decide, rfl, tg_at 920 (by decide +kernel) rfl⟩
set_option maxRecDepth 20000 in
theorem fl_32 : fR 32 16 8 := ⟨by decide, rfl, by decide, rfl, tg_at 922 (by decide +kernel) rfl⟩
set_option maxRecDepth 20000 in
theorem fl_35 : fR 35 17 9 := ⟨by decide, rfl, by decide, rfl, tg_at 923 (by decide +kernel) rfl⟩
set_option maxRecDepth 20000 in
theorem fl_38 : fR 38 18 10 := ⟨by decide, rfl, by decide, rfl, tg_at 924 (by decide +kernel) rfl⟩
set_option maxRecDepth 20000 in
theorem fl_42 : fR 42 20 11 := ⟨by decide, rfl, by decide, rfl, tg_at 926 (by decide +kernel) rfl⟩
set_option maxRecDepth 20000 in
theorem fl_45 : fI 45 21 := ⟨by decide, rfl, rfl, rfl, by decide +kernel, tg_at 927 (by decide +kernel) rfl⟩
set_option maxRecDepth 20000 in
theorem fl_49 : fR 49 22 12 := ⟨by decide, rfl, by decide, rfl, tg_at 928 (by decide +kernel) rfl⟩
set_option maxRecDepth 20000 in
theorem fl_52 : fR 52 23 13 := ⟨by decide, rfl, by decide, rfl, tg_at 929 (by decide +kernel) rfl⟩
set_option maxRecDepth 20000 in
theorem fl_55 : fR 55 25 14 := ⟨by decide, rfl, by decide, rfl, tg_at 931 (by decide +kernel) rfl⟩
set_option maxRecDepth 20000 in
theorem fl_58 : fR 58 26 15 := ⟨by decide, rfl, by decide, rfl, tg_at 932 (by decide +kernel) rfl⟩
set_option maxRecDepth 20000 in
theorem fl_61 : fR 61 28 16 := ⟨by decide, rfl, by decide, rfl, tg_at 934 (by decide +kernel) rfl⟩
set_option maxRecDepth 20000 in
theorem fl_64 : fR 64 29 17 := ⟨by decide, rfl, by decide, rfl, tg_at 935 (by decide +kernel) rfl⟩
set_option maxRecDepth 20000 in
theorem fl_67 : fR 67 30 18 := ⟨by decide, rfl, by decide, rfl, tg_at 936 (by decide +kernel) rfl⟩
set_option maxRecDepth 20000 in
theorem fl_70 : fR 70 31 19 := ⟨by decide, rfl, by decide, rfl, tg_at 937 (by decide +kernel) rfl⟩
set_option maxRecDepth 20000 in
theorem fl_73 : fR 73 32 20 := ⟨by decide, rfl, by decide, rfl, tg_at 938 (by decide +kernel) rfl⟩
set_option maxRecDepth 20000 in
theorem fl_76 : fR 76 33 21 := ⟨by decide, rfl, by decide, rfl, tg_at 939 (by decide +kernel) rfl⟩
set_option maxRecDepth 20000 in
theorem fl_79 : fR 79 34 22 := ⟨by decide, rfl, by decide, rfl, tg_at 940 (by decide +kernel) rfl⟩
set_option maxRecDepth 20000 in
theorem fl_82 : fR 82 35 23 := ⟨by decide, rfl, by decide, rfl, tg_at 941 (by decide +kernel) rfl⟩
set_option maxRecDepth 20000 in
theorem fl_85 : fR 85 36 24 := ⟨by decide, rfl, by decide, rfl, tg_at 942 (by decide +kernel) rfl⟩
set_option maxRecDepth 20000 in
theorem fl_88 : fR 88 37 25 := ⟨by decide, rfl, by decide, rfl, tg_at 943 (by decide +kernel) rfl⟩
set_option maxRecDepth 20000 in
theorem fl_91 : fR 91 38 26 := ⟨by decide, rfl, by decide, rfl, tg_at 944 (by decide +kernel) rfl⟩
set_option maxRecDepth 20000 in
theorem fl_94 : fR 94 39 27 := ⟨by decide, rfl, by decide, rfl, tg_at 945 (by decide +kernel) rfl⟩
set_option maxRecDepth 20000 in
theorem fl_97 : fR 97 40 28 := ⟨by decide, rfl, by decide, rfl, tg_at 946 (by decide +kernel) rfl⟩
set_option maxRecDepth 20000 in
theorem fl_100 : fR 100 41 29 := ⟨by decide, rfl, by decide, rfl, tg_at 947 (by decide +kernel) rfl⟩
set_option maxRecDepth 20000 in
theorem fl_103 : fR 103 42 30 := ⟨by decide, rfl, by decide, rfl, tg_at 948 (by decide +kernel) rfl⟩
set_option maxRecDepth 20000 in
theorem fl_106 : fR 106 43 31 := ⟨by decide, rfl, by decide, rfl, tg_at 949 (by decide +kernel) rfl⟩
set_option maxRecDepth 20000 in
theorem fl_109 : fR 109 51 32 := ⟨by decide, rfl, by decide, rfl, tg_at 957 (by decide +kernel) rfl⟩
set_option maxRecDepth 20000 in
theorem fl_112 : fR 112 61 33 := ⟨by decide, rfl, by decide, rfl, tg_at 967 (by decide +kernel) rfl⟩
set_option maxRecDepth 20000 in
theorem fl_133 : fI 133 1 := ⟨by decide, rfl, rfl, rfl, by decide +kernel, tg_at 907 (by decide +kernel) rfl⟩
set_option maxRecDepth 20000 in
theorem fl_140 : fI 140 19 := ⟨by decide, rfl, rfl, rfl, by decide +kernel, tg_at 925 (by decide +kernel) rfl⟩
set_option maxRecDepth 20000 in
theorem fl_171 : fI 171 24 := ⟨by decide, rfl, rfl, rfl, by decide +kernel, tg_at 930 (by decide +kernel) rfl⟩
set_option maxRecDepth 20000 in
theorem fl_186 : fZ 186 27 := ⟨by decide, rfl, rfl, rfl, by decide +kernel, tg_at 933 (by decide +kernel) rfl⟩
set_option maxRecDepth 20000 in
theorem fl_210 : fI 210 57 := ⟨by decide, rfl, rfl, rfl, by decide +kernel, tg_at 963 (by decide +kernel) rfl⟩
set_option maxRecDepth 20000 in
theorem fl_213 : fI 213 56 := ⟨by decide, rfl, rfl, rfl, by decide +kernel, tg_at 962 (by decide +kernel) rfl⟩
set_option maxRecDepth 20000 in
theorem fl_216 : fI 216 3 := ⟨by decide, rfl, rfl, rfl, by decide +kernel, tg_at 909 (by decide +kernel) rfl⟩
set_option maxRecDepth 20000 in
theorem fl_219 : fI 219 44 := ⟨by decide, rfl, rfl, rfl, by decide +kernel, tg_at 950 (by decide +kernel) rfl⟩
set_option maxRecDepth 20000 in
theorem fl_222 : fI 222 46 := ⟨by decide, rfl, rfl, rfl, by decide +kernel, tg_at 952 (by decide +kernel) rfl⟩
set_option maxRecDepth 20000 in
theorem fl_225 : fI 225 47 := ⟨by decide, rfl, rfl, rfl, by decide +kernel, tg_at 953 (by decide +kernel) rfl⟩
set_option maxRecDepth 20000 in
theorem fl_228 : fI 228 48 := ⟨by decide, rfl, rfl, rfl, by decide +kernel, tg_at 954 (by decide +kernel) rfl⟩
set_option maxRecDepth 20000 in
theorem fl_231 : fI 231 49 := ⟨by decide, rfl, rfl, rfl, by decide +kernel, tg_at 955 (by decide +kernel) rfl⟩
set_option maxRecDepth 20000 in
theorem fl_234 : fI 234 50 := ⟨by decide, rfl, rfl, rfl, by decide +kernel, tg_at 956 (by decide +kernel) rfl⟩
set_option maxRecDepth 20000 in
theorem fl_237 : fZ 237 45 := ⟨by decide, rfl, rfl, rfl, by decide +kernel, tg_at 951 (by decide +kernel) rfl⟩
set_option maxRecDepth 20000 in
theorem fl_243 : fI 243 52 := ⟨by decide, rfl, rfl, rfl, by decide +kernel, tg_at 958 (by decide +kernel) rfl⟩
set_option maxRecDepth 20000 in
theorem fl_246 : fI 246 53 := ⟨by decide, rfl, rfl, rfl, by decide +kernel, tg_at 959 (by decide +kernel) rfl⟩
set_option maxRecDepth 20000 in
theorem fl_249 : fI 249 54 := ⟨by decide, rfl, rfl, rfl, by decide +kernel, tg_at 960 (by decide +kernel) rfl⟩
set_option maxRecDepth 20000 in
theorem fl_252 : fI 252 55 := ⟨by decide, rfl, rfl, rfl, by decide +kernel, tg_at 961 (by decide +kernel) rfl⟩
set_option maxRecDepth 20000 in
theorem fl_268 : fI 268 4 := ⟨by decide, rfl, rfl, rfl, by decide +kernel, tg_at 910 (by decide +kernel) rfl⟩
set_option maxRecDepth 20000 in
theorem fl_271 : fI 271 7 := ⟨by decide, rfl, rfl, rfl, by decide +kernel, tg_at 913 (by decide +kernel) rfl⟩
set_option maxRecDepth 20000 in
theorem fl_294 : fI 294 9 := ⟨by decide, rfl, rfl, rfl, by decide +kernel, tg_at 915 (by decide +kernel) rfl⟩
set_option maxRecDepth 20000 in
theorem fl_313 : fI 313 5 := ⟨by decide, rfl, rfl, rfl, by decide +kernel, tg_at 911 (by decide +kernel) rfl⟩
set_option maxRecDepth 20000 in
theorem fl_364 : fI 364 8 := ⟨by decide, rfl, rfl, rfl, by decide +kernel, tg_at 914 (by decide +kernel) rfl⟩
set_option maxRecDepth 20000 in
theorem fl_376 : fI 376 58 := ⟨by decide, rfl, rfl, rfl, by decide +kernel, tg_at 964 (by decide +kernel) rfl⟩
set_option maxRecDepth 20000 in
theorem fl_382 : fI 382 59 := ⟨by decide, rfl, rfl, rfl, by decide +kernel, tg_at 965 (by decide +kernel) rfl⟩
set_option maxRecDepth 20000 in
theorem fl_385 : fI 385 60 := ⟨by decide, rfl, rfl, rfl, by decide +kernel, tg_at 966 (by decide +kernel) rfl⟩
set_option maxRecDepth 20000 in
theorem fl_404 : fI 404 10 := ⟨by decide, rfl, rfl, rfl, by decide +kernel, tg_at 916 (by decide +kernel) rfl⟩
set_option maxRecDepth 20000 in
theorem fl_407 : fI 407 15 := ⟨by decide, rfl, rfl, rfl, by decide +kernel, tg_at 921 (by decide +kernel) rfl⟩
set_option maxRecDepth 20000 in
theorem cl_143 : Cond.constantLong RX11 143 15 ∈ tg := tg_at 1222 (by decide +kernel) rfl
set_option maxRecDepth 20000 in
theorem cl_145 : Cond.constantLong RX11 145 65535 ∈ tg := tg_at 1227 (by decide +kernel) rfl
set_option maxRecDepth 20000 in
theorem ml_115 : Cond.methodLink RX11 115 yX11_lays ∈ tg := tg_at 902 (by decide +kernel) rfl
set_option maxRecDepth 20000 in
theorem ml_119 : Cond.methodLink RX11 119 yX11_isFamily ∈ tg := tg_at 1153 (by decide +kernel) rfl
set_option maxRecDepth 20000 in
theorem ml_123 : Cond.methodLink RX11 123 yX11_partsOf ∈ tg := tg_at 1176 (by decide +kernel) rfl
set_option maxRecDepth 20000 in
theorem ml_127 : Cond.methodLink RX11 127 yX11_behind ∈ tg := tg_at 1172 (by decide +kernel) rfl
set_option maxRecDepth 20000 in
theorem ml_130 : Cond.methodLink RX11 130 yX11_longOf ∈ tg := tg_at 1168 (by decide +kernel) rfl
set_option maxRecDepth 20000 in
theorem ml_136 : Cond.methodLink RX11 136 yX11_puts ∈ tg := tg_at 1160 (by decide +kernel) rfl
set_option maxRecDepth 20000 in
theorem ml_147 : Cond.methodLink RX11 147 yX11_bring ∈ tg := tg_at 1196 (by decide +kernel) rfl
set_option maxRecDepth 20000 in
theorem ml_151 : Cond.methodLink RX11 151 yX11_sortOf ∈ tg := tg_at 1218 (by decide +kernel) rfl
set_option maxRecDepth 20000 in
theorem ml_154 : Cond.methodLink RX11 154 yX11_aOf ∈ tg := tg_at 1223 (by decide +kernel) rfl
set_option maxRecDepth 20000 in
theorem ml_157 : Cond.methodLink RX11 157 yX11_bOf ∈ tg := tg_at 1228 (by decide +kernel) rfl
set_option maxRecDepth 20000 in
theorem ml_160 : Cond.methodLink RX11 160 yX11_isOpen ∈ tg := tg_at 1207 (by decide +kernel) rfl
set_option maxRecDepth 20000 in
theorem ml_163 : Cond.methodLink RX11 163 yX11_valueAt ∈ tg := tg_at 1210 (by decide +kernel) rfl
set_option maxRecDepth 20000 in
theorem ml_167 : Cond.methodLink RX11 167 yX11_taken ∈ tg := tg_at 1214 (by decide +kernel) rfl
set_option maxRecDepth 20000 in
theorem ml_174 : Cond.methodLink RX11 174 yX11_levelOf ∈ tg := tg_at 1236 (by decide +kernel) rfl
set_option maxRecDepth 20000 in
theorem ml_177 : Cond.methodLink RX11 177 yX11_with ∈ tg := tg_at 1192 (by decide +kernel) rfl
set_option maxRecDepth 20000 in
theorem ml_180 : Cond.methodLink RX11 180 yX11_worksData ∈ tg := tg_at 1240 (by decide +kernel) rfl
set_option maxRecDepth 20000 in
theorem ml_183 : Cond.methodLink RX11 183 yX11_gives ∈ tg := tg_at 1232 (by decide +kernel) rfl
set_option maxRecDepth 20000 in
theorem ml_190 : Cond.methodLink RX11 190 yX11_tellsSign ∈ tg := tg_at 1248 (by decide +kernel) rfl
set_option maxRecDepth 20000 in
theorem ml_194 : Cond.methodLink RX11 194 yX11_checks ∈ tg := tg_at 1199 (by decide +kernel) rfl
set_option maxRecDepth 20000 in
theorem ml_197 : Cond.methodLink RX11 197 yX11_tells ∈ tg := tg_at 1244 (by decide +kernel) rfl
set_option maxRecDepth 20000 in
theorem ml_201 : Cond.methodLink RX11 201 yX11_told ∈ tg := tg_at 1252 (by decide +kernel) rfl
set_option maxRecDepth 20000 in
theorem ml_204 : Cond.methodLink RX11 204 yX11_works ∈ tg := tg_at 1203 (by decide +kernel) rfl
set_option maxRecDepth 20000 in
theorem ml_207 : Cond.methodLink RX11 207 yX11_spread ∈ tg := tg_at 1288 (by decide +kernel) rfl
set_option maxRecDepth 20000 in
theorem ml_240 : Cond.methodLink RX11 240 yX11_fails ∈ tg := tg_at 1125 (by decide +kernel) rfl
set_option maxRecDepth 20000 in
theorem ml_255 : Cond.methodLink RX11 255 yX11_typeBy ∈ tg := tg_at 1188 (by decide +kernel) rfl
set_option maxRecDepth 20000 in
theorem ml_258 : Cond.methodLink RX11 258 yX11_isSame ∈ tg := tg_at 1268 (by decide +kernel) rfl
set_option maxRecDepth 20000 in
theorem ml_262 : Cond.methodLink RX11 262 yX11_isNeeded ∈ tg := tg_at 1264 (by decide +kernel) rfl
set_option maxRecDepth 20000 in
theorem ml_265 : Cond.methodLink RX11 265 yX11_begins ∈ tg := tg_at 1149 (by decide +kernel) rfl
set_option maxRecDepth 20000 in
theorem ml_274 : Cond.methodLink RX11 274 yX11_dueTerm ∈ tg := tg_at 1156 (by decide +kernel) rfl
set_option maxRecDepth 20000 in
theorem ml_278 : Cond.methodLink RX11 278 yX11_endsType ∈ tg := tg_at 1164 (by decide +kernel) rfl
set_option maxRecDepth 20000 in
theorem ml_281 : Cond.methodLink RX11 281 yX11_typeNow ∈ tg := tg_at 1184 (by decide +kernel) rfl
set_option maxRecDepth 20000 in
theorem ml_284 : Cond.methodLink RX11 284 yX11_longBy ∈ tg := tg_at 1284 (by decide +kernel) rfl
set_option maxRecDepth 20000 in
theorem ml_287 : Cond.methodLink RX11 287 yX11_endsFound ∈ tg := tg_at 1260 (by decide +kernel) rfl
set_option maxRecDepth 20000 in
theorem ml_290 : Cond.methodLink RX11 290 yX11_here ∈ tg := tg_at 1117 (by decide +kernel) rfl
set_option maxRecDepth 20000 in
theorem ml_297 : Cond.methodLink RX11 297 yX11_in ∈ tg := tg_at 1098 (by decide +kernel) rfl
set_option maxRecDepth 20000 in
theorem ml_301 : Cond.methodLink RX11 301 yX11_toldValue ∈ tg := tg_at 1256 (by decide +kernel) rfl
set_option maxRecDepth 20000 in
theorem ml_304 : Cond.methodLink RX11 304 yX11_endsGiven ∈ tg := tg_at 1296 (by decide +kernel) rfl
set_option maxRecDepth 20000 in
theorem ml_307 : Cond.methodLink RX11 307 yX11_dueType ∈ tg := tg_at 1133 (by decide +kernel) rfl
set_option maxRecDepth 20000 in
theorem ml_310 : Cond.methodLink RX11 310 yX11_readsSimple ∈ tg := tg_at 1280 (by decide +kernel) rfl
set_option maxRecDepth 20000 in
theorem ml_316 : Cond.methodLink RX11 316 yX11_readsType ∈ tg := tg_at 1145 (by decide +kernel) rfl
set_option maxRecDepth 20000 in
theorem ml_319 : Cond.methodLink RX11 319 yX11_readsEntry ∈ tg := tg_at 1180 (by decide +kernel) rfl
set_option maxRecDepth 20000 in
theorem ml_322 : Cond.methodLink RX11 322 yX11_canStand ∈ tg := tg_at 1272 (by decide +kernel) rfl
set_option maxRecDepth 20000 in
theorem ml_325 : Cond.methodLink RX11 325 yX11_readsFound ∈ tg := tg_at 1276 (by decide +kernel) rfl
set_option maxRecDepth 20000 in
theorem ml_328 : Cond.methodLink RX11 328 yX11_readsGiven ∈ tg := tg_at 1292 (by decide +kernel) rfl
set_option maxRecDepth 20000 in
theorem ml_331 : Cond.methodLink RX11 331 yX11_putsForm ∈ tg := tg_at 1320 (by decide +kernel) rfl
set_option maxRecDepth 20000 in
theorem ml_334 : Cond.methodLink RX11 334 yX11_again ∈ tg := tg_at 1304 (by decide +kernel) rfl
set_option maxRecDepth 20000 in
theorem ml_337 : Cond.methodLink RX11 337 yX11_namesOne ∈ tg := tg_at 1308 (by decide +kernel) rfl
set_option maxRecDepth 20000 in
theorem ml_340 : Cond.methodLink RX11 340 yX11_isData ∈ tg := tg_at 1312 (by decide +kernel) rfl
set_option maxRecDepth 20000 in
theorem ml_343 : Cond.methodLink RX11 343 yX11_joined ∈ tg := tg_at 1316 (by decide +kernel) rfl
set_option maxRecDepth 20000 in
theorem ml_346 : Cond.methodLink RX11 346 yX11_valueOf ∈ tg := tg_at 1332 (by decide +kernel) rfl
set_option maxRecDepth 20000 in
theorem ml_349 : Cond.methodLink RX11 349 yX11_handsGiven ∈ tg := tg_at 1328 (by decide +kernel) rfl
set_option maxRecDepth 20000 in
theorem ml_352 : Cond.methodLink RX11 352 yX11_handsTaken ∈ tg := tg_at 1336 (by decide +kernel) rfl
set_option maxRecDepth 20000 in
theorem ml_355 : Cond.methodLink RX11 355 yX11_reads ∈ tg := tg_at 1141 (by decide +kernel) rfl
set_option maxRecDepth 20000 in
theorem ml_358 : Cond.methodLink RX11 358 yX11_handsType ∈ tg := tg_at 1300 (by decide +kernel) rfl
set_option maxRecDepth 20000 in
theorem ml_361 : Cond.methodLink RX11 361 yX11_handsTerm ∈ tg := tg_at 1324 (by decide +kernel) rfl
set_option maxRecDepth 20000 in
theorem ml_367 : Cond.methodLink RX11 367 yX11_readsWhole ∈ tg := tg_at 1137 (by decide +kernel) rfl
set_option maxRecDepth 20000 in
theorem ml_370 : Cond.methodLink RX11 370 yX11_starts ∈ tg := tg_at 1113 (by decide +kernel) rfl
set_option maxRecDepth 20000 in
theorem ml_373 : Cond.methodLink RX11 373 yX11_wholeType ∈ tg := tg_at 1129 (by decide +kernel) rfl
set_option maxRecDepth 20000 in
theorem ml_379 : Cond.methodLink RX11 379 yX11_wholeGiven ∈ tg := tg_at 1368 (by decide +kernel) rfl
set_option maxRecDepth 20000 in
theorem ml_388 : Cond.methodLink RX11 388 yX11_wants ∈ tg := tg_at 1348 (by decide +kernel) rfl
set_option maxRecDepth 20000 in
theorem ml_392 : Cond.methodLink RX11 392 yX11_toSlot ∈ tg := tg_at 1340 (by decide +kernel) rfl
set_option maxRecDepth 20000 in
theorem ml_395 : Cond.methodLink RX11 395 yX11_nextFamily ∈ tg := tg_at 1121 (by decide +kernel) rfl
set_option maxRecDepth 20000 in
theorem ml_398 : Cond.methodLink RX11 398 yX11_nextConstant ∈ tg := tg_at 1344 (by decide +kernel) rfl
set_option maxRecDepth 20000 in
theorem ml_401 : Cond.methodLink RX11 401 yX11_readsLaws ∈ tg := tg_at 1109 (by decide +kernel) rfl
set_option maxRecDepth 20000 in
theorem ml_410 : Cond.methodLink RX11 410 yX11_signAt ∈ tg := tg_at 1356 (by decide +kernel) rfl
set_option maxRecDepth 20000 in
theorem ml_413 : Cond.methodLink RX11 413 yX11_readsTerms ∈ tg := tg_at 1364 (by decide +kernel) rfl
set_option maxRecDepth 20000 in
theorem ml_416 : Cond.methodLink RX11 416 yX11_signOrMany ∈ tg := tg_at 1372 (by decide +kernel) rfl
set_option maxRecDepth 20000 in
theorem ml_419 : Cond.methodLink RX11 419 yX11_notes ∈ tg := tg_at 1388 (by decide +kernel) rfl
set_option maxRecDepth 20000 in
theorem ml_422 : Cond.methodLink RX11 422 yX11_isEntry ∈ tg := tg_at 1396 (by decide +kernel) rfl
set_option maxRecDepth 20000 in
theorem ml_425 : Cond.methodLink RX11 425 yX11_goes ∈ tg := tg_at 1400 (by decide +kernel) rfl
set_option maxRecDepth 20000 in
theorem ml_428 : Cond.methodLink RX11 428 yX11_likeOf ∈ tg := tg_at 1416 (by decide +kernel) rfl
set_option maxRecDepth 20000 in
theorem hY_in : vYS RX11 yX11_in cX11_in 3 (some .boolean) 3 := ⟨tg_at 1099 (by decide +kernel) rfl, tg_at 107 (by decide +kernel) rfl, tg_at 1100 (by rfl) rfl, rfl, by decide, by decide, by decide +kernel⟩
set_option maxRecDepth 20000 in
theorem hY_bring : vYS RX11 yX11_bring cX11_bring 6 none 5 := ⟨tg_at 1197 (by decide +kernel) rfl, tg_at 107 (by decide +kernel) rfl, tg_at 1198 (by rfl) rfl, rfl, by decide, by decide, by decide +kernel⟩
set_option maxRecDepth 20000 in
theorem hY_isFamily : vYS RX11 yX11_isFamily cX11_isFamily 1 (some .boolean) 1 := ⟨tg_at 1154 (by decide +kernel) rfl, tg_at 107 (by decide +kernel) rfl, tg_at 1155 (by rfl) rfl, rfl, by decide, by decide, by decide +kernel⟩
set_option maxRecDepth 20000 in
theorem hY_partsOf : vY RX11 yX11_partsOf cX11_partsOf 2 (some .int) 1 := ⟨tg_at 1178 (by decide +kernel) rfl, tg_at 47 (by decide +kernel) rfl, tg_at 107 (by decide +kernel) rfl, tg_at 1179 (by rfl) rfl, rfl, by decide, by decide, by decide +kernel⟩
set_option maxRecDepth 20000 in
theorem hY_behind : vY RX11 yX11_behind cX11_behind 4 (some .int) 1 := ⟨tg_at 1174 (by decide +kernel) rfl, tg_at 46 (by decide +kernel) rfl, tg_at 107 (by decide +kernel) rfl, tg_at 1175 (by rfl) rfl, rfl, by decide, by decide, by decide +kernel⟩
set_option maxRecDepth 20000 in
theorem hY_longOf : vY RX11 yX11_longOf cX11_longOf 2 (some .int) 1 := ⟨tg_at 1170 (by decide +kernel) rfl, tg_at 45 (by decide +kernel) rfl, tg_at 107 (by decide +kernel) rfl, tg_at 1171 (by rfl) rfl, rfl, by decide, by decide, by decide +kernel⟩
set_option maxRecDepth 20000 in
theorem hY_isData : vY RX11 yX11_isData cX11_isData 4 (some .boolean) 1 := ⟨tg_at 1314 (by decide +kernel) rfl, tg_at 79 (by decide +kernel) rfl, tg_at 107 (by decide +kernel) rfl, tg_at 1315 (by rfl) rfl, rfl, by decide, by decide, by decide +kernel⟩
set_option maxRecDepth 20000 in
theorem hY_isSame : vY RX11 yX11_isSame cX11_isSame 6 (some .boolean) 2 := ⟨tg_at 1270 (by decide +kernel) rfl, tg_at 68 (by decide +kernel) rfl, tg_at 107 (by decide +kernel) rfl, tg_at 1271 (by rfl) rfl, rfl, by decide, by decide, by decide +kernel⟩
set_option maxRecDepth 20000 in
theorem hY_puts : vY RX11 yX11_puts cX11_puts 2 none 1 := ⟨tg_at 1162 (by decide +kernel) rfl, tg_at 43 (by decide +kernel) rfl, tg_at 107 (by decide +kernel) rfl, tg_at 1163 (by rfl) rfl, rfl, by decide, by decide, by decide +kernel⟩
set_option maxRecDepth 20000 in
theorem hY_putsForm : vY RX11 yX11_putsForm cX11_putsForm 4 none 1 := ⟨tg_at 1322 (by decide +kernel) rfl, tg_at 81 (by decide +kernel) rfl, tg_at 107 (by decide +kernel) rfl, tg_at 1323 (by rfl) rfl, rfl, by decide, by decide, by decide +kernel⟩
set_option maxRecDepth 20000 in
theorem hY_toSlot : vY RX11 yX11_toSlot cX11_toSlot 5 none 2 := ⟨tg_at 1342 (by decide +kernel) rfl, tg_at 86 (by decide +kernel) rfl, tg_at 107 (by decide +kernel) rfl, tg_at 1343 (by rfl) rfl, rfl, by decide, by decide, by decide +kernel⟩
set_option maxRecDepth 20000 in
theorem hY_lays : vY RX11 yX11_lays cX11_lays 5 (some .int) 4 := ⟨tg_at 904 (by decide +kernel) rfl, tg_at 30 (by decide +kernel) rfl, tg_at 107 (by decide +kernel) rfl, tg_at 905 (by rfl) rfl, rfl, by decide, by decide, by decide +kernel⟩
set_option maxRecDepth 20000 in
theorem hY_sortOf : vY RX11 yX11_sortOf cX11_sortOf 2 (some .int) 1 := ⟨tg_at 1220 (by decide +kernel) rfl, tg_at 56 (by decide +kernel) rfl, tg_at 107 (by decide +kernel) rfl, tg_at 1221 (by rfl) rfl, rfl, by decide, by decide, by decide +kernel⟩
set_option maxRecDepth 20000 in
theorem hY_aOf : vY RX11 yX11_aOf cX11_aOf 2 (some .int) 1 := ⟨tg_at 1225 (by decide +kernel) rfl, tg_at 57 (by decide +kernel) rfl, tg_at 107 (by decide +kernel) rfl, tg_at 1226 (by rfl) rfl, rfl, by decide, by decide, by decide +kernel⟩
set_option maxRecDepth 20000 in
theorem hY_bOf : vY RX11 yX11_bOf cX11_bOf 2 (some .int) 1 := ⟨tg_at 1230 (by decide +kernel) rfl, tg_at 58 (by decide +kernel) rfl, tg_at 107 (by decide +kernel) rfl, tg_at 1231 (by rfl) rfl, rfl, by decide, by decide, by decide +kernel⟩
set_option maxRecDepth 20000 in
theorem hY_levelOf : vY RX11 yX11_levelOf cX11_levelOf 2 (some .int) 1 := ⟨tg_at 1238 (by decide +kernel) rfl, tg_at 60 (by decide +kernel) rfl, tg_at 107 (by decide +kernel) rfl, tg_at 1239 (by rfl) rfl, rfl, by decide, by decide, by decide +kernel⟩
set_option maxRecDepth 20000 in
theorem hY_with : vY RX11 yX11_with cX11_with 5 (some .int) 3 := ⟨tg_at 1194 (by decide +kernel) rfl, tg_at 51 (by decide +kernel) rfl, tg_at 107 (by decide +kernel) rfl, tg_at 1195 (by rfl) rfl, rfl, by decide, by decide, by decide +kernel⟩
set_option maxRecDepth 20000 in
theorem hY_taken : vY RX11 yX11_taken cX11_taken 3 (some .int) 2 := ⟨tg_at 1216 (by decide +kernel) rfl, tg_at 55 (by decide +kernel) rfl, tg_at 107 (by decide +kernel) rfl, tg_at 1217 (by rfl) rfl, rfl, by decide, by decide, by decide +kernel⟩
set_option maxRecDepth 20000 in
theorem hY_valueAt : vY RX11 yX11_valueAt cX11_valueAt 5 (some .int) 3 := ⟨tg_at 1212 (by decide +kernel) rfl, tg_at 54 (by decide +kernel) rfl, tg_at 107 (by decide +kernel) rfl, tg_at 1213 (by rfl) rfl, rfl, by decide, by decide, by decide +kernel⟩
set_option maxRecDepth 20000 in
theorem hY_isOpen : vYS RX11 yX11_isOpen cX11_isOpen 1 (some .boolean) 1 := ⟨tg_at 1208 (by decide +kernel) rfl, tg_at 107 (by decide +kernel) rfl, tg_at 1209 (by rfl) rfl, rfl, by decide, by decide, by decide +kernel⟩
set_option maxRecDepth 20000 in
theorem hY_worksData : vY RX11 yX11_worksData cX11_worksData 11 (some .int) 3 := ⟨tg_at 1242 (by decide +kernel) rfl, tg_at 61 (by decide +kernel) rfl, tg_at 107 (by decide +kernel) rfl, tg_at 1243 (by rfl) rfl, rfl, by decide, by decide, by decide +kernel⟩
set_option maxRecDepth 20000 in
theorem hY_gives : vY RX11 yX11_gives cX11_gives 4 (some .int) 2 := ⟨tg_at 1234 (by decide +kernel) rfl, tg_at 59 (by decide +kernel) rfl, tg_at 107 (by decide +kernel) rfl, tg_at 1235 (by rfl) rfl, rfl, by decide, by decide, by decide +kernel⟩
set_option maxRecDepth 20000 in
theorem hY_works : vY RX11 yX11_works cX11_works 11 (some .int) 3 := ⟨tg_at 1205 (by decide +kernel) rfl, tg_at 53 (by decide +kernel) rfl, tg_at 107 (by decide +kernel) rfl, tg_at 1206 (by rfl) rfl, rfl, by decide, by decide, by decide +kernel⟩
set_option maxRecDepth 20000 in
theorem hY_checks : vY RX11 yX11_checks cX11_checks 2 none 1 := ⟨tg_at 1201 (by decide +kernel) rfl, tg_at 52 (by decide +kernel) rfl, tg_at 107 (by decide +kernel) rfl, tg_at 1202 (by rfl) rfl, rfl, by decide, by decide, by decide +kernel⟩
set_option maxRecDepth 20000 in
theorem hY_tellsSign : vY RX11 yX11_tellsSign cX11_tellsSign 3 none 2 := ⟨tg_at 1250 (by decide +kernel) rfl, tg_at 63 (by decide +kernel) rfl, tg_at 107 (by decide +kernel) rfl, tg_at 1251 (by rfl) rfl, rfl, by decide, by decide, by decide +kernel⟩
set_option maxRecDepth 20000 in
theorem hY_tells : vY RX11 yX11_tells cX11_tells 8 none 3 := ⟨tg_at 1246 (by decide +kernel) rfl, tg_at 62 (by decide +kernel) rfl, tg_at 107 (by decide +kernel) rfl, tg_at 1247 (by rfl) rfl, rfl, by decide, by decide, by decide +kernel⟩
set_option maxRecDepth 20000 in
theorem hY_told : vY RX11 yX11_told cX11_told 4 (some .int) 3 := ⟨tg_at 1254 (by decide +kernel) rfl, tg_at 64 (by decide +kernel) rfl, tg_at 107 (by decide +kernel) rfl, tg_at 1255 (by rfl) rfl, rfl, by decide, by decide, by decide +kernel⟩
set_option maxRecDepth 20000 in
theorem hY_toldValue : vY RX11 yX11_toldValue cX11_toldValue 6 (some .int) 4 := ⟨tg_at 1258 (by decide +kernel) rfl, tg_at 65 (by decide +kernel) rfl, tg_at 107 (by decide +kernel) rfl, tg_at 1259 (by rfl) rfl, rfl, by decide, by decide, by decide +kernel⟩
set_option maxRecDepth 20000 in
theorem hY_typeBy : vY RX11 yX11_typeBy cX11_typeBy 14 (some .int) 4 := ⟨tg_at 1190 (by decide +kernel) rfl, tg_at 50 (by decide +kernel) rfl, tg_at 107 (by decide +kernel) rfl, tg_at 1191 (by rfl) rfl, rfl, by decide, by decide, by decide +kernel⟩
set_option maxRecDepth 20000 in
theorem hY_spread : vY RX11 yX11_spread cX11_spread 9 (some .int) 2 := ⟨tg_at 1290 (by decide +kernel) rfl, tg_at 73 (by decide +kernel) rfl, tg_at 107 (by decide +kernel) rfl, tg_at 1291 (by rfl) rfl, rfl, by decide, by decide, by decide +kernel⟩
set_option maxRecDepth 20000 in
theorem hY_longBy : vY RX11 yX11_longBy cX11_longBy 13 (some .int) 3 := ⟨tg_at 1286 (by decide +kernel) rfl, tg_at 72 (by decide +kernel) rfl, tg_at 107 (by decide +kernel) rfl, tg_at 1287 (by rfl) rfl, rfl, by decide, by decide, by decide +kernel⟩
set_option maxRecDepth 20000 in
theorem hY_fails : vY RX11 yX11_fails cX11_fails 2 none 1 := ⟨tg_at 1127 (by decide +kernel) rfl, tg_at 35 (by decide +kernel) rfl, tg_at 107 (by decide +kernel) rfl, tg_at 1128 (by rfl) rfl, rfl, by decide, by decide, by decide +kernel⟩
set_option maxRecDepth 20000 in
theorem hY_here : vY RX11 yX11_here cX11_here 1 (some .int) 0 := ⟨tg_at 1119 (by decide +kernel) rfl, tg_at 33 (by decide +kernel) rfl, tg_at 107 (by decide +kernel) rfl, tg_at 1120 (by rfl) rfl, rfl, by decide, by decide, by decide +kernel⟩
set_option maxRecDepth 20000 in
theorem hY_begins : vY RX11 yX11_begins cX11_begins 3 none 2 := ⟨tg_at 1151 (by decide +kernel) rfl, tg_at 41 (by decide +kernel) rfl, tg_at 107 (by decide +kernel) rfl, tg_at 1152 (by rfl) rfl, rfl, by decide, by decide, by decide +kernel⟩
set_option maxRecDepth 20000 in
theorem hY_dueType : vY RX11 yX11_dueType cX11_dueType 1 none 0 := ⟨tg_at 1135 (by decide +kernel) rfl, tg_at 37 (by decide +kernel) rfl, tg_at 107 (by decide +kernel) rfl, tg_at 1136 (by rfl) rfl, rfl, by decide, by decide, by decide +kernel⟩
set_option maxRecDepth 20000 in
theorem hY_dueTerm : vY RX11 yX11_dueTerm cX11_dueTerm 5 none 4 := ⟨tg_at 1158 (by decide +kernel) rfl, tg_at 42 (by decide +kernel) rfl, tg_at 107 (by decide +kernel) rfl, tg_at 1159 (by rfl) rfl, rfl, by decide, by decide, by decide +kernel⟩
set_option maxRecDepth 20000 in
theorem hY_endsType : vY RX11 yX11_endsType cX11_endsType 3 none 2 := ⟨tg_at 1166 (by decide +kernel) rfl, tg_at 44 (by decide +kernel) rfl, tg_at 107 (by decide +kernel) rfl, tg_at 1167 (by rfl) rfl, rfl, by decide, by decide, by decide +kernel⟩
set_option maxRecDepth 20000 in
theorem hY_endsGiven : vY RX11 yX11_endsGiven cX11_endsGiven 3 none 2 := ⟨tg_at 1298 (by decide +kernel) rfl, tg_at 75 (by decide +kernel) rfl, tg_at 107 (by decide +kernel) rfl, tg_at 1299 (by rfl) rfl, rfl, by decide, by decide, by decide +kernel⟩
set_option maxRecDepth 20000 in
theorem hY_isNeeded : vY RX11 yX11_isNeeded cX11_isNeeded 3 (some .boolean) 1 := ⟨tg_at 1266 (by decide +kernel) rfl, tg_at 67 (by decide +kernel) rfl, tg_at 107 (by decide +kernel) rfl, tg_at 1267 (by rfl) rfl, rfl, by decide, by decide, by decide +kernel⟩
set_option maxRecDepth 20000 in
theorem hY_endsFound : vY RX11 yX11_endsFound cX11_endsFound 4 none 3 := ⟨tg_at 1262 (by decide +kernel) rfl, tg_at 66 (by decide +kernel) rfl, tg_at 107 (by decide +kernel) rfl, tg_at 1263 (by rfl) rfl, rfl, by decide, by decide, by decide +kernel⟩
set_option maxRecDepth 20000 in
theorem hY_readsType : vY RX11 yX11_readsType cX11_readsType 5 none 1 := ⟨tg_at 1147 (by decide +kernel) rfl, tg_at 40 (by decide +kernel) rfl, tg_at 107 (by decide +kernel) rfl, tg_at 1148 (by rfl) rfl, rfl, by decide, by decide, by decide +kernel⟩
set_option maxRecDepth 20000 in
theorem hY_typeNow : vY RX11 yX11_typeNow cX11_typeNow 3 (some .int) 2 := ⟨tg_at 1186 (by decide +kernel) rfl, tg_at 49 (by decide +kernel) rfl, tg_at 107 (by decide +kernel) rfl, tg_at 1187 (by rfl) rfl, rfl, by decide, by decide, by decide +kernel⟩
set_option maxRecDepth 20000 in
theorem hY_readsSimple : vY RX11 yX11_readsSimple cX11_readsSimple 7 none 4 := ⟨tg_at 1282 (by decide +kernel) rfl, tg_at 71 (by decide +kernel) rfl, tg_at 107 (by decide +kernel) rfl, tg_at 1283 (by rfl) rfl, rfl, by decide, by decide, by decide +kernel⟩
set_option maxRecDepth 20000 in
theorem hY_readsEntry : vY RX11 yX11_readsEntry cX11_readsEntry 8 none 0 := ⟨tg_at 1182 (by decide +kernel) rfl, tg_at 48 (by decide +kernel) rfl, tg_at 107 (by decide +kernel) rfl, tg_at 1183 (by rfl) rfl, rfl, by decide, by decide, by decide +kernel⟩
set_option maxRecDepth 20000 in
theorem hY_readsGiven : vY RX11 yX11_readsGiven cX11_readsGiven 7 (some .boolean) 1 := ⟨tg_at 1294 (by decide +kernel) rfl, tg_at 74 (by decide +kernel) rfl, tg_at 107 (by decide +kernel) rfl, tg_at 1295 (by rfl) rfl, rfl, by decide, by decide, by decide +kernel⟩
set_option maxRecDepth 20000 in
theorem hY_readsFound : vY RX11 yX11_readsFound cX11_readsFound 3 none 1 := ⟨tg_at 1278 (by decide +kernel) rfl, tg_at 70 (by decide +kernel) rfl, tg_at 107 (by decide +kernel) rfl, tg_at 1279 (by rfl) rfl, rfl, by decide, by decide, by decide +kernel⟩
set_option maxRecDepth 20000 in
theorem hY_canStand : vY RX11 yX11_canStand cX11_canStand 3 (some .boolean) 1 := ⟨tg_at 1274 (by decide +kernel) rfl, tg_at 69 (by decide +kernel) rfl, tg_at 107 (by decide +kernel) rfl, tg_at 1275 (by rfl) rfl, rfl, by decide, by decide, by decide +kernel⟩
set_option maxRecDepth 20000 in
theorem hY_reads : vY RX11 yX11_reads cX11_reads 2 none 0 := ⟨tg_at 1143 (by decide +kernel) rfl, tg_at 39 (by decide +kernel) rfl, tg_at 107 (by decide +kernel) rfl, tg_at 1144 (by rfl) rfl, rfl, by decide, by decide, by decide +kernel⟩
set_option maxRecDepth 20000 in
theorem hY_again : vY RX11 yX11_again cX11_again 2 none 1 := ⟨tg_at 1306 (by decide +kernel) rfl, tg_at 77 (by decide +kernel) rfl, tg_at 107 (by decide +kernel) rfl, tg_at 1307 (by rfl) rfl, rfl, by decide, by decide, by decide +kernel⟩
set_option maxRecDepth 20000 in
theorem hY_joined : vY RX11 yX11_joined cX11_joined 5 (some .int) 3 := ⟨tg_at 1318 (by decide +kernel) rfl, tg_at 80 (by decide +kernel) rfl, tg_at 107 (by decide +kernel) rfl, tg_at 1319 (by rfl) rfl, rfl, by decide, by decide, by decide +kernel⟩
set_option maxRecDepth 20000 in
theorem hY_namesOne : vY RX11 yX11_namesOne cX11_namesOne 3 none 2 := ⟨tg_at 1310 (by decide +kernel) rfl, tg_at 78 (by decide +kernel) rfl, tg_at 107 (by decide +kernel) rfl, tg_at 1311 (by rfl) rfl, rfl, by decide, by decide, by decide +kernel⟩
set_option maxRecDepth 20000 in
theorem hY_handsType : vY RX11 yX11_handsType cX11_handsType 2 none 0 := ⟨tg_at 1302 (by decide +kernel) rfl, tg_at 76 (by decide +kernel) rfl, tg_at 107 (by decide +kernel) rfl, tg_at 1303 (by rfl) rfl, rfl, by decide, by decide, by decide +kernel⟩
set_option maxRecDepth 20000 in
theorem hY_valueOf : vY RX11 yX11_valueOf cX11_valueOf 2 (some .int) 1 := ⟨tg_at 1334 (by decide +kernel) rfl, tg_at 84 (by decide +kernel) rfl, tg_at 107 (by decide +kernel) rfl, tg_at 1335 (by rfl) rfl, rfl, by decide, by decide, by decide +kernel⟩
set_option maxRecDepth 20000 in
theorem hY_handsGiven : vY RX11 yX11_handsGiven cX11_handsGiven 10 none 1 := ⟨tg_at 1330 (by decide +kernel) rfl, tg_at 83 (by decide +kernel) rfl, tg_at 107 (by decide +kernel) rfl, tg_at 1331 (by rfl) rfl, rfl, by decide, by decide, by decide +kernel⟩
set_option maxRecDepth 20000 in
theorem hY_handsTaken : vY RX11 yX11_handsTaken cX11_handsTaken 8 none 1 := ⟨tg_at 1338 (by decide +kernel) rfl, tg_at 85 (by decide +kernel) rfl, tg_at 107 (by decide +kernel) rfl, tg_at 1339 (by rfl) rfl, rfl, by decide, by decide, by decide +kernel⟩
set_option maxRecDepth 20000 in
theorem hY_handsTerm : vY RX11 yX11_handsTerm cX11_handsTerm 2 none 0 := ⟨tg_at 1326 (by decide +kernel) rfl, tg_at 82 (by decide +kernel) rfl, tg_at 107 (by decide +kernel) rfl, tg_at 1327 (by rfl) rfl, rfl, by decide, by decide, by decide +kernel⟩
set_option maxRecDepth 20000 in
theorem hY_readsWhole : vY RX11 yX11_readsWhole cX11_readsWhole 1 none 0 := ⟨tg_at 1139 (by decide +kernel) rfl, tg_at 38 (by decide +kernel) rfl, tg_at 107 (by decide +kernel) rfl, tg_at 1140 (by rfl) rfl, rfl, by decide, by decide, by decide +kernel⟩
set_option maxRecDepth 20000 in
theorem hY_starts : vY RX11 yX11_starts cX11_starts 1 none 0 := ⟨tg_at 1115 (by decide +kernel) rfl, tg_at 32 (by decide +kernel) rfl, tg_at 107 (by decide +kernel) rfl, tg_at 1116 (by rfl) rfl, rfl, by decide, by decide, by decide +kernel⟩
set_option maxRecDepth 20000 in
theorem hY_wholeType : vY RX11 yX11_wholeType cX11_wholeType 1 (some .int) 0 := ⟨tg_at 1131 (by decide +kernel) rfl, tg_at 36 (by decide +kernel) rfl, tg_at 107 (by decide +kernel) rfl, tg_at 1132 (by rfl) rfl, rfl, by decide, by decide, by decide +kernel⟩
set_option maxRecDepth 20000 in
theorem hY_wholeGiven : vY RX11 yX11_wholeGiven cX11_wholeGiven 2 (some .int) 1 := ⟨tg_at 1370 (by decide +kernel) rfl, tg_at 91 (by decide +kernel) rfl, tg_at 107 (by decide +kernel) rfl, tg_at 1371 (by rfl) rfl, rfl, by decide, by decide, by decide +kernel⟩
set_option maxRecDepth 20000 in
theorem hY_wants : vY RX11 yX11_wants cX11_wants 2 none 1 := ⟨tg_at 1350 (by decide +kernel) rfl, tg_at 88 (by decide +kernel) rfl, tg_at 107 (by decide +kernel) rfl, tg_at 1351 (by rfl) rfl, rfl, by decide, by decide, by decide +kernel⟩
set_option maxRecDepth 20000 in
theorem hY_readsTerms : vY RX11 yX11_readsTerms cX11_readsTerms 2 none 1 := ⟨tg_at 1366 (by decide +kernel) rfl, tg_at 90 (by decide +kernel) rfl, tg_at 107 (by decide +kernel) rfl, tg_at 1367 (by rfl) rfl, rfl, by decide, by decide, by decide +kernel⟩
set_option maxRecDepth 20000 in
theorem hY_type : vY RX11 yX11_type cX11_type 2 (some .int) 1 := ⟨tg_at 1095 (by decide +kernel) rfl, tg_at 1096 (by decide +kernel) rfl, tg_at 107 (by decide +kernel) rfl, tg_at 1097 (by rfl) rfl, rfl, by decide, by decide, by decide +kernel⟩
set_option maxRecDepth 20000 in
theorem hY_clear : vY RX11 yX11_clear cX11_clear 2 (some .int) 0 := ⟨tg_at 1102 (by decide +kernel) rfl, tg_at 1103 (by decide +kernel) rfl, tg_at 107 (by decide +kernel) rfl, tg_at 1104 (by rfl) rfl, rfl, by decide, by decide, by decide +kernel⟩
set_option maxRecDepth 20000 in
theorem hY_nextFamily : vY RX11 yX11_nextFamily cX11_nextFamily 3 none 0 := ⟨tg_at 1123 (by decide +kernel) rfl, tg_at 34 (by decide +kernel) rfl, tg_at 107 (by decide +kernel) rfl, tg_at 1124 (by rfl) rfl, rfl, by decide, by decide, by decide +kernel⟩
set_option maxRecDepth 20000 in
theorem hY_nextConstant : vY RX11 yX11_nextConstant cX11_nextConstant 2 none 0 := ⟨tg_at 1346 (by decide +kernel) rfl, tg_at 87 (by decide +kernel) rfl, tg_at 107 (by decide +kernel) rfl, tg_at 1347 (by rfl) rfl, rfl, by decide, by decide, by decide +kernel⟩
set_option maxRecDepth 20000 in
theorem hY_readsLaws : vY RX11 yX11_readsLaws cX11_readsLaws 3 (some .int) 0 := ⟨tg_at 1111 (by decide +kernel) rfl, tg_at 31 (by decide +kernel) rfl, tg_at 107 (by decide +kernel) rfl, tg_at 1112 (by rfl) rfl, rfl, by decide, by decide, by decide +kernel⟩
set_option maxRecDepth 20000 in
theorem hY_laws : vY RX11 yX11_laws cX11_laws 5 (some .int) 0 := ⟨tg_at 1106 (by decide +kernel) rfl, tg_at 1107 (by decide +kernel) rfl, tg_at 107 (by decide +kernel) rfl, tg_at 1108 (by rfl) rfl, rfl, by decide, by decide, by decide +kernel⟩
set_option maxRecDepth 20000 in
theorem hY_signAt : vY RX11 yX11_signAt cX11_signAt 3 (some .int) 2 := ⟨tg_at 1358 (by decide +kernel) rfl, tg_at 89 (by decide +kernel) rfl, tg_at 107 (by decide +kernel) rfl, tg_at 1359 (by rfl) rfl, rfl, by decide, by decide, by decide +kernel⟩
set_option maxRecDepth 20000 in
theorem hY_law : vY RX11 yX11_law cX11_law 4 (some .int) 3 := ⟨tg_at 1353 (by decide +kernel) rfl, tg_at 1354 (by decide +kernel) rfl, tg_at 107 (by decide +kernel) rfl, tg_at 1355 (by rfl) rfl, rfl, by decide, by decide, by decide +kernel⟩
set_option maxRecDepth 20000 in
theorem hY_signOrMany : vY RX11 yX11_signOrMany cX11_signOrMany 3 (some .int) 2 := ⟨tg_at 1374 (by decide +kernel) rfl, tg_at 92 (by decide +kernel) rfl, tg_at 107 (by decide +kernel) rfl, tg_at 1375 (by rfl) rfl, rfl, by decide, by decide, by decide +kernel⟩
set_option maxRecDepth 20000 in
theorem hY_given : vY RX11 yX11_given cX11_given 2 (some .int) 1 := ⟨tg_at 1361 (by decide +kernel) rfl, tg_at 1362 (by decide +kernel) rfl, tg_at 107 (by decide +kernel) rfl, tg_at 1363 (by rfl) rfl, rfl, by decide, by decide, by decide +kernel⟩
set_option maxRecDepth 20000 in
theorem hY_found : vY RX11 yX11_found cX11_found 2 (some .int) 1 := ⟨tg_at 1377 (by decide +kernel) rfl, tg_at 1378 (by decide +kernel) rfl, tg_at 107 (by decide +kernel) rfl, tg_at 1379 (by rfl) rfl, rfl, by decide, by decide, by decide +kernel⟩
set_option maxRecDepth 20000 in
theorem hY_same : vY RX11 yX11_same cX11_same 1 (some .int) 0 := ⟨tg_at 1381 (by decide +kernel) rfl, tg_at 1382 (by decide +kernel) rfl, tg_at 107 (by decide +kernel) rfl, tg_at 1383 (by rfl) rfl, rfl, by decide, by decide, by decide +kernel⟩
set_option maxRecDepth 20000 in
theorem hY_notes : vY RX11 yX11_notes cX11_notes 3 none 2 := ⟨tg_at 1390 (by decide +kernel) rfl, tg_at 93 (by decide +kernel) rfl, tg_at 107 (by decide +kernel) rfl, tg_at 1391 (by rfl) rfl, rfl, by decide, by decide, by decide +kernel⟩
set_option maxRecDepth 20000 in
theorem hY_isEntry : vY RX11 yX11_isEntry cX11_isEntry 2 (some .boolean) 1 := ⟨tg_at 1398 (by decide +kernel) rfl, tg_at 94 (by decide +kernel) rfl, tg_at 107 (by decide +kernel) rfl, tg_at 1399 (by rfl) rfl, rfl, by decide, by decide, by decide +kernel⟩
set_option maxRecDepth 20000 in
theorem hY_enters : vY RX11 yX11_enters cX11_enters 1 (some .int) 0 := ⟨tg_at 1385 (by decide +kernel) rfl, tg_at 1386 (by decide +kernel) rfl, tg_at 107 (by decide +kernel) rfl, tg_at 1387 (by rfl) rfl, rfl, by decide, by decide, by decide +kernel⟩
set_option maxRecDepth 20000 in
theorem hY_goes : vY RX11 yX11_goes cX11_goes 2 none 1 := ⟨tg_at 1402 (by decide +kernel) rfl, tg_at 95 (by decide +kernel) rfl, tg_at 107 (by decide +kernel) rfl, tg_at 1403 (by rfl) rfl, rfl, by decide, by decide, by decide +kernel⟩
set_option maxRecDepth 20000 in
theorem hY_drops : vY RX11 yX11_drops cX11_drops 2 (some .int) 1 := ⟨tg_at 1393 (by decide +kernel) rfl, tg_at 1394 (by decide +kernel) rfl, tg_at 107 (by decide +kernel) rfl, tg_at 1395 (by rfl) rfl, rfl, by decide, by decide, by decide +kernel⟩
set_option maxRecDepth 20000 in
theorem hY_undo : vY RX11 yX11_undo cX11_undo 3 (some .int) 0 := ⟨tg_at 1405 (by decide +kernel) rfl, tg_at 1406 (by decide +kernel) rfl, tg_at 107 (by decide +kernel) rfl, tg_at 1407 (by rfl) rfl, rfl, by decide, by decide, by decide +kernel⟩
set_option maxRecDepth 20000 in
theorem hY_entry : vY RX11 yX11_entry cX11_entry 4 (some .int) 3 := ⟨tg_at 1409 (by decide +kernel) rfl, tg_at 1410 (by decide +kernel) rfl, tg_at 107 (by decide +kernel) rfl, tg_at 1411 (by rfl) rfl, rfl, by decide, by decide, by decide +kernel⟩
set_option maxRecDepth 20000 in
theorem hY_likeOf : vY RX11 yX11_likeOf cX11_likeOf 3 (some .int) 2 := ⟨tg_at 1418 (by decide +kernel) rfl, tg_at 96 (by decide +kernel) rfl, tg_at 107 (by decide +kernel) rfl, tg_at 1419 (by rfl) rfl, rfl, by decide, by decide, by decide +kernel⟩
set_option maxRecDepth 20000 in
theorem hY_like : vY RX11 yX11_like cX11_like 3 (some .int) 2 := ⟨tg_at 1413 (by decide +kernel) rfl, tg_at 1414 (by decide +kernel) rfl, tg_at 107 (by decide +kernel) rfl, tg_at 1415 (by rfl) rfl, rfl, by decide, by decide, by decide +kernel⟩
set_option maxRecDepth 20000 in
theorem hY_sees : vY RX11 yX11_sees cX11_sees 2 (some .int) 1 := ⟨tg_at 1421 (by decide +kernel) rfl, tg_at 1422 (by decide +kernel) rfl, tg_at 107 (by decide +kernel) rfl, tg_at 1423 (by rfl) rfl, rfl, by decide, by decide, by decide +kernel⟩
set_option maxRecDepth 20000 in
theorem hY_forget : vY RX11 yX11_forget cX11_forget 2 (some .int) 0 := ⟨tg_at 1425 (by decide +kernel) rfl, tg_at 1426 (by decide +kernel) rfl, tg_at 107 (by decide +kernel) rfl, tg_at 1427 (by rfl) rfl, rfl, by decide, by decide, by decide +kernel⟩
set_option maxRecDepth 20000 in
theorem hY_unseen : vY RX11 yX11_unseen cX11_unseen 5 (some .int) 0 := ⟨tg_at 1429 (by decide +kernel) rfl, tg_at 1430 (by decide +kernel) rfl, tg_at 107 (by decide +kernel) rfl, tg_at 1431 (by rfl) rfl, rfl, by decide, by decide, by decide +kernel⟩
set_option maxRecDepth 20000 in
theorem hY_keep : vY RX11 yX11_keep cX11_keep 2 (some .int) 1 := ⟨tg_at 1433 (by decide +kernel) rfl, tg_at 1434 (by decide +kernel) rfl, tg_at 107 (by decide +kernel) rfl, tg_at 1435 (by rfl) rfl, rfl, by decide, by decide, by decide +kernel⟩
set_option maxRecDepth 20000 in
theorem hY_back : vY RX11 yX11_back cX11_back 2 (some .int) 1 := ⟨tg_at 1437 (by decide +kernel) rfl, tg_at 1438 (by decide +kernel) rfl, tg_at 107 (by decide +kernel) rfl, tg_at 1439 (by rfl) rfl, rfl, by decide, by decide, by decide +kernel⟩
set_option maxRecDepth 20000 in
theorem hY_count : vY RX11 yX11_count cX11_count 2 (some .int) 1 := ⟨tg_at 1441 (by decide +kernel) rfl, tg_at 1442 (by decide +kernel) rfl, tg_at 107 (by decide +kernel) rfl, tg_at 1443 (by rfl) rfl, rfl, by decide, by decide, by decide +kernel⟩
