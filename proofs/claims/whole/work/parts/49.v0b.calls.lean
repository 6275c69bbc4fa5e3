set_option maxRecDepth 100000 in
theorem ac_RX1_37 : Cond.methodLink RX1 37 arraycopyName ∈ TS ∧ Cond.native arraycopyName ∈ TS ∧ Cond.static arraycopyName ∈ TS ∧ Cond.initialized "java/lang/System" ∈ TS := ⟨(TS_p4 117 rfl rfl), (TS_p4 119 rfl rfl), (TS_p4 118 rfl rfl), (TS_p1 20 rfl rfl)⟩
set_option maxRecDepth 100000 in
theorem ac_RX10_71 : Cond.methodLink RX10 71 arraycopyName ∈ TS ∧ Cond.native arraycopyName ∈ TS ∧ Cond.static arraycopyName ∈ TS ∧ Cond.initialized "java/lang/System" ∈ TS := ⟨(TS_p6 52 rfl rfl), (TS_p4 119 rfl rfl), (TS_p4 118 rfl rfl), (TS_p1 20 rfl rfl)⟩
set_option maxRecDepth 100000 in
theorem ac_RX3_28 : Cond.methodLink RX3 28 arraycopyName ∈ TS ∧ Cond.native arraycopyName ∈ TS ∧ Cond.static arraycopyName ∈ TS ∧ Cond.initialized "java/lang/System" ∈ TS := ⟨(TS_p4 192 rfl rfl), (TS_p4 119 rfl rfl), (TS_p4 118 rfl rfl), (TS_p1 20 rfl rfl)⟩
set_option maxRecDepth 100000 in
theorem ac_RX5_28 : Cond.methodLink RX5 28 arraycopyName ∈ TS ∧ Cond.native arraycopyName ∈ TS ∧ Cond.static arraycopyName ∈ TS ∧ Cond.initialized "java/lang/System" ∈ TS := ⟨(TS_p4 167 rfl rfl), (TS_p4 119 rfl rfl), (TS_p4 118 rfl rfl), (TS_p1 20 rfl rfl)⟩
set_option maxRecDepth 100000 in
theorem mc_RJ1_38 : Cond.methodLink RJ1 38 Lib.Math.min.name ∈ TS ∧ Cond.static Lib.Math.min.name ∈ TS ∧ Cond.initialized "java/lang/Math" ∈ TS ∧ Cond.code Lib.Math.min.name Lib.Math.min.code 2 (some .int) ∈ TS := ⟨(TS_p3 233 rfl rfl), (TS_p2 224 rfl rfl), (TS_p1 9 rfl rfl), (TS_p2 225 rfl rfl)⟩
set_option maxRecDepth 100000 in
theorem mc_RJ1_92 : Cond.methodLink RJ1 92 Lib.Math.max.name ∈ TS ∧ Cond.static Lib.Math.max.name ∈ TS ∧ Cond.initialized "java/lang/Math" ∈ TS ∧ Cond.code Lib.Math.max.name Lib.Math.max.code 2 (some .int) ∈ TS := ⟨(TS_p3 232 rfl rfl), (TS_p1 211 rfl rfl), (TS_p1 9 rfl rfl), (TS_p1 212 rfl rfl)⟩
set_option maxRecDepth 100000 in
theorem mc_RX0_53 : Cond.methodLink RX0 53 Lib.Math.min.name ∈ TS ∧ Cond.static Lib.Math.min.name ∈ TS ∧ Cond.initialized "java/lang/Math" ∈ TS ∧ Cond.code Lib.Math.min.name Lib.Math.min.code 2 (some .int) ∈ TS := ⟨(TS_p2 223 rfl rfl), (TS_p2 224 rfl rfl), (TS_p1 9 rfl rfl), (TS_p2 225 rfl rfl)⟩
set_option maxRecDepth 100000 in
theorem mc_RX0_59 : Cond.methodLink RX0 59 Lib.Math.max.name ∈ TS ∧ Cond.static Lib.Math.max.name ∈ TS ∧ Cond.initialized "java/lang/Math" ∈ TS ∧ Cond.code Lib.Math.max.name Lib.Math.max.code 2 (some .int) ∈ TS := ⟨(TS_p2 226 rfl rfl), (TS_p1 211 rfl rfl), (TS_p1 9 rfl rfl), (TS_p1 212 rfl rfl)⟩
set_option maxRecDepth 100000 in
theorem mc_RX1_59 : Cond.methodLink RX1 59 Lib.Math.min.name ∈ TS ∧ Cond.static Lib.Math.min.name ∈ TS ∧ Cond.initialized "java/lang/Math" ∈ TS ∧ Cond.code Lib.Math.min.name Lib.Math.min.code 2 (some .int) ∈ TS := ⟨(TS_p3 34 rfl rfl), (TS_p2 224 rfl rfl), (TS_p1 9 rfl rfl), (TS_p2 225 rfl rfl)⟩
set_option maxRecDepth 100000 in
theorem mc_RX1_64 : Cond.methodLink RX1 64 Lib.Math.max.name ∈ TS ∧ Cond.static Lib.Math.max.name ∈ TS ∧ Cond.initialized "java/lang/Math" ∈ TS ∧ Cond.code Lib.Math.max.name Lib.Math.max.code 2 (some .int) ∈ TS := ⟨(TS_p3 35 rfl rfl), (TS_p1 211 rfl rfl), (TS_p1 9 rfl rfl), (TS_p1 212 rfl rfl)⟩
set_option maxRecDepth 100000 in
theorem mc_RX1_96 : Cond.methodLink RX1 96 Lib.Math.abs.name ∈ TS ∧ Cond.static Lib.Math.abs.name ∈ TS ∧ Cond.initialized "java/lang/Math" ∈ TS ∧ Cond.code Lib.Math.abs.name Lib.Math.abs.code 1 (some .int) ∈ TS := ⟨(TS_p3 25 rfl rfl), (TS_p3 26 rfl rfl), (TS_p1 9 rfl rfl), (TS_p3 27 rfl rfl)⟩
set_option maxRecDepth 100000 in
theorem mc_RX10_154 : Cond.methodLink RX10 154 Lib.Math.min.name ∈ TS ∧ Cond.static Lib.Math.min.name ∈ TS ∧ Cond.initialized "java/lang/Math" ∈ TS ∧ Cond.code Lib.Math.min.name Lib.Math.min.code 2 (some .int) ∈ TS := ⟨(TS_p3 89 rfl rfl), (TS_p2 224 rfl rfl), (TS_p1 9 rfl rfl), (TS_p2 225 rfl rfl)⟩
set_option maxRecDepth 100000 in
theorem mc_RX11_401 : Cond.methodLink RX11 401 Lib.Math.min.name ∈ TS ∧ Cond.static Lib.Math.min.name ∈ TS ∧ Cond.initialized "java/lang/Math" ∈ TS ∧ Cond.code Lib.Math.min.name Lib.Math.min.code 2 (some .int) ∈ TS := ⟨(TS_p3 3 rfl rfl), (TS_p2 224 rfl rfl), (TS_p1 9 rfl rfl), (TS_p2 225 rfl rfl)⟩
set_option maxRecDepth 100000 in
theorem mc_RX2_19 : Cond.methodLink RX2 19 Lib.Math.min.name ∈ TS ∧ Cond.static Lib.Math.min.name ∈ TS ∧ Cond.initialized "java/lang/Math" ∈ TS ∧ Cond.code Lib.Math.min.name Lib.Math.min.code 2 (some .int) ∈ TS := ⟨(TS_p5 74 rfl rfl), (TS_p2 224 rfl rfl), (TS_p1 9 rfl rfl), (TS_p2 225 rfl rfl)⟩
set_option maxRecDepth 100000 in
theorem mc_RX2_32 : Cond.methodLink RX2 32 Lib.Math.max.name ∈ TS ∧ Cond.static Lib.Math.max.name ∈ TS ∧ Cond.initialized "java/lang/Math" ∈ TS ∧ Cond.code Lib.Math.max.name Lib.Math.max.code 2 (some .int) ∈ TS := ⟨(TS_p5 120 rfl rfl), (TS_p1 211 rfl rfl), (TS_p1 9 rfl rfl), (TS_p1 212 rfl rfl)⟩
set_option maxRecDepth 100000 in
theorem mc_RX7_27 : Cond.methodLink RX7 27 Lib.Math.min.name ∈ TS ∧ Cond.static Lib.Math.min.name ∈ TS ∧ Cond.initialized "java/lang/Math" ∈ TS ∧ Cond.code Lib.Math.min.name Lib.Math.min.code 2 (some .int) ∈ TS := ⟨(TS_p6 51 rfl rfl), (TS_p2 224 rfl rfl), (TS_p1 9 rfl rfl), (TS_p2 225 rfl rfl)⟩
set_option maxRecDepth 100000 in
theorem mc_RX9_35 : Cond.methodLink RX9 35 Lib.Math.min.name ∈ TS ∧ Cond.static Lib.Math.min.name ∈ TS ∧ Cond.initialized "java/lang/Math" ∈ TS ∧ Cond.code Lib.Math.min.name Lib.Math.min.code 2 (some .int) ∈ TS := ⟨(TS_p5 27 rfl rfl), (TS_p2 224 rfl rfl), (TS_p1 9 rfl rfl), (TS_p2 225 rfl rfl)⟩
set_option maxRecDepth 100000 in
theorem mc_RX9_41 : Cond.methodLink RX9 41 Lib.Math.max.name ∈ TS ∧ Cond.static Lib.Math.max.name ∈ TS ∧ Cond.initialized "java/lang/Math" ∈ TS ∧ Cond.code Lib.Math.max.name Lib.Math.max.code 2 (some .int) ∈ TS := ⟨(TS_p5 28 rfl rfl), (TS_p1 211 rfl rfl), (TS_p1 9 rfl rfl), (TS_p1 212 rfl rfl)⟩
set_option maxRecDepth 100000 in
theorem cv_RJ0_1059 : CS RJ0 1059 yJ3_checkIndex_8e157 cJ3_checkIndex_8e157 3 (some .int) 3 := ⟨(TS_p3 175 rfl rfl), (TS_p3 176 rfl rfl), (TS_p1 17 rfl rfl), (TS_p3 177 rfl rfl), ⟨by decide, by decide, by decide +kernel⟩⟩
set_option maxRecDepth 100000 in
theorem cv_RJ0_495 : CS RJ0 495 yJ1_charAt_3b067 cJ1_charAt_3b067 2 (some .char) 2 := ⟨(TS_p3 167 rfl rfl), (TS_p3 168 rfl rfl), (TS_p1 16 rfl rfl), (TS_p3 169 rfl rfl), ⟨by decide, by decide, by decide +kernel⟩⟩
set_option maxRecDepth 100000 in
theorem cv_RJ0_637 : CS RJ0 637 yJ1_indexOf_4cfef cJ1_indexOf_4cfef 4 (some .int) 4 := ⟨(TS_p3 226 rfl rfl), (TS_p3 227 rfl rfl), (TS_p1 16 rfl rfl), (TS_p3 228 rfl rfl), ⟨by decide, by decide, by decide +kernel⟩⟩
set_option maxRecDepth 100000 in
theorem cv_RJ1_88 : CS RJ1 88 yJ1_canEncode_9a6ad cJ1_canEncode_9a6ad 1 (some .boolean) 1 := ⟨(TS_p3 229 rfl rfl), (TS_p3 230 rfl rfl), (TS_p1 16 rfl rfl), (TS_p3 231 rfl rfl), ⟨by decide, by decide, by decide +kernel⟩⟩
set_option maxRecDepth 100000 in
theorem cv_RJ1_9 : CS RJ1 9 yJ0_checkIndex_df160 cJ0_checkIndex_df160 2 none 2 := ⟨(TS_p3 170 rfl rfl), (TS_p3 171 rfl rfl), (TS_p1 15 rfl rfl), (TS_p3 172 rfl rfl), ⟨by decide, by decide, by decide +kernel⟩⟩
set_option maxRecDepth 100000 in
theorem cv_RJ1_95 : CS RJ1 95 yJ1_indexOfChar_4cfef cJ1_indexOfChar_4cfef 6 (some .int) 4 := ⟨(TS_p3 234 rfl rfl), (TS_p3 235 rfl rfl), (TS_p1 16 rfl rfl), (TS_p3 236 rfl rfl), ⟨by decide, by decide, by decide +kernel⟩⟩
set_option maxRecDepth 100000 in
theorem cv_RX1_47 : CS RX1 47 yX1_bound cX1_bound 2 (some .int) 2 := ⟨(TS_p3 31 rfl rfl), (TS_p3 32 rfl rfl), (TS_p1 4 rfl rfl), (TS_p3 33 rfl rfl), ⟨by decide, by decide, by decide +kernel⟩⟩
set_option maxRecDepth 100000 in
theorem cv_RX1_67 : CS RX1 67 yX1_fact cX1_fact 3 (some .int) 3 := ⟨(TS_p3 16 rfl rfl), (TS_p3 17 rfl rfl), (TS_p1 4 rfl rfl), (TS_p3 18 rfl rfl), ⟨by decide, by decide, by decide +kernel⟩⟩
set_option maxRecDepth 100000 in
theorem cv_RX1_71 : CS RX1 71 yX1_joined cX1_joined 3 (some .int) 3 := ⟨(TS_p3 28 rfl rfl), (TS_p3 29 rfl rfl), (TS_p1 4 rfl rfl), (TS_p3 30 rfl rfl), ⟨by decide, by decide, by decide +kernel⟩⟩
set_option maxRecDepth 100000 in
theorem cv_RX1_78 : CS RX1 78 yJ6_bitCount_0f7a4 cJ6_bitCount_0f7a4 1 (some .int) 1 := ⟨(TS_p3 19 rfl rfl), (TS_p3 20 rfl rfl), (TS_p1 14 rfl rfl), (TS_p3 21 rfl rfl), ⟨by decide, by decide, by decide +kernel⟩⟩
set_option maxRecDepth 100000 in
theorem cv_RX11_260 : CS RX11 260 yX2_turned cX2_turned 5 (some .int) 1 := ⟨(TS_p5 46 rfl rfl), (TS_p5 47 rfl rfl), (TS_p1 21 rfl rfl), (TS_p5 48 rfl rfl), ⟨by decide, by decide, by decide +kernel⟩⟩
set_option maxRecDepth 100000 in
theorem cv_RX11_265 : CS RX11 265 yX2_evenTurnedAbove cX2_evenTurnedAbove 5 (some .int) 1 := ⟨(TS_p5 51 rfl rfl), (TS_p5 52 rfl rfl), (TS_p1 21 rfl rfl), (TS_p5 53 rfl rfl), ⟨by decide, by decide, by decide +kernel⟩⟩
set_option maxRecDepth 100000 in
theorem cv_RX11_268 : CS RX11 268 yX2_evenTurnedUpTo cX2_evenTurnedUpTo 5 (some .int) 1 := ⟨(TS_p5 57 rfl rfl), (TS_p5 58 rfl rfl), (TS_p1 21 rfl rfl), (TS_p5 59 rfl rfl), ⟨by decide, by decide, by decide +kernel⟩⟩
set_option maxRecDepth 100000 in
theorem cv_RX11_271 : CS RX11 271 yX2_digitCount cX2_digitCount 8 (some .int) 2 := ⟨(TS_p5 64 rfl rfl), (TS_p5 65 rfl rfl), (TS_p1 21 rfl rfl), (TS_p5 66 rfl rfl), ⟨by decide, by decide, by decide +kernel⟩⟩
set_option maxRecDepth 100000 in
theorem cv_RX11_274 : CS RX11 274 yX2_digitAt cX2_digitAt 7 (some .int) 2 := ⟨(TS_p5 71 rfl rfl), (TS_p5 72 rfl rfl), (TS_p1 21 rfl rfl), (TS_p5 73 rfl rfl), ⟨by decide, by decide, by decide +kernel⟩⟩
set_option maxRecDepth 100000 in
theorem cv_RX11_299 : CS RX11 299 yX2_longestWay cX2_longestWay 5 (some .int) 2 := ⟨(TS_p5 114 rfl rfl), (TS_p5 115 rfl rfl), (TS_p1 21 rfl rfl), (TS_p5 116 rfl rfl), ⟨by decide, by decide, by decide +kernel⟩⟩
set_option maxRecDepth 100000 in
theorem cv_RX11_302 : CS RX11 302 yX2_hasBeat cX2_hasBeat 3 (some .boolean) 3 := ⟨(TS_p5 121 rfl rfl), (TS_p5 118 rfl rfl), (TS_p1 21 rfl rfl), (TS_p5 119 rfl rfl), ⟨by decide, by decide, by decide +kernel⟩⟩
set_option maxRecDepth 100000 in
theorem cv_RX11_314 : CS RX11 314 yX11_areTwoPlaces cX11_areTwoPlaces 2 (some .boolean) 2 := ⟨(TS_p5 126 rfl rfl), (TS_p5 127 rfl rfl), (TS_p1 1 rfl rfl), (TS_p5 128 rfl rfl), ⟨by decide, by decide, by decide +kernel⟩⟩
set_option maxRecDepth 100000 in
theorem cv_RX11_344 : CS RX11 344 yX2_leastAlikeBase cX2_leastAlikeBase 2 (some .int) 1 := ⟨(TS_p5 175 rfl rfl), (TS_p5 176 rfl rfl), (TS_p1 21 rfl rfl), (TS_p5 177 rfl rfl), ⟨by decide, by decide, by decide +kernel⟩⟩
set_option maxRecDepth 100000 in
theorem cv_RX11_347 : CS RX11 347 yX2_digitSum cX2_digitSum 5 (some .int) 2 := ⟨(TS_p5 181 rfl rfl), (TS_p5 182 rfl rfl), (TS_p1 21 rfl rfl), (TS_p5 183 rfl rfl), ⟨by decide, by decide, by decide +kernel⟩⟩
set_option maxRecDepth 100000 in
theorem cv_RX11_350 : CS RX11 350 yX2_readsAlike cX2_readsAlike 5 (some .boolean) 2 := ⟨(TS_p5 184 rfl rfl), (TS_p5 179 rfl rfl), (TS_p1 21 rfl rfl), (TS_p5 180 rfl rfl), ⟨by decide, by decide, by decide +kernel⟩⟩
set_option maxRecDepth 100000 in
theorem cv_RX11_353 : CS RX11 353 yX2_fewestSquares cX2_fewestSquares 3 (some .int) 1 := ⟨(TS_p5 189 rfl rfl), (TS_p5 190 rfl rfl), (TS_p1 21 rfl rfl), (TS_p5 191 rfl rfl), ⟨by decide, by decide, by decide +kernel⟩⟩
set_option maxRecDepth 100000 in
theorem cv_RX11_356 : CS RX11 356 yX2_waysOfTwoSquares cX2_waysOfTwoSquares 4 (some .int) 1 := ⟨(TS_p5 198 rfl rfl), (TS_p5 196 rfl rfl), (TS_p1 21 rfl rfl), (TS_p5 197 rfl rfl), ⟨by decide, by decide, by decide +kernel⟩⟩
set_option maxRecDepth 100000 in
theorem cv_RX11_362 : CS RX11 362 yX11_tell cX11_tell 4 (some .int) 4 := ⟨(TS_p5 203 rfl rfl), (TS_p5 204 rfl rfl), (TS_p1 1 rfl rfl), (TS_p5 205 rfl rfl), ⟨by decide, by decide, by decide +kernel⟩⟩
set_option maxRecDepth 100000 in
theorem cv_RX2_15 : CS RX2 15 yX2_mirrored cX2_mirrored 6 (some .int) 2 := ⟨(TS_p5 54 rfl rfl), (TS_p5 55 rfl rfl), (TS_p1 21 rfl rfl), (TS_p5 56 rfl rfl), ⟨by decide, by decide, by decide +kernel⟩⟩
set_option maxRecDepth 100000 in
theorem cv_RX2_25 : CS RX2 25 yX2_digitOf cX2_digitOf 4 (some .int) 2 := ⟨(TS_p5 75 rfl rfl), (TS_p5 76 rfl rfl), (TS_p1 21 rfl rfl), (TS_p5 77 rfl rfl), ⟨by decide, by decide, by decide +kernel⟩⟩
set_option maxRecDepth 100000 in
theorem cv_RX2_28 : CS RX2 28 yX2_hasBeat cX2_hasBeat 3 (some .boolean) 3 := ⟨(TS_p5 117 rfl rfl), (TS_p5 118 rfl rfl), (TS_p1 21 rfl rfl), (TS_p5 119 rfl rfl), ⟨by decide, by decide, by decide +kernel⟩⟩
set_option maxRecDepth 100000 in
theorem cv_RX2_35 : CS RX2 35 yX2_readsAlike cX2_readsAlike 5 (some .boolean) 2 := ⟨(TS_p5 178 rfl rfl), (TS_p5 179 rfl rfl), (TS_p1 21 rfl rfl), (TS_p5 180 rfl rfl), ⟨by decide, by decide, by decide +kernel⟩⟩
set_option maxRecDepth 100000 in
theorem cv_RX2_39 : CS RX2 39 yX2_isSquare cX2_isSquare 2 (some .boolean) 1 := ⟨(TS_p5 192 rfl rfl), (TS_p5 193 rfl rfl), (TS_p1 21 rfl rfl), (TS_p5 194 rfl rfl), ⟨by decide, by decide, by decide +kernel⟩⟩
set_option maxRecDepth 100000 in
theorem cv_RX2_43 : CS RX2 43 yX2_waysOfTwoSquares cX2_waysOfTwoSquares 4 (some .int) 1 := ⟨(TS_p5 195 rfl rfl), (TS_p5 196 rfl rfl), (TS_p1 21 rfl rfl), (TS_p5 197 rfl rfl), ⟨by decide, by decide, by decide +kernel⟩⟩
set_option maxRecDepth 100000 in
theorem cv_RX4_126 : CS RX4 126 yX4_cureKind cX4_cureKind 1 (some .int) 1 := ⟨(TS_p4 148 rfl rfl), (TS_p4 149 rfl rfl), (TS_p1 10 rfl rfl), (TS_p4 150 rfl rfl), ⟨by decide, by decide, by decide +kernel⟩⟩
set_option maxRecDepth 100000 in
theorem cv_RX6_43 : CS RX6 43 yX6_isLetter cX6_isLetter 1 (some .boolean) 1 := ⟨(TS_p3 137 rfl rfl), (TS_p3 138 rfl rfl), (TS_p1 11 rfl rfl), (TS_p3 139 rfl rfl), ⟨by decide, by decide, by decide +kernel⟩⟩
set_option maxRecDepth 100000 in
theorem cv_RX6_59 : CS RX6 59 yX6_isDigit cX6_isDigit 1 (some .boolean) 1 := ⟨(TS_p3 205 rfl rfl), (TS_p3 206 rfl rfl), (TS_p1 11 rfl rfl), (TS_p3 207 rfl rfl), ⟨by decide, by decide, by decide +kernel⟩⟩
set_option maxRecDepth 100000 in
theorem cv_RX9_81 : CS RX9 81 yX9_areBelow cX9_areBelow 3 (some .boolean) 2 := ⟨(TS_p5 214 rfl rfl), (TS_p5 215 rfl rfl), (TS_p1 12 rfl rfl), (TS_p5 216 rfl rfl), ⟨by decide, by decide, by decide +kernel⟩⟩
set_option maxRecDepth 100000 in
theorem cv_RX9_85 : CS RX9 85 yX9_leastFree cX9_leastFree 5 (some .int) 3 := ⟨(TS_p5 217 rfl rfl), (TS_p5 218 rfl rfl), (TS_p1 12 rfl rfl), (TS_p5 219 rfl rfl), ⟨by decide, by decide, by decide +kernel⟩⟩
set_option maxRecDepth 100000 in
theorem cv_RX9_89 : CS RX9 89 yX9_isKin cX9_isKin 1 (some .boolean) 1 := ⟨(TS_p5 228 rfl rfl), (TS_p5 229 rfl rfl), (TS_p1 12 rfl rfl), (TS_p5 230 rfl rfl), ⟨by decide, by decide, by decide +kernel⟩⟩
set_option maxRecDepth 100000 in
theorem cv_RX9_99 : CS RX9 99 yX9_isLost cX9_isLost 7 (some .boolean) 3 := ⟨(TS_p6 24 rfl rfl), (TS_p6 25 rfl rfl), (TS_p1 12 rfl rfl), (TS_p6 26 rfl rfl), ⟨by decide, by decide, by decide +kernel⟩⟩
set_option maxRecDepth 100000 in
theorem cv_RJ0_335 : CV RJ0 335 yJ0_coder_7d493 cJ0_coder_7d493 1 (some .byte) 0 := ⟨(TS_p3 153 rfl rfl), (TS_p3 154 rfl rfl), (TS_p3 155 rfl rfl), (TS_p1 15 rfl rfl), (TS_p3 156 rfl rfl), ⟨by decide, by decide, by decide +kernel⟩⟩
set_option maxRecDepth 100000 in
theorem cv_RJ0_492 : CV RJ0 492 yJ0_isLatin1_aae02 cJ0_isLatin1_aae02 1 (some .boolean) 0 := ⟨(TS_p3 163 rfl rfl), (TS_p3 164 rfl rfl), (TS_p3 165 rfl rfl), (TS_p1 15 rfl rfl), (TS_p3 166 rfl rfl), ⟨by decide, by decide, by decide +kernel⟩⟩
set_option maxRecDepth 100000 in
theorem cv_RJ0_505 : CV RJ0 505 yJ0_length_8abf5 cJ0_length_8abf5 1 (some .int) 0 := ⟨(TS_p3 225 rfl rfl), (TS_p3 150 rfl rfl), (TS_p3 151 rfl rfl), (TS_p1 15 rfl rfl), (TS_p3 152 rfl rfl), ⟨by decide, by decide, by decide +kernel⟩⟩
set_option maxRecDepth 100000 in
theorem cv_RJ0_633 : CV RJ0 633 yJ0_indexOf_7cf53 cJ0_indexOf_7cf53 3 (some .int) 2 := ⟨(TS_p3 221 rfl rfl), (TS_p3 222 rfl rfl), (TS_p3 223 rfl rfl), (TS_p1 15 rfl rfl), (TS_p3 224 rfl rfl), ⟨by decide, by decide, by decide +kernel⟩⟩
set_option maxRecDepth 100000 in
theorem cv_RX0_62 : CV RX0 62 yX0_has cX0_has 2 (some .boolean) 1 := ⟨(TS_p4 237 rfl rfl), (TS_p2 216 rfl rfl), (TS_p2 217 rfl rfl), (TS_p1 3 rfl rfl), (TS_p2 218 rfl rfl), ⟨by decide, by decide, by decide +kernel⟩⟩
set_option maxRecDepth 100000 in
theorem cv_RX1_43 : CV RX1 43 yX1_value cX1_value 8 (some .int) 4 := ⟨(TS_p3 12 rfl rfl), (TS_p3 14 rfl rfl), (TS_s1 (n := 8) 3 rfl rfl), (TS_p1 4 rfl rfl), (TS_p3 15 rfl rfl), ⟨by decide, by decide, by decide +kernel⟩⟩
set_option maxRecDepth 100000 in
theorem cv_RX10_103 : CV RX10 103 yX10_cure cX10_cure 5 none 4 := ⟨(TS_p3 83 rfl rfl), (TS_p3 85 rfl rfl), (TS_s1 (n := 7) 7 rfl rfl), (TS_p1 2 rfl rfl), (TS_p3 86 rfl rfl), ⟨by decide, by decide, by decide +kernel⟩⟩
set_option maxRecDepth 100000 in
theorem cv_RX10_113 : CV RX10 113 yX10_stops cX10_stops 5 (some .boolean) 2 := ⟨(TS_p3 90 rfl rfl), (TS_p3 92 rfl rfl), (TS_s1 (n := 7) 8 rfl rfl), (TS_p1 2 rfl rfl), (TS_p3 93 rfl rfl), ⟨by decide, by decide, by decide +kernel⟩⟩
set_option maxRecDepth 100000 in
theorem cv_RX10_117 : CV RX10 117 yX10_speak cX10_speak 5 (some .boolean) 2 := ⟨(TS_p3 100 rfl rfl), (TS_p3 55 rfl rfl), (TS_p3 56 rfl rfl), (TS_p1 2 rfl rfl), (TS_p3 57 rfl rfl), ⟨by decide, by decide, by decide +kernel⟩⟩
set_option maxRecDepth 100000 in
theorem cv_RX10_120 : CV RX10 120 yX0_havers cX0_havers 3 (some .int) 0 := ⟨(TS_p3 101 rfl rfl), (TS_p3 102 rfl rfl), (TS_p3 103 rfl rfl), (TS_p1 3 rfl rfl), (TS_p3 104 rfl rfl), ⟨by decide, by decide, by decide +kernel⟩⟩
set_option maxRecDepth 100000 in
theorem cv_RX10_130 : CV RX10 130 yX1_ask cX1_ask 5 (some .int) 3 := ⟨(TS_p3 8 rfl rfl), (TS_p3 9 rfl rfl), (TS_p3 10 rfl rfl), (TS_p1 4 rfl rfl), (TS_p3 11 rfl rfl), ⟨by decide, by decide, by decide +kernel⟩⟩
set_option maxRecDepth 100000 in
theorem cv_RX10_134 : CV RX10 134 yX0_hiccup cX0_hiccup 3 none 2 := ⟨(TS_p3 36 rfl rfl), (TS_p2 220 rfl rfl), (TS_p2 221 rfl rfl), (TS_p1 3 rfl rfl), (TS_p2 222 rfl rfl), ⟨by decide, by decide, by decide +kernel⟩⟩
set_option maxRecDepth 100000 in
theorem cv_RX10_138 : CV RX10 138 yX0_blame cX0_blame 3 none 2 := ⟨(TS_p3 37 rfl rfl), (TS_p3 38 rfl rfl), (TS_p3 39 rfl rfl), (TS_p1 3 rfl rfl), (TS_p3 40 rfl rfl), ⟨by decide, by decide, by decide +kernel⟩⟩
set_option maxRecDepth 100000 in
theorem cv_RX10_141 : CV RX10 141 yX10_write cX10_write 6 none 4 := ⟨(TS_p3 41 rfl rfl), (TS_p3 43 rfl rfl), (TS_s1 (n := 7) 4 rfl rfl), (TS_p1 2 rfl rfl), (TS_p3 44 rfl rfl), ⟨by decide, by decide, by decide +kernel⟩⟩
set_option maxRecDepth 100000 in
theorem cv_RX10_144 : CV RX10 144 yX10_frighten cX10_frighten 3 none 2 := ⟨(TS_p3 87 rfl rfl), (TS_p3 46 rfl rfl), (TS_p3 47 rfl rfl), (TS_p1 2 rfl rfl), (TS_p3 48 rfl rfl), ⟨by decide, by decide, by decide +kernel⟩⟩
set_option maxRecDepth 100000 in
theorem cv_RX10_148 : CV RX10 148 yX10_handOn cX10_handOn 4 none 3 := ⟨(TS_p3 88 rfl rfl), (TS_p3 50 rfl rfl), (TS_p3 51 rfl rfl), (TS_p1 2 rfl rfl), (TS_p3 52 rfl rfl), ⟨by decide, by decide, by decide +kernel⟩⟩
set_option maxRecDepth 100000 in
theorem cv_RX10_167 : CV RX10 167 yX0_draw cX0_draw 2 (some .int) 1 := ⟨(TS_p3 94 rfl rfl), (TS_p3 95 rfl rfl), (TS_p3 96 rfl rfl), (TS_p1 3 rfl rfl), (TS_p3 97 rfl rfl), ⟨by decide, by decide, by decide +kernel⟩⟩
set_option maxRecDepth 100000 in
theorem cv_RX10_174 : CV RX10 174 yX3_firstUntried cX3_firstUntried 6 (some .int) 3 := ⟨(TS_p3 62 rfl rfl), (TS_p3 63 rfl rfl), (TS_p3 64 rfl rfl), (TS_p1 6 rfl rfl), (TS_p3 65 rfl rfl), ⟨by decide, by decide, by decide +kernel⟩⟩
set_option maxRecDepth 100000 in
theorem cv_RX10_178 : CV RX10 178 yX10_nextName cX10_nextName 3 (some .int) 2 := ⟨(TS_p3 58 rfl rfl), (TS_p3 59 rfl rfl), (TS_p3 60 rfl rfl), (TS_p1 2 rfl rfl), (TS_p3 61 rfl rfl), ⟨by decide, by decide, by decide +kernel⟩⟩
set_option maxRecDepth 100000 in
theorem cv_RX10_55 : CV RX10 55 yX0_copyFrom cX0_copyFrom 3 none 1 := ⟨(TS_p6 39 rfl rfl), (TS_p3 0 rfl rfl), (TS_p3 1 rfl rfl), (TS_p1 3 rfl rfl), (TS_p3 2 rfl rfl), ⟨by decide, by decide, by decide +kernel⟩⟩
set_option maxRecDepth 100000 in
theorem cv_RX10_59 : CV RX10 59 yX1_copyFrom cX1_copyFrom 2 none 1 := ⟨(TS_p6 40 rfl rfl), (TS_p4 114 rfl rfl), (TS_p4 115 rfl rfl), (TS_p1 4 rfl rfl), (TS_p4 116 rfl rfl), ⟨by decide, by decide, by decide +kernel⟩⟩
set_option maxRecDepth 100000 in
theorem cv_RX10_62 : CV RX10 62 yX5_copyFrom cX5_copyFrom 2 none 1 := ⟨(TS_p6 41 rfl rfl), (TS_p4 164 rfl rfl), (TS_p4 165 rfl rfl), (TS_p1 5 rfl rfl), (TS_p4 166 rfl rfl), ⟨by decide, by decide, by decide +kernel⟩⟩
set_option maxRecDepth 100000 in
theorem cv_RX10_65 : CV RX10 65 yX3_copyFrom cX3_copyFrom 2 none 1 := ⟨(TS_p6 42 rfl rfl), (TS_p4 189 rfl rfl), (TS_p4 190 rfl rfl), (TS_p1 6 rfl rfl), (TS_p4 191 rfl rfl), ⟨by decide, by decide, by decide +kernel⟩⟩
set_option maxRecDepth 100000 in
theorem cv_RX10_68 : CV RX10 68 yX8_copyFrom cX8_copyFrom 2 none 1 := ⟨(TS_p6 43 rfl rfl), (TS_p6 44 rfl rfl), (TS_p6 45 rfl rfl), (TS_p1 7 rfl rfl), (TS_p6 46 rfl rfl), ⟨by decide, by decide, by decide +kernel⟩⟩
set_option maxRecDepth 100000 in
theorem cv_RX10_89 : CV RX10 89 yX0_has cX0_has 2 (some .boolean) 1 := ⟨(TS_p3 53 rfl rfl), (TS_p2 216 rfl rfl), (TS_p2 217 rfl rfl), (TS_p1 3 rfl rfl), (TS_p2 218 rfl rfl), ⟨by decide, by decide, by decide +kernel⟩⟩
set_option maxRecDepth 100000 in
theorem cv_RX10_96 : CV RX10 96 yX10_nameOne cX10_nameOne 4 none 3 := ⟨(TS_p3 82 rfl rfl), (TS_p3 5 rfl rfl), (TS_p3 6 rfl rfl), (TS_p1 2 rfl rfl), (TS_p3 7 rfl rfl), ⟨by decide, by decide, by decide +kernel⟩⟩
set_option maxRecDepth 100000 in
theorem cv_RX11_100 : CV RX11 100 yX10_handOn cX10_handOn 4 none 3 := ⟨(TS_p3 49 rfl rfl), (TS_p3 50 rfl rfl), (TS_p3 51 rfl rfl), (TS_p1 2 rfl rfl), (TS_p3 52 rfl rfl), ⟨by decide, by decide, by decide +kernel⟩⟩
set_option maxRecDepth 100000 in
theorem cv_RX11_103 : CV RX11 103 yX10_speak cX10_speak 5 (some .boolean) 2 := ⟨(TS_p3 54 rfl rfl), (TS_p3 55 rfl rfl), (TS_p3 56 rfl rfl), (TS_p1 2 rfl rfl), (TS_p3 57 rfl rfl), ⟨by decide, by decide, by decide +kernel⟩⟩
set_option maxRecDepth 100000 in
theorem cv_RX11_110 : CV RX11 110 yX10_passMinute cX10_passMinute 4 (some .int) 1 := ⟨(TS_p3 78 rfl rfl), (TS_p3 79 rfl rfl), (TS_p3 80 rfl rfl), (TS_p1 2 rfl rfl), (TS_p3 81 rfl rfl), ⟨by decide, by decide, by decide +kernel⟩⟩
set_option maxRecDepth 100000 in
theorem cv_RX11_118 : CV RX11 118 yX6_hasSpace cX6_hasSpace 2 (some .boolean) 1 := ⟨(TS_p3 109 rfl rfl), (TS_p3 110 rfl rfl), (TS_p3 111 rfl rfl), (TS_p1 11 rfl rfl), (TS_p3 112 rfl rfl), ⟨by decide, by decide, by decide +kernel⟩⟩
set_option maxRecDepth 100000 in
theorem cv_RX11_123 : CV RX11 123 yX6_put cX6_put 3 none 1 := ⟨(TS_p3 113 rfl rfl), (TS_p3 114 rfl rfl), (TS_p3 115 rfl rfl), (TS_p1 11 rfl rfl), (TS_p3 116 rfl rfl), ⟨by decide, by decide, by decide +kernel⟩⟩
set_option maxRecDepth 100000 in
theorem cv_RX11_130 : CV RX11 130 yX6_cut cX6_cut 2 (some .boolean) 1 := ⟨(TS_p3 121 rfl rfl), (TS_p3 122 rfl rfl), (TS_p3 123 rfl rfl), (TS_p1 11 rfl rfl), (TS_p3 124 rfl rfl), ⟨by decide, by decide, by decide +kernel⟩⟩
set_option maxRecDepth 100000 in
theorem cv_RX11_133 : CV RX11 133 yX4_begin cX4_begin 2 none 1 := ⟨(TS_p3 129 rfl rfl), (TS_p3 130 rfl rfl), (TS_p3 131 rfl rfl), (TS_p1 10 rfl rfl), (TS_p3 132 rfl rfl), ⟨by decide, by decide, by decide +kernel⟩⟩
set_option maxRecDepth 100000 in
theorem cv_RX11_140 : CV RX11 140 yX4_readLaw cX4_readLaw 4 (some .int) 1 := ⟨(TS_p4 36 rfl rfl), (TS_p4 37 rfl rfl), (TS_p4 38 rfl rfl), (TS_p1 10 rfl rfl), (TS_p4 39 rfl rfl), ⟨by decide, by decide, by decide +kernel⟩⟩
set_option maxRecDepth 100000 in
theorem cv_RX11_148 : CV RX11 148 yX4_readPlan cX4_readPlan 4 (some .int) 2 := ⟨(TS_p4 120 rfl rfl), (TS_p4 121 rfl rfl), (TS_p4 122 rfl rfl), (TS_p1 10 rfl rfl), (TS_p4 123 rfl rfl), ⟨by decide, by decide, by decide +kernel⟩⟩
set_option maxRecDepth 100000 in
theorem cv_RX11_159 : CV RX11 159 yX4_readOrders cX4_readOrders 3 (some .int) 1 := ⟨(TS_p4 168 rfl rfl), (TS_p4 169 rfl rfl), (TS_p4 170 rfl rfl), (TS_p1 10 rfl rfl), (TS_p4 171 rfl rfl), ⟨by decide, by decide, by decide +kernel⟩⟩
set_option maxRecDepth 100000 in
theorem cv_RX11_169 : CV RX11 169 yX3_nameAt cX3_nameAt 5 (some .int) 3 := ⟨(TS_p4 202 rfl rfl), (TS_p4 203 rfl rfl), (TS_p4 204 rfl rfl), (TS_p1 6 rfl rfl), (TS_p4 205 rfl rfl), ⟨by decide, by decide, by decide +kernel⟩⟩
set_option maxRecDepth 100000 in
theorem cv_RX11_175 : CV RX11 175 yX0_told cX0_told 3 (some .int) 2 := ⟨(TS_p4 206 rfl rfl), (TS_p4 207 rfl rfl), (TS_p4 208 rfl rfl), (TS_p1 3 rfl rfl), (TS_p4 209 rfl rfl), ⟨by decide, by decide, by decide +kernel⟩⟩
set_option maxRecDepth 100000 in
theorem cv_RX11_179 : CV RX11 179 yX1_ask cX1_ask 5 (some .int) 3 := ⟨(TS_p4 210 rfl rfl), (TS_p3 9 rfl rfl), (TS_p3 10 rfl rfl), (TS_p1 4 rfl rfl), (TS_p3 11 rfl rfl), ⟨by decide, by decide, by decide +kernel⟩⟩
set_option maxRecDepth 100000 in
theorem cv_RX11_185 : CV RX11 185 yX10_nextName cX10_nextName 3 (some .int) 2 := ⟨(TS_p4 211 rfl rfl), (TS_p3 59 rfl rfl), (TS_p3 60 rfl rfl), (TS_p1 2 rfl rfl), (TS_p3 61 rfl rfl), ⟨by decide, by decide, by decide +kernel⟩⟩
set_option maxRecDepth 100000 in
theorem cv_RX11_195 : CV RX11 195 yX0_copyFrom cX0_copyFrom 3 none 1 := ⟨(TS_p2 239 rfl rfl), (TS_p3 0 rfl rfl), (TS_p3 1 rfl rfl), (TS_p1 3 rfl rfl), (TS_p3 2 rfl rfl), ⟨by decide, by decide, by decide +kernel⟩⟩
set_option maxRecDepth 100000 in
theorem cv_RX11_202 : CV RX11 202 yX0_sum cX0_sum 4 (some .int) 1 := ⟨(TS_p4 220 rfl rfl), (TS_p4 221 rfl rfl), (TS_p4 222 rfl rfl), (TS_p1 3 rfl rfl), (TS_p4 223 rfl rfl), ⟨by decide, by decide, by decide +kernel⟩⟩
set_option maxRecDepth 100000 in
theorem cv_RX11_215 : CV RX11 215 yX0_havers cX0_havers 3 (some .int) 0 := ⟨(TS_p4 228 rfl rfl), (TS_p3 102 rfl rfl), (TS_p3 103 rfl rfl), (TS_p1 3 rfl rfl), (TS_p3 104 rfl rfl), ⟨by decide, by decide, by decide +kernel⟩⟩
set_option maxRecDepth 100000 in
theorem cv_RX11_219 : CV RX11 219 yX0_stepsBack cX0_stepsBack 6 (some .int) 1 := ⟨(TS_p4 233 rfl rfl), (TS_p4 234 rfl rfl), (TS_p4 235 rfl rfl), (TS_p1 3 rfl rfl), (TS_p4 236 rfl rfl), ⟨by decide, by decide, by decide +kernel⟩⟩
set_option maxRecDepth 100000 in
theorem cv_RX11_232 : CV RX11 232 yX7_clear cX7_clear 1 (some .int) 0 := ⟨(TS_p5 2 rfl rfl), (TS_p5 3 rfl rfl), (TS_p5 4 rfl rfl), (TS_p1 8 rfl rfl), (TS_p5 5 rfl rfl), ⟨by decide, by decide, by decide +kernel⟩⟩
set_option maxRecDepth 100000 in
theorem cv_RX11_237 : CV RX11 237 yX7_isFull cX7_isFull 1 (some .boolean) 0 := ⟨(TS_p5 6 rfl rfl), (TS_p5 7 rfl rfl), (TS_p5 8 rfl rfl), (TS_p1 8 rfl rfl), (TS_p5 9 rfl rfl), ⟨by decide, by decide, by decide +kernel⟩⟩
set_option maxRecDepth 100000 in
theorem cv_RX11_241 : CV RX11 241 yX7_add cX7_add 2 (some .int) 1 := ⟨(TS_p5 10 rfl rfl), (TS_p5 11 rfl rfl), (TS_p5 12 rfl rfl), (TS_p1 8 rfl rfl), (TS_p5 13 rfl rfl), ⟨by decide, by decide, by decide +kernel⟩⟩
set_option maxRecDepth 100000 in
theorem cv_RX11_244 : CV RX11 244 yX9_greatestSum cX9_greatestSum 8 (some .int) 2 := ⟨(TS_p5 19 rfl rfl), (TS_p5 20 rfl rfl), (TS_p5 21 rfl rfl), (TS_p1 12 rfl rfl), (TS_p5 22 rfl rfl), ⟨by decide, by decide, by decide +kernel⟩⟩
set_option maxRecDepth 100000 in
theorem cv_RX11_251 : CV RX11 251 yX9_lessToRight cX9_lessToRight 4 (some .int) 2 := ⟨(TS_p5 33 rfl rfl), (TS_p5 34 rfl rfl), (TS_p5 35 rfl rfl), (TS_p1 12 rfl rfl), (TS_p5 36 rfl rfl), ⟨by decide, by decide, by decide +kernel⟩⟩
set_option maxRecDepth 100000 in
theorem cv_RX11_255 : CV RX11 255 yX9_lessToLeft cX9_lessToLeft 5 (some .int) 3 := ⟨(TS_p5 37 rfl rfl), (TS_p5 38 rfl rfl), (TS_p5 39 rfl rfl), (TS_p1 12 rfl rfl), (TS_p5 40 rfl rfl), ⟨by decide, by decide, by decide +kernel⟩⟩
set_option maxRecDepth 100000 in
theorem cv_RX11_286 : CV RX11 286 yX9_greatestWorth cX9_greatestWorth 2 (some .int) 1 := ⟨(TS_p5 86 rfl rfl), (TS_p5 87 rfl rfl), (TS_p5 88 rfl rfl), (TS_p1 12 rfl rfl), (TS_p5 89 rfl rfl), ⟨by decide, by decide, by decide +kernel⟩⟩
set_option maxRecDepth 100000 in
theorem cv_RX11_290 : CV RX11 290 yX9_fewestCalls cX9_fewestCalls 3 (some .int) 1 := ⟨(TS_p5 94 rfl rfl), (TS_p5 95 rfl rfl), (TS_p5 96 rfl rfl), (TS_p1 12 rfl rfl), (TS_p5 97 rfl rfl), ⟨by decide, by decide, by decide +kernel⟩⟩
set_option maxRecDepth 100000 in
theorem cv_RX11_293 : CV RX11 293 yX9_minutesInCalls cX9_minutesInCalls 4 (some .int) 1 := ⟨(TS_p5 98 rfl rfl), (TS_p5 99 rfl rfl), (TS_p5 100 rfl rfl), (TS_p1 12 rfl rfl), (TS_p5 101 rfl rfl), ⟨by decide, by decide, by decide +kernel⟩⟩
set_option maxRecDepth 100000 in
theorem cv_RX11_296 : CV RX11 296 yX9_callsAtOnce cX9_callsAtOnce 4 (some .int) 1 := ⟨(TS_p5 106 rfl rfl), (TS_p5 107 rfl rfl), (TS_p5 108 rfl rfl), (TS_p1 12 rfl rfl), (TS_p5 109 rfl rfl), ⟨by decide, by decide, by decide +kernel⟩⟩
set_option maxRecDepth 100000 in
theorem cv_RX11_318 : CV RX11 318 yX9_leastCut cX9_leastCut 7 (some .int) 4 := ⟨(TS_p5 133 rfl rfl), (TS_p5 134 rfl rfl), (TS_p5 135 rfl rfl), (TS_p1 12 rfl rfl), (TS_p5 136 rfl rfl), ⟨by decide, by decide, by decide +kernel⟩⟩
set_option maxRecDepth 100000 in
theorem cv_RX11_322 : CV RX11 322 yX8_termRow cX8_termRow 2 (some (.object "HiccupLane$Row")) 1 := ⟨(TS_p5 145 rfl rfl), (TS_p5 146 rfl rfl), (TS_p5 147 rfl rfl), (TS_p1 7 rfl rfl), (TS_p5 148 rfl rfl), ⟨by decide, by decide, by decide +kernel⟩⟩
set_option maxRecDepth 100000 in
theorem cv_RX11_327 : CV RX11 327 yX9_valueAt cX9_valueAt 5 (some .int) 2 := ⟨(TS_p5 154 rfl rfl), (TS_p5 155 rfl rfl), (TS_p5 156 rfl rfl), (TS_p1 12 rfl rfl), (TS_p5 157 rfl rfl), ⟨by decide, by decide, by decide +kernel⟩⟩
set_option maxRecDepth 100000 in
theorem cv_RX11_330 : CV RX11 330 yX9_zeros cX9_zeros 4 (some .int) 1 := ⟨(TS_p5 162 rfl rfl), (TS_p5 163 rfl rfl), (TS_p5 164 rfl rfl), (TS_p1 12 rfl rfl), (TS_p5 165 rfl rfl), ⟨by decide, by decide, by decide +kernel⟩⟩
set_option maxRecDepth 100000 in
theorem cv_RX11_340 : CV RX11 340 yX9_productTerm cX9_productTerm 7 (some .int) 3 := ⟨(TS_p5 167 rfl rfl), (TS_p5 168 rfl rfl), (TS_p5 169 rfl rfl), (TS_p1 12 rfl rfl), (TS_p5 170 rfl rfl), ⟨by decide, by decide, by decide +kernel⟩⟩
set_option maxRecDepth 100000 in
theorem cv_RX11_366 : CV RX11 366 yX9_growTree cX9_growTree 6 (some .boolean) 1 := ⟨(TS_p5 210 rfl rfl), (TS_p5 211 rfl rfl), (TS_p5 212 rfl rfl), (TS_p1 12 rfl rfl), (TS_p5 213 rfl rfl), ⟨by decide, by decide, by decide +kernel⟩⟩
set_option maxRecDepth 100000 in
theorem cv_RX11_370 : CV RX11 370 yX9_joinedTo cX9_joinedTo 5 (some .int) 2 := ⟨(TS_p5 220 rfl rfl), (TS_p5 221 rfl rfl), (TS_p5 222 rfl rfl), (TS_p1 12 rfl rfl), (TS_p5 223 rfl rfl), ⟨by decide, by decide, by decide +kernel⟩⟩
set_option maxRecDepth 100000 in
theorem cv_RX11_373 : CV RX11 373 yX9_joiningsBetween cX9_joiningsBetween 7 (some .int) 2 := ⟨(TS_p5 224 rfl rfl), (TS_p5 225 rfl rfl), (TS_p5 226 rfl rfl), (TS_p1 12 rfl rfl), (TS_p5 227 rfl rfl), ⟨by decide, by decide, by decide +kernel⟩⟩
set_option maxRecDepth 100000 in
theorem cv_RX11_379 : CV RX11 379 yX9_waysUp cX9_waysUp 7 (some .int) 3 := ⟨(TS_p5 239 rfl rfl), (TS_p6 0 rfl rfl), (TS_p6 1 rfl rfl), (TS_p1 12 rfl rfl), (TS_p6 2 rfl rfl), ⟨by decide, by decide, by decide +kernel⟩⟩
set_option maxRecDepth 100000 in
theorem cv_RX11_383 : CV RX11 383 yX9_fewestGoings cX9_fewestGoings 8 (some .int) 3 := ⟨(TS_p6 8 rfl rfl), (TS_p6 9 rfl rfl), (TS_p6 10 rfl rfl), (TS_p1 12 rfl rfl), (TS_p6 11 rfl rfl), ⟨by decide, by decide, by decide +kernel⟩⟩
set_option maxRecDepth 100000 in
theorem cv_RX11_389 : CV RX11 389 yX9_winningMove cX9_winningMove 4 (some .int) 1 := ⟨(TS_p6 20 rfl rfl), (TS_p6 21 rfl rfl), (TS_p6 22 rfl rfl), (TS_p1 12 rfl rfl), (TS_p6 23 rfl rfl), ⟨by decide, by decide, by decide +kernel⟩⟩
set_option maxRecDepth 100000 in
theorem cv_RX11_392 : CV RX11 392 yX10_copyFrom cX10_copyFrom 2 none 1 := ⟨(TS_p6 35 rfl rfl), (TS_p6 36 rfl rfl), (TS_p6 37 rfl rfl), (TS_p1 2 rfl rfl), (TS_p6 38 rfl rfl), ⟨by decide, by decide, by decide +kernel⟩⟩
set_option maxRecDepth 100000 in
theorem cv_RX11_63 : CV RX11 63 yX11_forget cX11_forget 1 none 0 := ⟨(TS_p2 199 rfl rfl), (TS_p2 201 rfl rfl), (TS_s1 (n := 9) 0 rfl rfl), (TS_p1 1 rfl rfl), (TS_p2 202 rfl rfl), ⟨by decide, by decide, by decide +kernel⟩⟩
set_option maxRecDepth 100000 in
theorem cv_RX11_69 : CV RX11 69 yX0_welcome cX0_welcome 3 (some .int) 1 := ⟨(TS_p2 207 rfl rfl), (TS_p2 208 rfl rfl), (TS_p2 209 rfl rfl), (TS_p1 3 rfl rfl), (TS_p2 210 rfl rfl), ⟨by decide, by decide, by decide +kernel⟩⟩
set_option maxRecDepth 100000 in
theorem cv_RX11_73 : CV RX11 73 yX0_has cX0_has 2 (some .boolean) 1 := ⟨(TS_p2 215 rfl rfl), (TS_p2 216 rfl rfl), (TS_p2 217 rfl rfl), (TS_p1 3 rfl rfl), (TS_p2 218 rfl rfl), ⟨by decide, by decide, by decide +kernel⟩⟩
set_option maxRecDepth 100000 in
theorem cv_RX11_81 : CV RX11 81 yX0_hiccup cX0_hiccup 3 none 2 := ⟨(TS_p2 219 rfl rfl), (TS_p2 220 rfl rfl), (TS_p2 221 rfl rfl), (TS_p1 3 rfl rfl), (TS_p2 222 rfl rfl), ⟨by decide, by decide, by decide +kernel⟩⟩
set_option maxRecDepth 100000 in
theorem cv_RX11_85 : CV RX11 85 yX11_canAct cX11_canAct 6 (some .boolean) 3 := ⟨(TS_p2 231 rfl rfl), (TS_p2 233 rfl rfl), (TS_s1 (n := 9) 1 rfl rfl), (TS_p1 1 rfl rfl), (TS_p2 234 rfl rfl), ⟨by decide, by decide, by decide +kernel⟩⟩
set_option maxRecDepth 100000 in
theorem cv_RX11_89 : CV RX11 89 yX11_keep cX11_keep 1 none 0 := ⟨(TS_p2 235 rfl rfl), (TS_p2 237 rfl rfl), (TS_s1 (n := 9) 2 rfl rfl), (TS_p1 1 rfl rfl), (TS_p2 238 rfl rfl), ⟨by decide, by decide, by decide +kernel⟩⟩
set_option maxRecDepth 100000 in
theorem cv_RX11_92 : CV RX11 92 yX10_nameOne cX10_nameOne 4 none 3 := ⟨(TS_p3 4 rfl rfl), (TS_p3 5 rfl rfl), (TS_p3 6 rfl rfl), (TS_p1 2 rfl rfl), (TS_p3 7 rfl rfl), ⟨by decide, by decide, by decide +kernel⟩⟩
set_option maxRecDepth 100000 in
theorem cv_RX11_96 : CV RX11 96 yX10_frighten cX10_frighten 3 none 2 := ⟨(TS_p3 45 rfl rfl), (TS_p3 46 rfl rfl), (TS_p3 47 rfl rfl), (TS_p1 2 rfl rfl), (TS_p3 48 rfl rfl), ⟨by decide, by decide, by decide +kernel⟩⟩
set_option maxRecDepth 100000 in
theorem cv_RX12_137 : CV RX12 137 yX12_isIn cX12_isIn 4 (some .boolean) 3 := ⟨(TS_p7 32 rfl rfl), (TS_p7 34 rfl rfl), (TS_s3 (n := 65) 7 rfl rfl), (TS_p1 13 rfl rfl), (TS_p7 35 rfl rfl), ⟨by decide, by decide, by decide +kernel⟩⟩
set_option maxRecDepth 100000 in
theorem cv_RX12_141 : CV RX12 141 yX12_isPerson cX12_isPerson 2 (some .boolean) 1 := ⟨(TS_p7 40 rfl rfl), (TS_p7 42 rfl rfl), (TS_s3 (n := 65) 8 rfl rfl), (TS_p1 13 rfl rfl), (TS_p7 43 rfl rfl), ⟨by decide, by decide, by decide +kernel⟩⟩
set_option maxRecDepth 100000 in
theorem cv_RX12_145 : CV RX12 145 yX12_hasThen cX12_hasThen 3 none 2 := ⟨(TS_p7 44 rfl rfl), (TS_p7 46 rfl rfl), (TS_s3 (n := 65) 9 rfl rfl), (TS_p1 13 rfl rfl), (TS_p7 47 rfl rfl), ⟨by decide, by decide, by decide +kernel⟩⟩
set_option maxRecDepth 100000 in
theorem cv_RX12_152 : CV RX12 152 yX12_types cX12_types 3 none 1 := ⟨(TS_p7 52 rfl rfl), (TS_p7 54 rfl rfl), (TS_s3 (n := 65) 10 rfl rfl), (TS_p1 13 rfl rfl), (TS_p7 55 rfl rfl), ⟨by decide, by decide, by decide +kernel⟩⟩
set_option maxRecDepth 100000 in
theorem cv_RX12_159 : CV RX12 159 yX12_raw cX12_raw 2 (some .int) 1 := ⟨(TS_p7 72 rfl rfl), (TS_p7 74 rfl rfl), (TS_s3 (n := 65) 13 rfl rfl), (TS_p1 13 rfl rfl), (TS_p7 75 rfl rfl), ⟨by decide, by decide, by decide +kernel⟩⟩
set_option maxRecDepth 100000 in
theorem cv_RX12_172 : CV RX12 172 yX12_isLetter cX12_isLetter 2 (some .boolean) 1 := ⟨(TS_p7 76 rfl rfl), (TS_p7 78 rfl rfl), (TS_s3 (n := 65) 14 rfl rfl), (TS_p1 13 rfl rfl), (TS_p7 79 rfl rfl), ⟨by decide, by decide, by decide +kernel⟩⟩
set_option maxRecDepth 100000 in
theorem cv_RX12_175 : CV RX12 175 yX12_wordAt cX12_wordAt 6 (some .int) 2 := ⟨(TS_p7 80 rfl rfl), (TS_p7 82 rfl rfl), (TS_s3 (n := 65) 15 rfl rfl), (TS_p1 13 rfl rfl), (TS_p7 83 rfl rfl), ⟨by decide, by decide, by decide +kernel⟩⟩
set_option maxRecDepth 100000 in
theorem cv_RX12_179 : CV RX12 179 yX12_isDigit cX12_isDigit 2 (some .boolean) 1 := ⟨(TS_p7 84 rfl rfl), (TS_p7 86 rfl rfl), (TS_s4 (n := 65) 0 rfl rfl), (TS_p1 13 rfl rfl), (TS_p7 87 rfl rfl), ⟨by decide, by decide, by decide +kernel⟩⟩
set_option maxRecDepth 100000 in
theorem cv_RX12_182 : CV RX12 182 yX12_isMarkSign cX12_isMarkSign 2 (some .boolean) 1 := ⟨(TS_p7 88 rfl rfl), (TS_p7 90 rfl rfl), (TS_s4 (n := 65) 1 rfl rfl), (TS_p1 13 rfl rfl), (TS_p7 91 rfl rfl), ⟨by decide, by decide, by decide +kernel⟩⟩
set_option maxRecDepth 100000 in
theorem cv_RX12_194 : CV RX12 194 yX12_canAsk cX12_canAsk 2 (some .boolean) 1 := ⟨(TS_p7 164 rfl rfl), (TS_p7 166 rfl rfl), (TS_s5 (n := 65) 4 rfl rfl), (TS_p1 13 rfl rfl), (TS_p7 167 rfl rfl), ⟨by decide, by decide, by decide +kernel⟩⟩
set_option maxRecDepth 100000 in
theorem cv_RX12_197 : CV RX12 197 yX12_errs cX12_errs 2 (some .int) 1 := ⟨(TS_p7 100 rfl rfl), (TS_p7 102 rfl rfl), (TS_s4 (n := 65) 4 rfl rfl), (TS_p1 13 rfl rfl), (TS_p7 103 rfl rfl), ⟨by decide, by decide, by decide +kernel⟩⟩
set_option maxRecDepth 100000 in
theorem cv_RX12_200 : CV RX12 200 yX12_emits cX12_emits 3 none 2 := ⟨(TS_p7 168 rfl rfl), (TS_p7 170 rfl rfl), (TS_s5 (n := 65) 5 rfl rfl), (TS_p1 13 rfl rfl), (TS_p7 171 rfl rfl), ⟨by decide, by decide, by decide +kernel⟩⟩
set_option maxRecDepth 100000 in
theorem cv_RX12_203 : CV RX12 203 yX12_reads cX12_reads 2 none 0 := ⟨(TS_p7 68 rfl rfl), (TS_p7 70 rfl rfl), (TS_s3 (n := 65) 12 rfl rfl), (TS_p1 13 rfl rfl), (TS_p7 71 rfl rfl), ⟨by decide, by decide, by decide +kernel⟩⟩
set_option maxRecDepth 100000 in
theorem cv_RX12_206 : CV RX12 206 yX12_readUnit cX12_readUnit 2 (some .int) 0 := ⟨(TS_p7 160 rfl rfl), (TS_p7 162 rfl rfl), (TS_s5 (n := 65) 3 rfl rfl), (TS_p1 13 rfl rfl), (TS_p7 163 rfl rfl), ⟨by decide, by decide, by decide +kernel⟩⟩
set_option maxRecDepth 100000 in
theorem cv_RX12_210 : CV RX12 210 yX12_isSign cX12_isSign 2 (some .boolean) 1 := ⟨(TS_p7 124 rfl rfl), (TS_p7 126 rfl rfl), (TS_s4 (n := 65) 10 rfl rfl), (TS_p1 13 rfl rfl), (TS_p7 127 rfl rfl), ⟨by decide, by decide, by decide +kernel⟩⟩
set_option maxRecDepth 100000 in
theorem cv_RX12_213 : CV RX12 213 yX12_readProduct cX12_readProduct 2 (some .int) 0 := ⟨(TS_p7 156 rfl rfl), (TS_p7 158 rfl rfl), (TS_s5 (n := 65) 2 rfl rfl), (TS_p1 13 rfl rfl), (TS_p7 159 rfl rfl), ⟨by decide, by decide, by decide +kernel⟩⟩
set_option maxRecDepth 100000 in
theorem cv_RX12_216 : CV RX12 216 yX12_readSum cX12_readSum 2 (some .int) 0 := ⟨(TS_p7 152 rfl rfl), (TS_p7 154 rfl rfl), (TS_s5 (n := 65) 1 rfl rfl), (TS_p1 13 rfl rfl), (TS_p7 155 rfl rfl), ⟨by decide, by decide, by decide +kernel⟩⟩
set_option maxRecDepth 100000 in
theorem cv_RX12_225 : CV RX12 225 yX12_isWord cX12_isWord 2 (some .boolean) 1 := ⟨(TS_p7 96 rfl rfl), (TS_p7 98 rfl rfl), (TS_s4 (n := 65) 3 rfl rfl), (TS_p1 13 rfl rfl), (TS_p7 99 rfl rfl), ⟨by decide, by decide, by decide +kernel⟩⟩
set_option maxRecDepth 100000 in
theorem cv_RX12_228 : CV RX12 228 yX12_waits cX12_waits 2 none 1 := ⟨(TS_p7 176 rfl rfl), (TS_p7 178 rfl rfl), (TS_s5 (n := 65) 7 rfl rfl), (TS_p1 13 rfl rfl), (TS_p7 179 rfl rfl), ⟨by decide, by decide, by decide +kernel⟩⟩
set_option maxRecDepth 100000 in
theorem cv_RX12_231 : CV RX12 231 yX12_readCompared cX12_readCompared 2 (some .int) 0 := ⟨(TS_p7 180 rfl rfl), (TS_p7 182 rfl rfl), (TS_s5 (n := 65) 8 rfl rfl), (TS_p1 13 rfl rfl), (TS_p7 183 rfl rfl), ⟨by decide, by decide, by decide +kernel⟩⟩
set_option maxRecDepth 100000 in
theorem cv_RX12_234 : CV RX12 234 yX12_settles cX12_settles 2 none 1 := ⟨(TS_p7 184 rfl rfl), (TS_p7 186 rfl rfl), (TS_s5 (n := 65) 9 rfl rfl), (TS_p1 13 rfl rfl), (TS_p7 187 rfl rfl), ⟨by decide, by decide, by decide +kernel⟩⟩
set_option maxRecDepth 100000 in
theorem cv_RX12_237 : CV RX12 237 yX12_isLineWord cX12_isLineWord 1 (some .boolean) 0 := ⟨(TS_p7 148 rfl rfl), (TS_p7 150 rfl rfl), (TS_s5 (n := 65) 0 rfl rfl), (TS_p1 13 rfl rfl), (TS_p7 151 rfl rfl), ⟨by decide, by decide, by decide +kernel⟩⟩
set_option maxRecDepth 100000 in
theorem cv_RX12_241 : CV RX12 241 yX12_readAny cX12_readAny 4 (some .int) 0 := ⟨(TS_p7 172 rfl rfl), (TS_p7 174 rfl rfl), (TS_s5 (n := 65) 6 rfl rfl), (TS_p1 13 rfl rfl), (TS_p7 175 rfl rfl), ⟨by decide, by decide, by decide +kernel⟩⟩
set_option maxRecDepth 100000 in
theorem cv_RX12_247 : CV RX12 247 yX12_readNumber cX12_readNumber 4 (some .int) 2 := ⟨(TS_p7 112 rfl rfl), (TS_p7 114 rfl rfl), (TS_s4 (n := 65) 7 rfl rfl), (TS_p1 13 rfl rfl), (TS_p7 115 rfl rfl), ⟨by decide, by decide, by decide +kernel⟩⟩
set_option maxRecDepth 100000 in
theorem cv_RX12_250 : CV RX12 250 yX12_readTold cX12_readTold 4 (some .int) 3 := ⟨(TS_p7 108 rfl rfl), (TS_p7 110 rfl rfl), (TS_s4 (n := 65) 6 rfl rfl), (TS_p1 13 rfl rfl), (TS_p7 111 rfl rfl), ⟨by decide, by decide, by decide +kernel⟩⟩
set_option maxRecDepth 100000 in
theorem cv_RX12_254 : CV RX12 254 yX12_readOther cX12_readOther 2 (some .int) 1 := ⟨(TS_p7 116 rfl rfl), (TS_p7 118 rfl rfl), (TS_s4 (n := 65) 8 rfl rfl), (TS_p1 13 rfl rfl), (TS_p7 119 rfl rfl), ⟨by decide, by decide, by decide +kernel⟩⟩
set_option maxRecDepth 100000 in
theorem cv_RX12_257 : CV RX12 257 yX12_readMark cX12_readMark 2 (some .int) 1 := ⟨(TS_p7 120 rfl rfl), (TS_p7 122 rfl rfl), (TS_s4 (n := 65) 9 rfl rfl), (TS_p1 13 rfl rfl), (TS_p7 123 rfl rfl), ⟨by decide, by decide, by decide +kernel⟩⟩
set_option maxRecDepth 100000 in
theorem cv_RX12_260 : CV RX12 260 yX12_readTalkLine cX12_readTalkLine 2 (some .int) 1 := ⟨(TS_p7 104 rfl rfl), (TS_p7 106 rfl rfl), (TS_s4 (n := 65) 5 rfl rfl), (TS_p1 13 rfl rfl), (TS_p7 107 rfl rfl), ⟨by decide, by decide, by decide +kernel⟩⟩
set_option maxRecDepth 100000 in
theorem cv_RX12_263 : CV RX12 263 yX12_readCure cX12_readCure 3 (some .int) 1 := ⟨(TS_p7 132 rfl rfl), (TS_p7 134 rfl rfl), (TS_s4 (n := 65) 12 rfl rfl), (TS_p1 13 rfl rfl), (TS_p7 135 rfl rfl), ⟨by decide, by decide, by decide +kernel⟩⟩
set_option maxRecDepth 100000 in
theorem cv_RX12_266 : CV RX12 266 yX12_readRow cX12_readRow 5 (some .int) 0 := ⟨(TS_p7 140 rfl rfl), (TS_p7 142 rfl rfl), (TS_s4 (n := 65) 14 rfl rfl), (TS_p1 13 rfl rfl), (TS_p7 143 rfl rfl), ⟨by decide, by decide, by decide +kernel⟩⟩
set_option maxRecDepth 100000 in
theorem cv_RX12_269 : CV RX12 269 yX12_readTalk cX12_readTalk 2 (some .int) 0 := ⟨(TS_p7 92 rfl rfl), (TS_p7 94 rfl rfl), (TS_s4 (n := 65) 2 rfl rfl), (TS_p1 13 rfl rfl), (TS_p7 95 rfl rfl), ⟨by decide, by decide, by decide +kernel⟩⟩
set_option maxRecDepth 100000 in
theorem cv_RX12_272 : CV RX12 272 yX12_readCures cX12_readCures 2 (some .int) 0 := ⟨(TS_p7 128 rfl rfl), (TS_p7 130 rfl rfl), (TS_s4 (n := 65) 11 rfl rfl), (TS_p1 13 rfl rfl), (TS_p7 131 rfl rfl), ⟨by decide, by decide, by decide +kernel⟩⟩
set_option maxRecDepth 100000 in
theorem cv_RX12_275 : CV RX12 275 yX12_readRows cX12_readRows 2 (some .int) 0 := ⟨(TS_p7 136 rfl rfl), (TS_p7 138 rfl rfl), (TS_s4 (n := 65) 13 rfl rfl), (TS_p1 13 rfl rfl), (TS_p7 139 rfl rfl), ⟨by decide, by decide, by decide +kernel⟩⟩
set_option maxRecDepth 100000 in
theorem cv_RX12_278 : CV RX12 278 yX12_readLaw cX12_readLaw 3 (some .int) 0 := ⟨(TS_p7 144 rfl rfl), (TS_p7 146 rfl rfl), (TS_s4 (n := 65) 15 rfl rfl), (TS_p1 13 rfl rfl), (TS_p7 147 rfl rfl), ⟨by decide, by decide, by decide +kernel⟩⟩
set_option maxRecDepth 100000 in
theorem cv_RX12_293 : CV RX12 293 yX12_readsText cX12_readsText 2 (some .int) 1 := ⟨(TS_p7 64 rfl rfl), (TS_p7 66 rfl rfl), (TS_s3 (n := 65) 11 rfl rfl), (TS_p1 13 rfl rfl), (TS_p7 67 rfl rfl), ⟨by decide, by decide, by decide +kernel⟩⟩
set_option maxRecDepth 100000 in
theorem cv_RX12_296 : CV RX12 296 yX12_takesLaw cX12_takesLaw 3 none 1 := ⟨(TS_p7 188 rfl rfl), (TS_p7 190 rfl rfl), (TS_s5 (n := 65) 10 rfl rfl), (TS_p1 13 rfl rfl), (TS_p7 191 rfl rfl), ⟨by decide, by decide, by decide +kernel⟩⟩
set_option maxRecDepth 100000 in
theorem cv_RX12_299 : CV RX12 299 yX12_takesOther cX12_takesOther 4 none 2 := ⟨(TS_p7 192 rfl rfl), (TS_p7 194 rfl rfl), (TS_s5 (n := 65) 11 rfl rfl), (TS_p1 13 rfl rfl), (TS_p7 195 rfl rfl), ⟨by decide, by decide, by decide +kernel⟩⟩
set_option maxRecDepth 100000 in
theorem cv_RX12_302 : CV RX12 302 yX12_twoOf cX12_twoOf 4 (some .int) 3 := ⟨(TS_p8 12 rfl rfl), (TS_p8 14 rfl rfl), (TS_s6 (n := 65) 8 rfl rfl), (TS_p1 13 rfl rfl), (TS_p8 15 rfl rfl), ⟨by decide, by decide, by decide +kernel⟩⟩
set_option maxRecDepth 100000 in
theorem cv_RX12_305 : CV RX12 305 yX12_runs cX12_runs 6 (some .int) 3 := ⟨(TS_p8 8 rfl rfl), (TS_p8 10 rfl rfl), (TS_s6 (n := 65) 7 rfl rfl), (TS_p1 13 rfl rfl), (TS_p8 11 rfl rfl), ⟨by decide, by decide, by decide +kernel⟩⟩
set_option maxRecDepth 100000 in
theorem cv_RX12_308 : CV RX12 308 yX12_nameOf cX12_nameOf 3 (some .int) 2 := ⟨(TS_p8 48 rfl rfl), (TS_p8 50 rfl rfl), (TS_s7 (n := 65) 1 rfl rfl), (TS_p1 13 rfl rfl), (TS_p8 51 rfl rfl), ⟨by decide, by decide, by decide +kernel⟩⟩
set_option maxRecDepth 100000 in
theorem cv_RX12_311 : CV RX12 311 yX12_isToldAhead cX12_isToldAhead 5 (some .boolean) 3 := ⟨(TS_p8 52 rfl rfl), (TS_p8 54 rfl rfl), (TS_s7 (n := 65) 2 rfl rfl), (TS_p1 13 rfl rfl), (TS_p8 55 rfl rfl), ⟨by decide, by decide, by decide +kernel⟩⟩
set_option maxRecDepth 100000 in
theorem cv_RX12_314 : CV RX12 314 yX12_has cX12_has 3 (some .boolean) 2 := ⟨(TS_p8 56 rfl rfl), (TS_p8 58 rfl rfl), (TS_s7 (n := 65) 3 rfl rfl), (TS_p1 13 rfl rfl), (TS_p8 59 rfl rfl), ⟨by decide, by decide, by decide +kernel⟩⟩
set_option maxRecDepth 100000 in
theorem cv_RX12_318 : CV RX12 318 yX12_nameBy cX12_nameBy 8 (some .int) 3 := ⟨(TS_p8 44 rfl rfl), (TS_p8 46 rfl rfl), (TS_s7 (n := 65) 0 rfl rfl), (TS_p1 13 rfl rfl), (TS_p8 47 rfl rfl), ⟨by decide, by decide, by decide +kernel⟩⟩
set_option maxRecDepth 100000 in
theorem cv_RX12_321 : CV RX12 321 yX12_onesOf cX12_onesOf 4 (some .int) 1 := ⟨(TS_p7 228 rfl rfl), (TS_p7 230 rfl rfl), (TS_s6 (n := 65) 2 rfl rfl), (TS_p1 13 rfl rfl), (TS_p7 231 rfl rfl), ⟨by decide, by decide, by decide +kernel⟩⟩
set_option maxRecDepth 100000 in
theorem cv_RX12_324 : CV RX12 324 yX12_byOf cX12_byOf 2 (some .int) 1 := ⟨(TS_p7 232 rfl rfl), (TS_p7 234 rfl rfl), (TS_s6 (n := 65) 3 rfl rfl), (TS_p1 13 rfl rfl), (TS_p7 235 rfl rfl), ⟨by decide, by decide, by decide +kernel⟩⟩
set_option maxRecDepth 100000 in
theorem cv_RX12_327 : CV RX12 327 yX12_plain cX12_plain 2 (some .int) 1 := ⟨(TS_p7 236 rfl rfl), (TS_p7 238 rfl rfl), (TS_s6 (n := 65) 4 rfl rfl), (TS_p1 13 rfl rfl), (TS_p7 239 rfl rfl), ⟨by decide, by decide, by decide +kernel⟩⟩
set_option maxRecDepth 100000 in
theorem cv_RX12_330 : CV RX12 330 yX12_lineOf cX12_lineOf 3 (some .int) 1 := ⟨(TS_p8 4 rfl rfl), (TS_p8 6 rfl rfl), (TS_s6 (n := 65) 6 rfl rfl), (TS_p1 13 rfl rfl), (TS_p8 7 rfl rfl), ⟨by decide, by decide, by decide +kernel⟩⟩
set_option maxRecDepth 100000 in
theorem cv_RX12_333 : CV RX12 333 yX12_bounded cX12_bounded 4 (some .int) 3 := ⟨(TS_p8 16 rfl rfl), (TS_p8 18 rfl rfl), (TS_s6 (n := 65) 9 rfl rfl), (TS_p1 13 rfl rfl), (TS_p8 19 rfl rfl), ⟨by decide, by decide, by decide +kernel⟩⟩
set_option maxRecDepth 100000 in
theorem cv_RX12_336 : CV RX12 336 yX12_asks cX12_asks 2 none 1 := ⟨(TS_p7 224 rfl rfl), (TS_p7 226 rfl rfl), (TS_s6 (n := 65) 1 rfl rfl), (TS_p1 13 rfl rfl), (TS_p7 227 rfl rfl), ⟨by decide, by decide, by decide +kernel⟩⟩
set_option maxRecDepth 100000 in
theorem cv_RX12_339 : CV RX12 339 yX12_lawTells cX12_lawTells 6 (some .int) 4 := ⟨(TS_p8 0 rfl rfl), (TS_p8 2 rfl rfl), (TS_s6 (n := 65) 5 rfl rfl), (TS_p1 13 rfl rfl), (TS_p8 3 rfl rfl), ⟨by decide, by decide, by decide +kernel⟩⟩
set_option maxRecDepth 100000 in
theorem cv_RX12_343 : CV RX12 343 yX12_hicsOf cX12_hicsOf 2 (some .int) 1 := ⟨(TS_p7 220 rfl rfl), (TS_p7 222 rfl rfl), (TS_s6 (n := 65) 0 rfl rfl), (TS_p1 13 rfl rfl), (TS_p7 223 rfl rfl), ⟨by decide, by decide, by decide +kernel⟩⟩
set_option maxRecDepth 100000 in
theorem cv_RX12_346 : CV RX12 346 yX12_lesser cX12_lesser 3 (some .int) 2 := ⟨(TS_p8 20 rfl rfl), (TS_p8 22 rfl rfl), (TS_s6 (n := 65) 10 rfl rfl), (TS_p1 13 rfl rfl), (TS_p8 23 rfl rfl), ⟨by decide, by decide, by decide +kernel⟩⟩
set_option maxRecDepth 100000 in
theorem cv_RX12_349 : CV RX12 349 yX12_notes cX12_notes 5 none 3 := ⟨(TS_p8 24 rfl rfl), (TS_p8 26 rfl rfl), (TS_s6 (n := 65) 11 rfl rfl), (TS_p1 13 rfl rfl), (TS_p8 27 rfl rfl), ⟨by decide, by decide, by decide +kernel⟩⟩
set_option maxRecDepth 100000 in
theorem cv_RX12_353 : CV RX12 353 yX12_hasAny cX12_hasAny 2 (some .boolean) 1 := ⟨(TS_p7 208 rfl rfl), (TS_p7 210 rfl rfl), (TS_s5 (n := 65) 13 rfl rfl), (TS_p1 13 rfl rfl), (TS_p7 211 rfl rfl), ⟨by decide, by decide, by decide +kernel⟩⟩
set_option maxRecDepth 100000 in
theorem cv_RX12_356 : CV RX12 356 yX12_nextName cX12_nextName 2 (some .int) 1 := ⟨(TS_p8 40 rfl rfl), (TS_p8 42 rfl rfl), (TS_s6 (n := 65) 15 rfl rfl), (TS_p1 13 rfl rfl), (TS_p8 43 rfl rfl), ⟨by decide, by decide, by decide +kernel⟩⟩
set_option maxRecDepth 100000 in
theorem cv_RX12_359 : CV RX12 359 yX12_passesOf cX12_passesOf 2 (some .int) 1 := ⟨(TS_p8 60 rfl rfl), (TS_p8 62 rfl rfl), (TS_s7 (n := 65) 4 rfl rfl), (TS_p1 13 rfl rfl), (TS_p8 63 rfl rfl), ⟨by decide, by decide, by decide +kernel⟩⟩
set_option maxRecDepth 100000 in
theorem cv_RX12_362 : CV RX12 362 yX12_getsFrom cX12_getsFrom 4 none 3 := ⟨(TS_p8 64 rfl rfl), (TS_p8 66 rfl rfl), (TS_s7 (n := 65) 5 rfl rfl), (TS_p1 13 rfl rfl), (TS_p8 67 rfl rfl), ⟨by decide, by decide, by decide +kernel⟩⟩
set_option maxRecDepth 100000 in
theorem cv_RX12_365 : CV RX12 365 yX12_canAct cX12_canAct 4 (some .boolean) 3 := ⟨(TS_p7 204 rfl rfl), (TS_p7 206 rfl rfl), (TS_s5 (n := 65) 12 rfl rfl), (TS_p1 13 rfl rfl), (TS_p7 207 rfl rfl), ⟨by decide, by decide, by decide +kernel⟩⟩
set_option maxRecDepth 100000 in
theorem cv_RX12_368 : CV RX12 368 yX12_keepsAhead cX12_keepsAhead 2 none 0 := ⟨(TS_p7 212 rfl rfl), (TS_p7 214 rfl rfl), (TS_s5 (n := 65) 14 rfl rfl), (TS_p1 13 rfl rfl), (TS_p7 215 rfl rfl), ⟨by decide, by decide, by decide +kernel⟩⟩
set_option maxRecDepth 100000 in
theorem cv_RX12_371 : CV RX12 371 yX12_isNamed cX12_isNamed 3 none 2 := ⟨(TS_p7 216 rfl rfl), (TS_p7 218 rfl rfl), (TS_s5 (n := 65) 15 rfl rfl), (TS_p1 13 rfl rfl), (TS_p7 219 rfl rfl), ⟨by decide, by decide, by decide +kernel⟩⟩
set_option maxRecDepth 100000 in
theorem cv_RX12_374 : CV RX12 374 yX12_isFrightened cX12_isFrightened 2 none 1 := ⟨(TS_p8 28 rfl rfl), (TS_p8 30 rfl rfl), (TS_s6 (n := 65) 12 rfl rfl), (TS_p1 13 rfl rfl), (TS_p8 31 rfl rfl), ⟨by decide, by decide, by decide +kernel⟩⟩
set_option maxRecDepth 100000 in
theorem cv_RX12_377 : CV RX12 377 yX12_handsOn cX12_handsOn 4 none 2 := ⟨(TS_p8 32 rfl rfl), (TS_p8 34 rfl rfl), (TS_s6 (n := 65) 13 rfl rfl), (TS_p1 13 rfl rfl), (TS_p8 35 rfl rfl), ⟨by decide, by decide, by decide +kernel⟩⟩
set_option maxRecDepth 100000 in
theorem cv_RX12_380 : CV RX12 380 yX12_says cX12_says 4 (some .boolean) 1 := ⟨(TS_p8 36 rfl rfl), (TS_p8 38 rfl rfl), (TS_s6 (n := 65) 14 rfl rfl), (TS_p1 13 rfl rfl), (TS_p8 39 rfl rfl), ⟨by decide, by decide, by decide +kernel⟩⟩
set_option maxRecDepth 100000 in
theorem cv_RX12_383 : CV RX12 383 yX12_draw cX12_draw 2 (some .int) 1 := ⟨(TS_p8 96 rfl rfl), (TS_p8 98 rfl rfl), (TS_s7 (n := 65) 12 rfl rfl), (TS_p1 13 rfl rfl), (TS_p8 99 rfl rfl), ⟨by decide, by decide, by decide +kernel⟩⟩
set_option maxRecDepth 100000 in
theorem cv_RX12_386 : CV RX12 386 yX12_greater cX12_greater 3 (some .int) 2 := ⟨(TS_p8 80 rfl rfl), (TS_p8 82 rfl rfl), (TS_s7 (n := 65) 8 rfl rfl), (TS_p1 13 rfl rfl), (TS_p8 83 rfl rfl), ⟨by decide, by decide, by decide +kernel⟩⟩
set_option maxRecDepth 100000 in
theorem cv_RX12_389 : CV RX12 389 yX12_stopsOf cX12_stopsOf 2 (some .int) 1 := ⟨(TS_p8 88 rfl rfl), (TS_p8 90 rfl rfl), (TS_s7 (n := 65) 10 rfl rfl), (TS_p1 13 rfl rfl), (TS_p8 91 rfl rfl), ⟨by decide, by decide, by decide +kernel⟩⟩
set_option maxRecDepth 100000 in
theorem cv_RX12_392 : CV RX12 392 yX12_happens cX12_happens 2 (some .boolean) 1 := ⟨(TS_p8 92 rfl rfl), (TS_p8 94 rfl rfl), (TS_s7 (n := 65) 11 rfl rfl), (TS_p1 13 rfl rfl), (TS_p8 95 rfl rfl), ⟨by decide, by decide, by decide +kernel⟩⟩
set_option maxRecDepth 100000 in
theorem cv_RX12_395 : CV RX12 395 yX12_takesCure cX12_takesCure 4 none 1 := ⟨(TS_p8 76 rfl rfl), (TS_p8 78 rfl rfl), (TS_s7 (n := 65) 7 rfl rfl), (TS_p1 13 rfl rfl), (TS_p8 79 rfl rfl), ⟨by decide, by decide, by decide +kernel⟩⟩
set_option maxRecDepth 100000 in
theorem cv_RX12_398 : CV RX12 398 yX12_hicsNow cX12_hicsNow 2 (some .boolean) 1 := ⟨(TS_p8 84 rfl rfl), (TS_p8 86 rfl rfl), (TS_s7 (n := 65) 9 rfl rfl), (TS_p1 13 rfl rfl), (TS_p8 87 rfl rfl), ⟨by decide, by decide, by decide +kernel⟩⟩
set_option maxRecDepth 100000 in
theorem cv_RX12_401 : CV RX12 401 yX12_whoHas cX12_whoHas 3 (some .int) 0 := ⟨(TS_p8 102 rfl rfl), (TS_p8 104 rfl rfl), (TS_s7 (n := 65) 13 rfl rfl), (TS_p1 13 rfl rfl), (TS_p8 105 rfl rfl), ⟨by decide, by decide, by decide +kernel⟩⟩
set_option maxRecDepth 100000 in
theorem cv_RX12_404 : CV RX12 404 yX12_goesBy cX12_goesBy 3 (some .int) 0 := ⟨(TS_p8 72 rfl rfl), (TS_p8 74 rfl rfl), (TS_s7 (n := 65) 6 rfl rfl), (TS_p1 13 rfl rfl), (TS_p8 75 rfl rfl), ⟨by decide, by decide, by decide +kernel⟩⟩
set_option maxRecDepth 100000 in
theorem cv_RX12_407 : CV RX12 407 yX12_thinks cX12_thinks 2 none 0 := ⟨(TS_p8 118 rfl rfl), (TS_p8 120 rfl rfl), (TS_s7 (n := 65) 14 rfl rfl), (TS_p1 13 rfl rfl), (TS_p8 121 rfl rfl), ⟨by decide, by decide, by decide +kernel⟩⟩
set_option maxRecDepth 100000 in
theorem cv_RX12_410 : CV RX12 410 yX12_sumOf cX12_sumOf 4 (some .int) 1 := ⟨(TS_p8 122 rfl rfl), (TS_p8 124 rfl rfl), (TS_s7 (n := 65) 15 rfl rfl), (TS_p1 13 rfl rfl), (TS_p8 125 rfl rfl), ⟨by decide, by decide, by decide +kernel⟩⟩
set_option maxRecDepth 100000 in
theorem cv_RX12_413 : CV RX12 413 yX12_endsThought cX12_endsThought 2 none 0 := ⟨(TS_p8 126 rfl rfl), (TS_p8 128 rfl rfl), (TS_s8 (n := 65) 0 rfl rfl), (TS_p1 13 rfl rfl), (TS_p8 129 rfl rfl), ⟨by decide, by decide, by decide +kernel⟩⟩
set_option maxRecDepth 100000 in
theorem cv_RX12_420 : CV RX12 420 yX12_sumFrom cX12_sumFrom 6 (some .int) 3 := ⟨(TS_p8 147 rfl rfl), (TS_p8 149 rfl rfl), (TS_s8 (n := 65) 1 rfl rfl), (TS_p1 13 rfl rfl), (TS_p8 150 rfl rfl), ⟨by decide, by decide, by decide +kernel⟩⟩
set_option maxRecDepth 100000 in
theorem cv_RX12_424 : CV RX12 424 yX12_upside cX12_upside 5 (some .int) 1 := ⟨(TS_p8 160 rfl rfl), (TS_p8 162 rfl rfl), (TS_s8 (n := 65) 2 rfl rfl), (TS_p1 13 rfl rfl), (TS_p8 163 rfl rfl), ⟨by decide, by decide, by decide +kernel⟩⟩
set_option maxRecDepth 100000 in
theorem cv_RX12_430 : CV RX12 430 yX12_worthOf cX12_worthOf 5 (some .int) 1 := ⟨(TS_p8 180 rfl rfl), (TS_p8 182 rfl rfl), (TS_s8 (n := 65) 3 rfl rfl), (TS_p1 13 rfl rfl), (TS_p8 183 rfl rfl), ⟨by decide, by decide, by decide +kernel⟩⟩
set_option maxRecDepth 100000 in
theorem cv_RX12_433 : CV RX12 433 yX12_callsAt cX12_callsAt 4 (some .int) 1 := ⟨(TS_p8 184 rfl rfl), (TS_p8 186 rfl rfl), (TS_s8 (n := 65) 4 rfl rfl), (TS_p1 13 rfl rfl), (TS_p8 187 rfl rfl), ⟨by decide, by decide, by decide +kernel⟩⟩
set_option maxRecDepth 100000 in
theorem cv_RX12_440 : CV RX12 440 yX12_termsAt cX12_termsAt 5 (some .int) 2 := ⟨(TS_p8 209 rfl rfl), (TS_p8 211 rfl rfl), (TS_s8 (n := 65) 5 rfl rfl), (TS_p1 13 rfl rfl), (TS_p8 212 rfl rfl), ⟨by decide, by decide, by decide +kernel⟩⟩
set_option maxRecDepth 100000 in
theorem cv_RX12_444 : CV RX12 444 yX12_turnedIn cX12_turnedIn 5 (some .int) 2 := ⟨(TS_p8 222 rfl rfl), (TS_p8 224 rfl rfl), (TS_s8 (n := 65) 6 rfl rfl), (TS_p1 13 rfl rfl), (TS_p8 225 rfl rfl), ⟨by decide, by decide, by decide +kernel⟩⟩
set_option maxRecDepth 100000 in
theorem cv_RX12_447 : CV RX12 447 yX12_waysOfTwo cX12_waysOfTwo 5 (some .int) 1 := ⟨(TS_p8 234 rfl rfl), (TS_p8 236 rfl rfl), (TS_s8 (n := 65) 8 rfl rfl), (TS_p1 13 rfl rfl), (TS_p8 237 rfl rfl), ⟨by decide, by decide, by decide +kernel⟩⟩
set_option maxRecDepth 100000 in
theorem cv_RX12_450 : CV RX12 450 yX12_fewSquares cX12_fewSquares 3 (some .int) 1 := ⟨(TS_p8 230 rfl rfl), (TS_p8 232 rfl rfl), (TS_s8 (n := 65) 7 rfl rfl), (TS_p1 13 rfl rfl), (TS_p8 233 rfl rfl), ⟨by decide, by decide, by decide +kernel⟩⟩
set_option maxRecDepth 100000 in
theorem cv_RX12_456 : CV RX12 456 yX12_isInRow cX12_isInRow 4 (some .boolean) 2 := ⟨(TS_p9 10 rfl rfl), (TS_p9 12 rfl rfl), (TS_s8 (n := 65) 10 rfl rfl), (TS_p1 13 rfl rfl), (TS_p9 13 rfl rfl), ⟨by decide, by decide, by decide +kernel⟩⟩
set_option maxRecDepth 100000 in
theorem cv_RX12_459 : CV RX12 459 yX12_joins cX12_joins 3 none 2 := ⟨(TS_p9 14 rfl rfl), (TS_p9 16 rfl rfl), (TS_s8 (n := 65) 11 rfl rfl), (TS_p1 13 rfl rfl), (TS_p9 17 rfl rfl), ⟨by decide, by decide, by decide +kernel⟩⟩
set_option maxRecDepth 100000 in
theorem cv_RX12_462 : CV RX12 462 yX12_growsTree cX12_growsTree 8 (some .boolean) 0 := ⟨(TS_p9 6 rfl rfl), (TS_p9 8 rfl rfl), (TS_s8 (n := 65) 9 rfl rfl), (TS_p1 13 rfl rfl), (TS_p9 9 rfl rfl), ⟨by decide, by decide, by decide +kernel⟩⟩
set_option maxRecDepth 100000 in
theorem cv_RX12_468 : CV RX12 468 yX12_isBad cX12_isBad 3 (some .boolean) 1 := ⟨(TS_p9 26 rfl rfl), (TS_p9 28 rfl rfl), (TS_s8 (n := 65) 12 rfl rfl), (TS_p1 13 rfl rfl), (TS_p9 29 rfl rfl), ⟨by decide, by decide, by decide +kernel⟩⟩
set_option maxRecDepth 100000 in
theorem cv_RX12_475 : CV RX12 475 yX12_isWonWith cX12_isWonWith 7 (some .boolean) 2 := ⟨(TS_p9 39 rfl rfl), (TS_p9 41 rfl rfl), (TS_s8 (n := 65) 13 rfl rfl), (TS_p1 13 rfl rfl), (TS_p9 42 rfl rfl), ⟨by decide, by decide, by decide +kernel⟩⟩
set_option maxRecDepth 100000 in
theorem cv_RX12_484 : CV RX12 484 yX12_keeps cX12_keeps 2 (some .int) 1 := ⟨(TS_p9 47 rfl rfl), (TS_p9 49 rfl rfl), (TS_s8 (n := 65) 14 rfl rfl), (TS_p1 13 rfl rfl), (TS_p9 50 rfl rfl), ⟨by decide, by decide, by decide +kernel⟩⟩
set_option maxRecDepth 100000 in
theorem cv_RX12_490 : CV RX12 490 yX12_keepsMany cX12_keepsMany 1 none 0 := ⟨(TS_p9 51 rfl rfl), (TS_p9 53 rfl rfl), (TS_s8 (n := 65) 15 rfl rfl), (TS_p1 13 rfl rfl), (TS_p9 54 rfl rfl), ⟨by decide, by decide, by decide +kernel⟩⟩
set_option maxRecDepth 100000 in
theorem cv_RX12_493 : CV RX12 493 yX12_keepsTold cX12_keepsTold 2 none 0 := ⟨(TS_p9 55 rfl rfl), (TS_p9 57 rfl rfl), (TS_s9 (n := 65) 0 rfl rfl), (TS_p1 13 rfl rfl), (TS_p9 58 rfl rfl), ⟨by decide, by decide, by decide +kernel⟩⟩
set_option maxRecDepth 100000 in
theorem cv_RX12_496 : CV RX12 496 yX12_keepsLaw cX12_keepsLaw 2 none 0 := ⟨(TS_p9 59 rfl rfl), (TS_p9 61 rfl rfl), (TS_s9 (n := 65) 1 rfl rfl), (TS_p1 13 rfl rfl), (TS_p9 62 rfl rfl), ⟨by decide, by decide, by decide +kernel⟩⟩
set_option maxRecDepth 100000 in
theorem cv_RX3_34 : CV RX3 34 yX3_fill cX3_fill 8 (some .int) 2 := ⟨(TS_p3 66 rfl rfl), (TS_p3 68 rfl rfl), (TS_s1 (n := 5) 5 rfl rfl), (TS_p1 6 rfl rfl), (TS_p3 69 rfl rfl), ⟨by decide, by decide, by decide +kernel⟩⟩
set_option maxRecDepth 100000 in
theorem cv_RX3_38 : CV RX3 38 yX3_lastLineOf cX3_lastLineOf 3 (some .int) 1 := ⟨(TS_p3 70 rfl rfl), (TS_p3 72 rfl rfl), (TS_s1 (n := 5) 6 rfl rfl), (TS_p1 6 rfl rfl), (TS_p3 73 rfl rfl), ⟨by decide, by decide, by decide +kernel⟩⟩
set_option maxRecDepth 100000 in
theorem cv_RX4_101 : CV RX4 101 yX4_takeNumber cX4_takeNumber 4 (some .int) 2 := ⟨(TS_p4 128 rfl rfl), (TS_p4 130 rfl rfl), (TS_s2 (n := 7) 11 rfl rfl), (TS_p1 10 rfl rfl), (TS_p4 131 rfl rfl), ⟨by decide, by decide, by decide +kernel⟩⟩
set_option maxRecDepth 100000 in
theorem cv_RX4_105 : CV RX4 105 yX4_readCure cX4_readCure 5 (some .boolean) 1 := ⟨(TS_p4 136 rfl rfl), (TS_p4 138 rfl rfl), (TS_s2 (n := 7) 13 rfl rfl), (TS_p1 10 rfl rfl), (TS_p4 139 rfl rfl), ⟨by decide, by decide, by decide +kernel⟩⟩
set_option maxRecDepth 100000 in
theorem cv_RX4_108 : CV RX4 108 yX4_readNaming cX4_readNaming 4 (some .boolean) 1 := ⟨(TS_p4 155 rfl rfl), (TS_p4 157 rfl rfl), (TS_s3 (n := 7) 0 rfl rfl), (TS_p1 10 rfl rfl), (TS_p4 158 rfl rfl), ⟨by decide, by decide, by decide +kernel⟩⟩
set_option maxRecDepth 100000 in
theorem cv_RX4_111 : CV RX4 111 yX4_takeWord cX4_takeWord 2 (some .boolean) 1 := ⟨(TS_p4 159 rfl rfl), (TS_p4 161 rfl rfl), (TS_s3 (n := 7) 1 rfl rfl), (TS_p1 10 rfl rfl), (TS_p4 162 rfl rfl), ⟨by decide, by decide, by decide +kernel⟩⟩
set_option maxRecDepth 100000 in
theorem cv_RX4_114 : CV RX4 114 yX4_takePerson cX4_takePerson 3 (some .int) 1 := ⟨(TS_p4 140 rfl rfl), (TS_p4 142 rfl rfl), (TS_s2 (n := 7) 14 rfl rfl), (TS_p1 10 rfl rfl), (TS_p4 143 rfl rfl), ⟨by decide, by decide, by decide +kernel⟩⟩
set_option maxRecDepth 100000 in
theorem cv_RX4_118 : CV RX4 118 yX5_addLine cX5_addLine 5 none 4 := ⟨(TS_p4 151 rfl rfl), (TS_p4 152 rfl rfl), (TS_p4 153 rfl rfl), (TS_p1 5 rfl rfl), (TS_p4 154 rfl rfl), ⟨by decide, by decide, by decide +kernel⟩⟩
set_option maxRecDepth 100000 in
theorem cv_RX4_122 : CV RX4 122 yX4_takeSign cX4_takeSign 2 (some .boolean) 1 := ⟨(TS_p4 101 rfl rfl), (TS_p4 103 rfl rfl), (TS_s2 (n := 7) 8 rfl rfl), (TS_p1 10 rfl rfl), (TS_p4 104 rfl rfl), ⟨by decide, by decide, by decide +kernel⟩⟩
set_option maxRecDepth 100000 in
theorem cv_RX4_129 : CV RX4 129 yX3_beginLine cX3_beginLine 2 none 1 := ⟨(TS_p4 176 rfl rfl), (TS_p4 177 rfl rfl), (TS_p4 178 rfl rfl), (TS_p1 6 rfl rfl), (TS_p4 179 rfl rfl), ⟨by decide, by decide, by decide +kernel⟩⟩
set_option maxRecDepth 100000 in
theorem cv_RX4_133 : CV RX4 133 yX4_isPerson cX4_isPerson 2 (some .boolean) 1 := ⟨(TS_p4 144 rfl rfl), (TS_p4 146 rfl rfl), (TS_s2 (n := 7) 15 rfl rfl), (TS_p1 10 rfl rfl), (TS_p4 147 rfl rfl), ⟨by decide, by decide, by decide +kernel⟩⟩
set_option maxRecDepth 100000 in
theorem cv_RX4_136 : CV RX4 136 yX3_addName cX3_addName 2 none 1 := ⟨(TS_p4 180 rfl rfl), (TS_p4 181 rfl rfl), (TS_p4 182 rfl rfl), (TS_p1 6 rfl rfl), (TS_p4 183 rfl rfl), ⟨by decide, by decide, by decide +kernel⟩⟩
set_option maxRecDepth 100000 in
theorem cv_RX4_139 : CV RX4 139 yX3_endLine cX3_endLine 1 none 0 := ⟨(TS_p4 184 rfl rfl), (TS_p4 185 rfl rfl), (TS_p4 186 rfl rfl), (TS_p1 6 rfl rfl), (TS_p4 187 rfl rfl), ⟨by decide, by decide, by decide +kernel⟩⟩
set_option maxRecDepth 100000 in
theorem cv_RX4_142 : CV RX4 142 yX1_beginLine cX1_beginLine 2 none 1 := ⟨(TS_p4 56 rfl rfl), (TS_p4 57 rfl rfl), (TS_p4 58 rfl rfl), (TS_p1 4 rfl rfl), (TS_p4 59 rfl rfl), ⟨by decide, by decide, by decide +kernel⟩⟩
set_option maxRecDepth 100000 in
theorem cv_RX4_143 : CV RX4 143 yX4_readSum cX4_readSum 4 (some .boolean) 0 := ⟨(TS_p4 61 rfl rfl), (TS_p4 63 rfl rfl), (TS_s2 (n := 7) 2 rfl rfl), (TS_p1 10 rfl rfl), (TS_p4 64 rfl rfl), ⟨by decide, by decide, by decide +kernel⟩⟩
set_option maxRecDepth 100000 in
theorem cv_RX4_146 : CV RX4 146 yX1_beginWhen cX1_beginWhen 1 none 0 := ⟨(TS_p4 85 rfl rfl), (TS_p4 86 rfl rfl), (TS_p4 87 rfl rfl), (TS_p1 4 rfl rfl), (TS_p4 88 rfl rfl), ⟨by decide, by decide, by decide +kernel⟩⟩
set_option maxRecDepth 100000 in
theorem cv_RX4_149 : CV RX4 149 yX4_readEither cX4_readEither 5 (some .boolean) 1 := ⟨(TS_p4 93 rfl rfl), (TS_p4 95 rfl rfl), (TS_s2 (n := 7) 6 rfl rfl), (TS_p1 10 rfl rfl), (TS_p4 96 rfl rfl), ⟨by decide, by decide, by decide +kernel⟩⟩
set_option maxRecDepth 100000 in
theorem cv_RX4_152 : CV RX4 152 yX1_endLine cX1_endLine 1 none 0 := ⟨(TS_p4 109 rfl rfl), (TS_p4 110 rfl rfl), (TS_p4 111 rfl rfl), (TS_p1 4 rfl rfl), (TS_p4 112 rfl rfl), ⟨by decide, by decide, by decide +kernel⟩⟩
set_option maxRecDepth 100000 in
theorem cv_RX4_153 : CV RX4 153 yX4_readClaim cX4_readClaim 4 (some .boolean) 1 := ⟨(TS_p4 97 rfl rfl), (TS_p4 99 rfl rfl), (TS_s2 (n := 7) 7 rfl rfl), (TS_p1 10 rfl rfl), (TS_p4 100 rfl rfl), ⟨by decide, by decide, by decide +kernel⟩⟩
set_option maxRecDepth 100000 in
theorem cv_RX4_156 : CV RX4 156 yX1_emit cX1_emit 2 none 1 := ⟨(TS_p4 69 rfl rfl), (TS_p4 70 rfl rfl), (TS_p4 71 rfl rfl), (TS_p1 4 rfl rfl), (TS_p4 72 rfl rfl), ⟨by decide, by decide, by decide +kernel⟩⟩
set_option maxRecDepth 100000 in
theorem cv_RX4_159 : CV RX4 159 yX6_isSign cX6_isSign 2 (some .boolean) 1 := ⟨(TS_p4 81 rfl rfl), (TS_p4 82 rfl rfl), (TS_p4 83 rfl rfl), (TS_p1 11 rfl rfl), (TS_p4 84 rfl rfl), ⟨by decide, by decide, by decide +kernel⟩⟩
set_option maxRecDepth 100000 in
theorem cv_RX4_162 : CV RX4 162 yX4_comparing cX4_comparing 1 (some .int) 0 := ⟨(TS_p4 105 rfl rfl), (TS_p4 107 rfl rfl), (TS_s2 (n := 7) 9 rfl rfl), (TS_p1 10 rfl rfl), (TS_p4 108 rfl rfl), ⟨by decide, by decide, by decide +kernel⟩⟩
set_option maxRecDepth 100000 in
theorem cv_RX4_166 : CV RX4 166 yX4_readUnit cX4_readUnit 2 (some .boolean) 1 := ⟨(TS_p4 65 rfl rfl), (TS_p4 67 rfl rfl), (TS_s2 (n := 7) 3 rfl rfl), (TS_p1 10 rfl rfl), (TS_p4 68 rfl rfl), ⟨by decide, by decide, by decide +kernel⟩⟩
set_option maxRecDepth 100000 in
theorem cv_RX4_169 : CV RX4 169 yX4_eitherSign cX4_eitherSign 5 (some .int) 4 := ⟨(TS_p4 77 rfl rfl), (TS_p4 79 rfl rfl), (TS_s2 (n := 7) 5 rfl rfl), (TS_p1 10 rfl rfl), (TS_p4 80 rfl rfl), ⟨by decide, by decide, by decide +kernel⟩⟩
set_option maxRecDepth 100000 in
theorem cv_RX4_173 : CV RX4 173 yX4_isFact cX4_isFact 1 (some .boolean) 0 := ⟨(TS_p4 73 rfl rfl), (TS_p4 75 rfl rfl), (TS_s2 (n := 7) 4 rfl rfl), (TS_p1 10 rfl rfl), (TS_p4 76 rfl rfl), ⟨by decide, by decide, by decide +kernel⟩⟩
set_option maxRecDepth 100000 in
theorem cv_RX4_176 : CV RX4 176 yX4_isNumber cX4_isNumber 3 (some .boolean) 2 := ⟨(TS_p4 132 rfl rfl), (TS_p4 134 rfl rfl), (TS_s2 (n := 7) 12 rfl rfl), (TS_p1 10 rfl rfl), (TS_p4 135 rfl rfl), ⟨by decide, by decide, by decide +kernel⟩⟩
set_option maxRecDepth 100000 in
theorem cv_RX4_49 : CV RX4 49 yX6_begin cX6_begin 6 none 0 := ⟨(TS_p3 133 rfl rfl), (TS_p3 134 rfl rfl), (TS_p3 135 rfl rfl), (TS_p1 11 rfl rfl), (TS_p3 136 rfl rfl), ⟨by decide, by decide, by decide +kernel⟩⟩
set_option maxRecDepth 100000 in
theorem cv_RX4_52 : CV RX4 52 yX1_clear cX1_clear 1 none 0 := ⟨(TS_p4 40 rfl rfl), (TS_p4 41 rfl rfl), (TS_p4 42 rfl rfl), (TS_p1 4 rfl rfl), (TS_p4 43 rfl rfl), ⟨by decide, by decide, by decide +kernel⟩⟩
set_option maxRecDepth 100000 in
theorem cv_RX4_61 : CV RX4 61 yX4_beginsLine cX4_beginsLine 3 (some .boolean) 2 := ⟨(TS_p4 44 rfl rfl), (TS_p4 46 rfl rfl), (TS_s1 (n := 7) 15 rfl rfl), (TS_p1 10 rfl rfl), (TS_p4 47 rfl rfl), ⟨by decide, by decide, by decide +kernel⟩⟩
set_option maxRecDepth 100000 in
theorem cv_RX4_65 : CV RX4 65 yX4_readLawLine cX4_readLawLine 1 (some .boolean) 0 := ⟨(TS_p4 52 rfl rfl), (TS_p4 54 rfl rfl), (TS_s2 (n := 7) 1 rfl rfl), (TS_p1 10 rfl rfl), (TS_p4 55 rfl rfl), ⟨by decide, by decide, by decide +kernel⟩⟩
set_option maxRecDepth 100000 in
theorem cv_RX4_69 : CV RX4 69 yX1_copyFrom cX1_copyFrom 2 none 1 := ⟨(TS_p4 113 rfl rfl), (TS_p4 114 rfl rfl), (TS_p4 115 rfl rfl), (TS_p1 4 rfl rfl), (TS_p4 116 rfl rfl), ⟨by decide, by decide, by decide +kernel⟩⟩
set_option maxRecDepth 100000 in
theorem cv_RX4_77 : CV RX4 77 yX6_isWord cX6_isWord 2 (some .boolean) 1 := ⟨(TS_p4 89 rfl rfl), (TS_p4 90 rfl rfl), (TS_p4 91 rfl rfl), (TS_p1 11 rfl rfl), (TS_p4 92 rfl rfl), ⟨by decide, by decide, by decide +kernel⟩⟩
set_option maxRecDepth 100000 in
theorem cv_RX4_81 : CV RX4 81 yX4_readPlanLine cX4_readPlanLine 3 (some .boolean) 1 := ⟨(TS_p4 124 rfl rfl), (TS_p4 126 rfl rfl), (TS_s2 (n := 7) 10 rfl rfl), (TS_p1 10 rfl rfl), (TS_p4 127 rfl rfl), ⟨by decide, by decide, by decide +kernel⟩⟩
set_option maxRecDepth 100000 in
theorem cv_RX4_85 : CV RX4 85 yX5_copyFrom cX5_copyFrom 2 none 1 := ⟨(TS_p4 163 rfl rfl), (TS_p4 164 rfl rfl), (TS_p4 165 rfl rfl), (TS_p1 5 rfl rfl), (TS_p4 166 rfl rfl), ⟨by decide, by decide, by decide +kernel⟩⟩
set_option maxRecDepth 100000 in
theorem cv_RX4_89 : CV RX4 89 yX4_readOrdersLine cX4_readOrdersLine 3 (some .boolean) 0 := ⟨(TS_p4 172 rfl rfl), (TS_p4 174 rfl rfl), (TS_s3 (n := 7) 2 rfl rfl), (TS_p1 10 rfl rfl), (TS_p4 175 rfl rfl), ⟨by decide, by decide, by decide +kernel⟩⟩
set_option maxRecDepth 100000 in
theorem cv_RX4_92 : CV RX4 92 yX3_copyFrom cX3_copyFrom 2 none 1 := ⟨(TS_p4 188 rfl rfl), (TS_p4 189 rfl rfl), (TS_p4 190 rfl rfl), (TS_p1 6 rfl rfl), (TS_p4 191 rfl rfl), ⟨by decide, by decide, by decide +kernel⟩⟩
set_option maxRecDepth 100000 in
theorem cv_RX4_95 : CV RX4 95 yX4_fail cX4_fail 2 (some .boolean) 1 := ⟨(TS_p4 48 rfl rfl), (TS_p4 50 rfl rfl), (TS_s2 (n := 7) 0 rfl rfl), (TS_p1 10 rfl rfl), (TS_p4 51 rfl rfl), ⟨by decide, by decide, by decide +kernel⟩⟩
set_option maxRecDepth 100000 in
theorem cv_RX4_98 : CV RX4 98 yX6_advance cX6_advance 2 none 0 := ⟨(TS_p4 60 rfl rfl), (TS_p4 33 rfl rfl), (TS_p4 34 rfl rfl), (TS_p1 11 rfl rfl), (TS_p4 35 rfl rfl), ⟨by decide, by decide, by decide +kernel⟩⟩
set_option maxRecDepth 100000 in
theorem cv_RX6_47 : CV RX6 47 yX6_lettersEnd cX6_lettersEnd 3 (some .int) 1 := ⟨(TS_p3 140 rfl rfl), (TS_p3 142 rfl rfl), (TS_s1 (n := 10) 9 rfl rfl), (TS_p1 11 rfl rfl), (TS_p3 143 rfl rfl), ⟨by decide, by decide, by decide +kernel⟩⟩
set_option maxRecDepth 100000 in
theorem cv_RX6_51 : CV RX6 51 yX6_keyword cX6_keyword 6 (some .int) 2 := ⟨(TS_p3 144 rfl rfl), (TS_p3 146 rfl rfl), (TS_s1 (n := 10) 10 rfl rfl), (TS_p1 11 rfl rfl), (TS_p3 147 rfl rfl), ⟨by decide, by decide, by decide +kernel⟩⟩
set_option maxRecDepth 100000 in
theorem cv_RX6_55 : CV RX6 55 yX6_addToken cX6_addToken 4 none 3 := ⟨(TS_p3 201 rfl rfl), (TS_p3 203 rfl rfl), (TS_s1 (n := 10) 12 rfl rfl), (TS_p1 11 rfl rfl), (TS_p3 204 rfl rfl), ⟨by decide, by decide, by decide +kernel⟩⟩
set_option maxRecDepth 100000 in
theorem cv_RX6_62 : CV RX6 62 yX6_digitsEnd cX6_digitsEnd 3 (some .int) 1 := ⟨(TS_p3 208 rfl rfl), (TS_p3 210 rfl rfl), (TS_s1 (n := 10) 13 rfl rfl), (TS_p1 11 rfl rfl), (TS_p3 211 rfl rfl), ⟨by decide, by decide, by decide +kernel⟩⟩
set_option maxRecDepth 100000 in
theorem cv_RX6_65 : CV RX6 65 yX6_number cX6_number 5 (some .int) 2 := ⟨(TS_p3 212 rfl rfl), (TS_p3 214 rfl rfl), (TS_s1 (n := 10) 14 rfl rfl), (TS_p1 11 rfl rfl), (TS_p3 215 rfl rfl), ⟨by decide, by decide, by decide +kernel⟩⟩
set_option maxRecDepth 100000 in
theorem cv_RX6_70 : CV RX6 70 yJ0_indexOf_0f7a4 cJ0_indexOf_0f7a4 2 (some .int) 1 := ⟨(TS_p3 217 rfl rfl), (TS_p3 218 rfl rfl), (TS_p3 219 rfl rfl), (TS_p1 15 rfl rfl), (TS_p3 220 rfl rfl), ⟨by decide, by decide, by decide +kernel⟩⟩
set_option maxRecDepth 100000 in
theorem cv_RX6_75 : CV RX6 75 yX6_advance cX6_advance 2 none 0 := ⟨(TS_p4 32 rfl rfl), (TS_p4 33 rfl rfl), (TS_p4 34 rfl rfl), (TS_p1 11 rfl rfl), (TS_p4 35 rfl rfl), ⟨by decide, by decide, by decide +kernel⟩⟩
set_option maxRecDepth 100000 in
theorem cv_RX6_82 : CV RX6 82 yJ0_length_8abf5 cJ0_length_8abf5 1 (some .int) 0 := ⟨(TS_p3 149 rfl rfl), (TS_p3 150 rfl rfl), (TS_p3 151 rfl rfl), (TS_p1 15 rfl rfl), (TS_p3 152 rfl rfl), ⟨by decide, by decide, by decide +kernel⟩⟩
set_option maxRecDepth 100000 in
theorem cv_RX6_85 : CV RX6 85 yJ0_charAt_5068e cJ0_charAt_5068e 2 (some .char) 1 := ⟨(TS_p3 159 rfl rfl), (TS_p3 160 rfl rfl), (TS_p3 161 rfl rfl), (TS_p1 15 rfl rfl), (TS_p3 162 rfl rfl), ⟨by decide, by decide, by decide +kernel⟩⟩
set_option maxRecDepth 100000 in
theorem cv_RX6_89 : CV RX6 89 yX6_isAt cX6_isAt 6 (some .boolean) 3 := ⟨(TS_p3 197 rfl rfl), (TS_p3 199 rfl rfl), (TS_s1 (n := 10) 11 rfl rfl), (TS_p1 11 rfl rfl), (TS_p3 200 rfl rfl), ⟨by decide, by decide, by decide +kernel⟩⟩
set_option maxRecDepth 100000 in
theorem cv_RX7_23 : CV RX7 23 yX7_isFull cX7_isFull 1 (some .boolean) 0 := ⟨(TS_p5 14 rfl rfl), (TS_p5 7 rfl rfl), (TS_p5 8 rfl rfl), (TS_p1 8 rfl rfl), (TS_p5 9 rfl rfl), ⟨by decide, by decide, by decide +kernel⟩⟩
set_option maxRecDepth 100000 in
theorem cv_RX8_51 : CV RX8 51 yX7_copyFrom cX7_copyFrom 3 none 1 := ⟨(TS_p6 47 rfl rfl), (TS_p6 48 rfl rfl), (TS_p6 49 rfl rfl), (TS_p1 8 rfl rfl), (TS_p6 50 rfl rfl), ⟨by decide, by decide, by decide +kernel⟩⟩
set_option maxRecDepth 100000 in
theorem cv_RX9_31 : CV RX9 31 yX7_at cX7_at 2 (some .int) 1 := ⟨(TS_p5 23 rfl rfl), (TS_p5 24 rfl rfl), (TS_p5 25 rfl rfl), (TS_p1 8 rfl rfl), (TS_p5 26 rfl rfl), ⟨by decide, by decide, by decide +kernel⟩⟩
set_option maxRecDepth 100000 in
theorem cv_RX9_44 : CV RX9 44 yX9_bestCalls cX9_bestCalls 6 (some .int) 1 := ⟨(TS_p5 90 rfl rfl), (TS_p5 92 rfl rfl), (TS_s3 (n := 4) 3 rfl rfl), (TS_p1 12 rfl rfl), (TS_p5 93 rfl rfl), ⟨by decide, by decide, by decide +kernel⟩⟩
set_option maxRecDepth 100000 in
theorem cv_RX9_60 : CV RX9 60 yX9_callsIn cX9_callsIn 5 (some .int) 2 := ⟨(TS_p5 102 rfl rfl), (TS_p5 104 rfl rfl), (TS_s3 (n := 4) 4 rfl rfl), (TS_p1 12 rfl rfl), (TS_p5 105 rfl rfl), ⟨by decide, by decide, by decide +kernel⟩⟩
set_option maxRecDepth 100000 in
theorem cv_RX9_64 : CV RX9 64 yX9_cut cX9_cut 7 (some .int) 3 := ⟨(TS_p5 137 rfl rfl), (TS_p5 139 rfl rfl), (TS_s3 (n := 4) 5 rfl rfl), (TS_p1 12 rfl rfl), (TS_p5 140 rfl rfl), ⟨by decide, by decide, by decide +kernel⟩⟩
set_option maxRecDepth 100000 in
theorem cv_RX9_77 : CV RX9 77 yX9_valueAt cX9_valueAt 5 (some .int) 2 := ⟨(TS_p5 166 rfl rfl), (TS_p5 155 rfl rfl), (TS_p5 156 rfl rfl), (TS_p1 12 rfl rfl), (TS_p5 157 rfl rfl), ⟨by decide, by decide, by decide +kernel⟩⟩
set_option maxRecDepth 100000 in
theorem cv_RX9_93 : CV RX9 93 yX9_markBad cX9_markBad 4 none 1 := ⟨(TS_p6 3 rfl rfl), (TS_p6 5 rfl rfl), (TS_s3 (n := 4) 6 rfl rfl), (TS_p1 12 rfl rfl), (TS_p6 6 rfl rfl), ⟨by decide, by decide, by decide +kernel⟩⟩
set_option maxRecDepth 100000 in
theorem sw_RJ0_9 : Cond.fieldLink RJ0 9 "java/lang/String" "value" "[B" ∈ TS := (TS_p9 68 rfl rfl)
set_option maxRecDepth 100000 in
theorem sw_RJ0_15 : Cond.fieldLink RJ0 15 "java/lang/String" "coder" "B" ∈ TS := (TS_p9 69 rfl rfl)
set_option maxRecDepth 100000 in
theorem sw_RJ0_38 : Cond.fieldLink RJ0 38 "java/lang/String" "COMPACT_STRINGS" "Z" ∈ TS := (TS_p3 157 rfl rfl)
set_option maxRecDepth 100000 in
theorem sw_RJ0_1053 : Cond.fieldLink RJ0 1053 "jdk/internal/util/Preconditions" "SIOOBE_FORMATTER" "Ljava/util/function/BiFunction;" ∈ TS := (TS_p3 173 rfl rfl)
set_option maxRecDepth 100000 in
theorem kc_RJ6_265 : Cond.constant RJ6 265 1431655765 ∈ TS := (TS_p3 22 rfl rfl)
set_option maxRecDepth 100000 in
theorem kc_RJ6_266 : Cond.constant RJ6 266 858993459 ∈ TS := (TS_p3 23 rfl rfl)
set_option maxRecDepth 100000 in
theorem kc_RJ6_267 : Cond.constant RJ6 267 252645135 ∈ TS := (TS_p3 24 rfl rfl)
set_option maxRecDepth 100000 in
theorem kc_RX0_66 : Cond.constant RX0 66 1664525 ∈ TS := (TS_p3 98 rfl rfl)
set_option maxRecDepth 100000 in
theorem kc_RX0_67 : Cond.constant RX0 67 1013904223 ∈ TS := (TS_p3 99 rfl rfl)
set_option maxRecDepth 100000 in
theorem kc_RX11_259 : Cond.constant RX11 259 99999 ∈ TS := (TS_p5 45 rfl rfl)
set_option maxRecDepth 100000 in
theorem kc_RX11_326 : Cond.constant RX11 326 (-10000000) ∈ TS := (TS_p5 153 rfl rfl)
set_option maxRecDepth 100000 in
theorem kc_RX11_400 : Cond.constant RX11 400 (-100000) ∈ TS := (TS_p6 57 rfl rfl)
set_option maxRecDepth 100000 in
theorem kc_RX12_132 : Cond.constant RX12 132 1664525 ∈ TS := (TS_p8 100 rfl rfl)
set_option maxRecDepth 100000 in
theorem kc_RX12_133 : Cond.constant RX12 133 1013904223 ∈ TS := (TS_p8 101 rfl rfl)
set_option maxRecDepth 100000 in
theorem kc_RX12_419 : Cond.constant RX12 419 (-100000000) ∈ TS := (TS_p8 146 rfl rfl)
set_option maxRecDepth 100000 in
theorem kc_RX12_423 : Cond.constant RX12 423 99999 ∈ TS := (TS_p8 159 rfl rfl)
set_option maxRecDepth 100000 in
theorem kc_RX12_439 : Cond.constant RX12 439 100000000 ∈ TS := (TS_p8 200 rfl rfl)
set_option maxRecDepth 100000 in
theorem kc_RX12_443 : Cond.constant RX12 443 (-10000000) ∈ TS := (TS_p8 213 rfl rfl)
set_option maxRecDepth 100000 in
theorem kc_RX12_471 : Cond.constant RX12 471 1000000007 ∈ TS := (TS_p9 30 rfl rfl)
set_option maxRecDepth 100000 in
theorem kc_RX12_499 : Cond.constant RX12 499 (-100000) ∈ TS := (TS_p9 67 rfl rfl)
set_option maxRecDepth 100000 in
theorem gs_RX2_9 : Cond.fieldLink RX2 9 "HiccupLane$Numbers" "TURNED" "[I" ∈ TS := (TS_p5 49 rfl rfl)
set_option maxRecDepth 100000 in
theorem kc_RX9_97 : Cond.constantLong RX9 97 1000000007 ∈ TS := (TS_p6 7 rfl rfl)
