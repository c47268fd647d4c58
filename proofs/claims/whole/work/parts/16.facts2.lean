theorem ly_11_1 {X : qX} (hX : q_Lay X) {b : Nat} (hk : q_kd X b = some (13, 9)) : X.1 b 1 = some (b + 66) ∧ q_kd X (b + 66) = some (11, 14) := q_lay_at hX (c := 11) 70 (by decide +kernel) hk
theorem ly_11_2 {X : qX} (hX : q_Lay X) {b : Nat} (hk : q_kd X b = some (13, 9)) : X.1 b 2 = some (b + 131) ∧ q_kd X (b + 131) = some (11, 14) := q_lay_at hX (c := 11) 71 (by decide +kernel) hk
theorem fs_J0_9 : Cond.fieldLink RJ0 9 "java/lang/String" "value" "[B" ∈ q_tbl := (q_wt9 (i := 158) (by decide +kernel) rfl)
theorem fs_J0_15 : Cond.fieldLink RJ0 15 "java/lang/String" "coder" "B" ∈ q_tbl := (q_wt9 (i := 159) (by decide +kernel) rfl)
theorem fs_J0_38 : Cond.fieldLink RJ0 38 "java/lang/String" "COMPACT_STRINGS" "Z" ∈ q_tbl := (q_wt5 (i := 1) (by decide +kernel) rfl)
theorem fs_J0_1053 : Cond.fieldLink RJ0 1053 "jdk/internal/util/Preconditions" "SIOOBE_FORMATTER" "Ljava/util/function/BiFunction;" ∈ q_tbl := (q_wt5 (i := 17) (by decide +kernel) rfl)
theorem fl_X11_16 : q_fl RX11 16 11 9 1 true := ⟨_, _, rfl, by decide, (q_wt2 (i := 197) (by decide +kernel) rfl), rfl, rfl⟩
theorem fl_X11_19 : q_fl RX11 19 11 9 2 true := ⟨_, _, rfl, by decide, (q_wt2 (i := 198) (by decide +kernel) rfl), rfl, rfl⟩
theorem fl_X11_47 : q_fl RX11 47 11 9 8 false := ⟨_, _, rfl, by decide, (q_wt2 (i := 204) (by decide +kernel) rfl), rfl, rfl⟩
theorem fl_X11_236 : q_fl RX11 236 2 15 3 true := ⟨_, _, rfl, by decide, (q_wt1 (i := 109) (by decide +kernel) rfl), rfl, rfl⟩
theorem fl_X11_260 : q_fl RX11 260 5 9 7 false := ⟨_, _, rfl, by decide, (q_wt2 (i := 155) (by decide +kernel) rfl), rfl, rfl⟩
theorem fl_X11_263 : q_fl RX11 263 5 9 8 false := ⟨_, _, rfl, by decide, (q_wt2 (i := 157) (by decide +kernel) rfl), rfl, rfl⟩
theorem fl_X5_45 : q_fl RX5 45 5 9 7 false := ⟨_, _, rfl, by decide, (q_wt2 (i := 154) (by decide +kernel) rfl), rfl, rfl⟩
theorem fl_X9_49 : q_fl RX9 49 9 14 5 true := ⟨_, _, rfl, by decide, (q_wt2 (i := 96) (by decide +kernel) rfl), rfl, rfl⟩
theorem fl_X9_56 : q_fl RX9 56 9 14 6 true := ⟨_, _, rfl, by decide, (q_wt2 (i := 98) (by decide +kernel) rfl), rfl, rfl⟩
theorem fl_X9_63 : q_fl RX9 63 9 14 7 true := ⟨_, _, rfl, by decide, (q_wt2 (i := 100) (by decide +kernel) rfl), rfl, rfl⟩
theorem kc_X7_35 : Cond.constant RX7 35 (-1000000003) ∈ q_tbl := (q_wt5 (i := 147) (by decide +kernel) rfl)
theorem mt_J0_charAt_5068e : q_mt yJ0_charAt_5068e cJ0_charAt_5068e 2 (some .char) 1 := ⟨(q_wt5 (i := 6) rfl rfl), (q_wt1 (i := 16) (by decide +kernel) rfl), by decide +kernel, by decide +kernel, by decide +kernel⟩
theorem mt_J0_checkIndex_df160 : q_mt yJ0_checkIndex_df160 cJ0_checkIndex_df160 2 none 2 := ⟨(q_wt5 (i := 16) rfl rfl), (q_wt1 (i := 16) (by decide +kernel) rfl), by decide +kernel, by decide +kernel, by decide +kernel⟩
theorem mt_J0_coder_7d493 : q_mt yJ0_coder_7d493 cJ0_coder_7d493 1 (some .byte) 0 := ⟨(q_wt5 (i := 0) rfl rfl), (q_wt1 (i := 16) (by decide +kernel) rfl), by decide +kernel, by decide +kernel, by decide +kernel⟩
theorem mt_J0_indexOf_0f7a4 : q_mt yJ0_indexOf_0f7a4 cJ0_indexOf_0f7a4 2 (some .int) 1 := ⟨(q_wt5 (i := 78) rfl rfl), (q_wt1 (i := 16) (by decide +kernel) rfl), by decide +kernel, by decide +kernel, by decide +kernel⟩
theorem mt_J0_indexOf_7cf53 : q_mt yJ0_indexOf_7cf53 cJ0_indexOf_7cf53 3 (some .int) 2 := ⟨(q_wt5 (i := 82) rfl rfl), (q_wt1 (i := 16) (by decide +kernel) rfl), by decide +kernel, by decide +kernel, by decide +kernel⟩
theorem mt_J0_isLatin1_aae02 : q_mt yJ0_isLatin1_aae02 cJ0_isLatin1_aae02 1 (some .boolean) 0 := ⟨(q_wt5 (i := 10) rfl rfl), (q_wt1 (i := 16) (by decide +kernel) rfl), by decide +kernel, by decide +kernel, by decide +kernel⟩
theorem mt_J0_length_8abf5 : q_mt yJ0_length_8abf5 cJ0_length_8abf5 1 (some .int) 0 := ⟨(q_wt4 (i := 236) rfl rfl), (q_wt1 (i := 16) (by decide +kernel) rfl), by decide +kernel, by decide +kernel, by decide +kernel⟩
theorem mt_J1_canEncode_9a6ad : q_mt yJ1_canEncode_9a6ad cJ1_canEncode_9a6ad 1 (some .boolean) 1 := ⟨(q_wt5 (i := 89) rfl rfl), (q_wt1 (i := 17) (by decide +kernel) rfl), by decide +kernel, by decide +kernel, by decide +kernel⟩
theorem mt_J1_charAt_3b067 : q_mt yJ1_charAt_3b067 cJ1_charAt_3b067 2 (some .char) 2 := ⟨(q_wt5 (i := 13) rfl rfl), (q_wt1 (i := 17) (by decide +kernel) rfl), by decide +kernel, by decide +kernel, by decide +kernel⟩
theorem mt_J1_indexOfChar_4cfef : q_mt yJ1_indexOfChar_4cfef cJ1_indexOfChar_4cfef 6 (some .int) 4 := ⟨(q_wt5 (i := 94) rfl rfl), (q_wt1 (i := 17) (by decide +kernel) rfl), by decide +kernel, by decide +kernel, by decide +kernel⟩
theorem mt_J1_indexOf_4cfef : q_mt yJ1_indexOf_4cfef cJ1_indexOf_4cfef 4 (some .int) 4 := ⟨(q_wt5 (i := 86) rfl rfl), (q_wt1 (i := 17) (by decide +kernel) rfl), by decide +kernel, by decide +kernel, by decide +kernel⟩
theorem mt_J3_checkIndex_8e157 : q_mt yJ3_checkIndex_8e157 cJ3_checkIndex_8e157 3 (some .int) 3 := ⟨(q_wt5 (i := 21) rfl rfl), (q_wt1 (i := 18) (by decide +kernel) rfl), by decide +kernel, by decide +kernel, by decide +kernel⟩
theorem mt_X10_become : q_mt yX10_become cX10_become 2 none 1 := ⟨(q_wt4 (i := 164) rfl rfl), (q_wt1 (i := 8) (by decide +kernel) rfl), by decide +kernel, by decide +kernel, by decide +kernel⟩
theorem mt_X11_daysChecked : q_mt yX11_daysChecked cX11_daysChecked 4 (some .int) 2 := ⟨(q_wt6 (i := 158) rfl rfl), (q_wt1 (i := 1) (by decide +kernel) rfl), by decide +kernel, by decide +kernel, by decide +kernel⟩
theorem mt_X11_orderChecked : q_mt yX11_orderChecked cX11_orderChecked 6 (some .int) 3 := ⟨(q_wt6 (i := 150) rfl rfl), (q_wt1 (i := 1) (by decide +kernel) rfl), by decide +kernel, by decide +kernel, by decide +kernel⟩
theorem mt_X11_standing : q_mt yX11_standing cX11_standing 4 (some .int) 3 := ⟨(q_wt4 (i := 127) rfl rfl), (q_wt1 (i := 1) (by decide +kernel) rfl), by decide +kernel, by decide +kernel, by decide +kernel⟩
theorem mt_X1_become : q_mt yX1_become cX1_become 5 none 1 := ⟨(q_wt4 (i := 153) rfl rfl), (q_wt1 (i := 6) (by decide +kernel) rfl), by decide +kernel, by decide +kernel, by decide +kernel⟩
theorem mt_X2_become : q_mt yX2_become cX2_become 5 none 1 := ⟨(q_wt4 (i := 147) rfl rfl), (q_wt1 (i := 5) (by decide +kernel) rfl), by decide +kernel, by decide +kernel, by decide +kernel⟩
theorem mt_X3_become : q_mt yX3_become cX3_become 2 none 1 := ⟨(q_wt4 (i := 135) rfl rfl), (q_wt1 (i := 3) (by decide +kernel) rfl), by decide +kernel, by decide +kernel, by decide +kernel⟩
theorem mt_X4_become : q_mt yX4_become cX4_become 2 none 1 := ⟨(q_wt4 (i := 174) rfl rfl), (q_wt1 (i := 10) (by decide +kernel) rfl), by decide +kernel, by decide +kernel, by decide +kernel⟩
theorem mt_X5_codeRow : q_mt yX5_codeRow cX5_codeRow 2 (some (.array .int)) 0 := ⟨(q_wt5 (i := 141) rfl rfl), (q_wt1 (i := 11) (by decide +kernel) rfl), by decide +kernel, by decide +kernel, by decide +kernel⟩
theorem mt_X5_expression : q_mt yX5_expression cX5_expression 7 (some .boolean) 3 := ⟨(q_wt5 (i := 44) rfl rfl), (q_wt1 (i := 11) (by decide +kernel) rfl), by decide +kernel, by decide +kernel, by decide +kernel⟩
theorem mt_X5_firstFault : q_mt yX5_firstFault cX5_firstFault 1 (some .int) 0 := ⟨(q_wt4 (i := 204) rfl rfl), (q_wt1 (i := 11) (by decide +kernel) rfl), by decide +kernel, by decide +kernel, by decide +kernel⟩
theorem mt_X5_isWord : q_mt yX5_isWord cX5_isWord 3 (some .boolean) 1 := ⟨(q_wt4 (i := 232) rfl rfl), (q_wt1 (i := 11) (by decide +kernel) rfl), by decide +kernel, by decide +kernel, by decide +kernel⟩
theorem mt_X5_joinsAt : q_mt yX5_joinsAt cX5_joinsAt 2 (some .boolean) 1 := ⟨(q_wt5 (i := 137) rfl rfl), (q_wt1 (i := 11) (by decide +kernel) rfl), by decide +kernel, by decide +kernel, by decide +kernel⟩
theorem mt_X5_keyHere : q_mt yX5_keyHere cX5_keyHere 2 (some .int) 0 := ⟨(q_wt4 (i := 218) rfl rfl), (q_wt1 (i := 11) (by decide +kernel) rfl), by decide +kernel, by decide +kernel, by decide +kernel⟩
theorem mt_X5_name : q_mt yX5_name cX5_name 2 (some .int) 0 := ⟨(q_wt5 (i := 64) rfl rfl), (q_wt1 (i := 11) (by decide +kernel) rfl), by decide +kernel, by decide +kernel, by decide +kernel⟩
theorem mt_X5_names : q_mt yX5_names cX5_names 1 (some (.object "java/lang/String")) 1 := ⟨(q_wt5 (i := 67) rfl rfl), (q_wt1 (i := 11) (by decide +kernel) rfl), by decide +kernel, by decide +kernel, by decide +kernel⟩
theorem mt_X5_number : q_mt yX5_number cX5_number 3 (some .int) 0 := ⟨(q_wt5 (i := 52) rfl rfl), (q_wt1 (i := 11) (by decide +kernel) rfl), by decide +kernel, by decide +kernel, by decide +kernel⟩
theorem mt_X5_operand : q_mt yX5_operand cX5_operand 2 (some .boolean) 1 := ⟨(q_wt5 (i := 56) rfl rfl), (q_wt1 (i := 11) (by decide +kernel) rfl), by decide +kernel, by decide +kernel, by decide +kernel⟩
theorem mt_X5_part : q_mt yX5_part cX5_part 3 (some .boolean) 2 := ⟨(q_wt5 (i := 48) rfl rfl), (q_wt1 (i := 11) (by decide +kernel) rfl), by decide +kernel, by decide +kernel, by decide +kernel⟩
theorem mt_X5_word : q_mt yX5_word cX5_word 1 (some (.object "java/lang/String")) 1 := ⟨(q_wt4 (i := 221) rfl rfl), (q_wt1 (i := 11) (by decide +kernel) rfl), by decide +kernel, by decide +kernel, by decide +kernel⟩
theorem mt_X6_become : q_mt yX6_become cX6_become 2 none 1 := ⟨(q_wt4 (i := 169) rfl rfl), (q_wt1 (i := 9) (by decide +kernel) rfl), by decide +kernel, by decide +kernel, by decide +kernel⟩
theorem mt_X7_added : q_mt yX7_added cX7_added 5 (some .int) 4 := ⟨(q_wt5 (i := 146) rfl rfl), (q_wt1 (i := 7) (by decide +kernel) rfl), by decide +kernel, by decide +kernel, by decide +kernel⟩
theorem mt_X7_become : q_mt yX7_become cX7_become 3 none 1 := ⟨(q_wt4 (i := 159) rfl rfl), (q_wt1 (i := 7) (by decide +kernel) rfl), by decide +kernel, by decide +kernel, by decide +kernel⟩
theorem mt_X8_become : q_mt yX8_become cX8_become 2 none 1 := ⟨(q_wt4 (i := 142) rfl rfl), (q_wt1 (i := 4) (by decide +kernel) rfl), by decide +kernel, by decide +kernel, by decide +kernel⟩
theorem mt_X9_allEarned : q_mt yX9_allEarned cX9_allEarned 3 (some .int) 0 := ⟨(q_wt6 (i := 162) rfl rfl), (q_wt1 (i := 2) (by decide +kernel) rfl), by decide +kernel, by decide +kernel, by decide +kernel⟩
theorem mt_X9_allOwed : q_mt yX9_allOwed cX9_allOwed 3 (some .int) 0 := ⟨(q_wt4 (i := 180) rfl rfl), (q_wt1 (i := 2) (by decide +kernel) rfl), by decide +kernel, by decide +kernel, by decide +kernel⟩
theorem mt_X9_become : q_mt yX9_become cX9_become 2 none 1 := ⟨(q_wt4 (i := 131) rfl rfl), (q_wt1 (i := 2) (by decide +kernel) rfl), by decide +kernel, by decide +kernel, by decide +kernel⟩
theorem ml_J0_335 : Cond.methodLink RJ0 335 yJ0_coder_7d493 ∈ q_tbl := (q_wt4 (i := 237) (by decide +kernel) rfl)
theorem ml_J0_492 : Cond.methodLink RJ0 492 yJ0_isLatin1_aae02 ∈ q_tbl := (q_wt5 (i := 7) (by decide +kernel) rfl)
theorem ml_J0_495 : Cond.methodLink RJ0 495 yJ1_charAt_3b067 ∈ q_tbl := (q_wt5 (i := 11) (by decide +kernel) rfl)
theorem ml_J0_505 : Cond.methodLink RJ0 505 yJ0_length_8abf5 ∈ q_tbl := (q_wt5 (i := 83) (by decide +kernel) rfl)
theorem ml_J0_633 : Cond.methodLink RJ0 633 yJ0_indexOf_7cf53 ∈ q_tbl := (q_wt5 (i := 79) (by decide +kernel) rfl)
theorem ml_J0_637 : Cond.methodLink RJ0 637 yJ1_indexOf_4cfef ∈ q_tbl := (q_wt5 (i := 84) (by decide +kernel) rfl)
theorem ml_J0_1059 : Cond.methodLink RJ0 1059 yJ3_checkIndex_8e157 ∈ q_tbl := (q_wt5 (i := 19) (by decide +kernel) rfl)
theorem ml_J1_9 : Cond.methodLink RJ1 9 yJ0_checkIndex_df160 ∈ q_tbl := (q_wt5 (i := 14) (by decide +kernel) rfl)
theorem ml_J1_88 : Cond.methodLink RJ1 88 yJ1_canEncode_9a6ad ∈ q_tbl := (q_wt5 (i := 87) (by decide +kernel) rfl)
theorem ml_J1_95 : Cond.methodLink RJ1 95 yJ1_indexOfChar_4cfef ∈ q_tbl := (q_wt5 (i := 92) (by decide +kernel) rfl)
theorem ml_X11_224 : Cond.methodLink RX11 224 yX11_standing ∈ q_tbl := (q_wt4 (i := 124) (by decide +kernel) rfl)
theorem ml_X11_228 : Cond.methodLink RX11 228 yX9_become ∈ q_tbl := (q_wt4 (i := 128) (by decide +kernel) rfl)
theorem ml_X11_232 : Cond.methodLink RX11 232 yX9_allOwed ∈ q_tbl := (q_wt4 (i := 177) (by decide +kernel) rfl)
theorem ml_X11_253 : Cond.methodLink RX11 253 yX5_firstFault ∈ q_tbl := (q_wt4 (i := 201) (by decide +kernel) rfl)
theorem ml_X11_266 : Cond.methodLink RX11 266 yX5_codeRow ∈ q_tbl := (q_wt5 (i := 138) (by decide +kernel) rfl)
theorem ml_X11_270 : Cond.methodLink RX11 270 yX7_added ∈ q_tbl := (q_wt5 (i := 143) (by decide +kernel) rfl)
theorem ml_X11_395 : Cond.methodLink RX11 395 yX11_orderChecked ∈ q_tbl := (q_wt6 (i := 147) (by decide +kernel) rfl)
theorem ml_X11_398 : Cond.methodLink RX11 398 yX11_daysChecked ∈ q_tbl := (q_wt6 (i := 155) (by decide +kernel) rfl)
theorem ml_X11_407 : Cond.methodLink RX11 407 yX9_allEarned ∈ q_tbl := (q_wt6 (i := 159) (by decide +kernel) rfl)
theorem ml_X5_41 : Cond.methodLink RX5 41 yX5_keyHere ∈ q_tbl := (q_wt4 (i := 215) (by decide +kernel) rfl)
theorem ml_X5_51 : Cond.methodLink RX5 51 yX5_expression ∈ q_tbl := (q_wt5 (i := 41) (by decide +kernel) rfl)
theorem ml_X5_64 : Cond.methodLink RX5 64 yX5_word ∈ q_tbl := (q_wt4 (i := 219) (by decide +kernel) rfl)
theorem ml_X5_68 : Cond.methodLink RX5 68 yX5_isWord ∈ q_tbl := (q_wt4 (i := 229) (by decide +kernel) rfl)
theorem ml_X5_72 : Cond.methodLink RX5 72 yJ0_length_8abf5 ∈ q_tbl := (q_wt4 (i := 233) (by decide +kernel) rfl)
theorem ml_X5_76 : Cond.methodLink RX5 76 yJ0_charAt_5068e ∈ q_tbl := (q_wt5 (i := 3) (by decide +kernel) rfl)
theorem ml_X5_108 : Cond.methodLink RX5 108 yX5_part ∈ q_tbl := (q_wt5 (i := 45) (by decide +kernel) rfl)
theorem ml_X5_112 : Cond.methodLink RX5 112 yX5_joinsAt ∈ q_tbl := (q_wt5 (i := 134) (by decide +kernel) rfl)
theorem ml_X5_122 : Cond.methodLink RX5 122 yX5_number ∈ q_tbl := (q_wt5 (i := 49) (by decide +kernel) rfl)
theorem ml_X5_125 : Cond.methodLink RX5 125 yX5_operand ∈ q_tbl := (q_wt5 (i := 53) (by decide +kernel) rfl)
theorem ml_X5_128 : Cond.methodLink RX5 128 yX5_name ∈ q_tbl := (q_wt5 (i := 61) (by decide +kernel) rfl)
theorem ml_X5_131 : Cond.methodLink RX5 131 yX5_names ∈ q_tbl := (q_wt5 (i := 65) (by decide +kernel) rfl)
theorem ml_X5_134 : Cond.methodLink RX5 134 yJ0_indexOf_0f7a4 ∈ q_tbl := (q_wt5 (i := 75) (by decide +kernel) rfl)
theorem ml_X9_87 : Cond.methodLink RX9 87 yX3_become ∈ q_tbl := (q_wt4 (i := 132) (by decide +kernel) rfl)
theorem ml_X9_91 : Cond.methodLink RX9 91 yX8_become ∈ q_tbl := (q_wt4 (i := 139) (by decide +kernel) rfl)
theorem ml_X9_94 : Cond.methodLink RX9 94 yX2_become ∈ q_tbl := (q_wt4 (i := 144) (by decide +kernel) rfl)
theorem ml_X9_97 : Cond.methodLink RX9 97 yX1_become ∈ q_tbl := (q_wt4 (i := 150) (by decide +kernel) rfl)
theorem ml_X9_100 : Cond.methodLink RX9 100 yX7_become ∈ q_tbl := (q_wt4 (i := 156) (by decide +kernel) rfl)
theorem ml_X9_103 : Cond.methodLink RX9 103 yX10_become ∈ q_tbl := (q_wt4 (i := 161) (by decide +kernel) rfl)
theorem ml_X9_106 : Cond.methodLink RX9 106 yX6_become ∈ q_tbl := (q_wt4 (i := 166) (by decide +kernel) rfl)
theorem ml_X9_109 : Cond.methodLink RX9 109 yX4_become ∈ q_tbl := (q_wt4 (i := 171) (by decide +kernel) rfl)
theorem mst_J0_checkIndex_df160 : Cond.static yJ0_checkIndex_df160 ∈ q_tbl := (q_wt5 (i := 15) (by decide +kernel) rfl)
theorem mst_J1_canEncode_9a6ad : Cond.static yJ1_canEncode_9a6ad ∈ q_tbl := (q_wt5 (i := 88) (by decide +kernel) rfl)
theorem mst_J1_charAt_3b067 : Cond.static yJ1_charAt_3b067 ∈ q_tbl := (q_wt5 (i := 12) (by decide +kernel) rfl)
theorem mst_J1_indexOfChar_4cfef : Cond.static yJ1_indexOfChar_4cfef ∈ q_tbl := (q_wt5 (i := 93) (by decide +kernel) rfl)
theorem mst_J1_indexOf_4cfef : Cond.static yJ1_indexOf_4cfef ∈ q_tbl := (q_wt5 (i := 85) (by decide +kernel) rfl)
theorem mst_J3_checkIndex_8e157 : Cond.static yJ3_checkIndex_8e157 ∈ q_tbl := (q_wt5 (i := 20) (by decide +kernel) rfl)
theorem mst_X5_names : Cond.static yX5_names ∈ q_tbl := (q_wt5 (i := 66) (by decide +kernel) rfl)
theorem mst_X5_word : Cond.static yX5_word ∈ q_tbl := (q_wt4 (i := 220) (by decide +kernel) rfl)
theorem mv_X10_become : Cond.instanceMethod yX10_become ∈ q_tbl ∧ Cond.selects yX10_become.cls yX10_become yX10_become ∈ q_tbl ∧ ∃ T : u_T, vwCl[10]? = some (yX10_become.cls, T, 1) := ⟨(q_wt4 (i := 162) (by decide +kernel) rfl), (q_wt4 (i := 163) (by decide +kernel) rfl), _, rfl⟩
theorem mv_X11_daysChecked : Cond.instanceMethod yX11_daysChecked ∈ q_tbl ∧ Cond.selects yX11_daysChecked.cls yX11_daysChecked yX11_daysChecked ∈ q_tbl ∧ ∃ T : u_T, vwCl[11]? = some (yX11_daysChecked.cls, T, 9) := ⟨(q_wt6 (i := 157) (by decide +kernel) rfl), (q_wp3 (i := 2) (n := 9) (by decide +kernel)), _, rfl⟩
theorem mv_X11_orderChecked : Cond.instanceMethod yX11_orderChecked ∈ q_tbl ∧ Cond.selects yX11_orderChecked.cls yX11_orderChecked yX11_orderChecked ∈ q_tbl ∧ ∃ T : u_T, vwCl[11]? = some (yX11_orderChecked.cls, T, 9) := ⟨(q_wt6 (i := 149) (by decide +kernel) rfl), (q_wp3 (i := 0) (n := 9) (by decide +kernel)), _, rfl⟩
theorem mv_X11_standing : Cond.instanceMethod yX11_standing ∈ q_tbl ∧ Cond.selects yX11_standing.cls yX11_standing yX11_standing ∈ q_tbl ∧ ∃ T : u_T, vwCl[11]? = some (yX11_standing.cls, T, 9) := ⟨(q_wt4 (i := 126) (by decide +kernel) rfl), (q_wp1 (i := 15) (n := 9) (by decide +kernel)), _, rfl⟩
theorem mv_X1_become : Cond.instanceMethod yX1_become ∈ q_tbl ∧ Cond.selects yX1_become.cls yX1_become yX1_become ∈ q_tbl ∧ ∃ T : u_T, vwCl[1]? = some (yX1_become.cls, T, 9) := ⟨(q_wt4 (i := 151) (by decide +kernel) rfl), (q_wt4 (i := 152) (by decide +kernel) rfl), _, rfl⟩
theorem mv_X2_become : Cond.instanceMethod yX2_become ∈ q_tbl ∧ Cond.selects yX2_become.cls yX2_become yX2_become ∈ q_tbl ∧ ∃ T : u_T, vwCl[2]? = some (yX2_become.cls, T, 15) := ⟨(q_wt4 (i := 145) (by decide +kernel) rfl), (q_wt4 (i := 146) (by decide +kernel) rfl), _, rfl⟩
theorem mv_X3_become : Cond.instanceMethod yX3_become ∈ q_tbl ∧ Cond.selects yX3_become.cls yX3_become yX3_become ∈ q_tbl ∧ ∃ T : u_T, vwCl[3]? = some (yX3_become.cls, T, 5) := ⟨(q_wt4 (i := 133) (by decide +kernel) rfl), (q_wt4 (i := 134) (by decide +kernel) rfl), _, rfl⟩
theorem mv_X4_become : Cond.instanceMethod yX4_become ∈ q_tbl ∧ Cond.selects yX4_become.cls yX4_become yX4_become ∈ q_tbl ∧ ∃ T : u_T, vwCl[4]? = some (yX4_become.cls, T, 10) := ⟨(q_wt4 (i := 172) (by decide +kernel) rfl), (q_wt4 (i := 173) (by decide +kernel) rfl), _, rfl⟩
theorem mv_X5_codeRow : Cond.instanceMethod yX5_codeRow ∈ q_tbl ∧ Cond.selects yX5_codeRow.cls yX5_codeRow yX5_codeRow ∈ q_tbl ∧ ∃ T : u_T, vwCl[5]? = some (yX5_codeRow.cls, T, 9) := ⟨(q_wt5 (i := 139) (by decide +kernel) rfl), (q_wt5 (i := 140) (by decide +kernel) rfl), _, rfl⟩
theorem mv_X5_expression : Cond.instanceMethod yX5_expression ∈ q_tbl ∧ Cond.selects yX5_expression.cls yX5_expression yX5_expression ∈ q_tbl ∧ ∃ T : u_T, vwCl[5]? = some (yX5_expression.cls, T, 9) := ⟨(q_wt5 (i := 43) (by decide +kernel) rfl), (q_wp2 (i := 3) (n := 9) (by decide +kernel)), _, rfl⟩
theorem mv_X5_firstFault : Cond.instanceMethod yX5_firstFault ∈ q_tbl ∧ Cond.selects yX5_firstFault.cls yX5_firstFault yX5_firstFault ∈ q_tbl ∧ ∃ T : u_T, vwCl[5]? = some (yX5_firstFault.cls, T, 9) := ⟨(q_wt4 (i := 202) (by decide +kernel) rfl), (q_wt4 (i := 203) (by decide +kernel) rfl), _, rfl⟩
theorem mv_X5_isWord : Cond.instanceMethod yX5_isWord ∈ q_tbl ∧ Cond.selects yX5_isWord.cls yX5_isWord yX5_isWord ∈ q_tbl ∧ ∃ T : u_T, vwCl[5]? = some (yX5_isWord.cls, T, 9) := ⟨(q_wt4 (i := 231) (by decide +kernel) rfl), (q_wp2 (i := 2) (n := 9) (by decide +kernel)), _, rfl⟩
theorem mv_X5_joinsAt : Cond.instanceMethod yX5_joinsAt ∈ q_tbl ∧ Cond.selects yX5_joinsAt.cls yX5_joinsAt yX5_joinsAt ∈ q_tbl ∧ ∃ T : u_T, vwCl[5]? = some (yX5_joinsAt.cls, T, 9) := ⟨(q_wt5 (i := 136) (by decide +kernel) rfl), (q_wp2 (i := 10) (n := 9) (by decide +kernel)), _, rfl⟩
theorem mv_X5_keyHere : Cond.instanceMethod yX5_keyHere ∈ q_tbl ∧ Cond.selects yX5_keyHere.cls yX5_keyHere yX5_keyHere ∈ q_tbl ∧ ∃ T : u_T, vwCl[5]? = some (yX5_keyHere.cls, T, 9) := ⟨(q_wt4 (i := 217) (by decide +kernel) rfl), (q_wp2 (i := 1) (n := 9) (by decide +kernel)), _, rfl⟩
theorem mv_X5_name : Cond.instanceMethod yX5_name ∈ q_tbl ∧ Cond.selects yX5_name.cls yX5_name yX5_name ∈ q_tbl ∧ ∃ T : u_T, vwCl[5]? = some (yX5_name.cls, T, 9) := ⟨(q_wt5 (i := 63) (by decide +kernel) rfl), (q_wp2 (i := 8) (n := 9) (by decide +kernel)), _, rfl⟩
theorem mv_X5_number : Cond.instanceMethod yX5_number ∈ q_tbl ∧ Cond.selects yX5_number.cls yX5_number yX5_number ∈ q_tbl ∧ ∃ T : u_T, vwCl[5]? = some (yX5_number.cls, T, 9) := ⟨(q_wt5 (i := 51) (by decide +kernel) rfl), (q_wp2 (i := 5) (n := 9) (by decide +kernel)), _, rfl⟩
theorem mv_X5_operand : Cond.instanceMethod yX5_operand ∈ q_tbl ∧ Cond.selects yX5_operand.cls yX5_operand yX5_operand ∈ q_tbl ∧ ∃ T : u_T, vwCl[5]? = some (yX5_operand.cls, T, 9) := ⟨(q_wt5 (i := 55) (by decide +kernel) rfl), (q_wp2 (i := 6) (n := 9) (by decide +kernel)), _, rfl⟩
theorem mv_X5_part : Cond.instanceMethod yX5_part ∈ q_tbl ∧ Cond.selects yX5_part.cls yX5_part yX5_part ∈ q_tbl ∧ ∃ T : u_T, vwCl[5]? = some (yX5_part.cls, T, 9) := ⟨(q_wt5 (i := 47) (by decide +kernel) rfl), (q_wp2 (i := 4) (n := 9) (by decide +kernel)), _, rfl⟩
theorem mv_X6_become : Cond.instanceMethod yX6_become ∈ q_tbl ∧ Cond.selects yX6_become.cls yX6_become yX6_become ∈ q_tbl ∧ ∃ T : u_T, vwCl[6]? = some (yX6_become.cls, T, 9) := ⟨(q_wt4 (i := 167) (by decide +kernel) rfl), (q_wt4 (i := 168) (by decide +kernel) rfl), _, rfl⟩
theorem mv_X7_added : Cond.instanceMethod yX7_added ∈ q_tbl ∧ Cond.selects yX7_added.cls yX7_added yX7_added ∈ q_tbl ∧ ∃ T : u_T, vwCl[7]? = some (yX7_added.cls, T, 6) := ⟨(q_wt5 (i := 144) (by decide +kernel) rfl), (q_wt5 (i := 145) (by decide +kernel) rfl), _, rfl⟩
theorem mv_X7_become : Cond.instanceMethod yX7_become ∈ q_tbl ∧ Cond.selects yX7_become.cls yX7_become yX7_become ∈ q_tbl ∧ ∃ T : u_T, vwCl[7]? = some (yX7_become.cls, T, 6) := ⟨(q_wt4 (i := 157) (by decide +kernel) rfl), (q_wt4 (i := 158) (by decide +kernel) rfl), _, rfl⟩
theorem mv_X8_become : Cond.instanceMethod yX8_become ∈ q_tbl ∧ Cond.selects yX8_become.cls yX8_become yX8_become ∈ q_tbl ∧ ∃ T : u_T, vwCl[8]? = some (yX8_become.cls, T, 5) := ⟨(q_wt4 (i := 140) (by decide +kernel) rfl), (q_wt4 (i := 141) (by decide +kernel) rfl), _, rfl⟩
theorem mv_X9_allEarned : Cond.instanceMethod yX9_allEarned ∈ q_tbl ∧ Cond.selects yX9_allEarned.cls yX9_allEarned yX9_allEarned ∈ q_tbl ∧ ∃ T : u_T, vwCl[9]? = some (yX9_allEarned.cls, T, 14) := ⟨(q_wt6 (i := 160) (by decide +kernel) rfl), (q_wt6 (i := 161) (by decide +kernel) rfl), _, rfl⟩
theorem mv_X9_allOwed : Cond.instanceMethod yX9_allOwed ∈ q_tbl ∧ Cond.selects yX9_allOwed.cls yX9_allOwed yX9_allOwed ∈ q_tbl ∧ ∃ T : u_T, vwCl[9]? = some (yX9_allOwed.cls, T, 14) := ⟨(q_wt4 (i := 178) (by decide +kernel) rfl), (q_wt4 (i := 179) (by decide +kernel) rfl), _, rfl⟩
theorem mv_X9_become : Cond.instanceMethod yX9_become ∈ q_tbl ∧ Cond.selects yX9_become.cls yX9_become yX9_become ∈ q_tbl ∧ ∃ T : u_T, vwCl[9]? = some (yX9_become.cls, T, 14) := ⟨(q_wt4 (i := 129) (by decide +kernel) rfl), (q_wt4 (i := 130) (by decide +kernel) rfl), _, rfl⟩
theorem mvT_J0_charAt_5068e : Cond.instanceMethod yJ0_charAt_5068e ∈ q_tbl ∧ Cond.selects yJ0_charAt_5068e.cls yJ0_charAt_5068e yJ0_charAt_5068e ∈ q_tbl ∧ yJ0_charAt_5068e.cls = "java/lang/String" := ⟨(q_wt5 (i := 4) (by decide +kernel) rfl), (q_wt5 (i := 5) (by decide +kernel) rfl), rfl⟩
theorem mvT_J0_coder_7d493 : Cond.instanceMethod yJ0_coder_7d493 ∈ q_tbl ∧ Cond.selects yJ0_coder_7d493.cls yJ0_coder_7d493 yJ0_coder_7d493 ∈ q_tbl ∧ yJ0_coder_7d493.cls = "java/lang/String" := ⟨(q_wt4 (i := 238) (by decide +kernel) rfl), (q_wt4 (i := 239) (by decide +kernel) rfl), rfl⟩
theorem mvT_J0_indexOf_0f7a4 : Cond.instanceMethod yJ0_indexOf_0f7a4 ∈ q_tbl ∧ Cond.selects yJ0_indexOf_0f7a4.cls yJ0_indexOf_0f7a4 yJ0_indexOf_0f7a4 ∈ q_tbl ∧ yJ0_indexOf_0f7a4.cls = "java/lang/String" := ⟨(q_wt5 (i := 76) (by decide +kernel) rfl), (q_wt5 (i := 77) (by decide +kernel) rfl), rfl⟩
theorem mvT_J0_indexOf_7cf53 : Cond.instanceMethod yJ0_indexOf_7cf53 ∈ q_tbl ∧ Cond.selects yJ0_indexOf_7cf53.cls yJ0_indexOf_7cf53 yJ0_indexOf_7cf53 ∈ q_tbl ∧ yJ0_indexOf_7cf53.cls = "java/lang/String" := ⟨(q_wt5 (i := 80) (by decide +kernel) rfl), (q_wt5 (i := 81) (by decide +kernel) rfl), rfl⟩
theorem mvT_J0_isLatin1_aae02 : Cond.instanceMethod yJ0_isLatin1_aae02 ∈ q_tbl ∧ Cond.selects yJ0_isLatin1_aae02.cls yJ0_isLatin1_aae02 yJ0_isLatin1_aae02 ∈ q_tbl ∧ yJ0_isLatin1_aae02.cls = "java/lang/String" := ⟨(q_wt5 (i := 8) (by decide +kernel) rfl), (q_wt5 (i := 9) (by decide +kernel) rfl), rfl⟩
theorem mvT_J0_length_8abf5 : Cond.instanceMethod yJ0_length_8abf5 ∈ q_tbl ∧ Cond.selects yJ0_length_8abf5.cls yJ0_length_8abf5 yJ0_length_8abf5 ∈ q_tbl ∧ yJ0_length_8abf5.cls = "java/lang/String" := ⟨(q_wt4 (i := 234) (by decide +kernel) rfl), (q_wt4 (i := 235) (by decide +kernel) rfl), rfl⟩
theorem mm_J1_38 : Cond.methodLink RJ1 38 Lib.Math.min.name ∈ q_tbl ∧ Cond.static Lib.Math.min.name ∈ q_tbl ∧ Cond.initialized "java/lang/Math" ∈ q_tbl ∧ Cond.code Lib.Math.min.name Lib.Math.min.code 2 (some .int) ∈ q_tbl := ⟨(q_wt5 (i := 91) (by decide +kernel) rfl), (q_wt3 (i := 158) (by decide +kernel) rfl), (q_wt1 (i := 14) (by decide +kernel) rfl), (q_wt3 (i := 159) rfl rfl)⟩
theorem mm_J1_92 : Cond.methodLink RJ1 92 Lib.Math.max.name ∈ q_tbl ∧ Cond.static Lib.Math.max.name ∈ q_tbl ∧ Cond.initialized "java/lang/Math" ∈ q_tbl ∧ Cond.code Lib.Math.max.name Lib.Math.max.code 2 (some .int) ∈ q_tbl := ⟨(q_wt5 (i := 90) (by decide +kernel) rfl), (q_wt3 (i := 161) (by decide +kernel) rfl), (q_wt1 (i := 14) (by decide +kernel) rfl), (q_wt3 (i := 162) rfl rfl)⟩
theorem cp_X5_23 : Cond.methodLink RX5 23 arraycopyName ∈ q_tbl ∧ Cond.native arraycopyName ∈ q_tbl ∧ Cond.static arraycopyName ∈ q_tbl ∧ Cond.initialized "java/lang/System" ∈ q_tbl := ⟨(q_wt5 (i := 142) (by decide +kernel) rfl), (q_wt4 (i := 138) (by decide +kernel) rfl), (q_wt4 (i := 137) (by decide +kernel) rfl), (q_wt1 (i := 15) (by decide +kernel) rfl)⟩
theorem cp_X7_36 : Cond.methodLink RX7 36 arraycopyName ∈ q_tbl ∧ Cond.native arraycopyName ∈ q_tbl ∧ Cond.static arraycopyName ∈ q_tbl ∧ Cond.initialized "java/lang/System" ∈ q_tbl := ⟨(q_wt4 (i := 160) (by decide +kernel) rfl), (q_wt4 (i := 138) (by decide +kernel) rfl), (q_wt4 (i := 137) (by decide +kernel) rfl), (q_wt1 (i := 15) (by decide +kernel) rfl)⟩
theorem cp_X9_112 : Cond.methodLink RX9 112 arraycopyName ∈ q_tbl ∧ Cond.native arraycopyName ∈ q_tbl ∧ Cond.static arraycopyName ∈ q_tbl ∧ Cond.initialized "java/lang/System" ∈ q_tbl := ⟨(q_wt4 (i := 176) (by decide +kernel) rfl), (q_wt4 (i := 138) (by decide +kernel) rfl), (q_wt4 (i := 137) (by decide +kernel) rfl), (q_wt1 (i := 15) (by decide +kernel) rfl)⟩
theorem dX5_codeRow_0 : q_at cX5_codeRow 0 (.aload_n 0) 1 1 := ⟨by decide +kernel, rfl⟩
theorem dX5_codeRow_1 : q_at cX5_codeRow 1 (.getfield 20) 3 4 := ⟨by decide +kernel, rfl⟩
theorem dX5_codeRow_4 : q_at cX5_codeRow 4 (.newarray .int) 2 6 := ⟨by decide +kernel, rfl⟩
theorem dX5_codeRow_6 : q_at cX5_codeRow 6 (.astore_n 1) 1 7 := ⟨by decide +kernel, rfl⟩
theorem dX5_codeRow_7 : q_at cX5_codeRow 7 (.aload_n 0) 1 8 := ⟨by decide +kernel, rfl⟩
theorem dX5_codeRow_8 : q_at cX5_codeRow 8 (.getfield 13) 3 11 := ⟨by decide +kernel, rfl⟩
theorem dX5_codeRow_11 : q_at cX5_codeRow 11 (.iconst 0) 1 12 := ⟨by decide +kernel, rfl⟩
theorem dX5_codeRow_12 : q_at cX5_codeRow 12 (.aload_n 1) 1 13 := ⟨by decide +kernel, rfl⟩
theorem dX5_codeRow_13 : q_at cX5_codeRow 13 (.iconst 0) 1 14 := ⟨by decide +kernel, rfl⟩
theorem dX5_codeRow_14 : q_at cX5_codeRow 14 (.aload_n 0) 1 15 := ⟨by decide +kernel, rfl⟩
theorem dX5_codeRow_15 : q_at cX5_codeRow 15 (.getfield 20) 3 18 := ⟨by decide +kernel, rfl⟩
theorem dX5_codeRow_18 : q_at cX5_codeRow 18 (.invokestatic 23) 3 21 := ⟨by decide +kernel, rfl⟩
theorem dX5_codeRow_21 : q_at cX5_codeRow 21 (.aload_n 1) 1 22 := ⟨by decide +kernel, rfl⟩
theorem dX5_codeRow_22 : q_at cX5_codeRow 22 (.areturn) 1 23 := ⟨by decide +kernel, rfl⟩
/-- the one place beside constructors where a cell comes: a row for a text's code -/
def f_X5_codeRow (this : Nat) (X : qX) (I : qI) : Option (Option Nat × qI × qX) :=
  if I this 2 < 0 ∨ 96 < (I this 2).toNatClampNeg then none else
  q_b1 (q_cp (q_upA I (X.2.length + 64) (fun _ => 0)) (this + 2) 96 (nI 0) (X.2.length + 64) (I this 2).toNatClampNeg (nI 0) (I this 2)) fun J =>
  some (some (X.2.length + 64), J, (X.1, X.2 ++ [(0, (I this 2).toNatClampNeg)]))
theorem q_aI : Cond.arrayClass .int ∈ q_tbl := (q_wt1 (i := 65) (by decide +kernel) rfl)
set_option maxRecDepth 100000 in
set_option maxHeartbeats 4000000 in
theorem s_X5_codeRow {l : Launch} {Γ : qC} (hΓ : q_gm Γ) {X : qX} (hX : q_Lay X) {this : Nat} (k_this : q_kd X this = some (7, 9)) {I : qI} {z : Option Nat × qI × qX} (h : f_X5_codeRow this X I = some z) : q_Sem l Γ (q_rm 2 1 96) yX5_codeRow cX5_codeRow 2 (some (.array .int)) [.ref this] I X (some (va_rf z.1), z.2.1, z.2.2) := by
  refine q_met (by decide) (Nat.le_of_ble_eq_true rfl) (fun g hg hr => ?_)
  unfold f_X5_codeRow at h
  by_cases c1 : I this 2 < 0 ∨ 96 < (I this 2).toNatClampNeg
  · rw [if_pos c1] at h; cases h
  rw [if_neg c1] at h
  have c2 : ¬ I this 2 < 0 := fun q => c1 (Or.inl q)
  have c3 : (I this 2).toNatClampNeg ≤ 96 := Nat.le_of_not_lt fun q => c1 (Or.inr q)
  have hlt : this < X.2.length + 64 := by
    obtain ⟨h1, h2⟩ := q_kd_ge k_this
    have := (List.getElem?_eq_some_iff.mp h2).1
    omega
  have hne : q_upA I (X.2.length + 64) (fun _ => 0) this = I this := if_neg (Nat.ne_of_lt hlt)
  have k2 : q_kd (X.1, X.2 ++ [(0, (I this 2).toNatClampNeg)]) this = some (7, 9) := q_kd_push k_this
  have hX2 : q_Lay (X.1, X.2 ++ [(0, (I this 2).toNatClampNeg)]) := (q_Ext.row hX).1
  show g 0 0 0 [(0, .ref this)] [] I X
  refine r_aload_n hg 0 dX5_codeRow_0 rfl rfl ?_
  refine r_getI hg dX5_codeRow_1 fl_X5_20 k_this rfl ?_
  refine r_newa hg dX5_codeRow_4 q_aI c2 rfl (by omega) (Nat.le_refl 1) (by show 0 + _ ≤ 96; omega) ?_
  refine r_astore_n hg (L' := [(1, .ref (X.2.length + 64)), (0, .ref this)]) dX5_codeRow_6 rfl (by decide) rfl ?_
  refine r_aload_n hg 1 dX5_codeRow_7 rfl rfl ?_
  have e1 := ly_5_1 hX2 k2
  refine r_getR hg dX5_codeRow_8 fl_X5_13 k2 rfl e1.1 ?_
  refine r_iconst hg dX5_codeRow_11 ci_0 ?_
  refine r_aload_n hg 0 dX5_codeRow_12 rfl rfl ?_
  refine r_iconst hg dX5_codeRow_13 ci_0 ?_
  refine r_aload_n hg 1 dX5_codeRow_14 rfl rfl ?_
  refine r_getI hg dX5_codeRow_15 fl_X5_20 k2 rfl ?_
  rw [hne]
  obtain ⟨J, e2, h⟩ := q_b1_some h
  obtain ⟨⟨q1, q2, q3⟩, q4, q5, rfl⟩ := q_cp_some e2
  refine r_copy hg dX5_codeRow_18 cp_X5_23 e1.2 (q_kd_last (R := X.1) (K := X.2) (d := (0, (I this 2).toNatClampNeg))) q1 q2 q3 q4 q5 ⟨Nat.le_of_ble_eq_true rfl, Nat.le_of_ble_eq_true rfl⟩ ?_
  refine r_aload_n hg 0 dX5_codeRow_21 rfl rfl ?_
  exact r_areturn hr (r := some (X.2.length + 64)) dX5_codeRow_22 ⟨Nat.le_refl 1, by show 0 + _ ≤ 96; omega⟩ ⟨_, rfl, Or.inr ⟨_, rfl⟩⟩ (by cases h; rfl)
theorem x_X5_codeRow {X : qX} (hX : q_Lay X) {this : Nat} (_ : q_kd X this = some (7, 9)) {I : qI} {z : Option Nat × qI × qX} (h : f_X5_codeRow this X I = some z) : q_Ext X z.2.2 := by
  unfold f_X5_codeRow at h
  split at h
  · cases h
  · obtain ⟨J, -, h⟩ := q_b1_some h
    cases h
    exact q_Ext.row hX
