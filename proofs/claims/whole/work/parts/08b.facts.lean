theorem fl_X9_83 : q_fl RX9 83 9 14 13 false := ⟨_, _, rfl, by decide, (q_wt2 (i := 109) (by decide +kernel) rfl), rfl, rfl⟩
theorem fl_X9_122 : q_fl RX9 122 2 15 10 true := ⟨_, _, rfl, by decide, (q_wt1 (i := 126) (by decide +kernel) rfl), rfl, rfl⟩
theorem fl_X9_128 : q_fl RX9 128 2 15 11 true := ⟨_, _, rfl, by decide, (q_wt1 (i := 128) (by decide +kernel) rfl), rfl, rfl⟩
theorem fl_X9_131 : q_fl RX9 131 1 9 2 true := ⟨_, _, rfl, by decide, (q_wt1 (i := 177) (by decide +kernel) rfl), rfl, rfl⟩
theorem fl_X9_134 : q_fl RX9 134 2 15 14 false := ⟨_, _, rfl, by decide, (q_wt1 (i := 132) (by decide +kernel) rfl), rfl, rfl⟩
theorem fl_X9_155 : q_fl RX9 155 8 5 4 false := ⟨_, _, rfl, by decide, (q_wt1 (i := 82) (by decide +kernel) rfl), rfl, rfl⟩
theorem fl_X9_163 : q_fl RX9 163 2 15 0 true := ⟨_, _, rfl, by decide, (q_wt1 (i := 102) (by decide +kernel) rfl), rfl, rfl⟩
theorem fl_X9_166 : q_fl RX9 166 2 15 1 true := ⟨_, _, rfl, by decide, (q_wt1 (i := 104) (by decide +kernel) rfl), rfl, rfl⟩
theorem fl_X9_169 : q_fl RX9 169 3 5 0 true := ⟨_, _, rfl, by decide, (q_wt1 (i := 43) (by decide +kernel) rfl), rfl, rfl⟩
theorem fl_X9_172 : q_fl RX9 172 3 5 1 true := ⟨_, _, rfl, by decide, (q_wt1 (i := 45) (by decide +kernel) rfl), rfl, rfl⟩
theorem fl_X9_178 : q_fl RX9 178 2 15 8 true := ⟨_, _, rfl, by decide, (q_wt1 (i := 121) (by decide +kernel) rfl), rfl, rfl⟩
theorem fl_X9_181 : q_fl RX9 181 3 5 2 true := ⟨_, _, rfl, by decide, (q_wt1 (i := 47) (by decide +kernel) rfl), rfl, rfl⟩
theorem fl_X9_184 : q_fl RX9 184 3 5 3 true := ⟨_, _, rfl, by decide, (q_wt1 (i := 49) (by decide +kernel) rfl), rfl, rfl⟩
theorem fl_X9_187 : q_fl RX9 187 3 5 4 true := ⟨_, _, rfl, by decide, (q_wt1 (i := 52) (by decide +kernel) rfl), rfl, rfl⟩
theorem fl_X9_190 : q_fl RX9 190 2 15 2 true := ⟨_, _, rfl, by decide, (q_wt1 (i := 106) (by decide +kernel) rfl), rfl, rfl⟩
theorem fl_X9_199 : q_fl RX9 199 2 15 3 true := ⟨_, _, rfl, by decide, (q_wt1 (i := 108) (by decide +kernel) rfl), rfl, rfl⟩
theorem fl_X9_202 : q_fl RX9 202 2 15 6 true := ⟨_, _, rfl, by decide, (q_wt1 (i := 117) (by decide +kernel) rfl), rfl, rfl⟩
theorem fl_X9_211 : q_fl RX9 211 2 15 9 true := ⟨_, _, rfl, by decide, (q_wt1 (i := 123) (by decide +kernel) rfl), rfl, rfl⟩
theorem fl_X9_214 : q_fl RX9 214 8 5 0 true := ⟨_, _, rfl, by decide, (q_wt1 (i := 73) (by decide +kernel) rfl), rfl, rfl⟩
theorem fl_X9_227 : q_fl RX9 227 2 15 5 true := ⟨_, _, rfl, by decide, (q_wt1 (i := 114) (by decide +kernel) rfl), rfl, rfl⟩
theorem fl_X9_236 : q_fl RX9 236 8 5 1 true := ⟨_, _, rfl, by decide, (q_wt1 (i := 76) (by decide +kernel) rfl), rfl, rfl⟩
theorem fl_X9_246 : q_fl RX9 246 2 15 4 true := ⟨_, _, rfl, by decide, (q_wt1 (i := 111) (by decide +kernel) rfl), rfl, rfl⟩
theorem fl_X9_249 : q_fl RX9 249 8 5 3 true := ⟨_, _, rfl, by decide, (q_wt1 (i := 80) (by decide +kernel) rfl), rfl, rfl⟩
theorem fl_X9_259 : q_fl RX9 259 8 5 2 true := ⟨_, _, rfl, by decide, (q_wt1 (i := 78) (by decide +kernel) rfl), rfl, rfl⟩
theorem fl_X9_262 : q_fl RX9 262 2 15 7 true := ⟨_, _, rfl, by decide, (q_wt1 (i := 119) (by decide +kernel) rfl), rfl, rfl⟩
theorem fl_X9_294 : q_fl RX9 294 1 9 8 false := ⟨_, _, rfl, by decide, (q_wt1 (i := 190) (by decide +kernel) rfl), rfl, rfl⟩
theorem fl_X9_295 : q_fl RX9 295 1 9 1 true := ⟨_, _, rfl, by decide, (q_wt1 (i := 175) (by decide +kernel) rfl), rfl, rfl⟩
theorem fl_X9_301 : q_fl RX9 301 1 9 5 true := ⟨_, _, rfl, by decide, (q_wt1 (i := 184) (by decide +kernel) rfl), rfl, rfl⟩
theorem fl_X9_304 : q_fl RX9 304 1 9 0 true := ⟨_, _, rfl, by decide, (q_wt1 (i := 173) (by decide +kernel) rfl), rfl, rfl⟩
theorem fl_X9_307 : q_fl RX9 307 1 9 3 true := ⟨_, _, rfl, by decide, (q_wt1 (i := 180) (by decide +kernel) rfl), rfl, rfl⟩
theorem kc_J6_265 : Cond.constant RJ6 265 (nI 1431655765) ∈ q_tbl := (q_wt6 (i := 67) (by decide +kernel) rfl)
theorem kc_J6_266 : Cond.constant RJ6 266 (nI 858993459) ∈ q_tbl := (q_wt6 (i := 68) (by decide +kernel) rfl)
theorem kc_J6_267 : Cond.constant RJ6 267 (nI 252645135) ∈ q_tbl := (q_wt6 (i := 69) (by decide +kernel) rfl)
theorem kc_X0_37 : Cond.constant RX0 37 (-2147483648) ∈ q_tbl := (q_wt5 (i := 215) (by decide +kernel) rfl)
theorem kc_X1_43 : Cond.constant RX1 43 (-1000000003) ∈ q_tbl := (q_wt3 (i := 65) (by decide +kernel) rfl)
theorem kc_X1_44 : Cond.constant RX1 44 (-1000000005) ∈ q_tbl := (q_wt3 (i := 66) (by decide +kernel) rfl)
theorem kc_X11_57 : Cond.constant RX11 57 (-1000000001) ∈ q_tbl := (q_wt2 (i := 231) (by decide +kernel) rfl)
theorem kc_X11_86 : Cond.constant RX11 86 (nI 99999) ∈ q_tbl := (q_wt3 (i := 18) (by decide +kernel) rfl)
theorem kc_X11_114 : Cond.constant RX11 114 (-1000000003) ∈ q_tbl := (q_wt3 (i := 51) (by decide +kernel) rfl)
theorem kc_X11_130 : Cond.constant RX11 130 (-1000000005) ∈ q_tbl := (q_wt3 (i := 99) (by decide +kernel) rfl)
theorem kc_X11_171 : Cond.constant RX11 171 (-1000000002) ∈ q_tbl := (q_wt4 (i := 22) (by decide +kernel) rfl)
theorem kc_X11_179 : Cond.constant RX11 179 (-1000000012) ∈ q_tbl := (q_wt4 (i := 46) (by decide +kernel) rfl)
theorem kc_X11_283 : Cond.constant RX11 283 (-1000000014) ∈ q_tbl := (q_wt5 (i := 175) (by decide +kernel) rfl)
theorem kc_X11_306 : Cond.constant RX11 306 (-1000000011) ∈ q_tbl := (q_wt5 (i := 195) (by decide +kernel) rfl)
theorem kc_X11_310 : Cond.constant RX11 310 (-1000000013) ∈ q_tbl := (q_wt5 (i := 200) (by decide +kernel) rfl)
theorem kc_X12_61 : Cond.constant RX12 61 (-1000000005) ∈ q_tbl := (q_wt7 (i := 168) (by decide +kernel) rfl)
theorem kc_X12_90 : Cond.constant RX12 90 (-1000000001) ∈ q_tbl := (q_wt7 (i := 93) (by decide +kernel) rfl)
theorem kc_X12_98 : Cond.constant RX12 98 (-1000000003) ∈ q_tbl := (q_wt7 (i := 112) (by decide +kernel) rfl)
theorem kc_X12_183 : Cond.constant RX12 183 (nI 99999) ∈ q_tbl := (q_wt8 (i := 46) (by decide +kernel) rfl)
theorem kc_X12_346 : Cond.constant RX12 346 (-1000000002) ∈ q_tbl := (q_wt8 (i := 164) (by decide +kernel) rfl)
theorem kc_X12_356 : Cond.constant RX12 356 (-1000000012) ∈ q_tbl := (q_wt8 (i := 189) (by decide +kernel) rfl)
theorem kc_X12_374 : Cond.constant RX12 374 (-2147483648) ∈ q_tbl := (q_wt9 (i := 27) (by decide +kernel) rfl)
theorem kc_X12_377 : Cond.constant RX12 377 (-1000000014) ∈ q_tbl := (q_wt9 (i := 9) (by decide +kernel) rfl)
theorem kc_X12_378 : Cond.constant RX12 378 (-1000000011) ∈ q_tbl := (q_wt9 (i := 14) (by decide +kernel) rfl)
theorem kc_X12_379 : Cond.constant RX12 379 (-1000000013) ∈ q_tbl := (q_wt9 (i := 15) (by decide +kernel) rfl)
theorem kc_X12_422 : Cond.constant RX12 422 (-1000000004) ∈ q_tbl := (q_wt9 (i := 116) (by decide +kernel) rfl)
theorem kc_X2_66 : Cond.constant RX2 66 (-1000000003) ∈ q_tbl := (q_wt3 (i := 60) (by decide +kernel) rfl)
theorem kc_X2_81 : Cond.constant RX2 81 (nI 99999) ∈ q_tbl := (q_wt4 (i := 3) (by decide +kernel) rfl)
theorem kc_X4_37 : Cond.constant RX4 37 (-1000000003) ∈ q_tbl := (q_wt6 (i := 110) (by decide +kernel) rfl)
theorem kc_X4_54 : Cond.constant RX4 54 (-1000000004) ∈ q_tbl := (q_wt6 (i := 133) (by decide +kernel) rfl)
theorem kc_X4_55 : Cond.constant RX4 55 (-1000000002) ∈ q_tbl := (q_wt6 (i := 134) (by decide +kernel) rfl)
theorem kc_X6_37 : Cond.constant RX6 37 (-1000000003) ∈ q_tbl := (q_wt6 (i := 51) (by decide +kernel) rfl)
theorem kc_X8_28 : Cond.constant RX8 28 (-1000000003) ∈ q_tbl := (q_wt3 (i := 23) (by decide +kernel) rfl)
theorem kc_X9_312 : Cond.constant RX9 312 (-1000000005) ∈ q_tbl := (q_wt4 (i := 119) (by decide +kernel) rfl)
theorem kl_X11_219 : Cond.constantLong RX11 219 (100 : Int64) ∈ q_tbl := (q_wt4 (i := 106) (by decide +kernel) rfl)
theorem kl_X12_62 : Cond.constantLong RX12 62 (7 : Int64) ∈ q_tbl := (q_wt7 (i := 83) (by decide +kernel) rfl)
theorem kl_X12_82 : Cond.constantLong RX12 82 (99 : Int64) ∈ q_tbl := (q_wt7 (i := 87) (by decide +kernel) rfl)
theorem kl_X12_84 : Cond.constantLong RX12 84 (150 : Int64) ∈ q_tbl := (q_wt7 (i := 88) (by decide +kernel) rfl)
theorem kl_X12_91 : Cond.constantLong RX12 91 (5 : Int64) ∈ q_tbl := (q_wt7 (i := 98) (by decide +kernel) rfl)
theorem kl_X12_96 : Cond.constantLong RX12 96 (99999 : Int64) ∈ q_tbl := (q_wt7 (i := 111) (by decide +kernel) rfl)
theorem kl_X12_102 : Cond.constantLong RX12 102 (3 : Int64) ∈ q_tbl := (q_wt7 (i := 129) (by decide +kernel) rfl)
theorem kl_X12_104 : Cond.constantLong RX12 104 (9 : Int64) ∈ q_tbl := (q_wt7 (i := 134) (by decide +kernel) rfl)
theorem kl_X12_113 : Cond.constantLong RX12 113 (13 : Int64) ∈ q_tbl := (q_wt7 (i := 151) (by decide +kernel) rfl)
theorem kl_X12_125 : Cond.constantLong RX12 125 (2 : Int64) ∈ q_tbl := (q_wt7 (i := 181) (by decide +kernel) rfl)
theorem kl_X12_127 : Cond.constantLong RX12 127 (9999 : Int64) ∈ q_tbl := (q_wt7 (i := 182) (by decide +kernel) rfl)
theorem kl_X12_178 : Cond.constantLong RX12 178 (100 : Int64) ∈ q_tbl := (q_wt8 (i := 45) (by decide +kernel) rfl)
theorem kl_X12_210 : Cond.constantLong RX12 210 (60 : Int64) ∈ q_tbl := (q_wt7 (i := 187) (by decide +kernel) rfl)
theorem kl_X12_218 : Cond.constantLong RX12 218 (97 : Int64) ∈ q_tbl := (q_wt8 (i := 76) (by decide +kernel) rfl)
theorem kl_X12_220 : Cond.constantLong RX12 220 (122 : Int64) ∈ q_tbl := (q_wt8 (i := 77) (by decide +kernel) rfl)
theorem kl_X12_222 : Cond.constantLong RX12 222 (48 : Int64) ∈ q_tbl := (q_wt8 (i := 82) (by decide +kernel) rfl)
theorem kl_X12_224 : Cond.constantLong RX12 224 (57 : Int64) ∈ q_tbl := (q_wt8 (i := 83) (by decide +kernel) rfl)
theorem kl_X12_303 : Cond.constantLong RX12 303 (6999 : Int64) ∈ q_tbl := (q_wt8 (i := 63) (by decide +kernel) rfl)
theorem kl_X12_311 : Cond.constantLong RX12 311 (6 : Int64) ∈ q_tbl := (q_wt8 (i := 139) (by decide +kernel) rfl)
theorem kl_X12_344 : Cond.constantLong RX12 344 (999 : Int64) ∈ q_tbl := (q_wt8 (i := 163) (by decide +kernel) rfl)
theorem kl_X12_363 : Cond.constantLong RX12 363 (8 : Int64) ∈ q_tbl := (q_wt8 (i := 223) (by decide +kernel) rfl)
theorem kl_X12_375 : Cond.constantLong RX12 375 (-1 : Int64) ∈ q_tbl := (q_wt9 (i := 8) (by decide +kernel) rfl)
theorem kl_X12_401 : Cond.constantLong RX12 401 (255 : Int64) ∈ q_tbl := (q_wt9 (i := 83) (by decide +kernel) rfl)
theorem kl_X12_426 : Cond.constantLong RX12 426 (20000 : Int64) ∈ q_tbl := (q_wt9 (i := 107) (by decide +kernel) rfl)
theorem kl_X12_440 : Cond.constantLong RX12 440 (28 : Int64) ∈ q_tbl := (q_wt9 (i := 141) (by decide +kernel) rfl)
theorem kl_X9_283 : Cond.constantLong RX9 283 (100 : Int64) ∈ q_tbl := (q_wt3 (i := 234) (by decide +kernel) rfl)
theorem mt_J6_bitCount_0f7a4 : q_mt yJ6_bitCount_0f7a4 cJ6_bitCount_0f7a4 1 (some .int) 1 := ⟨(q_wt6 (i := 66) rfl rfl), (q_wt1 (i := 21) (by decide +kernel) rfl), by decide +kernel, by decide +kernel, by decide +kernel⟩
theorem mt_X0_hasRange : q_mt yX0_hasRange cX0_hasRange 4 (some .boolean) 3 := ⟨(q_wt5 (i := 223) rfl rfl), (q_wt1 (i := 12) (by decide +kernel) rfl), by decide +kernel, by decide +kernel, by decide +kernel⟩
theorem mt_X0_hasWeek : q_mt yX0_hasWeek cX0_hasWeek 3 (some .boolean) 2 := ⟨(q_wt5 (i := 199) rfl rfl), (q_wt1 (i := 12) (by decide +kernel) rfl), by decide +kernel, by decide +kernel, by decide +kernel⟩
theorem mt_X0_isMissing : q_mt yX0_isMissing cX0_isMissing 2 (some .boolean) 1 := ⟨(q_wt5 (i := 194) rfl rfl), (q_wt1 (i := 12) (by decide +kernel) rfl), by decide +kernel, by decide +kernel, by decide +kernel⟩
theorem mt_X0_open : q_mt yX0_open cX0_open 5 none 3 := ⟨(q_wt5 (i := 179) rfl rfl), (q_wt1 (i := 12) (by decide +kernel) rfl), by decide +kernel, by decide +kernel, by decide +kernel⟩
theorem mt_X0_placeOf : q_mt yX0_placeOf cX0_placeOf 5 (some .int) 2 := ⟨(q_wt5 (i := 212) rfl rfl), (q_wt1 (i := 12) (by decide +kernel) rfl), by decide +kernel, by decide +kernel, by decide +kernel⟩
theorem mt_X0_set : q_mt yX0_set cX0_set 4 none 3 := ⟨(q_wt5 (i := 204) rfl rfl), (q_wt1 (i := 12) (by decide +kernel) rfl), by decide +kernel, by decide +kernel, by decide +kernel⟩
theorem mt_X0_start : q_mt yX0_start cX0_start 1 (some .int) 1 := ⟨(q_wt5 (i := 182) rfl rfl), (q_wt1 (i := 12) (by decide +kernel) rfl), by decide +kernel, by decide +kernel, by decide +kernel⟩
theorem mt_X10_isBarred : q_mt yX10_isBarred cX10_isBarred 3 (some .boolean) 3 := ⟨(q_wt6 (i := 37) rfl rfl), (q_wt1 (i := 8) (by decide +kernel) rfl), by decide +kernel, by decide +kernel, by decide +kernel⟩
theorem mt_X10_isOpen : q_mt yX10_isOpen cX10_isOpen 4 (some .boolean) 3 := ⟨(q_wt6 (i := 8) rfl rfl), (q_wt1 (i := 8) (by decide +kernel) rfl), by decide +kernel, by decide +kernel, by decide +kernel⟩
theorem mt_X10_m : q_mt yX10_m cX10_m 1 (some .int) 1 := ⟨(q_wt6 (i := 11) rfl rfl), (q_wt1 (i := 8) (by decide +kernel) rfl), by decide +kernel, by decide +kernel, by decide +kernel⟩
theorem mt_X10_number : q_mt yX10_number cX10_number 3 (some .int) 3 := ⟨(q_wt5 (i := 236) rfl rfl), (q_wt1 (i := 8) (by decide +kernel) rfl), by decide +kernel, by decide +kernel, by decide +kernel⟩
theorem mt_X10_open : q_mt yX10_open cX10_open 5 (some .int) 2 := ⟨(q_wt6 (i := 4) rfl rfl), (q_wt1 (i := 8) (by decide +kernel) rfl), by decide +kernel, by decide +kernel, by decide +kernel⟩
theorem mt_X10_openBarred : q_mt yX10_openBarred cX10_openBarred 6 (some .int) 3 := ⟨(q_wt6 (i := 34) rfl rfl), (q_wt1 (i := 8) (by decide +kernel) rfl), by decide +kernel, by decide +kernel, by decide +kernel⟩
theorem mt_X10_openWay : q_mt yX10_openWay cX10_openWay 6 (some .int) 3 := ⟨(q_wt6 (i := 26) rfl rfl), (q_wt1 (i := 8) (by decide +kernel) rfl), by decide +kernel, by decide +kernel, by decide +kernel⟩
theorem mt_X10_othersBarred : q_mt yX10_othersBarred cX10_othersBarred 5 (some .int) 2 := ⟨(q_wt6 (i := 42) rfl rfl), (q_wt1 (i := 8) (by decide +kernel) rfl), by decide +kernel, by decide +kernel, by decide +kernel⟩
theorem mt_X10_p : q_mt yX10_p cX10_p 1 (some .int) 1 := ⟨(q_wt6 (i := 14) rfl rfl), (q_wt1 (i := 8) (by decide +kernel) rfl), by decide +kernel, by decide +kernel, by decide +kernel⟩
theorem mt_X10_t : q_mt yX10_t cX10_t 1 (some .int) 1 := ⟨(q_wt6 (i := 17) rfl rfl), (q_wt1 (i := 8) (by decide +kernel) rfl), by decide +kernel, by decide +kernel, by decide +kernel⟩
theorem mt_X11_bookFinding : q_mt yX11_bookFinding cX11_bookFinding 3 (some .int) 2 := ⟨(q_wt5 (i := 190) rfl rfl), (q_wt1 (i := 1) (by decide +kernel) rfl), by decide +kernel, by decide +kernel, by decide +kernel⟩
theorem mt_X11_exchanged : q_mt yX11_exchanged cX11_exchanged 4 (some .int) 3 := ⟨(q_wt2 (i := 238) rfl rfl), (q_wt1 (i := 1) (by decide +kernel) rfl), by decide +kernel, by decide +kernel, by decide +kernel⟩
theorem mt_X11_firstWrong : q_mt yX11_firstWrong cX11_firstWrong 4 (some .int) 2 := ⟨(q_wt6 (i := 154) rfl rfl), (q_wt1 (i := 1) (by decide +kernel) rfl), by decide +kernel, by decide +kernel, by decide +kernel⟩
theorem mt_X11_isFunded : q_mt yX11_isFunded cX11_isFunded 2 (some .boolean) 2 := ⟨(q_wt6 (i := 117) rfl rfl), (q_wt1 (i := 1) (by decide +kernel) rfl), by decide +kernel, by decide +kernel, by decide +kernel⟩
theorem mt_X11_looked : q_mt yX11_looked cX11_looked 2 (some .int) 2 := ⟨(q_wt3 (i := 1) rfl rfl), (q_wt1 (i := 1) (by decide +kernel) rfl), by decide +kernel, by decide +kernel, by decide +kernel⟩
theorem mt_X11_newDue : q_mt yX11_newDue cX11_newDue 5 (some .int) 4 := ⟨(q_wt4 (i := 20) rfl rfl), (q_wt1 (i := 1) (by decide +kernel) rfl), by decide +kernel, by decide +kernel, by decide +kernel⟩
theorem mt_X11_within : q_mt yX11_within cX11_within 3 (some .boolean) 3 := ⟨(q_wt2 (i := 230) rfl rfl), (q_wt1 (i := 1) (by decide +kernel) rfl), by decide +kernel, by decide +kernel, by decide +kernel⟩
theorem mt_X12_actBy : q_mt yX12_actBy cX12_actBy 5 (some .int) 4 := ⟨(q_wt8 (i := 154) rfl rfl), (q_wt1 (i := 13) (by decide +kernel) rfl), by decide +kernel, by decide +kernel, by decide +kernel⟩
theorem mt_X12_allEarned : q_mt yX12_allEarned cX12_allEarned 3 (some .int) 0 := ⟨(q_wt9 (i := 145) rfl rfl), (q_wt1 (i := 13) (by decide +kernel) rfl), by decide +kernel, by decide +kernel, by decide +kernel⟩
theorem mt_X12_bars : q_mt yX12_bars cX12_bars 3 (some .boolean) 2 := ⟨(q_wt9 (i := 51) rfl rfl), (q_wt1 (i := 13) (by decide +kernel) rfl), by decide +kernel, by decide +kernel, by decide +kernel⟩
theorem mt_X12_becomes : q_mt yX12_becomes cX12_becomes 4 (some .int) 2 := ⟨(q_wt7 (i := 92) rfl rfl), (q_wt1 (i := 13) (by decide +kernel) rfl), by decide +kernel, by decide +kernel, by decide +kernel⟩
theorem mt_X12_blankOf : q_mt yX12_blankOf cX12_blankOf 1 (some .int) 1 := ⟨(q_wt9 (i := 26) rfl rfl), (q_wt1 (i := 13) (by decide +kernel) rfl), by decide +kernel, by decide +kernel, by decide +kernel⟩
theorem mt_X12_both : q_mt yX12_both cX12_both 2 (some .boolean) 1 := ⟨(q_wt8 (i := 99) rfl rfl), (q_wt1 (i := 13) (by decide +kernel) rfl), by decide +kernel, by decide +kernel, by decide +kernel⟩
theorem mt_X12_buys : q_mt yX12_buys cX12_buys 6 none 1 := ⟨(q_wt7 (i := 225) rfl rfl), (q_wt1 (i := 13) (by decide +kernel) rfl), by decide +kernel, by decide +kernel, by decide +kernel⟩
theorem mt_X12_cheapest : q_mt yX12_cheapest cX12_cheapest 6 (some .int) 1 := ⟨(q_wt8 (i := 8) rfl rfl), (q_wt1 (i := 13) (by decide +kernel) rfl), by decide +kernel, by decide +kernel, by decide +kernel⟩
theorem mt_X12_coinFor : q_mt yX12_coinFor cX12_coinFor 4 (some .int) 2 := ⟨(q_wt8 (i := 44) rfl rfl), (q_wt1 (i := 13) (by decide +kernel) rfl), by decide +kernel, by decide +kernel, by decide +kernel⟩
theorem mt_X12_coinOf : q_mt yX12_coinOf cX12_coinOf 2 (some .int) 1 := ⟨(q_wt8 (i := 40) rfl rfl), (q_wt1 (i := 13) (by decide +kernel) rfl), by decide +kernel, by decide +kernel, by decide +kernel⟩
theorem mt_X12_companyLasts : q_mt yX12_companyLasts cX12_companyLasts 5 (some .int) 1 := ⟨(q_wt9 (i := 91) rfl rfl), (q_wt1 (i := 13) (by decide +kernel) rfl), by decide +kernel, by decide +kernel, by decide +kernel⟩
theorem mt_X12_counts : q_mt yX12_counts cX12_counts 5 (some .int) 1 := ⟨(q_wt7 (i := 203) rfl rfl), (q_wt1 (i := 13) (by decide +kernel) rfl), by decide +kernel, by decide +kernel, by decide +kernel⟩
theorem mt_X12_digs : q_mt yX12_digs cX12_digs 7 none 1 := ⟨(q_wt7 (i := 195) rfl rfl), (q_wt1 (i := 13) (by decide +kernel) rfl), by decide +kernel, by decide +kernel, by decide +kernel⟩
theorem mt_X12_dueAt : q_mt yX12_dueAt cX12_dueAt 2 (some .int) 1 := ⟨(q_wt7 (i := 142) rfl rfl), (q_wt1 (i := 13) (by decide +kernel) rfl), by decide +kernel, by decide +kernel, by decide +kernel⟩
theorem mt_X12_dueFor : q_mt yX12_dueFor cX12_dueFor 3 (some .int) 1 := ⟨(q_wt8 (i := 28) rfl rfl), (q_wt1 (i := 13) (by decide +kernel) rfl), by decide +kernel, by decide +kernel, by decide +kernel⟩
theorem mt_X12_dueIs : q_mt yX12_dueIs cX12_dueIs 3 none 2 := ⟨(q_wt9 (i := 136) rfl rfl), (q_wt1 (i := 13) (by decide +kernel) rfl), by decide +kernel, by decide +kernel, by decide +kernel⟩
theorem mt_X12_dueOf : q_mt yX12_dueOf cX12_dueOf 1 (some .int) 0 := ⟨(q_wt8 (i := 24) rfl rfl), (q_wt1 (i := 13) (by decide +kernel) rfl), by decide +kernel, by decide +kernel, by decide +kernel⟩
theorem mt_X12_earned : q_mt yX12_earned cX12_earned 2 (some .int) 1 := ⟨(q_wt7 (i := 155) rfl rfl), (q_wt1 (i := 13) (by decide +kernel) rfl), by decide +kernel, by decide +kernel, by decide +kernel⟩
theorem mt_X12_eats : q_mt yX12_eats cX12_eats 3 none 1 := ⟨(q_wt7 (i := 221) rfl rfl), (q_wt1 (i := 13) (by decide +kernel) rfl), by decide +kernel, by decide +kernel, by decide +kernel⟩
theorem mt_X12_either : q_mt yX12_either cX12_either 2 (some .boolean) 1 := ⟨(q_wt8 (i := 95) rfl rfl), (q_wt1 (i := 13) (by decide +kernel) rfl), by decide +kernel, by decide +kernel, by decide +kernel⟩
theorem mt_X12_endWeek : q_mt yX12_endWeek cX12_endWeek 3 none 0 := ⟨(q_wt8 (i := 16) rfl rfl), (q_wt1 (i := 13) (by decide +kernel) rfl), by decide +kernel, by decide +kernel, by decide +kernel⟩
theorem mt_X12_findOrder : q_mt yX12_findOrder cX12_findOrder 4 (some .int) 3 := ⟨(q_wt9 (i := 111) rfl rfl), (q_wt1 (i := 13) (by decide +kernel) rfl), by decide +kernel, by decide +kernel, by decide +kernel⟩
theorem mt_X12_findRound : q_mt yX12_findRound cX12_findRound 6 (some .int) 1 := ⟨(q_wt9 (i := 71) rfl rfl), (q_wt1 (i := 13) (by decide +kernel) rfl), by decide +kernel, by decide +kernel, by decide +kernel⟩
theorem mt_X12_fineOf : q_mt yX12_fineOf cX12_fineOf 4 (some .int) 2 := ⟨(q_wt8 (i := 150) rfl rfl), (q_wt1 (i := 13) (by decide +kernel) rfl), by decide +kernel, by decide +kernel, by decide +kernel⟩
theorem mt_X12_gets : q_mt yX12_gets cX12_gets 4 none 3 := ⟨(q_wt8 (i := 168) rfl rfl), (q_wt1 (i := 13) (by decide +kernel) rfl), by decide +kernel, by decide +kernel, by decide +kernel⟩
theorem mt_X12_held : q_mt yX12_held cX12_held 3 (some .int) 3 := ⟨(q_wt7 (i := 217) rfl rfl), (q_wt1 (i := 13) (by decide +kernel) rfl), by decide +kernel, by decide +kernel, by decide +kernel⟩
theorem mt_X12_isDigit : q_mt yX12_isDigit cX12_isDigit 2 (some .boolean) 1 := ⟨(q_wt8 (i := 81) rfl rfl), (q_wt1 (i := 13) (by decide +kernel) rfl), by decide +kernel, by decide +kernel, by decide +kernel⟩
theorem mt_X12_isDue : q_mt yX12_isDue cX12_isDue 2 (some .boolean) 1 := ⟨(q_wt8 (i := 188) rfl rfl), (q_wt1 (i := 13) (by decide +kernel) rfl), by decide +kernel, by decide +kernel, by decide +kernel⟩
theorem mt_X12_isFund : q_mt yX12_isFund cX12_isFund 2 (some .boolean) 2 := ⟨(q_wt9 (i := 106) rfl rfl), (q_wt1 (i := 13) (by decide +kernel) rfl), by decide +kernel, by decide +kernel, by decide +kernel⟩
theorem mt_X12_isGone : q_mt yX12_isGone cX12_isGone 2 (some .boolean) 1 := ⟨(q_wt7 (i := 106) rfl rfl), (q_wt1 (i := 13) (by decide +kernel) rfl), by decide +kernel, by decide +kernel, by decide +kernel⟩
theorem mt_X12_isIn : q_mt yX12_isIn cX12_isIn 6 (some .boolean) 3 := ⟨(q_wt7 (i := 86) rfl rfl), (q_wt1 (i := 13) (by decide +kernel) rfl), by decide +kernel, by decide +kernel, by decide +kernel⟩
theorem mt_X12_isLetter : q_mt yX12_isLetter cX12_isLetter 2 (some .boolean) 1 := ⟨(q_wt8 (i := 75) rfl rfl), (q_wt1 (i := 13) (by decide +kernel) rfl), by decide +kernel, by decide +kernel, by decide +kernel⟩
theorem mt_X12_isMan : q_mt yX12_isMan cX12_isMan 2 (some .boolean) 1 := ⟨(q_wt7 (i := 150) rfl rfl), (q_wt1 (i := 13) (by decide +kernel) rfl), by decide +kernel, by decide +kernel, by decide +kernel⟩
theorem mt_X12_isName : q_mt yX12_isName cX12_isName 2 (some .boolean) 2 := ⟨(q_wt8 (i := 122) rfl rfl), (q_wt1 (i := 13) (by decide +kernel) rfl), by decide +kernel, by decide +kernel, by decide +kernel⟩
theorem mt_X12_isPit : q_mt yX12_isPit cX12_isPit 1 (some .boolean) 1 := ⟨(q_wt7 (i := 82) rfl rfl), (q_wt1 (i := 13) (by decide +kernel) rfl), by decide +kernel, by decide +kernel, by decide +kernel⟩
theorem mt_X12_isRound : q_mt yX12_isRound cX12_isRound 2 (some .boolean) 1 := ⟨(q_wt9 (i := 47) rfl rfl), (q_wt1 (i := 13) (by decide +kernel) rfl), by decide +kernel, by decide +kernel, by decide +kernel⟩
theorem mt_X12_isShop : q_mt yX12_isShop cX12_isShop 2 (some .boolean) 1 := ⟨(q_wt7 (i := 124) rfl rfl), (q_wt1 (i := 13) (by decide +kernel) rfl), by decide +kernel, by decide +kernel, by decide +kernel⟩
theorem mt_X12_isSign : q_mt yX12_isSign cX12_isSign 2 (some .boolean) 1 := ⟨(q_wt8 (i := 126) rfl rfl), (q_wt1 (i := 13) (by decide +kernel) rfl), by decide +kernel, by decide +kernel, by decide +kernel⟩
theorem mt_X12_isText : q_mt yX12_isText cX12_isText 2 (some .boolean) 1 := ⟨(q_wt8 (i := 134) rfl rfl), (q_wt1 (i := 13) (by decide +kernel) rfl), by decide +kernel, by decide +kernel, by decide +kernel⟩
theorem mt_X12_isTown : q_mt yX12_isTown cX12_isTown 2 (some .boolean) 1 := ⟨(q_wt7 (i := 229) rfl rfl), (q_wt1 (i := 13) (by decide +kernel) rfl), by decide +kernel, by decide +kernel, by decide +kernel⟩
theorem mt_X12_isWordAt : q_mt yX12_isWordAt cX12_isWordAt 6 (some .boolean) 4 := ⟨(q_wt8 (i := 91) rfl rfl), (q_wt1 (i := 13) (by decide +kernel) rfl), by decide +kernel, by decide +kernel, by decide +kernel⟩
theorem mt_X12_isWrong : q_mt yX12_isWrong cX12_isWrong 4 (some .boolean) 2 := ⟨(q_wt8 (i := 213) rfl rfl), (q_wt1 (i := 13) (by decide +kernel) rfl), by decide +kernel, by decide +kernel, by decide +kernel⟩
theorem mt_X12_joined : q_mt yX12_joined cX12_joined 3 (some .int) 3 := ⟨(q_wt7 (i := 214) rfl rfl), (q_wt1 (i := 13) (by decide +kernel) rfl), by decide +kernel, by decide +kernel, by decide +kernel⟩
theorem mt_X12_keepOf : q_mt yX12_keepOf cX12_keepOf 4 (some .int) 2 := ⟨(q_wt8 (i := 50) rfl rfl), (q_wt1 (i := 13) (by decide +kernel) rfl), by decide +kernel, by decide +kernel, by decide +kernel⟩
theorem mt_X12_key : q_mt yX12_key cX12_key 1 (some .int) 0 := ⟨(q_wt8 (i := 87) rfl rfl), (q_wt1 (i := 13) (by decide +kernel) rfl), by decide +kernel, by decide +kernel, by decide +kernel⟩
theorem mt_X12_knows : q_mt yX12_knows cX12_knows 3 none 2 := ⟨(q_wt7 (i := 176) rfl rfl), (q_wt1 (i := 13) (by decide +kernel) rfl), by decide +kernel, by decide +kernel, by decide +kernel⟩
theorem mt_X12_lack : q_mt yX12_lack cX12_lack 3 (some .int) 1 := ⟨(q_wt7 (i := 237) rfl rfl), (q_wt1 (i := 13) (by decide +kernel) rfl), by decide +kernel, by decide +kernel, by decide +kernel⟩
theorem mt_X12_least : q_mt yX12_least cX12_least 2 (some .int) 2 := ⟨(q_wt8 (i := 0) rfl rfl), (q_wt1 (i := 13) (by decide +kernel) rfl), by decide +kernel, by decide +kernel, by decide +kernel⟩
theorem mt_X12_loaves : q_mt yX12_loaves cX12_loaves 5 (some .int) 3 := ⟨(q_wt7 (i := 233) rfl rfl), (q_wt1 (i := 13) (by decide +kernel) rfl), by decide +kernel, by decide +kernel, by decide +kernel⟩
theorem mt_X12_manAt : q_mt yX12_manAt cX12_manAt 2 (some .int) 1 := ⟨(q_wt7 (i := 102) rfl rfl), (q_wt1 (i := 13) (by decide +kernel) rfl), by decide +kernel, by decide +kernel, by decide +kernel⟩
theorem mt_X12_menLast : q_mt yX12_menLast cX12_menLast 7 (some .int) 1 := ⟨(q_wt9 (i := 87) rfl rfl), (q_wt1 (i := 13) (by decide +kernel) rfl), by decide +kernel, by decide +kernel, by decide +kernel⟩
theorem mt_X12_newDue : q_mt yX12_newDue cX12_newDue 6 (some .int) 4 := ⟨(q_wt7 (i := 138) rfl rfl), (q_wt1 (i := 13) (by decide +kernel) rfl), by decide +kernel, by decide +kernel, by decide +kernel⟩
theorem mt_X12_news : q_mt yX12_news cX12_news 6 none 2 := ⟨(q_wt8 (i := 12) rfl rfl), (q_wt1 (i := 13) (by decide +kernel) rfl), by decide +kernel, by decide +kernel, by decide +kernel⟩
theorem mt_X12_next : q_mt yX12_next cX12_next 3 none 0 := ⟨(q_wt8 (i := 71) rfl rfl), (q_wt1 (i := 13) (by decide +kernel) rfl), by decide +kernel, by decide +kernel, by decide +kernel⟩
theorem mt_X12_oneDay : q_mt yX12_oneDay cX12_oneDay 3 none 0 := ⟨(q_wt7 (i := 191) rfl rfl), (q_wt1 (i := 13) (by decide +kernel) rfl), by decide +kernel, by decide +kernel, by decide +kernel⟩
theorem mt_X12_ones : q_mt yX12_ones cX12_ones 3 (some .int) 1 := ⟨(q_wt9 (i := 74) rfl rfl), (q_wt1 (i := 13) (by decide +kernel) rfl), by decide +kernel, by decide +kernel, by decide +kernel⟩
theorem mt_X12_orNone : q_mt yX12_orNone cX12_orNone 1 (some .int) 1 := ⟨(q_wt8 (i := 142) rfl rfl), (q_wt1 (i := 13) (by decide +kernel) rfl), by decide +kernel, by decide +kernel, by decide +kernel⟩
theorem mt_X12_owedBy : q_mt yX12_owedBy cX12_owedBy 2 (some .int) 1 := ⟨(q_wt7 (i := 159) rfl rfl), (q_wt1 (i := 13) (by decide +kernel) rfl), by decide +kernel, by decide +kernel, by decide +kernel⟩
theorem mt_X12_parse : q_mt yX12_parse cX12_parse 3 (some .int) 0 := ⟨(q_wt8 (i := 67) rfl rfl), (q_wt1 (i := 13) (by decide +kernel) rfl), by decide +kernel, by decide +kernel, by decide +kernel⟩
theorem mt_X12_part0 : q_mt yX12_part0 cX12_part0 2 (some .boolean) 1 := ⟨(q_wt8 (i := 115) rfl rfl), (q_wt1 (i := 13) (by decide +kernel) rfl), by decide +kernel, by decide +kernel, by decide +kernel⟩
theorem mt_X12_pays : q_mt yX12_pays cX12_pays 7 none 2 := ⟨(q_wt8 (i := 32) rfl rfl), (q_wt1 (i := 13) (by decide +kernel) rfl), by decide +kernel, by decide +kernel, by decide +kernel⟩
theorem mt_X12_readBy : q_mt yX12_readBy cX12_readBy 4 (some .int) 2 := ⟨(q_wt9 (i := 23) rfl rfl), (q_wt1 (i := 13) (by decide +kernel) rfl), by decide +kernel, by decide +kernel, by decide +kernel⟩
theorem mt_X12_refused : q_mt yX12_refused cX12_refused 5 (some .int) 4 := ⟨(q_wt8 (i := 162) rfl rfl), (q_wt1 (i := 13) (by decide +kernel) rfl), by decide +kernel, by decide +kernel, by decide +kernel⟩
theorem mt_X12_rowsOfDays : q_mt yX12_rowsOfDays cX12_rowsOfDays 3 (some .int) 1 := ⟨(q_wt9 (i := 140) rfl rfl), (q_wt1 (i := 13) (by decide +kernel) rfl), by decide +kernel, by decide +kernel, by decide +kernel⟩
theorem mt_X12_rowsOfOrder : q_mt yX12_rowsOfOrder cX12_rowsOfOrder 5 (some .int) 2 := ⟨(q_wt9 (i := 132) rfl rfl), (q_wt1 (i := 13) (by decide +kernel) rfl), by decide +kernel, by decide +kernel, by decide +kernel⟩
theorem mt_X12_seek : q_mt yX12_seek cX12_seek 10 none 5 := ⟨(q_wt9 (i := 115) rfl rfl), (q_wt1 (i := 13) (by decide +kernel) rfl), by decide +kernel, by decide +kernel, by decide +kernel⟩
theorem mt_X12_setAside : q_mt yX12_setAside cX12_setAside 4 none 2 := ⟨(q_wt8 (i := 239) rfl rfl), (q_wt1 (i := 13) (by decide +kernel) rfl), by decide +kernel, by decide +kernel, by decide +kernel⟩
theorem mt_X12_shopAt : q_mt yX12_shopAt cX12_shopAt 2 (some .int) 1 := ⟨(q_wt7 (i := 116) rfl rfl), (q_wt1 (i := 13) (by decide +kernel) rfl), by decide +kernel, by decide +kernel, by decide +kernel⟩
theorem mt_X12_stands : q_mt yX12_stands cX12_stands 4 (some .int) 1 := ⟨(q_wt9 (i := 3) rfl rfl), (q_wt1 (i := 13) (by decide +kernel) rfl), by decide +kernel, by decide +kernel, by decide +kernel⟩
theorem mt_X12_step : q_mt yX12_step cX12_step 3 none 2 := ⟨(q_wt8 (i := 119) rfl rfl), (q_wt1 (i := 13) (by decide +kernel) rfl), by decide +kernel, by decide +kernel, by decide +kernel⟩
theorem mt_X12_stopOf : q_mt yX12_stopOf cX12_stopOf 3 (some .int) 1 := ⟨(q_wt8 (i := 36) rfl rfl), (q_wt1 (i := 13) (by decide +kernel) rfl), by decide +kernel, by decide +kernel, by decide +kernel⟩
theorem mt_X12_sum : q_mt yX12_sum cX12_sum 3 (some .boolean) 1 := ⟨(q_wt8 (i := 107) rfl rfl), (q_wt1 (i := 13) (by decide +kernel) rfl), by decide +kernel, by decide +kernel, by decide +kernel⟩
theorem mt_X12_takes : q_mt yX12_takes cX12_takes 5 none 3 := ⟨(q_wt8 (i := 4) rfl rfl), (q_wt1 (i := 13) (by decide +kernel) rfl), by decide +kernel, by decide +kernel, by decide +kernel⟩
theorem mt_X12_term : q_mt yX12_term cX12_term 3 (some .boolean) 1 := ⟨(q_wt8 (i := 111) rfl rfl), (q_wt1 (i := 13) (by decide +kernel) rfl), by decide +kernel, by decide +kernel, by decide +kernel⟩
theorem mt_X12_test : q_mt yX12_test cX12_test 3 (some .boolean) 1 := ⟨(q_wt8 (i := 103) rfl rfl), (q_wt1 (i := 13) (by decide +kernel) rfl), by decide +kernel, by decide +kernel, by decide +kernel⟩
theorem mt_X12_textAt : q_mt yX12_textAt cX12_textAt 2 (some .int) 1 := ⟨(q_wt7 (i := 207) rfl rfl), (q_wt1 (i := 13) (by decide +kernel) rfl), by decide +kernel, by decide +kernel, by decide +kernel⟩
theorem mt_X12_wageOf : q_mt yX12_wageOf cX12_wageOf 4 (some .int) 2 := ⟨(q_wt7 (i := 199) rfl rfl), (q_wt1 (i := 13) (by decide +kernel) rfl), by decide +kernel, by decide +kernel, by decide +kernel⟩
theorem mt_X12_week : q_mt yX12_week cX12_week 1 (some .int) 0 := ⟨(q_wt8 (i := 20) rfl rfl), (q_wt1 (i := 13) (by decide +kernel) rfl), by decide +kernel, by decide +kernel, by decide +kernel⟩
theorem mt_X12_worked : q_mt yX12_worked cX12_worked 6 (some .int) 1 := ⟨(q_wt7 (i := 211) rfl rfl), (q_wt1 (i := 13) (by decide +kernel) rfl), by decide +kernel, by decide +kernel, by decide +kernel⟩
theorem mt_X12_wrong : q_mt yX12_wrong cX12_wrong 4 (some .int) 1 := ⟨(q_wt8 (i := 209) rfl rfl), (q_wt1 (i := 13) (by decide +kernel) rfl), by decide +kernel, by decide +kernel, by decide +kernel⟩
theorem mt_X1_added : q_mt yX1_added cX1_added 6 (some .int) 5 := ⟨(q_wt3 (i := 64) rfl rfl), (q_wt1 (i := 6) (by decide +kernel) rfl), by decide +kernel, by decide +kernel, by decide +kernel⟩
theorem mt_X1_has : q_mt yX1_has cX1_has 2 (some .boolean) 1 := ⟨(q_wt4 (i := 45) rfl rfl), (q_wt1 (i := 6) (by decide +kernel) rfl), by decide +kernel, by decide +kernel, by decide +kernel⟩
theorem mt_X1_isUnder : q_mt yX1_isUnder cX1_isUnder 4 (some .boolean) 2 := ⟨(q_wt3 (i := 226) rfl rfl), (q_wt1 (i := 6) (by decide +kernel) rfl), by decide +kernel, by decide +kernel, by decide +kernel⟩
theorem mt_X1_open : q_mt yX1_open cX1_open 3 (some .int) 0 := ⟨(q_wt6 (i := 178) rfl rfl), (q_wt1 (i := 6) (by decide +kernel) rfl), by decide +kernel, by decide +kernel, by decide +kernel⟩
theorem mt_X1_out : q_mt yX1_out cX1_out 3 (some .int) 0 := ⟨(q_wt6 (i := 182) rfl rfl), (q_wt1 (i := 6) (by decide +kernel) rfl), by decide +kernel, by decide +kernel, by decide +kernel⟩
theorem mt_X1_row : q_mt yX1_row cX1_row 2 (some (.array .int)) 1 := ⟨(q_wt4 (i := 62) rfl rfl), (q_wt1 (i := 6) (by decide +kernel) rfl), by decide +kernel, by decide +kernel, by decide +kernel⟩
theorem mt_X1_settle : q_mt yX1_settle cX1_settle 3 none 2 := ⟨(q_wt3 (i := 233) rfl rfl), (q_wt1 (i := 6) (by decide +kernel) rfl), by decide +kernel, by decide +kernel, by decide +kernel⟩
theorem mt_X1_taken : q_mt yX1_taken cX1_taken 8 (some .int) 4 := ⟨(q_wt3 (i := 223) rfl rfl), (q_wt1 (i := 6) (by decide +kernel) rfl), by decide +kernel, by decide +kernel, by decide +kernel⟩
theorem mt_X2_added : q_mt yX2_added cX2_added 4 (some .int) 3 := ⟨(q_wt3 (i := 59) rfl rfl), (q_wt1 (i := 5) (by decide +kernel) rfl), by decide +kernel, by decide +kernel, by decide +kernel⟩
theorem mt_X2_dayKnown : q_mt yX2_dayKnown cX2_dayKnown 3 (some .int) 2 := ⟨(q_wt3 (i := 107) rfl rfl), (q_wt1 (i := 5) (by decide +kernel) rfl), by decide +kernel, by decide +kernel, by decide +kernel⟩
theorem mt_X2_getChecks : q_mt yX2_getChecks cX2_getChecks 3 none 2 := ⟨(q_wt4 (i := 8) rfl rfl), (q_wt1 (i := 5) (by decide +kernel) rfl), by decide +kernel, by decide +kernel, by decide +kernel⟩
theorem mt_X2_getCoin : q_mt yX2_getCoin cX2_getCoin 3 none 2 := ⟨(q_wt4 (i := 2) rfl rfl), (q_wt1 (i := 5) (by decide +kernel) rfl), by decide +kernel, by decide +kernel, by decide +kernel⟩
theorem mt_X2_has : q_mt yX2_has cX2_has 2 (some .boolean) 1 := ⟨(q_wt3 (i := 74) rfl rfl), (q_wt1 (i := 5) (by decide +kernel) rfl), by decide +kernel, by decide +kernel, by decide +kernel⟩
theorem mt_X2_inPit : q_mt yX2_inPit cX2_inPit 4 (some .int) 1 := ⟨(q_wt3 (i := 9) rfl rfl), (q_wt1 (i := 5) (by decide +kernel) rfl), by decide +kernel, by decide +kernel, by decide +kernel⟩
theorem mt_X2_isGone : q_mt yX2_isGone cX2_isGone 2 (some .boolean) 1 := ⟨(q_wt3 (i := 13) rfl rfl), (q_wt1 (i := 5) (by decide +kernel) rfl), by decide +kernel, by decide +kernel, by decide +kernel⟩
theorem mt_X2_knows : q_mt yX2_knows cX2_knows 3 (some .boolean) 2 := ⟨(q_wt3 (i := 98) rfl rfl), (q_wt1 (i := 5) (by decide +kernel) rfl), by decide +kernel, by decide +kernel, by decide +kernel⟩
theorem mt_X2_lacks : q_mt yX2_lacks cX2_lacks 2 (some .int) 1 := ⟨(q_wt3 (i := 170) rfl rfl), (q_wt1 (i := 5) (by decide +kernel) rfl), by decide +kernel, by decide +kernel, by decide +kernel⟩
theorem mt_X2_learn : q_mt yX2_learn cX2_learn 5 none 4 := ⟨(q_wt3 (i := 115) rfl rfl), (q_wt1 (i := 5) (by decide +kernel) rfl), by decide +kernel, by decide +kernel, by decide +kernel⟩
theorem mt_X2_mayBe : q_mt yX2_mayBe cX2_mayBe 2 (some .boolean) 2 := ⟨(q_wt3 (i := 46) rfl rfl), (q_wt1 (i := 5) (by decide +kernel) rfl), by decide +kernel, by decide +kernel, by decide +kernel⟩
theorem mt_X2_priceKnown : q_mt yX2_priceKnown cX2_priceKnown 3 (some .int) 2 := ⟨(q_wt3 (i := 103) rfl rfl), (q_wt1 (i := 5) (by decide +kernel) rfl), by decide +kernel, by decide +kernel, by decide +kernel⟩
theorem mt_X2_row : q_mt yX2_row cX2_row 2 (some (.array .int)) 1 := ⟨(q_wt3 (i := 86) rfl rfl), (q_wt1 (i := 5) (by decide +kernel) rfl), by decide +kernel, by decide +kernel, by decide +kernel⟩
theorem mt_X2_sum : q_mt yX2_sum cX2_sum 4 (some .int) 1 := ⟨(q_wt4 (i := 184) rfl rfl), (q_wt1 (i := 5) (by decide +kernel) rfl), by decide +kernel, by decide +kernel, by decide +kernel⟩
theorem mt_X3_row : q_mt yX3_row cX3_row 2 (some (.array .int)) 1 := ⟨(q_wt2 (i := 235) rfl rfl), (q_wt1 (i := 3) (by decide +kernel) rfl), by decide +kernel, by decide +kernel, by decide +kernel⟩
theorem mt_X4_added : q_mt yX4_added cX4_added 4 (some .int) 3 := ⟨(q_wt6 (i := 109) rfl rfl), (q_wt1 (i := 10) (by decide +kernel) rfl), by decide +kernel, by decide +kernel, by decide +kernel⟩
theorem mt_X4_found : q_mt yX4_found cX4_found 4 (some .int) 3 := ⟨(q_wt6 (i := 121) rfl rfl), (q_wt1 (i := 10) (by decide +kernel) rfl), by decide +kernel, by decide +kernel, by decide +kernel⟩
theorem mt_X4_keepOrder : q_mt yX4_keepOrder cX4_keepOrder 2 none 1 := ⟨(q_wt6 (i := 129) rfl rfl), (q_wt1 (i := 10) (by decide +kernel) rfl), by decide +kernel, by decide +kernel, by decide +kernel⟩
theorem mt_X4_putNext : q_mt yX4_putNext cX4_putNext 9 (some .boolean) 5 := ⟨(q_wt6 (i := 125) rfl rfl), (q_wt1 (i := 10) (by decide +kernel) rfl), by decide +kernel, by decide +kernel, by decide +kernel⟩
theorem mt_X4_weeksTill : q_mt yX4_weeksTill cX4_weeksTill 2 (some .int) 2 := ⟨(q_wt6 (i := 132) rfl rfl), (q_wt1 (i := 10) (by decide +kernel) rfl), by decide +kernel, by decide +kernel, by decide +kernel⟩
theorem mt_X5_emit : q_mt yX5_emit cX5_emit 2 none 1 := ⟨(q_wt5 (i := 60) rfl rfl), (q_wt1 (i := 11) (by decide +kernel) rfl), by decide +kernel, by decide +kernel, by decide +kernel⟩
theorem mt_X5_goOn : q_mt yX5_goOn cX5_goOn 2 none 0 := ⟨(q_wt4 (i := 208) rfl rfl), (q_wt1 (i := 11) (by decide +kernel) rfl), by decide +kernel, by decide +kernel, by decide +kernel⟩
theorem mt_X5_isDigit : q_mt yX5_isDigit cX5_isDigit 1 (some .boolean) 1 := ⟨(q_wt4 (i := 214) rfl rfl), (q_wt1 (i := 11) (by decide +kernel) rfl), by decide +kernel, by decide +kernel, by decide +kernel⟩
theorem mt_X5_isLetter : q_mt yX5_isLetter cX5_isLetter 1 (some .boolean) 1 := ⟨(q_wt4 (i := 211) rfl rfl), (q_wt1 (i := 11) (by decide +kernel) rfl), by decide +kernel, by decide +kernel, by decide +kernel⟩
theorem mt_X5_isSign : q_mt yX5_isSign cX5_isSign 2 (some .boolean) 1 := ⟨(q_wt5 (i := 133) rfl rfl), (q_wt1 (i := 11) (by decide +kernel) rfl), by decide +kernel, by decide +kernel, by decide +kernel⟩
theorem mt_X5_put : q_mt yX5_put cX5_put 3 none 1 := ⟨(q_wt4 (i := 192) rfl rfl), (q_wt1 (i := 11) (by decide +kernel) rfl), by decide +kernel, by decide +kernel, by decide +kernel⟩
theorem mt_X6_added : q_mt yX6_added cX6_added 4 (some .int) 3 := ⟨(q_wt6 (i := 50) rfl rfl), (q_wt1 (i := 9) (by decide +kernel) rfl), by decide +kernel, by decide +kernel, by decide +kernel⟩
theorem mt_X6_bestOf : q_mt yX6_bestOf cX6_bestOf 4 (some .int) 1 := ⟨(q_wt6 (i := 59) rfl rfl), (q_wt1 (i := 9) (by decide +kernel) rfl), by decide +kernel, by decide +kernel, by decide +kernel⟩
theorem mt_X6_goRound : q_mt yX6_goRound cX6_goRound 5 none 3 := ⟨(q_wt6 (i := 63) rfl rfl), (q_wt1 (i := 9) (by decide +kernel) rfl), by decide +kernel, by decide +kernel, by decide +kernel⟩
theorem mt_X7_counting : q_mt yX7_counting cX7_counting 5 (some .int) 2 := ⟨(q_wt3 (i := 140) rfl rfl), (q_wt1 (i := 7) (by decide +kernel) rfl), by decide +kernel, by decide +kernel, by decide +kernel⟩
theorem mt_X7_given : q_mt yX7_given cX7_given 7 (some .int) 5 := ⟨(q_wt3 (i := 136) rfl rfl), (q_wt1 (i := 7) (by decide +kernel) rfl), by decide +kernel, by decide +kernel, by decide +kernel⟩
theorem mt_X7_has : q_mt yX7_has cX7_has 2 (some .boolean) 1 := ⟨(q_wt5 (i := 156) rfl rfl), (q_wt1 (i := 7) (by decide +kernel) rfl), by decide +kernel, by decide +kernel, by decide +kernel⟩
theorem mt_X7_held : q_mt yX7_held cX7_held 2 (some .int) 2 := ⟨(q_wt3 (i := 156) rfl rfl), (q_wt1 (i := 7) (by decide +kernel) rfl), by decide +kernel, by decide +kernel, by decide +kernel⟩
theorem mt_X7_joined : q_mt yX7_joined cX7_joined 3 (some .int) 3 := ⟨(q_wt3 (i := 153) rfl rfl), (q_wt1 (i := 7) (by decide +kernel) rfl), by decide +kernel, by decide +kernel, by decide +kernel⟩
theorem mt_X7_named : q_mt yX7_named cX7_named 4 (some .int) 4 := ⟨(q_wt3 (i := 150) rfl rfl), (q_wt1 (i := 7) (by decide +kernel) rfl), by decide +kernel, by decide +kernel, by decide +kernel⟩
theorem mt_X7_row : q_mt yX7_row cX7_row 2 (some (.array .int)) 1 := ⟨(q_wt5 (i := 160) rfl rfl), (q_wt1 (i := 7) (by decide +kernel) rfl), by decide +kernel, by decide +kernel, by decide +kernel⟩
theorem mt_X7_unwritten : q_mt yX7_unwritten cX7_unwritten 2 (some .int) 2 := ⟨(q_wt3 (i := 143) rfl rfl), (q_wt1 (i := 7) (by decide +kernel) rfl), by decide +kernel, by decide +kernel, by decide +kernel⟩
theorem mt_X7_value : q_mt yX7_value cX7_value 9 (some .int) 4 := ⟨(q_wt3 (i := 147) rfl rfl), (q_wt1 (i := 7) (by decide +kernel) rfl), by decide +kernel, by decide +kernel, by decide +kernel⟩
theorem mt_X8_added : q_mt yX8_added cX8_added 5 (some .int) 4 := ⟨(q_wt3 (i := 22) rfl rfl), (q_wt1 (i := 4) (by decide +kernel) rfl), by decide +kernel, by decide +kernel, by decide +kernel⟩
theorem mt_X8_firstCompany : q_mt yX8_firstCompany cX8_firstCompany 2 (some .int) 0 := ⟨(q_wt4 (i := 118) rfl rfl), (q_wt1 (i := 4) (by decide +kernel) rfl), by decide +kernel, by decide +kernel, by decide +kernel⟩
theorem mt_X8_has : q_mt yX8_has cX8_has 2 (some .boolean) 1 := ⟨(q_wt3 (i := 31) rfl rfl), (q_wt1 (i := 4) (by decide +kernel) rfl), by decide +kernel, by decide +kernel, by decide +kernel⟩
theorem mt_X8_leastPrice : q_mt yX8_leastPrice cX8_leastPrice 4 (some .int) 1 := ⟨(q_wt4 (i := 96) rfl rfl), (q_wt1 (i := 4) (by decide +kernel) rfl), by decide +kernel, by decide +kernel, by decide +kernel⟩
theorem mt_X8_loavesFor : q_mt yX8_loavesFor cX8_loavesFor 3 (some .int) 2 := ⟨(q_wt3 (i := 182) rfl rfl), (q_wt1 (i := 4) (by decide +kernel) rfl), by decide +kernel, by decide +kernel, by decide +kernel⟩
theorem mt_X8_loavesOfCompany : q_mt yX8_loavesOfCompany cX8_loavesOfCompany 3 (some .int) 1 := ⟨(q_wt4 (i := 92) rfl rfl), (q_wt1 (i := 4) (by decide +kernel) rfl), by decide +kernel, by decide +kernel, by decide +kernel⟩
theorem mt_X8_loavesOfTown : q_mt yX8_loavesOfTown cX8_loavesOfTown 4 (some .int) 1 := ⟨(q_wt4 (i := 100) rfl rfl), (q_wt1 (i := 4) (by decide +kernel) rfl), by decide +kernel, by decide +kernel, by decide +kernel⟩
theorem mt_X8_row : q_mt yX8_row cX8_row 2 (some (.array .int)) 1 := ⟨(q_wt3 (i := 35) rfl rfl), (q_wt1 (i := 4) (by decide +kernel) rfl), by decide +kernel, by decide +kernel, by decide +kernel⟩
theorem mt_X9_buy : q_mt yX9_buy cX9_buy 3 none 1 := ⟨(q_wt3 (i := 174) rfl rfl), (q_wt1 (i := 2) (by decide +kernel) rfl), by decide +kernel, by decide +kernel, by decide +kernel⟩
theorem mt_X9_buyByChecks : q_mt yX9_buyByChecks cX9_buyByChecks 4 none 2 := ⟨(q_wt3 (i := 178) rfl rfl), (q_wt1 (i := 2) (by decide +kernel) rfl), by decide +kernel, by decide +kernel, by decide +kernel⟩
theorem mt_X9_buyInTown : q_mt yX9_buyInTown cX9_buyInTown 5 none 1 := ⟨(q_wt3 (i := 193) rfl rfl), (q_wt1 (i := 2) (by decide +kernel) rfl), by decide +kernel, by decide +kernel, by decide +kernel⟩
theorem mt_X9_buyOnDebt : q_mt yX9_buyOnDebt cX9_buyOnDebt 4 none 2 := ⟨(q_wt3 (i := 203) rfl rfl), (q_wt1 (i := 2) (by decide +kernel) rfl), by decide +kernel, by decide +kernel, by decide +kernel⟩
theorem mt_X9_companyLasts : q_mt yX9_companyLasts cX9_companyLasts 4 (some .int) 1 := ⟨(q_wt6 (i := 90) rfl rfl), (q_wt1 (i := 2) (by decide +kernel) rfl), by decide +kernel, by decide +kernel, by decide +kernel⟩
theorem mt_X9_dig : q_mt yX9_dig cX9_dig 7 none 1 := ⟨(q_wt3 (i := 132) rfl rfl), (q_wt1 (i := 2) (by decide +kernel) rfl), by decide +kernel, by decide +kernel, by decide +kernel⟩
theorem mt_X9_earned : q_mt yX9_earned cX9_earned 2 (some .int) 1 := ⟨(q_wt3 (i := 78) rfl rfl), (q_wt1 (i := 2) (by decide +kernel) rfl), by decide +kernel, by decide +kernel, by decide +kernel⟩
theorem mt_X9_eat : q_mt yX9_eat cX9_eat 4 none 1 := ⟨(q_wt3 (i := 166) rfl rfl), (q_wt1 (i := 2) (by decide +kernel) rfl), by decide +kernel, by decide +kernel, by decide +kernel⟩
theorem mt_X9_endWeek : q_mt yX9_endWeek cX9_endWeek 5 none 1 := ⟨(q_wt3 (i := 214) rfl rfl), (q_wt1 (i := 2) (by decide +kernel) rfl), by decide +kernel, by decide +kernel, by decide +kernel⟩
theorem mt_X9_goBy : q_mt yX9_goBy cX9_goBy 5 none 2 := ⟨(q_wt3 (i := 127) rfl rfl), (q_wt1 (i := 2) (by decide +kernel) rfl), by decide +kernel, by decide +kernel, by decide +kernel⟩
theorem mt_X9_isKept : q_mt yX9_isKept cX9_isKept 2 (some .boolean) 1 := ⟨(q_wt4 (i := 12) rfl rfl), (q_wt1 (i := 2) (by decide +kernel) rfl), by decide +kernel, by decide +kernel, by decide +kernel⟩
theorem mt_X9_isWrongFine : q_mt yX9_isWrongFine cX9_isWrongFine 2 (some .boolean) 1 := ⟨(q_wt4 (i := 79) rfl rfl), (q_wt1 (i := 2) (by decide +kernel) rfl), by decide +kernel, by decide +kernel, by decide +kernel⟩
theorem mt_X9_leastStrike : q_mt yX9_leastStrike cX9_leastStrike 3 (some .int) 0 := ⟨(q_wt6 (i := 98) rfl rfl), (q_wt1 (i := 2) (by decide +kernel) rfl), by decide +kernel, by decide +kernel, by decide +kernel⟩
theorem mt_X9_menLast : q_mt yX9_menLast cX9_menLast 4 (some .int) 1 := ⟨(q_wt6 (i := 86) rfl rfl), (q_wt1 (i := 2) (by decide +kernel) rfl), by decide +kernel, by decide +kernel, by decide +kernel⟩
theorem mt_X9_newMan : q_mt yX9_newMan cX9_newMan 5 (some .int) 3 := ⟨(q_wt3 (i := 55) rfl rfl), (q_wt1 (i := 2) (by decide +kernel) rfl), by decide +kernel, by decide +kernel, by decide +kernel⟩
theorem mt_X9_owed : q_mt yX9_owed cX9_owed 2 (some .int) 1 := ⟨(q_wt3 (i := 82) rfl rfl), (q_wt1 (i := 2) (by decide +kernel) rfl), by decide +kernel, by decide +kernel, by decide +kernel⟩
theorem mt_X9_payOut : q_mt yX9_payOut cX9_payOut 2 none 1 := ⟨(q_wt3 (i := 238) rfl rfl), (q_wt1 (i := 2) (by decide +kernel) rfl), by decide +kernel, by decide +kernel, by decide +kernel⟩
theorem mt_X9_reckon : q_mt yX9_reckon cX9_reckon 8 none 3 := ⟨(q_wt3 (i := 218) rfl rfl), (q_wt1 (i := 2) (by decide +kernel) rfl), by decide +kernel, by decide +kernel, by decide +kernel⟩
theorem mt_X9_spreadNews : q_mt yX9_spreadNews cX9_spreadNews 4 none 1 := ⟨(q_wt3 (i := 209) rfl rfl), (q_wt1 (i := 2) (by decide +kernel) rfl), by decide +kernel, by decide +kernel, by decide +kernel⟩
theorem mt_X9_takeLoaves : q_mt yX9_takeLoaves cX9_takeLoaves 4 none 3 := ⟨(q_wt3 (i := 188) rfl rfl), (q_wt1 (i := 2) (by decide +kernel) rfl), by decide +kernel, by decide +kernel, by decide +kernel⟩
theorem mt_X9_townKnownCheapest : q_mt yX9_townKnownCheapest cX9_townKnownCheapest 7 (some .int) 2 := ⟨(q_wt3 (i := 197) rfl rfl), (q_wt1 (i := 2) (by decide +kernel) rfl), by decide +kernel, by decide +kernel, by decide +kernel⟩
theorem mt_X9_weeksBound : q_mt yX9_weeksBound cX9_weeksBound 8 (some .int) 3 := ⟨(q_wt4 (i := 114) rfl rfl), (q_wt1 (i := 2) (by decide +kernel) rfl), by decide +kernel, by decide +kernel, by decide +kernel⟩
theorem mt_X9_weighStrikes : q_mt yX9_weighStrikes cX9_weighStrikes 6 none 0 := ⟨(q_wt6 (i := 81) rfl rfl), (q_wt1 (i := 2) (by decide +kernel) rfl), by decide +kernel, by decide +kernel, by decide +kernel⟩
theorem mt_X9_wrongFines : q_mt yX9_wrongFines cX9_wrongFines 5 (some .int) 2 := ⟨(q_wt4 (i := 75) rfl rfl), (q_wt1 (i := 2) (by decide +kernel) rfl), by decide +kernel, by decide +kernel, by decide +kernel⟩
theorem ml_X0_23 : Cond.methodLink RX0 23 yX0_start ∈ q_tbl := (q_wt5 (i := 180) (by decide +kernel) rfl)
theorem ml_X0_27 : Cond.methodLink RX0 27 yX0_isMissing ∈ q_tbl := (q_wt5 (i := 213) (by decide +kernel) rfl)
theorem ml_X0_31 : Cond.methodLink RX0 31 yX0_hasWeek ∈ q_tbl := (q_wt5 (i := 214) (by decide +kernel) rfl)
theorem ml_X1_45 : Cond.methodLink RX1 45 yX1_row ∈ q_tbl := (q_wt4 (i := 154) (by decide +kernel) rfl)
theorem ml_X1_55 : Cond.methodLink RX1 55 yX1_isUnder ∈ q_tbl := (q_wt3 (i := 224) (by decide +kernel) rfl)
theorem ml_X1_65 : Cond.methodLink RX1 65 yX1_settle ∈ q_tbl := (q_wt3 (i := 230) (by decide +kernel) rfl)
theorem ml_X10_21 : Cond.methodLink RX10 21 yX10_m ∈ q_tbl := (q_wt6 (i := 9) (by decide +kernel) rfl)
theorem ml_X10_25 : Cond.methodLink RX10 25 yX10_p ∈ q_tbl := (q_wt6 (i := 12) (by decide +kernel) rfl)
theorem ml_X10_28 : Cond.methodLink RX10 28 yX10_t ∈ q_tbl := (q_wt6 (i := 15) (by decide +kernel) rfl)
theorem ml_X10_31 : Cond.methodLink RX10 31 yX7_given ∈ q_tbl := (q_wt6 (i := 18) (by decide +kernel) rfl)
theorem ml_X10_35 : Cond.methodLink RX10 35 yX7_value ∈ q_tbl := (q_wt6 (i := 38) (by decide +kernel) rfl)
theorem ml_X10_39 : Cond.methodLink RX10 39 yX10_isOpen ∈ q_tbl := (q_wt6 (i := 5) (by decide +kernel) rfl)
theorem ml_X10_43 : Cond.methodLink RX10 43 yX10_isBarred ∈ q_tbl := (q_wt6 (i := 35) (by decide +kernel) rfl)
theorem ml_X11_53 : Cond.methodLink RX11 53 yX11_within ∈ q_tbl := (q_wt2 (i := 228) (by decide +kernel) rfl)
theorem ml_X11_62 : Cond.methodLink RX11 62 yX3_row ∈ q_tbl := (q_wt2 (i := 232) (by decide +kernel) rfl)
theorem ml_X11_66 : Cond.methodLink RX11 66 yX11_exchanged ∈ q_tbl := (q_wt2 (i := 236) (by decide +kernel) rfl)
theorem ml_X11_74 : Cond.methodLink RX11 74 yX2_inPit ∈ q_tbl := (q_wt3 (i := 6) (by decide +kernel) rfl)
theorem ml_X11_80 : Cond.methodLink RX11 80 yX11_looked ∈ q_tbl := (q_wt2 (i := 239) (by decide +kernel) rfl)
theorem ml_X11_91 : Cond.methodLink RX11 91 yX8_added ∈ q_tbl := (q_wt3 (i := 19) (by decide +kernel) rfl)
theorem ml_X11_95 : Cond.methodLink RX11 95 yX8_has ∈ q_tbl := (q_wt3 (i := 28) (by decide +kernel) rfl)
theorem ml_X11_99 : Cond.methodLink RX11 99 yX8_row ∈ q_tbl := (q_wt3 (i := 32) (by decide +kernel) rfl)
theorem ml_X11_100 : Cond.methodLink RX11 100 yX2_mayBe ∈ q_tbl := (q_wt3 (i := 44) (by decide +kernel) rfl)
theorem ml_X11_115 : Cond.methodLink RX11 115 yX9_newMan ∈ q_tbl := (q_wt3 (i := 52) (by decide +kernel) rfl)
theorem ml_X11_119 : Cond.methodLink RX11 119 yX2_has ∈ q_tbl := (q_wt3 (i := 71) (by decide +kernel) rfl)
theorem ml_X11_120 : Cond.methodLink RX11 120 yX9_earned ∈ q_tbl := (q_wt3 (i := 75) (by decide +kernel) rfl)
theorem ml_X11_123 : Cond.methodLink RX11 123 yX9_owed ∈ q_tbl := (q_wt3 (i := 79) (by decide +kernel) rfl)
theorem ml_X11_126 : Cond.methodLink RX11 126 yX2_row ∈ q_tbl := (q_wt3 (i := 83) (by decide +kernel) rfl)
theorem ml_X11_127 : Cond.methodLink RX11 127 yX2_knows ∈ q_tbl := (q_wt3 (i := 95) (by decide +kernel) rfl)
theorem ml_X11_131 : Cond.methodLink RX11 131 yX2_priceKnown ∈ q_tbl := (q_wt3 (i := 100) (by decide +kernel) rfl)
theorem ml_X11_135 : Cond.methodLink RX11 135 yX2_dayKnown ∈ q_tbl := (q_wt3 (i := 104) (by decide +kernel) rfl)
theorem ml_X11_144 : Cond.methodLink RX11 144 yX2_learn ∈ q_tbl := (q_wt3 (i := 112) (by decide +kernel) rfl)
theorem ml_X11_151 : Cond.methodLink RX11 151 yX9_goBy ∈ q_tbl := (q_wt3 (i := 124) (by decide +kernel) rfl)
theorem ml_X11_155 : Cond.methodLink RX11 155 yX11_newDue ∈ q_tbl := (q_wt4 (i := 17) (by decide +kernel) rfl)
theorem ml_X11_158 : Cond.methodLink RX11 158 yX2_getChecks ∈ q_tbl := (q_wt4 (i := 24) (by decide +kernel) rfl)
theorem ml_X11_162 : Cond.methodLink RX11 162 yX2_getCoin ∈ q_tbl := (q_wt4 (i := 25) (by decide +kernel) rfl)
theorem ml_X11_168 : Cond.methodLink RX11 168 yX2_isGone ∈ q_tbl := (q_wt4 (i := 21) (by decide +kernel) rfl)
theorem ml_X11_172 : Cond.methodLink RX11 172 yX1_added ∈ q_tbl := (q_wt4 (i := 23) (by decide +kernel) rfl)
theorem ml_X11_175 : Cond.methodLink RX11 175 yX1_has ∈ q_tbl := (q_wt4 (i := 42) (by decide +kernel) rfl)
theorem ml_X11_192 : Cond.methodLink RX11 192 yX1_row ∈ q_tbl := (q_wt4 (i := 59) (by decide +kernel) rfl)
theorem ml_X11_193 : Cond.methodLink RX11 193 yX1_isUnder ∈ q_tbl := (q_wt4 (i := 67) (by decide +kernel) rfl)
theorem ml_X11_196 : Cond.methodLink RX11 196 yX9_wrongFines ∈ q_tbl := (q_wt4 (i := 72) (by decide +kernel) rfl)
theorem ml_X11_200 : Cond.methodLink RX11 200 yX9_reckon ∈ q_tbl := (q_wt4 (i := 88) (by decide +kernel) rfl)
theorem ml_X11_207 : Cond.methodLink RX11 207 yX8_loavesOfCompany ∈ q_tbl := (q_wt4 (i := 89) (by decide +kernel) rfl)
theorem ml_X11_210 : Cond.methodLink RX11 210 yX8_loavesOfTown ∈ q_tbl := (q_wt4 (i := 97) (by decide +kernel) rfl)
theorem ml_X11_221 : Cond.methodLink RX11 221 yX9_weeksBound ∈ q_tbl := (q_wt4 (i := 111) (by decide +kernel) rfl)
theorem ml_X11_239 : Cond.methodLink RX11 239 yX2_sum ∈ q_tbl := (q_wt4 (i := 181) (by decide +kernel) rfl)
theorem ml_X11_249 : Cond.methodLink RX11 249 yX5_put ∈ q_tbl := (q_wt4 (i := 189) (by decide +kernel) rfl)
theorem ml_X11_275 : Cond.methodLink RX11 275 yX7_has ∈ q_tbl := (q_wt5 (i := 153) (by decide +kernel) rfl)
theorem ml_X11_276 : Cond.methodLink RX11 276 yX7_row ∈ q_tbl := (q_wt5 (i := 157) (by decide +kernel) rfl)
theorem ml_X11_277 : Cond.methodLink RX11 277 yX7_counting ∈ q_tbl := (q_wt5 (i := 165) (by decide +kernel) rfl)
theorem ml_X11_280 : Cond.methodLink RX11 280 yX7_given ∈ q_tbl := (q_wt5 (i := 170) (by decide +kernel) rfl)
theorem ml_X11_284 : Cond.methodLink RX11 284 yX0_open ∈ q_tbl := (q_wt5 (i := 176) (by decide +kernel) rfl)
theorem ml_X11_291 : Cond.methodLink RX11 291 yX11_bookFinding ∈ q_tbl := (q_wt5 (i := 187) (by decide +kernel) rfl)
theorem ml_X11_294 : Cond.methodLink RX11 294 yX0_set ∈ q_tbl := (q_wt5 (i := 201) (by decide +kernel) rfl)
theorem ml_X11_297 : Cond.methodLink RX11 297 yX0_placeOf ∈ q_tbl := (q_wt5 (i := 209) (by decide +kernel) rfl)
theorem ml_X11_303 : Cond.methodLink RX11 303 yX0_isMissing ∈ q_tbl := (q_wt5 (i := 191) (by decide +kernel) rfl)
theorem ml_X11_307 : Cond.methodLink RX11 307 yX0_hasWeek ∈ q_tbl := (q_wt5 (i := 196) (by decide +kernel) rfl)
theorem ml_X11_314 : Cond.methodLink RX11 314 yX0_hasRange ∈ q_tbl := (q_wt5 (i := 220) (by decide +kernel) rfl)
theorem ml_X11_317 : Cond.methodLink RX11 317 yX0_start ∈ q_tbl := (q_wt5 (i := 224) (by decide +kernel) rfl)
theorem ml_X11_335 : Cond.methodLink RX11 335 yX10_number ∈ q_tbl := (q_wt5 (i := 234) (by decide +kernel) rfl)
theorem ml_X11_337 : Cond.methodLink RX11 337 yX10_open ∈ q_tbl := (q_wt6 (i := 1) (by decide +kernel) rfl)
theorem ml_X11_340 : Cond.methodLink RX11 340 yX10_openWay ∈ q_tbl := (q_wt6 (i := 23) (by decide +kernel) rfl)
theorem ml_X11_346 : Cond.methodLink RX11 346 yX10_openBarred ∈ q_tbl := (q_wt6 (i := 31) (by decide +kernel) rfl)
theorem ml_X11_349 : Cond.methodLink RX11 349 yX10_othersBarred ∈ q_tbl := (q_wt6 (i := 39) (by decide +kernel) rfl)
theorem ml_X11_358 : Cond.methodLink RX11 358 yX6_added ∈ q_tbl := (q_wt6 (i := 47) (by decide +kernel) rfl)
theorem ml_X11_360 : Cond.methodLink RX11 360 yX6_bestOf ∈ q_tbl := (q_wt6 (i := 56) (by decide +kernel) rfl)
theorem ml_X11_366 : Cond.methodLink RX11 366 yX9_weighStrikes ∈ q_tbl := (q_wt6 (i := 78) (by decide +kernel) rfl)
theorem ml_X11_369 : Cond.methodLink RX11 369 yX9_menLast ∈ q_tbl := (q_wt6 (i := 83) (by decide +kernel) rfl)
theorem ml_X11_372 : Cond.methodLink RX11 372 yX9_companyLasts ∈ q_tbl := (q_wt6 (i := 87) (by decide +kernel) rfl)
theorem ml_X11_375 : Cond.methodLink RX11 375 yX9_leastStrike ∈ q_tbl := (q_wt6 (i := 95) (by decide +kernel) rfl)
theorem ml_X11_382 : Cond.methodLink RX11 382 yX4_added ∈ q_tbl := (q_wt6 (i := 106) (by decide +kernel) rfl)
theorem ml_X11_385 : Cond.methodLink RX11 385 yX11_isFunded ∈ q_tbl := (q_wt6 (i := 115) (by decide +kernel) rfl)
theorem ml_X11_388 : Cond.methodLink RX11 388 yX4_found ∈ q_tbl := (q_wt6 (i := 118) (by decide +kernel) rfl)
theorem ml_X11_404 : Cond.methodLink RX11 404 yX11_firstWrong ∈ q_tbl := (q_wt6 (i := 151) (by decide +kernel) rfl)
theorem ml_X11_411 : Cond.methodLink RX11 411 yX1_open ∈ q_tbl := (q_wt6 (i := 175) (by decide +kernel) rfl)
theorem ml_X11_413 : Cond.methodLink RX11 413 yX1_out ∈ q_tbl := (q_wt6 (i := 179) (by decide +kernel) rfl)
theorem ml_X12_64 : Cond.methodLink RX12 64 yX12_isIn ∈ q_tbl := (q_wt7 (i := 84) (by decide +kernel) rfl)
