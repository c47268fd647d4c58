theorem ci_6 : Int32.ofInt (6) = (nI 6) := by decide +kernel
theorem mt_X11_all : q_mt yX11_all cX11_all 7 (some .int) 2 := ⟨(q_wt5 (i := 229) rfl rfl), (q_wt1 (i := 1) (by decide +kernel) rfl), by decide +kernel, by decide +kernel, by decide +kernel⟩
theorem mt_X11_as : q_mt yX11_as cX11_as 3 (some .int) 2 := ⟨(q_wt4 (i := 66) rfl rfl), (q_wt1 (i := 1) (by decide +kernel) rfl), by decide +kernel, by decide +kernel, by decide +kernel⟩
theorem mt_X11_at : q_mt yX11_at cX11_at 3 (some .int) 2 := ⟨(q_wt6 (i := 73) rfl rfl), (q_wt1 (i := 1) (by decide +kernel) rfl), by decide +kernel, by decide +kernel, by decide +kernel⟩
theorem mt_X11_back : q_mt yX11_back cX11_back 1 (some .int) 0 := ⟨(q_wt6 (i := 170) rfl rfl), (q_wt1 (i := 1) (by decide +kernel) rfl), by decide +kernel, by decide +kernel, by decide +kernel⟩
theorem mt_X11_be : q_mt yX11_be cX11_be 4 (some .int) 3 := ⟨(q_wt3 (i := 90) rfl rfl), (q_wt1 (i := 1) (by decide +kernel) rfl), by decide +kernel, by decide +kernel, by decide +kernel⟩
theorem mt_X11_beside : q_mt yX11_beside cX11_beside 3 (some .int) 2 := ⟨(q_wt4 (i := 123) rfl rfl), (q_wt1 (i := 1) (by decide +kernel) rfl), by decide +kernel, by decide +kernel, by decide +kernel⟩
theorem mt_X11_book : q_mt yX11_book cX11_book 4 (some .int) 3 := ⟨(q_wt5 (i := 174) rfl rfl), (q_wt1 (i := 1) (by decide +kernel) rfl), by decide +kernel, by decide +kernel, by decide +kernel⟩
theorem mt_X11_bound : q_mt yX11_bound cX11_bound 4 (some .int) 3 := ⟨(q_wt4 (i := 110) rfl rfl), (q_wt1 (i := 1) (by decide +kernel) rfl), by decide +kernel, by decide +kernel, by decide +kernel⟩
theorem mt_X11_breach : q_mt yX11_breach cX11_breach 4 (some .int) 3 := ⟨(q_wt6 (i := 46) rfl rfl), (q_wt1 (i := 1) (by decide +kernel) rfl), by decide +kernel, by decide +kernel, by decide +kernel⟩
theorem mt_X11_check : q_mt yX11_check cX11_check 5 (some .int) 3 := ⟨(q_wt6 (i := 146) rfl rfl), (q_wt1 (i := 1) (by decide +kernel) rfl), by decide +kernel, by decide +kernel, by decide +kernel⟩
theorem mt_X11_choice : q_mt yX11_choice cX11_choice 4 (some .int) 3 := ⟨(q_wt6 (i := 105) rfl rfl), (q_wt1 (i := 1) (by decide +kernel) rfl), by decide +kernel, by decide +kernel, by decide +kernel⟩
theorem mt_X11_copy : q_mt yX11_copy cX11_copy 6 (some .int) 5 := ⟨(q_wt5 (i := 219) rfl rfl), (q_wt1 (i := 1) (by decide +kernel) rfl), by decide +kernel, by decide +kernel, by decide +kernel⟩
theorem mt_X11_count : q_mt yX11_count cX11_count 2 (some .int) 1 := ⟨(q_wt6 (i := 174) rfl rfl), (q_wt1 (i := 1) (by decide +kernel) rfl), by decide +kernel, by decide +kernel, by decide +kernel⟩
theorem mt_X11_draw : q_mt yX11_draw cX11_draw 5 (some .int) 3 := ⟨(q_wt4 (i := 16) rfl rfl), (q_wt1 (i := 1) (by decide +kernel) rfl), by decide +kernel, by decide +kernel, by decide +kernel⟩
theorem mt_X11_dug : q_mt yX11_dug cX11_dug 3 (some .int) 2 := ⟨(q_wt3 (i := 5) rfl rfl), (q_wt1 (i := 1) (by decide +kernel) rfl), by decide +kernel, by decide +kernel, by decide +kernel⟩
theorem mt_X11_end : q_mt yX11_end cX11_end 5 (some .int) 4 := ⟨(q_wt5 (i := 233) rfl rfl), (q_wt1 (i := 1) (by decide +kernel) rfl), by decide +kernel, by decide +kernel, by decide +kernel⟩
theorem mt_X11_feed : q_mt yX11_feed cX11_feed 4 (some .int) 3 := ⟨(q_wt4 (i := 188) rfl rfl), (q_wt1 (i := 1) (by decide +kernel) rfl), by decide +kernel, by decide +kernel, by decide +kernel⟩
theorem mt_X11_fine : q_mt yX11_fine cX11_fine 4 (some .int) 3 := ⟨(q_wt4 (i := 33) rfl rfl), (q_wt1 (i := 1) (by decide +kernel) rfl), by decide +kernel, by decide +kernel, by decide +kernel⟩
theorem mt_X11_give : q_mt yX11_give cX11_give 3 (some .int) 1 := ⟨(q_wt4 (i := 83) rfl rfl), (q_wt1 (i := 1) (by decide +kernel) rfl), by decide +kernel, by decide +kernel, by decide +kernel⟩
theorem mt_X11_hear : q_mt yX11_hear cX11_hear 3 (some .int) 2 := ⟨(q_wt3 (i := 111) rfl rfl), (q_wt1 (i := 1) (by decide +kernel) rfl), by decide +kernel, by decide +kernel, by decide +kernel⟩
theorem mt_X11_init : q_mt yX11_init cX11_init 1 none 0 := ⟨(q_wt1 (i := 26) rfl rfl), (q_wt1 (i := 1) (by decide +kernel) rfl), by decide +kernel, by decide +kernel, by decide +kernel⟩
theorem mt_X11_is : q_mt yX11_is cX11_is 3 (some .int) 2 := ⟨(q_wt3 (i := 70) rfl rfl), (q_wt1 (i := 1) (by decide +kernel) rfl), by decide +kernel, by decide +kernel, by decide +kernel⟩
theorem mt_X11_keep : q_mt yX11_keep cX11_keep 1 (some .int) 0 := ⟨(q_wt6 (i := 166) rfl rfl), (q_wt1 (i := 1) (by decide +kernel) rfl), by decide +kernel, by decide +kernel, by decide +kernel⟩
theorem mt_X11_known : q_mt yX11_known cX11_known 4 (some .int) 3 := ⟨(q_wt3 (i := 94) rfl rfl), (q_wt1 (i := 1) (by decide +kernel) rfl), by decide +kernel, by decide +kernel, by decide +kernel⟩
theorem mt_X11_last : q_mt yX11_last cX11_last 3 (some .int) 2 := ⟨(q_wt6 (i := 77) rfl rfl), (q_wt1 (i := 1) (by decide +kernel) rfl), by decide +kernel, by decide +kernel, by decide +kernel⟩
theorem mt_X11_least : q_mt yX11_least cX11_least 2 (some .int) 0 := ⟨(q_wt6 (i := 94) rfl rfl), (q_wt1 (i := 1) (by decide +kernel) rfl), by decide +kernel, by decide +kernel, by decide +kernel⟩
theorem mt_X11_let : q_mt yX11_let cX11_let 3 (some .int) 1 := ⟨(q_wt4 (i := 41) rfl rfl), (q_wt1 (i := 1) (by decide +kernel) rfl), by decide +kernel, by decide +kernel, by decide +kernel⟩
theorem mt_X11_man : q_mt yX11_man cX11_man 4 (some .int) 3 := ⟨(q_wt3 (i := 43) rfl rfl), (q_wt1 (i := 1) (by decide +kernel) rfl), by decide +kernel, by decide +kernel, by decide +kernel⟩
theorem mt_X11_melt : q_mt yX11_melt cX11_melt 3 (some .int) 1 := ⟨(q_wt4 (i := 54) rfl rfl), (q_wt1 (i := 1) (by decide +kernel) rfl), by decide +kernel, by decide +kernel, by decide +kernel⟩
theorem mt_X11_note : q_mt yX11_note cX11_note 5 (some .int) 3 := ⟨(q_wt5 (i := 186) rfl rfl), (q_wt1 (i := 1) (by decide +kernel) rfl), by decide +kernel, by decide +kernel, by decide +kernel⟩
theorem mt_X11_of : q_mt yX11_of cX11_of 3 (some .int) 2 := ⟨(q_wt5 (i := 152) rfl rfl), (q_wt1 (i := 1) (by decide +kernel) rfl), by decide +kernel, by decide +kernel, by decide +kernel⟩
theorem mt_X11_pit : q_mt yX11_pit cX11_pit 4 (some .int) 3 := ⟨(q_wt2 (i := 227) rfl rfl), (q_wt1 (i := 1) (by decide +kernel) rfl), by decide +kernel, by decide +kernel, by decide +kernel⟩
theorem mt_X11_plan : q_mt yX11_plan cX11_plan 4 (some .int) 3 := ⟨(q_wt6 (i := 114) rfl rfl), (q_wt1 (i := 1) (by decide +kernel) rfl), by decide +kernel, by decide +kernel, by decide +kernel⟩
theorem mt_X11_planned : q_mt yX11_planned cX11_planned 5 (some .int) 3 := ⟨(q_wt6 (i := 138) rfl rfl), (q_wt1 (i := 1) (by decide +kernel) rfl), by decide +kernel, by decide +kernel, by decide +kernel⟩
theorem mt_X11_prove : q_mt yX11_prove cX11_prove 7 (some .int) 4 := ⟨(q_wt4 (i := 105) rfl rfl), (q_wt1 (i := 1) (by decide +kernel) rfl), by decide +kernel, by decide +kernel, by decide +kernel⟩
theorem mt_X11_read : q_mt yX11_read cX11_read 5 (some .int) 2 := ⟨(q_wt5 (i := 208) rfl rfl), (q_wt1 (i := 1) (by decide +kernel) rfl), by decide +kernel, by decide +kernel, by decide +kernel⟩
theorem mt_X11_round : q_mt yX11_round cX11_round 1 (some .int) 0 := ⟨(q_wt6 (i := 0) rfl rfl), (q_wt1 (i := 1) (by decide +kernel) rfl), by decide +kernel, by decide +kernel, by decide +kernel⟩
theorem mt_X11_rule : q_mt yX11_rule cX11_rule 3 (some .int) 2 := ⟨(q_wt3 (i := 119) rfl rfl), (q_wt1 (i := 1) (by decide +kernel) rfl), by decide +kernel, by decide +kernel, by decide +kernel⟩
theorem mt_X11_rules : q_mt yX11_rules cX11_rules 5 (some .int) 4 := ⟨(q_wt5 (i := 169) rfl rfl), (q_wt1 (i := 1) (by decide +kernel) rfl), by decide +kernel, by decide +kernel, by decide +kernel⟩
theorem mt_X11_run : q_mt yX11_run cX11_run 2 (some .int) 1 := ⟨(q_wt3 (i := 123) rfl rfl), (q_wt1 (i := 1) (by decide +kernel) rfl), by decide +kernel, by decide +kernel, by decide +kernel⟩
theorem mt_X11_seen : q_mt yX11_seen cX11_seen 2 (some .int) 1 := ⟨(q_wt6 (i := 55) rfl rfl), (q_wt1 (i := 1) (by decide +kernel) rfl), by decide +kernel, by decide +kernel, by decide +kernel⟩
theorem mt_X11_sell : q_mt yX11_sell cX11_sell 7 (some .int) 3 := ⟨(q_wt4 (i := 50) rfl rfl), (q_wt1 (i := 1) (by decide +kernel) rfl), by decide +kernel, by decide +kernel, by decide +kernel⟩
theorem mt_X11_sells : q_mt yX11_sells cX11_sells 3 (some .int) 2 := ⟨(q_wt3 (i := 39) rfl rfl), (q_wt1 (i := 1) (by decide +kernel) rfl), by decide +kernel, by decide +kernel, by decide +kernel⟩
theorem mt_X11_shelf : q_mt yX11_shelf cX11_shelf 4 (some .int) 3 := ⟨(q_wt3 (i := 27) rfl rfl), (q_wt1 (i := 1) (by decide +kernel) rfl), by decide +kernel, by decide +kernel, by decide +kernel⟩
theorem mt_X11_shop : q_mt yX11_shop cX11_shop 5 (some .int) 4 := ⟨(q_wt3 (i := 17) rfl rfl), (q_wt1 (i := 1) (by decide +kernel) rfl), by decide +kernel, by decide +kernel, by decide +kernel⟩
theorem mt_X11_stop : q_mt yX11_stop cX11_stop 4 (some .int) 3 := ⟨(q_wt4 (i := 37) rfl rfl), (q_wt1 (i := 1) (by decide +kernel) rfl), by decide +kernel, by decide +kernel, by decide +kernel⟩
theorem mt_X11_strike : q_mt yX11_strike cX11_strike 4 (some .int) 2 := ⟨(q_wt4 (i := 29) rfl rfl), (q_wt1 (i := 1) (by decide +kernel) rfl), by decide +kernel, by decide +kernel, by decide +kernel⟩
theorem mt_X11_tell : q_mt yX11_tell cX11_tell 2 (some .int) 1 := ⟨(q_wt6 (i := 142) rfl rfl), (q_wt1 (i := 1) (by decide +kernel) rfl), by decide +kernel, by decide +kernel, by decide +kernel⟩
theorem mt_X11_text : q_mt yX11_text cX11_text 3 (some .int) 1 := ⟨(q_wt4 (i := 200) rfl rfl), (q_wt1 (i := 1) (by decide +kernel) rfl), by decide +kernel, by decide +kernel, by decide +kernel⟩
theorem mt_X11_told : q_mt yX11_told cX11_told 3 (some .int) 2 := ⟨(q_wt4 (i := 58) rfl rfl), (q_wt1 (i := 1) (by decide +kernel) rfl), by decide +kernel, by decide +kernel, by decide +kernel⟩
theorem mt_X11_trim : q_mt yX11_trim cX11_trim 2 (some .int) 1 := ⟨(q_wt4 (i := 196) rfl rfl), (q_wt1 (i := 1) (by decide +kernel) rfl), by decide +kernel, by decide +kernel, by decide +kernel⟩
theorem mt_X11_way : q_mt yX11_way cX11_way 3 (some .int) 1 := ⟨(q_wt6 (i := 22) rfl rfl), (q_wt1 (i := 1) (by decide +kernel) rfl), by decide +kernel, by decide +kernel, by decide +kernel⟩
theorem mt_X11_why : q_mt yX11_why cX11_why 3 (some .int) 1 := ⟨(q_wt5 (i := 164) rfl rfl), (q_wt1 (i := 1) (by decide +kernel) rfl), by decide +kernel, by decide +kernel, by decide +kernel⟩
theorem mt_X11_worth : q_mt yX11_worth cX11_worth 4 (some .int) 2 := ⟨(q_wt4 (i := 87) rfl rfl), (q_wt1 (i := 1) (by decide +kernel) rfl), by decide +kernel, by decide +kernel, by decide +kernel⟩
theorem mt_X11_would : q_mt yX11_would cX11_would 3 (some .int) 2 := ⟨(q_wt6 (i := 30) rfl rfl), (q_wt1 (i := 1) (by decide +kernel) rfl), by decide +kernel, by decide +kernel, by decide +kernel⟩
theorem mt_X11_wrong : q_mt yX11_wrong cX11_wrong 2 (some .int) 1 := ⟨(q_wt4 (i := 71) rfl rfl), (q_wt1 (i := 1) (by decide +kernel) rfl), by decide +kernel, by decide +kernel, by decide +kernel⟩
theorem mt_X12_all : q_mt yX12_all cX12_all 7 (some .int) 2 := ⟨(q_wt9 (i := 35) rfl rfl), (q_wt1 (i := 13) (by decide +kernel) rfl), by decide +kernel, by decide +kernel, by decide +kernel⟩
theorem mt_X12_as : q_mt yX12_as cX12_as 5 (some .int) 2 := ⟨(q_wt8 (i := 205) rfl rfl), (q_wt1 (i := 13) (by decide +kernel) rfl), by decide +kernel, by decide +kernel, by decide +kernel⟩
theorem mt_X12_at : q_mt yX12_at cX12_at 4 (some .int) 2 := ⟨(q_wt9 (i := 78) rfl rfl), (q_wt1 (i := 13) (by decide +kernel) rfl), by decide +kernel, by decide +kernel, by decide +kernel⟩
theorem mt_X12_back : q_mt yX12_back cX12_back 1 (some .int) 0 := ⟨(q_wt9 (i := 153) rfl rfl), (q_wt1 (i := 13) (by decide +kernel) rfl), by decide +kernel, by decide +kernel, by decide +kernel⟩
theorem mt_X12_be : q_mt yX12_be cX12_be 5 (some .int) 3 := ⟨(q_wt7 (i := 163) rfl rfl), (q_wt1 (i := 13) (by decide +kernel) rfl), by decide +kernel, by decide +kernel, by decide +kernel⟩
theorem mt_X12_beside : q_mt yX12_beside cX12_beside 5 (some .int) 2 := ⟨(q_wt8 (i := 235) rfl rfl), (q_wt1 (i := 13) (by decide +kernel) rfl), by decide +kernel, by decide +kernel, by decide +kernel⟩
theorem mt_X12_book : q_mt yX12_book cX12_book 5 (some .int) 3 := ⟨(q_wt9 (i := 7) rfl rfl), (q_wt1 (i := 13) (by decide +kernel) rfl), by decide +kernel, by decide +kernel, by decide +kernel⟩
theorem mt_X12_bound : q_mt yX12_bound cX12_bound 8 (some .int) 3 := ⟨(q_wt8 (i := 231) rfl rfl), (q_wt1 (i := 13) (by decide +kernel) rfl), by decide +kernel, by decide +kernel, by decide +kernel⟩
theorem mt_X12_breach : q_mt yX12_breach cX12_breach 5 (some .int) 3 := ⟨(q_wt9 (i := 63) rfl rfl), (q_wt1 (i := 13) (by decide +kernel) rfl), by decide +kernel, by decide +kernel, by decide +kernel⟩
theorem mt_X12_check : q_mt yX12_check cX12_check 7 (some .int) 3 := ⟨(q_wt9 (i := 128) rfl rfl), (q_wt1 (i := 13) (by decide +kernel) rfl), by decide +kernel, by decide +kernel, by decide +kernel⟩
theorem mt_X12_choice : q_mt yX12_choice cX12_choice 5 (some .int) 3 := ⟨(q_wt9 (i := 99) rfl rfl), (q_wt1 (i := 13) (by decide +kernel) rfl), by decide +kernel, by decide +kernel, by decide +kernel⟩
theorem mt_X12_copy : q_mt yX12_copy cX12_copy 7 (some .int) 5 := ⟨(q_wt9 (i := 31) rfl rfl), (q_wt1 (i := 13) (by decide +kernel) rfl), by decide +kernel, by decide +kernel, by decide +kernel⟩
theorem mt_X12_count : q_mt yX12_count cX12_count 4 (some .int) 1 := ⟨(q_wt9 (i := 157) rfl rfl), (q_wt1 (i := 13) (by decide +kernel) rfl), by decide +kernel, by decide +kernel, by decide +kernel⟩
theorem mt_X12_draw : q_mt yX12_draw cX12_draw 5 (some .int) 3 := ⟨(q_wt8 (i := 158) rfl rfl), (q_wt1 (i := 13) (by decide +kernel) rfl), by decide +kernel, by decide +kernel, by decide +kernel⟩
theorem mt_X12_dug : q_mt yX12_dug cX12_dug 5 (some .int) 2 := ⟨(q_wt7 (i := 97) rfl rfl), (q_wt1 (i := 13) (by decide +kernel) rfl), by decide +kernel, by decide +kernel, by decide +kernel⟩
theorem mt_X12_end : q_mt yX12_end cX12_end 5 (some .int) 4 := ⟨(q_wt9 (i := 39) rfl rfl), (q_wt1 (i := 13) (by decide +kernel) rfl), by decide +kernel, by decide +kernel, by decide +kernel⟩
theorem mt_X12_feed : q_mt yX12_feed cX12_feed 6 (some .int) 3 := ⟨(q_wt8 (i := 54) rfl rfl), (q_wt1 (i := 13) (by decide +kernel) rfl), by decide +kernel, by decide +kernel, by decide +kernel⟩
theorem mt_X12_fine : q_mt yX12_fine cX12_fine 5 (some .int) 3 := ⟨(q_wt8 (i := 176) rfl rfl), (q_wt1 (i := 13) (by decide +kernel) rfl), by decide +kernel, by decide +kernel, by decide +kernel⟩
theorem mt_X12_give : q_mt yX12_give cX12_give 4 (some .int) 1 := ⟨(q_wt8 (i := 217) rfl rfl), (q_wt1 (i := 13) (by decide +kernel) rfl), by decide +kernel, by decide +kernel, by decide +kernel⟩
theorem mt_X12_hear : q_mt yX12_hear cX12_hear 3 (some .int) 2 := ⟨(q_wt7 (i := 172) rfl rfl), (q_wt1 (i := 13) (by decide +kernel) rfl), by decide +kernel, by decide +kernel, by decide +kernel⟩
theorem mt_X12_init : q_mt yX12_init cX12_init 2 none 0 := ⟨(q_wt6 (i := 187) rfl rfl), (q_wt1 (i := 13) (by decide +kernel) rfl), by decide +kernel, by decide +kernel, by decide +kernel⟩
theorem mt_X12_is : q_mt yX12_is cX12_is 3 (some .int) 2 := ⟨(q_wt7 (i := 146) rfl rfl), (q_wt1 (i := 13) (by decide +kernel) rfl), by decide +kernel, by decide +kernel, by decide +kernel⟩
theorem mt_X12_keep : q_mt yX12_keep cX12_keep 1 (some .int) 0 := ⟨(q_wt9 (i := 149) rfl rfl), (q_wt1 (i := 13) (by decide +kernel) rfl), by decide +kernel, by decide +kernel, by decide +kernel⟩
theorem mt_X12_known : q_mt yX12_known cX12_known 5 (some .int) 3 := ⟨(q_wt7 (i := 167) rfl rfl), (q_wt1 (i := 13) (by decide +kernel) rfl), by decide +kernel, by decide +kernel, by decide +kernel⟩
theorem mt_X12_last : q_mt yX12_last cX12_last 3 (some .int) 2 := ⟨(q_wt9 (i := 82) rfl rfl), (q_wt1 (i := 13) (by decide +kernel) rfl), by decide +kernel, by decide +kernel, by decide +kernel⟩
theorem mt_X12_least_ : q_mt yX12_least_ cX12_least_ 3 (some .int) 0 := ⟨(q_wt9 (i := 95) rfl rfl), (q_wt1 (i := 13) (by decide +kernel) rfl), by decide +kernel, by decide +kernel, by decide +kernel⟩
theorem mt_X12_let : q_mt yX12_let cX12_let 3 (some .int) 1 := ⟨(q_wt8 (i := 184) rfl rfl), (q_wt1 (i := 13) (by decide +kernel) rfl), by decide +kernel, by decide +kernel, by decide +kernel⟩
theorem mt_X12_man : q_mt yX12_man cX12_man 7 (some .int) 3 := ⟨(q_wt7 (i := 133) rfl rfl), (q_wt1 (i := 13) (by decide +kernel) rfl), by decide +kernel, by decide +kernel, by decide +kernel⟩
theorem mt_X12_melt : q_mt yX12_melt cX12_melt 4 (some .int) 1 := ⟨(q_wt8 (i := 197) rfl rfl), (q_wt1 (i := 13) (by decide +kernel) rfl), by decide +kernel, by decide +kernel, by decide +kernel⟩
theorem mt_X12_note : q_mt yX12_note cX12_note 4 (some .int) 3 := ⟨(q_wt9 (i := 13) rfl rfl), (q_wt1 (i := 13) (by decide +kernel) rfl), by decide +kernel, by decide +kernel, by decide +kernel⟩
theorem mt_X12_of : q_mt yX12_of cX12_of 3 (some .int) 2 := ⟨(q_wt8 (i := 130) rfl rfl), (q_wt1 (i := 13) (by decide +kernel) rfl), by decide +kernel, by decide +kernel, by decide +kernel⟩
theorem mt_X12_pit : q_mt yX12_pit cX12_pit 4 (some .int) 3 := ⟨(q_wt7 (i := 79) rfl rfl), (q_wt1 (i := 13) (by decide +kernel) rfl), by decide +kernel, by decide +kernel, by decide +kernel⟩
theorem mt_X12_plan : q_mt yX12_plan cX12_plan 4 (some .int) 3 := ⟨(q_wt9 (i := 103) rfl rfl), (q_wt1 (i := 13) (by decide +kernel) rfl), by decide +kernel, by decide +kernel, by decide +kernel⟩
theorem mt_X12_planned : q_mt yX12_planned cX12_planned 5 (some .int) 3 := ⟨(q_wt9 (i := 120) rfl rfl), (q_wt1 (i := 13) (by decide +kernel) rfl), by decide +kernel, by decide +kernel, by decide +kernel⟩
theorem mt_X12_prove : q_mt yX12_prove cX12_prove 6 (some .int) 4 := ⟨(q_wt8 (i := 227) rfl rfl), (q_wt1 (i := 13) (by decide +kernel) rfl), by decide +kernel, by decide +kernel, by decide +kernel⟩
theorem mt_X12_read : q_mt yX12_read cX12_read 4 (some .int) 2 := ⟨(q_wt9 (i := 19) rfl rfl), (q_wt1 (i := 13) (by decide +kernel) rfl), by decide +kernel, by decide +kernel, by decide +kernel⟩
theorem mt_X12_round : q_mt yX12_round cX12_round 3 (some .int) 0 := ⟨(q_wt9 (i := 43) rfl rfl), (q_wt1 (i := 13) (by decide +kernel) rfl), by decide +kernel, by decide +kernel, by decide +kernel⟩
theorem mt_X12_rule : q_mt yX12_rule cX12_rule 3 (some .int) 2 := ⟨(q_wt7 (i := 180) rfl rfl), (q_wt1 (i := 13) (by decide +kernel) rfl), by decide +kernel, by decide +kernel, by decide +kernel⟩
theorem mt_X12_rules : q_mt yX12_rules cX12_rules 5 (some .int) 4 := ⟨(q_wt8 (i := 146) rfl rfl), (q_wt1 (i := 13) (by decide +kernel) rfl), by decide +kernel, by decide +kernel, by decide +kernel⟩
theorem mt_X12_run : q_mt yX12_run cX12_run 3 (some .int) 1 := ⟨(q_wt7 (i := 186) rfl rfl), (q_wt1 (i := 13) (by decide +kernel) rfl), by decide +kernel, by decide +kernel, by decide +kernel⟩
theorem mt_X12_seen : q_mt yX12_seen cX12_seen 2 (some .int) 1 := ⟨(q_wt9 (i := 67) rfl rfl), (q_wt1 (i := 13) (by decide +kernel) rfl), by decide +kernel, by decide +kernel, by decide +kernel⟩
theorem mt_X12_sell : q_mt yX12_sell cX12_sell 6 (some .int) 3 := ⟨(q_wt8 (i := 193) rfl rfl), (q_wt1 (i := 13) (by decide +kernel) rfl), by decide +kernel, by decide +kernel, by decide +kernel⟩
theorem mt_X12_sells : q_mt yX12_sells cX12_sells 3 (some .int) 2 := ⟨(q_wt7 (i := 128) rfl rfl), (q_wt1 (i := 13) (by decide +kernel) rfl), by decide +kernel, by decide +kernel, by decide +kernel⟩
theorem mt_X12_shelf : q_mt yX12_shelf cX12_shelf 5 (some .int) 3 := ⟨(q_wt7 (i := 120) rfl rfl), (q_wt1 (i := 13) (by decide +kernel) rfl), by decide +kernel, by decide +kernel, by decide +kernel⟩
theorem mt_X12_shop : q_mt yX12_shop cX12_shop 6 (some .int) 4 := ⟨(q_wt7 (i := 110) rfl rfl), (q_wt1 (i := 13) (by decide +kernel) rfl), by decide +kernel, by decide +kernel, by decide +kernel⟩
theorem mt_X12_stop : q_mt yX12_stop cX12_stop 5 (some .int) 3 := ⟨(q_wt8 (i := 180) rfl rfl), (q_wt1 (i := 13) (by decide +kernel) rfl), by decide +kernel, by decide +kernel, by decide +kernel⟩
theorem mt_X12_strike : q_mt yX12_strike cX12_strike 5 (some .int) 2 := ⟨(q_wt8 (i := 172) rfl rfl), (q_wt1 (i := 13) (by decide +kernel) rfl), by decide +kernel, by decide +kernel, by decide +kernel⟩
theorem mt_X12_tell : q_mt yX12_tell cX12_tell 2 (some .int) 1 := ⟨(q_wt9 (i := 124) rfl rfl), (q_wt1 (i := 13) (by decide +kernel) rfl), by decide +kernel, by decide +kernel, by decide +kernel⟩
theorem mt_X12_text : q_mt yX12_text cX12_text 5 (some .int) 1 := ⟨(q_wt8 (i := 62) rfl rfl), (q_wt1 (i := 13) (by decide +kernel) rfl), by decide +kernel, by decide +kernel, by decide +kernel⟩
theorem mt_X12_told : q_mt yX12_told cX12_told 4 (some .int) 2 := ⟨(q_wt8 (i := 201) rfl rfl), (q_wt1 (i := 13) (by decide +kernel) rfl), by decide +kernel, by decide +kernel, by decide +kernel⟩
theorem mt_X12_trim : q_mt yX12_trim cX12_trim 2 (some .int) 1 := ⟨(q_wt8 (i := 58) rfl rfl), (q_wt1 (i := 13) (by decide +kernel) rfl), by decide +kernel, by decide +kernel, by decide +kernel⟩
theorem mt_X12_way : q_mt yX12_way cX12_way 4 (some .int) 1 := ⟨(q_wt9 (i := 55) rfl rfl), (q_wt1 (i := 13) (by decide +kernel) rfl), by decide +kernel, by decide +kernel, by decide +kernel⟩
theorem mt_X12_why : q_mt yX12_why cX12_why 2 (some .int) 1 := ⟨(q_wt8 (i := 138) rfl rfl), (q_wt1 (i := 13) (by decide +kernel) rfl), by decide +kernel, by decide +kernel, by decide +kernel⟩
theorem mt_X12_worth : q_mt yX12_worth cX12_worth 7 (some .int) 2 := ⟨(q_wt8 (i := 222) rfl rfl), (q_wt1 (i := 13) (by decide +kernel) rfl), by decide +kernel, by decide +kernel, by decide +kernel⟩
theorem mt_X12_would : q_mt yX12_would cX12_would 6 (some .int) 2 := ⟨(q_wt9 (i := 59) rfl rfl), (q_wt1 (i := 13) (by decide +kernel) rfl), by decide +kernel, by decide +kernel, by decide +kernel⟩
theorem ml_L_9 : Cond.methodLink RL 9 yX11_init ∈ q_tbl := (q_wt1 (i := 24) (by decide +kernel) rfl)
theorem ml_L_12 : Cond.methodLink RL 12 yX12_init ∈ q_tbl := (q_wt6 (i := 185) (by decide +kernel) rfl)
theorem ml_L_13 : Cond.methodLink RL 13 yX11_pit ∈ q_tbl := (q_wt2 (i := 224) (by decide +kernel) rfl)
theorem ml_L_17 : Cond.methodLink RL 17 yX12_pit ∈ q_tbl := (q_wt7 (i := 76) (by decide +kernel) rfl)
theorem ml_L_18 : Cond.methodLink RL 18 yX11_dug ∈ q_tbl := (q_wt3 (i := 2) (by decide +kernel) rfl)
theorem ml_L_22 : Cond.methodLink RL 22 yX12_dug ∈ q_tbl := (q_wt7 (i := 94) (by decide +kernel) rfl)
theorem ml_L_23 : Cond.methodLink RL 23 yX11_shop ∈ q_tbl := (q_wt3 (i := 14) (by decide +kernel) rfl)
theorem ml_L_27 : Cond.methodLink RL 27 yX12_shop ∈ q_tbl := (q_wt7 (i := 107) (by decide +kernel) rfl)
theorem ml_L_28 : Cond.methodLink RL 28 yX11_shelf ∈ q_tbl := (q_wt3 (i := 24) (by decide +kernel) rfl)
theorem ml_L_31 : Cond.methodLink RL 31 yX12_shelf ∈ q_tbl := (q_wt7 (i := 117) (by decide +kernel) rfl)
theorem ml_L_32 : Cond.methodLink RL 32 yX11_sells ∈ q_tbl := (q_wt3 (i := 36) (by decide +kernel) rfl)
theorem ml_L_35 : Cond.methodLink RL 35 yX12_sells ∈ q_tbl := (q_wt7 (i := 125) (by decide +kernel) rfl)
theorem ml_L_36 : Cond.methodLink RL 36 yX11_man ∈ q_tbl := (q_wt3 (i := 40) (by decide +kernel) rfl)
theorem ml_L_39 : Cond.methodLink RL 39 yX12_man ∈ q_tbl := (q_wt7 (i := 130) (by decide +kernel) rfl)
theorem ml_L_40 : Cond.methodLink RL 40 yX11_is ∈ q_tbl := (q_wt3 (i := 67) (by decide +kernel) rfl)
theorem ml_L_43 : Cond.methodLink RL 43 yX12_is ∈ q_tbl := (q_wt7 (i := 143) (by decide +kernel) rfl)
theorem ml_L_44 : Cond.methodLink RL 44 yX11_be ∈ q_tbl := (q_wt3 (i := 87) (by decide +kernel) rfl)
theorem ml_L_47 : Cond.methodLink RL 47 yX12_be ∈ q_tbl := (q_wt7 (i := 160) (by decide +kernel) rfl)
theorem ml_L_48 : Cond.methodLink RL 48 yX11_known ∈ q_tbl := (q_wt3 (i := 91) (by decide +kernel) rfl)
theorem ml_L_51 : Cond.methodLink RL 51 yX12_known ∈ q_tbl := (q_wt7 (i := 164) (by decide +kernel) rfl)
theorem ml_L_52 : Cond.methodLink RL 52 yX11_hear ∈ q_tbl := (q_wt3 (i := 108) (by decide +kernel) rfl)
theorem ml_L_55 : Cond.methodLink RL 55 yX12_hear ∈ q_tbl := (q_wt7 (i := 169) (by decide +kernel) rfl)
theorem ml_L_56 : Cond.methodLink RL 56 yX11_rule ∈ q_tbl := (q_wt3 (i := 116) (by decide +kernel) rfl)
theorem ml_L_59 : Cond.methodLink RL 59 yX12_rule ∈ q_tbl := (q_wt7 (i := 177) (by decide +kernel) rfl)
theorem ml_L_60 : Cond.methodLink RL 60 yX11_run ∈ q_tbl := (q_wt3 (i := 120) (by decide +kernel) rfl)
theorem ml_L_64 : Cond.methodLink RL 64 yX12_run ∈ q_tbl := (q_wt7 (i := 183) (by decide +kernel) rfl)
theorem ml_L_65 : Cond.methodLink RL 65 yX11_draw ∈ q_tbl := (q_wt4 (i := 13) (by decide +kernel) rfl)
theorem ml_L_68 : Cond.methodLink RL 68 yX12_draw ∈ q_tbl := (q_wt8 (i := 155) (by decide +kernel) rfl)
theorem ml_L_69 : Cond.methodLink RL 69 yX11_strike ∈ q_tbl := (q_wt4 (i := 26) (by decide +kernel) rfl)
theorem ml_L_72 : Cond.methodLink RL 72 yX12_strike ∈ q_tbl := (q_wt8 (i := 169) (by decide +kernel) rfl)
theorem ml_L_73 : Cond.methodLink RL 73 yX11_fine ∈ q_tbl := (q_wt4 (i := 30) (by decide +kernel) rfl)
theorem ml_L_76 : Cond.methodLink RL 76 yX12_fine ∈ q_tbl := (q_wt8 (i := 173) (by decide +kernel) rfl)
theorem ml_L_77 : Cond.methodLink RL 77 yX11_stop ∈ q_tbl := (q_wt4 (i := 34) (by decide +kernel) rfl)
theorem ml_L_80 : Cond.methodLink RL 80 yX12_stop ∈ q_tbl := (q_wt8 (i := 177) (by decide +kernel) rfl)
theorem ml_L_81 : Cond.methodLink RL 81 yX11_let ∈ q_tbl := (q_wt4 (i := 38) (by decide +kernel) rfl)
theorem ml_L_84 : Cond.methodLink RL 84 yX12_let ∈ q_tbl := (q_wt8 (i := 181) (by decide +kernel) rfl)
theorem ml_L_85 : Cond.methodLink RL 85 yX11_sell ∈ q_tbl := (q_wt4 (i := 47) (by decide +kernel) rfl)
theorem ml_L_88 : Cond.methodLink RL 88 yX12_sell ∈ q_tbl := (q_wt8 (i := 190) (by decide +kernel) rfl)
theorem ml_L_89 : Cond.methodLink RL 89 yX11_melt ∈ q_tbl := (q_wt4 (i := 51) (by decide +kernel) rfl)
theorem ml_L_92 : Cond.methodLink RL 92 yX12_melt ∈ q_tbl := (q_wt8 (i := 194) (by decide +kernel) rfl)
theorem ml_L_93 : Cond.methodLink RL 93 yX11_told ∈ q_tbl := (q_wt4 (i := 55) (by decide +kernel) rfl)
theorem ml_L_96 : Cond.methodLink RL 96 yX12_told ∈ q_tbl := (q_wt8 (i := 198) (by decide +kernel) rfl)
theorem ml_L_97 : Cond.methodLink RL 97 yX11_as ∈ q_tbl := (q_wt4 (i := 63) (by decide +kernel) rfl)
theorem ml_L_100 : Cond.methodLink RL 100 yX12_as ∈ q_tbl := (q_wt8 (i := 202) (by decide +kernel) rfl)
theorem ml_L_101 : Cond.methodLink RL 101 yX11_wrong ∈ q_tbl := (q_wt4 (i := 68) (by decide +kernel) rfl)
theorem ml_L_104 : Cond.methodLink RL 104 yX12_wrong ∈ q_tbl := (q_wt8 (i := 206) (by decide +kernel) rfl)
theorem ml_L_105 : Cond.methodLink RL 105 yX11_give ∈ q_tbl := (q_wt4 (i := 80) (by decide +kernel) rfl)
theorem ml_L_108 : Cond.methodLink RL 108 yX12_give ∈ q_tbl := (q_wt8 (i := 214) (by decide +kernel) rfl)
theorem ml_L_109 : Cond.methodLink RL 109 yX11_worth ∈ q_tbl := (q_wt4 (i := 84) (by decide +kernel) rfl)
theorem ml_L_112 : Cond.methodLink RL 112 yX12_worth ∈ q_tbl := (q_wt8 (i := 219) (by decide +kernel) rfl)
theorem ml_L_113 : Cond.methodLink RL 113 yX11_prove ∈ q_tbl := (q_wt4 (i := 102) (by decide +kernel) rfl)
theorem ml_L_116 : Cond.methodLink RL 116 yX12_prove ∈ q_tbl := (q_wt8 (i := 224) (by decide +kernel) rfl)
theorem ml_L_117 : Cond.methodLink RL 117 yX11_bound ∈ q_tbl := (q_wt4 (i := 107) (by decide +kernel) rfl)
theorem ml_L_120 : Cond.methodLink RL 120 yX12_bound ∈ q_tbl := (q_wt8 (i := 228) (by decide +kernel) rfl)
theorem ml_L_121 : Cond.methodLink RL 121 yX11_beside ∈ q_tbl := (q_wt4 (i := 120) (by decide +kernel) rfl)
theorem ml_L_124 : Cond.methodLink RL 124 yX12_beside ∈ q_tbl := (q_wt8 (i := 232) (by decide +kernel) rfl)
theorem ml_L_125 : Cond.methodLink RL 125 yX11_feed ∈ q_tbl := (q_wt4 (i := 185) (by decide +kernel) rfl)
theorem ml_L_128 : Cond.methodLink RL 128 yX12_feed ∈ q_tbl := (q_wt8 (i := 51) (by decide +kernel) rfl)
theorem ml_L_129 : Cond.methodLink RL 129 yX11_trim ∈ q_tbl := (q_wt4 (i := 193) (by decide +kernel) rfl)
theorem ml_L_132 : Cond.methodLink RL 132 yX12_trim ∈ q_tbl := (q_wt8 (i := 55) (by decide +kernel) rfl)
theorem ml_L_133 : Cond.methodLink RL 133 yX11_text ∈ q_tbl := (q_wt4 (i := 197) (by decide +kernel) rfl)
theorem ml_L_136 : Cond.methodLink RL 136 yX12_text ∈ q_tbl := (q_wt8 (i := 59) (by decide +kernel) rfl)
theorem ml_L_137 : Cond.methodLink RL 137 yX11_of ∈ q_tbl := (q_wt5 (i := 149) (by decide +kernel) rfl)
theorem ml_L_140 : Cond.methodLink RL 140 yX12_of ∈ q_tbl := (q_wt8 (i := 127) (by decide +kernel) rfl)
theorem ml_L_141 : Cond.methodLink RL 141 yX11_why ∈ q_tbl := (q_wt5 (i := 161) (by decide +kernel) rfl)
theorem ml_L_144 : Cond.methodLink RL 144 yX12_why ∈ q_tbl := (q_wt8 (i := 135) (by decide +kernel) rfl)
theorem ml_L_145 : Cond.methodLink RL 145 yX11_rules ∈ q_tbl := (q_wt5 (i := 166) (by decide +kernel) rfl)
theorem ml_L_148 : Cond.methodLink RL 148 yX12_rules ∈ q_tbl := (q_wt8 (i := 143) (by decide +kernel) rfl)
theorem ml_L_149 : Cond.methodLink RL 149 yX11_book ∈ q_tbl := (q_wt5 (i := 171) (by decide +kernel) rfl)
theorem ml_L_152 : Cond.methodLink RL 152 yX12_book ∈ q_tbl := (q_wt9 (i := 4) (by decide +kernel) rfl)
theorem ml_L_153 : Cond.methodLink RL 153 yX11_note ∈ q_tbl := (q_wt5 (i := 183) (by decide +kernel) rfl)
theorem ml_L_156 : Cond.methodLink RL 156 yX12_note ∈ q_tbl := (q_wt9 (i := 10) (by decide +kernel) rfl)
theorem ml_L_157 : Cond.methodLink RL 157 yX11_read ∈ q_tbl := (q_wt5 (i := 205) (by decide +kernel) rfl)
theorem ml_L_160 : Cond.methodLink RL 160 yX12_read ∈ q_tbl := (q_wt9 (i := 16) (by decide +kernel) rfl)
theorem ml_L_161 : Cond.methodLink RL 161 yX11_copy ∈ q_tbl := (q_wt5 (i := 216) (by decide +kernel) rfl)
theorem ml_L_165 : Cond.methodLink RL 165 yX12_copy ∈ q_tbl := (q_wt9 (i := 28) (by decide +kernel) rfl)
theorem ml_L_166 : Cond.methodLink RL 166 yX11_all ∈ q_tbl := (q_wt5 (i := 226) (by decide +kernel) rfl)
theorem ml_L_169 : Cond.methodLink RL 169 yX12_all ∈ q_tbl := (q_wt9 (i := 32) (by decide +kernel) rfl)
theorem ml_L_170 : Cond.methodLink RL 170 yX11_end ∈ q_tbl := (q_wt5 (i := 230) (by decide +kernel) rfl)
theorem ml_L_173 : Cond.methodLink RL 173 yX12_end ∈ q_tbl := (q_wt9 (i := 36) (by decide +kernel) rfl)
theorem ml_L_174 : Cond.methodLink RL 174 yX11_round ∈ q_tbl := (q_wt5 (i := 237) (by decide +kernel) rfl)
theorem ml_L_178 : Cond.methodLink RL 178 yX12_round ∈ q_tbl := (q_wt9 (i := 40) (by decide +kernel) rfl)
theorem ml_L_179 : Cond.methodLink RL 179 yX11_way ∈ q_tbl := (q_wt6 (i := 19) (by decide +kernel) rfl)
theorem ml_L_182 : Cond.methodLink RL 182 yX12_way ∈ q_tbl := (q_wt9 (i := 52) (by decide +kernel) rfl)
theorem ml_L_183 : Cond.methodLink RL 183 yX11_would ∈ q_tbl := (q_wt6 (i := 27) (by decide +kernel) rfl)
theorem ml_L_186 : Cond.methodLink RL 186 yX12_would ∈ q_tbl := (q_wt9 (i := 56) (by decide +kernel) rfl)
theorem ml_L_187 : Cond.methodLink RL 187 yX11_breach ∈ q_tbl := (q_wt6 (i := 43) (by decide +kernel) rfl)
theorem ml_L_190 : Cond.methodLink RL 190 yX12_breach ∈ q_tbl := (q_wt9 (i := 60) (by decide +kernel) rfl)
theorem ml_L_191 : Cond.methodLink RL 191 yX11_seen ∈ q_tbl := (q_wt6 (i := 52) (by decide +kernel) rfl)
theorem ml_L_194 : Cond.methodLink RL 194 yX12_seen ∈ q_tbl := (q_wt9 (i := 64) (by decide +kernel) rfl)
theorem ml_L_195 : Cond.methodLink RL 195 yX11_at ∈ q_tbl := (q_wt6 (i := 70) (by decide +kernel) rfl)
theorem ml_L_198 : Cond.methodLink RL 198 yX12_at ∈ q_tbl := (q_wt9 (i := 75) (by decide +kernel) rfl)
theorem ml_L_199 : Cond.methodLink RL 199 yX11_last ∈ q_tbl := (q_wt6 (i := 74) (by decide +kernel) rfl)
theorem ml_L_202 : Cond.methodLink RL 202 yX12_last ∈ q_tbl := (q_wt9 (i := 79) (by decide +kernel) rfl)
theorem ml_L_203 : Cond.methodLink RL 203 yX11_least ∈ q_tbl := (q_wt6 (i := 91) (by decide +kernel) rfl)
theorem ml_L_206 : Cond.methodLink RL 206 yX12_least_ ∈ q_tbl := (q_wt9 (i := 92) (by decide +kernel) rfl)
theorem ml_L_207 : Cond.methodLink RL 207 yX11_choice ∈ q_tbl := (q_wt6 (i := 102) (by decide +kernel) rfl)
theorem ml_L_210 : Cond.methodLink RL 210 yX12_choice ∈ q_tbl := (q_wt9 (i := 96) (by decide +kernel) rfl)
theorem ml_L_211 : Cond.methodLink RL 211 yX11_plan ∈ q_tbl := (q_wt6 (i := 111) (by decide +kernel) rfl)
theorem ml_L_214 : Cond.methodLink RL 214 yX12_plan ∈ q_tbl := (q_wt9 (i := 100) (by decide +kernel) rfl)
theorem ml_L_215 : Cond.methodLink RL 215 yX11_planned ∈ q_tbl := (q_wt6 (i := 135) (by decide +kernel) rfl)
theorem ml_L_218 : Cond.methodLink RL 218 yX12_planned ∈ q_tbl := (q_wt9 (i := 117) (by decide +kernel) rfl)
theorem ml_L_219 : Cond.methodLink RL 219 yX11_tell ∈ q_tbl := (q_wt6 (i := 139) (by decide +kernel) rfl)
theorem ml_L_222 : Cond.methodLink RL 222 yX12_tell ∈ q_tbl := (q_wt9 (i := 121) (by decide +kernel) rfl)
theorem ml_L_223 : Cond.methodLink RL 223 yX11_check ∈ q_tbl := (q_wt6 (i := 143) (by decide +kernel) rfl)
theorem ml_L_226 : Cond.methodLink RL 226 yX12_check ∈ q_tbl := (q_wt9 (i := 125) (by decide +kernel) rfl)
theorem ml_L_227 : Cond.methodLink RL 227 yX11_keep ∈ q_tbl := (q_wt6 (i := 163) (by decide +kernel) rfl)
theorem ml_L_230 : Cond.methodLink RL 230 yX12_keep ∈ q_tbl := (q_wt9 (i := 146) (by decide +kernel) rfl)
theorem ml_L_231 : Cond.methodLink RL 231 yX11_back ∈ q_tbl := (q_wt6 (i := 167) (by decide +kernel) rfl)
theorem ml_L_234 : Cond.methodLink RL 234 yX12_back ∈ q_tbl := (q_wt9 (i := 150) (by decide +kernel) rfl)
theorem ml_L_235 : Cond.methodLink RL 235 yX11_count ∈ q_tbl := (q_wt6 (i := 171) (by decide +kernel) rfl)
theorem ml_L_238 : Cond.methodLink RL 238 yX12_count ∈ q_tbl := (q_wt9 (i := 154) (by decide +kernel) rfl)
theorem mv_X11_all : Cond.instanceMethod yX11_all ∈ q_tbl ∧ Cond.selects yX11_all.cls yX11_all yX11_all ∈ q_tbl ∧ ∃ T : u_T, vwCl[11]? = some (yX11_all.cls, T, 9) := ⟨(q_wt5 (i := 227) (by decide +kernel) rfl), (q_wt5 (i := 228) (by decide +kernel) rfl), _, rfl⟩
theorem mv_X11_as : Cond.instanceMethod yX11_as ∈ q_tbl ∧ Cond.selects yX11_as.cls yX11_as yX11_as ∈ q_tbl ∧ ∃ T : u_T, vwCl[11]? = some (yX11_as.cls, T, 9) := ⟨(q_wt4 (i := 64) (by decide +kernel) rfl), (q_wt4 (i := 65) (by decide +kernel) rfl), _, rfl⟩
theorem mv_X11_at : Cond.instanceMethod yX11_at ∈ q_tbl ∧ Cond.selects yX11_at.cls yX11_at yX11_at ∈ q_tbl ∧ ∃ T : u_T, vwCl[11]? = some (yX11_at.cls, T, 9) := ⟨(q_wt6 (i := 71) (by decide +kernel) rfl), (q_wt6 (i := 72) (by decide +kernel) rfl), _, rfl⟩
theorem mv_X11_back : Cond.instanceMethod yX11_back ∈ q_tbl ∧ Cond.selects yX11_back.cls yX11_back yX11_back ∈ q_tbl ∧ ∃ T : u_T, vwCl[11]? = some (yX11_back.cls, T, 9) := ⟨(q_wt6 (i := 168) (by decide +kernel) rfl), (q_wt6 (i := 169) (by decide +kernel) rfl), _, rfl⟩
theorem mv_X11_be : Cond.instanceMethod yX11_be ∈ q_tbl ∧ Cond.selects yX11_be.cls yX11_be yX11_be ∈ q_tbl ∧ ∃ T : u_T, vwCl[11]? = some (yX11_be.cls, T, 9) := ⟨(q_wt3 (i := 88) (by decide +kernel) rfl), (q_wt3 (i := 89) (by decide +kernel) rfl), _, rfl⟩
theorem mv_X11_beside : Cond.instanceMethod yX11_beside ∈ q_tbl ∧ Cond.selects yX11_beside.cls yX11_beside yX11_beside ∈ q_tbl ∧ ∃ T : u_T, vwCl[11]? = some (yX11_beside.cls, T, 9) := ⟨(q_wt4 (i := 121) (by decide +kernel) rfl), (q_wt4 (i := 122) (by decide +kernel) rfl), _, rfl⟩
theorem mv_X11_book : Cond.instanceMethod yX11_book ∈ q_tbl ∧ Cond.selects yX11_book.cls yX11_book yX11_book ∈ q_tbl ∧ ∃ T : u_T, vwCl[11]? = some (yX11_book.cls, T, 9) := ⟨(q_wt5 (i := 172) (by decide +kernel) rfl), (q_wt5 (i := 173) (by decide +kernel) rfl), _, rfl⟩
theorem mv_X11_bound : Cond.instanceMethod yX11_bound ∈ q_tbl ∧ Cond.selects yX11_bound.cls yX11_bound yX11_bound ∈ q_tbl ∧ ∃ T : u_T, vwCl[11]? = some (yX11_bound.cls, T, 9) := ⟨(q_wt4 (i := 108) (by decide +kernel) rfl), (q_wt4 (i := 109) (by decide +kernel) rfl), _, rfl⟩
theorem mv_X11_breach : Cond.instanceMethod yX11_breach ∈ q_tbl ∧ Cond.selects yX11_breach.cls yX11_breach yX11_breach ∈ q_tbl ∧ ∃ T : u_T, vwCl[11]? = some (yX11_breach.cls, T, 9) := ⟨(q_wt6 (i := 44) (by decide +kernel) rfl), (q_wt6 (i := 45) (by decide +kernel) rfl), _, rfl⟩
theorem mv_X11_check : Cond.instanceMethod yX11_check ∈ q_tbl ∧ Cond.selects yX11_check.cls yX11_check yX11_check ∈ q_tbl ∧ ∃ T : u_T, vwCl[11]? = some (yX11_check.cls, T, 9) := ⟨(q_wt6 (i := 144) (by decide +kernel) rfl), (q_wt6 (i := 145) (by decide +kernel) rfl), _, rfl⟩
theorem mv_X11_choice : Cond.instanceMethod yX11_choice ∈ q_tbl ∧ Cond.selects yX11_choice.cls yX11_choice yX11_choice ∈ q_tbl ∧ ∃ T : u_T, vwCl[11]? = some (yX11_choice.cls, T, 9) := ⟨(q_wt6 (i := 103) (by decide +kernel) rfl), (q_wt6 (i := 104) (by decide +kernel) rfl), _, rfl⟩
theorem mv_X11_copy : Cond.instanceMethod yX11_copy ∈ q_tbl ∧ Cond.selects yX11_copy.cls yX11_copy yX11_copy ∈ q_tbl ∧ ∃ T : u_T, vwCl[11]? = some (yX11_copy.cls, T, 9) := ⟨(q_wt5 (i := 217) (by decide +kernel) rfl), (q_wt5 (i := 218) (by decide +kernel) rfl), _, rfl⟩
theorem mv_X11_count : Cond.instanceMethod yX11_count ∈ q_tbl ∧ Cond.selects yX11_count.cls yX11_count yX11_count ∈ q_tbl ∧ ∃ T : u_T, vwCl[11]? = some (yX11_count.cls, T, 9) := ⟨(q_wt6 (i := 172) (by decide +kernel) rfl), (q_wt6 (i := 173) (by decide +kernel) rfl), _, rfl⟩
theorem mv_X11_draw : Cond.instanceMethod yX11_draw ∈ q_tbl ∧ Cond.selects yX11_draw.cls yX11_draw yX11_draw ∈ q_tbl ∧ ∃ T : u_T, vwCl[11]? = some (yX11_draw.cls, T, 9) := ⟨(q_wt4 (i := 14) (by decide +kernel) rfl), (q_wt4 (i := 15) (by decide +kernel) rfl), _, rfl⟩
theorem mv_X11_dug : Cond.instanceMethod yX11_dug ∈ q_tbl ∧ Cond.selects yX11_dug.cls yX11_dug yX11_dug ∈ q_tbl ∧ ∃ T : u_T, vwCl[11]? = some (yX11_dug.cls, T, 9) := ⟨(q_wt3 (i := 3) (by decide +kernel) rfl), (q_wt3 (i := 4) (by decide +kernel) rfl), _, rfl⟩
theorem mv_X11_end : Cond.instanceMethod yX11_end ∈ q_tbl ∧ Cond.selects yX11_end.cls yX11_end yX11_end ∈ q_tbl ∧ ∃ T : u_T, vwCl[11]? = some (yX11_end.cls, T, 9) := ⟨(q_wt5 (i := 231) (by decide +kernel) rfl), (q_wt5 (i := 232) (by decide +kernel) rfl), _, rfl⟩
theorem mv_X11_feed : Cond.instanceMethod yX11_feed ∈ q_tbl ∧ Cond.selects yX11_feed.cls yX11_feed yX11_feed ∈ q_tbl ∧ ∃ T : u_T, vwCl[11]? = some (yX11_feed.cls, T, 9) := ⟨(q_wt4 (i := 186) (by decide +kernel) rfl), (q_wt4 (i := 187) (by decide +kernel) rfl), _, rfl⟩
theorem mv_X11_fine : Cond.instanceMethod yX11_fine ∈ q_tbl ∧ Cond.selects yX11_fine.cls yX11_fine yX11_fine ∈ q_tbl ∧ ∃ T : u_T, vwCl[11]? = some (yX11_fine.cls, T, 9) := ⟨(q_wt4 (i := 31) (by decide +kernel) rfl), (q_wt4 (i := 32) (by decide +kernel) rfl), _, rfl⟩
theorem mv_X11_give : Cond.instanceMethod yX11_give ∈ q_tbl ∧ Cond.selects yX11_give.cls yX11_give yX11_give ∈ q_tbl ∧ ∃ T : u_T, vwCl[11]? = some (yX11_give.cls, T, 9) := ⟨(q_wt4 (i := 81) (by decide +kernel) rfl), (q_wt4 (i := 82) (by decide +kernel) rfl), _, rfl⟩
theorem mv_X11_hear : Cond.instanceMethod yX11_hear ∈ q_tbl ∧ Cond.selects yX11_hear.cls yX11_hear yX11_hear ∈ q_tbl ∧ ∃ T : u_T, vwCl[11]? = some (yX11_hear.cls, T, 9) := ⟨(q_wt3 (i := 109) (by decide +kernel) rfl), (q_wt3 (i := 110) (by decide +kernel) rfl), _, rfl⟩
theorem mv_X11_is : Cond.instanceMethod yX11_is ∈ q_tbl ∧ Cond.selects yX11_is.cls yX11_is yX11_is ∈ q_tbl ∧ ∃ T : u_T, vwCl[11]? = some (yX11_is.cls, T, 9) := ⟨(q_wt3 (i := 68) (by decide +kernel) rfl), (q_wt3 (i := 69) (by decide +kernel) rfl), _, rfl⟩
theorem mv_X11_keep : Cond.instanceMethod yX11_keep ∈ q_tbl ∧ Cond.selects yX11_keep.cls yX11_keep yX11_keep ∈ q_tbl ∧ ∃ T : u_T, vwCl[11]? = some (yX11_keep.cls, T, 9) := ⟨(q_wt6 (i := 164) (by decide +kernel) rfl), (q_wt6 (i := 165) (by decide +kernel) rfl), _, rfl⟩
theorem mv_X11_known : Cond.instanceMethod yX11_known ∈ q_tbl ∧ Cond.selects yX11_known.cls yX11_known yX11_known ∈ q_tbl ∧ ∃ T : u_T, vwCl[11]? = some (yX11_known.cls, T, 9) := ⟨(q_wt3 (i := 92) (by decide +kernel) rfl), (q_wt3 (i := 93) (by decide +kernel) rfl), _, rfl⟩
theorem mv_X11_last : Cond.instanceMethod yX11_last ∈ q_tbl ∧ Cond.selects yX11_last.cls yX11_last yX11_last ∈ q_tbl ∧ ∃ T : u_T, vwCl[11]? = some (yX11_last.cls, T, 9) := ⟨(q_wt6 (i := 75) (by decide +kernel) rfl), (q_wt6 (i := 76) (by decide +kernel) rfl), _, rfl⟩
theorem mv_X11_least : Cond.instanceMethod yX11_least ∈ q_tbl ∧ Cond.selects yX11_least.cls yX11_least yX11_least ∈ q_tbl ∧ ∃ T : u_T, vwCl[11]? = some (yX11_least.cls, T, 9) := ⟨(q_wt6 (i := 92) (by decide +kernel) rfl), (q_wt6 (i := 93) (by decide +kernel) rfl), _, rfl⟩
theorem mv_X11_let : Cond.instanceMethod yX11_let ∈ q_tbl ∧ Cond.selects yX11_let.cls yX11_let yX11_let ∈ q_tbl ∧ ∃ T : u_T, vwCl[11]? = some (yX11_let.cls, T, 9) := ⟨(q_wt4 (i := 39) (by decide +kernel) rfl), (q_wt4 (i := 40) (by decide +kernel) rfl), _, rfl⟩
theorem mv_X11_man : Cond.instanceMethod yX11_man ∈ q_tbl ∧ Cond.selects yX11_man.cls yX11_man yX11_man ∈ q_tbl ∧ ∃ T : u_T, vwCl[11]? = some (yX11_man.cls, T, 9) := ⟨(q_wt3 (i := 41) (by decide +kernel) rfl), (q_wt3 (i := 42) (by decide +kernel) rfl), _, rfl⟩
theorem mv_X11_melt : Cond.instanceMethod yX11_melt ∈ q_tbl ∧ Cond.selects yX11_melt.cls yX11_melt yX11_melt ∈ q_tbl ∧ ∃ T : u_T, vwCl[11]? = some (yX11_melt.cls, T, 9) := ⟨(q_wt4 (i := 52) (by decide +kernel) rfl), (q_wt4 (i := 53) (by decide +kernel) rfl), _, rfl⟩
theorem mv_X11_note : Cond.instanceMethod yX11_note ∈ q_tbl ∧ Cond.selects yX11_note.cls yX11_note yX11_note ∈ q_tbl ∧ ∃ T : u_T, vwCl[11]? = some (yX11_note.cls, T, 9) := ⟨(q_wt5 (i := 184) (by decide +kernel) rfl), (q_wt5 (i := 185) (by decide +kernel) rfl), _, rfl⟩
theorem mv_X11_of : Cond.instanceMethod yX11_of ∈ q_tbl ∧ Cond.selects yX11_of.cls yX11_of yX11_of ∈ q_tbl ∧ ∃ T : u_T, vwCl[11]? = some (yX11_of.cls, T, 9) := ⟨(q_wt5 (i := 150) (by decide +kernel) rfl), (q_wt5 (i := 151) (by decide +kernel) rfl), _, rfl⟩
theorem mv_X11_pit : Cond.instanceMethod yX11_pit ∈ q_tbl ∧ Cond.selects yX11_pit.cls yX11_pit yX11_pit ∈ q_tbl ∧ ∃ T : u_T, vwCl[11]? = some (yX11_pit.cls, T, 9) := ⟨(q_wt2 (i := 225) (by decide +kernel) rfl), (q_wt2 (i := 226) (by decide +kernel) rfl), _, rfl⟩
theorem mv_X11_plan : Cond.instanceMethod yX11_plan ∈ q_tbl ∧ Cond.selects yX11_plan.cls yX11_plan yX11_plan ∈ q_tbl ∧ ∃ T : u_T, vwCl[11]? = some (yX11_plan.cls, T, 9) := ⟨(q_wt6 (i := 112) (by decide +kernel) rfl), (q_wt6 (i := 113) (by decide +kernel) rfl), _, rfl⟩
theorem mv_X11_planned : Cond.instanceMethod yX11_planned ∈ q_tbl ∧ Cond.selects yX11_planned.cls yX11_planned yX11_planned ∈ q_tbl ∧ ∃ T : u_T, vwCl[11]? = some (yX11_planned.cls, T, 9) := ⟨(q_wt6 (i := 136) (by decide +kernel) rfl), (q_wt6 (i := 137) (by decide +kernel) rfl), _, rfl⟩
theorem mv_X11_prove : Cond.instanceMethod yX11_prove ∈ q_tbl ∧ Cond.selects yX11_prove.cls yX11_prove yX11_prove ∈ q_tbl ∧ ∃ T : u_T, vwCl[11]? = some (yX11_prove.cls, T, 9) := ⟨(q_wt4 (i := 103) (by decide +kernel) rfl), (q_wt4 (i := 104) (by decide +kernel) rfl), _, rfl⟩
theorem mv_X11_read : Cond.instanceMethod yX11_read ∈ q_tbl ∧ Cond.selects yX11_read.cls yX11_read yX11_read ∈ q_tbl ∧ ∃ T : u_T, vwCl[11]? = some (yX11_read.cls, T, 9) := ⟨(q_wt5 (i := 206) (by decide +kernel) rfl), (q_wt5 (i := 207) (by decide +kernel) rfl), _, rfl⟩
theorem mv_X11_round : Cond.instanceMethod yX11_round ∈ q_tbl ∧ Cond.selects yX11_round.cls yX11_round yX11_round ∈ q_tbl ∧ ∃ T : u_T, vwCl[11]? = some (yX11_round.cls, T, 9) := ⟨(q_wt5 (i := 238) (by decide +kernel) rfl), (q_wt5 (i := 239) (by decide +kernel) rfl), _, rfl⟩
theorem mv_X11_rule : Cond.instanceMethod yX11_rule ∈ q_tbl ∧ Cond.selects yX11_rule.cls yX11_rule yX11_rule ∈ q_tbl ∧ ∃ T : u_T, vwCl[11]? = some (yX11_rule.cls, T, 9) := ⟨(q_wt3 (i := 117) (by decide +kernel) rfl), (q_wt3 (i := 118) (by decide +kernel) rfl), _, rfl⟩
theorem mv_X11_rules : Cond.instanceMethod yX11_rules ∈ q_tbl ∧ Cond.selects yX11_rules.cls yX11_rules yX11_rules ∈ q_tbl ∧ ∃ T : u_T, vwCl[11]? = some (yX11_rules.cls, T, 9) := ⟨(q_wt5 (i := 167) (by decide +kernel) rfl), (q_wt5 (i := 168) (by decide +kernel) rfl), _, rfl⟩
theorem mv_X11_run : Cond.instanceMethod yX11_run ∈ q_tbl ∧ Cond.selects yX11_run.cls yX11_run yX11_run ∈ q_tbl ∧ ∃ T : u_T, vwCl[11]? = some (yX11_run.cls, T, 9) := ⟨(q_wt3 (i := 121) (by decide +kernel) rfl), (q_wt3 (i := 122) (by decide +kernel) rfl), _, rfl⟩
theorem mv_X11_seen : Cond.instanceMethod yX11_seen ∈ q_tbl ∧ Cond.selects yX11_seen.cls yX11_seen yX11_seen ∈ q_tbl ∧ ∃ T : u_T, vwCl[11]? = some (yX11_seen.cls, T, 9) := ⟨(q_wt6 (i := 53) (by decide +kernel) rfl), (q_wt6 (i := 54) (by decide +kernel) rfl), _, rfl⟩
theorem mv_X11_sell : Cond.instanceMethod yX11_sell ∈ q_tbl ∧ Cond.selects yX11_sell.cls yX11_sell yX11_sell ∈ q_tbl ∧ ∃ T : u_T, vwCl[11]? = some (yX11_sell.cls, T, 9) := ⟨(q_wt4 (i := 48) (by decide +kernel) rfl), (q_wt4 (i := 49) (by decide +kernel) rfl), _, rfl⟩
theorem mv_X11_sells : Cond.instanceMethod yX11_sells ∈ q_tbl ∧ Cond.selects yX11_sells.cls yX11_sells yX11_sells ∈ q_tbl ∧ ∃ T : u_T, vwCl[11]? = some (yX11_sells.cls, T, 9) := ⟨(q_wt3 (i := 37) (by decide +kernel) rfl), (q_wt3 (i := 38) (by decide +kernel) rfl), _, rfl⟩
theorem mv_X11_shelf : Cond.instanceMethod yX11_shelf ∈ q_tbl ∧ Cond.selects yX11_shelf.cls yX11_shelf yX11_shelf ∈ q_tbl ∧ ∃ T : u_T, vwCl[11]? = some (yX11_shelf.cls, T, 9) := ⟨(q_wt3 (i := 25) (by decide +kernel) rfl), (q_wt3 (i := 26) (by decide +kernel) rfl), _, rfl⟩
theorem mv_X11_shop : Cond.instanceMethod yX11_shop ∈ q_tbl ∧ Cond.selects yX11_shop.cls yX11_shop yX11_shop ∈ q_tbl ∧ ∃ T : u_T, vwCl[11]? = some (yX11_shop.cls, T, 9) := ⟨(q_wt3 (i := 15) (by decide +kernel) rfl), (q_wt3 (i := 16) (by decide +kernel) rfl), _, rfl⟩
theorem mv_X11_stop : Cond.instanceMethod yX11_stop ∈ q_tbl ∧ Cond.selects yX11_stop.cls yX11_stop yX11_stop ∈ q_tbl ∧ ∃ T : u_T, vwCl[11]? = some (yX11_stop.cls, T, 9) := ⟨(q_wt4 (i := 35) (by decide +kernel) rfl), (q_wt4 (i := 36) (by decide +kernel) rfl), _, rfl⟩
theorem mv_X11_strike : Cond.instanceMethod yX11_strike ∈ q_tbl ∧ Cond.selects yX11_strike.cls yX11_strike yX11_strike ∈ q_tbl ∧ ∃ T : u_T, vwCl[11]? = some (yX11_strike.cls, T, 9) := ⟨(q_wt4 (i := 27) (by decide +kernel) rfl), (q_wt4 (i := 28) (by decide +kernel) rfl), _, rfl⟩
theorem mv_X11_tell : Cond.instanceMethod yX11_tell ∈ q_tbl ∧ Cond.selects yX11_tell.cls yX11_tell yX11_tell ∈ q_tbl ∧ ∃ T : u_T, vwCl[11]? = some (yX11_tell.cls, T, 9) := ⟨(q_wt6 (i := 140) (by decide +kernel) rfl), (q_wt6 (i := 141) (by decide +kernel) rfl), _, rfl⟩
theorem mv_X11_text : Cond.instanceMethod yX11_text ∈ q_tbl ∧ Cond.selects yX11_text.cls yX11_text yX11_text ∈ q_tbl ∧ ∃ T : u_T, vwCl[11]? = some (yX11_text.cls, T, 9) := ⟨(q_wt4 (i := 198) (by decide +kernel) rfl), (q_wt4 (i := 199) (by decide +kernel) rfl), _, rfl⟩
theorem mv_X11_told : Cond.instanceMethod yX11_told ∈ q_tbl ∧ Cond.selects yX11_told.cls yX11_told yX11_told ∈ q_tbl ∧ ∃ T : u_T, vwCl[11]? = some (yX11_told.cls, T, 9) := ⟨(q_wt4 (i := 56) (by decide +kernel) rfl), (q_wt4 (i := 57) (by decide +kernel) rfl), _, rfl⟩
theorem mv_X11_trim : Cond.instanceMethod yX11_trim ∈ q_tbl ∧ Cond.selects yX11_trim.cls yX11_trim yX11_trim ∈ q_tbl ∧ ∃ T : u_T, vwCl[11]? = some (yX11_trim.cls, T, 9) := ⟨(q_wt4 (i := 194) (by decide +kernel) rfl), (q_wt4 (i := 195) (by decide +kernel) rfl), _, rfl⟩
theorem mv_X11_way : Cond.instanceMethod yX11_way ∈ q_tbl ∧ Cond.selects yX11_way.cls yX11_way yX11_way ∈ q_tbl ∧ ∃ T : u_T, vwCl[11]? = some (yX11_way.cls, T, 9) := ⟨(q_wt6 (i := 20) (by decide +kernel) rfl), (q_wt6 (i := 21) (by decide +kernel) rfl), _, rfl⟩
theorem mv_X11_why : Cond.instanceMethod yX11_why ∈ q_tbl ∧ Cond.selects yX11_why.cls yX11_why yX11_why ∈ q_tbl ∧ ∃ T : u_T, vwCl[11]? = some (yX11_why.cls, T, 9) := ⟨(q_wt5 (i := 162) (by decide +kernel) rfl), (q_wt5 (i := 163) (by decide +kernel) rfl), _, rfl⟩
theorem mv_X11_worth : Cond.instanceMethod yX11_worth ∈ q_tbl ∧ Cond.selects yX11_worth.cls yX11_worth yX11_worth ∈ q_tbl ∧ ∃ T : u_T, vwCl[11]? = some (yX11_worth.cls, T, 9) := ⟨(q_wt4 (i := 85) (by decide +kernel) rfl), (q_wt4 (i := 86) (by decide +kernel) rfl), _, rfl⟩
theorem mv_X11_would : Cond.instanceMethod yX11_would ∈ q_tbl ∧ Cond.selects yX11_would.cls yX11_would yX11_would ∈ q_tbl ∧ ∃ T : u_T, vwCl[11]? = some (yX11_would.cls, T, 9) := ⟨(q_wt6 (i := 28) (by decide +kernel) rfl), (q_wt6 (i := 29) (by decide +kernel) rfl), _, rfl⟩
theorem mv_X11_wrong : Cond.instanceMethod yX11_wrong ∈ q_tbl ∧ Cond.selects yX11_wrong.cls yX11_wrong yX11_wrong ∈ q_tbl ∧ ∃ T : u_T, vwCl[11]? = some (yX11_wrong.cls, T, 9) := ⟨(q_wt4 (i := 69) (by decide +kernel) rfl), (q_wt4 (i := 70) (by decide +kernel) rfl), _, rfl⟩
theorem mv_X12_all : Cond.instanceMethod yX12_all ∈ q_tbl ∧ Cond.selects yX12_all.cls yX12_all yX12_all ∈ q_tbl ∧ ∃ T : u_T, vwCl[12]? = some (yX12_all.cls, T, 42) := ⟨(q_wt9 (i := 33) (by decide +kernel) rfl), (q_wt9 (i := 34) (by decide +kernel) rfl), _, rfl⟩
theorem mv_X12_as : Cond.instanceMethod yX12_as ∈ q_tbl ∧ Cond.selects yX12_as.cls yX12_as yX12_as ∈ q_tbl ∧ ∃ T : u_T, vwCl[12]? = some (yX12_as.cls, T, 42) := ⟨(q_wt8 (i := 203) (by decide +kernel) rfl), (q_wt8 (i := 204) (by decide +kernel) rfl), _, rfl⟩
theorem mv_X12_at : Cond.instanceMethod yX12_at ∈ q_tbl ∧ Cond.selects yX12_at.cls yX12_at yX12_at ∈ q_tbl ∧ ∃ T : u_T, vwCl[12]? = some (yX12_at.cls, T, 42) := ⟨(q_wt9 (i := 76) (by decide +kernel) rfl), (q_wt9 (i := 77) (by decide +kernel) rfl), _, rfl⟩
theorem mv_X12_back : Cond.instanceMethod yX12_back ∈ q_tbl ∧ Cond.selects yX12_back.cls yX12_back yX12_back ∈ q_tbl ∧ ∃ T : u_T, vwCl[12]? = some (yX12_back.cls, T, 42) := ⟨(q_wt9 (i := 151) (by decide +kernel) rfl), (q_wt9 (i := 152) (by decide +kernel) rfl), _, rfl⟩
theorem mv_X12_be : Cond.instanceMethod yX12_be ∈ q_tbl ∧ Cond.selects yX12_be.cls yX12_be yX12_be ∈ q_tbl ∧ ∃ T : u_T, vwCl[12]? = some (yX12_be.cls, T, 42) := ⟨(q_wt7 (i := 161) (by decide +kernel) rfl), (q_wt7 (i := 162) (by decide +kernel) rfl), _, rfl⟩
theorem mv_X12_beside : Cond.instanceMethod yX12_beside ∈ q_tbl ∧ Cond.selects yX12_beside.cls yX12_beside yX12_beside ∈ q_tbl ∧ ∃ T : u_T, vwCl[12]? = some (yX12_beside.cls, T, 42) := ⟨(q_wt8 (i := 233) (by decide +kernel) rfl), (q_wt8 (i := 234) (by decide +kernel) rfl), _, rfl⟩
theorem mv_X12_book : Cond.instanceMethod yX12_book ∈ q_tbl ∧ Cond.selects yX12_book.cls yX12_book yX12_book ∈ q_tbl ∧ ∃ T : u_T, vwCl[12]? = some (yX12_book.cls, T, 42) := ⟨(q_wt9 (i := 5) (by decide +kernel) rfl), (q_wt9 (i := 6) (by decide +kernel) rfl), _, rfl⟩
theorem mv_X12_bound : Cond.instanceMethod yX12_bound ∈ q_tbl ∧ Cond.selects yX12_bound.cls yX12_bound yX12_bound ∈ q_tbl ∧ ∃ T : u_T, vwCl[12]? = some (yX12_bound.cls, T, 42) := ⟨(q_wt8 (i := 229) (by decide +kernel) rfl), (q_wt8 (i := 230) (by decide +kernel) rfl), _, rfl⟩
theorem mv_X12_breach : Cond.instanceMethod yX12_breach ∈ q_tbl ∧ Cond.selects yX12_breach.cls yX12_breach yX12_breach ∈ q_tbl ∧ ∃ T : u_T, vwCl[12]? = some (yX12_breach.cls, T, 42) := ⟨(q_wt9 (i := 61) (by decide +kernel) rfl), (q_wt9 (i := 62) (by decide +kernel) rfl), _, rfl⟩
theorem mv_X12_check : Cond.instanceMethod yX12_check ∈ q_tbl ∧ Cond.selects yX12_check.cls yX12_check yX12_check ∈ q_tbl ∧ ∃ T : u_T, vwCl[12]? = some (yX12_check.cls, T, 42) := ⟨(q_wt9 (i := 126) (by decide +kernel) rfl), (q_wt9 (i := 127) (by decide +kernel) rfl), _, rfl⟩
theorem mv_X12_choice : Cond.instanceMethod yX12_choice ∈ q_tbl ∧ Cond.selects yX12_choice.cls yX12_choice yX12_choice ∈ q_tbl ∧ ∃ T : u_T, vwCl[12]? = some (yX12_choice.cls, T, 42) := ⟨(q_wt9 (i := 97) (by decide +kernel) rfl), (q_wt9 (i := 98) (by decide +kernel) rfl), _, rfl⟩
theorem mv_X12_copy : Cond.instanceMethod yX12_copy ∈ q_tbl ∧ Cond.selects yX12_copy.cls yX12_copy yX12_copy ∈ q_tbl ∧ ∃ T : u_T, vwCl[12]? = some (yX12_copy.cls, T, 42) := ⟨(q_wt9 (i := 29) (by decide +kernel) rfl), (q_wt9 (i := 30) (by decide +kernel) rfl), _, rfl⟩
theorem mv_X12_count : Cond.instanceMethod yX12_count ∈ q_tbl ∧ Cond.selects yX12_count.cls yX12_count yX12_count ∈ q_tbl ∧ ∃ T : u_T, vwCl[12]? = some (yX12_count.cls, T, 42) := ⟨(q_wt9 (i := 155) (by decide +kernel) rfl), (q_wt9 (i := 156) (by decide +kernel) rfl), _, rfl⟩
theorem mv_X12_draw : Cond.instanceMethod yX12_draw ∈ q_tbl ∧ Cond.selects yX12_draw.cls yX12_draw yX12_draw ∈ q_tbl ∧ ∃ T : u_T, vwCl[12]? = some (yX12_draw.cls, T, 42) := ⟨(q_wt8 (i := 156) (by decide +kernel) rfl), (q_wt8 (i := 157) (by decide +kernel) rfl), _, rfl⟩
theorem mv_X12_dug : Cond.instanceMethod yX12_dug ∈ q_tbl ∧ Cond.selects yX12_dug.cls yX12_dug yX12_dug ∈ q_tbl ∧ ∃ T : u_T, vwCl[12]? = some (yX12_dug.cls, T, 42) := ⟨(q_wt7 (i := 95) (by decide +kernel) rfl), (q_wt7 (i := 96) (by decide +kernel) rfl), _, rfl⟩
theorem mv_X12_end : Cond.instanceMethod yX12_end ∈ q_tbl ∧ Cond.selects yX12_end.cls yX12_end yX12_end ∈ q_tbl ∧ ∃ T : u_T, vwCl[12]? = some (yX12_end.cls, T, 42) := ⟨(q_wt9 (i := 37) (by decide +kernel) rfl), (q_wt9 (i := 38) (by decide +kernel) rfl), _, rfl⟩
theorem mv_X12_feed : Cond.instanceMethod yX12_feed ∈ q_tbl ∧ Cond.selects yX12_feed.cls yX12_feed yX12_feed ∈ q_tbl ∧ ∃ T : u_T, vwCl[12]? = some (yX12_feed.cls, T, 42) := ⟨(q_wt8 (i := 52) (by decide +kernel) rfl), (q_wt8 (i := 53) (by decide +kernel) rfl), _, rfl⟩
theorem mv_X12_fine : Cond.instanceMethod yX12_fine ∈ q_tbl ∧ Cond.selects yX12_fine.cls yX12_fine yX12_fine ∈ q_tbl ∧ ∃ T : u_T, vwCl[12]? = some (yX12_fine.cls, T, 42) := ⟨(q_wt8 (i := 174) (by decide +kernel) rfl), (q_wt8 (i := 175) (by decide +kernel) rfl), _, rfl⟩
theorem mv_X12_give : Cond.instanceMethod yX12_give ∈ q_tbl ∧ Cond.selects yX12_give.cls yX12_give yX12_give ∈ q_tbl ∧ ∃ T : u_T, vwCl[12]? = some (yX12_give.cls, T, 42) := ⟨(q_wt8 (i := 215) (by decide +kernel) rfl), (q_wt8 (i := 216) (by decide +kernel) rfl), _, rfl⟩
theorem mv_X12_hear : Cond.instanceMethod yX12_hear ∈ q_tbl ∧ Cond.selects yX12_hear.cls yX12_hear yX12_hear ∈ q_tbl ∧ ∃ T : u_T, vwCl[12]? = some (yX12_hear.cls, T, 42) := ⟨(q_wt7 (i := 170) (by decide +kernel) rfl), (q_wt7 (i := 171) (by decide +kernel) rfl), _, rfl⟩
theorem mv_X12_is : Cond.instanceMethod yX12_is ∈ q_tbl ∧ Cond.selects yX12_is.cls yX12_is yX12_is ∈ q_tbl ∧ ∃ T : u_T, vwCl[12]? = some (yX12_is.cls, T, 42) := ⟨(q_wt7 (i := 144) (by decide +kernel) rfl), (q_wt7 (i := 145) (by decide +kernel) rfl), _, rfl⟩
theorem mv_X12_keep : Cond.instanceMethod yX12_keep ∈ q_tbl ∧ Cond.selects yX12_keep.cls yX12_keep yX12_keep ∈ q_tbl ∧ ∃ T : u_T, vwCl[12]? = some (yX12_keep.cls, T, 42) := ⟨(q_wt9 (i := 147) (by decide +kernel) rfl), (q_wt9 (i := 148) (by decide +kernel) rfl), _, rfl⟩
theorem mv_X12_known : Cond.instanceMethod yX12_known ∈ q_tbl ∧ Cond.selects yX12_known.cls yX12_known yX12_known ∈ q_tbl ∧ ∃ T : u_T, vwCl[12]? = some (yX12_known.cls, T, 42) := ⟨(q_wt7 (i := 165) (by decide +kernel) rfl), (q_wt7 (i := 166) (by decide +kernel) rfl), _, rfl⟩
theorem mv_X12_last : Cond.instanceMethod yX12_last ∈ q_tbl ∧ Cond.selects yX12_last.cls yX12_last yX12_last ∈ q_tbl ∧ ∃ T : u_T, vwCl[12]? = some (yX12_last.cls, T, 42) := ⟨(q_wt9 (i := 80) (by decide +kernel) rfl), (q_wt9 (i := 81) (by decide +kernel) rfl), _, rfl⟩
theorem mv_X12_least_ : Cond.instanceMethod yX12_least_ ∈ q_tbl ∧ Cond.selects yX12_least_.cls yX12_least_ yX12_least_ ∈ q_tbl ∧ ∃ T : u_T, vwCl[12]? = some (yX12_least_.cls, T, 42) := ⟨(q_wt9 (i := 93) (by decide +kernel) rfl), (q_wt9 (i := 94) (by decide +kernel) rfl), _, rfl⟩
theorem mv_X12_let : Cond.instanceMethod yX12_let ∈ q_tbl ∧ Cond.selects yX12_let.cls yX12_let yX12_let ∈ q_tbl ∧ ∃ T : u_T, vwCl[12]? = some (yX12_let.cls, T, 42) := ⟨(q_wt8 (i := 182) (by decide +kernel) rfl), (q_wt8 (i := 183) (by decide +kernel) rfl), _, rfl⟩
theorem mv_X12_man : Cond.instanceMethod yX12_man ∈ q_tbl ∧ Cond.selects yX12_man.cls yX12_man yX12_man ∈ q_tbl ∧ ∃ T : u_T, vwCl[12]? = some (yX12_man.cls, T, 42) := ⟨(q_wt7 (i := 131) (by decide +kernel) rfl), (q_wt7 (i := 132) (by decide +kernel) rfl), _, rfl⟩
theorem mv_X12_melt : Cond.instanceMethod yX12_melt ∈ q_tbl ∧ Cond.selects yX12_melt.cls yX12_melt yX12_melt ∈ q_tbl ∧ ∃ T : u_T, vwCl[12]? = some (yX12_melt.cls, T, 42) := ⟨(q_wt8 (i := 195) (by decide +kernel) rfl), (q_wt8 (i := 196) (by decide +kernel) rfl), _, rfl⟩
theorem mv_X12_note : Cond.instanceMethod yX12_note ∈ q_tbl ∧ Cond.selects yX12_note.cls yX12_note yX12_note ∈ q_tbl ∧ ∃ T : u_T, vwCl[12]? = some (yX12_note.cls, T, 42) := ⟨(q_wt9 (i := 11) (by decide +kernel) rfl), (q_wt9 (i := 12) (by decide +kernel) rfl), _, rfl⟩
theorem mv_X12_of : Cond.instanceMethod yX12_of ∈ q_tbl ∧ Cond.selects yX12_of.cls yX12_of yX12_of ∈ q_tbl ∧ ∃ T : u_T, vwCl[12]? = some (yX12_of.cls, T, 42) := ⟨(q_wt8 (i := 128) (by decide +kernel) rfl), (q_wt8 (i := 129) (by decide +kernel) rfl), _, rfl⟩
theorem mv_X12_pit : Cond.instanceMethod yX12_pit ∈ q_tbl ∧ Cond.selects yX12_pit.cls yX12_pit yX12_pit ∈ q_tbl ∧ ∃ T : u_T, vwCl[12]? = some (yX12_pit.cls, T, 42) := ⟨(q_wt7 (i := 77) (by decide +kernel) rfl), (q_wt7 (i := 78) (by decide +kernel) rfl), _, rfl⟩
theorem mv_X12_plan : Cond.instanceMethod yX12_plan ∈ q_tbl ∧ Cond.selects yX12_plan.cls yX12_plan yX12_plan ∈ q_tbl ∧ ∃ T : u_T, vwCl[12]? = some (yX12_plan.cls, T, 42) := ⟨(q_wt9 (i := 101) (by decide +kernel) rfl), (q_wt9 (i := 102) (by decide +kernel) rfl), _, rfl⟩
theorem mv_X12_planned : Cond.instanceMethod yX12_planned ∈ q_tbl ∧ Cond.selects yX12_planned.cls yX12_planned yX12_planned ∈ q_tbl ∧ ∃ T : u_T, vwCl[12]? = some (yX12_planned.cls, T, 42) := ⟨(q_wt9 (i := 118) (by decide +kernel) rfl), (q_wt9 (i := 119) (by decide +kernel) rfl), _, rfl⟩
theorem mv_X12_prove : Cond.instanceMethod yX12_prove ∈ q_tbl ∧ Cond.selects yX12_prove.cls yX12_prove yX12_prove ∈ q_tbl ∧ ∃ T : u_T, vwCl[12]? = some (yX12_prove.cls, T, 42) := ⟨(q_wt8 (i := 225) (by decide +kernel) rfl), (q_wt8 (i := 226) (by decide +kernel) rfl), _, rfl⟩
theorem mv_X12_read : Cond.instanceMethod yX12_read ∈ q_tbl ∧ Cond.selects yX12_read.cls yX12_read yX12_read ∈ q_tbl ∧ ∃ T : u_T, vwCl[12]? = some (yX12_read.cls, T, 42) := ⟨(q_wt9 (i := 17) (by decide +kernel) rfl), (q_wt9 (i := 18) (by decide +kernel) rfl), _, rfl⟩
theorem mv_X12_round : Cond.instanceMethod yX12_round ∈ q_tbl ∧ Cond.selects yX12_round.cls yX12_round yX12_round ∈ q_tbl ∧ ∃ T : u_T, vwCl[12]? = some (yX12_round.cls, T, 42) := ⟨(q_wt9 (i := 41) (by decide +kernel) rfl), (q_wt9 (i := 42) (by decide +kernel) rfl), _, rfl⟩
theorem mv_X12_rule : Cond.instanceMethod yX12_rule ∈ q_tbl ∧ Cond.selects yX12_rule.cls yX12_rule yX12_rule ∈ q_tbl ∧ ∃ T : u_T, vwCl[12]? = some (yX12_rule.cls, T, 42) := ⟨(q_wt7 (i := 178) (by decide +kernel) rfl), (q_wt7 (i := 179) (by decide +kernel) rfl), _, rfl⟩
theorem mv_X12_rules : Cond.instanceMethod yX12_rules ∈ q_tbl ∧ Cond.selects yX12_rules.cls yX12_rules yX12_rules ∈ q_tbl ∧ ∃ T : u_T, vwCl[12]? = some (yX12_rules.cls, T, 42) := ⟨(q_wt8 (i := 144) (by decide +kernel) rfl), (q_wt8 (i := 145) (by decide +kernel) rfl), _, rfl⟩
theorem mv_X12_run : Cond.instanceMethod yX12_run ∈ q_tbl ∧ Cond.selects yX12_run.cls yX12_run yX12_run ∈ q_tbl ∧ ∃ T : u_T, vwCl[12]? = some (yX12_run.cls, T, 42) := ⟨(q_wt7 (i := 184) (by decide +kernel) rfl), (q_wt7 (i := 185) (by decide +kernel) rfl), _, rfl⟩
theorem mv_X12_seen : Cond.instanceMethod yX12_seen ∈ q_tbl ∧ Cond.selects yX12_seen.cls yX12_seen yX12_seen ∈ q_tbl ∧ ∃ T : u_T, vwCl[12]? = some (yX12_seen.cls, T, 42) := ⟨(q_wt9 (i := 65) (by decide +kernel) rfl), (q_wt9 (i := 66) (by decide +kernel) rfl), _, rfl⟩
theorem mv_X12_sell : Cond.instanceMethod yX12_sell ∈ q_tbl ∧ Cond.selects yX12_sell.cls yX12_sell yX12_sell ∈ q_tbl ∧ ∃ T : u_T, vwCl[12]? = some (yX12_sell.cls, T, 42) := ⟨(q_wt8 (i := 191) (by decide +kernel) rfl), (q_wt8 (i := 192) (by decide +kernel) rfl), _, rfl⟩
theorem mv_X12_sells : Cond.instanceMethod yX12_sells ∈ q_tbl ∧ Cond.selects yX12_sells.cls yX12_sells yX12_sells ∈ q_tbl ∧ ∃ T : u_T, vwCl[12]? = some (yX12_sells.cls, T, 42) := ⟨(q_wt7 (i := 126) (by decide +kernel) rfl), (q_wt7 (i := 127) (by decide +kernel) rfl), _, rfl⟩
theorem mv_X12_shelf : Cond.instanceMethod yX12_shelf ∈ q_tbl ∧ Cond.selects yX12_shelf.cls yX12_shelf yX12_shelf ∈ q_tbl ∧ ∃ T : u_T, vwCl[12]? = some (yX12_shelf.cls, T, 42) := ⟨(q_wt7 (i := 118) (by decide +kernel) rfl), (q_wt7 (i := 119) (by decide +kernel) rfl), _, rfl⟩
theorem mv_X12_shop : Cond.instanceMethod yX12_shop ∈ q_tbl ∧ Cond.selects yX12_shop.cls yX12_shop yX12_shop ∈ q_tbl ∧ ∃ T : u_T, vwCl[12]? = some (yX12_shop.cls, T, 42) := ⟨(q_wt7 (i := 108) (by decide +kernel) rfl), (q_wt7 (i := 109) (by decide +kernel) rfl), _, rfl⟩
theorem mv_X12_stop : Cond.instanceMethod yX12_stop ∈ q_tbl ∧ Cond.selects yX12_stop.cls yX12_stop yX12_stop ∈ q_tbl ∧ ∃ T : u_T, vwCl[12]? = some (yX12_stop.cls, T, 42) := ⟨(q_wt8 (i := 178) (by decide +kernel) rfl), (q_wt8 (i := 179) (by decide +kernel) rfl), _, rfl⟩
theorem mv_X12_strike : Cond.instanceMethod yX12_strike ∈ q_tbl ∧ Cond.selects yX12_strike.cls yX12_strike yX12_strike ∈ q_tbl ∧ ∃ T : u_T, vwCl[12]? = some (yX12_strike.cls, T, 42) := ⟨(q_wt8 (i := 170) (by decide +kernel) rfl), (q_wt8 (i := 171) (by decide +kernel) rfl), _, rfl⟩
theorem mv_X12_tell : Cond.instanceMethod yX12_tell ∈ q_tbl ∧ Cond.selects yX12_tell.cls yX12_tell yX12_tell ∈ q_tbl ∧ ∃ T : u_T, vwCl[12]? = some (yX12_tell.cls, T, 42) := ⟨(q_wt9 (i := 122) (by decide +kernel) rfl), (q_wt9 (i := 123) (by decide +kernel) rfl), _, rfl⟩
theorem mv_X12_text : Cond.instanceMethod yX12_text ∈ q_tbl ∧ Cond.selects yX12_text.cls yX12_text yX12_text ∈ q_tbl ∧ ∃ T : u_T, vwCl[12]? = some (yX12_text.cls, T, 42) := ⟨(q_wt8 (i := 60) (by decide +kernel) rfl), (q_wt8 (i := 61) (by decide +kernel) rfl), _, rfl⟩
theorem mv_X12_told : Cond.instanceMethod yX12_told ∈ q_tbl ∧ Cond.selects yX12_told.cls yX12_told yX12_told ∈ q_tbl ∧ ∃ T : u_T, vwCl[12]? = some (yX12_told.cls, T, 42) := ⟨(q_wt8 (i := 199) (by decide +kernel) rfl), (q_wt8 (i := 200) (by decide +kernel) rfl), _, rfl⟩
theorem mv_X12_trim : Cond.instanceMethod yX12_trim ∈ q_tbl ∧ Cond.selects yX12_trim.cls yX12_trim yX12_trim ∈ q_tbl ∧ ∃ T : u_T, vwCl[12]? = some (yX12_trim.cls, T, 42) := ⟨(q_wt8 (i := 56) (by decide +kernel) rfl), (q_wt8 (i := 57) (by decide +kernel) rfl), _, rfl⟩
theorem mv_X12_way : Cond.instanceMethod yX12_way ∈ q_tbl ∧ Cond.selects yX12_way.cls yX12_way yX12_way ∈ q_tbl ∧ ∃ T : u_T, vwCl[12]? = some (yX12_way.cls, T, 42) := ⟨(q_wt9 (i := 53) (by decide +kernel) rfl), (q_wt9 (i := 54) (by decide +kernel) rfl), _, rfl⟩
theorem mv_X12_why : Cond.instanceMethod yX12_why ∈ q_tbl ∧ Cond.selects yX12_why.cls yX12_why yX12_why ∈ q_tbl ∧ ∃ T : u_T, vwCl[12]? = some (yX12_why.cls, T, 42) := ⟨(q_wt8 (i := 136) (by decide +kernel) rfl), (q_wt8 (i := 137) (by decide +kernel) rfl), _, rfl⟩
theorem mv_X12_worth : Cond.instanceMethod yX12_worth ∈ q_tbl ∧ Cond.selects yX12_worth.cls yX12_worth yX12_worth ∈ q_tbl ∧ ∃ T : u_T, vwCl[12]? = some (yX12_worth.cls, T, 42) := ⟨(q_wt8 (i := 220) (by decide +kernel) rfl), (q_wt8 (i := 221) (by decide +kernel) rfl), _, rfl⟩
theorem mv_X12_would : Cond.instanceMethod yX12_would ∈ q_tbl ∧ Cond.selects yX12_would.cls yX12_would yX12_would ∈ q_tbl ∧ ∃ T : u_T, vwCl[12]? = some (yX12_would.cls, T, 42) := ⟨(q_wt9 (i := 57) (by decide +kernel) rfl), (q_wt9 (i := 58) (by decide +kernel) rfl), _, rfl⟩
theorem nw_L_7 : Cond.classLink RL 7 RX11 ∈ q_tbl ∧ Cond.instantiable RX11 9 ∈ q_tbl ∧ Cond.initialized RX11 ∈ q_tbl := ⟨(q_wt1 (i := 22) (by decide +kernel) rfl), (q_wt1 (i := 23) (by decide +kernel) rfl), (q_wt1 (i := 1) (by decide +kernel) rfl)⟩
theorem nw_L_10 : Cond.classLink RL 10 RX12 ∈ q_tbl ∧ Cond.instantiable RX12 42 ∈ q_tbl ∧ Cond.initialized RX12 ∈ q_tbl := ⟨(q_wt6 (i := 183) (by decide +kernel) rfl), (q_wt6 (i := 184) (by decide +kernel) rfl), (q_wt1 (i := 13) (by decide +kernel) rfl)⟩
theorem dL_law_18 : q_at cL_law 18 (.iload_n 3) 1 19 := ⟨by decide +kernel, rfl⟩
theorem dL_law_19 : q_at cL_law 19 (.aload_n 0) 1 20 := ⟨by decide +kernel, rfl⟩
theorem dL_law_20 : q_at cL_law 20 (.arraylength) 1 21 := ⟨by decide +kernel, rfl⟩
theorem dL_law_21 : q_at cL_law 21 (.bipush 6) 2 23 := ⟨by decide +kernel, rfl⟩
theorem dL_law_23 : q_at cL_law 23 (.isub) 1 24 := ⟨by decide +kernel, rfl⟩
theorem dL_law_24 : q_at cL_law 24 (.if_icmp .gt 2155) 3 27 := ⟨by decide +kernel, rfl⟩
theorem dL_law_27 : q_at cL_law 27 (.aload_n 0) 1 28 := ⟨by decide +kernel, rfl⟩
theorem dL_law_28 : q_at cL_law 28 (.iload_n 3) 1 29 := ⟨by decide +kernel, rfl⟩
theorem dL_law_29 : q_at cL_law 29 (.iaload) 1 30 := ⟨by decide +kernel, rfl⟩
theorem dL_law_30 : q_at cL_law 30 (.bipush 63) 2 32 := ⟨by decide +kernel, rfl⟩
theorem dL_law_32 : q_at cL_law 32 (.iand) 1 33 := ⟨by decide +kernel, rfl⟩
theorem dL_law_33 : q_at cL_law 33 (.tableswitch 2140 0 54 #[235, 278, 311, 364, 407, 440, 483, 516, 559, 602, 635, 668, 691, 734, 767, 810, 853, 876, 919, 942, 975, 1008, 1031, 1054, 1087, 1140, 1183, 1216, 1259, 1282, 1305, 1338, 1361, 1414, 1457, 1500, 1533, 1596, 1629, 1682, 1695, 1718, 1751, 1794, 1817, 1850, 1883, 1896, 1939, 1982, 2025, 2048, 2091, 2104, 2117]) 235 268 := ⟨by decide +kernel, rfl⟩
theorem dL_law_268 : q_at cL_law 268 (.aload_n 1) 1 269 := ⟨by decide +kernel, rfl⟩
theorem dL_law_269 : q_at cL_law 269 (.aload_n 0) 1 270 := ⟨by decide +kernel, rfl⟩
theorem dL_law_270 : q_at cL_law 270 (.iload_n 3) 1 271 := ⟨by decide +kernel, rfl⟩
theorem dL_law_271 : q_at cL_law 271 (.iconst 1) 1 272 := ⟨by decide +kernel, rfl⟩
theorem dL_law_272 : q_at cL_law 272 (.iadd) 1 273 := ⟨by decide +kernel, rfl⟩
theorem dL_law_273 : q_at cL_law 273 (.iaload) 1 274 := ⟨by decide +kernel, rfl⟩
theorem dL_law_274 : q_at cL_law 274 (.aload_n 0) 1 275 := ⟨by decide +kernel, rfl⟩
theorem dL_law_275 : q_at cL_law 275 (.iload_n 3) 1 276 := ⟨by decide +kernel, rfl⟩
theorem dL_law_276 : q_at cL_law 276 (.iconst 2) 1 277 := ⟨by decide +kernel, rfl⟩
theorem dL_law_277 : q_at cL_law 277 (.iadd) 1 278 := ⟨by decide +kernel, rfl⟩
theorem dL_law_278 : q_at cL_law 278 (.iaload) 1 279 := ⟨by decide +kernel, rfl⟩
theorem dL_law_279 : q_at cL_law 279 (.aload_n 0) 1 280 := ⟨by decide +kernel, rfl⟩
theorem dL_law_280 : q_at cL_law 280 (.iload_n 3) 1 281 := ⟨by decide +kernel, rfl⟩
theorem dL_law_281 : q_at cL_law 281 (.iconst 3) 1 282 := ⟨by decide +kernel, rfl⟩
theorem dL_law_282 : q_at cL_law 282 (.iadd) 1 283 := ⟨by decide +kernel, rfl⟩
theorem dL_law_283 : q_at cL_law 283 (.iaload) 1 284 := ⟨by decide +kernel, rfl⟩
theorem dL_law_284 : q_at cL_law 284 (.invokevirtual 13) 3 287 := ⟨by decide +kernel, rfl⟩
theorem dL_law_287 : q_at cL_law 287 (.aload_n 2) 1 288 := ⟨by decide +kernel, rfl⟩
theorem dL_law_288 : q_at cL_law 288 (.aload_n 0) 1 289 := ⟨by decide +kernel, rfl⟩
theorem dL_law_289 : q_at cL_law 289 (.iload_n 3) 1 290 := ⟨by decide +kernel, rfl⟩
theorem dL_law_290 : q_at cL_law 290 (.iconst 1) 1 291 := ⟨by decide +kernel, rfl⟩
theorem dL_law_291 : q_at cL_law 291 (.iadd) 1 292 := ⟨by decide +kernel, rfl⟩
theorem dL_law_292 : q_at cL_law 292 (.iaload) 1 293 := ⟨by decide +kernel, rfl⟩
theorem dL_law_293 : q_at cL_law 293 (.aload_n 0) 1 294 := ⟨by decide +kernel, rfl⟩
theorem dL_law_294 : q_at cL_law 294 (.iload_n 3) 1 295 := ⟨by decide +kernel, rfl⟩
theorem dL_law_295 : q_at cL_law 295 (.iconst 2) 1 296 := ⟨by decide +kernel, rfl⟩
theorem dL_law_296 : q_at cL_law 296 (.iadd) 1 297 := ⟨by decide +kernel, rfl⟩
theorem dL_law_297 : q_at cL_law 297 (.iaload) 1 298 := ⟨by decide +kernel, rfl⟩
theorem dL_law_298 : q_at cL_law 298 (.aload_n 0) 1 299 := ⟨by decide +kernel, rfl⟩
theorem dL_law_299 : q_at cL_law 299 (.iload_n 3) 1 300 := ⟨by decide +kernel, rfl⟩
theorem dL_law_300 : q_at cL_law 300 (.iconst 3) 1 301 := ⟨by decide +kernel, rfl⟩
theorem dL_law_301 : q_at cL_law 301 (.iadd) 1 302 := ⟨by decide +kernel, rfl⟩
theorem dL_law_302 : q_at cL_law 302 (.iaload) 1 303 := ⟨by decide +kernel, rfl⟩
theorem dL_law_303 : q_at cL_law 303 (.invokevirtual 17) 3 306 := ⟨by decide +kernel, rfl⟩
theorem dL_law_306 : q_at cL_law 306 (.if_icmp .eq 1867) 3 309 := ⟨by decide +kernel, rfl⟩
theorem dL_law_309 : q_at cL_law 309 (.iconst 0) 1 310 := ⟨by decide +kernel, rfl⟩
theorem dL_law_310 : q_at cL_law 310 (.ireturn) 1 311 := ⟨by decide +kernel, rfl⟩
theorem dL_law_311 : q_at cL_law 311 (.aload_n 1) 1 312 := ⟨by decide +kernel, rfl⟩
theorem dL_law_312 : q_at cL_law 312 (.aload_n 0) 1 313 := ⟨by decide +kernel, rfl⟩
theorem dL_law_313 : q_at cL_law 313 (.iload_n 3) 1 314 := ⟨by decide +kernel, rfl⟩
theorem dL_law_314 : q_at cL_law 314 (.iconst 1) 1 315 := ⟨by decide +kernel, rfl⟩
theorem dL_law_315 : q_at cL_law 315 (.iadd) 1 316 := ⟨by decide +kernel, rfl⟩
theorem dL_law_316 : q_at cL_law 316 (.iaload) 1 317 := ⟨by decide +kernel, rfl⟩
theorem dL_law_317 : q_at cL_law 317 (.aload_n 0) 1 318 := ⟨by decide +kernel, rfl⟩
theorem dL_law_318 : q_at cL_law 318 (.iload_n 3) 1 319 := ⟨by decide +kernel, rfl⟩
theorem dL_law_319 : q_at cL_law 319 (.iconst 2) 1 320 := ⟨by decide +kernel, rfl⟩
theorem dL_law_320 : q_at cL_law 320 (.iadd) 1 321 := ⟨by decide +kernel, rfl⟩
theorem dL_law_321 : q_at cL_law 321 (.iaload) 1 322 := ⟨by decide +kernel, rfl⟩
theorem dL_law_322 : q_at cL_law 322 (.invokevirtual 18) 3 325 := ⟨by decide +kernel, rfl⟩
theorem dL_law_325 : q_at cL_law 325 (.aload_n 2) 1 326 := ⟨by decide +kernel, rfl⟩
theorem dL_law_326 : q_at cL_law 326 (.aload_n 0) 1 327 := ⟨by decide +kernel, rfl⟩
theorem dL_law_327 : q_at cL_law 327 (.iload_n 3) 1 328 := ⟨by decide +kernel, rfl⟩
theorem dL_law_328 : q_at cL_law 328 (.iconst 1) 1 329 := ⟨by decide +kernel, rfl⟩
theorem dL_law_329 : q_at cL_law 329 (.iadd) 1 330 := ⟨by decide +kernel, rfl⟩
theorem dL_law_330 : q_at cL_law 330 (.iaload) 1 331 := ⟨by decide +kernel, rfl⟩
theorem dL_law_331 : q_at cL_law 331 (.aload_n 0) 1 332 := ⟨by decide +kernel, rfl⟩
theorem dL_law_332 : q_at cL_law 332 (.iload_n 3) 1 333 := ⟨by decide +kernel, rfl⟩
theorem dL_law_333 : q_at cL_law 333 (.iconst 2) 1 334 := ⟨by decide +kernel, rfl⟩
theorem dL_law_334 : q_at cL_law 334 (.iadd) 1 335 := ⟨by decide +kernel, rfl⟩
theorem dL_law_335 : q_at cL_law 335 (.iaload) 1 336 := ⟨by decide +kernel, rfl⟩
theorem dL_law_336 : q_at cL_law 336 (.invokevirtual 22) 3 339 := ⟨by decide +kernel, rfl⟩
theorem dL_law_339 : q_at cL_law 339 (.if_icmp .eq 1834) 3 342 := ⟨by decide +kernel, rfl⟩
theorem dL_law_342 : q_at cL_law 342 (.iconst 0) 1 343 := ⟨by decide +kernel, rfl⟩
theorem dL_law_343 : q_at cL_law 343 (.ireturn) 1 344 := ⟨by decide +kernel, rfl⟩
theorem dL_law_344 : q_at cL_law 344 (.aload_n 1) 1 345 := ⟨by decide +kernel, rfl⟩
theorem dL_law_345 : q_at cL_law 345 (.aload_n 0) 1 346 := ⟨by decide +kernel, rfl⟩
theorem dL_law_346 : q_at cL_law 346 (.iload_n 3) 1 347 := ⟨by decide +kernel, rfl⟩
theorem dL_law_347 : q_at cL_law 347 (.iconst 1) 1 348 := ⟨by decide +kernel, rfl⟩
theorem dL_law_348 : q_at cL_law 348 (.iadd) 1 349 := ⟨by decide +kernel, rfl⟩
theorem dL_law_349 : q_at cL_law 349 (.iaload) 1 350 := ⟨by decide +kernel, rfl⟩
theorem dL_law_350 : q_at cL_law 350 (.aload_n 0) 1 351 := ⟨by decide +kernel, rfl⟩
theorem dL_law_351 : q_at cL_law 351 (.iload_n 3) 1 352 := ⟨by decide +kernel, rfl⟩
theorem dL_law_352 : q_at cL_law 352 (.iconst 2) 1 353 := ⟨by decide +kernel, rfl⟩
theorem dL_law_353 : q_at cL_law 353 (.iadd) 1 354 := ⟨by decide +kernel, rfl⟩
theorem dL_law_354 : q_at cL_law 354 (.iaload) 1 355 := ⟨by decide +kernel, rfl⟩
theorem dL_law_355 : q_at cL_law 355 (.aload_n 0) 1 356 := ⟨by decide +kernel, rfl⟩
theorem dL_law_356 : q_at cL_law 356 (.iload_n 3) 1 357 := ⟨by decide +kernel, rfl⟩
theorem dL_law_357 : q_at cL_law 357 (.iconst 3) 1 358 := ⟨by decide +kernel, rfl⟩
theorem dL_law_358 : q_at cL_law 358 (.iadd) 1 359 := ⟨by decide +kernel, rfl⟩
theorem dL_law_359 : q_at cL_law 359 (.iaload) 1 360 := ⟨by decide +kernel, rfl⟩
theorem dL_law_360 : q_at cL_law 360 (.aload_n 0) 1 361 := ⟨by decide +kernel, rfl⟩
theorem dL_law_361 : q_at cL_law 361 (.iload_n 3) 1 362 := ⟨by decide +kernel, rfl⟩
theorem dL_law_362 : q_at cL_law 362 (.iconst 4) 1 363 := ⟨by decide +kernel, rfl⟩
theorem dL_law_363 : q_at cL_law 363 (.iadd) 1 364 := ⟨by decide +kernel, rfl⟩
theorem dL_law_364 : q_at cL_law 364 (.iaload) 1 365 := ⟨by decide +kernel, rfl⟩
theorem dL_law_365 : q_at cL_law 365 (.invokevirtual 23) 3 368 := ⟨by decide +kernel, rfl⟩
theorem dL_law_368 : q_at cL_law 368 (.aload_n 2) 1 369 := ⟨by decide +kernel, rfl⟩
theorem dL_law_369 : q_at cL_law 369 (.aload_n 0) 1 370 := ⟨by decide +kernel, rfl⟩
theorem dL_law_370 : q_at cL_law 370 (.iload_n 3) 1 371 := ⟨by decide +kernel, rfl⟩
theorem dL_law_371 : q_at cL_law 371 (.iconst 1) 1 372 := ⟨by decide +kernel, rfl⟩
theorem dL_law_372 : q_at cL_law 372 (.iadd) 1 373 := ⟨by decide +kernel, rfl⟩
theorem dL_law_373 : q_at cL_law 373 (.iaload) 1 374 := ⟨by decide +kernel, rfl⟩
theorem dL_law_374 : q_at cL_law 374 (.aload_n 0) 1 375 := ⟨by decide +kernel, rfl⟩
theorem dL_law_375 : q_at cL_law 375 (.iload_n 3) 1 376 := ⟨by decide +kernel, rfl⟩
theorem dL_law_376 : q_at cL_law 376 (.iconst 2) 1 377 := ⟨by decide +kernel, rfl⟩
theorem dL_law_377 : q_at cL_law 377 (.iadd) 1 378 := ⟨by decide +kernel, rfl⟩
theorem dL_law_378 : q_at cL_law 378 (.iaload) 1 379 := ⟨by decide +kernel, rfl⟩
theorem dL_law_379 : q_at cL_law 379 (.aload_n 0) 1 380 := ⟨by decide +kernel, rfl⟩
theorem dL_law_380 : q_at cL_law 380 (.iload_n 3) 1 381 := ⟨by decide +kernel, rfl⟩
theorem dL_law_381 : q_at cL_law 381 (.iconst 3) 1 382 := ⟨by decide +kernel, rfl⟩
theorem dL_law_382 : q_at cL_law 382 (.iadd) 1 383 := ⟨by decide +kernel, rfl⟩
theorem dL_law_383 : q_at cL_law 383 (.iaload) 1 384 := ⟨by decide +kernel, rfl⟩
theorem dL_law_384 : q_at cL_law 384 (.aload_n 0) 1 385 := ⟨by decide +kernel, rfl⟩
theorem dL_law_385 : q_at cL_law 385 (.iload_n 3) 1 386 := ⟨by decide +kernel, rfl⟩
theorem dL_law_386 : q_at cL_law 386 (.iconst 4) 1 387 := ⟨by decide +kernel, rfl⟩
theorem dL_law_387 : q_at cL_law 387 (.iadd) 1 388 := ⟨by decide +kernel, rfl⟩
theorem dL_law_388 : q_at cL_law 388 (.iaload) 1 389 := ⟨by decide +kernel, rfl⟩
theorem dL_law_389 : q_at cL_law 389 (.invokevirtual 27) 3 392 := ⟨by decide +kernel, rfl⟩
theorem dL_law_392 : q_at cL_law 392 (.if_icmp .eq 1781) 3 395 := ⟨by decide +kernel, rfl⟩
theorem dL_law_395 : q_at cL_law 395 (.iconst 0) 1 396 := ⟨by decide +kernel, rfl⟩
theorem dL_law_396 : q_at cL_law 396 (.ireturn) 1 397 := ⟨by decide +kernel, rfl⟩
theorem dL_law_397 : q_at cL_law 397 (.aload_n 1) 1 398 := ⟨by decide +kernel, rfl⟩
theorem dL_law_398 : q_at cL_law 398 (.aload_n 0) 1 399 := ⟨by decide +kernel, rfl⟩
theorem dL_law_399 : q_at cL_law 399 (.iload_n 3) 1 400 := ⟨by decide +kernel, rfl⟩
theorem dL_law_400 : q_at cL_law 400 (.iconst 1) 1 401 := ⟨by decide +kernel, rfl⟩
theorem dL_law_401 : q_at cL_law 401 (.iadd) 1 402 := ⟨by decide +kernel, rfl⟩
theorem dL_law_402 : q_at cL_law 402 (.iaload) 1 403 := ⟨by decide +kernel, rfl⟩
theorem dL_law_403 : q_at cL_law 403 (.aload_n 0) 1 404 := ⟨by decide +kernel, rfl⟩
theorem dL_law_404 : q_at cL_law 404 (.iload_n 3) 1 405 := ⟨by decide +kernel, rfl⟩
theorem dL_law_405 : q_at cL_law 405 (.iconst 2) 1 406 := ⟨by decide +kernel, rfl⟩
theorem dL_law_406 : q_at cL_law 406 (.iadd) 1 407 := ⟨by decide +kernel, rfl⟩
theorem dL_law_407 : q_at cL_law 407 (.iaload) 1 408 := ⟨by decide +kernel, rfl⟩
theorem dL_law_408 : q_at cL_law 408 (.aload_n 0) 1 409 := ⟨by decide +kernel, rfl⟩
theorem dL_law_409 : q_at cL_law 409 (.iload_n 3) 1 410 := ⟨by decide +kernel, rfl⟩
theorem dL_law_410 : q_at cL_law 410 (.iconst 3) 1 411 := ⟨by decide +kernel, rfl⟩
theorem dL_law_411 : q_at cL_law 411 (.iadd) 1 412 := ⟨by decide +kernel, rfl⟩
theorem dL_law_412 : q_at cL_law 412 (.iaload) 1 413 := ⟨by decide +kernel, rfl⟩
theorem dL_law_413 : q_at cL_law 413 (.invokevirtual 28) 3 416 := ⟨by decide +kernel, rfl⟩
theorem dL_law_416 : q_at cL_law 416 (.aload_n 2) 1 417 := ⟨by decide +kernel, rfl⟩
theorem dL_law_417 : q_at cL_law 417 (.aload_n 0) 1 418 := ⟨by decide +kernel, rfl⟩
theorem dL_law_418 : q_at cL_law 418 (.iload_n 3) 1 419 := ⟨by decide +kernel, rfl⟩
theorem dL_law_419 : q_at cL_law 419 (.iconst 1) 1 420 := ⟨by decide +kernel, rfl⟩
theorem dL_law_420 : q_at cL_law 420 (.iadd) 1 421 := ⟨by decide +kernel, rfl⟩
theorem dL_law_421 : q_at cL_law 421 (.iaload) 1 422 := ⟨by decide +kernel, rfl⟩
theorem dL_law_422 : q_at cL_law 422 (.aload_n 0) 1 423 := ⟨by decide +kernel, rfl⟩
theorem dL_law_423 : q_at cL_law 423 (.iload_n 3) 1 424 := ⟨by decide +kernel, rfl⟩
theorem dL_law_424 : q_at cL_law 424 (.iconst 2) 1 425 := ⟨by decide +kernel, rfl⟩
theorem dL_law_425 : q_at cL_law 425 (.iadd) 1 426 := ⟨by decide +kernel, rfl⟩
theorem dL_law_426 : q_at cL_law 426 (.iaload) 1 427 := ⟨by decide +kernel, rfl⟩
theorem dL_law_427 : q_at cL_law 427 (.aload_n 0) 1 428 := ⟨by decide +kernel, rfl⟩
theorem dL_law_428 : q_at cL_law 428 (.iload_n 3) 1 429 := ⟨by decide +kernel, rfl⟩
theorem dL_law_429 : q_at cL_law 429 (.iconst 3) 1 430 := ⟨by decide +kernel, rfl⟩
theorem dL_law_430 : q_at cL_law 430 (.iadd) 1 431 := ⟨by decide +kernel, rfl⟩
theorem dL_law_431 : q_at cL_law 431 (.iaload) 1 432 := ⟨by decide +kernel, rfl⟩
theorem dL_law_432 : q_at cL_law 432 (.invokevirtual 31) 3 435 := ⟨by decide +kernel, rfl⟩
theorem dL_law_435 : q_at cL_law 435 (.if_icmp .eq 1738) 3 438 := ⟨by decide +kernel, rfl⟩
theorem dL_law_438 : q_at cL_law 438 (.iconst 0) 1 439 := ⟨by decide +kernel, rfl⟩
theorem dL_law_439 : q_at cL_law 439 (.ireturn) 1 440 := ⟨by decide +kernel, rfl⟩
theorem dL_law_440 : q_at cL_law 440 (.aload_n 1) 1 441 := ⟨by decide +kernel, rfl⟩
theorem dL_law_441 : q_at cL_law 441 (.aload_n 0) 1 442 := ⟨by decide +kernel, rfl⟩
theorem dL_law_442 : q_at cL_law 442 (.iload_n 3) 1 443 := ⟨by decide +kernel, rfl⟩
theorem dL_law_443 : q_at cL_law 443 (.iconst 1) 1 444 := ⟨by decide +kernel, rfl⟩
theorem dL_law_444 : q_at cL_law 444 (.iadd) 1 445 := ⟨by decide +kernel, rfl⟩
theorem dL_law_445 : q_at cL_law 445 (.iaload) 1 446 := ⟨by decide +kernel, rfl⟩
theorem dL_law_446 : q_at cL_law 446 (.aload_n 0) 1 447 := ⟨by decide +kernel, rfl⟩
theorem dL_law_447 : q_at cL_law 447 (.iload_n 3) 1 448 := ⟨by decide +kernel, rfl⟩
theorem dL_law_448 : q_at cL_law 448 (.iconst 2) 1 449 := ⟨by decide +kernel, rfl⟩
theorem dL_law_449 : q_at cL_law 449 (.iadd) 1 450 := ⟨by decide +kernel, rfl⟩
theorem dL_law_450 : q_at cL_law 450 (.iaload) 1 451 := ⟨by decide +kernel, rfl⟩
theorem dL_law_451 : q_at cL_law 451 (.invokevirtual 32) 3 454 := ⟨by decide +kernel, rfl⟩
theorem dL_law_454 : q_at cL_law 454 (.aload_n 2) 1 455 := ⟨by decide +kernel, rfl⟩
theorem dL_law_455 : q_at cL_law 455 (.aload_n 0) 1 456 := ⟨by decide +kernel, rfl⟩
theorem dL_law_456 : q_at cL_law 456 (.iload_n 3) 1 457 := ⟨by decide +kernel, rfl⟩
theorem dL_law_457 : q_at cL_law 457 (.iconst 1) 1 458 := ⟨by decide +kernel, rfl⟩
theorem dL_law_458 : q_at cL_law 458 (.iadd) 1 459 := ⟨by decide +kernel, rfl⟩
theorem dL_law_459 : q_at cL_law 459 (.iaload) 1 460 := ⟨by decide +kernel, rfl⟩
theorem dL_law_460 : q_at cL_law 460 (.aload_n 0) 1 461 := ⟨by decide +kernel, rfl⟩
theorem dL_law_461 : q_at cL_law 461 (.iload_n 3) 1 462 := ⟨by decide +kernel, rfl⟩
theorem dL_law_462 : q_at cL_law 462 (.iconst 2) 1 463 := ⟨by decide +kernel, rfl⟩
theorem dL_law_463 : q_at cL_law 463 (.iadd) 1 464 := ⟨by decide +kernel, rfl⟩
theorem dL_law_464 : q_at cL_law 464 (.iaload) 1 465 := ⟨by decide +kernel, rfl⟩
theorem dL_law_465 : q_at cL_law 465 (.invokevirtual 35) 3 468 := ⟨by decide +kernel, rfl⟩
theorem dL_law_468 : q_at cL_law 468 (.if_icmp .eq 1705) 3 471 := ⟨by decide +kernel, rfl⟩
theorem dL_law_471 : q_at cL_law 471 (.iconst 0) 1 472 := ⟨by decide +kernel, rfl⟩
theorem dL_law_472 : q_at cL_law 472 (.ireturn) 1 473 := ⟨by decide +kernel, rfl⟩
theorem dL_law_473 : q_at cL_law 473 (.aload_n 1) 1 474 := ⟨by decide +kernel, rfl⟩
theorem dL_law_474 : q_at cL_law 474 (.aload_n 0) 1 475 := ⟨by decide +kernel, rfl⟩
theorem dL_law_475 : q_at cL_law 475 (.iload_n 3) 1 476 := ⟨by decide +kernel, rfl⟩
theorem dL_law_476 : q_at cL_law 476 (.iconst 1) 1 477 := ⟨by decide +kernel, rfl⟩
theorem dL_law_477 : q_at cL_law 477 (.iadd) 1 478 := ⟨by decide +kernel, rfl⟩
theorem dL_law_478 : q_at cL_law 478 (.iaload) 1 479 := ⟨by decide +kernel, rfl⟩
theorem dL_law_479 : q_at cL_law 479 (.aload_n 0) 1 480 := ⟨by decide +kernel, rfl⟩
theorem dL_law_480 : q_at cL_law 480 (.iload_n 3) 1 481 := ⟨by decide +kernel, rfl⟩
theorem dL_law_481 : q_at cL_law 481 (.iconst 2) 1 482 := ⟨by decide +kernel, rfl⟩
theorem dL_law_482 : q_at cL_law 482 (.iadd) 1 483 := ⟨by decide +kernel, rfl⟩
theorem dL_law_483 : q_at cL_law 483 (.iaload) 1 484 := ⟨by decide +kernel, rfl⟩
theorem dL_law_484 : q_at cL_law 484 (.aload_n 0) 1 485 := ⟨by decide +kernel, rfl⟩
theorem dL_law_485 : q_at cL_law 485 (.iload_n 3) 1 486 := ⟨by decide +kernel, rfl⟩
theorem dL_law_486 : q_at cL_law 486 (.iconst 3) 1 487 := ⟨by decide +kernel, rfl⟩
theorem dL_law_487 : q_at cL_law 487 (.iadd) 1 488 := ⟨by decide +kernel, rfl⟩
theorem dL_law_488 : q_at cL_law 488 (.iaload) 1 489 := ⟨by decide +kernel, rfl⟩
theorem dL_law_489 : q_at cL_law 489 (.invokevirtual 36) 3 492 := ⟨by decide +kernel, rfl⟩
theorem dL_law_492 : q_at cL_law 492 (.aload_n 2) 1 493 := ⟨by decide +kernel, rfl⟩
theorem dL_law_493 : q_at cL_law 493 (.aload_n 0) 1 494 := ⟨by decide +kernel, rfl⟩
theorem dL_law_494 : q_at cL_law 494 (.iload_n 3) 1 495 := ⟨by decide +kernel, rfl⟩
theorem dL_law_495 : q_at cL_law 495 (.iconst 1) 1 496 := ⟨by decide +kernel, rfl⟩
theorem dL_law_496 : q_at cL_law 496 (.iadd) 1 497 := ⟨by decide +kernel, rfl⟩
theorem dL_law_497 : q_at cL_law 497 (.iaload) 1 498 := ⟨by decide +kernel, rfl⟩
theorem dL_law_498 : q_at cL_law 498 (.aload_n 0) 1 499 := ⟨by decide +kernel, rfl⟩
theorem dL_law_499 : q_at cL_law 499 (.iload_n 3) 1 500 := ⟨by decide +kernel, rfl⟩
theorem dL_law_500 : q_at cL_law 500 (.iconst 2) 1 501 := ⟨by decide +kernel, rfl⟩
theorem dL_law_501 : q_at cL_law 501 (.iadd) 1 502 := ⟨by decide +kernel, rfl⟩
theorem dL_law_502 : q_at cL_law 502 (.iaload) 1 503 := ⟨by decide +kernel, rfl⟩
theorem dL_law_503 : q_at cL_law 503 (.aload_n 0) 1 504 := ⟨by decide +kernel, rfl⟩
theorem dL_law_504 : q_at cL_law 504 (.iload_n 3) 1 505 := ⟨by decide +kernel, rfl⟩
theorem dL_law_505 : q_at cL_law 505 (.iconst 3) 1 506 := ⟨by decide +kernel, rfl⟩
theorem dL_law_506 : q_at cL_law 506 (.iadd) 1 507 := ⟨by decide +kernel, rfl⟩
theorem dL_law_507 : q_at cL_law 507 (.iaload) 1 508 := ⟨by decide +kernel, rfl⟩
theorem dL_law_508 : q_at cL_law 508 (.invokevirtual 39) 3 511 := ⟨by decide +kernel, rfl⟩
theorem dL_law_511 : q_at cL_law 511 (.if_icmp .eq 1662) 3 514 := ⟨by decide +kernel, rfl⟩
theorem dL_law_514 : q_at cL_law 514 (.iconst 0) 1 515 := ⟨by decide +kernel, rfl⟩
theorem dL_law_515 : q_at cL_law 515 (.ireturn) 1 516 := ⟨by decide +kernel, rfl⟩
theorem dL_law_516 : q_at cL_law 516 (.aload_n 1) 1 517 := ⟨by decide +kernel, rfl⟩
theorem dL_law_517 : q_at cL_law 517 (.aload_n 0) 1 518 := ⟨by decide +kernel, rfl⟩
theorem dL_law_518 : q_at cL_law 518 (.iload_n 3) 1 519 := ⟨by decide +kernel, rfl⟩
theorem dL_law_519 : q_at cL_law 519 (.iconst 1) 1 520 := ⟨by decide +kernel, rfl⟩
theorem dL_law_520 : q_at cL_law 520 (.iadd) 1 521 := ⟨by decide +kernel, rfl⟩
theorem dL_law_521 : q_at cL_law 521 (.iaload) 1 522 := ⟨by decide +kernel, rfl⟩
theorem dL_law_522 : q_at cL_law 522 (.aload_n 0) 1 523 := ⟨by decide +kernel, rfl⟩
theorem dL_law_523 : q_at cL_law 523 (.iload_n 3) 1 524 := ⟨by decide +kernel, rfl⟩
theorem dL_law_524 : q_at cL_law 524 (.iconst 2) 1 525 := ⟨by decide +kernel, rfl⟩
theorem dL_law_525 : q_at cL_law 525 (.iadd) 1 526 := ⟨by decide +kernel, rfl⟩
theorem dL_law_526 : q_at cL_law 526 (.iaload) 1 527 := ⟨by decide +kernel, rfl⟩
theorem dL_law_527 : q_at cL_law 527 (.invokevirtual 40) 3 530 := ⟨by decide +kernel, rfl⟩
theorem dL_law_530 : q_at cL_law 530 (.aload_n 2) 1 531 := ⟨by decide +kernel, rfl⟩
theorem dL_law_531 : q_at cL_law 531 (.aload_n 0) 1 532 := ⟨by decide +kernel, rfl⟩
theorem dL_law_532 : q_at cL_law 532 (.iload_n 3) 1 533 := ⟨by decide +kernel, rfl⟩
theorem dL_law_533 : q_at cL_law 533 (.iconst 1) 1 534 := ⟨by decide +kernel, rfl⟩
theorem dL_law_534 : q_at cL_law 534 (.iadd) 1 535 := ⟨by decide +kernel, rfl⟩
theorem dL_law_535 : q_at cL_law 535 (.iaload) 1 536 := ⟨by decide +kernel, rfl⟩
theorem dL_law_536 : q_at cL_law 536 (.aload_n 0) 1 537 := ⟨by decide +kernel, rfl⟩
theorem dL_law_537 : q_at cL_law 537 (.iload_n 3) 1 538 := ⟨by decide +kernel, rfl⟩
theorem dL_law_538 : q_at cL_law 538 (.iconst 2) 1 539 := ⟨by decide +kernel, rfl⟩
theorem dL_law_539 : q_at cL_law 539 (.iadd) 1 540 := ⟨by decide +kernel, rfl⟩
theorem dL_law_540 : q_at cL_law 540 (.iaload) 1 541 := ⟨by decide +kernel, rfl⟩
theorem dL_law_541 : q_at cL_law 541 (.invokevirtual 43) 3 544 := ⟨by decide +kernel, rfl⟩
theorem dL_law_544 : q_at cL_law 544 (.if_icmp .eq 1629) 3 547 := ⟨by decide +kernel, rfl⟩
theorem dL_law_547 : q_at cL_law 547 (.iconst 0) 1 548 := ⟨by decide +kernel, rfl⟩
theorem dL_law_548 : q_at cL_law 548 (.ireturn) 1 549 := ⟨by decide +kernel, rfl⟩
theorem dL_law_549 : q_at cL_law 549 (.aload_n 1) 1 550 := ⟨by decide +kernel, rfl⟩
theorem dL_law_550 : q_at cL_law 550 (.aload_n 0) 1 551 := ⟨by decide +kernel, rfl⟩
theorem dL_law_551 : q_at cL_law 551 (.iload_n 3) 1 552 := ⟨by decide +kernel, rfl⟩
theorem dL_law_552 : q_at cL_law 552 (.iconst 1) 1 553 := ⟨by decide +kernel, rfl⟩
theorem dL_law_553 : q_at cL_law 553 (.iadd) 1 554 := ⟨by decide +kernel, rfl⟩
theorem dL_law_554 : q_at cL_law 554 (.iaload) 1 555 := ⟨by decide +kernel, rfl⟩
theorem dL_law_555 : q_at cL_law 555 (.aload_n 0) 1 556 := ⟨by decide +kernel, rfl⟩
theorem dL_law_556 : q_at cL_law 556 (.iload_n 3) 1 557 := ⟨by decide +kernel, rfl⟩
theorem dL_law_557 : q_at cL_law 557 (.iconst 2) 1 558 := ⟨by decide +kernel, rfl⟩
theorem dL_law_558 : q_at cL_law 558 (.iadd) 1 559 := ⟨by decide +kernel, rfl⟩
theorem dL_law_559 : q_at cL_law 559 (.iaload) 1 560 := ⟨by decide +kernel, rfl⟩
theorem dL_law_560 : q_at cL_law 560 (.aload_n 0) 1 561 := ⟨by decide +kernel, rfl⟩
theorem dL_law_561 : q_at cL_law 561 (.iload_n 3) 1 562 := ⟨by decide +kernel, rfl⟩
theorem dL_law_562 : q_at cL_law 562 (.iconst 3) 1 563 := ⟨by decide +kernel, rfl⟩
theorem dL_law_563 : q_at cL_law 563 (.iadd) 1 564 := ⟨by decide +kernel, rfl⟩
theorem dL_law_564 : q_at cL_law 564 (.iaload) 1 565 := ⟨by decide +kernel, rfl⟩
theorem dL_law_565 : q_at cL_law 565 (.invokevirtual 44) 3 568 := ⟨by decide +kernel, rfl⟩
theorem dL_law_568 : q_at cL_law 568 (.aload_n 2) 1 569 := ⟨by decide +kernel, rfl⟩
theorem dL_law_569 : q_at cL_law 569 (.aload_n 0) 1 570 := ⟨by decide +kernel, rfl⟩
theorem dL_law_570 : q_at cL_law 570 (.iload_n 3) 1 571 := ⟨by decide +kernel, rfl⟩
theorem dL_law_571 : q_at cL_law 571 (.iconst 1) 1 572 := ⟨by decide +kernel, rfl⟩
theorem dL_law_572 : q_at cL_law 572 (.iadd) 1 573 := ⟨by decide +kernel, rfl⟩
theorem dL_law_573 : q_at cL_law 573 (.iaload) 1 574 := ⟨by decide +kernel, rfl⟩
theorem dL_law_574 : q_at cL_law 574 (.aload_n 0) 1 575 := ⟨by decide +kernel, rfl⟩
theorem dL_law_575 : q_at cL_law 575 (.iload_n 3) 1 576 := ⟨by decide +kernel, rfl⟩
theorem dL_law_576 : q_at cL_law 576 (.iconst 2) 1 577 := ⟨by decide +kernel, rfl⟩
theorem dL_law_577 : q_at cL_law 577 (.iadd) 1 578 := ⟨by decide +kernel, rfl⟩
theorem dL_law_578 : q_at cL_law 578 (.iaload) 1 579 := ⟨by decide +kernel, rfl⟩
theorem dL_law_579 : q_at cL_law 579 (.aload_n 0) 1 580 := ⟨by decide +kernel, rfl⟩
theorem dL_law_580 : q_at cL_law 580 (.iload_n 3) 1 581 := ⟨by decide +kernel, rfl⟩
theorem dL_law_581 : q_at cL_law 581 (.iconst 3) 1 582 := ⟨by decide +kernel, rfl⟩
theorem dL_law_582 : q_at cL_law 582 (.iadd) 1 583 := ⟨by decide +kernel, rfl⟩
theorem dL_law_583 : q_at cL_law 583 (.iaload) 1 584 := ⟨by decide +kernel, rfl⟩
theorem dL_law_584 : q_at cL_law 584 (.invokevirtual 47) 3 587 := ⟨by decide +kernel, rfl⟩
theorem dL_law_587 : q_at cL_law 587 (.if_icmp .eq 1586) 3 590 := ⟨by decide +kernel, rfl⟩
theorem dL_law_590 : q_at cL_law 590 (.iconst 0) 1 591 := ⟨by decide +kernel, rfl⟩
theorem dL_law_591 : q_at cL_law 591 (.ireturn) 1 592 := ⟨by decide +kernel, rfl⟩
theorem dL_law_592 : q_at cL_law 592 (.aload_n 1) 1 593 := ⟨by decide +kernel, rfl⟩
theorem dL_law_593 : q_at cL_law 593 (.aload_n 0) 1 594 := ⟨by decide +kernel, rfl⟩
theorem dL_law_594 : q_at cL_law 594 (.iload_n 3) 1 595 := ⟨by decide +kernel, rfl⟩
theorem dL_law_595 : q_at cL_law 595 (.iconst 1) 1 596 := ⟨by decide +kernel, rfl⟩
theorem dL_law_596 : q_at cL_law 596 (.iadd) 1 597 := ⟨by decide +kernel, rfl⟩
theorem dL_law_597 : q_at cL_law 597 (.iaload) 1 598 := ⟨by decide +kernel, rfl⟩
theorem dL_law_598 : q_at cL_law 598 (.aload_n 0) 1 599 := ⟨by decide +kernel, rfl⟩
theorem dL_law_599 : q_at cL_law 599 (.iload_n 3) 1 600 := ⟨by decide +kernel, rfl⟩
theorem dL_law_600 : q_at cL_law 600 (.iconst 2) 1 601 := ⟨by decide +kernel, rfl⟩
theorem dL_law_601 : q_at cL_law 601 (.iadd) 1 602 := ⟨by decide +kernel, rfl⟩
theorem dL_law_602 : q_at cL_law 602 (.iaload) 1 603 := ⟨by decide +kernel, rfl⟩
theorem dL_law_603 : q_at cL_law 603 (.aload_n 0) 1 604 := ⟨by decide +kernel, rfl⟩
theorem dL_law_604 : q_at cL_law 604 (.iload_n 3) 1 605 := ⟨by decide +kernel, rfl⟩
theorem dL_law_605 : q_at cL_law 605 (.iconst 3) 1 606 := ⟨by decide +kernel, rfl⟩
theorem dL_law_606 : q_at cL_law 606 (.iadd) 1 607 := ⟨by decide +kernel, rfl⟩
theorem dL_law_607 : q_at cL_law 607 (.iaload) 1 608 := ⟨by decide +kernel, rfl⟩
theorem dL_law_608 : q_at cL_law 608 (.invokevirtual 48) 3 611 := ⟨by decide +kernel, rfl⟩
theorem dL_law_611 : q_at cL_law 611 (.aload_n 2) 1 612 := ⟨by decide +kernel, rfl⟩
theorem dL_law_612 : q_at cL_law 612 (.aload_n 0) 1 613 := ⟨by decide +kernel, rfl⟩
theorem dL_law_613 : q_at cL_law 613 (.iload_n 3) 1 614 := ⟨by decide +kernel, rfl⟩
theorem dL_law_614 : q_at cL_law 614 (.iconst 1) 1 615 := ⟨by decide +kernel, rfl⟩
theorem dL_law_615 : q_at cL_law 615 (.iadd) 1 616 := ⟨by decide +kernel, rfl⟩
theorem dL_law_616 : q_at cL_law 616 (.iaload) 1 617 := ⟨by decide +kernel, rfl⟩
theorem dL_law_617 : q_at cL_law 617 (.aload_n 0) 1 618 := ⟨by decide +kernel, rfl⟩
theorem dL_law_618 : q_at cL_law 618 (.iload_n 3) 1 619 := ⟨by decide +kernel, rfl⟩
theorem dL_law_619 : q_at cL_law 619 (.iconst 2) 1 620 := ⟨by decide +kernel, rfl⟩
theorem dL_law_620 : q_at cL_law 620 (.iadd) 1 621 := ⟨by decide +kernel, rfl⟩
theorem dL_law_621 : q_at cL_law 621 (.iaload) 1 622 := ⟨by decide +kernel, rfl⟩
theorem dL_law_622 : q_at cL_law 622 (.aload_n 0) 1 623 := ⟨by decide +kernel, rfl⟩
theorem dL_law_623 : q_at cL_law 623 (.iload_n 3) 1 624 := ⟨by decide +kernel, rfl⟩
theorem dL_law_624 : q_at cL_law 624 (.iconst 3) 1 625 := ⟨by decide +kernel, rfl⟩
theorem dL_law_625 : q_at cL_law 625 (.iadd) 1 626 := ⟨by decide +kernel, rfl⟩
theorem dL_law_626 : q_at cL_law 626 (.iaload) 1 627 := ⟨by decide +kernel, rfl⟩
theorem dL_law_627 : q_at cL_law 627 (.invokevirtual 51) 3 630 := ⟨by decide +kernel, rfl⟩
theorem dL_law_630 : q_at cL_law 630 (.if_icmp .eq 1543) 3 633 := ⟨by decide +kernel, rfl⟩
theorem dL_law_633 : q_at cL_law 633 (.iconst 0) 1 634 := ⟨by decide +kernel, rfl⟩
theorem dL_law_634 : q_at cL_law 634 (.ireturn) 1 635 := ⟨by decide +kernel, rfl⟩
theorem dL_law_635 : q_at cL_law 635 (.aload_n 1) 1 636 := ⟨by decide +kernel, rfl⟩
theorem dL_law_636 : q_at cL_law 636 (.aload_n 0) 1 637 := ⟨by decide +kernel, rfl⟩
theorem dL_law_637 : q_at cL_law 637 (.iload_n 3) 1 638 := ⟨by decide +kernel, rfl⟩
theorem dL_law_638 : q_at cL_law 638 (.iconst 1) 1 639 := ⟨by decide +kernel, rfl⟩
theorem dL_law_639 : q_at cL_law 639 (.iadd) 1 640 := ⟨by decide +kernel, rfl⟩
theorem dL_law_640 : q_at cL_law 640 (.iaload) 1 641 := ⟨by decide +kernel, rfl⟩
theorem dL_law_641 : q_at cL_law 641 (.aload_n 0) 1 642 := ⟨by decide +kernel, rfl⟩
theorem dL_law_642 : q_at cL_law 642 (.iload_n 3) 1 643 := ⟨by decide +kernel, rfl⟩
theorem dL_law_643 : q_at cL_law 643 (.iconst 2) 1 644 := ⟨by decide +kernel, rfl⟩
theorem dL_law_644 : q_at cL_law 644 (.iadd) 1 645 := ⟨by decide +kernel, rfl⟩
theorem dL_law_645 : q_at cL_law 645 (.iaload) 1 646 := ⟨by decide +kernel, rfl⟩
theorem dL_law_646 : q_at cL_law 646 (.invokevirtual 52) 3 649 := ⟨by decide +kernel, rfl⟩
theorem dL_law_649 : q_at cL_law 649 (.aload_n 2) 1 650 := ⟨by decide +kernel, rfl⟩
theorem dL_law_650 : q_at cL_law 650 (.aload_n 0) 1 651 := ⟨by decide +kernel, rfl⟩
theorem dL_law_651 : q_at cL_law 651 (.iload_n 3) 1 652 := ⟨by decide +kernel, rfl⟩
theorem dL_law_652 : q_at cL_law 652 (.iconst 1) 1 653 := ⟨by decide +kernel, rfl⟩
theorem dL_law_653 : q_at cL_law 653 (.iadd) 1 654 := ⟨by decide +kernel, rfl⟩
theorem dL_law_654 : q_at cL_law 654 (.iaload) 1 655 := ⟨by decide +kernel, rfl⟩
theorem dL_law_655 : q_at cL_law 655 (.aload_n 0) 1 656 := ⟨by decide +kernel, rfl⟩
theorem dL_law_656 : q_at cL_law 656 (.iload_n 3) 1 657 := ⟨by decide +kernel, rfl⟩
theorem dL_law_657 : q_at cL_law 657 (.iconst 2) 1 658 := ⟨by decide +kernel, rfl⟩
theorem dL_law_658 : q_at cL_law 658 (.iadd) 1 659 := ⟨by decide +kernel, rfl⟩
theorem dL_law_659 : q_at cL_law 659 (.iaload) 1 660 := ⟨by decide +kernel, rfl⟩
theorem dL_law_660 : q_at cL_law 660 (.invokevirtual 55) 3 663 := ⟨by decide +kernel, rfl⟩
theorem dL_law_663 : q_at cL_law 663 (.if_icmp .eq 1510) 3 666 := ⟨by decide +kernel, rfl⟩
theorem dL_law_666 : q_at cL_law 666 (.iconst 0) 1 667 := ⟨by decide +kernel, rfl⟩
theorem dL_law_667 : q_at cL_law 667 (.ireturn) 1 668 := ⟨by decide +kernel, rfl⟩
theorem dL_law_668 : q_at cL_law 668 (.aload_n 1) 1 669 := ⟨by decide +kernel, rfl⟩
theorem dL_law_669 : q_at cL_law 669 (.aload_n 0) 1 670 := ⟨by decide +kernel, rfl⟩
theorem dL_law_670 : q_at cL_law 670 (.iload_n 3) 1 671 := ⟨by decide +kernel, rfl⟩
theorem dL_law_671 : q_at cL_law 671 (.iconst 1) 1 672 := ⟨by decide +kernel, rfl⟩
theorem dL_law_672 : q_at cL_law 672 (.iadd) 1 673 := ⟨by decide +kernel, rfl⟩
theorem dL_law_673 : q_at cL_law 673 (.iaload) 1 674 := ⟨by decide +kernel, rfl⟩
theorem dL_law_674 : q_at cL_law 674 (.aload_n 0) 1 675 := ⟨by decide +kernel, rfl⟩
theorem dL_law_675 : q_at cL_law 675 (.iload_n 3) 1 676 := ⟨by decide +kernel, rfl⟩
theorem dL_law_676 : q_at cL_law 676 (.iconst 2) 1 677 := ⟨by decide +kernel, rfl⟩
theorem dL_law_677 : q_at cL_law 677 (.iadd) 1 678 := ⟨by decide +kernel, rfl⟩
theorem dL_law_678 : q_at cL_law 678 (.iaload) 1 679 := ⟨by decide +kernel, rfl⟩
theorem dL_law_679 : q_at cL_law 679 (.invokevirtual 56) 3 682 := ⟨by decide +kernel, rfl⟩
theorem dL_law_682 : q_at cL_law 682 (.aload_n 2) 1 683 := ⟨by decide +kernel, rfl⟩
theorem dL_law_683 : q_at cL_law 683 (.aload_n 0) 1 684 := ⟨by decide +kernel, rfl⟩
theorem dL_law_684 : q_at cL_law 684 (.iload_n 3) 1 685 := ⟨by decide +kernel, rfl⟩
theorem dL_law_685 : q_at cL_law 685 (.iconst 1) 1 686 := ⟨by decide +kernel, rfl⟩
theorem dL_law_686 : q_at cL_law 686 (.iadd) 1 687 := ⟨by decide +kernel, rfl⟩
theorem dL_law_687 : q_at cL_law 687 (.iaload) 1 688 := ⟨by decide +kernel, rfl⟩
theorem dL_law_688 : q_at cL_law 688 (.aload_n 0) 1 689 := ⟨by decide +kernel, rfl⟩
theorem dL_law_689 : q_at cL_law 689 (.iload_n 3) 1 690 := ⟨by decide +kernel, rfl⟩
theorem dL_law_690 : q_at cL_law 690 (.iconst 2) 1 691 := ⟨by decide +kernel, rfl⟩
theorem dL_law_691 : q_at cL_law 691 (.iadd) 1 692 := ⟨by decide +kernel, rfl⟩
theorem dL_law_692 : q_at cL_law 692 (.iaload) 1 693 := ⟨by decide +kernel, rfl⟩
theorem dL_law_693 : q_at cL_law 693 (.invokevirtual 59) 3 696 := ⟨by decide +kernel, rfl⟩
theorem dL_law_696 : q_at cL_law 696 (.if_icmp .eq 1477) 3 699 := ⟨by decide +kernel, rfl⟩
theorem dL_law_699 : q_at cL_law 699 (.iconst 0) 1 700 := ⟨by decide +kernel, rfl⟩
theorem dL_law_700 : q_at cL_law 700 (.ireturn) 1 701 := ⟨by decide +kernel, rfl⟩
theorem dL_law_701 : q_at cL_law 701 (.aload_n 1) 1 702 := ⟨by decide +kernel, rfl⟩
theorem dL_law_702 : q_at cL_law 702 (.aload_n 0) 1 703 := ⟨by decide +kernel, rfl⟩
theorem dL_law_703 : q_at cL_law 703 (.iload_n 3) 1 704 := ⟨by decide +kernel, rfl⟩
theorem dL_law_704 : q_at cL_law 704 (.iconst 1) 1 705 := ⟨by decide +kernel, rfl⟩
theorem dL_law_705 : q_at cL_law 705 (.iadd) 1 706 := ⟨by decide +kernel, rfl⟩
theorem dL_law_706 : q_at cL_law 706 (.iaload) 1 707 := ⟨by decide +kernel, rfl⟩
theorem dL_law_707 : q_at cL_law 707 (.invokevirtual 60) 3 710 := ⟨by decide +kernel, rfl⟩
theorem dL_law_710 : q_at cL_law 710 (.aload_n 2) 1 711 := ⟨by decide +kernel, rfl⟩
theorem dL_law_711 : q_at cL_law 711 (.aload_n 0) 1 712 := ⟨by decide +kernel, rfl⟩
theorem dL_law_712 : q_at cL_law 712 (.iload_n 3) 1 713 := ⟨by decide +kernel, rfl⟩
theorem dL_law_713 : q_at cL_law 713 (.iconst 1) 1 714 := ⟨by decide +kernel, rfl⟩
theorem dL_law_714 : q_at cL_law 714 (.iadd) 1 715 := ⟨by decide +kernel, rfl⟩
theorem dL_law_715 : q_at cL_law 715 (.iaload) 1 716 := ⟨by decide +kernel, rfl⟩
theorem dL_law_716 : q_at cL_law 716 (.invokevirtual 64) 3 719 := ⟨by decide +kernel, rfl⟩
theorem dL_law_719 : q_at cL_law 719 (.if_icmp .eq 1454) 3 722 := ⟨by decide +kernel, rfl⟩
theorem dL_law_722 : q_at cL_law 722 (.iconst 0) 1 723 := ⟨by decide +kernel, rfl⟩
theorem dL_law_723 : q_at cL_law 723 (.ireturn) 1 724 := ⟨by decide +kernel, rfl⟩
theorem dL_law_724 : q_at cL_law 724 (.aload_n 1) 1 725 := ⟨by decide +kernel, rfl⟩
theorem dL_law_725 : q_at cL_law 725 (.aload_n 0) 1 726 := ⟨by decide +kernel, rfl⟩
theorem dL_law_726 : q_at cL_law 726 (.iload_n 3) 1 727 := ⟨by decide +kernel, rfl⟩
theorem dL_law_727 : q_at cL_law 727 (.iconst 1) 1 728 := ⟨by decide +kernel, rfl⟩
theorem dL_law_728 : q_at cL_law 728 (.iadd) 1 729 := ⟨by decide +kernel, rfl⟩
theorem dL_law_729 : q_at cL_law 729 (.iaload) 1 730 := ⟨by decide +kernel, rfl⟩
theorem dL_law_730 : q_at cL_law 730 (.aload_n 0) 1 731 := ⟨by decide +kernel, rfl⟩
theorem dL_law_731 : q_at cL_law 731 (.iload_n 3) 1 732 := ⟨by decide +kernel, rfl⟩
theorem dL_law_732 : q_at cL_law 732 (.iconst 2) 1 733 := ⟨by decide +kernel, rfl⟩
theorem dL_law_733 : q_at cL_law 733 (.iadd) 1 734 := ⟨by decide +kernel, rfl⟩
theorem dL_law_734 : q_at cL_law 734 (.iaload) 1 735 := ⟨by decide +kernel, rfl⟩
theorem dL_law_735 : q_at cL_law 735 (.aload_n 0) 1 736 := ⟨by decide +kernel, rfl⟩
theorem dL_law_736 : q_at cL_law 736 (.iload_n 3) 1 737 := ⟨by decide +kernel, rfl⟩
theorem dL_law_737 : q_at cL_law 737 (.iconst 3) 1 738 := ⟨by decide +kernel, rfl⟩
theorem dL_law_738 : q_at cL_law 738 (.iadd) 1 739 := ⟨by decide +kernel, rfl⟩
theorem dL_law_739 : q_at cL_law 739 (.iaload) 1 740 := ⟨by decide +kernel, rfl⟩
theorem dL_law_740 : q_at cL_law 740 (.invokevirtual 65) 3 743 := ⟨by decide +kernel, rfl⟩
theorem dL_law_743 : q_at cL_law 743 (.aload_n 2) 1 744 := ⟨by decide +kernel, rfl⟩
theorem dL_law_744 : q_at cL_law 744 (.aload_n 0) 1 745 := ⟨by decide +kernel, rfl⟩
theorem dL_law_745 : q_at cL_law 745 (.iload_n 3) 1 746 := ⟨by decide +kernel, rfl⟩
theorem dL_law_746 : q_at cL_law 746 (.iconst 1) 1 747 := ⟨by decide +kernel, rfl⟩
theorem dL_law_747 : q_at cL_law 747 (.iadd) 1 748 := ⟨by decide +kernel, rfl⟩
theorem dL_law_748 : q_at cL_law 748 (.iaload) 1 749 := ⟨by decide +kernel, rfl⟩
theorem dL_law_749 : q_at cL_law 749 (.aload_n 0) 1 750 := ⟨by decide +kernel, rfl⟩
theorem dL_law_750 : q_at cL_law 750 (.iload_n 3) 1 751 := ⟨by decide +kernel, rfl⟩
theorem dL_law_751 : q_at cL_law 751 (.iconst 2) 1 752 := ⟨by decide +kernel, rfl⟩
theorem dL_law_752 : q_at cL_law 752 (.iadd) 1 753 := ⟨by decide +kernel, rfl⟩
theorem dL_law_753 : q_at cL_law 753 (.iaload) 1 754 := ⟨by decide +kernel, rfl⟩
theorem dL_law_754 : q_at cL_law 754 (.aload_n 0) 1 755 := ⟨by decide +kernel, rfl⟩
theorem dL_law_755 : q_at cL_law 755 (.iload_n 3) 1 756 := ⟨by decide +kernel, rfl⟩
theorem dL_law_756 : q_at cL_law 756 (.iconst 3) 1 757 := ⟨by decide +kernel, rfl⟩
theorem dL_law_757 : q_at cL_law 757 (.iadd) 1 758 := ⟨by decide +kernel, rfl⟩
theorem dL_law_758 : q_at cL_law 758 (.iaload) 1 759 := ⟨by decide +kernel, rfl⟩
theorem dL_law_759 : q_at cL_law 759 (.invokevirtual 68) 3 762 := ⟨by decide +kernel, rfl⟩
theorem dL_law_762 : q_at cL_law 762 (.if_icmp .eq 1411) 3 765 := ⟨by decide +kernel, rfl⟩
theorem dL_law_765 : q_at cL_law 765 (.iconst 0) 1 766 := ⟨by decide +kernel, rfl⟩
theorem dL_law_766 : q_at cL_law 766 (.ireturn) 1 767 := ⟨by decide +kernel, rfl⟩
theorem dL_law_767 : q_at cL_law 767 (.aload_n 1) 1 768 := ⟨by decide +kernel, rfl⟩
theorem dL_law_768 : q_at cL_law 768 (.aload_n 0) 1 769 := ⟨by decide +kernel, rfl⟩
theorem dL_law_769 : q_at cL_law 769 (.iload_n 3) 1 770 := ⟨by decide +kernel, rfl⟩
theorem dL_law_770 : q_at cL_law 770 (.iconst 1) 1 771 := ⟨by decide +kernel, rfl⟩
theorem dL_law_771 : q_at cL_law 771 (.iadd) 1 772 := ⟨by decide +kernel, rfl⟩
theorem dL_law_772 : q_at cL_law 772 (.iaload) 1 773 := ⟨by decide +kernel, rfl⟩
theorem dL_law_773 : q_at cL_law 773 (.aload_n 0) 1 774 := ⟨by decide +kernel, rfl⟩
theorem dL_law_774 : q_at cL_law 774 (.iload_n 3) 1 775 := ⟨by decide +kernel, rfl⟩
theorem dL_law_775 : q_at cL_law 775 (.iconst 2) 1 776 := ⟨by decide +kernel, rfl⟩
theorem dL_law_776 : q_at cL_law 776 (.iadd) 1 777 := ⟨by decide +kernel, rfl⟩
theorem dL_law_777 : q_at cL_law 777 (.iaload) 1 778 := ⟨by decide +kernel, rfl⟩
theorem dL_law_778 : q_at cL_law 778 (.invokevirtual 69) 3 781 := ⟨by decide +kernel, rfl⟩
theorem dL_law_781 : q_at cL_law 781 (.aload_n 2) 1 782 := ⟨by decide +kernel, rfl⟩
theorem dL_law_782 : q_at cL_law 782 (.aload_n 0) 1 783 := ⟨by decide +kernel, rfl⟩
theorem dL_law_783 : q_at cL_law 783 (.iload_n 3) 1 784 := ⟨by decide +kernel, rfl⟩
theorem dL_law_784 : q_at cL_law 784 (.iconst 1) 1 785 := ⟨by decide +kernel, rfl⟩
theorem dL_law_785 : q_at cL_law 785 (.iadd) 1 786 := ⟨by decide +kernel, rfl⟩
theorem dL_law_786 : q_at cL_law 786 (.iaload) 1 787 := ⟨by decide +kernel, rfl⟩
theorem dL_law_787 : q_at cL_law 787 (.aload_n 0) 1 788 := ⟨by decide +kernel, rfl⟩
theorem dL_law_788 : q_at cL_law 788 (.iload_n 3) 1 789 := ⟨by decide +kernel, rfl⟩
theorem dL_law_789 : q_at cL_law 789 (.iconst 2) 1 790 := ⟨by decide +kernel, rfl⟩
theorem dL_law_790 : q_at cL_law 790 (.iadd) 1 791 := ⟨by decide +kernel, rfl⟩
theorem dL_law_791 : q_at cL_law 791 (.iaload) 1 792 := ⟨by decide +kernel, rfl⟩
theorem dL_law_792 : q_at cL_law 792 (.invokevirtual 72) 3 795 := ⟨by decide +kernel, rfl⟩
theorem dL_law_795 : q_at cL_law 795 (.if_icmp .eq 1378) 3 798 := ⟨by decide +kernel, rfl⟩
theorem dL_law_798 : q_at cL_law 798 (.iconst 0) 1 799 := ⟨by decide +kernel, rfl⟩
theorem dL_law_799 : q_at cL_law 799 (.ireturn) 1 800 := ⟨by decide +kernel, rfl⟩
theorem dL_law_800 : q_at cL_law 800 (.aload_n 1) 1 801 := ⟨by decide +kernel, rfl⟩
theorem dL_law_801 : q_at cL_law 801 (.aload_n 0) 1 802 := ⟨by decide +kernel, rfl⟩
theorem dL_law_802 : q_at cL_law 802 (.iload_n 3) 1 803 := ⟨by decide +kernel, rfl⟩
theorem dL_law_803 : q_at cL_law 803 (.iconst 1) 1 804 := ⟨by decide +kernel, rfl⟩
theorem dL_law_804 : q_at cL_law 804 (.iadd) 1 805 := ⟨by decide +kernel, rfl⟩
theorem dL_law_805 : q_at cL_law 805 (.iaload) 1 806 := ⟨by decide +kernel, rfl⟩
theorem dL_law_806 : q_at cL_law 806 (.aload_n 0) 1 807 := ⟨by decide +kernel, rfl⟩
theorem dL_law_807 : q_at cL_law 807 (.iload_n 3) 1 808 := ⟨by decide +kernel, rfl⟩
theorem dL_law_808 : q_at cL_law 808 (.iconst 2) 1 809 := ⟨by decide +kernel, rfl⟩
theorem dL_law_809 : q_at cL_law 809 (.iadd) 1 810 := ⟨by decide +kernel, rfl⟩
theorem dL_law_810 : q_at cL_law 810 (.iaload) 1 811 := ⟨by decide +kernel, rfl⟩
theorem dL_law_811 : q_at cL_law 811 (.aload_n 0) 1 812 := ⟨by decide +kernel, rfl⟩
theorem dL_law_812 : q_at cL_law 812 (.iload_n 3) 1 813 := ⟨by decide +kernel, rfl⟩
theorem dL_law_813 : q_at cL_law 813 (.iconst 3) 1 814 := ⟨by decide +kernel, rfl⟩
theorem dL_law_814 : q_at cL_law 814 (.iadd) 1 815 := ⟨by decide +kernel, rfl⟩
theorem dL_law_815 : q_at cL_law 815 (.iaload) 1 816 := ⟨by decide +kernel, rfl⟩
theorem dL_law_816 : q_at cL_law 816 (.invokevirtual 73) 3 819 := ⟨by decide +kernel, rfl⟩
theorem dL_law_819 : q_at cL_law 819 (.aload_n 2) 1 820 := ⟨by decide +kernel, rfl⟩
theorem dL_law_820 : q_at cL_law 820 (.aload_n 0) 1 821 := ⟨by decide +kernel, rfl⟩
theorem dL_law_821 : q_at cL_law 821 (.iload_n 3) 1 822 := ⟨by decide +kernel, rfl⟩
theorem dL_law_822 : q_at cL_law 822 (.iconst 1) 1 823 := ⟨by decide +kernel, rfl⟩
theorem dL_law_823 : q_at cL_law 823 (.iadd) 1 824 := ⟨by decide +kernel, rfl⟩
theorem dL_law_824 : q_at cL_law 824 (.iaload) 1 825 := ⟨by decide +kernel, rfl⟩
theorem dL_law_825 : q_at cL_law 825 (.aload_n 0) 1 826 := ⟨by decide +kernel, rfl⟩
theorem dL_law_826 : q_at cL_law 826 (.iload_n 3) 1 827 := ⟨by decide +kernel, rfl⟩
theorem dL_law_827 : q_at cL_law 827 (.iconst 2) 1 828 := ⟨by decide +kernel, rfl⟩
theorem dL_law_828 : q_at cL_law 828 (.iadd) 1 829 := ⟨by decide +kernel, rfl⟩
theorem dL_law_829 : q_at cL_law 829 (.iaload) 1 830 := ⟨by decide +kernel, rfl⟩
theorem dL_law_830 : q_at cL_law 830 (.aload_n 0) 1 831 := ⟨by decide +kernel, rfl⟩
theorem dL_law_831 : q_at cL_law 831 (.iload_n 3) 1 832 := ⟨by decide +kernel, rfl⟩
theorem dL_law_832 : q_at cL_law 832 (.iconst 3) 1 833 := ⟨by decide +kernel, rfl⟩
theorem dL_law_833 : q_at cL_law 833 (.iadd) 1 834 := ⟨by decide +kernel, rfl⟩
theorem dL_law_834 : q_at cL_law 834 (.iaload) 1 835 := ⟨by decide +kernel, rfl⟩
theorem dL_law_835 : q_at cL_law 835 (.invokevirtual 76) 3 838 := ⟨by decide +kernel, rfl⟩
theorem dL_law_838 : q_at cL_law 838 (.if_icmp .eq 1335) 3 841 := ⟨by decide +kernel, rfl⟩
theorem dL_law_841 : q_at cL_law 841 (.iconst 0) 1 842 := ⟨by decide +kernel, rfl⟩
theorem dL_law_842 : q_at cL_law 842 (.ireturn) 1 843 := ⟨by decide +kernel, rfl⟩
theorem dL_law_843 : q_at cL_law 843 (.aload_n 1) 1 844 := ⟨by decide +kernel, rfl⟩
theorem dL_law_844 : q_at cL_law 844 (.aload_n 0) 1 845 := ⟨by decide +kernel, rfl⟩
theorem dL_law_845 : q_at cL_law 845 (.iload_n 3) 1 846 := ⟨by decide +kernel, rfl⟩
theorem dL_law_846 : q_at cL_law 846 (.iconst 1) 1 847 := ⟨by decide +kernel, rfl⟩
theorem dL_law_847 : q_at cL_law 847 (.iadd) 1 848 := ⟨by decide +kernel, rfl⟩
theorem dL_law_848 : q_at cL_law 848 (.iaload) 1 849 := ⟨by decide +kernel, rfl⟩
theorem dL_law_849 : q_at cL_law 849 (.aload_n 0) 1 850 := ⟨by decide +kernel, rfl⟩
theorem dL_law_850 : q_at cL_law 850 (.iload_n 3) 1 851 := ⟨by decide +kernel, rfl⟩
theorem dL_law_851 : q_at cL_law 851 (.iconst 2) 1 852 := ⟨by decide +kernel, rfl⟩
theorem dL_law_852 : q_at cL_law 852 (.iadd) 1 853 := ⟨by decide +kernel, rfl⟩
theorem dL_law_853 : q_at cL_law 853 (.iaload) 1 854 := ⟨by decide +kernel, rfl⟩
theorem dL_law_854 : q_at cL_law 854 (.aload_n 0) 1 855 := ⟨by decide +kernel, rfl⟩
theorem dL_law_855 : q_at cL_law 855 (.iload_n 3) 1 856 := ⟨by decide +kernel, rfl⟩
theorem dL_law_856 : q_at cL_law 856 (.iconst 3) 1 857 := ⟨by decide +kernel, rfl⟩
theorem dL_law_857 : q_at cL_law 857 (.iadd) 1 858 := ⟨by decide +kernel, rfl⟩
theorem dL_law_858 : q_at cL_law 858 (.iaload) 1 859 := ⟨by decide +kernel, rfl⟩
theorem dL_law_859 : q_at cL_law 859 (.invokevirtual 77) 3 862 := ⟨by decide +kernel, rfl⟩
theorem dL_law_862 : q_at cL_law 862 (.aload_n 2) 1 863 := ⟨by decide +kernel, rfl⟩
theorem dL_law_863 : q_at cL_law 863 (.aload_n 0) 1 864 := ⟨by decide +kernel, rfl⟩
theorem dL_law_864 : q_at cL_law 864 (.iload_n 3) 1 865 := ⟨by decide +kernel, rfl⟩
theorem dL_law_865 : q_at cL_law 865 (.iconst 1) 1 866 := ⟨by decide +kernel, rfl⟩
theorem dL_law_866 : q_at cL_law 866 (.iadd) 1 867 := ⟨by decide +kernel, rfl⟩
theorem dL_law_867 : q_at cL_law 867 (.iaload) 1 868 := ⟨by decide +kernel, rfl⟩
theorem dL_law_868 : q_at cL_law 868 (.aload_n 0) 1 869 := ⟨by decide +kernel, rfl⟩
theorem dL_law_869 : q_at cL_law 869 (.iload_n 3) 1 870 := ⟨by decide +kernel, rfl⟩
theorem dL_law_870 : q_at cL_law 870 (.iconst 2) 1 871 := ⟨by decide +kernel, rfl⟩
theorem dL_law_871 : q_at cL_law 871 (.iadd) 1 872 := ⟨by decide +kernel, rfl⟩
theorem dL_law_872 : q_at cL_law 872 (.iaload) 1 873 := ⟨by decide +kernel, rfl⟩
theorem dL_law_873 : q_at cL_law 873 (.aload_n 0) 1 874 := ⟨by decide +kernel, rfl⟩
theorem dL_law_874 : q_at cL_law 874 (.iload_n 3) 1 875 := ⟨by decide +kernel, rfl⟩
theorem dL_law_875 : q_at cL_law 875 (.iconst 3) 1 876 := ⟨by decide +kernel, rfl⟩
theorem dL_law_876 : q_at cL_law 876 (.iadd) 1 877 := ⟨by decide +kernel, rfl⟩
theorem dL_law_877 : q_at cL_law 877 (.iaload) 1 878 := ⟨by decide +kernel, rfl⟩
theorem dL_law_878 : q_at cL_law 878 (.invokevirtual 80) 3 881 := ⟨by decide +kernel, rfl⟩
theorem dL_law_881 : q_at cL_law 881 (.if_icmp .eq 1292) 3 884 := ⟨by decide +kernel, rfl⟩
theorem dL_law_884 : q_at cL_law 884 (.iconst 0) 1 885 := ⟨by decide +kernel, rfl⟩
theorem dL_law_885 : q_at cL_law 885 (.ireturn) 1 886 := ⟨by decide +kernel, rfl⟩
theorem dL_law_886 : q_at cL_law 886 (.aload_n 1) 1 887 := ⟨by decide +kernel, rfl⟩
theorem dL_law_887 : q_at cL_law 887 (.aload_n 0) 1 888 := ⟨by decide +kernel, rfl⟩
theorem dL_law_888 : q_at cL_law 888 (.iload_n 3) 1 889 := ⟨by decide +kernel, rfl⟩
theorem dL_law_889 : q_at cL_law 889 (.iconst 1) 1 890 := ⟨by decide +kernel, rfl⟩
theorem dL_law_890 : q_at cL_law 890 (.iadd) 1 891 := ⟨by decide +kernel, rfl⟩
theorem dL_law_891 : q_at cL_law 891 (.iaload) 1 892 := ⟨by decide +kernel, rfl⟩
theorem dL_law_892 : q_at cL_law 892 (.invokevirtual 81) 3 895 := ⟨by decide +kernel, rfl⟩
theorem dL_law_895 : q_at cL_law 895 (.aload_n 2) 1 896 := ⟨by decide +kernel, rfl⟩
theorem dL_law_896 : q_at cL_law 896 (.aload_n 0) 1 897 := ⟨by decide +kernel, rfl⟩
theorem dL_law_897 : q_at cL_law 897 (.iload_n 3) 1 898 := ⟨by decide +kernel, rfl⟩
theorem dL_law_898 : q_at cL_law 898 (.iconst 1) 1 899 := ⟨by decide +kernel, rfl⟩
theorem dL_law_899 : q_at cL_law 899 (.iadd) 1 900 := ⟨by decide +kernel, rfl⟩
theorem dL_law_900 : q_at cL_law 900 (.iaload) 1 901 := ⟨by decide +kernel, rfl⟩
theorem dL_law_901 : q_at cL_law 901 (.invokevirtual 84) 3 904 := ⟨by decide +kernel, rfl⟩
theorem dL_law_904 : q_at cL_law 904 (.if_icmp .eq 1269) 3 907 := ⟨by decide +kernel, rfl⟩
theorem dL_law_907 : q_at cL_law 907 (.iconst 0) 1 908 := ⟨by decide +kernel, rfl⟩
theorem dL_law_908 : q_at cL_law 908 (.ireturn) 1 909 := ⟨by decide +kernel, rfl⟩
theorem dL_law_909 : q_at cL_law 909 (.aload_n 1) 1 910 := ⟨by decide +kernel, rfl⟩
theorem dL_law_910 : q_at cL_law 910 (.aload_n 0) 1 911 := ⟨by decide +kernel, rfl⟩
theorem dL_law_911 : q_at cL_law 911 (.iload_n 3) 1 912 := ⟨by decide +kernel, rfl⟩
theorem dL_law_912 : q_at cL_law 912 (.iconst 1) 1 913 := ⟨by decide +kernel, rfl⟩
theorem dL_law_913 : q_at cL_law 913 (.iadd) 1 914 := ⟨by decide +kernel, rfl⟩
theorem dL_law_914 : q_at cL_law 914 (.iaload) 1 915 := ⟨by decide +kernel, rfl⟩
theorem dL_law_915 : q_at cL_law 915 (.aload_n 0) 1 916 := ⟨by decide +kernel, rfl⟩
theorem dL_law_916 : q_at cL_law 916 (.iload_n 3) 1 917 := ⟨by decide +kernel, rfl⟩
theorem dL_law_917 : q_at cL_law 917 (.iconst 2) 1 918 := ⟨by decide +kernel, rfl⟩
theorem dL_law_918 : q_at cL_law 918 (.iadd) 1 919 := ⟨by decide +kernel, rfl⟩
theorem dL_law_919 : q_at cL_law 919 (.iaload) 1 920 := ⟨by decide +kernel, rfl⟩
theorem dL_law_920 : q_at cL_law 920 (.aload_n 0) 1 921 := ⟨by decide +kernel, rfl⟩
theorem dL_law_921 : q_at cL_law 921 (.iload_n 3) 1 922 := ⟨by decide +kernel, rfl⟩
theorem dL_law_922 : q_at cL_law 922 (.iconst 3) 1 923 := ⟨by decide +kernel, rfl⟩
theorem dL_law_923 : q_at cL_law 923 (.iadd) 1 924 := ⟨by decide +kernel, rfl⟩
theorem dL_law_924 : q_at cL_law 924 (.iaload) 1 925 := ⟨by decide +kernel, rfl⟩
theorem dL_law_925 : q_at cL_law 925 (.invokevirtual 85) 3 928 := ⟨by decide +kernel, rfl⟩
theorem dL_law_928 : q_at cL_law 928 (.aload_n 2) 1 929 := ⟨by decide +kernel, rfl⟩
theorem dL_law_929 : q_at cL_law 929 (.aload_n 0) 1 930 := ⟨by decide +kernel, rfl⟩
theorem dL_law_930 : q_at cL_law 930 (.iload_n 3) 1 931 := ⟨by decide +kernel, rfl⟩
theorem dL_law_931 : q_at cL_law 931 (.iconst 1) 1 932 := ⟨by decide +kernel, rfl⟩
theorem dL_law_932 : q_at cL_law 932 (.iadd) 1 933 := ⟨by decide +kernel, rfl⟩
theorem dL_law_933 : q_at cL_law 933 (.iaload) 1 934 := ⟨by decide +kernel, rfl⟩
theorem dL_law_934 : q_at cL_law 934 (.aload_n 0) 1 935 := ⟨by decide +kernel, rfl⟩
theorem dL_law_935 : q_at cL_law 935 (.iload_n 3) 1 936 := ⟨by decide +kernel, rfl⟩
theorem dL_law_936 : q_at cL_law 936 (.iconst 2) 1 937 := ⟨by decide +kernel, rfl⟩
theorem dL_law_937 : q_at cL_law 937 (.iadd) 1 938 := ⟨by decide +kernel, rfl⟩
theorem dL_law_938 : q_at cL_law 938 (.iaload) 1 939 := ⟨by decide +kernel, rfl⟩
theorem dL_law_939 : q_at cL_law 939 (.aload_n 0) 1 940 := ⟨by decide +kernel, rfl⟩
theorem dL_law_940 : q_at cL_law 940 (.iload_n 3) 1 941 := ⟨by decide +kernel, rfl⟩
theorem dL_law_941 : q_at cL_law 941 (.iconst 3) 1 942 := ⟨by decide +kernel, rfl⟩
theorem dL_law_942 : q_at cL_law 942 (.iadd) 1 943 := ⟨by decide +kernel, rfl⟩
theorem dL_law_943 : q_at cL_law 943 (.iaload) 1 944 := ⟨by decide +kernel, rfl⟩
theorem dL_law_944 : q_at cL_law 944 (.invokevirtual 88) 3 947 := ⟨by decide +kernel, rfl⟩
theorem dL_law_947 : q_at cL_law 947 (.if_icmp .eq 1226) 3 950 := ⟨by decide +kernel, rfl⟩
theorem dL_law_950 : q_at cL_law 950 (.iconst 0) 1 951 := ⟨by decide +kernel, rfl⟩
theorem dL_law_951 : q_at cL_law 951 (.ireturn) 1 952 := ⟨by decide +kernel, rfl⟩
theorem dL_law_952 : q_at cL_law 952 (.aload_n 1) 1 953 := ⟨by decide +kernel, rfl⟩
theorem dL_law_953 : q_at cL_law 953 (.aload_n 0) 1 954 := ⟨by decide +kernel, rfl⟩
theorem dL_law_954 : q_at cL_law 954 (.iload_n 3) 1 955 := ⟨by decide +kernel, rfl⟩
theorem dL_law_955 : q_at cL_law 955 (.iconst 1) 1 956 := ⟨by decide +kernel, rfl⟩
theorem dL_law_956 : q_at cL_law 956 (.iadd) 1 957 := ⟨by decide +kernel, rfl⟩
theorem dL_law_957 : q_at cL_law 957 (.iaload) 1 958 := ⟨by decide +kernel, rfl⟩
theorem dL_law_958 : q_at cL_law 958 (.invokevirtual 89) 3 961 := ⟨by decide +kernel, rfl⟩
theorem dL_law_961 : q_at cL_law 961 (.aload_n 2) 1 962 := ⟨by decide +kernel, rfl⟩
theorem dL_law_962 : q_at cL_law 962 (.aload_n 0) 1 963 := ⟨by decide +kernel, rfl⟩
theorem dL_law_963 : q_at cL_law 963 (.iload_n 3) 1 964 := ⟨by decide +kernel, rfl⟩
theorem dL_law_964 : q_at cL_law 964 (.iconst 1) 1 965 := ⟨by decide +kernel, rfl⟩
theorem dL_law_965 : q_at cL_law 965 (.iadd) 1 966 := ⟨by decide +kernel, rfl⟩
theorem dL_law_966 : q_at cL_law 966 (.iaload) 1 967 := ⟨by decide +kernel, rfl⟩
theorem dL_law_967 : q_at cL_law 967 (.invokevirtual 92) 3 970 := ⟨by decide +kernel, rfl⟩
theorem dL_law_970 : q_at cL_law 970 (.if_icmp .eq 1203) 3 973 := ⟨by decide +kernel, rfl⟩
theorem dL_law_973 : q_at cL_law 973 (.iconst 0) 1 974 := ⟨by decide +kernel, rfl⟩
theorem dL_law_974 : q_at cL_law 974 (.ireturn) 1 975 := ⟨by decide +kernel, rfl⟩
theorem dL_law_975 : q_at cL_law 975 (.aload_n 1) 1 976 := ⟨by decide +kernel, rfl⟩
theorem dL_law_976 : q_at cL_law 976 (.aload_n 0) 1 977 := ⟨by decide +kernel, rfl⟩
theorem dL_law_977 : q_at cL_law 977 (.iload_n 3) 1 978 := ⟨by decide +kernel, rfl⟩
theorem dL_law_978 : q_at cL_law 978 (.iconst 1) 1 979 := ⟨by decide +kernel, rfl⟩
theorem dL_law_979 : q_at cL_law 979 (.iadd) 1 980 := ⟨by decide +kernel, rfl⟩
theorem dL_law_980 : q_at cL_law 980 (.iaload) 1 981 := ⟨by decide +kernel, rfl⟩
theorem dL_law_981 : q_at cL_law 981 (.aload_n 0) 1 982 := ⟨by decide +kernel, rfl⟩
theorem dL_law_982 : q_at cL_law 982 (.iload_n 3) 1 983 := ⟨by decide +kernel, rfl⟩
theorem dL_law_983 : q_at cL_law 983 (.iconst 2) 1 984 := ⟨by decide +kernel, rfl⟩
theorem dL_law_984 : q_at cL_law 984 (.iadd) 1 985 := ⟨by decide +kernel, rfl⟩
theorem dL_law_985 : q_at cL_law 985 (.iaload) 1 986 := ⟨by decide +kernel, rfl⟩
theorem dL_law_986 : q_at cL_law 986 (.invokevirtual 93) 3 989 := ⟨by decide +kernel, rfl⟩
theorem dL_law_989 : q_at cL_law 989 (.aload_n 2) 1 990 := ⟨by decide +kernel, rfl⟩
theorem dL_law_990 : q_at cL_law 990 (.aload_n 0) 1 991 := ⟨by decide +kernel, rfl⟩
theorem dL_law_991 : q_at cL_law 991 (.iload_n 3) 1 992 := ⟨by decide +kernel, rfl⟩
theorem dL_law_992 : q_at cL_law 992 (.iconst 1) 1 993 := ⟨by decide +kernel, rfl⟩
theorem dL_law_993 : q_at cL_law 993 (.iadd) 1 994 := ⟨by decide +kernel, rfl⟩
theorem dL_law_994 : q_at cL_law 994 (.iaload) 1 995 := ⟨by decide +kernel, rfl⟩
theorem dL_law_995 : q_at cL_law 995 (.aload_n 0) 1 996 := ⟨by decide +kernel, rfl⟩
theorem dL_law_996 : q_at cL_law 996 (.iload_n 3) 1 997 := ⟨by decide +kernel, rfl⟩
theorem dL_law_997 : q_at cL_law 997 (.iconst 2) 1 998 := ⟨by decide +kernel, rfl⟩
theorem dL_law_998 : q_at cL_law 998 (.iadd) 1 999 := ⟨by decide +kernel, rfl⟩
theorem dL_law_999 : q_at cL_law 999 (.iaload) 1 1000 := ⟨by decide +kernel, rfl⟩
theorem dL_law_1000 : q_at cL_law 1000 (.invokevirtual 96) 3 1003 := ⟨by decide +kernel, rfl⟩
theorem dL_law_1003 : q_at cL_law 1003 (.if_icmp .eq 1170) 3 1006 := ⟨by decide +kernel, rfl⟩
theorem dL_law_1006 : q_at cL_law 1006 (.iconst 0) 1 1007 := ⟨by decide +kernel, rfl⟩
theorem dL_law_1007 : q_at cL_law 1007 (.ireturn) 1 1008 := ⟨by decide +kernel, rfl⟩
theorem dL_law_1008 : q_at cL_law 1008 (.aload_n 1) 1 1009 := ⟨by decide +kernel, rfl⟩
theorem dL_law_1009 : q_at cL_law 1009 (.aload_n 0) 1 1010 := ⟨by decide +kernel, rfl⟩
theorem dL_law_1010 : q_at cL_law 1010 (.iload_n 3) 1 1011 := ⟨by decide +kernel, rfl⟩
theorem dL_law_1011 : q_at cL_law 1011 (.iconst 1) 1 1012 := ⟨by decide +kernel, rfl⟩
theorem dL_law_1012 : q_at cL_law 1012 (.iadd) 1 1013 := ⟨by decide +kernel, rfl⟩
theorem dL_law_1013 : q_at cL_law 1013 (.iaload) 1 1014 := ⟨by decide +kernel, rfl⟩
theorem dL_law_1014 : q_at cL_law 1014 (.aload_n 0) 1 1015 := ⟨by decide +kernel, rfl⟩
theorem dL_law_1015 : q_at cL_law 1015 (.iload_n 3) 1 1016 := ⟨by decide +kernel, rfl⟩
theorem dL_law_1016 : q_at cL_law 1016 (.iconst 2) 1 1017 := ⟨by decide +kernel, rfl⟩
theorem dL_law_1017 : q_at cL_law 1017 (.iadd) 1 1018 := ⟨by decide +kernel, rfl⟩
theorem dL_law_1018 : q_at cL_law 1018 (.iaload) 1 1019 := ⟨by decide +kernel, rfl⟩
theorem dL_law_1019 : q_at cL_law 1019 (.invokevirtual 97) 3 1022 := ⟨by decide +kernel, rfl⟩
theorem dL_law_1022 : q_at cL_law 1022 (.aload_n 2) 1 1023 := ⟨by decide +kernel, rfl⟩
theorem dL_law_1023 : q_at cL_law 1023 (.aload_n 0) 1 1024 := ⟨by decide +kernel, rfl⟩
theorem dL_law_1024 : q_at cL_law 1024 (.iload_n 3) 1 1025 := ⟨by decide +kernel, rfl⟩
theorem dL_law_1025 : q_at cL_law 1025 (.iconst 1) 1 1026 := ⟨by decide +kernel, rfl⟩
theorem dL_law_1026 : q_at cL_law 1026 (.iadd) 1 1027 := ⟨by decide +kernel, rfl⟩
theorem dL_law_1027 : q_at cL_law 1027 (.iaload) 1 1028 := ⟨by decide +kernel, rfl⟩
theorem dL_law_1028 : q_at cL_law 1028 (.aload_n 0) 1 1029 := ⟨by decide +kernel, rfl⟩
theorem dL_law_1029 : q_at cL_law 1029 (.iload_n 3) 1 1030 := ⟨by decide +kernel, rfl⟩
theorem dL_law_1030 : q_at cL_law 1030 (.iconst 2) 1 1031 := ⟨by decide +kernel, rfl⟩
theorem dL_law_1031 : q_at cL_law 1031 (.iadd) 1 1032 := ⟨by decide +kernel, rfl⟩
theorem dL_law_1032 : q_at cL_law 1032 (.iaload) 1 1033 := ⟨by decide +kernel, rfl⟩
theorem dL_law_1033 : q_at cL_law 1033 (.invokevirtual 100) 3 1036 := ⟨by decide +kernel, rfl⟩
theorem dL_law_1036 : q_at cL_law 1036 (.if_icmp .eq 1137) 3 1039 := ⟨by decide +kernel, rfl⟩
theorem dL_law_1039 : q_at cL_law 1039 (.iconst 0) 1 1040 := ⟨by decide +kernel, rfl⟩
theorem dL_law_1040 : q_at cL_law 1040 (.ireturn) 1 1041 := ⟨by decide +kernel, rfl⟩
theorem dL_law_1041 : q_at cL_law 1041 (.aload_n 1) 1 1042 := ⟨by decide +kernel, rfl⟩
theorem dL_law_1042 : q_at cL_law 1042 (.aload_n 0) 1 1043 := ⟨by decide +kernel, rfl⟩
theorem dL_law_1043 : q_at cL_law 1043 (.iload_n 3) 1 1044 := ⟨by decide +kernel, rfl⟩
theorem dL_law_1044 : q_at cL_law 1044 (.iconst 1) 1 1045 := ⟨by decide +kernel, rfl⟩
theorem dL_law_1045 : q_at cL_law 1045 (.iadd) 1 1046 := ⟨by decide +kernel, rfl⟩
theorem dL_law_1046 : q_at cL_law 1046 (.iaload) 1 1047 := ⟨by decide +kernel, rfl⟩
theorem dL_law_1047 : q_at cL_law 1047 (.invokevirtual 101) 3 1050 := ⟨by decide +kernel, rfl⟩
theorem dL_law_1050 : q_at cL_law 1050 (.aload_n 2) 1 1051 := ⟨by decide +kernel, rfl⟩
theorem dL_law_1051 : q_at cL_law 1051 (.aload_n 0) 1 1052 := ⟨by decide +kernel, rfl⟩
theorem dL_law_1052 : q_at cL_law 1052 (.iload_n 3) 1 1053 := ⟨by decide +kernel, rfl⟩
theorem dL_law_1053 : q_at cL_law 1053 (.iconst 1) 1 1054 := ⟨by decide +kernel, rfl⟩
theorem dL_law_1054 : q_at cL_law 1054 (.iadd) 1 1055 := ⟨by decide +kernel, rfl⟩
theorem dL_law_1055 : q_at cL_law 1055 (.iaload) 1 1056 := ⟨by decide +kernel, rfl⟩
theorem dL_law_1056 : q_at cL_law 1056 (.invokevirtual 104) 3 1059 := ⟨by decide +kernel, rfl⟩
theorem dL_law_1059 : q_at cL_law 1059 (.if_icmp .eq 1114) 3 1062 := ⟨by decide +kernel, rfl⟩
theorem dL_law_1062 : q_at cL_law 1062 (.iconst 0) 1 1063 := ⟨by decide +kernel, rfl⟩
theorem dL_law_1063 : q_at cL_law 1063 (.ireturn) 1 1064 := ⟨by decide +kernel, rfl⟩
theorem dL_law_1064 : q_at cL_law 1064 (.aload_n 1) 1 1065 := ⟨by decide +kernel, rfl⟩
theorem dL_law_1065 : q_at cL_law 1065 (.aload_n 0) 1 1066 := ⟨by decide +kernel, rfl⟩
theorem dL_law_1066 : q_at cL_law 1066 (.iload_n 3) 1 1067 := ⟨by decide +kernel, rfl⟩
theorem dL_law_1067 : q_at cL_law 1067 (.iconst 1) 1 1068 := ⟨by decide +kernel, rfl⟩
theorem dL_law_1068 : q_at cL_law 1068 (.iadd) 1 1069 := ⟨by decide +kernel, rfl⟩
theorem dL_law_1069 : q_at cL_law 1069 (.iaload) 1 1070 := ⟨by decide +kernel, rfl⟩
theorem dL_law_1070 : q_at cL_law 1070 (.invokevirtual 105) 3 1073 := ⟨by decide +kernel, rfl⟩
theorem dL_law_1073 : q_at cL_law 1073 (.aload_n 2) 1 1074 := ⟨by decide +kernel, rfl⟩
theorem dL_law_1074 : q_at cL_law 1074 (.aload_n 0) 1 1075 := ⟨by decide +kernel, rfl⟩
theorem dL_law_1075 : q_at cL_law 1075 (.iload_n 3) 1 1076 := ⟨by decide +kernel, rfl⟩
theorem dL_law_1076 : q_at cL_law 1076 (.iconst 1) 1 1077 := ⟨by decide +kernel, rfl⟩
theorem dL_law_1077 : q_at cL_law 1077 (.iadd) 1 1078 := ⟨by decide +kernel, rfl⟩
theorem dL_law_1078 : q_at cL_law 1078 (.iaload) 1 1079 := ⟨by decide +kernel, rfl⟩
theorem dL_law_1079 : q_at cL_law 1079 (.invokevirtual 108) 3 1082 := ⟨by decide +kernel, rfl⟩
theorem dL_law_1082 : q_at cL_law 1082 (.if_icmp .eq 1091) 3 1085 := ⟨by decide +kernel, rfl⟩
theorem dL_law_1085 : q_at cL_law 1085 (.iconst 0) 1 1086 := ⟨by decide +kernel, rfl⟩
theorem dL_law_1086 : q_at cL_law 1086 (.ireturn) 1 1087 := ⟨by decide +kernel, rfl⟩
theorem dL_law_1087 : q_at cL_law 1087 (.aload_n 1) 1 1088 := ⟨by decide +kernel, rfl⟩
theorem dL_law_1088 : q_at cL_law 1088 (.aload_n 0) 1 1089 := ⟨by decide +kernel, rfl⟩
theorem dL_law_1089 : q_at cL_law 1089 (.iload_n 3) 1 1090 := ⟨by decide +kernel, rfl⟩
theorem dL_law_1090 : q_at cL_law 1090 (.iconst 1) 1 1091 := ⟨by decide +kernel, rfl⟩
theorem dL_law_1091 : q_at cL_law 1091 (.iadd) 1 1092 := ⟨by decide +kernel, rfl⟩
theorem dL_law_1092 : q_at cL_law 1092 (.iaload) 1 1093 := ⟨by decide +kernel, rfl⟩
theorem dL_law_1093 : q_at cL_law 1093 (.aload_n 0) 1 1094 := ⟨by decide +kernel, rfl⟩
theorem dL_law_1094 : q_at cL_law 1094 (.iload_n 3) 1 1095 := ⟨by decide +kernel, rfl⟩
theorem dL_law_1095 : q_at cL_law 1095 (.iconst 2) 1 1096 := ⟨by decide +kernel, rfl⟩
theorem dL_law_1096 : q_at cL_law 1096 (.iadd) 1 1097 := ⟨by decide +kernel, rfl⟩
theorem dL_law_1097 : q_at cL_law 1097 (.iaload) 1 1098 := ⟨by decide +kernel, rfl⟩
theorem dL_law_1098 : q_at cL_law 1098 (.invokevirtual 109) 3 1101 := ⟨by decide +kernel, rfl⟩
theorem dL_law_1101 : q_at cL_law 1101 (.aload_n 2) 1 1102 := ⟨by decide +kernel, rfl⟩
theorem dL_law_1102 : q_at cL_law 1102 (.aload_n 0) 1 1103 := ⟨by decide +kernel, rfl⟩
theorem dL_law_1103 : q_at cL_law 1103 (.iload_n 3) 1 1104 := ⟨by decide +kernel, rfl⟩
theorem dL_law_1104 : q_at cL_law 1104 (.iconst 1) 1 1105 := ⟨by decide +kernel, rfl⟩
theorem dL_law_1105 : q_at cL_law 1105 (.iadd) 1 1106 := ⟨by decide +kernel, rfl⟩
theorem dL_law_1106 : q_at cL_law 1106 (.iaload) 1 1107 := ⟨by decide +kernel, rfl⟩
theorem dL_law_1107 : q_at cL_law 1107 (.aload_n 0) 1 1108 := ⟨by decide +kernel, rfl⟩
theorem dL_law_1108 : q_at cL_law 1108 (.iload_n 3) 1 1109 := ⟨by decide +kernel, rfl⟩
theorem dL_law_1109 : q_at cL_law 1109 (.iconst 2) 1 1110 := ⟨by decide +kernel, rfl⟩
theorem dL_law_1110 : q_at cL_law 1110 (.iadd) 1 1111 := ⟨by decide +kernel, rfl⟩
theorem dL_law_1111 : q_at cL_law 1111 (.iaload) 1 1112 := ⟨by decide +kernel, rfl⟩
theorem dL_law_1112 : q_at cL_law 1112 (.invokevirtual 112) 3 1115 := ⟨by decide +kernel, rfl⟩
theorem dL_law_1115 : q_at cL_law 1115 (.if_icmp .eq 1058) 3 1118 := ⟨by decide +kernel, rfl⟩
theorem dL_law_1118 : q_at cL_law 1118 (.iconst 0) 1 1119 := ⟨by decide +kernel, rfl⟩
theorem dL_law_1119 : q_at cL_law 1119 (.ireturn) 1 1120 := ⟨by decide +kernel, rfl⟩
theorem dL_law_1120 : q_at cL_law 1120 (.aload_n 1) 1 1121 := ⟨by decide +kernel, rfl⟩
theorem dL_law_1121 : q_at cL_law 1121 (.aload_n 0) 1 1122 := ⟨by decide +kernel, rfl⟩
theorem dL_law_1122 : q_at cL_law 1122 (.iload_n 3) 1 1123 := ⟨by decide +kernel, rfl⟩
theorem dL_law_1123 : q_at cL_law 1123 (.iconst 1) 1 1124 := ⟨by decide +kernel, rfl⟩
theorem dL_law_1124 : q_at cL_law 1124 (.iadd) 1 1125 := ⟨by decide +kernel, rfl⟩
theorem dL_law_1125 : q_at cL_law 1125 (.iaload) 1 1126 := ⟨by decide +kernel, rfl⟩
theorem dL_law_1126 : q_at cL_law 1126 (.aload_n 0) 1 1127 := ⟨by decide +kernel, rfl⟩
theorem dL_law_1127 : q_at cL_law 1127 (.iload_n 3) 1 1128 := ⟨by decide +kernel, rfl⟩
theorem dL_law_1128 : q_at cL_law 1128 (.iconst 2) 1 1129 := ⟨by decide +kernel, rfl⟩
theorem dL_law_1129 : q_at cL_law 1129 (.iadd) 1 1130 := ⟨by decide +kernel, rfl⟩
theorem dL_law_1130 : q_at cL_law 1130 (.iaload) 1 1131 := ⟨by decide +kernel, rfl⟩
theorem dL_law_1131 : q_at cL_law 1131 (.aload_n 0) 1 1132 := ⟨by decide +kernel, rfl⟩
theorem dL_law_1132 : q_at cL_law 1132 (.iload_n 3) 1 1133 := ⟨by decide +kernel, rfl⟩
theorem dL_law_1133 : q_at cL_law 1133 (.iconst 3) 1 1134 := ⟨by decide +kernel, rfl⟩
theorem dL_law_1134 : q_at cL_law 1134 (.iadd) 1 1135 := ⟨by decide +kernel, rfl⟩
theorem dL_law_1135 : q_at cL_law 1135 (.iaload) 1 1136 := ⟨by decide +kernel, rfl⟩
theorem dL_law_1136 : q_at cL_law 1136 (.aload_n 0) 1 1137 := ⟨by decide +kernel, rfl⟩
theorem dL_law_1137 : q_at cL_law 1137 (.iload_n 3) 1 1138 := ⟨by decide +kernel, rfl⟩
theorem dL_law_1138 : q_at cL_law 1138 (.iconst 4) 1 1139 := ⟨by decide +kernel, rfl⟩
theorem dL_law_1139 : q_at cL_law 1139 (.iadd) 1 1140 := ⟨by decide +kernel, rfl⟩
theorem dL_law_1140 : q_at cL_law 1140 (.iaload) 1 1141 := ⟨by decide +kernel, rfl⟩
theorem dL_law_1141 : q_at cL_law 1141 (.invokevirtual 113) 3 1144 := ⟨by decide +kernel, rfl⟩
theorem dL_law_1144 : q_at cL_law 1144 (.aload_n 2) 1 1145 := ⟨by decide +kernel, rfl⟩
theorem dL_law_1145 : q_at cL_law 1145 (.aload_n 0) 1 1146 := ⟨by decide +kernel, rfl⟩
theorem dL_law_1146 : q_at cL_law 1146 (.iload_n 3) 1 1147 := ⟨by decide +kernel, rfl⟩
theorem dL_law_1147 : q_at cL_law 1147 (.iconst 1) 1 1148 := ⟨by decide +kernel, rfl⟩
theorem dL_law_1148 : q_at cL_law 1148 (.iadd) 1 1149 := ⟨by decide +kernel, rfl⟩
theorem dL_law_1149 : q_at cL_law 1149 (.iaload) 1 1150 := ⟨by decide +kernel, rfl⟩
theorem dL_law_1150 : q_at cL_law 1150 (.aload_n 0) 1 1151 := ⟨by decide +kernel, rfl⟩
theorem dL_law_1151 : q_at cL_law 1151 (.iload_n 3) 1 1152 := ⟨by decide +kernel, rfl⟩
theorem dL_law_1152 : q_at cL_law 1152 (.iconst 2) 1 1153 := ⟨by decide +kernel, rfl⟩
theorem dL_law_1153 : q_at cL_law 1153 (.iadd) 1 1154 := ⟨by decide +kernel, rfl⟩
theorem dL_law_1154 : q_at cL_law 1154 (.iaload) 1 1155 := ⟨by decide +kernel, rfl⟩
theorem dL_law_1155 : q_at cL_law 1155 (.aload_n 0) 1 1156 := ⟨by decide +kernel, rfl⟩
theorem dL_law_1156 : q_at cL_law 1156 (.iload_n 3) 1 1157 := ⟨by decide +kernel, rfl⟩
theorem dL_law_1157 : q_at cL_law 1157 (.iconst 3) 1 1158 := ⟨by decide +kernel, rfl⟩
theorem dL_law_1158 : q_at cL_law 1158 (.iadd) 1 1159 := ⟨by decide +kernel, rfl⟩
theorem dL_law_1159 : q_at cL_law 1159 (.iaload) 1 1160 := ⟨by decide +kernel, rfl⟩
theorem dL_law_1160 : q_at cL_law 1160 (.aload_n 0) 1 1161 := ⟨by decide +kernel, rfl⟩
theorem dL_law_1161 : q_at cL_law 1161 (.iload_n 3) 1 1162 := ⟨by decide +kernel, rfl⟩
theorem dL_law_1162 : q_at cL_law 1162 (.iconst 4) 1 1163 := ⟨by decide +kernel, rfl⟩
theorem dL_law_1163 : q_at cL_law 1163 (.iadd) 1 1164 := ⟨by decide +kernel, rfl⟩
theorem dL_law_1164 : q_at cL_law 1164 (.iaload) 1 1165 := ⟨by decide +kernel, rfl⟩
theorem dL_law_1165 : q_at cL_law 1165 (.invokevirtual 116) 3 1168 := ⟨by decide +kernel, rfl⟩
theorem dL_law_1168 : q_at cL_law 1168 (.if_icmp .eq 1005) 3 1171 := ⟨by decide +kernel, rfl⟩
theorem dL_law_1171 : q_at cL_law 1171 (.iconst 0) 1 1172 := ⟨by decide +kernel, rfl⟩
theorem dL_law_1172 : q_at cL_law 1172 (.ireturn) 1 1173 := ⟨by decide +kernel, rfl⟩
theorem dL_law_1173 : q_at cL_law 1173 (.aload_n 1) 1 1174 := ⟨by decide +kernel, rfl⟩
theorem dL_law_1174 : q_at cL_law 1174 (.aload_n 0) 1 1175 := ⟨by decide +kernel, rfl⟩
theorem dL_law_1175 : q_at cL_law 1175 (.iload_n 3) 1 1176 := ⟨by decide +kernel, rfl⟩
theorem dL_law_1176 : q_at cL_law 1176 (.iconst 1) 1 1177 := ⟨by decide +kernel, rfl⟩
theorem dL_law_1177 : q_at cL_law 1177 (.iadd) 1 1178 := ⟨by decide +kernel, rfl⟩
theorem dL_law_1178 : q_at cL_law 1178 (.iaload) 1 1179 := ⟨by decide +kernel, rfl⟩
theorem dL_law_1179 : q_at cL_law 1179 (.aload_n 0) 1 1180 := ⟨by decide +kernel, rfl⟩
theorem dL_law_1180 : q_at cL_law 1180 (.iload_n 3) 1 1181 := ⟨by decide +kernel, rfl⟩
theorem dL_law_1181 : q_at cL_law 1181 (.iconst 2) 1 1182 := ⟨by decide +kernel, rfl⟩
theorem dL_law_1182 : q_at cL_law 1182 (.iadd) 1 1183 := ⟨by decide +kernel, rfl⟩
theorem dL_law_1183 : q_at cL_law 1183 (.iaload) 1 1184 := ⟨by decide +kernel, rfl⟩
theorem dL_law_1184 : q_at cL_law 1184 (.aload_n 0) 1 1185 := ⟨by decide +kernel, rfl⟩
theorem dL_law_1185 : q_at cL_law 1185 (.iload_n 3) 1 1186 := ⟨by decide +kernel, rfl⟩
theorem dL_law_1186 : q_at cL_law 1186 (.iconst 3) 1 1187 := ⟨by decide +kernel, rfl⟩
theorem dL_law_1187 : q_at cL_law 1187 (.iadd) 1 1188 := ⟨by decide +kernel, rfl⟩
theorem dL_law_1188 : q_at cL_law 1188 (.iaload) 1 1189 := ⟨by decide +kernel, rfl⟩
theorem dL_law_1189 : q_at cL_law 1189 (.invokevirtual 117) 3 1192 := ⟨by decide +kernel, rfl⟩
theorem dL_law_1192 : q_at cL_law 1192 (.aload_n 2) 1 1193 := ⟨by decide +kernel, rfl⟩
theorem dL_law_1193 : q_at cL_law 1193 (.aload_n 0) 1 1194 := ⟨by decide +kernel, rfl⟩
theorem dL_law_1194 : q_at cL_law 1194 (.iload_n 3) 1 1195 := ⟨by decide +kernel, rfl⟩
theorem dL_law_1195 : q_at cL_law 1195 (.iconst 1) 1 1196 := ⟨by decide +kernel, rfl⟩
theorem dL_law_1196 : q_at cL_law 1196 (.iadd) 1 1197 := ⟨by decide +kernel, rfl⟩
theorem dL_law_1197 : q_at cL_law 1197 (.iaload) 1 1198 := ⟨by decide +kernel, rfl⟩
theorem dL_law_1198 : q_at cL_law 1198 (.aload_n 0) 1 1199 := ⟨by decide +kernel, rfl⟩
theorem dL_law_1199 : q_at cL_law 1199 (.iload_n 3) 1 1200 := ⟨by decide +kernel, rfl⟩
theorem dL_law_1200 : q_at cL_law 1200 (.iconst 2) 1 1201 := ⟨by decide +kernel, rfl⟩
theorem dL_law_1201 : q_at cL_law 1201 (.iadd) 1 1202 := ⟨by decide +kernel, rfl⟩
theorem dL_law_1202 : q_at cL_law 1202 (.iaload) 1 1203 := ⟨by decide +kernel, rfl⟩
theorem dL_law_1203 : q_at cL_law 1203 (.aload_n 0) 1 1204 := ⟨by decide +kernel, rfl⟩
theorem dL_law_1204 : q_at cL_law 1204 (.iload_n 3) 1 1205 := ⟨by decide +kernel, rfl⟩
theorem dL_law_1205 : q_at cL_law 1205 (.iconst 3) 1 1206 := ⟨by decide +kernel, rfl⟩
theorem dL_law_1206 : q_at cL_law 1206 (.iadd) 1 1207 := ⟨by decide +kernel, rfl⟩
theorem dL_law_1207 : q_at cL_law 1207 (.iaload) 1 1208 := ⟨by decide +kernel, rfl⟩
theorem dL_law_1208 : q_at cL_law 1208 (.invokevirtual 120) 3 1211 := ⟨by decide +kernel, rfl⟩
theorem dL_law_1211 : q_at cL_law 1211 (.if_icmp .eq 962) 3 1214 := ⟨by decide +kernel, rfl⟩
theorem dL_law_1214 : q_at cL_law 1214 (.iconst 0) 1 1215 := ⟨by decide +kernel, rfl⟩
theorem dL_law_1215 : q_at cL_law 1215 (.ireturn) 1 1216 := ⟨by decide +kernel, rfl⟩
theorem dL_law_1216 : q_at cL_law 1216 (.aload_n 1) 1 1217 := ⟨by decide +kernel, rfl⟩
theorem dL_law_1217 : q_at cL_law 1217 (.aload_n 0) 1 1218 := ⟨by decide +kernel, rfl⟩
theorem dL_law_1218 : q_at cL_law 1218 (.iload_n 3) 1 1219 := ⟨by decide +kernel, rfl⟩
theorem dL_law_1219 : q_at cL_law 1219 (.iconst 1) 1 1220 := ⟨by decide +kernel, rfl⟩
theorem dL_law_1220 : q_at cL_law 1220 (.iadd) 1 1221 := ⟨by decide +kernel, rfl⟩
theorem dL_law_1221 : q_at cL_law 1221 (.iaload) 1 1222 := ⟨by decide +kernel, rfl⟩
theorem dL_law_1222 : q_at cL_law 1222 (.aload_n 0) 1 1223 := ⟨by decide +kernel, rfl⟩
theorem dL_law_1223 : q_at cL_law 1223 (.iload_n 3) 1 1224 := ⟨by decide +kernel, rfl⟩
theorem dL_law_1224 : q_at cL_law 1224 (.iconst 2) 1 1225 := ⟨by decide +kernel, rfl⟩
theorem dL_law_1225 : q_at cL_law 1225 (.iadd) 1 1226 := ⟨by decide +kernel, rfl⟩
theorem dL_law_1226 : q_at cL_law 1226 (.iaload) 1 1227 := ⟨by decide +kernel, rfl⟩
theorem dL_law_1227 : q_at cL_law 1227 (.invokevirtual 121) 3 1230 := ⟨by decide +kernel, rfl⟩
theorem dL_law_1230 : q_at cL_law 1230 (.aload_n 2) 1 1231 := ⟨by decide +kernel, rfl⟩
theorem dL_law_1231 : q_at cL_law 1231 (.aload_n 0) 1 1232 := ⟨by decide +kernel, rfl⟩
theorem dL_law_1232 : q_at cL_law 1232 (.iload_n 3) 1 1233 := ⟨by decide +kernel, rfl⟩
theorem dL_law_1233 : q_at cL_law 1233 (.iconst 1) 1 1234 := ⟨by decide +kernel, rfl⟩
theorem dL_law_1234 : q_at cL_law 1234 (.iadd) 1 1235 := ⟨by decide +kernel, rfl⟩
theorem dL_law_1235 : q_at cL_law 1235 (.iaload) 1 1236 := ⟨by decide +kernel, rfl⟩
theorem dL_law_1236 : q_at cL_law 1236 (.aload_n 0) 1 1237 := ⟨by decide +kernel, rfl⟩
theorem dL_law_1237 : q_at cL_law 1237 (.iload_n 3) 1 1238 := ⟨by decide +kernel, rfl⟩
theorem dL_law_1238 : q_at cL_law 1238 (.iconst 2) 1 1239 := ⟨by decide +kernel, rfl⟩
theorem dL_law_1239 : q_at cL_law 1239 (.iadd) 1 1240 := ⟨by decide +kernel, rfl⟩
theorem dL_law_1240 : q_at cL_law 1240 (.iaload) 1 1241 := ⟨by decide +kernel, rfl⟩
theorem dL_law_1241 : q_at cL_law 1241 (.invokevirtual 124) 3 1244 := ⟨by decide +kernel, rfl⟩
theorem dL_law_1244 : q_at cL_law 1244 (.if_icmp .eq 929) 3 1247 := ⟨by decide +kernel, rfl⟩
theorem dL_law_1247 : q_at cL_law 1247 (.iconst 0) 1 1248 := ⟨by decide +kernel, rfl⟩
theorem dL_law_1248 : q_at cL_law 1248 (.ireturn) 1 1249 := ⟨by decide +kernel, rfl⟩
theorem dL_law_1249 : q_at cL_law 1249 (.aload_n 1) 1 1250 := ⟨by decide +kernel, rfl⟩
theorem dL_law_1250 : q_at cL_law 1250 (.aload_n 0) 1 1251 := ⟨by decide +kernel, rfl⟩
theorem dL_law_1251 : q_at cL_law 1251 (.iload_n 3) 1 1252 := ⟨by decide +kernel, rfl⟩
theorem dL_law_1252 : q_at cL_law 1252 (.iconst 1) 1 1253 := ⟨by decide +kernel, rfl⟩
theorem dL_law_1253 : q_at cL_law 1253 (.iadd) 1 1254 := ⟨by decide +kernel, rfl⟩
theorem dL_law_1254 : q_at cL_law 1254 (.iaload) 1 1255 := ⟨by decide +kernel, rfl⟩
theorem dL_law_1255 : q_at cL_law 1255 (.aload_n 0) 1 1256 := ⟨by decide +kernel, rfl⟩
theorem dL_law_1256 : q_at cL_law 1256 (.iload_n 3) 1 1257 := ⟨by decide +kernel, rfl⟩
theorem dL_law_1257 : q_at cL_law 1257 (.iconst 2) 1 1258 := ⟨by decide +kernel, rfl⟩
theorem dL_law_1258 : q_at cL_law 1258 (.iadd) 1 1259 := ⟨by decide +kernel, rfl⟩
theorem dL_law_1259 : q_at cL_law 1259 (.iaload) 1 1260 := ⟨by decide +kernel, rfl⟩
theorem dL_law_1260 : q_at cL_law 1260 (.aload_n 0) 1 1261 := ⟨by decide +kernel, rfl⟩
theorem dL_law_1261 : q_at cL_law 1261 (.iload_n 3) 1 1262 := ⟨by decide +kernel, rfl⟩
theorem dL_law_1262 : q_at cL_law 1262 (.iconst 3) 1 1263 := ⟨by decide +kernel, rfl⟩
theorem dL_law_1263 : q_at cL_law 1263 (.iadd) 1 1264 := ⟨by decide +kernel, rfl⟩
theorem dL_law_1264 : q_at cL_law 1264 (.iaload) 1 1265 := ⟨by decide +kernel, rfl⟩
theorem dL_law_1265 : q_at cL_law 1265 (.invokevirtual 125) 3 1268 := ⟨by decide +kernel, rfl⟩
theorem dL_law_1268 : q_at cL_law 1268 (.aload_n 2) 1 1269 := ⟨by decide +kernel, rfl⟩
theorem dL_law_1269 : q_at cL_law 1269 (.aload_n 0) 1 1270 := ⟨by decide +kernel, rfl⟩
theorem dL_law_1270 : q_at cL_law 1270 (.iload_n 3) 1 1271 := ⟨by decide +kernel, rfl⟩
theorem dL_law_1271 : q_at cL_law 1271 (.iconst 1) 1 1272 := ⟨by decide +kernel, rfl⟩
theorem dL_law_1272 : q_at cL_law 1272 (.iadd) 1 1273 := ⟨by decide +kernel, rfl⟩
theorem dL_law_1273 : q_at cL_law 1273 (.iaload) 1 1274 := ⟨by decide +kernel, rfl⟩
theorem dL_law_1274 : q_at cL_law 1274 (.aload_n 0) 1 1275 := ⟨by decide +kernel, rfl⟩
theorem dL_law_1275 : q_at cL_law 1275 (.iload_n 3) 1 1276 := ⟨by decide +kernel, rfl⟩
theorem dL_law_1276 : q_at cL_law 1276 (.iconst 2) 1 1277 := ⟨by decide +kernel, rfl⟩
theorem dL_law_1277 : q_at cL_law 1277 (.iadd) 1 1278 := ⟨by decide +kernel, rfl⟩
theorem dL_law_1278 : q_at cL_law 1278 (.iaload) 1 1279 := ⟨by decide +kernel, rfl⟩
theorem dL_law_1279 : q_at cL_law 1279 (.aload_n 0) 1 1280 := ⟨by decide +kernel, rfl⟩
theorem dL_law_1280 : q_at cL_law 1280 (.iload_n 3) 1 1281 := ⟨by decide +kernel, rfl⟩
theorem dL_law_1281 : q_at cL_law 1281 (.iconst 3) 1 1282 := ⟨by decide +kernel, rfl⟩
theorem dL_law_1282 : q_at cL_law 1282 (.iadd) 1 1283 := ⟨by decide +kernel, rfl⟩
theorem dL_law_1283 : q_at cL_law 1283 (.iaload) 1 1284 := ⟨by decide +kernel, rfl⟩
theorem dL_law_1284 : q_at cL_law 1284 (.invokevirtual 128) 3 1287 := ⟨by decide +kernel, rfl⟩
theorem dL_law_1287 : q_at cL_law 1287 (.if_icmp .eq 886) 3 1290 := ⟨by decide +kernel, rfl⟩
theorem dL_law_1290 : q_at cL_law 1290 (.iconst 0) 1 1291 := ⟨by decide +kernel, rfl⟩
theorem dL_law_1291 : q_at cL_law 1291 (.ireturn) 1 1292 := ⟨by decide +kernel, rfl⟩
theorem dL_law_1292 : q_at cL_law 1292 (.aload_n 1) 1 1293 := ⟨by decide +kernel, rfl⟩
theorem dL_law_1293 : q_at cL_law 1293 (.aload_n 0) 1 1294 := ⟨by decide +kernel, rfl⟩
theorem dL_law_1294 : q_at cL_law 1294 (.iload_n 3) 1 1295 := ⟨by decide +kernel, rfl⟩
theorem dL_law_1295 : q_at cL_law 1295 (.iconst 1) 1 1296 := ⟨by decide +kernel, rfl⟩
theorem dL_law_1296 : q_at cL_law 1296 (.iadd) 1 1297 := ⟨by decide +kernel, rfl⟩
theorem dL_law_1297 : q_at cL_law 1297 (.iaload) 1 1298 := ⟨by decide +kernel, rfl⟩
theorem dL_law_1298 : q_at cL_law 1298 (.invokevirtual 129) 3 1301 := ⟨by decide +kernel, rfl⟩
theorem dL_law_1301 : q_at cL_law 1301 (.aload_n 2) 1 1302 := ⟨by decide +kernel, rfl⟩
theorem dL_law_1302 : q_at cL_law 1302 (.aload_n 0) 1 1303 := ⟨by decide +kernel, rfl⟩
theorem dL_law_1303 : q_at cL_law 1303 (.iload_n 3) 1 1304 := ⟨by decide +kernel, rfl⟩
theorem dL_law_1304 : q_at cL_law 1304 (.iconst 1) 1 1305 := ⟨by decide +kernel, rfl⟩
theorem dL_law_1305 : q_at cL_law 1305 (.iadd) 1 1306 := ⟨by decide +kernel, rfl⟩
theorem dL_law_1306 : q_at cL_law 1306 (.iaload) 1 1307 := ⟨by decide +kernel, rfl⟩
theorem dL_law_1307 : q_at cL_law 1307 (.invokevirtual 132) 3 1310 := ⟨by decide +kernel, rfl⟩
theorem dL_law_1310 : q_at cL_law 1310 (.if_icmp .eq 863) 3 1313 := ⟨by decide +kernel, rfl⟩
theorem dL_law_1313 : q_at cL_law 1313 (.iconst 0) 1 1314 := ⟨by decide +kernel, rfl⟩
theorem dL_law_1314 : q_at cL_law 1314 (.ireturn) 1 1315 := ⟨by decide +kernel, rfl⟩
theorem dL_law_1315 : q_at cL_law 1315 (.aload_n 1) 1 1316 := ⟨by decide +kernel, rfl⟩
theorem dL_law_1316 : q_at cL_law 1316 (.aload_n 0) 1 1317 := ⟨by decide +kernel, rfl⟩
theorem dL_law_1317 : q_at cL_law 1317 (.iload_n 3) 1 1318 := ⟨by decide +kernel, rfl⟩
theorem dL_law_1318 : q_at cL_law 1318 (.iconst 1) 1 1319 := ⟨by decide +kernel, rfl⟩
theorem dL_law_1319 : q_at cL_law 1319 (.iadd) 1 1320 := ⟨by decide +kernel, rfl⟩
theorem dL_law_1320 : q_at cL_law 1320 (.iaload) 1 1321 := ⟨by decide +kernel, rfl⟩
theorem dL_law_1321 : q_at cL_law 1321 (.invokevirtual 133) 3 1324 := ⟨by decide +kernel, rfl⟩
theorem dL_law_1324 : q_at cL_law 1324 (.aload_n 2) 1 1325 := ⟨by decide +kernel, rfl⟩
theorem dL_law_1325 : q_at cL_law 1325 (.aload_n 0) 1 1326 := ⟨by decide +kernel, rfl⟩
theorem dL_law_1326 : q_at cL_law 1326 (.iload_n 3) 1 1327 := ⟨by decide +kernel, rfl⟩
theorem dL_law_1327 : q_at cL_law 1327 (.iconst 1) 1 1328 := ⟨by decide +kernel, rfl⟩
theorem dL_law_1328 : q_at cL_law 1328 (.iadd) 1 1329 := ⟨by decide +kernel, rfl⟩
theorem dL_law_1329 : q_at cL_law 1329 (.iaload) 1 1330 := ⟨by decide +kernel, rfl⟩
theorem dL_law_1330 : q_at cL_law 1330 (.invokevirtual 136) 3 1333 := ⟨by decide +kernel, rfl⟩
theorem dL_law_1333 : q_at cL_law 1333 (.if_icmp .eq 840) 3 1336 := ⟨by decide +kernel, rfl⟩
theorem dL_law_1336 : q_at cL_law 1336 (.iconst 0) 1 1337 := ⟨by decide +kernel, rfl⟩
theorem dL_law_1337 : q_at cL_law 1337 (.ireturn) 1 1338 := ⟨by decide +kernel, rfl⟩
theorem dL_law_1338 : q_at cL_law 1338 (.aload_n 1) 1 1339 := ⟨by decide +kernel, rfl⟩
theorem dL_law_1339 : q_at cL_law 1339 (.aload_n 0) 1 1340 := ⟨by decide +kernel, rfl⟩
theorem dL_law_1340 : q_at cL_law 1340 (.iload_n 3) 1 1341 := ⟨by decide +kernel, rfl⟩
theorem dL_law_1341 : q_at cL_law 1341 (.iconst 1) 1 1342 := ⟨by decide +kernel, rfl⟩
theorem dL_law_1342 : q_at cL_law 1342 (.iadd) 1 1343 := ⟨by decide +kernel, rfl⟩
theorem dL_law_1343 : q_at cL_law 1343 (.iaload) 1 1344 := ⟨by decide +kernel, rfl⟩
theorem dL_law_1344 : q_at cL_law 1344 (.aload_n 0) 1 1345 := ⟨by decide +kernel, rfl⟩
theorem dL_law_1345 : q_at cL_law 1345 (.iload_n 3) 1 1346 := ⟨by decide +kernel, rfl⟩
theorem dL_law_1346 : q_at cL_law 1346 (.iconst 2) 1 1347 := ⟨by decide +kernel, rfl⟩
theorem dL_law_1347 : q_at cL_law 1347 (.iadd) 1 1348 := ⟨by decide +kernel, rfl⟩
theorem dL_law_1348 : q_at cL_law 1348 (.iaload) 1 1349 := ⟨by decide +kernel, rfl⟩
theorem dL_law_1349 : q_at cL_law 1349 (.invokevirtual 137) 3 1352 := ⟨by decide +kernel, rfl⟩
theorem dL_law_1352 : q_at cL_law 1352 (.aload_n 2) 1 1353 := ⟨by decide +kernel, rfl⟩
theorem dL_law_1353 : q_at cL_law 1353 (.aload_n 0) 1 1354 := ⟨by decide +kernel, rfl⟩
theorem dL_law_1354 : q_at cL_law 1354 (.iload_n 3) 1 1355 := ⟨by decide +kernel, rfl⟩
theorem dL_law_1355 : q_at cL_law 1355 (.iconst 1) 1 1356 := ⟨by decide +kernel, rfl⟩
theorem dL_law_1356 : q_at cL_law 1356 (.iadd) 1 1357 := ⟨by decide +kernel, rfl⟩
theorem dL_law_1357 : q_at cL_law 1357 (.iaload) 1 1358 := ⟨by decide +kernel, rfl⟩
theorem dL_law_1358 : q_at cL_law 1358 (.aload_n 0) 1 1359 := ⟨by decide +kernel, rfl⟩
theorem dL_law_1359 : q_at cL_law 1359 (.iload_n 3) 1 1360 := ⟨by decide +kernel, rfl⟩
theorem dL_law_1360 : q_at cL_law 1360 (.iconst 2) 1 1361 := ⟨by decide +kernel, rfl⟩
theorem dL_law_1361 : q_at cL_law 1361 (.iadd) 1 1362 := ⟨by decide +kernel, rfl⟩
theorem dL_law_1362 : q_at cL_law 1362 (.iaload) 1 1363 := ⟨by decide +kernel, rfl⟩
theorem dL_law_1363 : q_at cL_law 1363 (.invokevirtual 140) 3 1366 := ⟨by decide +kernel, rfl⟩
theorem dL_law_1366 : q_at cL_law 1366 (.if_icmp .eq 807) 3 1369 := ⟨by decide +kernel, rfl⟩
theorem dL_law_1369 : q_at cL_law 1369 (.iconst 0) 1 1370 := ⟨by decide +kernel, rfl⟩
theorem dL_law_1370 : q_at cL_law 1370 (.ireturn) 1 1371 := ⟨by decide +kernel, rfl⟩
theorem dL_law_1371 : q_at cL_law 1371 (.aload_n 1) 1 1372 := ⟨by decide +kernel, rfl⟩
theorem dL_law_1372 : q_at cL_law 1372 (.aload_n 0) 1 1373 := ⟨by decide +kernel, rfl⟩
theorem dL_law_1373 : q_at cL_law 1373 (.iload_n 3) 1 1374 := ⟨by decide +kernel, rfl⟩
theorem dL_law_1374 : q_at cL_law 1374 (.iconst 1) 1 1375 := ⟨by decide +kernel, rfl⟩
theorem dL_law_1375 : q_at cL_law 1375 (.iadd) 1 1376 := ⟨by decide +kernel, rfl⟩
theorem dL_law_1376 : q_at cL_law 1376 (.iaload) 1 1377 := ⟨by decide +kernel, rfl⟩
theorem dL_law_1377 : q_at cL_law 1377 (.invokevirtual 141) 3 1380 := ⟨by decide +kernel, rfl⟩
theorem dL_law_1380 : q_at cL_law 1380 (.aload_n 2) 1 1381 := ⟨by decide +kernel, rfl⟩
theorem dL_law_1381 : q_at cL_law 1381 (.aload_n 0) 1 1382 := ⟨by decide +kernel, rfl⟩
theorem dL_law_1382 : q_at cL_law 1382 (.iload_n 3) 1 1383 := ⟨by decide +kernel, rfl⟩
theorem dL_law_1383 : q_at cL_law 1383 (.iconst 1) 1 1384 := ⟨by decide +kernel, rfl⟩
theorem dL_law_1384 : q_at cL_law 1384 (.iadd) 1 1385 := ⟨by decide +kernel, rfl⟩
theorem dL_law_1385 : q_at cL_law 1385 (.iaload) 1 1386 := ⟨by decide +kernel, rfl⟩
theorem dL_law_1386 : q_at cL_law 1386 (.invokevirtual 144) 3 1389 := ⟨by decide +kernel, rfl⟩
theorem dL_law_1389 : q_at cL_law 1389 (.if_icmp .eq 784) 3 1392 := ⟨by decide +kernel, rfl⟩
theorem dL_law_1392 : q_at cL_law 1392 (.iconst 0) 1 1393 := ⟨by decide +kernel, rfl⟩
theorem dL_law_1393 : q_at cL_law 1393 (.ireturn) 1 1394 := ⟨by decide +kernel, rfl⟩
theorem dL_law_1394 : q_at cL_law 1394 (.aload_n 1) 1 1395 := ⟨by decide +kernel, rfl⟩
theorem dL_law_1395 : q_at cL_law 1395 (.aload_n 0) 1 1396 := ⟨by decide +kernel, rfl⟩
theorem dL_law_1396 : q_at cL_law 1396 (.iload_n 3) 1 1397 := ⟨by decide +kernel, rfl⟩
theorem dL_law_1397 : q_at cL_law 1397 (.iconst 1) 1 1398 := ⟨by decide +kernel, rfl⟩
theorem dL_law_1398 : q_at cL_law 1398 (.iadd) 1 1399 := ⟨by decide +kernel, rfl⟩
theorem dL_law_1399 : q_at cL_law 1399 (.iaload) 1 1400 := ⟨by decide +kernel, rfl⟩
theorem dL_law_1400 : q_at cL_law 1400 (.aload_n 0) 1 1401 := ⟨by decide +kernel, rfl⟩
theorem dL_law_1401 : q_at cL_law 1401 (.iload_n 3) 1 1402 := ⟨by decide +kernel, rfl⟩
theorem dL_law_1402 : q_at cL_law 1402 (.iconst 2) 1 1403 := ⟨by decide +kernel, rfl⟩
theorem dL_law_1403 : q_at cL_law 1403 (.iadd) 1 1404 := ⟨by decide +kernel, rfl⟩
theorem dL_law_1404 : q_at cL_law 1404 (.iaload) 1 1405 := ⟨by decide +kernel, rfl⟩
theorem dL_law_1405 : q_at cL_law 1405 (.aload_n 0) 1 1406 := ⟨by decide +kernel, rfl⟩
theorem dL_law_1406 : q_at cL_law 1406 (.iload_n 3) 1 1407 := ⟨by decide +kernel, rfl⟩
theorem dL_law_1407 : q_at cL_law 1407 (.iconst 3) 1 1408 := ⟨by decide +kernel, rfl⟩
theorem dL_law_1408 : q_at cL_law 1408 (.iadd) 1 1409 := ⟨by decide +kernel, rfl⟩
theorem dL_law_1409 : q_at cL_law 1409 (.iaload) 1 1410 := ⟨by decide +kernel, rfl⟩
theorem dL_law_1410 : q_at cL_law 1410 (.aload_n 0) 1 1411 := ⟨by decide +kernel, rfl⟩
theorem dL_law_1411 : q_at cL_law 1411 (.iload_n 3) 1 1412 := ⟨by decide +kernel, rfl⟩
theorem dL_law_1412 : q_at cL_law 1412 (.iconst 4) 1 1413 := ⟨by decide +kernel, rfl⟩
theorem dL_law_1413 : q_at cL_law 1413 (.iadd) 1 1414 := ⟨by decide +kernel, rfl⟩
theorem dL_law_1414 : q_at cL_law 1414 (.iaload) 1 1415 := ⟨by decide +kernel, rfl⟩
theorem dL_law_1415 : q_at cL_law 1415 (.invokevirtual 145) 3 1418 := ⟨by decide +kernel, rfl⟩
theorem dL_law_1418 : q_at cL_law 1418 (.aload_n 2) 1 1419 := ⟨by decide +kernel, rfl⟩
theorem dL_law_1419 : q_at cL_law 1419 (.aload_n 0) 1 1420 := ⟨by decide +kernel, rfl⟩
theorem dL_law_1420 : q_at cL_law 1420 (.iload_n 3) 1 1421 := ⟨by decide +kernel, rfl⟩
theorem dL_law_1421 : q_at cL_law 1421 (.iconst 1) 1 1422 := ⟨by decide +kernel, rfl⟩
theorem dL_law_1422 : q_at cL_law 1422 (.iadd) 1 1423 := ⟨by decide +kernel, rfl⟩
theorem dL_law_1423 : q_at cL_law 1423 (.iaload) 1 1424 := ⟨by decide +kernel, rfl⟩
theorem dL_law_1424 : q_at cL_law 1424 (.aload_n 0) 1 1425 := ⟨by decide +kernel, rfl⟩
theorem dL_law_1425 : q_at cL_law 1425 (.iload_n 3) 1 1426 := ⟨by decide +kernel, rfl⟩
theorem dL_law_1426 : q_at cL_law 1426 (.iconst 2) 1 1427 := ⟨by decide +kernel, rfl⟩
theorem dL_law_1427 : q_at cL_law 1427 (.iadd) 1 1428 := ⟨by decide +kernel, rfl⟩
theorem dL_law_1428 : q_at cL_law 1428 (.iaload) 1 1429 := ⟨by decide +kernel, rfl⟩
theorem dL_law_1429 : q_at cL_law 1429 (.aload_n 0) 1 1430 := ⟨by decide +kernel, rfl⟩
theorem dL_law_1430 : q_at cL_law 1430 (.iload_n 3) 1 1431 := ⟨by decide +kernel, rfl⟩
theorem dL_law_1431 : q_at cL_law 1431 (.iconst 3) 1 1432 := ⟨by decide +kernel, rfl⟩
theorem dL_law_1432 : q_at cL_law 1432 (.iadd) 1 1433 := ⟨by decide +kernel, rfl⟩
theorem dL_law_1433 : q_at cL_law 1433 (.iaload) 1 1434 := ⟨by decide +kernel, rfl⟩
theorem dL_law_1434 : q_at cL_law 1434 (.aload_n 0) 1 1435 := ⟨by decide +kernel, rfl⟩
theorem dL_law_1435 : q_at cL_law 1435 (.iload_n 3) 1 1436 := ⟨by decide +kernel, rfl⟩
theorem dL_law_1436 : q_at cL_law 1436 (.iconst 4) 1 1437 := ⟨by decide +kernel, rfl⟩
theorem dL_law_1437 : q_at cL_law 1437 (.iadd) 1 1438 := ⟨by decide +kernel, rfl⟩
theorem dL_law_1438 : q_at cL_law 1438 (.iaload) 1 1439 := ⟨by decide +kernel, rfl⟩
theorem dL_law_1439 : q_at cL_law 1439 (.invokevirtual 148) 3 1442 := ⟨by decide +kernel, rfl⟩
theorem dL_law_1442 : q_at cL_law 1442 (.if_icmp .eq 731) 3 1445 := ⟨by decide +kernel, rfl⟩
theorem dL_law_1445 : q_at cL_law 1445 (.iconst 0) 1 1446 := ⟨by decide +kernel, rfl⟩
theorem dL_law_1446 : q_at cL_law 1446 (.ireturn) 1 1447 := ⟨by decide +kernel, rfl⟩
theorem dL_law_1447 : q_at cL_law 1447 (.aload_n 1) 1 1448 := ⟨by decide +kernel, rfl⟩
theorem dL_law_1448 : q_at cL_law 1448 (.aload_n 0) 1 1449 := ⟨by decide +kernel, rfl⟩
theorem dL_law_1449 : q_at cL_law 1449 (.iload_n 3) 1 1450 := ⟨by decide +kernel, rfl⟩
theorem dL_law_1450 : q_at cL_law 1450 (.iconst 1) 1 1451 := ⟨by decide +kernel, rfl⟩
theorem dL_law_1451 : q_at cL_law 1451 (.iadd) 1 1452 := ⟨by decide +kernel, rfl⟩
theorem dL_law_1452 : q_at cL_law 1452 (.iaload) 1 1453 := ⟨by decide +kernel, rfl⟩
theorem dL_law_1453 : q_at cL_law 1453 (.aload_n 0) 1 1454 := ⟨by decide +kernel, rfl⟩
theorem dL_law_1454 : q_at cL_law 1454 (.iload_n 3) 1 1455 := ⟨by decide +kernel, rfl⟩
theorem dL_law_1455 : q_at cL_law 1455 (.iconst 2) 1 1456 := ⟨by decide +kernel, rfl⟩
theorem dL_law_1456 : q_at cL_law 1456 (.iadd) 1 1457 := ⟨by decide +kernel, rfl⟩
theorem dL_law_1457 : q_at cL_law 1457 (.iaload) 1 1458 := ⟨by decide +kernel, rfl⟩
theorem dL_law_1458 : q_at cL_law 1458 (.aload_n 0) 1 1459 := ⟨by decide +kernel, rfl⟩
theorem dL_law_1459 : q_at cL_law 1459 (.iload_n 3) 1 1460 := ⟨by decide +kernel, rfl⟩
theorem dL_law_1460 : q_at cL_law 1460 (.iconst 3) 1 1461 := ⟨by decide +kernel, rfl⟩
theorem dL_law_1461 : q_at cL_law 1461 (.iadd) 1 1462 := ⟨by decide +kernel, rfl⟩
theorem dL_law_1462 : q_at cL_law 1462 (.iaload) 1 1463 := ⟨by decide +kernel, rfl⟩
theorem dL_law_1463 : q_at cL_law 1463 (.invokevirtual 149) 3 1466 := ⟨by decide +kernel, rfl⟩
theorem dL_law_1466 : q_at cL_law 1466 (.aload_n 2) 1 1467 := ⟨by decide +kernel, rfl⟩
theorem dL_law_1467 : q_at cL_law 1467 (.aload_n 0) 1 1468 := ⟨by decide +kernel, rfl⟩
theorem dL_law_1468 : q_at cL_law 1468 (.iload_n 3) 1 1469 := ⟨by decide +kernel, rfl⟩
theorem dL_law_1469 : q_at cL_law 1469 (.iconst 1) 1 1470 := ⟨by decide +kernel, rfl⟩
theorem dL_law_1470 : q_at cL_law 1470 (.iadd) 1 1471 := ⟨by decide +kernel, rfl⟩
theorem dL_law_1471 : q_at cL_law 1471 (.iaload) 1 1472 := ⟨by decide +kernel, rfl⟩
theorem dL_law_1472 : q_at cL_law 1472 (.aload_n 0) 1 1473 := ⟨by decide +kernel, rfl⟩
theorem dL_law_1473 : q_at cL_law 1473 (.iload_n 3) 1 1474 := ⟨by decide +kernel, rfl⟩
theorem dL_law_1474 : q_at cL_law 1474 (.iconst 2) 1 1475 := ⟨by decide +kernel, rfl⟩
theorem dL_law_1475 : q_at cL_law 1475 (.iadd) 1 1476 := ⟨by decide +kernel, rfl⟩
theorem dL_law_1476 : q_at cL_law 1476 (.iaload) 1 1477 := ⟨by decide +kernel, rfl⟩
theorem dL_law_1477 : q_at cL_law 1477 (.aload_n 0) 1 1478 := ⟨by decide +kernel, rfl⟩
theorem dL_law_1478 : q_at cL_law 1478 (.iload_n 3) 1 1479 := ⟨by decide +kernel, rfl⟩
theorem dL_law_1479 : q_at cL_law 1479 (.iconst 3) 1 1480 := ⟨by decide +kernel, rfl⟩
theorem dL_law_1480 : q_at cL_law 1480 (.iadd) 1 1481 := ⟨by decide +kernel, rfl⟩
theorem dL_law_1481 : q_at cL_law 1481 (.iaload) 1 1482 := ⟨by decide +kernel, rfl⟩
theorem dL_law_1482 : q_at cL_law 1482 (.invokevirtual 152) 3 1485 := ⟨by decide +kernel, rfl⟩
theorem dL_law_1485 : q_at cL_law 1485 (.if_icmp .eq 688) 3 1488 := ⟨by decide +kernel, rfl⟩
theorem dL_law_1488 : q_at cL_law 1488 (.iconst 0) 1 1489 := ⟨by decide +kernel, rfl⟩
theorem dL_law_1489 : q_at cL_law 1489 (.ireturn) 1 1490 := ⟨by decide +kernel, rfl⟩
theorem dL_law_1490 : q_at cL_law 1490 (.aload_n 1) 1 1491 := ⟨by decide +kernel, rfl⟩
theorem dL_law_1491 : q_at cL_law 1491 (.aload_n 0) 1 1492 := ⟨by decide +kernel, rfl⟩
theorem dL_law_1492 : q_at cL_law 1492 (.iload_n 3) 1 1493 := ⟨by decide +kernel, rfl⟩
theorem dL_law_1493 : q_at cL_law 1493 (.iconst 1) 1 1494 := ⟨by decide +kernel, rfl⟩
theorem dL_law_1494 : q_at cL_law 1494 (.iadd) 1 1495 := ⟨by decide +kernel, rfl⟩
theorem dL_law_1495 : q_at cL_law 1495 (.iaload) 1 1496 := ⟨by decide +kernel, rfl⟩
theorem dL_law_1496 : q_at cL_law 1496 (.aload_n 0) 1 1497 := ⟨by decide +kernel, rfl⟩
theorem dL_law_1497 : q_at cL_law 1497 (.iload_n 3) 1 1498 := ⟨by decide +kernel, rfl⟩
theorem dL_law_1498 : q_at cL_law 1498 (.iconst 2) 1 1499 := ⟨by decide +kernel, rfl⟩
theorem dL_law_1499 : q_at cL_law 1499 (.iadd) 1 1500 := ⟨by decide +kernel, rfl⟩
theorem dL_law_1500 : q_at cL_law 1500 (.iaload) 1 1501 := ⟨by decide +kernel, rfl⟩
theorem dL_law_1501 : q_at cL_law 1501 (.aload_n 0) 1 1502 := ⟨by decide +kernel, rfl⟩
theorem dL_law_1502 : q_at cL_law 1502 (.iload_n 3) 1 1503 := ⟨by decide +kernel, rfl⟩
theorem dL_law_1503 : q_at cL_law 1503 (.iconst 3) 1 1504 := ⟨by decide +kernel, rfl⟩
theorem dL_law_1504 : q_at cL_law 1504 (.iadd) 1 1505 := ⟨by decide +kernel, rfl⟩
theorem dL_law_1505 : q_at cL_law 1505 (.iaload) 1 1506 := ⟨by decide +kernel, rfl⟩
theorem dL_law_1506 : q_at cL_law 1506 (.invokevirtual 153) 3 1509 := ⟨by decide +kernel, rfl⟩
theorem dL_law_1509 : q_at cL_law 1509 (.aload_n 2) 1 1510 := ⟨by decide +kernel, rfl⟩
theorem dL_law_1510 : q_at cL_law 1510 (.aload_n 0) 1 1511 := ⟨by decide +kernel, rfl⟩
theorem dL_law_1511 : q_at cL_law 1511 (.iload_n 3) 1 1512 := ⟨by decide +kernel, rfl⟩
theorem dL_law_1512 : q_at cL_law 1512 (.iconst 1) 1 1513 := ⟨by decide +kernel, rfl⟩
theorem dL_law_1513 : q_at cL_law 1513 (.iadd) 1 1514 := ⟨by decide +kernel, rfl⟩
theorem dL_law_1514 : q_at cL_law 1514 (.iaload) 1 1515 := ⟨by decide +kernel, rfl⟩
theorem dL_law_1515 : q_at cL_law 1515 (.aload_n 0) 1 1516 := ⟨by decide +kernel, rfl⟩
theorem dL_law_1516 : q_at cL_law 1516 (.iload_n 3) 1 1517 := ⟨by decide +kernel, rfl⟩
theorem dL_law_1517 : q_at cL_law 1517 (.iconst 2) 1 1518 := ⟨by decide +kernel, rfl⟩
theorem dL_law_1518 : q_at cL_law 1518 (.iadd) 1 1519 := ⟨by decide +kernel, rfl⟩
theorem dL_law_1519 : q_at cL_law 1519 (.iaload) 1 1520 := ⟨by decide +kernel, rfl⟩
theorem dL_law_1520 : q_at cL_law 1520 (.aload_n 0) 1 1521 := ⟨by decide +kernel, rfl⟩
theorem dL_law_1521 : q_at cL_law 1521 (.iload_n 3) 1 1522 := ⟨by decide +kernel, rfl⟩
theorem dL_law_1522 : q_at cL_law 1522 (.iconst 3) 1 1523 := ⟨by decide +kernel, rfl⟩
theorem dL_law_1523 : q_at cL_law 1523 (.iadd) 1 1524 := ⟨by decide +kernel, rfl⟩
theorem dL_law_1524 : q_at cL_law 1524 (.iaload) 1 1525 := ⟨by decide +kernel, rfl⟩
theorem dL_law_1525 : q_at cL_law 1525 (.invokevirtual 156) 3 1528 := ⟨by decide +kernel, rfl⟩
theorem dL_law_1528 : q_at cL_law 1528 (.if_icmp .eq 645) 3 1531 := ⟨by decide +kernel, rfl⟩
theorem dL_law_1531 : q_at cL_law 1531 (.iconst 0) 1 1532 := ⟨by decide +kernel, rfl⟩
theorem dL_law_1532 : q_at cL_law 1532 (.ireturn) 1 1533 := ⟨by decide +kernel, rfl⟩
theorem dL_law_1533 : q_at cL_law 1533 (.aload_n 1) 1 1534 := ⟨by decide +kernel, rfl⟩
theorem dL_law_1534 : q_at cL_law 1534 (.aload_n 0) 1 1535 := ⟨by decide +kernel, rfl⟩
theorem dL_law_1535 : q_at cL_law 1535 (.iload_n 3) 1 1536 := ⟨by decide +kernel, rfl⟩
theorem dL_law_1536 : q_at cL_law 1536 (.iconst 1) 1 1537 := ⟨by decide +kernel, rfl⟩
theorem dL_law_1537 : q_at cL_law 1537 (.iadd) 1 1538 := ⟨by decide +kernel, rfl⟩
theorem dL_law_1538 : q_at cL_law 1538 (.iaload) 1 1539 := ⟨by decide +kernel, rfl⟩
theorem dL_law_1539 : q_at cL_law 1539 (.aload_n 0) 1 1540 := ⟨by decide +kernel, rfl⟩
theorem dL_law_1540 : q_at cL_law 1540 (.iload_n 3) 1 1541 := ⟨by decide +kernel, rfl⟩
theorem dL_law_1541 : q_at cL_law 1541 (.iconst 2) 1 1542 := ⟨by decide +kernel, rfl⟩
theorem dL_law_1542 : q_at cL_law 1542 (.iadd) 1 1543 := ⟨by decide +kernel, rfl⟩
theorem dL_law_1543 : q_at cL_law 1543 (.iaload) 1 1544 := ⟨by decide +kernel, rfl⟩
theorem dL_law_1544 : q_at cL_law 1544 (.invokevirtual 157) 3 1547 := ⟨by decide +kernel, rfl⟩
theorem dL_law_1547 : q_at cL_law 1547 (.aload_n 2) 1 1548 := ⟨by decide +kernel, rfl⟩
theorem dL_law_1548 : q_at cL_law 1548 (.aload_n 0) 1 1549 := ⟨by decide +kernel, rfl⟩
theorem dL_law_1549 : q_at cL_law 1549 (.iload_n 3) 1 1550 := ⟨by decide +kernel, rfl⟩
theorem dL_law_1550 : q_at cL_law 1550 (.iconst 1) 1 1551 := ⟨by decide +kernel, rfl⟩
theorem dL_law_1551 : q_at cL_law 1551 (.iadd) 1 1552 := ⟨by decide +kernel, rfl⟩
theorem dL_law_1552 : q_at cL_law 1552 (.iaload) 1 1553 := ⟨by decide +kernel, rfl⟩
theorem dL_law_1553 : q_at cL_law 1553 (.aload_n 0) 1 1554 := ⟨by decide +kernel, rfl⟩
theorem dL_law_1554 : q_at cL_law 1554 (.iload_n 3) 1 1555 := ⟨by decide +kernel, rfl⟩
theorem dL_law_1555 : q_at cL_law 1555 (.iconst 2) 1 1556 := ⟨by decide +kernel, rfl⟩
theorem dL_law_1556 : q_at cL_law 1556 (.iadd) 1 1557 := ⟨by decide +kernel, rfl⟩
theorem dL_law_1557 : q_at cL_law 1557 (.iaload) 1 1558 := ⟨by decide +kernel, rfl⟩
theorem dL_law_1558 : q_at cL_law 1558 (.invokevirtual 160) 3 1561 := ⟨by decide +kernel, rfl⟩
theorem dL_law_1561 : q_at cL_law 1561 (.if_icmp .eq 612) 3 1564 := ⟨by decide +kernel, rfl⟩
theorem dL_law_1564 : q_at cL_law 1564 (.iconst 0) 1 1565 := ⟨by decide +kernel, rfl⟩
theorem dL_law_1565 : q_at cL_law 1565 (.ireturn) 1 1566 := ⟨by decide +kernel, rfl⟩
theorem dL_law_1566 : q_at cL_law 1566 (.aload_n 1) 1 1567 := ⟨by decide +kernel, rfl⟩
theorem dL_law_1567 : q_at cL_law 1567 (.aload_n 0) 1 1568 := ⟨by decide +kernel, rfl⟩
theorem dL_law_1568 : q_at cL_law 1568 (.iload_n 3) 1 1569 := ⟨by decide +kernel, rfl⟩
theorem dL_law_1569 : q_at cL_law 1569 (.iconst 1) 1 1570 := ⟨by decide +kernel, rfl⟩
theorem dL_law_1570 : q_at cL_law 1570 (.iadd) 1 1571 := ⟨by decide +kernel, rfl⟩
theorem dL_law_1571 : q_at cL_law 1571 (.iaload) 1 1572 := ⟨by decide +kernel, rfl⟩
theorem dL_law_1572 : q_at cL_law 1572 (.aload_n 0) 1 1573 := ⟨by decide +kernel, rfl⟩
theorem dL_law_1573 : q_at cL_law 1573 (.iload_n 3) 1 1574 := ⟨by decide +kernel, rfl⟩
theorem dL_law_1574 : q_at cL_law 1574 (.iconst 2) 1 1575 := ⟨by decide +kernel, rfl⟩
theorem dL_law_1575 : q_at cL_law 1575 (.iadd) 1 1576 := ⟨by decide +kernel, rfl⟩
theorem dL_law_1576 : q_at cL_law 1576 (.iaload) 1 1577 := ⟨by decide +kernel, rfl⟩
theorem dL_law_1577 : q_at cL_law 1577 (.aload_n 0) 1 1578 := ⟨by decide +kernel, rfl⟩
theorem dL_law_1578 : q_at cL_law 1578 (.iload_n 3) 1 1579 := ⟨by decide +kernel, rfl⟩
theorem dL_law_1579 : q_at cL_law 1579 (.iconst 3) 1 1580 := ⟨by decide +kernel, rfl⟩
theorem dL_law_1580 : q_at cL_law 1580 (.iadd) 1 1581 := ⟨by decide +kernel, rfl⟩
theorem dL_law_1581 : q_at cL_law 1581 (.iaload) 1 1582 := ⟨by decide +kernel, rfl⟩
theorem dL_law_1582 : q_at cL_law 1582 (.aload_n 0) 1 1583 := ⟨by decide +kernel, rfl⟩
theorem dL_law_1583 : q_at cL_law 1583 (.iload_n 3) 1 1584 := ⟨by decide +kernel, rfl⟩
theorem dL_law_1584 : q_at cL_law 1584 (.iconst 4) 1 1585 := ⟨by decide +kernel, rfl⟩
theorem dL_law_1585 : q_at cL_law 1585 (.iadd) 1 1586 := ⟨by decide +kernel, rfl⟩
theorem dL_law_1586 : q_at cL_law 1586 (.iaload) 1 1587 := ⟨by decide +kernel, rfl⟩
theorem dL_law_1587 : q_at cL_law 1587 (.aload_n 0) 1 1588 := ⟨by decide +kernel, rfl⟩
theorem dL_law_1588 : q_at cL_law 1588 (.iload_n 3) 1 1589 := ⟨by decide +kernel, rfl⟩
theorem dL_law_1589 : q_at cL_law 1589 (.iconst 5) 1 1590 := ⟨by decide +kernel, rfl⟩
theorem dL_law_1590 : q_at cL_law 1590 (.iadd) 1 1591 := ⟨by decide +kernel, rfl⟩
theorem dL_law_1591 : q_at cL_law 1591 (.iaload) 1 1592 := ⟨by decide +kernel, rfl⟩
theorem dL_law_1592 : q_at cL_law 1592 (.invokevirtual 161) 3 1595 := ⟨by decide +kernel, rfl⟩
theorem dL_law_1595 : q_at cL_law 1595 (.aload_n 2) 1 1596 := ⟨by decide +kernel, rfl⟩
theorem dL_law_1596 : q_at cL_law 1596 (.aload_n 0) 1 1597 := ⟨by decide +kernel, rfl⟩
theorem dL_law_1597 : q_at cL_law 1597 (.iload_n 3) 1 1598 := ⟨by decide +kernel, rfl⟩
theorem dL_law_1598 : q_at cL_law 1598 (.iconst 1) 1 1599 := ⟨by decide +kernel, rfl⟩
theorem dL_law_1599 : q_at cL_law 1599 (.iadd) 1 1600 := ⟨by decide +kernel, rfl⟩
theorem dL_law_1600 : q_at cL_law 1600 (.iaload) 1 1601 := ⟨by decide +kernel, rfl⟩
theorem dL_law_1601 : q_at cL_law 1601 (.aload_n 0) 1 1602 := ⟨by decide +kernel, rfl⟩
theorem dL_law_1602 : q_at cL_law 1602 (.iload_n 3) 1 1603 := ⟨by decide +kernel, rfl⟩
theorem dL_law_1603 : q_at cL_law 1603 (.iconst 2) 1 1604 := ⟨by decide +kernel, rfl⟩
theorem dL_law_1604 : q_at cL_law 1604 (.iadd) 1 1605 := ⟨by decide +kernel, rfl⟩
theorem dL_law_1605 : q_at cL_law 1605 (.iaload) 1 1606 := ⟨by decide +kernel, rfl⟩
theorem dL_law_1606 : q_at cL_law 1606 (.aload_n 0) 1 1607 := ⟨by decide +kernel, rfl⟩
theorem dL_law_1607 : q_at cL_law 1607 (.iload_n 3) 1 1608 := ⟨by decide +kernel, rfl⟩
theorem dL_law_1608 : q_at cL_law 1608 (.iconst 3) 1 1609 := ⟨by decide +kernel, rfl⟩
theorem dL_law_1609 : q_at cL_law 1609 (.iadd) 1 1610 := ⟨by decide +kernel, rfl⟩
theorem dL_law_1610 : q_at cL_law 1610 (.iaload) 1 1611 := ⟨by decide +kernel, rfl⟩
theorem dL_law_1611 : q_at cL_law 1611 (.aload_n 0) 1 1612 := ⟨by decide +kernel, rfl⟩
theorem dL_law_1612 : q_at cL_law 1612 (.iload_n 3) 1 1613 := ⟨by decide +kernel, rfl⟩
theorem dL_law_1613 : q_at cL_law 1613 (.iconst 4) 1 1614 := ⟨by decide +kernel, rfl⟩
theorem dL_law_1614 : q_at cL_law 1614 (.iadd) 1 1615 := ⟨by decide +kernel, rfl⟩
theorem dL_law_1615 : q_at cL_law 1615 (.iaload) 1 1616 := ⟨by decide +kernel, rfl⟩
theorem dL_law_1616 : q_at cL_law 1616 (.aload_n 0) 1 1617 := ⟨by decide +kernel, rfl⟩
theorem dL_law_1617 : q_at cL_law 1617 (.iload_n 3) 1 1618 := ⟨by decide +kernel, rfl⟩
theorem dL_law_1618 : q_at cL_law 1618 (.iconst 5) 1 1619 := ⟨by decide +kernel, rfl⟩
theorem dL_law_1619 : q_at cL_law 1619 (.iadd) 1 1620 := ⟨by decide +kernel, rfl⟩
theorem dL_law_1620 : q_at cL_law 1620 (.iaload) 1 1621 := ⟨by decide +kernel, rfl⟩
theorem dL_law_1621 : q_at cL_law 1621 (.invokevirtual 165) 3 1624 := ⟨by decide +kernel, rfl⟩
theorem dL_law_1624 : q_at cL_law 1624 (.if_icmp .eq 549) 3 1627 := ⟨by decide +kernel, rfl⟩
theorem dL_law_1627 : q_at cL_law 1627 (.iconst 0) 1 1628 := ⟨by decide +kernel, rfl⟩
theorem dL_law_1628 : q_at cL_law 1628 (.ireturn) 1 1629 := ⟨by decide +kernel, rfl⟩
theorem dL_law_1629 : q_at cL_law 1629 (.aload_n 1) 1 1630 := ⟨by decide +kernel, rfl⟩
theorem dL_law_1630 : q_at cL_law 1630 (.aload_n 0) 1 1631 := ⟨by decide +kernel, rfl⟩
theorem dL_law_1631 : q_at cL_law 1631 (.iload_n 3) 1 1632 := ⟨by decide +kernel, rfl⟩
theorem dL_law_1632 : q_at cL_law 1632 (.iconst 1) 1 1633 := ⟨by decide +kernel, rfl⟩
theorem dL_law_1633 : q_at cL_law 1633 (.iadd) 1 1634 := ⟨by decide +kernel, rfl⟩
theorem dL_law_1634 : q_at cL_law 1634 (.iaload) 1 1635 := ⟨by decide +kernel, rfl⟩
theorem dL_law_1635 : q_at cL_law 1635 (.aload_n 0) 1 1636 := ⟨by decide +kernel, rfl⟩
theorem dL_law_1636 : q_at cL_law 1636 (.iload_n 3) 1 1637 := ⟨by decide +kernel, rfl⟩
theorem dL_law_1637 : q_at cL_law 1637 (.iconst 2) 1 1638 := ⟨by decide +kernel, rfl⟩
theorem dL_law_1638 : q_at cL_law 1638 (.iadd) 1 1639 := ⟨by decide +kernel, rfl⟩
theorem dL_law_1639 : q_at cL_law 1639 (.iaload) 1 1640 := ⟨by decide +kernel, rfl⟩
theorem dL_law_1640 : q_at cL_law 1640 (.invokevirtual 166) 3 1643 := ⟨by decide +kernel, rfl⟩
theorem dL_law_1643 : q_at cL_law 1643 (.aload_n 2) 1 1644 := ⟨by decide +kernel, rfl⟩
theorem dL_law_1644 : q_at cL_law 1644 (.aload_n 0) 1 1645 := ⟨by decide +kernel, rfl⟩
theorem dL_law_1645 : q_at cL_law 1645 (.iload_n 3) 1 1646 := ⟨by decide +kernel, rfl⟩
theorem dL_law_1646 : q_at cL_law 1646 (.iconst 1) 1 1647 := ⟨by decide +kernel, rfl⟩
theorem dL_law_1647 : q_at cL_law 1647 (.iadd) 1 1648 := ⟨by decide +kernel, rfl⟩
theorem dL_law_1648 : q_at cL_law 1648 (.iaload) 1 1649 := ⟨by decide +kernel, rfl⟩
theorem dL_law_1649 : q_at cL_law 1649 (.aload_n 0) 1 1650 := ⟨by decide +kernel, rfl⟩
theorem dL_law_1650 : q_at cL_law 1650 (.iload_n 3) 1 1651 := ⟨by decide +kernel, rfl⟩
theorem dL_law_1651 : q_at cL_law 1651 (.iconst 2) 1 1652 := ⟨by decide +kernel, rfl⟩
theorem dL_law_1652 : q_at cL_law 1652 (.iadd) 1 1653 := ⟨by decide +kernel, rfl⟩
theorem dL_law_1653 : q_at cL_law 1653 (.iaload) 1 1654 := ⟨by decide +kernel, rfl⟩
theorem dL_law_1654 : q_at cL_law 1654 (.invokevirtual 169) 3 1657 := ⟨by decide +kernel, rfl⟩
theorem dL_law_1657 : q_at cL_law 1657 (.if_icmp .eq 516) 3 1660 := ⟨by decide +kernel, rfl⟩
theorem dL_law_1660 : q_at cL_law 1660 (.iconst 0) 1 1661 := ⟨by decide +kernel, rfl⟩
theorem dL_law_1661 : q_at cL_law 1661 (.ireturn) 1 1662 := ⟨by decide +kernel, rfl⟩
theorem dL_law_1662 : q_at cL_law 1662 (.aload_n 1) 1 1663 := ⟨by decide +kernel, rfl⟩
theorem dL_law_1663 : q_at cL_law 1663 (.aload_n 0) 1 1664 := ⟨by decide +kernel, rfl⟩
theorem dL_law_1664 : q_at cL_law 1664 (.iload_n 3) 1 1665 := ⟨by decide +kernel, rfl⟩
theorem dL_law_1665 : q_at cL_law 1665 (.iconst 1) 1 1666 := ⟨by decide +kernel, rfl⟩
theorem dL_law_1666 : q_at cL_law 1666 (.iadd) 1 1667 := ⟨by decide +kernel, rfl⟩
theorem dL_law_1667 : q_at cL_law 1667 (.iaload) 1 1668 := ⟨by decide +kernel, rfl⟩
theorem dL_law_1668 : q_at cL_law 1668 (.aload_n 0) 1 1669 := ⟨by decide +kernel, rfl⟩
theorem dL_law_1669 : q_at cL_law 1669 (.iload_n 3) 1 1670 := ⟨by decide +kernel, rfl⟩
theorem dL_law_1670 : q_at cL_law 1670 (.iconst 2) 1 1671 := ⟨by decide +kernel, rfl⟩
theorem dL_law_1671 : q_at cL_law 1671 (.iadd) 1 1672 := ⟨by decide +kernel, rfl⟩
theorem dL_law_1672 : q_at cL_law 1672 (.iaload) 1 1673 := ⟨by decide +kernel, rfl⟩
theorem dL_law_1673 : q_at cL_law 1673 (.aload_n 0) 1 1674 := ⟨by decide +kernel, rfl⟩
theorem dL_law_1674 : q_at cL_law 1674 (.iload_n 3) 1 1675 := ⟨by decide +kernel, rfl⟩
theorem dL_law_1675 : q_at cL_law 1675 (.iconst 3) 1 1676 := ⟨by decide +kernel, rfl⟩
theorem dL_law_1676 : q_at cL_law 1676 (.iadd) 1 1677 := ⟨by decide +kernel, rfl⟩
theorem dL_law_1677 : q_at cL_law 1677 (.iaload) 1 1678 := ⟨by decide +kernel, rfl⟩
theorem dL_law_1678 : q_at cL_law 1678 (.aload_n 0) 1 1679 := ⟨by decide +kernel, rfl⟩
theorem dL_law_1679 : q_at cL_law 1679 (.iload_n 3) 1 1680 := ⟨by decide +kernel, rfl⟩
theorem dL_law_1680 : q_at cL_law 1680 (.iconst 4) 1 1681 := ⟨by decide +kernel, rfl⟩
theorem dL_law_1681 : q_at cL_law 1681 (.iadd) 1 1682 := ⟨by decide +kernel, rfl⟩
theorem dL_law_1682 : q_at cL_law 1682 (.iaload) 1 1683 := ⟨by decide +kernel, rfl⟩
theorem dL_law_1683 : q_at cL_law 1683 (.invokevirtual 170) 3 1686 := ⟨by decide +kernel, rfl⟩
theorem dL_law_1686 : q_at cL_law 1686 (.aload_n 2) 1 1687 := ⟨by decide +kernel, rfl⟩
theorem dL_law_1687 : q_at cL_law 1687 (.aload_n 0) 1 1688 := ⟨by decide +kernel, rfl⟩
theorem dL_law_1688 : q_at cL_law 1688 (.iload_n 3) 1 1689 := ⟨by decide +kernel, rfl⟩
theorem dL_law_1689 : q_at cL_law 1689 (.iconst 1) 1 1690 := ⟨by decide +kernel, rfl⟩
theorem dL_law_1690 : q_at cL_law 1690 (.iadd) 1 1691 := ⟨by decide +kernel, rfl⟩
theorem dL_law_1691 : q_at cL_law 1691 (.iaload) 1 1692 := ⟨by decide +kernel, rfl⟩
theorem dL_law_1692 : q_at cL_law 1692 (.aload_n 0) 1 1693 := ⟨by decide +kernel, rfl⟩
theorem dL_law_1693 : q_at cL_law 1693 (.iload_n 3) 1 1694 := ⟨by decide +kernel, rfl⟩
theorem dL_law_1694 : q_at cL_law 1694 (.iconst 2) 1 1695 := ⟨by decide +kernel, rfl⟩
theorem dL_law_1695 : q_at cL_law 1695 (.iadd) 1 1696 := ⟨by decide +kernel, rfl⟩
theorem dL_law_1696 : q_at cL_law 1696 (.iaload) 1 1697 := ⟨by decide +kernel, rfl⟩
theorem dL_law_1697 : q_at cL_law 1697 (.aload_n 0) 1 1698 := ⟨by decide +kernel, rfl⟩
theorem dL_law_1698 : q_at cL_law 1698 (.iload_n 3) 1 1699 := ⟨by decide +kernel, rfl⟩
theorem dL_law_1699 : q_at cL_law 1699 (.iconst 3) 1 1700 := ⟨by decide +kernel, rfl⟩
theorem dL_law_1700 : q_at cL_law 1700 (.iadd) 1 1701 := ⟨by decide +kernel, rfl⟩
theorem dL_law_1701 : q_at cL_law 1701 (.iaload) 1 1702 := ⟨by decide +kernel, rfl⟩
theorem dL_law_1702 : q_at cL_law 1702 (.aload_n 0) 1 1703 := ⟨by decide +kernel, rfl⟩
theorem dL_law_1703 : q_at cL_law 1703 (.iload_n 3) 1 1704 := ⟨by decide +kernel, rfl⟩
theorem dL_law_1704 : q_at cL_law 1704 (.iconst 4) 1 1705 := ⟨by decide +kernel, rfl⟩
theorem dL_law_1705 : q_at cL_law 1705 (.iadd) 1 1706 := ⟨by decide +kernel, rfl⟩
theorem dL_law_1706 : q_at cL_law 1706 (.iaload) 1 1707 := ⟨by decide +kernel, rfl⟩
theorem dL_law_1707 : q_at cL_law 1707 (.invokevirtual 173) 3 1710 := ⟨by decide +kernel, rfl⟩
theorem dL_law_1710 : q_at cL_law 1710 (.if_icmp .eq 463) 3 1713 := ⟨by decide +kernel, rfl⟩
theorem dL_law_1713 : q_at cL_law 1713 (.iconst 0) 1 1714 := ⟨by decide +kernel, rfl⟩
theorem dL_law_1714 : q_at cL_law 1714 (.ireturn) 1 1715 := ⟨by decide +kernel, rfl⟩
theorem dL_law_1715 : q_at cL_law 1715 (.aload_n 1) 1 1716 := ⟨by decide +kernel, rfl⟩
theorem dL_law_1716 : q_at cL_law 1716 (.invokevirtual 174) 3 1719 := ⟨by decide +kernel, rfl⟩
theorem dL_law_1719 : q_at cL_law 1719 (.aload_n 2) 1 1720 := ⟨by decide +kernel, rfl⟩
theorem dL_law_1720 : q_at cL_law 1720 (.invokevirtual 178) 3 1723 := ⟨by decide +kernel, rfl⟩
theorem dL_law_1723 : q_at cL_law 1723 (.if_icmp .eq 450) 3 1726 := ⟨by decide +kernel, rfl⟩
theorem dL_law_1726 : q_at cL_law 1726 (.iconst 0) 1 1727 := ⟨by decide +kernel, rfl⟩
theorem dL_law_1727 : q_at cL_law 1727 (.ireturn) 1 1728 := ⟨by decide +kernel, rfl⟩
theorem dL_law_1728 : q_at cL_law 1728 (.aload_n 1) 1 1729 := ⟨by decide +kernel, rfl⟩
theorem dL_law_1729 : q_at cL_law 1729 (.aload_n 0) 1 1730 := ⟨by decide +kernel, rfl⟩
theorem dL_law_1730 : q_at cL_law 1730 (.iload_n 3) 1 1731 := ⟨by decide +kernel, rfl⟩
theorem dL_law_1731 : q_at cL_law 1731 (.iconst 1) 1 1732 := ⟨by decide +kernel, rfl⟩
theorem dL_law_1732 : q_at cL_law 1732 (.iadd) 1 1733 := ⟨by decide +kernel, rfl⟩
theorem dL_law_1733 : q_at cL_law 1733 (.iaload) 1 1734 := ⟨by decide +kernel, rfl⟩
theorem dL_law_1734 : q_at cL_law 1734 (.invokevirtual 179) 3 1737 := ⟨by decide +kernel, rfl⟩
theorem dL_law_1737 : q_at cL_law 1737 (.aload_n 2) 1 1738 := ⟨by decide +kernel, rfl⟩
theorem dL_law_1738 : q_at cL_law 1738 (.aload_n 0) 1 1739 := ⟨by decide +kernel, rfl⟩
theorem dL_law_1739 : q_at cL_law 1739 (.iload_n 3) 1 1740 := ⟨by decide +kernel, rfl⟩
theorem dL_law_1740 : q_at cL_law 1740 (.iconst 1) 1 1741 := ⟨by decide +kernel, rfl⟩
theorem dL_law_1741 : q_at cL_law 1741 (.iadd) 1 1742 := ⟨by decide +kernel, rfl⟩
theorem dL_law_1742 : q_at cL_law 1742 (.iaload) 1 1743 := ⟨by decide +kernel, rfl⟩
theorem dL_law_1743 : q_at cL_law 1743 (.invokevirtual 182) 3 1746 := ⟨by decide +kernel, rfl⟩
theorem dL_law_1746 : q_at cL_law 1746 (.if_icmp .eq 427) 3 1749 := ⟨by decide +kernel, rfl⟩
theorem dL_law_1749 : q_at cL_law 1749 (.iconst 0) 1 1750 := ⟨by decide +kernel, rfl⟩
theorem dL_law_1750 : q_at cL_law 1750 (.ireturn) 1 1751 := ⟨by decide +kernel, rfl⟩
theorem dL_law_1751 : q_at cL_law 1751 (.aload_n 1) 1 1752 := ⟨by decide +kernel, rfl⟩
theorem dL_law_1752 : q_at cL_law 1752 (.aload_n 0) 1 1753 := ⟨by decide +kernel, rfl⟩
theorem dL_law_1753 : q_at cL_law 1753 (.iload_n 3) 1 1754 := ⟨by decide +kernel, rfl⟩
theorem dL_law_1754 : q_at cL_law 1754 (.iconst 1) 1 1755 := ⟨by decide +kernel, rfl⟩
theorem dL_law_1755 : q_at cL_law 1755 (.iadd) 1 1756 := ⟨by decide +kernel, rfl⟩
theorem dL_law_1756 : q_at cL_law 1756 (.iaload) 1 1757 := ⟨by decide +kernel, rfl⟩
theorem dL_law_1757 : q_at cL_law 1757 (.aload_n 0) 1 1758 := ⟨by decide +kernel, rfl⟩
theorem dL_law_1758 : q_at cL_law 1758 (.iload_n 3) 1 1759 := ⟨by decide +kernel, rfl⟩
theorem dL_law_1759 : q_at cL_law 1759 (.iconst 2) 1 1760 := ⟨by decide +kernel, rfl⟩
theorem dL_law_1760 : q_at cL_law 1760 (.iadd) 1 1761 := ⟨by decide +kernel, rfl⟩
theorem dL_law_1761 : q_at cL_law 1761 (.iaload) 1 1762 := ⟨by decide +kernel, rfl⟩
theorem dL_law_1762 : q_at cL_law 1762 (.invokevirtual 183) 3 1765 := ⟨by decide +kernel, rfl⟩
theorem dL_law_1765 : q_at cL_law 1765 (.aload_n 2) 1 1766 := ⟨by decide +kernel, rfl⟩
theorem dL_law_1766 : q_at cL_law 1766 (.aload_n 0) 1 1767 := ⟨by decide +kernel, rfl⟩
theorem dL_law_1767 : q_at cL_law 1767 (.iload_n 3) 1 1768 := ⟨by decide +kernel, rfl⟩
theorem dL_law_1768 : q_at cL_law 1768 (.iconst 1) 1 1769 := ⟨by decide +kernel, rfl⟩
theorem dL_law_1769 : q_at cL_law 1769 (.iadd) 1 1770 := ⟨by decide +kernel, rfl⟩
theorem dL_law_1770 : q_at cL_law 1770 (.iaload) 1 1771 := ⟨by decide +kernel, rfl⟩
theorem dL_law_1771 : q_at cL_law 1771 (.aload_n 0) 1 1772 := ⟨by decide +kernel, rfl⟩
theorem dL_law_1772 : q_at cL_law 1772 (.iload_n 3) 1 1773 := ⟨by decide +kernel, rfl⟩
theorem dL_law_1773 : q_at cL_law 1773 (.iconst 2) 1 1774 := ⟨by decide +kernel, rfl⟩
theorem dL_law_1774 : q_at cL_law 1774 (.iadd) 1 1775 := ⟨by decide +kernel, rfl⟩
theorem dL_law_1775 : q_at cL_law 1775 (.iaload) 1 1776 := ⟨by decide +kernel, rfl⟩
theorem dL_law_1776 : q_at cL_law 1776 (.invokevirtual 186) 3 1779 := ⟨by decide +kernel, rfl⟩
theorem dL_law_1779 : q_at cL_law 1779 (.if_icmp .eq 394) 3 1782 := ⟨by decide +kernel, rfl⟩
theorem dL_law_1782 : q_at cL_law 1782 (.iconst 0) 1 1783 := ⟨by decide +kernel, rfl⟩
theorem dL_law_1783 : q_at cL_law 1783 (.ireturn) 1 1784 := ⟨by decide +kernel, rfl⟩
theorem dL_law_1784 : q_at cL_law 1784 (.aload_n 1) 1 1785 := ⟨by decide +kernel, rfl⟩
theorem dL_law_1785 : q_at cL_law 1785 (.aload_n 0) 1 1786 := ⟨by decide +kernel, rfl⟩
theorem dL_law_1786 : q_at cL_law 1786 (.iload_n 3) 1 1787 := ⟨by decide +kernel, rfl⟩
theorem dL_law_1787 : q_at cL_law 1787 (.iconst 1) 1 1788 := ⟨by decide +kernel, rfl⟩
theorem dL_law_1788 : q_at cL_law 1788 (.iadd) 1 1789 := ⟨by decide +kernel, rfl⟩
theorem dL_law_1789 : q_at cL_law 1789 (.iaload) 1 1790 := ⟨by decide +kernel, rfl⟩
theorem dL_law_1790 : q_at cL_law 1790 (.aload_n 0) 1 1791 := ⟨by decide +kernel, rfl⟩
theorem dL_law_1791 : q_at cL_law 1791 (.iload_n 3) 1 1792 := ⟨by decide +kernel, rfl⟩
theorem dL_law_1792 : q_at cL_law 1792 (.iconst 2) 1 1793 := ⟨by decide +kernel, rfl⟩
theorem dL_law_1793 : q_at cL_law 1793 (.iadd) 1 1794 := ⟨by decide +kernel, rfl⟩
theorem dL_law_1794 : q_at cL_law 1794 (.iaload) 1 1795 := ⟨by decide +kernel, rfl⟩
theorem dL_law_1795 : q_at cL_law 1795 (.aload_n 0) 1 1796 := ⟨by decide +kernel, rfl⟩
theorem dL_law_1796 : q_at cL_law 1796 (.iload_n 3) 1 1797 := ⟨by decide +kernel, rfl⟩
theorem dL_law_1797 : q_at cL_law 1797 (.iconst 3) 1 1798 := ⟨by decide +kernel, rfl⟩
theorem dL_law_1798 : q_at cL_law 1798 (.iadd) 1 1799 := ⟨by decide +kernel, rfl⟩
theorem dL_law_1799 : q_at cL_law 1799 (.iaload) 1 1800 := ⟨by decide +kernel, rfl⟩
theorem dL_law_1800 : q_at cL_law 1800 (.invokevirtual 187) 3 1803 := ⟨by decide +kernel, rfl⟩
theorem dL_law_1803 : q_at cL_law 1803 (.aload_n 2) 1 1804 := ⟨by decide +kernel, rfl⟩
theorem dL_law_1804 : q_at cL_law 1804 (.aload_n 0) 1 1805 := ⟨by decide +kernel, rfl⟩
theorem dL_law_1805 : q_at cL_law 1805 (.iload_n 3) 1 1806 := ⟨by decide +kernel, rfl⟩
theorem dL_law_1806 : q_at cL_law 1806 (.iconst 1) 1 1807 := ⟨by decide +kernel, rfl⟩
theorem dL_law_1807 : q_at cL_law 1807 (.iadd) 1 1808 := ⟨by decide +kernel, rfl⟩
theorem dL_law_1808 : q_at cL_law 1808 (.iaload) 1 1809 := ⟨by decide +kernel, rfl⟩
theorem dL_law_1809 : q_at cL_law 1809 (.aload_n 0) 1 1810 := ⟨by decide +kernel, rfl⟩
theorem dL_law_1810 : q_at cL_law 1810 (.iload_n 3) 1 1811 := ⟨by decide +kernel, rfl⟩
theorem dL_law_1811 : q_at cL_law 1811 (.iconst 2) 1 1812 := ⟨by decide +kernel, rfl⟩
theorem dL_law_1812 : q_at cL_law 1812 (.iadd) 1 1813 := ⟨by decide +kernel, rfl⟩
theorem dL_law_1813 : q_at cL_law 1813 (.iaload) 1 1814 := ⟨by decide +kernel, rfl⟩
theorem dL_law_1814 : q_at cL_law 1814 (.aload_n 0) 1 1815 := ⟨by decide +kernel, rfl⟩
theorem dL_law_1815 : q_at cL_law 1815 (.iload_n 3) 1 1816 := ⟨by decide +kernel, rfl⟩
theorem dL_law_1816 : q_at cL_law 1816 (.iconst 3) 1 1817 := ⟨by decide +kernel, rfl⟩
theorem dL_law_1817 : q_at cL_law 1817 (.iadd) 1 1818 := ⟨by decide +kernel, rfl⟩
theorem dL_law_1818 : q_at cL_law 1818 (.iaload) 1 1819 := ⟨by decide +kernel, rfl⟩
theorem dL_law_1819 : q_at cL_law 1819 (.invokevirtual 190) 3 1822 := ⟨by decide +kernel, rfl⟩
theorem dL_law_1822 : q_at cL_law 1822 (.if_icmp .eq 351) 3 1825 := ⟨by decide +kernel, rfl⟩
theorem dL_law_1825 : q_at cL_law 1825 (.iconst 0) 1 1826 := ⟨by decide +kernel, rfl⟩
theorem dL_law_1826 : q_at cL_law 1826 (.ireturn) 1 1827 := ⟨by decide +kernel, rfl⟩
theorem dL_law_1827 : q_at cL_law 1827 (.aload_n 1) 1 1828 := ⟨by decide +kernel, rfl⟩
theorem dL_law_1828 : q_at cL_law 1828 (.aload_n 0) 1 1829 := ⟨by decide +kernel, rfl⟩
theorem dL_law_1829 : q_at cL_law 1829 (.iload_n 3) 1 1830 := ⟨by decide +kernel, rfl⟩
theorem dL_law_1830 : q_at cL_law 1830 (.iconst 1) 1 1831 := ⟨by decide +kernel, rfl⟩
theorem dL_law_1831 : q_at cL_law 1831 (.iadd) 1 1832 := ⟨by decide +kernel, rfl⟩
theorem dL_law_1832 : q_at cL_law 1832 (.iaload) 1 1833 := ⟨by decide +kernel, rfl⟩
theorem dL_law_1833 : q_at cL_law 1833 (.invokevirtual 191) 3 1836 := ⟨by decide +kernel, rfl⟩
theorem dL_law_1836 : q_at cL_law 1836 (.aload_n 2) 1 1837 := ⟨by decide +kernel, rfl⟩
theorem dL_law_1837 : q_at cL_law 1837 (.aload_n 0) 1 1838 := ⟨by decide +kernel, rfl⟩
theorem dL_law_1838 : q_at cL_law 1838 (.iload_n 3) 1 1839 := ⟨by decide +kernel, rfl⟩
theorem dL_law_1839 : q_at cL_law 1839 (.iconst 1) 1 1840 := ⟨by decide +kernel, rfl⟩
theorem dL_law_1840 : q_at cL_law 1840 (.iadd) 1 1841 := ⟨by decide +kernel, rfl⟩
theorem dL_law_1841 : q_at cL_law 1841 (.iaload) 1 1842 := ⟨by decide +kernel, rfl⟩
theorem dL_law_1842 : q_at cL_law 1842 (.invokevirtual 194) 3 1845 := ⟨by decide +kernel, rfl⟩
theorem dL_law_1845 : q_at cL_law 1845 (.if_icmp .eq 328) 3 1848 := ⟨by decide +kernel, rfl⟩
theorem dL_law_1848 : q_at cL_law 1848 (.iconst 0) 1 1849 := ⟨by decide +kernel, rfl⟩
theorem dL_law_1849 : q_at cL_law 1849 (.ireturn) 1 1850 := ⟨by decide +kernel, rfl⟩
theorem dL_law_1850 : q_at cL_law 1850 (.aload_n 1) 1 1851 := ⟨by decide +kernel, rfl⟩
theorem dL_law_1851 : q_at cL_law 1851 (.aload_n 0) 1 1852 := ⟨by decide +kernel, rfl⟩
theorem dL_law_1852 : q_at cL_law 1852 (.iload_n 3) 1 1853 := ⟨by decide +kernel, rfl⟩
theorem dL_law_1853 : q_at cL_law 1853 (.iconst 1) 1 1854 := ⟨by decide +kernel, rfl⟩
theorem dL_law_1854 : q_at cL_law 1854 (.iadd) 1 1855 := ⟨by decide +kernel, rfl⟩
theorem dL_law_1855 : q_at cL_law 1855 (.iaload) 1 1856 := ⟨by decide +kernel, rfl⟩
theorem dL_law_1856 : q_at cL_law 1856 (.aload_n 0) 1 1857 := ⟨by decide +kernel, rfl⟩
theorem dL_law_1857 : q_at cL_law 1857 (.iload_n 3) 1 1858 := ⟨by decide +kernel, rfl⟩
theorem dL_law_1858 : q_at cL_law 1858 (.iconst 2) 1 1859 := ⟨by decide +kernel, rfl⟩
theorem dL_law_1859 : q_at cL_law 1859 (.iadd) 1 1860 := ⟨by decide +kernel, rfl⟩
theorem dL_law_1860 : q_at cL_law 1860 (.iaload) 1 1861 := ⟨by decide +kernel, rfl⟩
theorem dL_law_1861 : q_at cL_law 1861 (.invokevirtual 195) 3 1864 := ⟨by decide +kernel, rfl⟩
theorem dL_law_1864 : q_at cL_law 1864 (.aload_n 2) 1 1865 := ⟨by decide +kernel, rfl⟩
theorem dL_law_1865 : q_at cL_law 1865 (.aload_n 0) 1 1866 := ⟨by decide +kernel, rfl⟩
theorem dL_law_1866 : q_at cL_law 1866 (.iload_n 3) 1 1867 := ⟨by decide +kernel, rfl⟩
theorem dL_law_1867 : q_at cL_law 1867 (.iconst 1) 1 1868 := ⟨by decide +kernel, rfl⟩
theorem dL_law_1868 : q_at cL_law 1868 (.iadd) 1 1869 := ⟨by decide +kernel, rfl⟩
theorem dL_law_1869 : q_at cL_law 1869 (.iaload) 1 1870 := ⟨by decide +kernel, rfl⟩
theorem dL_law_1870 : q_at cL_law 1870 (.aload_n 0) 1 1871 := ⟨by decide +kernel, rfl⟩
theorem dL_law_1871 : q_at cL_law 1871 (.iload_n 3) 1 1872 := ⟨by decide +kernel, rfl⟩
theorem dL_law_1872 : q_at cL_law 1872 (.iconst 2) 1 1873 := ⟨by decide +kernel, rfl⟩
theorem dL_law_1873 : q_at cL_law 1873 (.iadd) 1 1874 := ⟨by decide +kernel, rfl⟩
theorem dL_law_1874 : q_at cL_law 1874 (.iaload) 1 1875 := ⟨by decide +kernel, rfl⟩
theorem dL_law_1875 : q_at cL_law 1875 (.invokevirtual 198) 3 1878 := ⟨by decide +kernel, rfl⟩
theorem dL_law_1878 : q_at cL_law 1878 (.if_icmp .eq 295) 3 1881 := ⟨by decide +kernel, rfl⟩
theorem dL_law_1881 : q_at cL_law 1881 (.iconst 0) 1 1882 := ⟨by decide +kernel, rfl⟩
theorem dL_law_1882 : q_at cL_law 1882 (.ireturn) 1 1883 := ⟨by decide +kernel, rfl⟩
theorem dL_law_1883 : q_at cL_law 1883 (.aload_n 1) 1 1884 := ⟨by decide +kernel, rfl⟩
theorem dL_law_1884 : q_at cL_law 1884 (.aload_n 0) 1 1885 := ⟨by decide +kernel, rfl⟩
theorem dL_law_1885 : q_at cL_law 1885 (.iload_n 3) 1 1886 := ⟨by decide +kernel, rfl⟩
theorem dL_law_1886 : q_at cL_law 1886 (.iconst 1) 1 1887 := ⟨by decide +kernel, rfl⟩
theorem dL_law_1887 : q_at cL_law 1887 (.iadd) 1 1888 := ⟨by decide +kernel, rfl⟩
theorem dL_law_1888 : q_at cL_law 1888 (.iaload) 1 1889 := ⟨by decide +kernel, rfl⟩
theorem dL_law_1889 : q_at cL_law 1889 (.aload_n 0) 1 1890 := ⟨by decide +kernel, rfl⟩
theorem dL_law_1890 : q_at cL_law 1890 (.iload_n 3) 1 1891 := ⟨by decide +kernel, rfl⟩
theorem dL_law_1891 : q_at cL_law 1891 (.iconst 2) 1 1892 := ⟨by decide +kernel, rfl⟩
theorem dL_law_1892 : q_at cL_law 1892 (.iadd) 1 1893 := ⟨by decide +kernel, rfl⟩
theorem dL_law_1893 : q_at cL_law 1893 (.iaload) 1 1894 := ⟨by decide +kernel, rfl⟩
theorem dL_law_1894 : q_at cL_law 1894 (.invokevirtual 199) 3 1897 := ⟨by decide +kernel, rfl⟩
theorem dL_law_1897 : q_at cL_law 1897 (.aload_n 2) 1 1898 := ⟨by decide +kernel, rfl⟩
theorem dL_law_1898 : q_at cL_law 1898 (.aload_n 0) 1 1899 := ⟨by decide +kernel, rfl⟩
theorem dL_law_1899 : q_at cL_law 1899 (.iload_n 3) 1 1900 := ⟨by decide +kernel, rfl⟩
theorem dL_law_1900 : q_at cL_law 1900 (.iconst 1) 1 1901 := ⟨by decide +kernel, rfl⟩
theorem dL_law_1901 : q_at cL_law 1901 (.iadd) 1 1902 := ⟨by decide +kernel, rfl⟩
theorem dL_law_1902 : q_at cL_law 1902 (.iaload) 1 1903 := ⟨by decide +kernel, rfl⟩
theorem dL_law_1903 : q_at cL_law 1903 (.aload_n 0) 1 1904 := ⟨by decide +kernel, rfl⟩
theorem dL_law_1904 : q_at cL_law 1904 (.iload_n 3) 1 1905 := ⟨by decide +kernel, rfl⟩
theorem dL_law_1905 : q_at cL_law 1905 (.iconst 2) 1 1906 := ⟨by decide +kernel, rfl⟩
theorem dL_law_1906 : q_at cL_law 1906 (.iadd) 1 1907 := ⟨by decide +kernel, rfl⟩
theorem dL_law_1907 : q_at cL_law 1907 (.iaload) 1 1908 := ⟨by decide +kernel, rfl⟩
theorem dL_law_1908 : q_at cL_law 1908 (.invokevirtual 202) 3 1911 := ⟨by decide +kernel, rfl⟩
theorem dL_law_1911 : q_at cL_law 1911 (.if_icmp .eq 262) 3 1914 := ⟨by decide +kernel, rfl⟩
theorem dL_law_1914 : q_at cL_law 1914 (.iconst 0) 1 1915 := ⟨by decide +kernel, rfl⟩
theorem dL_law_1915 : q_at cL_law 1915 (.ireturn) 1 1916 := ⟨by decide +kernel, rfl⟩
theorem dL_law_1916 : q_at cL_law 1916 (.aload_n 1) 1 1917 := ⟨by decide +kernel, rfl⟩
theorem dL_law_1917 : q_at cL_law 1917 (.invokevirtual 203) 3 1920 := ⟨by decide +kernel, rfl⟩
theorem dL_law_1920 : q_at cL_law 1920 (.aload_n 2) 1 1921 := ⟨by decide +kernel, rfl⟩
theorem dL_law_1921 : q_at cL_law 1921 (.invokevirtual 206) 3 1924 := ⟨by decide +kernel, rfl⟩
theorem dL_law_1924 : q_at cL_law 1924 (.if_icmp .eq 249) 3 1927 := ⟨by decide +kernel, rfl⟩
theorem dL_law_1927 : q_at cL_law 1927 (.iconst 0) 1 1928 := ⟨by decide +kernel, rfl⟩
theorem dL_law_1928 : q_at cL_law 1928 (.ireturn) 1 1929 := ⟨by decide +kernel, rfl⟩
theorem dL_law_1929 : q_at cL_law 1929 (.aload_n 1) 1 1930 := ⟨by decide +kernel, rfl⟩
theorem dL_law_1930 : q_at cL_law 1930 (.aload_n 0) 1 1931 := ⟨by decide +kernel, rfl⟩
theorem dL_law_1931 : q_at cL_law 1931 (.iload_n 3) 1 1932 := ⟨by decide +kernel, rfl⟩
theorem dL_law_1932 : q_at cL_law 1932 (.iconst 1) 1 1933 := ⟨by decide +kernel, rfl⟩
theorem dL_law_1933 : q_at cL_law 1933 (.iadd) 1 1934 := ⟨by decide +kernel, rfl⟩
theorem dL_law_1934 : q_at cL_law 1934 (.iaload) 1 1935 := ⟨by decide +kernel, rfl⟩
theorem dL_law_1935 : q_at cL_law 1935 (.aload_n 0) 1 1936 := ⟨by decide +kernel, rfl⟩
theorem dL_law_1936 : q_at cL_law 1936 (.iload_n 3) 1 1937 := ⟨by decide +kernel, rfl⟩
theorem dL_law_1937 : q_at cL_law 1937 (.iconst 2) 1 1938 := ⟨by decide +kernel, rfl⟩
theorem dL_law_1938 : q_at cL_law 1938 (.iadd) 1 1939 := ⟨by decide +kernel, rfl⟩
theorem dL_law_1939 : q_at cL_law 1939 (.iaload) 1 1940 := ⟨by decide +kernel, rfl⟩
theorem dL_law_1940 : q_at cL_law 1940 (.aload_n 0) 1 1941 := ⟨by decide +kernel, rfl⟩
theorem dL_law_1941 : q_at cL_law 1941 (.iload_n 3) 1 1942 := ⟨by decide +kernel, rfl⟩
theorem dL_law_1942 : q_at cL_law 1942 (.iconst 3) 1 1943 := ⟨by decide +kernel, rfl⟩
theorem dL_law_1943 : q_at cL_law 1943 (.iadd) 1 1944 := ⟨by decide +kernel, rfl⟩
theorem dL_law_1944 : q_at cL_law 1944 (.iaload) 1 1945 := ⟨by decide +kernel, rfl⟩
theorem dL_law_1945 : q_at cL_law 1945 (.invokevirtual 207) 3 1948 := ⟨by decide +kernel, rfl⟩
theorem dL_law_1948 : q_at cL_law 1948 (.aload_n 2) 1 1949 := ⟨by decide +kernel, rfl⟩
theorem dL_law_1949 : q_at cL_law 1949 (.aload_n 0) 1 1950 := ⟨by decide +kernel, rfl⟩
theorem dL_law_1950 : q_at cL_law 1950 (.iload_n 3) 1 1951 := ⟨by decide +kernel, rfl⟩
theorem dL_law_1951 : q_at cL_law 1951 (.iconst 1) 1 1952 := ⟨by decide +kernel, rfl⟩
theorem dL_law_1952 : q_at cL_law 1952 (.iadd) 1 1953 := ⟨by decide +kernel, rfl⟩
theorem dL_law_1953 : q_at cL_law 1953 (.iaload) 1 1954 := ⟨by decide +kernel, rfl⟩
theorem dL_law_1954 : q_at cL_law 1954 (.aload_n 0) 1 1955 := ⟨by decide +kernel, rfl⟩
theorem dL_law_1955 : q_at cL_law 1955 (.iload_n 3) 1 1956 := ⟨by decide +kernel, rfl⟩
theorem dL_law_1956 : q_at cL_law 1956 (.iconst 2) 1 1957 := ⟨by decide +kernel, rfl⟩
theorem dL_law_1957 : q_at cL_law 1957 (.iadd) 1 1958 := ⟨by decide +kernel, rfl⟩
theorem dL_law_1958 : q_at cL_law 1958 (.iaload) 1 1959 := ⟨by decide +kernel, rfl⟩
theorem dL_law_1959 : q_at cL_law 1959 (.aload_n 0) 1 1960 := ⟨by decide +kernel, rfl⟩
theorem dL_law_1960 : q_at cL_law 1960 (.iload_n 3) 1 1961 := ⟨by decide +kernel, rfl⟩
theorem dL_law_1961 : q_at cL_law 1961 (.iconst 3) 1 1962 := ⟨by decide +kernel, rfl⟩
theorem dL_law_1962 : q_at cL_law 1962 (.iadd) 1 1963 := ⟨by decide +kernel, rfl⟩
theorem dL_law_1963 : q_at cL_law 1963 (.iaload) 1 1964 := ⟨by decide +kernel, rfl⟩
theorem dL_law_1964 : q_at cL_law 1964 (.invokevirtual 210) 3 1967 := ⟨by decide +kernel, rfl⟩
theorem dL_law_1967 : q_at cL_law 1967 (.if_icmp .eq 206) 3 1970 := ⟨by decide +kernel, rfl⟩
theorem dL_law_1970 : q_at cL_law 1970 (.iconst 0) 1 1971 := ⟨by decide +kernel, rfl⟩
theorem dL_law_1971 : q_at cL_law 1971 (.ireturn) 1 1972 := ⟨by decide +kernel, rfl⟩
theorem dL_law_1972 : q_at cL_law 1972 (.aload_n 1) 1 1973 := ⟨by decide +kernel, rfl⟩
theorem dL_law_1973 : q_at cL_law 1973 (.aload_n 0) 1 1974 := ⟨by decide +kernel, rfl⟩
theorem dL_law_1974 : q_at cL_law 1974 (.iload_n 3) 1 1975 := ⟨by decide +kernel, rfl⟩
theorem dL_law_1975 : q_at cL_law 1975 (.iconst 1) 1 1976 := ⟨by decide +kernel, rfl⟩
theorem dL_law_1976 : q_at cL_law 1976 (.iadd) 1 1977 := ⟨by decide +kernel, rfl⟩
theorem dL_law_1977 : q_at cL_law 1977 (.iaload) 1 1978 := ⟨by decide +kernel, rfl⟩
theorem dL_law_1978 : q_at cL_law 1978 (.aload_n 0) 1 1979 := ⟨by decide +kernel, rfl⟩
theorem dL_law_1979 : q_at cL_law 1979 (.iload_n 3) 1 1980 := ⟨by decide +kernel, rfl⟩
theorem dL_law_1980 : q_at cL_law 1980 (.iconst 2) 1 1981 := ⟨by decide +kernel, rfl⟩
theorem dL_law_1981 : q_at cL_law 1981 (.iadd) 1 1982 := ⟨by decide +kernel, rfl⟩
theorem dL_law_1982 : q_at cL_law 1982 (.iaload) 1 1983 := ⟨by decide +kernel, rfl⟩
theorem dL_law_1983 : q_at cL_law 1983 (.aload_n 0) 1 1984 := ⟨by decide +kernel, rfl⟩
theorem dL_law_1984 : q_at cL_law 1984 (.iload_n 3) 1 1985 := ⟨by decide +kernel, rfl⟩
theorem dL_law_1985 : q_at cL_law 1985 (.iconst 3) 1 1986 := ⟨by decide +kernel, rfl⟩
theorem dL_law_1986 : q_at cL_law 1986 (.iadd) 1 1987 := ⟨by decide +kernel, rfl⟩
theorem dL_law_1987 : q_at cL_law 1987 (.iaload) 1 1988 := ⟨by decide +kernel, rfl⟩
theorem dL_law_1988 : q_at cL_law 1988 (.invokevirtual 211) 3 1991 := ⟨by decide +kernel, rfl⟩
theorem dL_law_1991 : q_at cL_law 1991 (.aload_n 2) 1 1992 := ⟨by decide +kernel, rfl⟩
theorem dL_law_1992 : q_at cL_law 1992 (.aload_n 0) 1 1993 := ⟨by decide +kernel, rfl⟩
theorem dL_law_1993 : q_at cL_law 1993 (.iload_n 3) 1 1994 := ⟨by decide +kernel, rfl⟩
theorem dL_law_1994 : q_at cL_law 1994 (.iconst 1) 1 1995 := ⟨by decide +kernel, rfl⟩
theorem dL_law_1995 : q_at cL_law 1995 (.iadd) 1 1996 := ⟨by decide +kernel, rfl⟩
theorem dL_law_1996 : q_at cL_law 1996 (.iaload) 1 1997 := ⟨by decide +kernel, rfl⟩
theorem dL_law_1997 : q_at cL_law 1997 (.aload_n 0) 1 1998 := ⟨by decide +kernel, rfl⟩
theorem dL_law_1998 : q_at cL_law 1998 (.iload_n 3) 1 1999 := ⟨by decide +kernel, rfl⟩
theorem dL_law_1999 : q_at cL_law 1999 (.iconst 2) 1 2000 := ⟨by decide +kernel, rfl⟩
theorem dL_law_2000 : q_at cL_law 2000 (.iadd) 1 2001 := ⟨by decide +kernel, rfl⟩
theorem dL_law_2001 : q_at cL_law 2001 (.iaload) 1 2002 := ⟨by decide +kernel, rfl⟩
theorem dL_law_2002 : q_at cL_law 2002 (.aload_n 0) 1 2003 := ⟨by decide +kernel, rfl⟩
theorem dL_law_2003 : q_at cL_law 2003 (.iload_n 3) 1 2004 := ⟨by decide +kernel, rfl⟩
theorem dL_law_2004 : q_at cL_law 2004 (.iconst 3) 1 2005 := ⟨by decide +kernel, rfl⟩
theorem dL_law_2005 : q_at cL_law 2005 (.iadd) 1 2006 := ⟨by decide +kernel, rfl⟩
theorem dL_law_2006 : q_at cL_law 2006 (.iaload) 1 2007 := ⟨by decide +kernel, rfl⟩
theorem dL_law_2007 : q_at cL_law 2007 (.invokevirtual 214) 3 2010 := ⟨by decide +kernel, rfl⟩
theorem dL_law_2010 : q_at cL_law 2010 (.if_icmp .eq 163) 3 2013 := ⟨by decide +kernel, rfl⟩
theorem dL_law_2013 : q_at cL_law 2013 (.iconst 0) 1 2014 := ⟨by decide +kernel, rfl⟩
theorem dL_law_2014 : q_at cL_law 2014 (.ireturn) 1 2015 := ⟨by decide +kernel, rfl⟩
theorem dL_law_2015 : q_at cL_law 2015 (.aload_n 1) 1 2016 := ⟨by decide +kernel, rfl⟩
theorem dL_law_2016 : q_at cL_law 2016 (.aload_n 0) 1 2017 := ⟨by decide +kernel, rfl⟩
theorem dL_law_2017 : q_at cL_law 2017 (.iload_n 3) 1 2018 := ⟨by decide +kernel, rfl⟩
theorem dL_law_2018 : q_at cL_law 2018 (.iconst 1) 1 2019 := ⟨by decide +kernel, rfl⟩
theorem dL_law_2019 : q_at cL_law 2019 (.iadd) 1 2020 := ⟨by decide +kernel, rfl⟩
theorem dL_law_2020 : q_at cL_law 2020 (.iaload) 1 2021 := ⟨by decide +kernel, rfl⟩
theorem dL_law_2021 : q_at cL_law 2021 (.aload_n 0) 1 2022 := ⟨by decide +kernel, rfl⟩
theorem dL_law_2022 : q_at cL_law 2022 (.iload_n 3) 1 2023 := ⟨by decide +kernel, rfl⟩
theorem dL_law_2023 : q_at cL_law 2023 (.iconst 2) 1 2024 := ⟨by decide +kernel, rfl⟩
theorem dL_law_2024 : q_at cL_law 2024 (.iadd) 1 2025 := ⟨by decide +kernel, rfl⟩
theorem dL_law_2025 : q_at cL_law 2025 (.iaload) 1 2026 := ⟨by decide +kernel, rfl⟩
theorem dL_law_2026 : q_at cL_law 2026 (.aload_n 0) 1 2027 := ⟨by decide +kernel, rfl⟩
theorem dL_law_2027 : q_at cL_law 2027 (.iload_n 3) 1 2028 := ⟨by decide +kernel, rfl⟩
theorem dL_law_2028 : q_at cL_law 2028 (.iconst 3) 1 2029 := ⟨by decide +kernel, rfl⟩
theorem dL_law_2029 : q_at cL_law 2029 (.iadd) 1 2030 := ⟨by decide +kernel, rfl⟩
theorem dL_law_2030 : q_at cL_law 2030 (.iaload) 1 2031 := ⟨by decide +kernel, rfl⟩
theorem dL_law_2031 : q_at cL_law 2031 (.invokevirtual 215) 3 2034 := ⟨by decide +kernel, rfl⟩
theorem dL_law_2034 : q_at cL_law 2034 (.aload_n 2) 1 2035 := ⟨by decide +kernel, rfl⟩
theorem dL_law_2035 : q_at cL_law 2035 (.aload_n 0) 1 2036 := ⟨by decide +kernel, rfl⟩
theorem dL_law_2036 : q_at cL_law 2036 (.iload_n 3) 1 2037 := ⟨by decide +kernel, rfl⟩
theorem dL_law_2037 : q_at cL_law 2037 (.iconst 1) 1 2038 := ⟨by decide +kernel, rfl⟩
theorem dL_law_2038 : q_at cL_law 2038 (.iadd) 1 2039 := ⟨by decide +kernel, rfl⟩
theorem dL_law_2039 : q_at cL_law 2039 (.iaload) 1 2040 := ⟨by decide +kernel, rfl⟩
theorem dL_law_2040 : q_at cL_law 2040 (.aload_n 0) 1 2041 := ⟨by decide +kernel, rfl⟩
theorem dL_law_2041 : q_at cL_law 2041 (.iload_n 3) 1 2042 := ⟨by decide +kernel, rfl⟩
theorem dL_law_2042 : q_at cL_law 2042 (.iconst 2) 1 2043 := ⟨by decide +kernel, rfl⟩
theorem dL_law_2043 : q_at cL_law 2043 (.iadd) 1 2044 := ⟨by decide +kernel, rfl⟩
theorem dL_law_2044 : q_at cL_law 2044 (.iaload) 1 2045 := ⟨by decide +kernel, rfl⟩
theorem dL_law_2045 : q_at cL_law 2045 (.aload_n 0) 1 2046 := ⟨by decide +kernel, rfl⟩
theorem dL_law_2046 : q_at cL_law 2046 (.iload_n 3) 1 2047 := ⟨by decide +kernel, rfl⟩
theorem dL_law_2047 : q_at cL_law 2047 (.iconst 3) 1 2048 := ⟨by decide +kernel, rfl⟩
theorem dL_law_2048 : q_at cL_law 2048 (.iadd) 1 2049 := ⟨by decide +kernel, rfl⟩
theorem dL_law_2049 : q_at cL_law 2049 (.iaload) 1 2050 := ⟨by decide +kernel, rfl⟩
theorem dL_law_2050 : q_at cL_law 2050 (.invokevirtual 218) 3 2053 := ⟨by decide +kernel, rfl⟩
theorem dL_law_2053 : q_at cL_law 2053 (.if_icmp .eq 120) 3 2056 := ⟨by decide +kernel, rfl⟩
theorem dL_law_2056 : q_at cL_law 2056 (.iconst 0) 1 2057 := ⟨by decide +kernel, rfl⟩
theorem dL_law_2057 : q_at cL_law 2057 (.ireturn) 1 2058 := ⟨by decide +kernel, rfl⟩
theorem dL_law_2058 : q_at cL_law 2058 (.aload_n 1) 1 2059 := ⟨by decide +kernel, rfl⟩
theorem dL_law_2059 : q_at cL_law 2059 (.aload_n 0) 1 2060 := ⟨by decide +kernel, rfl⟩
theorem dL_law_2060 : q_at cL_law 2060 (.iload_n 3) 1 2061 := ⟨by decide +kernel, rfl⟩
theorem dL_law_2061 : q_at cL_law 2061 (.iconst 1) 1 2062 := ⟨by decide +kernel, rfl⟩
theorem dL_law_2062 : q_at cL_law 2062 (.iadd) 1 2063 := ⟨by decide +kernel, rfl⟩
theorem dL_law_2063 : q_at cL_law 2063 (.iaload) 1 2064 := ⟨by decide +kernel, rfl⟩
theorem dL_law_2064 : q_at cL_law 2064 (.invokevirtual 219) 3 2067 := ⟨by decide +kernel, rfl⟩
theorem dL_law_2067 : q_at cL_law 2067 (.aload_n 2) 1 2068 := ⟨by decide +kernel, rfl⟩
theorem dL_law_2068 : q_at cL_law 2068 (.aload_n 0) 1 2069 := ⟨by decide +kernel, rfl⟩
theorem dL_law_2069 : q_at cL_law 2069 (.iload_n 3) 1 2070 := ⟨by decide +kernel, rfl⟩
theorem dL_law_2070 : q_at cL_law 2070 (.iconst 1) 1 2071 := ⟨by decide +kernel, rfl⟩
theorem dL_law_2071 : q_at cL_law 2071 (.iadd) 1 2072 := ⟨by decide +kernel, rfl⟩
theorem dL_law_2072 : q_at cL_law 2072 (.iaload) 1 2073 := ⟨by decide +kernel, rfl⟩
theorem dL_law_2073 : q_at cL_law 2073 (.invokevirtual 222) 3 2076 := ⟨by decide +kernel, rfl⟩
theorem dL_law_2076 : q_at cL_law 2076 (.if_icmp .eq 97) 3 2079 := ⟨by decide +kernel, rfl⟩
theorem dL_law_2079 : q_at cL_law 2079 (.iconst 0) 1 2080 := ⟨by decide +kernel, rfl⟩
theorem dL_law_2080 : q_at cL_law 2080 (.ireturn) 1 2081 := ⟨by decide +kernel, rfl⟩
theorem dL_law_2081 : q_at cL_law 2081 (.aload_n 1) 1 2082 := ⟨by decide +kernel, rfl⟩
theorem dL_law_2082 : q_at cL_law 2082 (.aload_n 0) 1 2083 := ⟨by decide +kernel, rfl⟩
theorem dL_law_2083 : q_at cL_law 2083 (.iload_n 3) 1 2084 := ⟨by decide +kernel, rfl⟩
theorem dL_law_2084 : q_at cL_law 2084 (.iconst 1) 1 2085 := ⟨by decide +kernel, rfl⟩
theorem dL_law_2085 : q_at cL_law 2085 (.iadd) 1 2086 := ⟨by decide +kernel, rfl⟩
theorem dL_law_2086 : q_at cL_law 2086 (.iaload) 1 2087 := ⟨by decide +kernel, rfl⟩
theorem dL_law_2087 : q_at cL_law 2087 (.aload_n 0) 1 2088 := ⟨by decide +kernel, rfl⟩
theorem dL_law_2088 : q_at cL_law 2088 (.iload_n 3) 1 2089 := ⟨by decide +kernel, rfl⟩
theorem dL_law_2089 : q_at cL_law 2089 (.iconst 2) 1 2090 := ⟨by decide +kernel, rfl⟩
theorem dL_law_2090 : q_at cL_law 2090 (.iadd) 1 2091 := ⟨by decide +kernel, rfl⟩
theorem dL_law_2091 : q_at cL_law 2091 (.iaload) 1 2092 := ⟨by decide +kernel, rfl⟩
theorem dL_law_2092 : q_at cL_law 2092 (.aload_n 0) 1 2093 := ⟨by decide +kernel, rfl⟩
theorem dL_law_2093 : q_at cL_law 2093 (.iload_n 3) 1 2094 := ⟨by decide +kernel, rfl⟩
theorem dL_law_2094 : q_at cL_law 2094 (.iconst 3) 1 2095 := ⟨by decide +kernel, rfl⟩
theorem dL_law_2095 : q_at cL_law 2095 (.iadd) 1 2096 := ⟨by decide +kernel, rfl⟩
theorem dL_law_2096 : q_at cL_law 2096 (.iaload) 1 2097 := ⟨by decide +kernel, rfl⟩
theorem dL_law_2097 : q_at cL_law 2097 (.invokevirtual 223) 3 2100 := ⟨by decide +kernel, rfl⟩
theorem dL_law_2100 : q_at cL_law 2100 (.aload_n 2) 1 2101 := ⟨by decide +kernel, rfl⟩
theorem dL_law_2101 : q_at cL_law 2101 (.aload_n 0) 1 2102 := ⟨by decide +kernel, rfl⟩
theorem dL_law_2102 : q_at cL_law 2102 (.iload_n 3) 1 2103 := ⟨by decide +kernel, rfl⟩
theorem dL_law_2103 : q_at cL_law 2103 (.iconst 1) 1 2104 := ⟨by decide +kernel, rfl⟩
theorem dL_law_2104 : q_at cL_law 2104 (.iadd) 1 2105 := ⟨by decide +kernel, rfl⟩
theorem dL_law_2105 : q_at cL_law 2105 (.iaload) 1 2106 := ⟨by decide +kernel, rfl⟩
theorem dL_law_2106 : q_at cL_law 2106 (.aload_n 0) 1 2107 := ⟨by decide +kernel, rfl⟩
theorem dL_law_2107 : q_at cL_law 2107 (.iload_n 3) 1 2108 := ⟨by decide +kernel, rfl⟩
theorem dL_law_2108 : q_at cL_law 2108 (.iconst 2) 1 2109 := ⟨by decide +kernel, rfl⟩
theorem dL_law_2109 : q_at cL_law 2109 (.iadd) 1 2110 := ⟨by decide +kernel, rfl⟩
theorem dL_law_2110 : q_at cL_law 2110 (.iaload) 1 2111 := ⟨by decide +kernel, rfl⟩
theorem dL_law_2111 : q_at cL_law 2111 (.aload_n 0) 1 2112 := ⟨by decide +kernel, rfl⟩
theorem dL_law_2112 : q_at cL_law 2112 (.iload_n 3) 1 2113 := ⟨by decide +kernel, rfl⟩
theorem dL_law_2113 : q_at cL_law 2113 (.iconst 3) 1 2114 := ⟨by decide +kernel, rfl⟩
theorem dL_law_2114 : q_at cL_law 2114 (.iadd) 1 2115 := ⟨by decide +kernel, rfl⟩
theorem dL_law_2115 : q_at cL_law 2115 (.iaload) 1 2116 := ⟨by decide +kernel, rfl⟩
theorem dL_law_2116 : q_at cL_law 2116 (.invokevirtual 226) 3 2119 := ⟨by decide +kernel, rfl⟩
theorem dL_law_2119 : q_at cL_law 2119 (.if_icmp .eq 54) 3 2122 := ⟨by decide +kernel, rfl⟩
theorem dL_law_2122 : q_at cL_law 2122 (.iconst 0) 1 2123 := ⟨by decide +kernel, rfl⟩
theorem dL_law_2123 : q_at cL_law 2123 (.ireturn) 1 2124 := ⟨by decide +kernel, rfl⟩
theorem dL_law_2124 : q_at cL_law 2124 (.aload_n 1) 1 2125 := ⟨by decide +kernel, rfl⟩
theorem dL_law_2125 : q_at cL_law 2125 (.invokevirtual 227) 3 2128 := ⟨by decide +kernel, rfl⟩
theorem dL_law_2128 : q_at cL_law 2128 (.aload_n 2) 1 2129 := ⟨by decide +kernel, rfl⟩
theorem dL_law_2129 : q_at cL_law 2129 (.invokevirtual 230) 3 2132 := ⟨by decide +kernel, rfl⟩
theorem dL_law_2132 : q_at cL_law 2132 (.if_icmp .eq 41) 3 2135 := ⟨by decide +kernel, rfl⟩
theorem dL_law_2135 : q_at cL_law 2135 (.iconst 0) 1 2136 := ⟨by decide +kernel, rfl⟩
theorem dL_law_2136 : q_at cL_law 2136 (.ireturn) 1 2137 := ⟨by decide +kernel, rfl⟩
theorem dL_law_2137 : q_at cL_law 2137 (.aload_n 1) 1 2138 := ⟨by decide +kernel, rfl⟩
theorem dL_law_2138 : q_at cL_law 2138 (.invokevirtual 231) 3 2141 := ⟨by decide +kernel, rfl⟩
theorem dL_law_2141 : q_at cL_law 2141 (.aload_n 2) 1 2142 := ⟨by decide +kernel, rfl⟩
theorem dL_law_2142 : q_at cL_law 2142 (.invokevirtual 234) 3 2145 := ⟨by decide +kernel, rfl⟩
theorem dL_law_2145 : q_at cL_law 2145 (.if_icmp .eq 28) 3 2148 := ⟨by decide +kernel, rfl⟩
theorem dL_law_2148 : q_at cL_law 2148 (.iconst 0) 1 2149 := ⟨by decide +kernel, rfl⟩
theorem dL_law_2149 : q_at cL_law 2149 (.ireturn) 1 2150 := ⟨by decide +kernel, rfl⟩
theorem dL_law_2150 : q_at cL_law 2150 (.aload_n 1) 1 2151 := ⟨by decide +kernel, rfl⟩
theorem dL_law_2151 : q_at cL_law 2151 (.aload_n 0) 1 2152 := ⟨by decide +kernel, rfl⟩
theorem dL_law_2152 : q_at cL_law 2152 (.iload_n 3) 1 2153 := ⟨by decide +kernel, rfl⟩
theorem dL_law_2153 : q_at cL_law 2153 (.iconst 1) 1 2154 := ⟨by decide +kernel, rfl⟩
theorem dL_law_2154 : q_at cL_law 2154 (.iadd) 1 2155 := ⟨by decide +kernel, rfl⟩
theorem dL_law_2155 : q_at cL_law 2155 (.iaload) 1 2156 := ⟨by decide +kernel, rfl⟩
theorem dL_law_2156 : q_at cL_law 2156 (.invokevirtual 235) 3 2159 := ⟨by decide +kernel, rfl⟩
theorem dL_law_2159 : q_at cL_law 2159 (.aload_n 2) 1 2160 := ⟨by decide +kernel, rfl⟩
theorem dL_law_2160 : q_at cL_law 2160 (.aload_n 0) 1 2161 := ⟨by decide +kernel, rfl⟩
theorem dL_law_2161 : q_at cL_law 2161 (.iload_n 3) 1 2162 := ⟨by decide +kernel, rfl⟩
theorem dL_law_2162 : q_at cL_law 2162 (.iconst 1) 1 2163 := ⟨by decide +kernel, rfl⟩
theorem dL_law_2163 : q_at cL_law 2163 (.iadd) 1 2164 := ⟨by decide +kernel, rfl⟩
theorem dL_law_2164 : q_at cL_law 2164 (.iaload) 1 2165 := ⟨by decide +kernel, rfl⟩
theorem dL_law_2165 : q_at cL_law 2165 (.invokevirtual 238) 3 2168 := ⟨by decide +kernel, rfl⟩
theorem dL_law_2168 : q_at cL_law 2168 (.if_icmp .eq 5) 3 2171 := ⟨by decide +kernel, rfl⟩
theorem dL_law_2171 : q_at cL_law 2171 (.iconst 0) 1 2172 := ⟨by decide +kernel, rfl⟩
theorem dL_law_2172 : q_at cL_law 2172 (.ireturn) 1 2173 := ⟨by decide +kernel, rfl⟩
theorem dL_law_2173 : q_at cL_law 2173 (.iinc 3 6) 3 2176 := ⟨by decide +kernel, rfl⟩
theorem dL_law_2176 : q_at cL_law 2176 (.goto (-2158)) 3 2179 := ⟨by decide +kernel, rfl⟩
theorem dL_law_2179 : q_at cL_law 2179 (.iconst 1) 1 2180 := ⟨by decide +kernel, rfl⟩
theorem dL_law_2180 : q_at cL_law 2180 (.ireturn) 1 2181 := ⟨by decide +kernel, rfl⟩
def b_L_law_268 (L : Nat) (xs : Nat → Int32) (k18 : Int32 → qX → qI → Option (Int32 × qI × qX)) (x3 : Int32) (X : qX) (I : qI) : Option (Int32 × qI × qX) :=
  q_b1 (q_rdO xs L (x3 + (nI 1))) fun v1 =>
  q_b1 (q_rdO xs L (x3 + (nI 2))) fun v3 =>
  q_b1 (q_rdO xs L (x3 + (nI 3))) fun v5 =>
  q_b2 (f_X11_pit 64 v1 v3 v5 X I) fun v7 I8 =>
  q_b1 (q_rdO xs L (x3 + (nI 1))) fun v10 =>
  q_b1 (q_rdO xs L (x3 + (nI 2))) fun v12 =>
  q_b1 (q_rdO xs L (x3 + (nI 3))) fun v14 =>
  q_b2 (f_X12_pit 269 v10 v12 v14 I8) fun v16 I17 =>
  if v7 = v16 then
    k18 (x3 + (nI 6)) X I17
  else
    some ((nI 0), I17, X)
set_option maxRecDepth 100000 in
set_option maxHeartbeats 4000000 in
theorem p_L_law_268 {l : Launch} {Γ : qC} {g : qG} {z : Int32 × qI × qX} {L cells slots : Nat} {xs : Nat → Int32} {nm : String} {k18 : Int32 → qX → qI → Option (Int32 × qI × qX)} (hΓ : q_gm Γ) (hg : q_Ok l Γ RL cL_law 4 room_1 nm (some .boolean) g) (hr : q_Rt cL_law (some .boolean) room_1 (some (.int z.1), z.2.1, z.2.2) g) (hS : q_ol Γ 0 = L ∧ q_ov Γ 0 = xs) (hcs : cells + 1 ≤ room_1.cells ∧ slots + 96 ≤ room_1.slots) (hk : ∀ c s, c ≤ cells + 1 → s ≤ slots + 96 → ∀ (x3 : Int32) (X : qX) (I : qI), q_Lay X → q_kd X 64 = some (13, 9) → q_kd X 269 = some (14, 42) → k18 x3 X I = some z → g c s 18 [(0, .ref 0), (1, .ref 64), (2, .ref 269), (3, .int x3)] [] I X) (x3 : Int32) (X : qX) (I : qI) (hX : q_Lay X) (k_o1 : q_kd X 64 = some (13, 9)) (k_o2 : q_kd X 269 = some (14, 42)) (h : b_L_law_268 L xs k18 x3 X I = some z) : g cells slots 268 [(0, .ref 0), (1, .ref 64), (2, .ref 269), (3, .int x3)] [] I X := by
  unfold b_L_law_268 at h
  refine r_aload_n hg 1 dL_law_268 rfl rfl ?_
  refine r_aload_n hg 0 dL_law_269 rfl rfl ?_
  refine r_iload_n hg 3 dL_law_270 rfl rfl ?_
  refine r_iconst hg dL_law_271 ci_1 ?_
  refine r_iadd hg dL_law_272 ?_
  obtain ⟨v1, e2, h⟩ := q_b1_some h
  refine r_ialdC hg dL_law_273 (by decide) hS.1 hS.2 e2 ?_
  refine r_aload_n hg 0 dL_law_274 rfl rfl ?_
  refine r_iload_n hg 3 dL_law_275 rfl rfl ?_
  refine r_iconst hg dL_law_276 ci_2 ?_
  refine r_iadd hg dL_law_277 ?_
  obtain ⟨v3, e4, h⟩ := q_b1_some h
  refine r_ialdC hg dL_law_278 (by decide) hS.1 hS.2 e4 ?_
  refine r_aload_n hg 0 dL_law_279 rfl rfl ?_
  refine r_iload_n hg 3 dL_law_280 rfl rfl ?_
  refine r_iconst hg dL_law_281 ci_3 ?_
  refine r_iadd hg dL_law_282 ?_
  obtain ⟨v5, e6, h⟩ := q_b1_some h
  refine r_ialdC hg dL_law_283 (by decide) hS.1 hS.2 e6 ?_
  obtain ⟨v7, I8, e9, h⟩ := q_b2_some h
  refine r_cV3i hg dL_law_284 mt_X11_pit ml_L_13 mv_X11_pit k_o1 (s_X11_pit hΓ hX k_o1 e9) ⟨Nat.le_of_ble_eq_true rfl, Nat.le_of_ble_eq_true rfl⟩ ⟨Nat.le_of_succ_le hcs.1, Nat.le_trans (Nat.le_add_right _ _) hcs.2⟩ (Nat.le_of_ble_eq_true rfl) ?_
  refine r_aload_n hg 2 dL_law_287 rfl rfl ?_
  refine r_aload_n hg 0 dL_law_288 rfl rfl ?_
  refine r_iload_n hg 3 dL_law_289 rfl rfl ?_
  refine r_iconst hg dL_law_290 ci_1 ?_
  refine r_iadd hg dL_law_291 ?_
  obtain ⟨v10, e11, h⟩ := q_b1_some h
  refine r_ialdC hg dL_law_292 (by decide) hS.1 hS.2 e11 ?_
  refine r_aload_n hg 0 dL_law_293 rfl rfl ?_
  refine r_iload_n hg 3 dL_law_294 rfl rfl ?_
  refine r_iconst hg dL_law_295 ci_2 ?_
  refine r_iadd hg dL_law_296 ?_
  obtain ⟨v12, e13, h⟩ := q_b1_some h
  refine r_ialdC hg dL_law_297 (by decide) hS.1 hS.2 e13 ?_
  refine r_aload_n hg 0 dL_law_298 rfl rfl ?_
  refine r_iload_n hg 3 dL_law_299 rfl rfl ?_
  refine r_iconst hg dL_law_300 ci_3 ?_
  refine r_iadd hg dL_law_301 ?_
  obtain ⟨v14, e15, h⟩ := q_b1_some h
  refine r_ialdC hg dL_law_302 (by decide) hS.1 hS.2 e15 ?_
  obtain ⟨v16, I17, e18, h⟩ := q_b2_some h
  refine r_cV3i hg dL_law_303 mt_X12_pit ml_L_17 mv_X12_pit k_o2 (s_X12_pit hΓ hX k_o2 e18) ⟨Nat.le_of_ble_eq_true rfl, Nat.le_of_ble_eq_true rfl⟩ ⟨Nat.le_of_succ_le hcs.1, Nat.le_trans (Nat.le_add_right _ _) hcs.2⟩ (Nat.le_of_ble_eq_true rfl) ?_
  refine r_icmp_eq hg 2173 dL_law_306 (by decide) (fun c19 => ?_) (fun c19 => ?_)
  · rw [if_pos c19] at h
    refine r_iinc hg 3 (v := (x3 + (nI 6))) (L' := [(3, .int (x3 + (nI 6))), (0, .ref 0), (1, .ref 64), (2, .ref 269)]) dL_law_2173 rfl (by rw [ci_6]) (by decide) rfl ?_
    refine r_goto hg 18 dL_law_2176 (by decide) ?_
    refine r_sub hg [1, 2, 3, 0] rfl ?_
    exact hk _ _ (Nat.le_succ _) (Nat.le_add_right _ _) _ _ _ hX k_o1 k_o2 h
  · rw [if_neg c19] at h
    refine r_iconst hg dL_law_309 ci_0 ?_
    exact r_ireturn hr dL_law_310 ⟨Nat.le_of_succ_le hcs.1, Nat.le_trans (Nat.le_add_right _ _) hcs.2⟩ ⟨_, rfl, bz_0.1⟩ (by cases h; rfl)
def b_L_law_311 (L : Nat) (xs : Nat → Int32) (k18 : Int32 → qX → qI → Option (Int32 × qI × qX)) (x3 : Int32) (X : qX) (I : qI) : Option (Int32 × qI × qX) :=
  q_b1 (q_rdO xs L (x3 + (nI 1))) fun v1 =>
  q_b1 (q_rdO xs L (x3 + (nI 2))) fun v3 =>
  q_b1 (f_X11_dug 64 v1 v3 X I) fun v5 =>
  q_b1 (q_rdO xs L (x3 + (nI 1))) fun v7 =>
  q_b1 (q_rdO xs L (x3 + (nI 2))) fun v9 =>
  q_b1 (f_X12_dug 269 v7 v9 I) fun v11 =>
  if v5 = v11 then
    k18 (x3 + (nI 6)) X I
  else
    some ((nI 0), I, X)
set_option maxRecDepth 100000 in
set_option maxHeartbeats 4000000 in
theorem p_L_law_311 {l : Launch} {Γ : qC} {g : qG} {z : Int32 × qI × qX} {L cells slots : Nat} {xs : Nat → Int32} {nm : String} {k18 : Int32 → qX → qI → Option (Int32 × qI × qX)} (hΓ : q_gm Γ) (hg : q_Ok l Γ RL cL_law 4 room_1 nm (some .boolean) g) (hr : q_Rt cL_law (some .boolean) room_1 (some (.int z.1), z.2.1, z.2.2) g) (hS : q_ol Γ 0 = L ∧ q_ov Γ 0 = xs) (hcs : cells + 1 ≤ room_1.cells ∧ slots + 96 ≤ room_1.slots) (hk : ∀ c s, c ≤ cells + 1 → s ≤ slots + 96 → ∀ (x3 : Int32) (X : qX) (I : qI), q_Lay X → q_kd X 64 = some (13, 9) → q_kd X 269 = some (14, 42) → k18 x3 X I = some z → g c s 18 [(0, .ref 0), (1, .ref 64), (2, .ref 269), (3, .int x3)] [] I X) (x3 : Int32) (X : qX) (I : qI) (hX : q_Lay X) (k_o1 : q_kd X 64 = some (13, 9)) (k_o2 : q_kd X 269 = some (14, 42)) (h : b_L_law_311 L xs k18 x3 X I = some z) : g cells slots 311 [(0, .ref 0), (1, .ref 64), (2, .ref 269), (3, .int x3)] [] I X := by
  unfold b_L_law_311 at h
  refine r_aload_n hg 1 dL_law_311 rfl rfl ?_
  refine r_aload_n hg 0 dL_law_312 rfl rfl ?_
  refine r_iload_n hg 3 dL_law_313 rfl rfl ?_
  refine r_iconst hg dL_law_314 ci_1 ?_
  refine r_iadd hg dL_law_315 ?_
  obtain ⟨v1, e2, h⟩ := q_b1_some h
  refine r_ialdC hg dL_law_316 (by decide) hS.1 hS.2 e2 ?_
  refine r_aload_n hg 0 dL_law_317 rfl rfl ?_
  refine r_iload_n hg 3 dL_law_318 rfl rfl ?_
  refine r_iconst hg dL_law_319 ci_2 ?_
  refine r_iadd hg dL_law_320 ?_
  obtain ⟨v3, e4, h⟩ := q_b1_some h
  refine r_ialdC hg dL_law_321 (by decide) hS.1 hS.2 e4 ?_
  obtain ⟨v5, e6, h⟩ := q_b1_some h
  refine r_cV2i hg dL_law_322 mt_X11_dug ml_L_18 mv_X11_dug k_o1 (s_X11_dug hΓ hX k_o1 e6) ⟨Nat.le_of_ble_eq_true rfl, Nat.le_of_ble_eq_true rfl⟩ ⟨Nat.le_of_succ_le hcs.1, Nat.le_trans (Nat.le_add_right _ _) hcs.2⟩ (Nat.le_of_ble_eq_true rfl) ?_
  refine r_aload_n hg 2 dL_law_325 rfl rfl ?_
  refine r_aload_n hg 0 dL_law_326 rfl rfl ?_
  refine r_iload_n hg 3 dL_law_327 rfl rfl ?_
  refine r_iconst hg dL_law_328 ci_1 ?_
  refine r_iadd hg dL_law_329 ?_
  obtain ⟨v7, e8, h⟩ := q_b1_some h
  refine r_ialdC hg dL_law_330 (by decide) hS.1 hS.2 e8 ?_
  refine r_aload_n hg 0 dL_law_331 rfl rfl ?_
  refine r_iload_n hg 3 dL_law_332 rfl rfl ?_
  refine r_iconst hg dL_law_333 ci_2 ?_
  refine r_iadd hg dL_law_334 ?_
  obtain ⟨v9, e10, h⟩ := q_b1_some h
  refine r_ialdC hg dL_law_335 (by decide) hS.1 hS.2 e10 ?_
  obtain ⟨v11, e12, h⟩ := q_b1_some h
  refine r_cV2i hg dL_law_336 mt_X12_dug ml_L_22 mv_X12_dug k_o2 (s_X12_dug hΓ hX k_o2 e12) ⟨Nat.le_of_ble_eq_true rfl, Nat.le_of_ble_eq_true rfl⟩ ⟨Nat.le_of_succ_le hcs.1, Nat.le_trans (Nat.le_add_right _ _) hcs.2⟩ (Nat.le_of_ble_eq_true rfl) ?_
  refine r_icmp_eq hg 2173 dL_law_339 (by decide) (fun c13 => ?_) (fun c13 => ?_)
  · rw [if_pos c13] at h
    refine r_iinc hg 3 (v := (x3 + (nI 6))) (L' := [(3, .int (x3 + (nI 6))), (0, .ref 0), (1, .ref 64), (2, .ref 269)]) dL_law_2173 rfl (by rw [ci_6]) (by decide) rfl ?_
    refine r_goto hg 18 dL_law_2176 (by decide) ?_
    refine r_sub hg [1, 2, 3, 0] rfl ?_
    exact hk _ _ (Nat.le_succ _) (Nat.le_add_right _ _) _ _ _ hX k_o1 k_o2 h
  · rw [if_neg c13] at h
    refine r_iconst hg dL_law_342 ci_0 ?_
    exact r_ireturn hr dL_law_343 ⟨Nat.le_of_succ_le hcs.1, Nat.le_trans (Nat.le_add_right _ _) hcs.2⟩ ⟨_, rfl, bz_0.1⟩ (by cases h; rfl)
def b_L_law_344 (L : Nat) (xs : Nat → Int32) (k18 : Int32 → qX → qI → Option (Int32 × qI × qX)) (x3 : Int32) (X : qX) (I : qI) : Option (Int32 × qI × qX) :=
  q_b1 (q_rdO xs L (x3 + (nI 1))) fun v1 =>
  q_b1 (q_rdO xs L (x3 + (nI 2))) fun v3 =>
  q_b1 (q_rdO xs L (x3 + (nI 3))) fun v5 =>
  q_b1 (q_rdO xs L (x3 + (nI 4))) fun v7 =>
  q_b2 (f_X11_shop 64 v1 v3 v5 v7 I) fun v9 I10 =>
  q_b1 (q_rdO xs L (x3 + (nI 1))) fun v12 =>
  q_b1 (q_rdO xs L (x3 + (nI 2))) fun v14 =>
  q_b1 (q_rdO xs L (x3 + (nI 3))) fun v16 =>
  q_b1 (q_rdO xs L (x3 + (nI 4))) fun v18 =>
  q_b2 (f_X12_shop 269 v12 v14 v16 v18 I10) fun v20 I21 =>
  if v9 = v20 then
    k18 (x3 + (nI 6)) X I21
  else
    some ((nI 0), I21, X)
set_option maxRecDepth 100000 in
set_option maxHeartbeats 4000000 in
theorem p_L_law_344 {l : Launch} {Γ : qC} {g : qG} {z : Int32 × qI × qX} {L cells slots : Nat} {xs : Nat → Int32} {nm : String} {k18 : Int32 → qX → qI → Option (Int32 × qI × qX)} (hΓ : q_gm Γ) (hg : q_Ok l Γ RL cL_law 4 room_1 nm (some .boolean) g) (hr : q_Rt cL_law (some .boolean) room_1 (some (.int z.1), z.2.1, z.2.2) g) (hS : q_ol Γ 0 = L ∧ q_ov Γ 0 = xs) (hcs : cells + 1 ≤ room_1.cells ∧ slots + 96 ≤ room_1.slots) (hk : ∀ c s, c ≤ cells + 1 → s ≤ slots + 96 → ∀ (x3 : Int32) (X : qX) (I : qI), q_Lay X → q_kd X 64 = some (13, 9) → q_kd X 269 = some (14, 42) → k18 x3 X I = some z → g c s 18 [(0, .ref 0), (1, .ref 64), (2, .ref 269), (3, .int x3)] [] I X) (x3 : Int32) (X : qX) (I : qI) (hX : q_Lay X) (k_o1 : q_kd X 64 = some (13, 9)) (k_o2 : q_kd X 269 = some (14, 42)) (h : b_L_law_344 L xs k18 x3 X I = some z) : g cells slots 344 [(0, .ref 0), (1, .ref 64), (2, .ref 269), (3, .int x3)] [] I X := by
  unfold b_L_law_344 at h
  refine r_aload_n hg 1 dL_law_344 rfl rfl ?_
  refine r_aload_n hg 0 dL_law_345 rfl rfl ?_
  refine r_iload_n hg 3 dL_law_346 rfl rfl ?_
  refine r_iconst hg dL_law_347 ci_1 ?_
  refine r_iadd hg dL_law_348 ?_
  obtain ⟨v1, e2, h⟩ := q_b1_some h
  refine r_ialdC hg dL_law_349 (by decide) hS.1 hS.2 e2 ?_
  refine r_aload_n hg 0 dL_law_350 rfl rfl ?_
  refine r_iload_n hg 3 dL_law_351 rfl rfl ?_
  refine r_iconst hg dL_law_352 ci_2 ?_
  refine r_iadd hg dL_law_353 ?_
  obtain ⟨v3, e4, h⟩ := q_b1_some h
  refine r_ialdC hg dL_law_354 (by decide) hS.1 hS.2 e4 ?_
  refine r_aload_n hg 0 dL_law_355 rfl rfl ?_
  refine r_iload_n hg 3 dL_law_356 rfl rfl ?_
  refine r_iconst hg dL_law_357 ci_3 ?_
  refine r_iadd hg dL_law_358 ?_
  obtain ⟨v5, e6, h⟩ := q_b1_some h
  refine r_ialdC hg dL_law_359 (by decide) hS.1 hS.2 e6 ?_
  refine r_aload_n hg 0 dL_law_360 rfl rfl ?_
  refine r_iload_n hg 3 dL_law_361 rfl rfl ?_
  refine r_iconst hg dL_law_362 ci_4 ?_
  refine r_iadd hg dL_law_363 ?_
  obtain ⟨v7, e8, h⟩ := q_b1_some h
  refine r_ialdC hg dL_law_364 (by decide) hS.1 hS.2 e8 ?_
  obtain ⟨v9, I10, e11, h⟩ := q_b2_some h
  refine r_cV4i hg dL_law_365 mt_X11_shop ml_L_23 mv_X11_shop k_o1 (s_X11_shop hΓ hX k_o1 e11) ⟨Nat.le_of_ble_eq_true rfl, Nat.le_of_ble_eq_true rfl⟩ ⟨Nat.le_of_succ_le hcs.1, Nat.le_trans (Nat.le_add_right _ _) hcs.2⟩ (Nat.le_of_ble_eq_true rfl) ?_
  refine r_aload_n hg 2 dL_law_368 rfl rfl ?_
  refine r_aload_n hg 0 dL_law_369 rfl rfl ?_
  refine r_iload_n hg 3 dL_law_370 rfl rfl ?_
  refine r_iconst hg dL_law_371 ci_1 ?_
  refine r_iadd hg dL_law_372 ?_
  obtain ⟨v12, e13, h⟩ := q_b1_some h
  refine r_ialdC hg dL_law_373 (by decide) hS.1 hS.2 e13 ?_
  refine r_aload_n hg 0 dL_law_374 rfl rfl ?_
  refine r_iload_n hg 3 dL_law_375 rfl rfl ?_
  refine r_iconst hg dL_law_376 ci_2 ?_
  refine r_iadd hg dL_law_377 ?_
  obtain ⟨v14, e15, h⟩ := q_b1_some h
  refine r_ialdC hg dL_law_378 (by decide) hS.1 hS.2 e15 ?_
  refine r_aload_n hg 0 dL_law_379 rfl rfl ?_
  refine r_iload_n hg 3 dL_law_380 rfl rfl ?_
  refine r_iconst hg dL_law_381 ci_3 ?_
  refine r_iadd hg dL_law_382 ?_
  obtain ⟨v16, e17, h⟩ := q_b1_some h
  refine r_ialdC hg dL_law_383 (by decide) hS.1 hS.2 e17 ?_
  refine r_aload_n hg 0 dL_law_384 rfl rfl ?_
  refine r_iload_n hg 3 dL_law_385 rfl rfl ?_
  refine r_iconst hg dL_law_386 ci_4 ?_
  refine r_iadd hg dL_law_387 ?_
  obtain ⟨v18, e19, h⟩ := q_b1_some h
  refine r_ialdC hg dL_law_388 (by decide) hS.1 hS.2 e19 ?_
  obtain ⟨v20, I21, e22, h⟩ := q_b2_some h
  refine r_cV4i hg dL_law_389 mt_X12_shop ml_L_27 mv_X12_shop k_o2 (s_X12_shop hΓ hX k_o2 e22) ⟨Nat.le_of_ble_eq_true rfl, Nat.le_of_ble_eq_true rfl⟩ ⟨Nat.le_of_succ_le hcs.1, Nat.le_trans (Nat.le_add_right _ _) hcs.2⟩ (Nat.le_of_ble_eq_true rfl) ?_
  refine r_icmp_eq hg 2173 dL_law_392 (by decide) (fun c23 => ?_) (fun c23 => ?_)
  · rw [if_pos c23] at h
    refine r_iinc hg 3 (v := (x3 + (nI 6))) (L' := [(3, .int (x3 + (nI 6))), (0, .ref 0), (1, .ref 64), (2, .ref 269)]) dL_law_2173 rfl (by rw [ci_6]) (by decide) rfl ?_
    refine r_goto hg 18 dL_law_2176 (by decide) ?_
    refine r_sub hg [1, 2, 3, 0] rfl ?_
    exact hk _ _ (Nat.le_succ _) (Nat.le_add_right _ _) _ _ _ hX k_o1 k_o2 h
  · rw [if_neg c23] at h
    refine r_iconst hg dL_law_395 ci_0 ?_
    exact r_ireturn hr dL_law_396 ⟨Nat.le_of_succ_le hcs.1, Nat.le_trans (Nat.le_add_right _ _) hcs.2⟩ ⟨_, rfl, bz_0.1⟩ (by cases h; rfl)
def b_L_law_397 (L : Nat) (xs : Nat → Int32) (k18 : Int32 → qX → qI → Option (Int32 × qI × qX)) (x3 : Int32) (X : qX) (I : qI) : Option (Int32 × qI × qX) :=
  q_b1 (q_rdO xs L (x3 + (nI 1))) fun v1 =>
  q_b1 (q_rdO xs L (x3 + (nI 2))) fun v3 =>
  q_b1 (q_rdO xs L (x3 + (nI 3))) fun v5 =>
  q_b2 (f_X11_shelf 64 v1 v3 v5 X I) fun v7 I8 =>
  q_b1 (q_rdO xs L (x3 + (nI 1))) fun v10 =>
  q_b1 (q_rdO xs L (x3 + (nI 2))) fun v12 =>
  q_b1 (q_rdO xs L (x3 + (nI 3))) fun v14 =>
  q_b2 (f_X12_shelf 269 v10 v12 v14 I8) fun v16 I17 =>
  if v7 = v16 then
    k18 (x3 + (nI 6)) X I17
  else
    some ((nI 0), I17, X)
set_option maxRecDepth 100000 in
set_option maxHeartbeats 4000000 in
theorem p_L_law_397 {l : Launch} {Γ : qC} {g : qG} {z : Int32 × qI × qX} {L cells slots : Nat} {xs : Nat → Int32} {nm : String} {k18 : Int32 → qX → qI → Option (Int32 × qI × qX)} (hΓ : q_gm Γ) (hg : q_Ok l Γ RL cL_law 4 room_1 nm (some .boolean) g) (hr : q_Rt cL_law (some .boolean) room_1 (some (.int z.1), z.2.1, z.2.2) g) (hS : q_ol Γ 0 = L ∧ q_ov Γ 0 = xs) (hcs : cells + 1 ≤ room_1.cells ∧ slots + 96 ≤ room_1.slots) (hk : ∀ c s, c ≤ cells + 1 → s ≤ slots + 96 → ∀ (x3 : Int32) (X : qX) (I : qI), q_Lay X → q_kd X 64 = some (13, 9) → q_kd X 269 = some (14, 42) → k18 x3 X I = some z → g c s 18 [(0, .ref 0), (1, .ref 64), (2, .ref 269), (3, .int x3)] [] I X) (x3 : Int32) (X : qX) (I : qI) (hX : q_Lay X) (k_o1 : q_kd X 64 = some (13, 9)) (k_o2 : q_kd X 269 = some (14, 42)) (h : b_L_law_397 L xs k18 x3 X I = some z) : g cells slots 397 [(0, .ref 0), (1, .ref 64), (2, .ref 269), (3, .int x3)] [] I X := by
  unfold b_L_law_397 at h
  refine r_aload_n hg 1 dL_law_397 rfl rfl ?_
  refine r_aload_n hg 0 dL_law_398 rfl rfl ?_
  refine r_iload_n hg 3 dL_law_399 rfl rfl ?_
  refine r_iconst hg dL_law_400 ci_1 ?_
  refine r_iadd hg dL_law_401 ?_
  obtain ⟨v1, e2, h⟩ := q_b1_some h
  refine r_ialdC hg dL_law_402 (by decide) hS.1 hS.2 e2 ?_
  refine r_aload_n hg 0 dL_law_403 rfl rfl ?_
  refine r_iload_n hg 3 dL_law_404 rfl rfl ?_
  refine r_iconst hg dL_law_405 ci_2 ?_
  refine r_iadd hg dL_law_406 ?_
  obtain ⟨v3, e4, h⟩ := q_b1_some h
  refine r_ialdC hg dL_law_407 (by decide) hS.1 hS.2 e4 ?_
  refine r_aload_n hg 0 dL_law_408 rfl rfl ?_
  refine r_iload_n hg 3 dL_law_409 rfl rfl ?_
  refine r_iconst hg dL_law_410 ci_3 ?_
  refine r_iadd hg dL_law_411 ?_
  obtain ⟨v5, e6, h⟩ := q_b1_some h
  refine r_ialdC hg dL_law_412 (by decide) hS.1 hS.2 e6 ?_
  obtain ⟨v7, I8, e9, h⟩ := q_b2_some h
  refine r_cV3i hg dL_law_413 mt_X11_shelf ml_L_28 mv_X11_shelf k_o1 (s_X11_shelf hΓ hX k_o1 e9) ⟨Nat.le_of_ble_eq_true rfl, Nat.le_of_ble_eq_true rfl⟩ ⟨Nat.le_of_succ_le hcs.1, Nat.le_trans (Nat.le_add_right _ _) hcs.2⟩ (Nat.le_of_ble_eq_true rfl) ?_
  refine r_aload_n hg 2 dL_law_416 rfl rfl ?_
  refine r_aload_n hg 0 dL_law_417 rfl rfl ?_
  refine r_iload_n hg 3 dL_law_418 rfl rfl ?_
  refine r_iconst hg dL_law_419 ci_1 ?_
  refine r_iadd hg dL_law_420 ?_
  obtain ⟨v10, e11, h⟩ := q_b1_some h
  refine r_ialdC hg dL_law_421 (by decide) hS.1 hS.2 e11 ?_
  refine r_aload_n hg 0 dL_law_422 rfl rfl ?_
  refine r_iload_n hg 3 dL_law_423 rfl rfl ?_
  refine r_iconst hg dL_law_424 ci_2 ?_
  refine r_iadd hg dL_law_425 ?_
  obtain ⟨v12, e13, h⟩ := q_b1_some h
  refine r_ialdC hg dL_law_426 (by decide) hS.1 hS.2 e13 ?_
  refine r_aload_n hg 0 dL_law_427 rfl rfl ?_
  refine r_iload_n hg 3 dL_law_428 rfl rfl ?_
  refine r_iconst hg dL_law_429 ci_3 ?_
  refine r_iadd hg dL_law_430 ?_
  obtain ⟨v14, e15, h⟩ := q_b1_some h
  refine r_ialdC hg dL_law_431 (by decide) hS.1 hS.2 e15 ?_
  obtain ⟨v16, I17, e18, h⟩ := q_b2_some h
  refine r_cV3i hg dL_law_432 mt_X12_shelf ml_L_31 mv_X12_shelf k_o2 (s_X12_shelf hΓ hX k_o2 e18) ⟨Nat.le_of_ble_eq_true rfl, Nat.le_of_ble_eq_true rfl⟩ ⟨Nat.le_of_succ_le hcs.1, Nat.le_trans (Nat.le_add_right _ _) hcs.2⟩ (Nat.le_of_ble_eq_true rfl) ?_
  refine r_icmp_eq hg 2173 dL_law_435 (by decide) (fun c19 => ?_) (fun c19 => ?_)
  · rw [if_pos c19] at h
    refine r_iinc hg 3 (v := (x3 + (nI 6))) (L' := [(3, .int (x3 + (nI 6))), (0, .ref 0), (1, .ref 64), (2, .ref 269)]) dL_law_2173 rfl (by rw [ci_6]) (by decide) rfl ?_
    refine r_goto hg 18 dL_law_2176 (by decide) ?_
    refine r_sub hg [1, 2, 3, 0] rfl ?_
    exact hk _ _ (Nat.le_succ _) (Nat.le_add_right _ _) _ _ _ hX k_o1 k_o2 h
  · rw [if_neg c19] at h
    refine r_iconst hg dL_law_438 ci_0 ?_
    exact r_ireturn hr dL_law_439 ⟨Nat.le_of_succ_le hcs.1, Nat.le_trans (Nat.le_add_right _ _) hcs.2⟩ ⟨_, rfl, bz_0.1⟩ (by cases h; rfl)
def b_L_law_440 (L : Nat) (xs : Nat → Int32) (k18 : Int32 → qX → qI → Option (Int32 × qI × qX)) (x3 : Int32) (X : qX) (I : qI) : Option (Int32 × qI × qX) :=
  q_b1 (q_rdO xs L (x3 + (nI 1))) fun v1 =>
  q_b1 (q_rdO xs L (x3 + (nI 2))) fun v3 =>
  q_b1 (f_X11_sells 64 v1 v3 X I) fun v5 =>
  q_b1 (q_rdO xs L (x3 + (nI 1))) fun v7 =>
  q_b1 (q_rdO xs L (x3 + (nI 2))) fun v9 =>
  q_b1 (f_X12_sells 269 v7 v9 I) fun v11 =>
  if v5 = v11 then
    k18 (x3 + (nI 6)) X I
  else
    some ((nI 0), I, X)
set_option maxRecDepth 100000 in
set_option maxHeartbeats 4000000 in
theorem p_L_law_440 {l : Launch} {Γ : qC} {g : qG} {z : Int32 × qI × qX} {L cells slots : Nat} {xs : Nat → Int32} {nm : String} {k18 : Int32 → qX → qI → Option (Int32 × qI × qX)} (hΓ : q_gm Γ) (hg : q_Ok l Γ RL cL_law 4 room_1 nm (some .boolean) g) (hr : q_Rt cL_law (some .boolean) room_1 (some (.int z.1), z.2.1, z.2.2) g) (hS : q_ol Γ 0 = L ∧ q_ov Γ 0 = xs) (hcs : cells + 1 ≤ room_1.cells ∧ slots + 96 ≤ room_1.slots) (hk : ∀ c s, c ≤ cells + 1 → s ≤ slots + 96 → ∀ (x3 : Int32) (X : qX) (I : qI), q_Lay X → q_kd X 64 = some (13, 9) → q_kd X 269 = some (14, 42) → k18 x3 X I = some z → g c s 18 [(0, .ref 0), (1, .ref 64), (2, .ref 269), (3, .int x3)] [] I X) (x3 : Int32) (X : qX) (I : qI) (hX : q_Lay X) (k_o1 : q_kd X 64 = some (13, 9)) (k_o2 : q_kd X 269 = some (14, 42)) (h : b_L_law_440 L xs k18 x3 X I = some z) : g cells slots 440 [(0, .ref 0), (1, .ref 64), (2, .ref 269), (3, .int x3)] [] I X := by
  unfold b_L_law_440 at h
  refine r_aload_n hg 1 dL_law_440 rfl rfl ?_
  refine r_aload_n hg 0 dL_law_441 rfl rfl ?_
  refine r_iload_n hg 3 dL_law_442 rfl rfl ?_
  refine r_iconst hg dL_law_443 ci_1 ?_
  refine r_iadd hg dL_law_444 ?_
  obtain ⟨v1, e2, h⟩ := q_b1_some h
  refine r_ialdC hg dL_law_445 (by decide) hS.1 hS.2 e2 ?_
  refine r_aload_n hg 0 dL_law_446 rfl rfl ?_
  refine r_iload_n hg 3 dL_law_447 rfl rfl ?_
  refine r_iconst hg dL_law_448 ci_2 ?_
  refine r_iadd hg dL_law_449 ?_
  obtain ⟨v3, e4, h⟩ := q_b1_some h
  refine r_ialdC hg dL_law_450 (by decide) hS.1 hS.2 e4 ?_
  obtain ⟨v5, e6, h⟩ := q_b1_some h
  refine r_cV2i hg dL_law_451 mt_X11_sells ml_L_32 mv_X11_sells k_o1 (s_X11_sells hΓ hX k_o1 e6) ⟨Nat.le_of_ble_eq_true rfl, Nat.le_of_ble_eq_true rfl⟩ ⟨Nat.le_of_succ_le hcs.1, Nat.le_trans (Nat.le_add_right _ _) hcs.2⟩ (Nat.le_of_ble_eq_true rfl) ?_
  refine r_aload_n hg 2 dL_law_454 rfl rfl ?_
  refine r_aload_n hg 0 dL_law_455 rfl rfl ?_
  refine r_iload_n hg 3 dL_law_456 rfl rfl ?_
  refine r_iconst hg dL_law_457 ci_1 ?_
  refine r_iadd hg dL_law_458 ?_
  obtain ⟨v7, e8, h⟩ := q_b1_some h
  refine r_ialdC hg dL_law_459 (by decide) hS.1 hS.2 e8 ?_
  refine r_aload_n hg 0 dL_law_460 rfl rfl ?_
  refine r_iload_n hg 3 dL_law_461 rfl rfl ?_
  refine r_iconst hg dL_law_462 ci_2 ?_
  refine r_iadd hg dL_law_463 ?_
  obtain ⟨v9, e10, h⟩ := q_b1_some h
  refine r_ialdC hg dL_law_464 (by decide) hS.1 hS.2 e10 ?_
  obtain ⟨v11, e12, h⟩ := q_b1_some h
  refine r_cV2i hg dL_law_465 mt_X12_sells ml_L_35 mv_X12_sells k_o2 (s_X12_sells hΓ hX k_o2 e12) ⟨Nat.le_of_ble_eq_true rfl, Nat.le_of_ble_eq_true rfl⟩ ⟨Nat.le_of_succ_le hcs.1, Nat.le_trans (Nat.le_add_right _ _) hcs.2⟩ (Nat.le_of_ble_eq_true rfl) ?_
  refine r_icmp_eq hg 2173 dL_law_468 (by decide) (fun c13 => ?_) (fun c13 => ?_)
  · rw [if_pos c13] at h
    refine r_iinc hg 3 (v := (x3 + (nI 6))) (L' := [(3, .int (x3 + (nI 6))), (0, .ref 0), (1, .ref 64), (2, .ref 269)]) dL_law_2173 rfl (by rw [ci_6]) (by decide) rfl ?_
    refine r_goto hg 18 dL_law_2176 (by decide) ?_
    refine r_sub hg [1, 2, 3, 0] rfl ?_
    exact hk _ _ (Nat.le_succ _) (Nat.le_add_right _ _) _ _ _ hX k_o1 k_o2 h
  · rw [if_neg c13] at h
    refine r_iconst hg dL_law_471 ci_0 ?_
    exact r_ireturn hr dL_law_472 ⟨Nat.le_of_succ_le hcs.1, Nat.le_trans (Nat.le_add_right _ _) hcs.2⟩ ⟨_, rfl, bz_0.1⟩ (by cases h; rfl)
def b_L_law_473 (L : Nat) (xs : Nat → Int32) (k18 : Int32 → qX → qI → Option (Int32 × qI × qX)) (x3 : Int32) (X : qX) (I : qI) : Option (Int32 × qI × qX) :=
  q_b1 (q_rdO xs L (x3 + (nI 1))) fun v1 =>
  q_b1 (q_rdO xs L (x3 + (nI 2))) fun v3 =>
  q_b1 (q_rdO xs L (x3 + (nI 3))) fun v5 =>
  q_b2 (f_X11_man 64 v1 v3 v5 I) fun v7 I8 =>
  q_b1 (q_rdO xs L (x3 + (nI 1))) fun v10 =>
  q_b1 (q_rdO xs L (x3 + (nI 2))) fun v12 =>
  q_b1 (q_rdO xs L (x3 + (nI 3))) fun v14 =>
  q_b2 (f_X12_man 269 v10 v12 v14 I8) fun v16 I17 =>
  if v7 = v16 then
    k18 (x3 + (nI 6)) X I17
  else
    some ((nI 0), I17, X)
set_option maxRecDepth 100000 in
set_option maxHeartbeats 4000000 in
theorem p_L_law_473 {l : Launch} {Γ : qC} {g : qG} {z : Int32 × qI × qX} {L cells slots : Nat} {xs : Nat → Int32} {nm : String} {k18 : Int32 → qX → qI → Option (Int32 × qI × qX)} (hΓ : q_gm Γ) (hg : q_Ok l Γ RL cL_law 4 room_1 nm (some .boolean) g) (hr : q_Rt cL_law (some .boolean) room_1 (some (.int z.1), z.2.1, z.2.2) g) (hS : q_ol Γ 0 = L ∧ q_ov Γ 0 = xs) (hcs : cells + 1 ≤ room_1.cells ∧ slots + 96 ≤ room_1.slots) (hk : ∀ c s, c ≤ cells + 1 → s ≤ slots + 96 → ∀ (x3 : Int32) (X : qX) (I : qI), q_Lay X → q_kd X 64 = some (13, 9) → q_kd X 269 = some (14, 42) → k18 x3 X I = some z → g c s 18 [(0, .ref 0), (1, .ref 64), (2, .ref 269), (3, .int x3)] [] I X) (x3 : Int32) (X : qX) (I : qI) (hX : q_Lay X) (k_o1 : q_kd X 64 = some (13, 9)) (k_o2 : q_kd X 269 = some (14, 42)) (h : b_L_law_473 L xs k18 x3 X I = some z) : g cells slots 473 [(0, .ref 0), (1, .ref 64), (2, .ref 269), (3, .int x3)] [] I X := by
  unfold b_L_law_473 at h
  refine r_aload_n hg 1 dL_law_473 rfl rfl ?_
  refine r_aload_n hg 0 dL_law_474 rfl rfl ?_
  refine r_iload_n hg 3 dL_law_475 rfl rfl ?_
  refine r_iconst hg dL_law_476 ci_1 ?_
  refine r_iadd hg dL_law_477 ?_
  obtain ⟨v1, e2, h⟩ := q_b1_some h
  refine r_ialdC hg dL_law_478 (by decide) hS.1 hS.2 e2 ?_
  refine r_aload_n hg 0 dL_law_479 rfl rfl ?_
  refine r_iload_n hg 3 dL_law_480 rfl rfl ?_
  refine r_iconst hg dL_law_481 ci_2 ?_
  refine r_iadd hg dL_law_482 ?_
  obtain ⟨v3, e4, h⟩ := q_b1_some h
  refine r_ialdC hg dL_law_483 (by decide) hS.1 hS.2 e4 ?_
  refine r_aload_n hg 0 dL_law_484 rfl rfl ?_
  refine r_iload_n hg 3 dL_law_485 rfl rfl ?_
  refine r_iconst hg dL_law_486 ci_3 ?_
  refine r_iadd hg dL_law_487 ?_
  obtain ⟨v5, e6, h⟩ := q_b1_some h
  refine r_ialdC hg dL_law_488 (by decide) hS.1 hS.2 e6 ?_
  obtain ⟨v7, I8, e9, h⟩ := q_b2_some h
  refine r_cV3i hg dL_law_489 mt_X11_man ml_L_36 mv_X11_man k_o1 (s_X11_man hΓ hX k_o1 e9) ⟨Nat.le_of_ble_eq_true rfl, Nat.le_of_ble_eq_true rfl⟩ ⟨Nat.le_of_succ_le hcs.1, Nat.le_trans (Nat.le_add_right _ _) hcs.2⟩ (Nat.le_of_ble_eq_true rfl) ?_
  refine r_aload_n hg 2 dL_law_492 rfl rfl ?_
  refine r_aload_n hg 0 dL_law_493 rfl rfl ?_
  refine r_iload_n hg 3 dL_law_494 rfl rfl ?_
  refine r_iconst hg dL_law_495 ci_1 ?_
  refine r_iadd hg dL_law_496 ?_
  obtain ⟨v10, e11, h⟩ := q_b1_some h
  refine r_ialdC hg dL_law_497 (by decide) hS.1 hS.2 e11 ?_
  refine r_aload_n hg 0 dL_law_498 rfl rfl ?_
  refine r_iload_n hg 3 dL_law_499 rfl rfl ?_
  refine r_iconst hg dL_law_500 ci_2 ?_
  refine r_iadd hg dL_law_501 ?_
  obtain ⟨v12, e13, h⟩ := q_b1_some h
  refine r_ialdC hg dL_law_502 (by decide) hS.1 hS.2 e13 ?_
  refine r_aload_n hg 0 dL_law_503 rfl rfl ?_
  refine r_iload_n hg 3 dL_law_504 rfl rfl ?_
  refine r_iconst hg dL_law_505 ci_3 ?_
  refine r_iadd hg dL_law_506 ?_
  obtain ⟨v14, e15, h⟩ := q_b1_some h
  refine r_ialdC hg dL_law_507 (by decide) hS.1 hS.2 e15 ?_
  obtain ⟨v16, I17, e18, h⟩ := q_b2_some h
  refine r_cV3i hg dL_law_508 mt_X12_man ml_L_39 mv_X12_man k_o2 (s_X12_man hΓ hX k_o2 e18) ⟨Nat.le_of_ble_eq_true rfl, Nat.le_of_ble_eq_true rfl⟩ ⟨Nat.le_of_succ_le hcs.1, Nat.le_trans (Nat.le_add_right _ _) hcs.2⟩ (Nat.le_of_ble_eq_true rfl) ?_
  refine r_icmp_eq hg 2173 dL_law_511 (by decide) (fun c19 => ?_) (fun c19 => ?_)
  · rw [if_pos c19] at h
    refine r_iinc hg 3 (v := (x3 + (nI 6))) (L' := [(3, .int (x3 + (nI 6))), (0, .ref 0), (1, .ref 64), (2, .ref 269)]) dL_law_2173 rfl (by rw [ci_6]) (by decide) rfl ?_
    refine r_goto hg 18 dL_law_2176 (by decide) ?_
    refine r_sub hg [1, 2, 3, 0] rfl ?_
    exact hk _ _ (Nat.le_succ _) (Nat.le_add_right _ _) _ _ _ hX k_o1 k_o2 h
  · rw [if_neg c19] at h
    refine r_iconst hg dL_law_514 ci_0 ?_
    exact r_ireturn hr dL_law_515 ⟨Nat.le_of_succ_le hcs.1, Nat.le_trans (Nat.le_add_right _ _) hcs.2⟩ ⟨_, rfl, bz_0.1⟩ (by cases h; rfl)
def b_L_law_516 (L : Nat) (xs : Nat → Int32) (k18 : Int32 → qX → qI → Option (Int32 × qI × qX)) (x3 : Int32) (X : qX) (I : qI) : Option (Int32 × qI × qX) :=
  q_b1 (q_rdO xs L (x3 + (nI 1))) fun v1 =>
  q_b1 (q_rdO xs L (x3 + (nI 2))) fun v3 =>
  q_b1 (f_X11_is 64 v1 v3 X I) fun v5 =>
  q_b1 (q_rdO xs L (x3 + (nI 1))) fun v7 =>
  q_b1 (q_rdO xs L (x3 + (nI 2))) fun v9 =>
  q_b1 (f_X12_is 269 v7 v9 I) fun v11 =>
  if v5 = v11 then
    k18 (x3 + (nI 6)) X I
  else
    some ((nI 0), I, X)
set_option maxRecDepth 100000 in
set_option maxHeartbeats 4000000 in
theorem p_L_law_516 {l : Launch} {Γ : qC} {g : qG} {z : Int32 × qI × qX} {L cells slots : Nat} {xs : Nat → Int32} {nm : String} {k18 : Int32 → qX → qI → Option (Int32 × qI × qX)} (hΓ : q_gm Γ) (hg : q_Ok l Γ RL cL_law 4 room_1 nm (some .boolean) g) (hr : q_Rt cL_law (some .boolean) room_1 (some (.int z.1), z.2.1, z.2.2) g) (hS : q_ol Γ 0 = L ∧ q_ov Γ 0 = xs) (hcs : cells + 1 ≤ room_1.cells ∧ slots + 96 ≤ room_1.slots) (hk : ∀ c s, c ≤ cells + 1 → s ≤ slots + 96 → ∀ (x3 : Int32) (X : qX) (I : qI), q_Lay X → q_kd X 64 = some (13, 9) → q_kd X 269 = some (14, 42) → k18 x3 X I = some z → g c s 18 [(0, .ref 0), (1, .ref 64), (2, .ref 269), (3, .int x3)] [] I X) (x3 : Int32) (X : qX) (I : qI) (hX : q_Lay X) (k_o1 : q_kd X 64 = some (13, 9)) (k_o2 : q_kd X 269 = some (14, 42)) (h : b_L_law_516 L xs k18 x3 X I = some z) : g cells slots 516 [(0, .ref 0), (1, .ref 64), (2, .ref 269), (3, .int x3)] [] I X := by
  unfold b_L_law_516 at h
  refine r_aload_n hg 1 dL_law_516 rfl rfl ?_
  refine r_aload_n hg 0 dL_law_517 rfl rfl ?_
  refine r_iload_n hg 3 dL_law_518 rfl rfl ?_
  refine r_iconst hg dL_law_519 ci_1 ?_
  refine r_iadd hg dL_law_520 ?_
  obtain ⟨v1, e2, h⟩ := q_b1_some h
  refine r_ialdC hg dL_law_521 (by decide) hS.1 hS.2 e2 ?_
  refine r_aload_n hg 0 dL_law_522 rfl rfl ?_
  refine r_iload_n hg 3 dL_law_523 rfl rfl ?_
  refine r_iconst hg dL_law_524 ci_2 ?_
  refine r_iadd hg dL_law_525 ?_
  obtain ⟨v3, e4, h⟩ := q_b1_some h
  refine r_ialdC hg dL_law_526 (by decide) hS.1 hS.2 e4 ?_
  obtain ⟨v5, e6, h⟩ := q_b1_some h
  refine r_cV2i hg dL_law_527 mt_X11_is ml_L_40 mv_X11_is k_o1 (s_X11_is hΓ hX k_o1 e6) ⟨Nat.le_of_ble_eq_true rfl, Nat.le_of_ble_eq_true rfl⟩ ⟨Nat.le_of_succ_le hcs.1, Nat.le_trans (Nat.le_add_right _ _) hcs.2⟩ (Nat.le_of_ble_eq_true rfl) ?_
  refine r_aload_n hg 2 dL_law_530 rfl rfl ?_
  refine r_aload_n hg 0 dL_law_531 rfl rfl ?_
  refine r_iload_n hg 3 dL_law_532 rfl rfl ?_
  refine r_iconst hg dL_law_533 ci_1 ?_
  refine r_iadd hg dL_law_534 ?_
  obtain ⟨v7, e8, h⟩ := q_b1_some h
  refine r_ialdC hg dL_law_535 (by decide) hS.1 hS.2 e8 ?_
  refine r_aload_n hg 0 dL_law_536 rfl rfl ?_
  refine r_iload_n hg 3 dL_law_537 rfl rfl ?_
  refine r_iconst hg dL_law_538 ci_2 ?_
  refine r_iadd hg dL_law_539 ?_
  obtain ⟨v9, e10, h⟩ := q_b1_some h
  refine r_ialdC hg dL_law_540 (by decide) hS.1 hS.2 e10 ?_
  obtain ⟨v11, e12, h⟩ := q_b1_some h
  refine r_cV2i hg dL_law_541 mt_X12_is ml_L_43 mv_X12_is k_o2 (s_X12_is hΓ hX k_o2 e12) ⟨Nat.le_of_ble_eq_true rfl, Nat.le_of_ble_eq_true rfl⟩ ⟨Nat.le_of_succ_le hcs.1, Nat.le_trans (Nat.le_add_right _ _) hcs.2⟩ (Nat.le_of_ble_eq_true rfl) ?_
  refine r_icmp_eq hg 2173 dL_law_544 (by decide) (fun c13 => ?_) (fun c13 => ?_)
  · rw [if_pos c13] at h
    refine r_iinc hg 3 (v := (x3 + (nI 6))) (L' := [(3, .int (x3 + (nI 6))), (0, .ref 0), (1, .ref 64), (2, .ref 269)]) dL_law_2173 rfl (by rw [ci_6]) (by decide) rfl ?_
    refine r_goto hg 18 dL_law_2176 (by decide) ?_
    refine r_sub hg [1, 2, 3, 0] rfl ?_
    exact hk _ _ (Nat.le_succ _) (Nat.le_add_right _ _) _ _ _ hX k_o1 k_o2 h
  · rw [if_neg c13] at h
    refine r_iconst hg dL_law_547 ci_0 ?_
    exact r_ireturn hr dL_law_548 ⟨Nat.le_of_succ_le hcs.1, Nat.le_trans (Nat.le_add_right _ _) hcs.2⟩ ⟨_, rfl, bz_0.1⟩ (by cases h; rfl)
def b_L_law_549 (L : Nat) (xs : Nat → Int32) (k18 : Int32 → qX → qI → Option (Int32 × qI × qX)) (x3 : Int32) (X : qX) (I : qI) : Option (Int32 × qI × qX) :=
  q_b1 (q_rdO xs L (x3 + (nI 1))) fun v1 =>
  q_b1 (q_rdO xs L (x3 + (nI 2))) fun v3 =>
  q_b1 (q_rdO xs L (x3 + (nI 3))) fun v5 =>
  q_b2 (f_X11_be 64 v1 v3 v5 X I) fun v7 I8 =>
  q_b1 (q_rdO xs L (x3 + (nI 1))) fun v10 =>
  q_b1 (q_rdO xs L (x3 + (nI 2))) fun v12 =>
  q_b1 (q_rdO xs L (x3 + (nI 3))) fun v14 =>
  q_b2 (f_X12_be 269 v10 v12 v14 I8) fun v16 I17 =>
  if v7 = v16 then
    k18 (x3 + (nI 6)) X I17
  else
    some ((nI 0), I17, X)
set_option maxRecDepth 100000 in
set_option maxHeartbeats 4000000 in
theorem p_L_law_549 {l : Launch} {Γ : qC} {g : qG} {z : Int32 × qI × qX} {L cells slots : Nat} {xs : Nat → Int32} {nm : String} {k18 : Int32 → qX → qI → Option (Int32 × qI × qX)} (hΓ : q_gm Γ) (hg : q_Ok l Γ RL cL_law 4 room_1 nm (some .boolean) g) (hr : q_Rt cL_law (some .boolean) room_1 (some (.int z.1), z.2.1, z.2.2) g) (hS : q_ol Γ 0 = L ∧ q_ov Γ 0 = xs) (hcs : cells + 1 ≤ room_1.cells ∧ slots + 96 ≤ room_1.slots) (hk : ∀ c s, c ≤ cells + 1 → s ≤ slots + 96 → ∀ (x3 : Int32) (X : qX) (I : qI), q_Lay X → q_kd X 64 = some (13, 9) → q_kd X 269 = some (14, 42) → k18 x3 X I = some z → g c s 18 [(0, .ref 0), (1, .ref 64), (2, .ref 269), (3, .int x3)] [] I X) (x3 : Int32) (X : qX) (I : qI) (hX : q_Lay X) (k_o1 : q_kd X 64 = some (13, 9)) (k_o2 : q_kd X 269 = some (14, 42)) (h : b_L_law_549 L xs k18 x3 X I = some z) : g cells slots 549 [(0, .ref 0), (1, .ref 64), (2, .ref 269), (3, .int x3)] [] I X := by
  unfold b_L_law_549 at h
  refine r_aload_n hg 1 dL_law_549 rfl rfl ?_
  refine r_aload_n hg 0 dL_law_550 rfl rfl ?_
  refine r_iload_n hg 3 dL_law_551 rfl rfl ?_
  refine r_iconst hg dL_law_552 ci_1 ?_
  refine r_iadd hg dL_law_553 ?_
  obtain ⟨v1, e2, h⟩ := q_b1_some h
  refine r_ialdC hg dL_law_554 (by decide) hS.1 hS.2 e2 ?_
  refine r_aload_n hg 0 dL_law_555 rfl rfl ?_
  refine r_iload_n hg 3 dL_law_556 rfl rfl ?_
  refine r_iconst hg dL_law_557 ci_2 ?_
  refine r_iadd hg dL_law_558 ?_
  obtain ⟨v3, e4, h⟩ := q_b1_some h
  refine r_ialdC hg dL_law_559 (by decide) hS.1 hS.2 e4 ?_
  refine r_aload_n hg 0 dL_law_560 rfl rfl ?_
  refine r_iload_n hg 3 dL_law_561 rfl rfl ?_
  refine r_iconst hg dL_law_562 ci_3 ?_
  refine r_iadd hg dL_law_563 ?_
  obtain ⟨v5, e6, h⟩ := q_b1_some h
  refine r_ialdC hg dL_law_564 (by decide) hS.1 hS.2 e6 ?_
  obtain ⟨v7, I8, e9, h⟩ := q_b2_some h
  refine r_cV3i hg dL_law_565 mt_X11_be ml_L_44 mv_X11_be k_o1 (s_X11_be hΓ hX k_o1 e9) ⟨Nat.le_of_ble_eq_true rfl, Nat.le_of_ble_eq_true rfl⟩ ⟨Nat.le_of_succ_le hcs.1, Nat.le_trans (Nat.le_add_right _ _) hcs.2⟩ (Nat.le_of_ble_eq_true rfl) ?_
  refine r_aload_n hg 2 dL_law_568 rfl rfl ?_
  refine r_aload_n hg 0 dL_law_569 rfl rfl ?_
  refine r_iload_n hg 3 dL_law_570 rfl rfl ?_
  refine r_iconst hg dL_law_571 ci_1 ?_
  refine r_iadd hg dL_law_572 ?_
  obtain ⟨v10, e11, h⟩ := q_b1_some h
  refine r_ialdC hg dL_law_573 (by decide) hS.1 hS.2 e11 ?_
  refine r_aload_n hg 0 dL_law_574 rfl rfl ?_
  refine r_iload_n hg 3 dL_law_575 rfl rfl ?_
  refine r_iconst hg dL_law_576 ci_2 ?_
  refine r_iadd hg dL_law_577 ?_
  obtain ⟨v12, e13, h⟩ := q_b1_some h
  refine r_ialdC hg dL_law_578 (by decide) hS.1 hS.2 e13 ?_
  refine r_aload_n hg 0 dL_law_579 rfl rfl ?_
  refine r_iload_n hg 3 dL_law_580 rfl rfl ?_
  refine r_iconst hg dL_law_581 ci_3 ?_
  refine r_iadd hg dL_law_582 ?_
  obtain ⟨v14, e15, h⟩ := q_b1_some h
  refine r_ialdC hg dL_law_583 (by decide) hS.1 hS.2 e15 ?_
  obtain ⟨v16, I17, e18, h⟩ := q_b2_some h
  refine r_cV3i hg dL_law_584 mt_X12_be ml_L_47 mv_X12_be k_o2 (s_X12_be hΓ hX k_o2 e18) ⟨Nat.le_of_ble_eq_true rfl, Nat.le_of_ble_eq_true rfl⟩ ⟨Nat.le_of_succ_le hcs.1, Nat.le_trans (Nat.le_add_right _ _) hcs.2⟩ (Nat.le_of_ble_eq_true rfl) ?_
  refine r_icmp_eq hg 2173 dL_law_587 (by decide) (fun c19 => ?_) (fun c19 => ?_)
  · rw [if_pos c19] at h
    refine r_iinc hg 3 (v := (x3 + (nI 6))) (L' := [(3, .int (x3 + (nI 6))), (0, .ref 0), (1, .ref 64), (2, .ref 269)]) dL_law_2173 rfl (by rw [ci_6]) (by decide) rfl ?_
    refine r_goto hg 18 dL_law_2176 (by decide) ?_
    refine r_sub hg [1, 2, 3, 0] rfl ?_
    exact hk _ _ (Nat.le_succ _) (Nat.le_add_right _ _) _ _ _ hX k_o1 k_o2 h
  · rw [if_neg c19] at h
    refine r_iconst hg dL_law_590 ci_0 ?_
    exact r_ireturn hr dL_law_591 ⟨Nat.le_of_succ_le hcs.1, Nat.le_trans (Nat.le_add_right _ _) hcs.2⟩ ⟨_, rfl, bz_0.1⟩ (by cases h; rfl)
def b_L_law_592 (L : Nat) (xs : Nat → Int32) (k18 : Int32 → qX → qI → Option (Int32 × qI × qX)) (x3 : Int32) (X : qX) (I : qI) : Option (Int32 × qI × qX) :=
  q_b1 (q_rdO xs L (x3 + (nI 1))) fun v1 =>
  q_b1 (q_rdO xs L (x3 + (nI 2))) fun v3 =>
  q_b1 (q_rdO xs L (x3 + (nI 3))) fun v5 =>
  q_b1 (f_X11_known 64 v1 v3 v5 I) fun v7 =>
  q_b1 (q_rdO xs L (x3 + (nI 1))) fun v9 =>
  q_b1 (q_rdO xs L (x3 + (nI 2))) fun v11 =>
  q_b1 (q_rdO xs L (x3 + (nI 3))) fun v13 =>
  q_b1 (f_X12_known 269 v9 v11 v13 I) fun v15 =>
  if v7 = v15 then
    k18 (x3 + (nI 6)) X I
  else
    some ((nI 0), I, X)
set_option maxRecDepth 100000 in
set_option maxHeartbeats 4000000 in
theorem p_L_law_592 {l : Launch} {Γ : qC} {g : qG} {z : Int32 × qI × qX} {L cells slots : Nat} {xs : Nat → Int32} {nm : String} {k18 : Int32 → qX → qI → Option (Int32 × qI × qX)} (hΓ : q_gm Γ) (hg : q_Ok l Γ RL cL_law 4 room_1 nm (some .boolean) g) (hr : q_Rt cL_law (some .boolean) room_1 (some (.int z.1), z.2.1, z.2.2) g) (hS : q_ol Γ 0 = L ∧ q_ov Γ 0 = xs) (hcs : cells + 1 ≤ room_1.cells ∧ slots + 96 ≤ room_1.slots) (hk : ∀ c s, c ≤ cells + 1 → s ≤ slots + 96 → ∀ (x3 : Int32) (X : qX) (I : qI), q_Lay X → q_kd X 64 = some (13, 9) → q_kd X 269 = some (14, 42) → k18 x3 X I = some z → g c s 18 [(0, .ref 0), (1, .ref 64), (2, .ref 269), (3, .int x3)] [] I X) (x3 : Int32) (X : qX) (I : qI) (hX : q_Lay X) (k_o1 : q_kd X 64 = some (13, 9)) (k_o2 : q_kd X 269 = some (14, 42)) (h : b_L_law_592 L xs k18 x3 X I = some z) : g cells slots 592 [(0, .ref 0), (1, .ref 64), (2, .ref 269), (3, .int x3)] [] I X := by
  unfold b_L_law_592 at h
  refine r_aload_n hg 1 dL_law_592 rfl rfl ?_
  refine r_aload_n hg 0 dL_law_593 rfl rfl ?_
  refine r_iload_n hg 3 dL_law_594 rfl rfl ?_
  refine r_iconst hg dL_law_595 ci_1 ?_
  refine r_iadd hg dL_law_596 ?_
  obtain ⟨v1, e2, h⟩ := q_b1_some h
  refine r_ialdC hg dL_law_597 (by decide) hS.1 hS.2 e2 ?_
  refine r_aload_n hg 0 dL_law_598 rfl rfl ?_
  refine r_iload_n hg 3 dL_law_599 rfl rfl ?_
  refine r_iconst hg dL_law_600 ci_2 ?_
  refine r_iadd hg dL_law_601 ?_
  obtain ⟨v3, e4, h⟩ := q_b1_some h
  refine r_ialdC hg dL_law_602 (by decide) hS.1 hS.2 e4 ?_
  refine r_aload_n hg 0 dL_law_603 rfl rfl ?_
  refine r_iload_n hg 3 dL_law_604 rfl rfl ?_
  refine r_iconst hg dL_law_605 ci_3 ?_
  refine r_iadd hg dL_law_606 ?_
  obtain ⟨v5, e6, h⟩ := q_b1_some h
  refine r_ialdC hg dL_law_607 (by decide) hS.1 hS.2 e6 ?_
  obtain ⟨v7, e8, h⟩ := q_b1_some h
  refine r_cV3i hg dL_law_608 mt_X11_known ml_L_48 mv_X11_known k_o1 (s_X11_known hΓ hX k_o1 e8) ⟨Nat.le_of_ble_eq_true rfl, Nat.le_of_ble_eq_true rfl⟩ ⟨Nat.le_of_succ_le hcs.1, Nat.le_trans (Nat.le_add_right _ _) hcs.2⟩ (Nat.le_of_ble_eq_true rfl) ?_
  refine r_aload_n hg 2 dL_law_611 rfl rfl ?_
  refine r_aload_n hg 0 dL_law_612 rfl rfl ?_
  refine r_iload_n hg 3 dL_law_613 rfl rfl ?_
  refine r_iconst hg dL_law_614 ci_1 ?_
  refine r_iadd hg dL_law_615 ?_
  obtain ⟨v9, e10, h⟩ := q_b1_some h
  refine r_ialdC hg dL_law_616 (by decide) hS.1 hS.2 e10 ?_
  refine r_aload_n hg 0 dL_law_617 rfl rfl ?_
  refine r_iload_n hg 3 dL_law_618 rfl rfl ?_
  refine r_iconst hg dL_law_619 ci_2 ?_
  refine r_iadd hg dL_law_620 ?_
  obtain ⟨v11, e12, h⟩ := q_b1_some h
  refine r_ialdC hg dL_law_621 (by decide) hS.1 hS.2 e12 ?_
  refine r_aload_n hg 0 dL_law_622 rfl rfl ?_
  refine r_iload_n hg 3 dL_law_623 rfl rfl ?_
  refine r_iconst hg dL_law_624 ci_3 ?_
  refine r_iadd hg dL_law_625 ?_
  obtain ⟨v13, e14, h⟩ := q_b1_some h
  refine r_ialdC hg dL_law_626 (by decide) hS.1 hS.2 e14 ?_
  obtain ⟨v15, e16, h⟩ := q_b1_some h
  refine r_cV3i hg dL_law_627 mt_X12_known ml_L_51 mv_X12_known k_o2 (s_X12_known hΓ hX k_o2 e16) ⟨Nat.le_of_ble_eq_true rfl, Nat.le_of_ble_eq_true rfl⟩ ⟨Nat.le_of_succ_le hcs.1, Nat.le_trans (Nat.le_add_right _ _) hcs.2⟩ (Nat.le_of_ble_eq_true rfl) ?_
  refine r_icmp_eq hg 2173 dL_law_630 (by decide) (fun c17 => ?_) (fun c17 => ?_)
  · rw [if_pos c17] at h
    refine r_iinc hg 3 (v := (x3 + (nI 6))) (L' := [(3, .int (x3 + (nI 6))), (0, .ref 0), (1, .ref 64), (2, .ref 269)]) dL_law_2173 rfl (by rw [ci_6]) (by decide) rfl ?_
    refine r_goto hg 18 dL_law_2176 (by decide) ?_
    refine r_sub hg [1, 2, 3, 0] rfl ?_
    exact hk _ _ (Nat.le_succ _) (Nat.le_add_right _ _) _ _ _ hX k_o1 k_o2 h
  · rw [if_neg c17] at h
    refine r_iconst hg dL_law_633 ci_0 ?_
    exact r_ireturn hr dL_law_634 ⟨Nat.le_of_succ_le hcs.1, Nat.le_trans (Nat.le_add_right _ _) hcs.2⟩ ⟨_, rfl, bz_0.1⟩ (by cases h; rfl)
def b_L_law_635 (L : Nat) (xs : Nat → Int32) (k18 : Int32 → qX → qI → Option (Int32 × qI × qX)) (x3 : Int32) (X : qX) (I : qI) : Option (Int32 × qI × qX) :=
  q_b1 (q_rdO xs L (x3 + (nI 1))) fun v1 =>
  q_b1 (q_rdO xs L (x3 + (nI 2))) fun v3 =>
  q_b2 (f_X11_hear 64 v1 v3 I) fun v5 I6 =>
  q_b1 (q_rdO xs L (x3 + (nI 1))) fun v8 =>
  q_b1 (q_rdO xs L (x3 + (nI 2))) fun v10 =>
  q_b2 (f_X12_hear 269 v8 v10 I6) fun v12 I13 =>
  if v5 = v12 then
    k18 (x3 + (nI 6)) X I13
  else
    some ((nI 0), I13, X)
set_option maxRecDepth 100000 in
set_option maxHeartbeats 4000000 in
theorem p_L_law_635 {l : Launch} {Γ : qC} {g : qG} {z : Int32 × qI × qX} {L cells slots : Nat} {xs : Nat → Int32} {nm : String} {k18 : Int32 → qX → qI → Option (Int32 × qI × qX)} (hΓ : q_gm Γ) (hg : q_Ok l Γ RL cL_law 4 room_1 nm (some .boolean) g) (hr : q_Rt cL_law (some .boolean) room_1 (some (.int z.1), z.2.1, z.2.2) g) (hS : q_ol Γ 0 = L ∧ q_ov Γ 0 = xs) (hcs : cells + 1 ≤ room_1.cells ∧ slots + 96 ≤ room_1.slots) (hk : ∀ c s, c ≤ cells + 1 → s ≤ slots + 96 → ∀ (x3 : Int32) (X : qX) (I : qI), q_Lay X → q_kd X 64 = some (13, 9) → q_kd X 269 = some (14, 42) → k18 x3 X I = some z → g c s 18 [(0, .ref 0), (1, .ref 64), (2, .ref 269), (3, .int x3)] [] I X) (x3 : Int32) (X : qX) (I : qI) (hX : q_Lay X) (k_o1 : q_kd X 64 = some (13, 9)) (k_o2 : q_kd X 269 = some (14, 42)) (h : b_L_law_635 L xs k18 x3 X I = some z) : g cells slots 635 [(0, .ref 0), (1, .ref 64), (2, .ref 269), (3, .int x3)] [] I X := by
  unfold b_L_law_635 at h
  refine r_aload_n hg 1 dL_law_635 rfl rfl ?_
  refine r_aload_n hg 0 dL_law_636 rfl rfl ?_
  refine r_iload_n hg 3 dL_law_637 rfl rfl ?_
  refine r_iconst hg dL_law_638 ci_1 ?_
  refine r_iadd hg dL_law_639 ?_
  obtain ⟨v1, e2, h⟩ := q_b1_some h
  refine r_ialdC hg dL_law_640 (by decide) hS.1 hS.2 e2 ?_
  refine r_aload_n hg 0 dL_law_641 rfl rfl ?_
  refine r_iload_n hg 3 dL_law_642 rfl rfl ?_
  refine r_iconst hg dL_law_643 ci_2 ?_
  refine r_iadd hg dL_law_644 ?_
  obtain ⟨v3, e4, h⟩ := q_b1_some h
  refine r_ialdC hg dL_law_645 (by decide) hS.1 hS.2 e4 ?_
  obtain ⟨v5, I6, e7, h⟩ := q_b2_some h
  refine r_cV2i hg dL_law_646 mt_X11_hear ml_L_52 mv_X11_hear k_o1 (s_X11_hear hΓ hX k_o1 e7) ⟨Nat.le_of_ble_eq_true rfl, Nat.le_of_ble_eq_true rfl⟩ ⟨Nat.le_of_succ_le hcs.1, Nat.le_trans (Nat.le_add_right _ _) hcs.2⟩ (Nat.le_of_ble_eq_true rfl) ?_
  refine r_aload_n hg 2 dL_law_649 rfl rfl ?_
  refine r_aload_n hg 0 dL_law_650 rfl rfl ?_
  refine r_iload_n hg 3 dL_law_651 rfl rfl ?_
  refine r_iconst hg dL_law_652 ci_1 ?_
  refine r_iadd hg dL_law_653 ?_
  obtain ⟨v8, e9, h⟩ := q_b1_some h
  refine r_ialdC hg dL_law_654 (by decide) hS.1 hS.2 e9 ?_
  refine r_aload_n hg 0 dL_law_655 rfl rfl ?_
  refine r_iload_n hg 3 dL_law_656 rfl rfl ?_
  refine r_iconst hg dL_law_657 ci_2 ?_
  refine r_iadd hg dL_law_658 ?_
  obtain ⟨v10, e11, h⟩ := q_b1_some h
  refine r_ialdC hg dL_law_659 (by decide) hS.1 hS.2 e11 ?_
  obtain ⟨v12, I13, e14, h⟩ := q_b2_some h
  refine r_cV2i hg dL_law_660 mt_X12_hear ml_L_55 mv_X12_hear k_o2 (s_X12_hear hΓ hX k_o2 e14) ⟨Nat.le_of_ble_eq_true rfl, Nat.le_of_ble_eq_true rfl⟩ ⟨Nat.le_of_succ_le hcs.1, Nat.le_trans (Nat.le_add_right _ _) hcs.2⟩ (Nat.le_of_ble_eq_true rfl) ?_
  refine r_icmp_eq hg 2173 dL_law_663 (by decide) (fun c15 => ?_) (fun c15 => ?_)
  · rw [if_pos c15] at h
    refine r_iinc hg 3 (v := (x3 + (nI 6))) (L' := [(3, .int (x3 + (nI 6))), (0, .ref 0), (1, .ref 64), (2, .ref 269)]) dL_law_2173 rfl (by rw [ci_6]) (by decide) rfl ?_
    refine r_goto hg 18 dL_law_2176 (by decide) ?_
    refine r_sub hg [1, 2, 3, 0] rfl ?_
    exact hk _ _ (Nat.le_succ _) (Nat.le_add_right _ _) _ _ _ hX k_o1 k_o2 h
  · rw [if_neg c15] at h
    refine r_iconst hg dL_law_666 ci_0 ?_
    exact r_ireturn hr dL_law_667 ⟨Nat.le_of_succ_le hcs.1, Nat.le_trans (Nat.le_add_right _ _) hcs.2⟩ ⟨_, rfl, bz_0.1⟩ (by cases h; rfl)
def b_L_law_668 (L : Nat) (xs : Nat → Int32) (k18 : Int32 → qX → qI → Option (Int32 × qI × qX)) (x3 : Int32) (X : qX) (I : qI) : Option (Int32 × qI × qX) :=
  q_b1 (q_rdO xs L (x3 + (nI 1))) fun v1 =>
  q_b1 (q_rdO xs L (x3 + (nI 2))) fun v3 =>
  q_b2 (f_X11_rule 64 v1 v3 X I) fun v5 I6 =>
  q_b1 (q_rdO xs L (x3 + (nI 1))) fun v8 =>
  q_b1 (q_rdO xs L (x3 + (nI 2))) fun v10 =>
  q_b2 (f_X12_rule 269 v8 v10 I6) fun v12 I13 =>
  if v5 = v12 then
    k18 (x3 + (nI 6)) X I13
  else
    some ((nI 0), I13, X)
set_option maxRecDepth 100000 in
set_option maxHeartbeats 4000000 in
theorem p_L_law_668 {l : Launch} {Γ : qC} {g : qG} {z : Int32 × qI × qX} {L cells slots : Nat} {xs : Nat → Int32} {nm : String} {k18 : Int32 → qX → qI → Option (Int32 × qI × qX)} (hΓ : q_gm Γ) (hg : q_Ok l Γ RL cL_law 4 room_1 nm (some .boolean) g) (hr : q_Rt cL_law (some .boolean) room_1 (some (.int z.1), z.2.1, z.2.2) g) (hS : q_ol Γ 0 = L ∧ q_ov Γ 0 = xs) (hcs : cells + 1 ≤ room_1.cells ∧ slots + 96 ≤ room_1.slots) (hk : ∀ c s, c ≤ cells + 1 → s ≤ slots + 96 → ∀ (x3 : Int32) (X : qX) (I : qI), q_Lay X → q_kd X 64 = some (13, 9) → q_kd X 269 = some (14, 42) → k18 x3 X I = some z → g c s 18 [(0, .ref 0), (1, .ref 64), (2, .ref 269), (3, .int x3)] [] I X) (x3 : Int32) (X : qX) (I : qI) (hX : q_Lay X) (k_o1 : q_kd X 64 = some (13, 9)) (k_o2 : q_kd X 269 = some (14, 42)) (h : b_L_law_668 L xs k18 x3 X I = some z) : g cells slots 668 [(0, .ref 0), (1, .ref 64), (2, .ref 269), (3, .int x3)] [] I X := by
  unfold b_L_law_668 at h
  refine r_aload_n hg 1 dL_law_668 rfl rfl ?_
  refine r_aload_n hg 0 dL_law_669 rfl rfl ?_
  refine r_iload_n hg 3 dL_law_670 rfl rfl ?_
  refine r_iconst hg dL_law_671 ci_1 ?_
  refine r_iadd hg dL_law_672 ?_
  obtain ⟨v1, e2, h⟩ := q_b1_some h
  refine r_ialdC hg dL_law_673 (by decide) hS.1 hS.2 e2 ?_
  refine r_aload_n hg 0 dL_law_674 rfl rfl ?_
  refine r_iload_n hg 3 dL_law_675 rfl rfl ?_
  refine r_iconst hg dL_law_676 ci_2 ?_
  refine r_iadd hg dL_law_677 ?_
  obtain ⟨v3, e4, h⟩ := q_b1_some h
  refine r_ialdC hg dL_law_678 (by decide) hS.1 hS.2 e4 ?_
  obtain ⟨v5, I6, e7, h⟩ := q_b2_some h
  refine r_cV2i hg dL_law_679 mt_X11_rule ml_L_56 mv_X11_rule k_o1 (s_X11_rule hΓ hX k_o1 e7) ⟨Nat.le_of_ble_eq_true rfl, Nat.le_of_ble_eq_true rfl⟩ ⟨Nat.le_of_succ_le hcs.1, Nat.le_trans (Nat.le_add_right _ _) hcs.2⟩ (Nat.le_of_ble_eq_true rfl) ?_
  refine r_aload_n hg 2 dL_law_682 rfl rfl ?_
  refine r_aload_n hg 0 dL_law_683 rfl rfl ?_
  refine r_iload_n hg 3 dL_law_684 rfl rfl ?_
  refine r_iconst hg dL_law_685 ci_1 ?_
  refine r_iadd hg dL_law_686 ?_
  obtain ⟨v8, e9, h⟩ := q_b1_some h
  refine r_ialdC hg dL_law_687 (by decide) hS.1 hS.2 e9 ?_
  refine r_aload_n hg 0 dL_law_688 rfl rfl ?_
  refine r_iload_n hg 3 dL_law_689 rfl rfl ?_
  refine r_iconst hg dL_law_690 ci_2 ?_
  refine r_iadd hg dL_law_691 ?_
  obtain ⟨v10, e11, h⟩ := q_b1_some h
  refine r_ialdC hg dL_law_692 (by decide) hS.1 hS.2 e11 ?_
  obtain ⟨v12, I13, e14, h⟩ := q_b2_some h
  refine r_cV2i hg dL_law_693 mt_X12_rule ml_L_59 mv_X12_rule k_o2 (s_X12_rule hΓ hX k_o2 e14) ⟨Nat.le_of_ble_eq_true rfl, Nat.le_of_ble_eq_true rfl⟩ ⟨Nat.le_of_succ_le hcs.1, Nat.le_trans (Nat.le_add_right _ _) hcs.2⟩ (Nat.le_of_ble_eq_true rfl) ?_
  refine r_icmp_eq hg 2173 dL_law_696 (by decide) (fun c15 => ?_) (fun c15 => ?_)
  · rw [if_pos c15] at h
    refine r_iinc hg 3 (v := (x3 + (nI 6))) (L' := [(3, .int (x3 + (nI 6))), (0, .ref 0), (1, .ref 64), (2, .ref 269)]) dL_law_2173 rfl (by rw [ci_6]) (by decide) rfl ?_
    refine r_goto hg 18 dL_law_2176 (by decide) ?_
    refine r_sub hg [1, 2, 3, 0] rfl ?_
    exact hk _ _ (Nat.le_succ _) (Nat.le_add_right _ _) _ _ _ hX k_o1 k_o2 h
  · rw [if_neg c15] at h
    refine r_iconst hg dL_law_699 ci_0 ?_
    exact r_ireturn hr dL_law_700 ⟨Nat.le_of_succ_le hcs.1, Nat.le_trans (Nat.le_add_right _ _) hcs.2⟩ ⟨_, rfl, bz_0.1⟩ (by cases h; rfl)
def b_L_law_701 (L : Nat) (xs : Nat → Int32) (k18 : Int32 → qX → qI → Option (Int32 × qI × qX)) (x3 : Int32) (X : qX) (I : qI) : Option (Int32 × qI × qX) :=
  q_b1 (q_rdO xs L (x3 + (nI 1))) fun v1 =>
  q_b2 (f_X11_run 64 v1 X I) fun v3 I4 =>
  q_b1 (q_rdO xs L (x3 + (nI 1))) fun v6 =>
  q_b2 (f_X12_run 269 v6 I4) fun v8 I9 =>
  if v3 = v8 then
    k18 (x3 + (nI 6)) X I9
  else
    some ((nI 0), I9, X)
set_option maxRecDepth 100000 in
set_option maxHeartbeats 4000000 in
theorem p_L_law_701 {l : Launch} {Γ : qC} {g : qG} {z : Int32 × qI × qX} {L cells slots : Nat} {xs : Nat → Int32} {nm : String} {k18 : Int32 → qX → qI → Option (Int32 × qI × qX)} (hΓ : q_gm Γ) (hg : q_Ok l Γ RL cL_law 4 room_1 nm (some .boolean) g) (hr : q_Rt cL_law (some .boolean) room_1 (some (.int z.1), z.2.1, z.2.2) g) (hS : q_ol Γ 0 = L ∧ q_ov Γ 0 = xs) (hcs : cells + 1 ≤ room_1.cells ∧ slots + 96 ≤ room_1.slots) (hk : ∀ c s, c ≤ cells + 1 → s ≤ slots + 96 → ∀ (x3 : Int32) (X : qX) (I : qI), q_Lay X → q_kd X 64 = some (13, 9) → q_kd X 269 = some (14, 42) → k18 x3 X I = some z → g c s 18 [(0, .ref 0), (1, .ref 64), (2, .ref 269), (3, .int x3)] [] I X) (x3 : Int32) (X : qX) (I : qI) (hX : q_Lay X) (k_o1 : q_kd X 64 = some (13, 9)) (k_o2 : q_kd X 269 = some (14, 42)) (h : b_L_law_701 L xs k18 x3 X I = some z) : g cells slots 701 [(0, .ref 0), (1, .ref 64), (2, .ref 269), (3, .int x3)] [] I X := by
  unfold b_L_law_701 at h
  refine r_aload_n hg 1 dL_law_701 rfl rfl ?_
  refine r_aload_n hg 0 dL_law_702 rfl rfl ?_
  refine r_iload_n hg 3 dL_law_703 rfl rfl ?_
  refine r_iconst hg dL_law_704 ci_1 ?_
  refine r_iadd hg dL_law_705 ?_
  obtain ⟨v1, e2, h⟩ := q_b1_some h
  refine r_ialdC hg dL_law_706 (by decide) hS.1 hS.2 e2 ?_
  obtain ⟨v3, I4, e5, h⟩ := q_b2_some h
  refine r_cV1i hg dL_law_707 mt_X11_run ml_L_60 mv_X11_run k_o1 (s_X11_run hΓ hX k_o1 e5) ⟨Nat.le_of_ble_eq_true rfl, Nat.le_of_ble_eq_true rfl⟩ ⟨Nat.le_of_succ_le hcs.1, Nat.le_trans (Nat.le_add_right _ _) hcs.2⟩ (Nat.le_of_ble_eq_true rfl) ?_
  refine r_aload_n hg 2 dL_law_710 rfl rfl ?_
  refine r_aload_n hg 0 dL_law_711 rfl rfl ?_
  refine r_iload_n hg 3 dL_law_712 rfl rfl ?_
  refine r_iconst hg dL_law_713 ci_1 ?_
  refine r_iadd hg dL_law_714 ?_
  obtain ⟨v6, e7, h⟩ := q_b1_some h
  refine r_ialdC hg dL_law_715 (by decide) hS.1 hS.2 e7 ?_
  obtain ⟨v8, I9, e10, h⟩ := q_b2_some h
  refine r_cV1i hg dL_law_716 mt_X12_run ml_L_64 mv_X12_run k_o2 (s_X12_run hΓ hX k_o2 e10) ⟨Nat.le_of_ble_eq_true rfl, Nat.le_of_ble_eq_true rfl⟩ ⟨Nat.le_of_succ_le hcs.1, Nat.le_trans (Nat.le_add_right _ _) hcs.2⟩ (Nat.le_of_ble_eq_true rfl) ?_
  refine r_icmp_eq hg 2173 dL_law_719 (by decide) (fun c11 => ?_) (fun c11 => ?_)
  · rw [if_pos c11] at h
    refine r_iinc hg 3 (v := (x3 + (nI 6))) (L' := [(3, .int (x3 + (nI 6))), (0, .ref 0), (1, .ref 64), (2, .ref 269)]) dL_law_2173 rfl (by rw [ci_6]) (by decide) rfl ?_
    refine r_goto hg 18 dL_law_2176 (by decide) ?_
    refine r_sub hg [1, 2, 3, 0] rfl ?_
    exact hk _ _ (Nat.le_succ _) (Nat.le_add_right _ _) _ _ _ hX k_o1 k_o2 h
  · rw [if_neg c11] at h
    refine r_iconst hg dL_law_722 ci_0 ?_
    exact r_ireturn hr dL_law_723 ⟨Nat.le_of_succ_le hcs.1, Nat.le_trans (Nat.le_add_right _ _) hcs.2⟩ ⟨_, rfl, bz_0.1⟩ (by cases h; rfl)
def b_L_law_724 (L : Nat) (xs : Nat → Int32) (k18 : Int32 → qX → qI → Option (Int32 × qI × qX)) (x3 : Int32) (X : qX) (I : qI) : Option (Int32 × qI × qX) :=
  q_b1 (q_rdO xs L (x3 + (nI 1))) fun v1 =>
  q_b1 (q_rdO xs L (x3 + (nI 2))) fun v3 =>
  q_b1 (q_rdO xs L (x3 + (nI 3))) fun v5 =>
  q_b2 (f_X11_draw 64 v1 v3 v5 I) fun v7 I8 =>
  q_b1 (q_rdO xs L (x3 + (nI 1))) fun v10 =>
  q_b1 (q_rdO xs L (x3 + (nI 2))) fun v12 =>
  q_b1 (q_rdO xs L (x3 + (nI 3))) fun v14 =>
  q_b2 (f_X12_draw 269 v10 v12 v14 I8) fun v16 I17 =>
  if v7 = v16 then
    k18 (x3 + (nI 6)) X I17
  else
    some ((nI 0), I17, X)
set_option maxRecDepth 100000 in
set_option maxHeartbeats 4000000 in
theorem p_L_law_724 {l : Launch} {Γ : qC} {g : qG} {z : Int32 × qI × qX} {L cells slots : Nat} {xs : Nat → Int32} {nm : String} {k18 : Int32 → qX → qI → Option (Int32 × qI × qX)} (hΓ : q_gm Γ) (hg : q_Ok l Γ RL cL_law 4 room_1 nm (some .boolean) g) (hr : q_Rt cL_law (some .boolean) room_1 (some (.int z.1), z.2.1, z.2.2) g) (hS : q_ol Γ 0 = L ∧ q_ov Γ 0 = xs) (hcs : cells + 1 ≤ room_1.cells ∧ slots + 96 ≤ room_1.slots) (hk : ∀ c s, c ≤ cells + 1 → s ≤ slots + 96 → ∀ (x3 : Int32) (X : qX) (I : qI), q_Lay X → q_kd X 64 = some (13, 9) → q_kd X 269 = some (14, 42) → k18 x3 X I = some z → g c s 18 [(0, .ref 0), (1, .ref 64), (2, .ref 269), (3, .int x3)] [] I X) (x3 : Int32) (X : qX) (I : qI) (hX : q_Lay X) (k_o1 : q_kd X 64 = some (13, 9)) (k_o2 : q_kd X 269 = some (14, 42)) (h : b_L_law_724 L xs k18 x3 X I = some z) : g cells slots 724 [(0, .ref 0), (1, .ref 64), (2, .ref 269), (3, .int x3)] [] I X := by
  unfold b_L_law_724 at h
  refine r_aload_n hg 1 dL_law_724 rfl rfl ?_
  refine r_aload_n hg 0 dL_law_725 rfl rfl ?_
  refine r_iload_n hg 3 dL_law_726 rfl rfl ?_
  refine r_iconst hg dL_law_727 ci_1 ?_
  refine r_iadd hg dL_law_728 ?_
  obtain ⟨v1, e2, h⟩ := q_b1_some h
  refine r_ialdC hg dL_law_729 (by decide) hS.1 hS.2 e2 ?_
  refine r_aload_n hg 0 dL_law_730 rfl rfl ?_
  refine r_iload_n hg 3 dL_law_731 rfl rfl ?_
  refine r_iconst hg dL_law_732 ci_2 ?_
  refine r_iadd hg dL_law_733 ?_
  obtain ⟨v3, e4, h⟩ := q_b1_some h
  refine r_ialdC hg dL_law_734 (by decide) hS.1 hS.2 e4 ?_
  refine r_aload_n hg 0 dL_law_735 rfl rfl ?_
  refine r_iload_n hg 3 dL_law_736 rfl rfl ?_
  refine r_iconst hg dL_law_737 ci_3 ?_
  refine r_iadd hg dL_law_738 ?_
  obtain ⟨v5, e6, h⟩ := q_b1_some h
  refine r_ialdC hg dL_law_739 (by decide) hS.1 hS.2 e6 ?_
  obtain ⟨v7, I8, e9, h⟩ := q_b2_some h
  refine r_cV3i hg dL_law_740 mt_X11_draw ml_L_65 mv_X11_draw k_o1 (s_X11_draw hΓ hX k_o1 e9) ⟨Nat.le_of_ble_eq_true rfl, Nat.le_of_ble_eq_true rfl⟩ ⟨Nat.le_of_succ_le hcs.1, Nat.le_trans (Nat.le_add_right _ _) hcs.2⟩ (Nat.le_of_ble_eq_true rfl) ?_
  refine r_aload_n hg 2 dL_law_743 rfl rfl ?_
  refine r_aload_n hg 0 dL_law_744 rfl rfl ?_
  refine r_iload_n hg 3 dL_law_745 rfl rfl ?_
  refine r_iconst hg dL_law_746 ci_1 ?_
  refine r_iadd hg dL_law_747 ?_
  obtain ⟨v10, e11, h⟩ := q_b1_some h
  refine r_ialdC hg dL_law_748 (by decide) hS.1 hS.2 e11 ?_
  refine r_aload_n hg 0 dL_law_749 rfl rfl ?_
  refine r_iload_n hg 3 dL_law_750 rfl rfl ?_
  refine r_iconst hg dL_law_751 ci_2 ?_
  refine r_iadd hg dL_law_752 ?_
  obtain ⟨v12, e13, h⟩ := q_b1_some h
  refine r_ialdC hg dL_law_753 (by decide) hS.1 hS.2 e13 ?_
  refine r_aload_n hg 0 dL_law_754 rfl rfl ?_
  refine r_iload_n hg 3 dL_law_755 rfl rfl ?_
  refine r_iconst hg dL_law_756 ci_3 ?_
  refine r_iadd hg dL_law_757 ?_
  obtain ⟨v14, e15, h⟩ := q_b1_some h
  refine r_ialdC hg dL_law_758 (by decide) hS.1 hS.2 e15 ?_
  obtain ⟨v16, I17, e18, h⟩ := q_b2_some h
  refine r_cV3i hg dL_law_759 mt_X12_draw ml_L_68 mv_X12_draw k_o2 (s_X12_draw hΓ hX k_o2 e18) ⟨Nat.le_of_ble_eq_true rfl, Nat.le_of_ble_eq_true rfl⟩ ⟨Nat.le_of_succ_le hcs.1, Nat.le_trans (Nat.le_add_right _ _) hcs.2⟩ (Nat.le_of_ble_eq_true rfl) ?_
  refine r_icmp_eq hg 2173 dL_law_762 (by decide) (fun c19 => ?_) (fun c19 => ?_)
  · rw [if_pos c19] at h
    refine r_iinc hg 3 (v := (x3 + (nI 6))) (L' := [(3, .int (x3 + (nI 6))), (0, .ref 0), (1, .ref 64), (2, .ref 269)]) dL_law_2173 rfl (by rw [ci_6]) (by decide) rfl ?_
    refine r_goto hg 18 dL_law_2176 (by decide) ?_
    refine r_sub hg [1, 2, 3, 0] rfl ?_
    exact hk _ _ (Nat.le_succ _) (Nat.le_add_right _ _) _ _ _ hX k_o1 k_o2 h
  · rw [if_neg c19] at h
    refine r_iconst hg dL_law_765 ci_0 ?_
    exact r_ireturn hr dL_law_766 ⟨Nat.le_of_succ_le hcs.1, Nat.le_trans (Nat.le_add_right _ _) hcs.2⟩ ⟨_, rfl, bz_0.1⟩ (by cases h; rfl)
def b_L_law_767 (L : Nat) (xs : Nat → Int32) (k18 : Int32 → qX → qI → Option (Int32 × qI × qX)) (x3 : Int32) (X : qX) (I : qI) : Option (Int32 × qI × qX) :=
  q_b1 (q_rdO xs L (x3 + (nI 1))) fun v1 =>
  q_b1 (q_rdO xs L (x3 + (nI 2))) fun v3 =>
  q_b2 (f_X11_strike 64 v1 v3 I) fun v5 I6 =>
  q_b1 (q_rdO xs L (x3 + (nI 1))) fun v8 =>
  q_b1 (q_rdO xs L (x3 + (nI 2))) fun v10 =>
  q_b2 (f_X12_strike 269 v8 v10 I6) fun v12 I13 =>
  if v5 = v12 then
    k18 (x3 + (nI 6)) X I13
  else
    some ((nI 0), I13, X)
set_option maxRecDepth 100000 in
set_option maxHeartbeats 4000000 in
theorem p_L_law_767 {l : Launch} {Γ : qC} {g : qG} {z : Int32 × qI × qX} {L cells slots : Nat} {xs : Nat → Int32} {nm : String} {k18 : Int32 → qX → qI → Option (Int32 × qI × qX)} (hΓ : q_gm Γ) (hg : q_Ok l Γ RL cL_law 4 room_1 nm (some .boolean) g) (hr : q_Rt cL_law (some .boolean) room_1 (some (.int z.1), z.2.1, z.2.2) g) (hS : q_ol Γ 0 = L ∧ q_ov Γ 0 = xs) (hcs : cells + 1 ≤ room_1.cells ∧ slots + 96 ≤ room_1.slots) (hk : ∀ c s, c ≤ cells + 1 → s ≤ slots + 96 → ∀ (x3 : Int32) (X : qX) (I : qI), q_Lay X → q_kd X 64 = some (13, 9) → q_kd X 269 = some (14, 42) → k18 x3 X I = some z → g c s 18 [(0, .ref 0), (1, .ref 64), (2, .ref 269), (3, .int x3)] [] I X) (x3 : Int32) (X : qX) (I : qI) (hX : q_Lay X) (k_o1 : q_kd X 64 = some (13, 9)) (k_o2 : q_kd X 269 = some (14, 42)) (h : b_L_law_767 L xs k18 x3 X I = some z) : g cells slots 767 [(0, .ref 0), (1, .ref 64), (2, .ref 269), (3, .int x3)] [] I X := by
  unfold b_L_law_767 at h
  refine r_aload_n hg 1 dL_law_767 rfl rfl ?_
  refine r_aload_n hg 0 dL_law_768 rfl rfl ?_
  refine r_iload_n hg 3 dL_law_769 rfl rfl ?_
  refine r_iconst hg dL_law_770 ci_1 ?_
  refine r_iadd hg dL_law_771 ?_
  obtain ⟨v1, e2, h⟩ := q_b1_some h
  refine r_ialdC hg dL_law_772 (by decide) hS.1 hS.2 e2 ?_
  refine r_aload_n hg 0 dL_law_773 rfl rfl ?_
  refine r_iload_n hg 3 dL_law_774 rfl rfl ?_
  refine r_iconst hg dL_law_775 ci_2 ?_
  refine r_iadd hg dL_law_776 ?_
  obtain ⟨v3, e4, h⟩ := q_b1_some h
  refine r_ialdC hg dL_law_777 (by decide) hS.1 hS.2 e4 ?_
  obtain ⟨v5, I6, e7, h⟩ := q_b2_some h
  refine r_cV2i hg dL_law_778 mt_X11_strike ml_L_69 mv_X11_strike k_o1 (s_X11_strike hΓ hX k_o1 e7) ⟨Nat.le_of_ble_eq_true rfl, Nat.le_of_ble_eq_true rfl⟩ ⟨Nat.le_of_succ_le hcs.1, Nat.le_trans (Nat.le_add_right _ _) hcs.2⟩ (Nat.le_of_ble_eq_true rfl) ?_
  refine r_aload_n hg 2 dL_law_781 rfl rfl ?_
  refine r_aload_n hg 0 dL_law_782 rfl rfl ?_
  refine r_iload_n hg 3 dL_law_783 rfl rfl ?_
  refine r_iconst hg dL_law_784 ci_1 ?_
  refine r_iadd hg dL_law_785 ?_
  obtain ⟨v8, e9, h⟩ := q_b1_some h
  refine r_ialdC hg dL_law_786 (by decide) hS.1 hS.2 e9 ?_
  refine r_aload_n hg 0 dL_law_787 rfl rfl ?_
  refine r_iload_n hg 3 dL_law_788 rfl rfl ?_
  refine r_iconst hg dL_law_789 ci_2 ?_
  refine r_iadd hg dL_law_790 ?_
  obtain ⟨v10, e11, h⟩ := q_b1_some h
  refine r_ialdC hg dL_law_791 (by decide) hS.1 hS.2 e11 ?_
  obtain ⟨v12, I13, e14, h⟩ := q_b2_some h
  refine r_cV2i hg dL_law_792 mt_X12_strike ml_L_72 mv_X12_strike k_o2 (s_X12_strike hΓ hX k_o2 e14) ⟨Nat.le_of_ble_eq_true rfl, Nat.le_of_ble_eq_true rfl⟩ ⟨Nat.le_of_succ_le hcs.1, Nat.le_trans (Nat.le_add_right _ _) hcs.2⟩ (Nat.le_of_ble_eq_true rfl) ?_
  refine r_icmp_eq hg 2173 dL_law_795 (by decide) (fun c15 => ?_) (fun c15 => ?_)
  · rw [if_pos c15] at h
    refine r_iinc hg 3 (v := (x3 + (nI 6))) (L' := [(3, .int (x3 + (nI 6))), (0, .ref 0), (1, .ref 64), (2, .ref 269)]) dL_law_2173 rfl (by rw [ci_6]) (by decide) rfl ?_
    refine r_goto hg 18 dL_law_2176 (by decide) ?_
    refine r_sub hg [1, 2, 3, 0] rfl ?_
    exact hk _ _ (Nat.le_succ _) (Nat.le_add_right _ _) _ _ _ hX k_o1 k_o2 h
  · rw [if_neg c15] at h
    refine r_iconst hg dL_law_798 ci_0 ?_
    exact r_ireturn hr dL_law_799 ⟨Nat.le_of_succ_le hcs.1, Nat.le_trans (Nat.le_add_right _ _) hcs.2⟩ ⟨_, rfl, bz_0.1⟩ (by cases h; rfl)
def b_L_law_800 (L : Nat) (xs : Nat → Int32) (k18 : Int32 → qX → qI → Option (Int32 × qI × qX)) (x3 : Int32) (X : qX) (I : qI) : Option (Int32 × qI × qX) :=
  q_b1 (q_rdO xs L (x3 + (nI 1))) fun v1 =>
  q_b1 (q_rdO xs L (x3 + (nI 2))) fun v3 =>
  q_b1 (q_rdO xs L (x3 + (nI 3))) fun v5 =>
  q_b2 (f_X11_fine 64 v1 v3 v5 I) fun v7 I8 =>
  q_b1 (q_rdO xs L (x3 + (nI 1))) fun v10 =>
  q_b1 (q_rdO xs L (x3 + (nI 2))) fun v12 =>
  q_b1 (q_rdO xs L (x3 + (nI 3))) fun v14 =>
  q_b2 (f_X12_fine 269 v10 v12 v14 I8) fun v16 I17 =>
  if v7 = v16 then
    k18 (x3 + (nI 6)) X I17
  else
    some ((nI 0), I17, X)
set_option maxRecDepth 100000 in
set_option maxHeartbeats 4000000 in
theorem p_L_law_800 {l : Launch} {Γ : qC} {g : qG} {z : Int32 × qI × qX} {L cells slots : Nat} {xs : Nat → Int32} {nm : String} {k18 : Int32 → qX → qI → Option (Int32 × qI × qX)} (hΓ : q_gm Γ) (hg : q_Ok l Γ RL cL_law 4 room_1 nm (some .boolean) g) (hr : q_Rt cL_law (some .boolean) room_1 (some (.int z.1), z.2.1, z.2.2) g) (hS : q_ol Γ 0 = L ∧ q_ov Γ 0 = xs) (hcs : cells + 1 ≤ room_1.cells ∧ slots + 96 ≤ room_1.slots) (hk : ∀ c s, c ≤ cells + 1 → s ≤ slots + 96 → ∀ (x3 : Int32) (X : qX) (I : qI), q_Lay X → q_kd X 64 = some (13, 9) → q_kd X 269 = some (14, 42) → k18 x3 X I = some z → g c s 18 [(0, .ref 0), (1, .ref 64), (2, .ref 269), (3, .int x3)] [] I X) (x3 : Int32) (X : qX) (I : qI) (hX : q_Lay X) (k_o1 : q_kd X 64 = some (13, 9)) (k_o2 : q_kd X 269 = some (14, 42)) (h : b_L_law_800 L xs k18 x3 X I = some z) : g cells slots 800 [(0, .ref 0), (1, .ref 64), (2, .ref 269), (3, .int x3)] [] I X := by
  unfold b_L_law_800 at h
  refine r_aload_n hg 1 dL_law_800 rfl rfl ?_
  refine r_aload_n hg 0 dL_law_801 rfl rfl ?_
  refine r_iload_n hg 3 dL_law_802 rfl rfl ?_
  refine r_iconst hg dL_law_803 ci_1 ?_
  refine r_iadd hg dL_law_804 ?_
  obtain ⟨v1, e2, h⟩ := q_b1_some h
  refine r_ialdC hg dL_law_805 (by decide) hS.1 hS.2 e2 ?_
  refine r_aload_n hg 0 dL_law_806 rfl rfl ?_
  refine r_iload_n hg 3 dL_law_807 rfl rfl ?_
  refine r_iconst hg dL_law_808 ci_2 ?_
  refine r_iadd hg dL_law_809 ?_
  obtain ⟨v3, e4, h⟩ := q_b1_some h
  refine r_ialdC hg dL_law_810 (by decide) hS.1 hS.2 e4 ?_
  refine r_aload_n hg 0 dL_law_811 rfl rfl ?_
  refine r_iload_n hg 3 dL_law_812 rfl rfl ?_
  refine r_iconst hg dL_law_813 ci_3 ?_
  refine r_iadd hg dL_law_814 ?_
  obtain ⟨v5, e6, h⟩ := q_b1_some h
  refine r_ialdC hg dL_law_815 (by decide) hS.1 hS.2 e6 ?_
  obtain ⟨v7, I8, e9, h⟩ := q_b2_some h
  refine r_cV3i hg dL_law_816 mt_X11_fine ml_L_73 mv_X11_fine k_o1 (s_X11_fine hΓ hX k_o1 e9) ⟨Nat.le_of_ble_eq_true rfl, Nat.le_of_ble_eq_true rfl⟩ ⟨Nat.le_of_succ_le hcs.1, Nat.le_trans (Nat.le_add_right _ _) hcs.2⟩ (Nat.le_of_ble_eq_true rfl) ?_
  refine r_aload_n hg 2 dL_law_819 rfl rfl ?_
  refine r_aload_n hg 0 dL_law_820 rfl rfl ?_
  refine r_iload_n hg 3 dL_law_821 rfl rfl ?_
  refine r_iconst hg dL_law_822 ci_1 ?_
  refine r_iadd hg dL_law_823 ?_
  obtain ⟨v10, e11, h⟩ := q_b1_some h
  refine r_ialdC hg dL_law_824 (by decide) hS.1 hS.2 e11 ?_
  refine r_aload_n hg 0 dL_law_825 rfl rfl ?_
  refine r_iload_n hg 3 dL_law_826 rfl rfl ?_
  refine r_iconst hg dL_law_827 ci_2 ?_
  refine r_iadd hg dL_law_828 ?_
  obtain ⟨v12, e13, h⟩ := q_b1_some h
  refine r_ialdC hg dL_law_829 (by decide) hS.1 hS.2 e13 ?_
  refine r_aload_n hg 0 dL_law_830 rfl rfl ?_
  refine r_iload_n hg 3 dL_law_831 rfl rfl ?_
  refine r_iconst hg dL_law_832 ci_3 ?_
  refine r_iadd hg dL_law_833 ?_
  obtain ⟨v14, e15, h⟩ := q_b1_some h
  refine r_ialdC hg dL_law_834 (by decide) hS.1 hS.2 e15 ?_
  obtain ⟨v16, I17, e18, h⟩ := q_b2_some h
  refine r_cV3i hg dL_law_835 mt_X12_fine ml_L_76 mv_X12_fine k_o2 (s_X12_fine hΓ hX k_o2 e18) ⟨Nat.le_of_ble_eq_true rfl, Nat.le_of_ble_eq_true rfl⟩ ⟨Nat.le_of_succ_le hcs.1, Nat.le_trans (Nat.le_add_right _ _) hcs.2⟩ (Nat.le_of_ble_eq_true rfl) ?_
  refine r_icmp_eq hg 2173 dL_law_838 (by decide) (fun c19 => ?_) (fun c19 => ?_)
  · rw [if_pos c19] at h
    refine r_iinc hg 3 (v := (x3 + (nI 6))) (L' := [(3, .int (x3 + (nI 6))), (0, .ref 0), (1, .ref 64), (2, .ref 269)]) dL_law_2173 rfl (by rw [ci_6]) (by decide) rfl ?_
    refine r_goto hg 18 dL_law_2176 (by decide) ?_
    refine r_sub hg [1, 2, 3, 0] rfl ?_
    exact hk _ _ (Nat.le_succ _) (Nat.le_add_right _ _) _ _ _ hX k_o1 k_o2 h
  · rw [if_neg c19] at h
    refine r_iconst hg dL_law_841 ci_0 ?_
    exact r_ireturn hr dL_law_842 ⟨Nat.le_of_succ_le hcs.1, Nat.le_trans (Nat.le_add_right _ _) hcs.2⟩ ⟨_, rfl, bz_0.1⟩ (by cases h; rfl)
def b_L_law_843 (L : Nat) (xs : Nat → Int32) (k18 : Int32 → qX → qI → Option (Int32 × qI × qX)) (x3 : Int32) (X : qX) (I : qI) : Option (Int32 × qI × qX) :=
  q_b1 (q_rdO xs L (x3 + (nI 1))) fun v1 =>
  q_b1 (q_rdO xs L (x3 + (nI 2))) fun v3 =>
  q_b1 (q_rdO xs L (x3 + (nI 3))) fun v5 =>
  q_b2 (f_X11_stop 64 v1 v3 v5 I) fun v7 I8 =>
  q_b1 (q_rdO xs L (x3 + (nI 1))) fun v10 =>
  q_b1 (q_rdO xs L (x3 + (nI 2))) fun v12 =>
  q_b1 (q_rdO xs L (x3 + (nI 3))) fun v14 =>
  q_b2 (f_X12_stop 269 v10 v12 v14 I8) fun v16 I17 =>
  if v7 = v16 then
    k18 (x3 + (nI 6)) X I17
  else
    some ((nI 0), I17, X)
set_option maxRecDepth 100000 in
set_option maxHeartbeats 4000000 in
theorem p_L_law_843 {l : Launch} {Γ : qC} {g : qG} {z : Int32 × qI × qX} {L cells slots : Nat} {xs : Nat → Int32} {nm : String} {k18 : Int32 → qX → qI → Option (Int32 × qI × qX)} (hΓ : q_gm Γ) (hg : q_Ok l Γ RL cL_law 4 room_1 nm (some .boolean) g) (hr : q_Rt cL_law (some .boolean) room_1 (some (.int z.1), z.2.1, z.2.2) g) (hS : q_ol Γ 0 = L ∧ q_ov Γ 0 = xs) (hcs : cells + 1 ≤ room_1.cells ∧ slots + 96 ≤ room_1.slots) (hk : ∀ c s, c ≤ cells + 1 → s ≤ slots + 96 → ∀ (x3 : Int32) (X : qX) (I : qI), q_Lay X → q_kd X 64 = some (13, 9) → q_kd X 269 = some (14, 42) → k18 x3 X I = some z → g c s 18 [(0, .ref 0), (1, .ref 64), (2, .ref 269), (3, .int x3)] [] I X) (x3 : Int32) (X : qX) (I : qI) (hX : q_Lay X) (k_o1 : q_kd X 64 = some (13, 9)) (k_o2 : q_kd X 269 = some (14, 42)) (h : b_L_law_843 L xs k18 x3 X I = some z) : g cells slots 843 [(0, .ref 0), (1, .ref 64), (2, .ref 269), (3, .int x3)] [] I X := by
  unfold b_L_law_843 at h
  refine r_aload_n hg 1 dL_law_843 rfl rfl ?_
  refine r_aload_n hg 0 dL_law_844 rfl rfl ?_
  refine r_iload_n hg 3 dL_law_845 rfl rfl ?_
  refine r_iconst hg dL_law_846 ci_1 ?_
  refine r_iadd hg dL_law_847 ?_
  obtain ⟨v1, e2, h⟩ := q_b1_some h
  refine r_ialdC hg dL_law_848 (by decide) hS.1 hS.2 e2 ?_
  refine r_aload_n hg 0 dL_law_849 rfl rfl ?_
  refine r_iload_n hg 3 dL_law_850 rfl rfl ?_
  refine r_iconst hg dL_law_851 ci_2 ?_
  refine r_iadd hg dL_law_852 ?_
  obtain ⟨v3, e4, h⟩ := q_b1_some h
  refine r_ialdC hg dL_law_853 (by decide) hS.1 hS.2 e4 ?_
  refine r_aload_n hg 0 dL_law_854 rfl rfl ?_
  refine r_iload_n hg 3 dL_law_855 rfl rfl ?_
  refine r_iconst hg dL_law_856 ci_3 ?_
  refine r_iadd hg dL_law_857 ?_
  obtain ⟨v5, e6, h⟩ := q_b1_some h
  refine r_ialdC hg dL_law_858 (by decide) hS.1 hS.2 e6 ?_
  obtain ⟨v7, I8, e9, h⟩ := q_b2_some h
  refine r_cV3i hg dL_law_859 mt_X11_stop ml_L_77 mv_X11_stop k_o1 (s_X11_stop hΓ hX k_o1 e9) ⟨Nat.le_of_ble_eq_true rfl, Nat.le_of_ble_eq_true rfl⟩ ⟨Nat.le_of_succ_le hcs.1, Nat.le_trans (Nat.le_add_right _ _) hcs.2⟩ (Nat.le_of_ble_eq_true rfl) ?_
  refine r_aload_n hg 2 dL_law_862 rfl rfl ?_
  refine r_aload_n hg 0 dL_law_863 rfl rfl ?_
  refine r_iload_n hg 3 dL_law_864 rfl rfl ?_
  refine r_iconst hg dL_law_865 ci_1 ?_
  refine r_iadd hg dL_law_866 ?_
  obtain ⟨v10, e11, h⟩ := q_b1_some h
  refine r_ialdC hg dL_law_867 (by decide) hS.1 hS.2 e11 ?_
  refine r_aload_n hg 0 dL_law_868 rfl rfl ?_
  refine r_iload_n hg 3 dL_law_869 rfl rfl ?_
  refine r_iconst hg dL_law_870 ci_2 ?_
  refine r_iadd hg dL_law_871 ?_
  obtain ⟨v12, e13, h⟩ := q_b1_some h
  refine r_ialdC hg dL_law_872 (by decide) hS.1 hS.2 e13 ?_
  refine r_aload_n hg 0 dL_law_873 rfl rfl ?_
  refine r_iload_n hg 3 dL_law_874 rfl rfl ?_
  refine r_iconst hg dL_law_875 ci_3 ?_
  refine r_iadd hg dL_law_876 ?_
  obtain ⟨v14, e15, h⟩ := q_b1_some h
  refine r_ialdC hg dL_law_877 (by decide) hS.1 hS.2 e15 ?_
  obtain ⟨v16, I17, e18, h⟩ := q_b2_some h
  refine r_cV3i hg dL_law_878 mt_X12_stop ml_L_80 mv_X12_stop k_o2 (s_X12_stop hΓ hX k_o2 e18) ⟨Nat.le_of_ble_eq_true rfl, Nat.le_of_ble_eq_true rfl⟩ ⟨Nat.le_of_succ_le hcs.1, Nat.le_trans (Nat.le_add_right _ _) hcs.2⟩ (Nat.le_of_ble_eq_true rfl) ?_
  refine r_icmp_eq hg 2173 dL_law_881 (by decide) (fun c19 => ?_) (fun c19 => ?_)
  · rw [if_pos c19] at h
    refine r_iinc hg 3 (v := (x3 + (nI 6))) (L' := [(3, .int (x3 + (nI 6))), (0, .ref 0), (1, .ref 64), (2, .ref 269)]) dL_law_2173 rfl (by rw [ci_6]) (by decide) rfl ?_
    refine r_goto hg 18 dL_law_2176 (by decide) ?_
    refine r_sub hg [1, 2, 3, 0] rfl ?_
    exact hk _ _ (Nat.le_succ _) (Nat.le_add_right _ _) _ _ _ hX k_o1 k_o2 h
  · rw [if_neg c19] at h
    refine r_iconst hg dL_law_884 ci_0 ?_
    exact r_ireturn hr dL_law_885 ⟨Nat.le_of_succ_le hcs.1, Nat.le_trans (Nat.le_add_right _ _) hcs.2⟩ ⟨_, rfl, bz_0.1⟩ (by cases h; rfl)
def b_L_law_886 (L : Nat) (xs : Nat → Int32) (k18 : Int32 → qX → qI → Option (Int32 × qI × qX)) (x3 : Int32) (X : qX) (I : qI) : Option (Int32 × qI × qX) :=
  q_b1 (q_rdO xs L (x3 + (nI 1))) fun v1 =>
  q_b2 (f_X11_let 64 v1 I) fun v3 I4 =>
  q_b1 (q_rdO xs L (x3 + (nI 1))) fun v6 =>
  q_b2 (f_X12_let 269 v6 I4) fun v8 I9 =>
  if v3 = v8 then
    k18 (x3 + (nI 6)) X I9
  else
    some ((nI 0), I9, X)
set_option maxRecDepth 100000 in
set_option maxHeartbeats 4000000 in
theorem p_L_law_886 {l : Launch} {Γ : qC} {g : qG} {z : Int32 × qI × qX} {L cells slots : Nat} {xs : Nat → Int32} {nm : String} {k18 : Int32 → qX → qI → Option (Int32 × qI × qX)} (hΓ : q_gm Γ) (hg : q_Ok l Γ RL cL_law 4 room_1 nm (some .boolean) g) (hr : q_Rt cL_law (some .boolean) room_1 (some (.int z.1), z.2.1, z.2.2) g) (hS : q_ol Γ 0 = L ∧ q_ov Γ 0 = xs) (hcs : cells + 1 ≤ room_1.cells ∧ slots + 96 ≤ room_1.slots) (hk : ∀ c s, c ≤ cells + 1 → s ≤ slots + 96 → ∀ (x3 : Int32) (X : qX) (I : qI), q_Lay X → q_kd X 64 = some (13, 9) → q_kd X 269 = some (14, 42) → k18 x3 X I = some z → g c s 18 [(0, .ref 0), (1, .ref 64), (2, .ref 269), (3, .int x3)] [] I X) (x3 : Int32) (X : qX) (I : qI) (hX : q_Lay X) (k_o1 : q_kd X 64 = some (13, 9)) (k_o2 : q_kd X 269 = some (14, 42)) (h : b_L_law_886 L xs k18 x3 X I = some z) : g cells slots 886 [(0, .ref 0), (1, .ref 64), (2, .ref 269), (3, .int x3)] [] I X := by
  unfold b_L_law_886 at h
  refine r_aload_n hg 1 dL_law_886 rfl rfl ?_
  refine r_aload_n hg 0 dL_law_887 rfl rfl ?_
  refine r_iload_n hg 3 dL_law_888 rfl rfl ?_
  refine r_iconst hg dL_law_889 ci_1 ?_
  refine r_iadd hg dL_law_890 ?_
  obtain ⟨v1, e2, h⟩ := q_b1_some h
  refine r_ialdC hg dL_law_891 (by decide) hS.1 hS.2 e2 ?_
  obtain ⟨v3, I4, e5, h⟩ := q_b2_some h
  refine r_cV1i hg dL_law_892 mt_X11_let ml_L_81 mv_X11_let k_o1 (s_X11_let hΓ hX k_o1 e5) ⟨Nat.le_of_ble_eq_true rfl, Nat.le_of_ble_eq_true rfl⟩ ⟨Nat.le_of_succ_le hcs.1, Nat.le_trans (Nat.le_add_right _ _) hcs.2⟩ (Nat.le_of_ble_eq_true rfl) ?_
  refine r_aload_n hg 2 dL_law_895 rfl rfl ?_
  refine r_aload_n hg 0 dL_law_896 rfl rfl ?_
  refine r_iload_n hg 3 dL_law_897 rfl rfl ?_
  refine r_iconst hg dL_law_898 ci_1 ?_
  refine r_iadd hg dL_law_899 ?_
  obtain ⟨v6, e7, h⟩ := q_b1_some h
  refine r_ialdC hg dL_law_900 (by decide) hS.1 hS.2 e7 ?_
  obtain ⟨v8, I9, e10, h⟩ := q_b2_some h
  refine r_cV1i hg dL_law_901 mt_X12_let ml_L_84 mv_X12_let k_o2 (s_X12_let hΓ hX k_o2 e10) ⟨Nat.le_of_ble_eq_true rfl, Nat.le_of_ble_eq_true rfl⟩ ⟨Nat.le_of_succ_le hcs.1, Nat.le_trans (Nat.le_add_right _ _) hcs.2⟩ (Nat.le_of_ble_eq_true rfl) ?_
  refine r_icmp_eq hg 2173 dL_law_904 (by decide) (fun c11 => ?_) (fun c11 => ?_)
  · rw [if_pos c11] at h
    refine r_iinc hg 3 (v := (x3 + (nI 6))) (L' := [(3, .int (x3 + (nI 6))), (0, .ref 0), (1, .ref 64), (2, .ref 269)]) dL_law_2173 rfl (by rw [ci_6]) (by decide) rfl ?_
    refine r_goto hg 18 dL_law_2176 (by decide) ?_
    refine r_sub hg [1, 2, 3, 0] rfl ?_
    exact hk _ _ (Nat.le_succ _) (Nat.le_add_right _ _) _ _ _ hX k_o1 k_o2 h
  · rw [if_neg c11] at h
    refine r_iconst hg dL_law_907 ci_0 ?_
    exact r_ireturn hr dL_law_908 ⟨Nat.le_of_succ_le hcs.1, Nat.le_trans (Nat.le_add_right _ _) hcs.2⟩ ⟨_, rfl, bz_0.1⟩ (by cases h; rfl)
def b_L_law_909 (L : Nat) (xs : Nat → Int32) (k18 : Int32 → qX → qI → Option (Int32 × qI × qX)) (x3 : Int32) (X : qX) (I : qI) : Option (Int32 × qI × qX) :=
  q_b1 (q_rdO xs L (x3 + (nI 1))) fun v1 =>
  q_b1 (q_rdO xs L (x3 + (nI 2))) fun v3 =>
  q_b1 (q_rdO xs L (x3 + (nI 3))) fun v5 =>
  q_b2 (f_X11_sell 64 v1 v3 v5 I) fun v7 I8 =>
  q_b1 (q_rdO xs L (x3 + (nI 1))) fun v10 =>
  q_b1 (q_rdO xs L (x3 + (nI 2))) fun v12 =>
  q_b1 (q_rdO xs L (x3 + (nI 3))) fun v14 =>
  q_b2 (f_X12_sell 269 v10 v12 v14 I8) fun v16 I17 =>
  if v7 = v16 then
    k18 (x3 + (nI 6)) X I17
  else
    some ((nI 0), I17, X)
set_option maxRecDepth 100000 in
set_option maxHeartbeats 4000000 in
theorem p_L_law_909 {l : Launch} {Γ : qC} {g : qG} {z : Int32 × qI × qX} {L cells slots : Nat} {xs : Nat → Int32} {nm : String} {k18 : Int32 → qX → qI → Option (Int32 × qI × qX)} (hΓ : q_gm Γ) (hg : q_Ok l Γ RL cL_law 4 room_1 nm (some .boolean) g) (hr : q_Rt cL_law (some .boolean) room_1 (some (.int z.1), z.2.1, z.2.2) g) (hS : q_ol Γ 0 = L ∧ q_ov Γ 0 = xs) (hcs : cells + 1 ≤ room_1.cells ∧ slots + 96 ≤ room_1.slots) (hk : ∀ c s, c ≤ cells + 1 → s ≤ slots + 96 → ∀ (x3 : Int32) (X : qX) (I : qI), q_Lay X → q_kd X 64 = some (13, 9) → q_kd X 269 = some (14, 42) → k18 x3 X I = some z → g c s 18 [(0, .ref 0), (1, .ref 64), (2, .ref 269), (3, .int x3)] [] I X) (x3 : Int32) (X : qX) (I : qI) (hX : q_Lay X) (k_o1 : q_kd X 64 = some (13, 9)) (k_o2 : q_kd X 269 = some (14, 42)) (h : b_L_law_909 L xs k18 x3 X I = some z) : g cells slots 909 [(0, .ref 0), (1, .ref 64), (2, .ref 269), (3, .int x3)] [] I X := by
  unfold b_L_law_909 at h
  refine r_aload_n hg 1 dL_law_909 rfl rfl ?_
  refine r_aload_n hg 0 dL_law_910 rfl rfl ?_
  refine r_iload_n hg 3 dL_law_911 rfl rfl ?_
  refine r_iconst hg dL_law_912 ci_1 ?_
  refine r_iadd hg dL_law_913 ?_
  obtain ⟨v1, e2, h⟩ := q_b1_some h
  refine r_ialdC hg dL_law_914 (by decide) hS.1 hS.2 e2 ?_
  refine r_aload_n hg 0 dL_law_915 rfl rfl ?_
  refine r_iload_n hg 3 dL_law_916 rfl rfl ?_
  refine r_iconst hg dL_law_917 ci_2 ?_
  refine r_iadd hg dL_law_918 ?_
  obtain ⟨v3, e4, h⟩ := q_b1_some h
  refine r_ialdC hg dL_law_919 (by decide) hS.1 hS.2 e4 ?_
  refine r_aload_n hg 0 dL_law_920 rfl rfl ?_
  refine r_iload_n hg 3 dL_law_921 rfl rfl ?_
  refine r_iconst hg dL_law_922 ci_3 ?_
  refine r_iadd hg dL_law_923 ?_
  obtain ⟨v5, e6, h⟩ := q_b1_some h
  refine r_ialdC hg dL_law_924 (by decide) hS.1 hS.2 e6 ?_
  obtain ⟨v7, I8, e9, h⟩ := q_b2_some h
  refine r_cV3i hg dL_law_925 mt_X11_sell ml_L_85 mv_X11_sell k_o1 (s_X11_sell hΓ hX k_o1 e9) ⟨Nat.le_of_ble_eq_true rfl, Nat.le_of_ble_eq_true rfl⟩ ⟨Nat.le_of_succ_le hcs.1, Nat.le_trans (Nat.le_add_right _ _) hcs.2⟩ (Nat.le_of_ble_eq_true rfl) ?_
  refine r_aload_n hg 2 dL_law_928 rfl rfl ?_
  refine r_aload_n hg 0 dL_law_929 rfl rfl ?_
  refine r_iload_n hg 3 dL_law_930 rfl rfl ?_
  refine r_iconst hg dL_law_931 ci_1 ?_
  refine r_iadd hg dL_law_932 ?_
  obtain ⟨v10, e11, h⟩ := q_b1_some h
  refine r_ialdC hg dL_law_933 (by decide) hS.1 hS.2 e11 ?_
  refine r_aload_n hg 0 dL_law_934 rfl rfl ?_
  refine r_iload_n hg 3 dL_law_935 rfl rfl ?_
  refine r_iconst hg dL_law_936 ci_2 ?_
  refine r_iadd hg dL_law_937 ?_
  obtain ⟨v12, e13, h⟩ := q_b1_some h
  refine r_ialdC hg dL_law_938 (by decide) hS.1 hS.2 e13 ?_
  refine r_aload_n hg 0 dL_law_939 rfl rfl ?_
  refine r_iload_n hg 3 dL_law_940 rfl rfl ?_
  refine r_iconst hg dL_law_941 ci_3 ?_
  refine r_iadd hg dL_law_942 ?_
  obtain ⟨v14, e15, h⟩ := q_b1_some h
  refine r_ialdC hg dL_law_943 (by decide) hS.1 hS.2 e15 ?_
  obtain ⟨v16, I17, e18, h⟩ := q_b2_some h
  refine r_cV3i hg dL_law_944 mt_X12_sell ml_L_88 mv_X12_sell k_o2 (s_X12_sell hΓ hX k_o2 e18) ⟨Nat.le_of_ble_eq_true rfl, Nat.le_of_ble_eq_true rfl⟩ ⟨Nat.le_of_succ_le hcs.1, Nat.le_trans (Nat.le_add_right _ _) hcs.2⟩ (Nat.le_of_ble_eq_true rfl) ?_
  refine r_icmp_eq hg 2173 dL_law_947 (by decide) (fun c19 => ?_) (fun c19 => ?_)
  · rw [if_pos c19] at h
    refine r_iinc hg 3 (v := (x3 + (nI 6))) (L' := [(3, .int (x3 + (nI 6))), (0, .ref 0), (1, .ref 64), (2, .ref 269)]) dL_law_2173 rfl (by rw [ci_6]) (by decide) rfl ?_
    refine r_goto hg 18 dL_law_2176 (by decide) ?_
    refine r_sub hg [1, 2, 3, 0] rfl ?_
    exact hk _ _ (Nat.le_succ _) (Nat.le_add_right _ _) _ _ _ hX k_o1 k_o2 h
  · rw [if_neg c19] at h
    refine r_iconst hg dL_law_950 ci_0 ?_
    exact r_ireturn hr dL_law_951 ⟨Nat.le_of_succ_le hcs.1, Nat.le_trans (Nat.le_add_right _ _) hcs.2⟩ ⟨_, rfl, bz_0.1⟩ (by cases h; rfl)
def b_L_law_952 (L : Nat) (xs : Nat → Int32) (k18 : Int32 → qX → qI → Option (Int32 × qI × qX)) (x3 : Int32) (X : qX) (I : qI) : Option (Int32 × qI × qX) :=
  q_b1 (q_rdO xs L (x3 + (nI 1))) fun v1 =>
  q_b2 (f_X11_melt 64 v1 I) fun v3 I4 =>
  q_b1 (q_rdO xs L (x3 + (nI 1))) fun v6 =>
  q_b2 (f_X12_melt 269 v6 I4) fun v8 I9 =>
  if v3 = v8 then
    k18 (x3 + (nI 6)) X I9
  else
    some ((nI 0), I9, X)
set_option maxRecDepth 100000 in
set_option maxHeartbeats 4000000 in
theorem p_L_law_952 {l : Launch} {Γ : qC} {g : qG} {z : Int32 × qI × qX} {L cells slots : Nat} {xs : Nat → Int32} {nm : String} {k18 : Int32 → qX → qI → Option (Int32 × qI × qX)} (hΓ : q_gm Γ) (hg : q_Ok l Γ RL cL_law 4 room_1 nm (some .boolean) g) (hr : q_Rt cL_law (some .boolean) room_1 (some (.int z.1), z.2.1, z.2.2) g) (hS : q_ol Γ 0 = L ∧ q_ov Γ 0 = xs) (hcs : cells + 1 ≤ room_1.cells ∧ slots + 96 ≤ room_1.slots) (hk : ∀ c s, c ≤ cells + 1 → s ≤ slots + 96 → ∀ (x3 : Int32) (X : qX) (I : qI), q_Lay X → q_kd X 64 = some (13, 9) → q_kd X 269 = some (14, 42) → k18 x3 X I = some z → g c s 18 [(0, .ref 0), (1, .ref 64), (2, .ref 269), (3, .int x3)] [] I X) (x3 : Int32) (X : qX) (I : qI) (hX : q_Lay X) (k_o1 : q_kd X 64 = some (13, 9)) (k_o2 : q_kd X 269 = some (14, 42)) (h : b_L_law_952 L xs k18 x3 X I = some z) : g cells slots 952 [(0, .ref 0), (1, .ref 64), (2, .ref 269), (3, .int x3)] [] I X := by
  unfold b_L_law_952 at h
  refine r_aload_n hg 1 dL_law_952 rfl rfl ?_
  refine r_aload_n hg 0 dL_law_953 rfl rfl ?_
  refine r_iload_n hg 3 dL_law_954 rfl rfl ?_
  refine r_iconst hg dL_law_955 ci_1 ?_
  refine r_iadd hg dL_law_956 ?_
  obtain ⟨v1, e2, h⟩ := q_b1_some h
  refine r_ialdC hg dL_law_957 (by decide) hS.1 hS.2 e2 ?_
  obtain ⟨v3, I4, e5, h⟩ := q_b2_some h
  refine r_cV1i hg dL_law_958 mt_X11_melt ml_L_89 mv_X11_melt k_o1 (s_X11_melt hΓ hX k_o1 e5) ⟨Nat.le_of_ble_eq_true rfl, Nat.le_of_ble_eq_true rfl⟩ ⟨Nat.le_of_succ_le hcs.1, Nat.le_trans (Nat.le_add_right _ _) hcs.2⟩ (Nat.le_of_ble_eq_true rfl) ?_
  refine r_aload_n hg 2 dL_law_961 rfl rfl ?_
  refine r_aload_n hg 0 dL_law_962 rfl rfl ?_
  refine r_iload_n hg 3 dL_law_963 rfl rfl ?_
  refine r_iconst hg dL_law_964 ci_1 ?_
  refine r_iadd hg dL_law_965 ?_
  obtain ⟨v6, e7, h⟩ := q_b1_some h
  refine r_ialdC hg dL_law_966 (by decide) hS.1 hS.2 e7 ?_
  obtain ⟨v8, I9, e10, h⟩ := q_b2_some h
  refine r_cV1i hg dL_law_967 mt_X12_melt ml_L_92 mv_X12_melt k_o2 (s_X12_melt hΓ hX k_o2 e10) ⟨Nat.le_of_ble_eq_true rfl, Nat.le_of_ble_eq_true rfl⟩ ⟨Nat.le_of_succ_le hcs.1, Nat.le_trans (Nat.le_add_right _ _) hcs.2⟩ (Nat.le_of_ble_eq_true rfl) ?_
  refine r_icmp_eq hg 2173 dL_law_970 (by decide) (fun c11 => ?_) (fun c11 => ?_)
  · rw [if_pos c11] at h
    refine r_iinc hg 3 (v := (x3 + (nI 6))) (L' := [(3, .int (x3 + (nI 6))), (0, .ref 0), (1, .ref 64), (2, .ref 269)]) dL_law_2173 rfl (by rw [ci_6]) (by decide) rfl ?_
    refine r_goto hg 18 dL_law_2176 (by decide) ?_
    refine r_sub hg [1, 2, 3, 0] rfl ?_
    exact hk _ _ (Nat.le_succ _) (Nat.le_add_right _ _) _ _ _ hX k_o1 k_o2 h
  · rw [if_neg c11] at h
    refine r_iconst hg dL_law_973 ci_0 ?_
    exact r_ireturn hr dL_law_974 ⟨Nat.le_of_succ_le hcs.1, Nat.le_trans (Nat.le_add_right _ _) hcs.2⟩ ⟨_, rfl, bz_0.1⟩ (by cases h; rfl)
def b_L_law_975 (L : Nat) (xs : Nat → Int32) (k18 : Int32 → qX → qI → Option (Int32 × qI × qX)) (x3 : Int32) (X : qX) (I : qI) : Option (Int32 × qI × qX) :=
  q_b1 (q_rdO xs L (x3 + (nI 1))) fun v1 =>
  q_b1 (q_rdO xs L (x3 + (nI 2))) fun v3 =>
  q_b1 (f_X11_told 64 v1 v3 X I) fun v5 =>
  q_b1 (q_rdO xs L (x3 + (nI 1))) fun v7 =>
  q_b1 (q_rdO xs L (x3 + (nI 2))) fun v9 =>
  q_b1 (f_X12_told 269 v7 v9 I) fun v11 =>
  if v5 = v11 then
    k18 (x3 + (nI 6)) X I
  else
    some ((nI 0), I, X)
set_option maxRecDepth 100000 in
set_option maxHeartbeats 4000000 in
theorem p_L_law_975 {l : Launch} {Γ : qC} {g : qG} {z : Int32 × qI × qX} {L cells slots : Nat} {xs : Nat → Int32} {nm : String} {k18 : Int32 → qX → qI → Option (Int32 × qI × qX)} (hΓ : q_gm Γ) (hg : q_Ok l Γ RL cL_law 4 room_1 nm (some .boolean) g) (hr : q_Rt cL_law (some .boolean) room_1 (some (.int z.1), z.2.1, z.2.2) g) (hS : q_ol Γ 0 = L ∧ q_ov Γ 0 = xs) (hcs : cells + 1 ≤ room_1.cells ∧ slots + 96 ≤ room_1.slots) (hk : ∀ c s, c ≤ cells + 1 → s ≤ slots + 96 → ∀ (x3 : Int32) (X : qX) (I : qI), q_Lay X → q_kd X 64 = some (13, 9) → q_kd X 269 = some (14, 42) → k18 x3 X I = some z → g c s 18 [(0, .ref 0), (1, .ref 64), (2, .ref 269), (3, .int x3)] [] I X) (x3 : Int32) (X : qX) (I : qI) (hX : q_Lay X) (k_o1 : q_kd X 64 = some (13, 9)) (k_o2 : q_kd X 269 = some (14, 42)) (h : b_L_law_975 L xs k18 x3 X I = some z) : g cells slots 975 [(0, .ref 0), (1, .ref 64), (2, .ref 269), (3, .int x3)] [] I X := by
  unfold b_L_law_975 at h
  refine r_aload_n hg 1 dL_law_975 rfl rfl ?_
  refine r_aload_n hg 0 dL_law_976 rfl rfl ?_
  refine r_iload_n hg 3 dL_law_977 rfl rfl ?_
  refine r_iconst hg dL_law_978 ci_1 ?_
  refine r_iadd hg dL_law_979 ?_
  obtain ⟨v1, e2, h⟩ := q_b1_some h
  refine r_ialdC hg dL_law_980 (by decide) hS.1 hS.2 e2 ?_
  refine r_aload_n hg 0 dL_law_981 rfl rfl ?_
  refine r_iload_n hg 3 dL_law_982 rfl rfl ?_
  refine r_iconst hg dL_law_983 ci_2 ?_
  refine r_iadd hg dL_law_984 ?_
  obtain ⟨v3, e4, h⟩ := q_b1_some h
  refine r_ialdC hg dL_law_985 (by decide) hS.1 hS.2 e4 ?_
  obtain ⟨v5, e6, h⟩ := q_b1_some h
  refine r_cV2i hg dL_law_986 mt_X11_told ml_L_93 mv_X11_told k_o1 (s_X11_told hΓ hX k_o1 e6) ⟨Nat.le_of_ble_eq_true rfl, Nat.le_of_ble_eq_true rfl⟩ ⟨Nat.le_of_succ_le hcs.1, Nat.le_trans (Nat.le_add_right _ _) hcs.2⟩ (Nat.le_of_ble_eq_true rfl) ?_
  refine r_aload_n hg 2 dL_law_989 rfl rfl ?_
  refine r_aload_n hg 0 dL_law_990 rfl rfl ?_
  refine r_iload_n hg 3 dL_law_991 rfl rfl ?_
  refine r_iconst hg dL_law_992 ci_1 ?_
  refine r_iadd hg dL_law_993 ?_
  obtain ⟨v7, e8, h⟩ := q_b1_some h
  refine r_ialdC hg dL_law_994 (by decide) hS.1 hS.2 e8 ?_
  refine r_aload_n hg 0 dL_law_995 rfl rfl ?_
  refine r_iload_n hg 3 dL_law_996 rfl rfl ?_
  refine r_iconst hg dL_law_997 ci_2 ?_
  refine r_iadd hg dL_law_998 ?_
  obtain ⟨v9, e10, h⟩ := q_b1_some h
  refine r_ialdC hg dL_law_999 (by decide) hS.1 hS.2 e10 ?_
  obtain ⟨v11, e12, h⟩ := q_b1_some h
  refine r_cV2i hg dL_law_1000 mt_X12_told ml_L_96 mv_X12_told k_o2 (s_X12_told hΓ hX k_o2 e12) ⟨Nat.le_of_ble_eq_true rfl, Nat.le_of_ble_eq_true rfl⟩ ⟨Nat.le_of_succ_le hcs.1, Nat.le_trans (Nat.le_add_right _ _) hcs.2⟩ (Nat.le_of_ble_eq_true rfl) ?_
  refine r_icmp_eq hg 2173 dL_law_1003 (by decide) (fun c13 => ?_) (fun c13 => ?_)
  · rw [if_pos c13] at h
    refine r_iinc hg 3 (v := (x3 + (nI 6))) (L' := [(3, .int (x3 + (nI 6))), (0, .ref 0), (1, .ref 64), (2, .ref 269)]) dL_law_2173 rfl (by rw [ci_6]) (by decide) rfl ?_
    refine r_goto hg 18 dL_law_2176 (by decide) ?_
    refine r_sub hg [1, 2, 3, 0] rfl ?_
    exact hk _ _ (Nat.le_succ _) (Nat.le_add_right _ _) _ _ _ hX k_o1 k_o2 h
  · rw [if_neg c13] at h
    refine r_iconst hg dL_law_1006 ci_0 ?_
    exact r_ireturn hr dL_law_1007 ⟨Nat.le_of_succ_le hcs.1, Nat.le_trans (Nat.le_add_right _ _) hcs.2⟩ ⟨_, rfl, bz_0.1⟩ (by cases h; rfl)
def b_L_law_1008 (L : Nat) (xs : Nat → Int32) (k18 : Int32 → qX → qI → Option (Int32 × qI × qX)) (x3 : Int32) (X : qX) (I : qI) : Option (Int32 × qI × qX) :=
  q_b1 (q_rdO xs L (x3 + (nI 1))) fun v1 =>
  q_b1 (q_rdO xs L (x3 + (nI 2))) fun v3 =>
  q_b1 (f_X11_as 64 v1 v3 I) fun v5 =>
  q_b1 (q_rdO xs L (x3 + (nI 1))) fun v7 =>
  q_b1 (q_rdO xs L (x3 + (nI 2))) fun v9 =>
  q_b1 (f_X12_as 269 v7 v9 I) fun v11 =>
  if v5 = v11 then
    k18 (x3 + (nI 6)) X I
  else
    some ((nI 0), I, X)
set_option maxRecDepth 100000 in
set_option maxHeartbeats 4000000 in
theorem p_L_law_1008 {l : Launch} {Γ : qC} {g : qG} {z : Int32 × qI × qX} {L cells slots : Nat} {xs : Nat → Int32} {nm : String} {k18 : Int32 → qX → qI → Option (Int32 × qI × qX)} (hΓ : q_gm Γ) (hg : q_Ok l Γ RL cL_law 4 room_1 nm (some .boolean) g) (hr : q_Rt cL_law (some .boolean) room_1 (some (.int z.1), z.2.1, z.2.2) g) (hS : q_ol Γ 0 = L ∧ q_ov Γ 0 = xs) (hcs : cells + 1 ≤ room_1.cells ∧ slots + 96 ≤ room_1.slots) (hk : ∀ c s, c ≤ cells + 1 → s ≤ slots + 96 → ∀ (x3 : Int32) (X : qX) (I : qI), q_Lay X → q_kd X 64 = some (13, 9) → q_kd X 269 = some (14, 42) → k18 x3 X I = some z → g c s 18 [(0, .ref 0), (1, .ref 64), (2, .ref 269), (3, .int x3)] [] I X) (x3 : Int32) (X : qX) (I : qI) (hX : q_Lay X) (k_o1 : q_kd X 64 = some (13, 9)) (k_o2 : q_kd X 269 = some (14, 42)) (h : b_L_law_1008 L xs k18 x3 X I = some z) : g cells slots 1008 [(0, .ref 0), (1, .ref 64), (2, .ref 269), (3, .int x3)] [] I X := by
  unfold b_L_law_1008 at h
  refine r_aload_n hg 1 dL_law_1008 rfl rfl ?_
  refine r_aload_n hg 0 dL_law_1009 rfl rfl ?_
  refine r_iload_n hg 3 dL_law_1010 rfl rfl ?_
  refine r_iconst hg dL_law_1011 ci_1 ?_
  refine r_iadd hg dL_law_1012 ?_
  obtain ⟨v1, e2, h⟩ := q_b1_some h
  refine r_ialdC hg dL_law_1013 (by decide) hS.1 hS.2 e2 ?_
  refine r_aload_n hg 0 dL_law_1014 rfl rfl ?_
  refine r_iload_n hg 3 dL_law_1015 rfl rfl ?_
  refine r_iconst hg dL_law_1016 ci_2 ?_
  refine r_iadd hg dL_law_1017 ?_
  obtain ⟨v3, e4, h⟩ := q_b1_some h
  refine r_ialdC hg dL_law_1018 (by decide) hS.1 hS.2 e4 ?_
  obtain ⟨v5, e6, h⟩ := q_b1_some h
  refine r_cV2i hg dL_law_1019 mt_X11_as ml_L_97 mv_X11_as k_o1 (s_X11_as hΓ hX k_o1 e6) ⟨Nat.le_of_ble_eq_true rfl, Nat.le_of_ble_eq_true rfl⟩ ⟨Nat.le_of_succ_le hcs.1, Nat.le_trans (Nat.le_add_right _ _) hcs.2⟩ (Nat.le_of_ble_eq_true rfl) ?_
  refine r_aload_n hg 2 dL_law_1022 rfl rfl ?_
  refine r_aload_n hg 0 dL_law_1023 rfl rfl ?_
  refine r_iload_n hg 3 dL_law_1024 rfl rfl ?_
  refine r_iconst hg dL_law_1025 ci_1 ?_
  refine r_iadd hg dL_law_1026 ?_
  obtain ⟨v7, e8, h⟩ := q_b1_some h
  refine r_ialdC hg dL_law_1027 (by decide) hS.1 hS.2 e8 ?_
  refine r_aload_n hg 0 dL_law_1028 rfl rfl ?_
  refine r_iload_n hg 3 dL_law_1029 rfl rfl ?_
  refine r_iconst hg dL_law_1030 ci_2 ?_
  refine r_iadd hg dL_law_1031 ?_
  obtain ⟨v9, e10, h⟩ := q_b1_some h
  refine r_ialdC hg dL_law_1032 (by decide) hS.1 hS.2 e10 ?_
  obtain ⟨v11, e12, h⟩ := q_b1_some h
  refine r_cV2i hg dL_law_1033 mt_X12_as ml_L_100 mv_X12_as k_o2 (s_X12_as hΓ hX k_o2 e12) ⟨Nat.le_of_ble_eq_true rfl, Nat.le_of_ble_eq_true rfl⟩ ⟨Nat.le_of_succ_le hcs.1, Nat.le_trans (Nat.le_add_right _ _) hcs.2⟩ (Nat.le_of_ble_eq_true rfl) ?_
  refine r_icmp_eq hg 2173 dL_law_1036 (by decide) (fun c13 => ?_) (fun c13 => ?_)
  · rw [if_pos c13] at h
    refine r_iinc hg 3 (v := (x3 + (nI 6))) (L' := [(3, .int (x3 + (nI 6))), (0, .ref 0), (1, .ref 64), (2, .ref 269)]) dL_law_2173 rfl (by rw [ci_6]) (by decide) rfl ?_
    refine r_goto hg 18 dL_law_2176 (by decide) ?_
    refine r_sub hg [1, 2, 3, 0] rfl ?_
    exact hk _ _ (Nat.le_succ _) (Nat.le_add_right _ _) _ _ _ hX k_o1 k_o2 h
  · rw [if_neg c13] at h
    refine r_iconst hg dL_law_1039 ci_0 ?_
    exact r_ireturn hr dL_law_1040 ⟨Nat.le_of_succ_le hcs.1, Nat.le_trans (Nat.le_add_right _ _) hcs.2⟩ ⟨_, rfl, bz_0.1⟩ (by cases h; rfl)
def b_L_law_1041 (L : Nat) (xs : Nat → Int32) (k18 : Int32 → qX → qI → Option (Int32 × qI × qX)) (x3 : Int32) (X : qX) (I : qI) : Option (Int32 × qI × qX) :=
  q_b1 (q_rdO xs L (x3 + (nI 1))) fun v1 =>
  q_b2 (f_X11_wrong 64 v1 X I) fun v3 I4 =>
  q_b1 (q_rdO xs L (x3 + (nI 1))) fun v6 =>
  q_b2 (f_X12_wrong 269 v6 I4) fun v8 I9 =>
  if v3 = v8 then
    k18 (x3 + (nI 6)) X I9
  else
    some ((nI 0), I9, X)
set_option maxRecDepth 100000 in
set_option maxHeartbeats 4000000 in
theorem p_L_law_1041 {l : Launch} {Γ : qC} {g : qG} {z : Int32 × qI × qX} {L cells slots : Nat} {xs : Nat → Int32} {nm : String} {k18 : Int32 → qX → qI → Option (Int32 × qI × qX)} (hΓ : q_gm Γ) (hg : q_Ok l Γ RL cL_law 4 room_1 nm (some .boolean) g) (hr : q_Rt cL_law (some .boolean) room_1 (some (.int z.1), z.2.1, z.2.2) g) (hS : q_ol Γ 0 = L ∧ q_ov Γ 0 = xs) (hcs : cells + 1 ≤ room_1.cells ∧ slots + 96 ≤ room_1.slots) (hk : ∀ c s, c ≤ cells + 1 → s ≤ slots + 96 → ∀ (x3 : Int32) (X : qX) (I : qI), q_Lay X → q_kd X 64 = some (13, 9) → q_kd X 269 = some (14, 42) → k18 x3 X I = some z → g c s 18 [(0, .ref 0), (1, .ref 64), (2, .ref 269), (3, .int x3)] [] I X) (x3 : Int32) (X : qX) (I : qI) (hX : q_Lay X) (k_o1 : q_kd X 64 = some (13, 9)) (k_o2 : q_kd X 269 = some (14, 42)) (h : b_L_law_1041 L xs k18 x3 X I = some z) : g cells slots 1041 [(0, .ref 0), (1, .ref 64), (2, .ref 269), (3, .int x3)] [] I X := by
  unfold b_L_law_1041 at h
  refine r_aload_n hg 1 dL_law_1041 rfl rfl ?_
  refine r_aload_n hg 0 dL_law_1042 rfl rfl ?_
  refine r_iload_n hg 3 dL_law_1043 rfl rfl ?_
  refine r_iconst hg dL_law_1044 ci_1 ?_
  refine r_iadd hg dL_law_1045 ?_
  obtain ⟨v1, e2, h⟩ := q_b1_some h
  refine r_ialdC hg dL_law_1046 (by decide) hS.1 hS.2 e2 ?_
  obtain ⟨v3, I4, e5, h⟩ := q_b2_some h
  refine r_cV1i hg dL_law_1047 mt_X11_wrong ml_L_101 mv_X11_wrong k_o1 (s_X11_wrong hΓ hX k_o1 e5) ⟨Nat.le_of_ble_eq_true rfl, Nat.le_of_ble_eq_true rfl⟩ ⟨Nat.le_of_succ_le hcs.1, Nat.le_trans (Nat.le_add_right _ _) hcs.2⟩ (Nat.le_of_ble_eq_true rfl) ?_
  refine r_aload_n hg 2 dL_law_1050 rfl rfl ?_
  refine r_aload_n hg 0 dL_law_1051 rfl rfl ?_
  refine r_iload_n hg 3 dL_law_1052 rfl rfl ?_
  refine r_iconst hg dL_law_1053 ci_1 ?_
  refine r_iadd hg dL_law_1054 ?_
  obtain ⟨v6, e7, h⟩ := q_b1_some h
  refine r_ialdC hg dL_law_1055 (by decide) hS.1 hS.2 e7 ?_
  obtain ⟨v8, I9, e10, h⟩ := q_b2_some h
  refine r_cV1i hg dL_law_1056 mt_X12_wrong ml_L_104 mv_X12_wrong k_o2 (s_X12_wrong hΓ hX k_o2 e10) ⟨Nat.le_of_ble_eq_true rfl, Nat.le_of_ble_eq_true rfl⟩ ⟨Nat.le_of_succ_le hcs.1, Nat.le_trans (Nat.le_add_right _ _) hcs.2⟩ (Nat.le_of_ble_eq_true rfl) ?_
  refine r_icmp_eq hg 2173 dL_law_1059 (by decide) (fun c11 => ?_) (fun c11 => ?_)
  · rw [if_pos c11] at h
    refine r_iinc hg 3 (v := (x3 + (nI 6))) (L' := [(3, .int (x3 + (nI 6))), (0, .ref 0), (1, .ref 64), (2, .ref 269)]) dL_law_2173 rfl (by rw [ci_6]) (by decide) rfl ?_
    refine r_goto hg 18 dL_law_2176 (by decide) ?_
    refine r_sub hg [1, 2, 3, 0] rfl ?_
    exact hk _ _ (Nat.le_succ _) (Nat.le_add_right _ _) _ _ _ hX k_o1 k_o2 h
  · rw [if_neg c11] at h
    refine r_iconst hg dL_law_1062 ci_0 ?_
    exact r_ireturn hr dL_law_1063 ⟨Nat.le_of_succ_le hcs.1, Nat.le_trans (Nat.le_add_right _ _) hcs.2⟩ ⟨_, rfl, bz_0.1⟩ (by cases h; rfl)
def b_L_law_1064 (L : Nat) (xs : Nat → Int32) (k18 : Int32 → qX → qI → Option (Int32 × qI × qX)) (x3 : Int32) (X : qX) (I : qI) : Option (Int32 × qI × qX) :=
  q_b1 (q_rdO xs L (x3 + (nI 1))) fun v1 =>
  q_b2 (f_X11_give 64 v1 X I) fun v3 I4 =>
  q_b1 (q_rdO xs L (x3 + (nI 1))) fun v6 =>
  q_b2 (f_X12_give 269 v6 I4) fun v8 I9 =>
  if v3 = v8 then
    k18 (x3 + (nI 6)) X I9
  else
    some ((nI 0), I9, X)
set_option maxRecDepth 100000 in
set_option maxHeartbeats 4000000 in
theorem p_L_law_1064 {l : Launch} {Γ : qC} {g : qG} {z : Int32 × qI × qX} {L cells slots : Nat} {xs : Nat → Int32} {nm : String} {k18 : Int32 → qX → qI → Option (Int32 × qI × qX)} (hΓ : q_gm Γ) (hg : q_Ok l Γ RL cL_law 4 room_1 nm (some .boolean) g) (hr : q_Rt cL_law (some .boolean) room_1 (some (.int z.1), z.2.1, z.2.2) g) (hS : q_ol Γ 0 = L ∧ q_ov Γ 0 = xs) (hcs : cells + 1 ≤ room_1.cells ∧ slots + 96 ≤ room_1.slots) (hk : ∀ c s, c ≤ cells + 1 → s ≤ slots + 96 → ∀ (x3 : Int32) (X : qX) (I : qI), q_Lay X → q_kd X 64 = some (13, 9) → q_kd X 269 = some (14, 42) → k18 x3 X I = some z → g c s 18 [(0, .ref 0), (1, .ref 64), (2, .ref 269), (3, .int x3)] [] I X) (x3 : Int32) (X : qX) (I : qI) (hX : q_Lay X) (k_o1 : q_kd X 64 = some (13, 9)) (k_o2 : q_kd X 269 = some (14, 42)) (h : b_L_law_1064 L xs k18 x3 X I = some z) : g cells slots 1064 [(0, .ref 0), (1, .ref 64), (2, .ref 269), (3, .int x3)] [] I X := by
  unfold b_L_law_1064 at h
  refine r_aload_n hg 1 dL_law_1064 rfl rfl ?_
  refine r_aload_n hg 0 dL_law_1065 rfl rfl ?_
  refine r_iload_n hg 3 dL_law_1066 rfl rfl ?_
  refine r_iconst hg dL_law_1067 ci_1 ?_
  refine r_iadd hg dL_law_1068 ?_
  obtain ⟨v1, e2, h⟩ := q_b1_some h
  refine r_ialdC hg dL_law_1069 (by decide) hS.1 hS.2 e2 ?_
  obtain ⟨v3, I4, e5, h⟩ := q_b2_some h
  refine r_cV1i hg dL_law_1070 mt_X11_give ml_L_105 mv_X11_give k_o1 (s_X11_give hΓ hX k_o1 e5) ⟨Nat.le_of_ble_eq_true rfl, Nat.le_of_ble_eq_true rfl⟩ ⟨Nat.le_of_succ_le hcs.1, Nat.le_trans (Nat.le_add_right _ _) hcs.2⟩ (Nat.le_of_ble_eq_true rfl) ?_
  refine r_aload_n hg 2 dL_law_1073 rfl rfl ?_
  refine r_aload_n hg 0 dL_law_1074 rfl rfl ?_
  refine r_iload_n hg 3 dL_law_1075 rfl rfl ?_
  refine r_iconst hg dL_law_1076 ci_1 ?_
  refine r_iadd hg dL_law_1077 ?_
  obtain ⟨v6, e7, h⟩ := q_b1_some h
  refine r_ialdC hg dL_law_1078 (by decide) hS.1 hS.2 e7 ?_
  obtain ⟨v8, I9, e10, h⟩ := q_b2_some h
  refine r_cV1i hg dL_law_1079 mt_X12_give ml_L_108 mv_X12_give k_o2 (s_X12_give hΓ hX k_o2 e10) ⟨Nat.le_of_ble_eq_true rfl, Nat.le_of_ble_eq_true rfl⟩ ⟨Nat.le_of_succ_le hcs.1, Nat.le_trans (Nat.le_add_right _ _) hcs.2⟩ (Nat.le_of_ble_eq_true rfl) ?_
  refine r_icmp_eq hg 2173 dL_law_1082 (by decide) (fun c11 => ?_) (fun c11 => ?_)
  · rw [if_pos c11] at h
    refine r_iinc hg 3 (v := (x3 + (nI 6))) (L' := [(3, .int (x3 + (nI 6))), (0, .ref 0), (1, .ref 64), (2, .ref 269)]) dL_law_2173 rfl (by rw [ci_6]) (by decide) rfl ?_
    refine r_goto hg 18 dL_law_2176 (by decide) ?_
    refine r_sub hg [1, 2, 3, 0] rfl ?_
    exact hk _ _ (Nat.le_succ _) (Nat.le_add_right _ _) _ _ _ hX k_o1 k_o2 h
  · rw [if_neg c11] at h
    refine r_iconst hg dL_law_1085 ci_0 ?_
    exact r_ireturn hr dL_law_1086 ⟨Nat.le_of_succ_le hcs.1, Nat.le_trans (Nat.le_add_right _ _) hcs.2⟩ ⟨_, rfl, bz_0.1⟩ (by cases h; rfl)
def b_L_law_1087 (L : Nat) (xs : Nat → Int32) (k18 : Int32 → qX → qI → Option (Int32 × qI × qX)) (x3 : Int32) (X : qX) (I : qI) : Option (Int32 × qI × qX) :=
  q_b1 (q_rdO xs L (x3 + (nI 1))) fun v1 =>
  q_b1 (q_rdO xs L (x3 + (nI 2))) fun v3 =>
  q_b2 (f_X11_worth 64 v1 v3 X I) fun v5 I6 =>
  q_b1 (q_rdO xs L (x3 + (nI 1))) fun v8 =>
  q_b1 (q_rdO xs L (x3 + (nI 2))) fun v10 =>
  q_b2 (f_X12_worth 269 v8 v10 I6) fun v12 I13 =>
  if v5 = v12 then
    k18 (x3 + (nI 6)) X I13
  else
    some ((nI 0), I13, X)
set_option maxRecDepth 100000 in
set_option maxHeartbeats 4000000 in
theorem p_L_law_1087 {l : Launch} {Γ : qC} {g : qG} {z : Int32 × qI × qX} {L cells slots : Nat} {xs : Nat → Int32} {nm : String} {k18 : Int32 → qX → qI → Option (Int32 × qI × qX)} (hΓ : q_gm Γ) (hg : q_Ok l Γ RL cL_law 4 room_1 nm (some .boolean) g) (hr : q_Rt cL_law (some .boolean) room_1 (some (.int z.1), z.2.1, z.2.2) g) (hS : q_ol Γ 0 = L ∧ q_ov Γ 0 = xs) (hcs : cells + 1 ≤ room_1.cells ∧ slots + 96 ≤ room_1.slots) (hk : ∀ c s, c ≤ cells + 1 → s ≤ slots + 96 → ∀ (x3 : Int32) (X : qX) (I : qI), q_Lay X → q_kd X 64 = some (13, 9) → q_kd X 269 = some (14, 42) → k18 x3 X I = some z → g c s 18 [(0, .ref 0), (1, .ref 64), (2, .ref 269), (3, .int x3)] [] I X) (x3 : Int32) (X : qX) (I : qI) (hX : q_Lay X) (k_o1 : q_kd X 64 = some (13, 9)) (k_o2 : q_kd X 269 = some (14, 42)) (h : b_L_law_1087 L xs k18 x3 X I = some z) : g cells slots 1087 [(0, .ref 0), (1, .ref 64), (2, .ref 269), (3, .int x3)] [] I X := by
  unfold b_L_law_1087 at h
  refine r_aload_n hg 1 dL_law_1087 rfl rfl ?_
  refine r_aload_n hg 0 dL_law_1088 rfl rfl ?_
  refine r_iload_n hg 3 dL_law_1089 rfl rfl ?_
  refine r_iconst hg dL_law_1090 ci_1 ?_
  refine r_iadd hg dL_law_1091 ?_
  obtain ⟨v1, e2, h⟩ := q_b1_some h
  refine r_ialdC hg dL_law_1092 (by decide) hS.1 hS.2 e2 ?_
  refine r_aload_n hg 0 dL_law_1093 rfl rfl ?_
  refine r_iload_n hg 3 dL_law_1094 rfl rfl ?_
  refine r_iconst hg dL_law_1095 ci_2 ?_
  refine r_iadd hg dL_law_1096 ?_
  obtain ⟨v3, e4, h⟩ := q_b1_some h
  refine r_ialdC hg dL_law_1097 (by decide) hS.1 hS.2 e4 ?_
  obtain ⟨v5, I6, e7, h⟩ := q_b2_some h
  refine r_cV2i hg dL_law_1098 mt_X11_worth ml_L_109 mv_X11_worth k_o1 (s_X11_worth hΓ hX k_o1 e7) ⟨Nat.le_of_ble_eq_true rfl, Nat.le_of_ble_eq_true rfl⟩ ⟨Nat.le_of_succ_le hcs.1, Nat.le_trans (Nat.le_add_right _ _) hcs.2⟩ (Nat.le_of_ble_eq_true rfl) ?_
  refine r_aload_n hg 2 dL_law_1101 rfl rfl ?_
  refine r_aload_n hg 0 dL_law_1102 rfl rfl ?_
  refine r_iload_n hg 3 dL_law_1103 rfl rfl ?_
  refine r_iconst hg dL_law_1104 ci_1 ?_
  refine r_iadd hg dL_law_1105 ?_
  obtain ⟨v8, e9, h⟩ := q_b1_some h
  refine r_ialdC hg dL_law_1106 (by decide) hS.1 hS.2 e9 ?_
  refine r_aload_n hg 0 dL_law_1107 rfl rfl ?_
  refine r_iload_n hg 3 dL_law_1108 rfl rfl ?_
  refine r_iconst hg dL_law_1109 ci_2 ?_
  refine r_iadd hg dL_law_1110 ?_
  obtain ⟨v10, e11, h⟩ := q_b1_some h
  refine r_ialdC hg dL_law_1111 (by decide) hS.1 hS.2 e11 ?_
  obtain ⟨v12, I13, e14, h⟩ := q_b2_some h
  refine r_cV2i hg dL_law_1112 mt_X12_worth ml_L_112 mv_X12_worth k_o2 (s_X12_worth hΓ hX k_o2 e14) ⟨Nat.le_of_ble_eq_true rfl, Nat.le_of_ble_eq_true rfl⟩ ⟨Nat.le_of_succ_le hcs.1, Nat.le_trans (Nat.le_add_right _ _) hcs.2⟩ (Nat.le_of_ble_eq_true rfl) ?_
  refine r_icmp_eq hg 2173 dL_law_1115 (by decide) (fun c15 => ?_) (fun c15 => ?_)
  · rw [if_pos c15] at h
    refine r_iinc hg 3 (v := (x3 + (nI 6))) (L' := [(3, .int (x3 + (nI 6))), (0, .ref 0), (1, .ref 64), (2, .ref 269)]) dL_law_2173 rfl (by rw [ci_6]) (by decide) rfl ?_
    refine r_goto hg 18 dL_law_2176 (by decide) ?_
    refine r_sub hg [1, 2, 3, 0] rfl ?_
    exact hk _ _ (Nat.le_succ _) (Nat.le_add_right _ _) _ _ _ hX k_o1 k_o2 h
  · rw [if_neg c15] at h
    refine r_iconst hg dL_law_1118 ci_0 ?_
    exact r_ireturn hr dL_law_1119 ⟨Nat.le_of_succ_le hcs.1, Nat.le_trans (Nat.le_add_right _ _) hcs.2⟩ ⟨_, rfl, bz_0.1⟩ (by cases h; rfl)
def b_L_law_1120 (L : Nat) (xs : Nat → Int32) (k18 : Int32 → qX → qI → Option (Int32 × qI × qX)) (x3 : Int32) (X : qX) (I : qI) : Option (Int32 × qI × qX) :=
  q_b1 (q_rdO xs L (x3 + (nI 1))) fun v1 =>
  q_b1 (q_rdO xs L (x3 + (nI 2))) fun v3 =>
  q_b1 (q_rdO xs L (x3 + (nI 3))) fun v5 =>
  q_b1 (q_rdO xs L (x3 + (nI 4))) fun v7 =>
  q_b1 (f_X11_prove 64 v1 v3 v5 v7 I) fun v9 =>
  q_b1 (q_rdO xs L (x3 + (nI 1))) fun v11 =>
  q_b1 (q_rdO xs L (x3 + (nI 2))) fun v13 =>
  q_b1 (q_rdO xs L (x3 + (nI 3))) fun v15 =>
  q_b1 (q_rdO xs L (x3 + (nI 4))) fun v17 =>
  q_b1 (f_X12_prove 269 v11 v13 v15 v17 I) fun v19 =>
  if v9 = v19 then
    k18 (x3 + (nI 6)) X I
  else
    some ((nI 0), I, X)
set_option maxRecDepth 100000 in
set_option maxHeartbeats 4000000 in
theorem p_L_law_1120 {l : Launch} {Γ : qC} {g : qG} {z : Int32 × qI × qX} {L cells slots : Nat} {xs : Nat → Int32} {nm : String} {k18 : Int32 → qX → qI → Option (Int32 × qI × qX)} (hΓ : q_gm Γ) (hg : q_Ok l Γ RL cL_law 4 room_1 nm (some .boolean) g) (hr : q_Rt cL_law (some .boolean) room_1 (some (.int z.1), z.2.1, z.2.2) g) (hS : q_ol Γ 0 = L ∧ q_ov Γ 0 = xs) (hcs : cells + 1 ≤ room_1.cells ∧ slots + 96 ≤ room_1.slots) (hk : ∀ c s, c ≤ cells + 1 → s ≤ slots + 96 → ∀ (x3 : Int32) (X : qX) (I : qI), q_Lay X → q_kd X 64 = some (13, 9) → q_kd X 269 = some (14, 42) → k18 x3 X I = some z → g c s 18 [(0, .ref 0), (1, .ref 64), (2, .ref 269), (3, .int x3)] [] I X) (x3 : Int32) (X : qX) (I : qI) (hX : q_Lay X) (k_o1 : q_kd X 64 = some (13, 9)) (k_o2 : q_kd X 269 = some (14, 42)) (h : b_L_law_1120 L xs k18 x3 X I = some z) : g cells slots 1120 [(0, .ref 0), (1, .ref 64), (2, .ref 269), (3, .int x3)] [] I X := by
  unfold b_L_law_1120 at h
  refine r_aload_n hg 1 dL_law_1120 rfl rfl ?_
  refine r_aload_n hg 0 dL_law_1121 rfl rfl ?_
  refine r_iload_n hg 3 dL_law_1122 rfl rfl ?_
  refine r_iconst hg dL_law_1123 ci_1 ?_
  refine r_iadd hg dL_law_1124 ?_
  obtain ⟨v1, e2, h⟩ := q_b1_some h
  refine r_ialdC hg dL_law_1125 (by decide) hS.1 hS.2 e2 ?_
  refine r_aload_n hg 0 dL_law_1126 rfl rfl ?_
  refine r_iload_n hg 3 dL_law_1127 rfl rfl ?_
  refine r_iconst hg dL_law_1128 ci_2 ?_
  refine r_iadd hg dL_law_1129 ?_
  obtain ⟨v3, e4, h⟩ := q_b1_some h
  refine r_ialdC hg dL_law_1130 (by decide) hS.1 hS.2 e4 ?_
  refine r_aload_n hg 0 dL_law_1131 rfl rfl ?_
  refine r_iload_n hg 3 dL_law_1132 rfl rfl ?_
  refine r_iconst hg dL_law_1133 ci_3 ?_
  refine r_iadd hg dL_law_1134 ?_
  obtain ⟨v5, e6, h⟩ := q_b1_some h
  refine r_ialdC hg dL_law_1135 (by decide) hS.1 hS.2 e6 ?_
  refine r_aload_n hg 0 dL_law_1136 rfl rfl ?_
  refine r_iload_n hg 3 dL_law_1137 rfl rfl ?_
  refine r_iconst hg dL_law_1138 ci_4 ?_
  refine r_iadd hg dL_law_1139 ?_
  obtain ⟨v7, e8, h⟩ := q_b1_some h
  refine r_ialdC hg dL_law_1140 (by decide) hS.1 hS.2 e8 ?_
  obtain ⟨v9, e10, h⟩ := q_b1_some h
  refine r_cV4i hg dL_law_1141 mt_X11_prove ml_L_113 mv_X11_prove k_o1 (s_X11_prove hΓ hX k_o1 e10) ⟨Nat.le_of_ble_eq_true rfl, Nat.le_of_ble_eq_true rfl⟩ ⟨Nat.le_of_succ_le hcs.1, Nat.le_trans (Nat.le_add_right _ _) hcs.2⟩ (Nat.le_of_ble_eq_true rfl) ?_
  refine r_aload_n hg 2 dL_law_1144 rfl rfl ?_
  refine r_aload_n hg 0 dL_law_1145 rfl rfl ?_
  refine r_iload_n hg 3 dL_law_1146 rfl rfl ?_
  refine r_iconst hg dL_law_1147 ci_1 ?_
  refine r_iadd hg dL_law_1148 ?_
  obtain ⟨v11, e12, h⟩ := q_b1_some h
  refine r_ialdC hg dL_law_1149 (by decide) hS.1 hS.2 e12 ?_
  refine r_aload_n hg 0 dL_law_1150 rfl rfl ?_
  refine r_iload_n hg 3 dL_law_1151 rfl rfl ?_
  refine r_iconst hg dL_law_1152 ci_2 ?_
  refine r_iadd hg dL_law_1153 ?_
  obtain ⟨v13, e14, h⟩ := q_b1_some h
  refine r_ialdC hg dL_law_1154 (by decide) hS.1 hS.2 e14 ?_
  refine r_aload_n hg 0 dL_law_1155 rfl rfl ?_
  refine r_iload_n hg 3 dL_law_1156 rfl rfl ?_
  refine r_iconst hg dL_law_1157 ci_3 ?_
  refine r_iadd hg dL_law_1158 ?_
  obtain ⟨v15, e16, h⟩ := q_b1_some h
  refine r_ialdC hg dL_law_1159 (by decide) hS.1 hS.2 e16 ?_
  refine r_aload_n hg 0 dL_law_1160 rfl rfl ?_
  refine r_iload_n hg 3 dL_law_1161 rfl rfl ?_
  refine r_iconst hg dL_law_1162 ci_4 ?_
  refine r_iadd hg dL_law_1163 ?_
  obtain ⟨v17, e18, h⟩ := q_b1_some h
  refine r_ialdC hg dL_law_1164 (by decide) hS.1 hS.2 e18 ?_
  obtain ⟨v19, e20, h⟩ := q_b1_some h
  refine r_cV4i hg dL_law_1165 mt_X12_prove ml_L_116 mv_X12_prove k_o2 (s_X12_prove hΓ hX k_o2 e20) ⟨Nat.le_of_ble_eq_true rfl, Nat.le_of_ble_eq_true rfl⟩ ⟨Nat.le_of_succ_le hcs.1, Nat.le_trans (Nat.le_add_right _ _) hcs.2⟩ (Nat.le_of_ble_eq_true rfl) ?_
  refine r_icmp_eq hg 2173 dL_law_1168 (by decide) (fun c21 => ?_) (fun c21 => ?_)
  · rw [if_pos c21] at h
    refine r_iinc hg 3 (v := (x3 + (nI 6))) (L' := [(3, .int (x3 + (nI 6))), (0, .ref 0), (1, .ref 64), (2, .ref 269)]) dL_law_2173 rfl (by rw [ci_6]) (by decide) rfl ?_
    refine r_goto hg 18 dL_law_2176 (by decide) ?_
    refine r_sub hg [1, 2, 3, 0] rfl ?_
    exact hk _ _ (Nat.le_succ _) (Nat.le_add_right _ _) _ _ _ hX k_o1 k_o2 h
  · rw [if_neg c21] at h
    refine r_iconst hg dL_law_1171 ci_0 ?_
    exact r_ireturn hr dL_law_1172 ⟨Nat.le_of_succ_le hcs.1, Nat.le_trans (Nat.le_add_right _ _) hcs.2⟩ ⟨_, rfl, bz_0.1⟩ (by cases h; rfl)
def b_L_law_1173 (L : Nat) (xs : Nat → Int32) (k18 : Int32 → qX → qI → Option (Int32 × qI × qX)) (x3 : Int32) (X : qX) (I : qI) : Option (Int32 × qI × qX) :=
  q_b1 (q_rdO xs L (x3 + (nI 1))) fun v1 =>
  q_b1 (q_rdO xs L (x3 + (nI 2))) fun v3 =>
  q_b1 (q_rdO xs L (x3 + (nI 3))) fun v5 =>
  q_b1 (f_X11_bound 64 v1 v3 v5 I) fun v7 =>
  q_b1 (q_rdO xs L (x3 + (nI 1))) fun v9 =>
  q_b1 (q_rdO xs L (x3 + (nI 2))) fun v11 =>
  q_b1 (q_rdO xs L (x3 + (nI 3))) fun v13 =>
  q_b1 (f_X12_bound 269 v9 v11 v13 I) fun v15 =>
  if v7 = v15 then
    k18 (x3 + (nI 6)) X I
  else
    some ((nI 0), I, X)
set_option maxRecDepth 100000 in
set_option maxHeartbeats 4000000 in
theorem p_L_law_1173 {l : Launch} {Γ : qC} {g : qG} {z : Int32 × qI × qX} {L cells slots : Nat} {xs : Nat → Int32} {nm : String} {k18 : Int32 → qX → qI → Option (Int32 × qI × qX)} (hΓ : q_gm Γ) (hg : q_Ok l Γ RL cL_law 4 room_1 nm (some .boolean) g) (hr : q_Rt cL_law (some .boolean) room_1 (some (.int z.1), z.2.1, z.2.2) g) (hS : q_ol Γ 0 = L ∧ q_ov Γ 0 = xs) (hcs : cells + 1 ≤ room_1.cells ∧ slots + 96 ≤ room_1.slots) (hk : ∀ c s, c ≤ cells + 1 → s ≤ slots + 96 → ∀ (x3 : Int32) (X : qX) (I : qI), q_Lay X → q_kd X 64 = some (13, 9) → q_kd X 269 = some (14, 42) → k18 x3 X I = some z → g c s 18 [(0, .ref 0), (1, .ref 64), (2, .ref 269), (3, .int x3)] [] I X) (x3 : Int32) (X : qX) (I : qI) (hX : q_Lay X) (k_o1 : q_kd X 64 = some (13, 9)) (k_o2 : q_kd X 269 = some (14, 42)) (h : b_L_law_1173 L xs k18 x3 X I = some z) : g cells slots 1173 [(0, .ref 0), (1, .ref 64), (2, .ref 269), (3, .int x3)] [] I X := by
  unfold b_L_law_1173 at h
  refine r_aload_n hg 1 dL_law_1173 rfl rfl ?_
  refine r_aload_n hg 0 dL_law_1174 rfl rfl ?_
  refine r_iload_n hg 3 dL_law_1175 rfl rfl ?_
  refine r_iconst hg dL_law_1176 ci_1 ?_
  refine r_iadd hg dL_law_1177 ?_
  obtain ⟨v1, e2, h⟩ := q_b1_some h
  refine r_ialdC hg dL_law_1178 (by decide) hS.1 hS.2 e2 ?_
  refine r_aload_n hg 0 dL_law_1179 rfl rfl ?_
  refine r_iload_n hg 3 dL_law_1180 rfl rfl ?_
  refine r_iconst hg dL_law_1181 ci_2 ?_
  refine r_iadd hg dL_law_1182 ?_
  obtain ⟨v3, e4, h⟩ := q_b1_some h
  refine r_ialdC hg dL_law_1183 (by decide) hS.1 hS.2 e4 ?_
  refine r_aload_n hg 0 dL_law_1184 rfl rfl ?_
  refine r_iload_n hg 3 dL_law_1185 rfl rfl ?_
  refine r_iconst hg dL_law_1186 ci_3 ?_
  refine r_iadd hg dL_law_1187 ?_
  obtain ⟨v5, e6, h⟩ := q_b1_some h
  refine r_ialdC hg dL_law_1188 (by decide) hS.1 hS.2 e6 ?_
  obtain ⟨v7, e8, h⟩ := q_b1_some h
  refine r_cV3i hg dL_law_1189 mt_X11_bound ml_L_117 mv_X11_bound k_o1 (s_X11_bound hΓ hX k_o1 e8) ⟨Nat.le_of_ble_eq_true rfl, Nat.le_of_ble_eq_true rfl⟩ ⟨Nat.le_of_succ_le hcs.1, Nat.le_trans (Nat.le_add_right _ _) hcs.2⟩ (Nat.le_of_ble_eq_true rfl) ?_
  refine r_aload_n hg 2 dL_law_1192 rfl rfl ?_
  refine r_aload_n hg 0 dL_law_1193 rfl rfl ?_
  refine r_iload_n hg 3 dL_law_1194 rfl rfl ?_
  refine r_iconst hg dL_law_1195 ci_1 ?_
  refine r_iadd hg dL_law_1196 ?_
  obtain ⟨v9, e10, h⟩ := q_b1_some h
  refine r_ialdC hg dL_law_1197 (by decide) hS.1 hS.2 e10 ?_
  refine r_aload_n hg 0 dL_law_1198 rfl rfl ?_
  refine r_iload_n hg 3 dL_law_1199 rfl rfl ?_
  refine r_iconst hg dL_law_1200 ci_2 ?_
  refine r_iadd hg dL_law_1201 ?_
  obtain ⟨v11, e12, h⟩ := q_b1_some h
  refine r_ialdC hg dL_law_1202 (by decide) hS.1 hS.2 e12 ?_
  refine r_aload_n hg 0 dL_law_1203 rfl rfl ?_
  refine r_iload_n hg 3 dL_law_1204 rfl rfl ?_
  refine r_iconst hg dL_law_1205 ci_3 ?_
  refine r_iadd hg dL_law_1206 ?_
  obtain ⟨v13, e14, h⟩ := q_b1_some h
  refine r_ialdC hg dL_law_1207 (by decide) hS.1 hS.2 e14 ?_
  obtain ⟨v15, e16, h⟩ := q_b1_some h
  refine r_cV3i hg dL_law_1208 mt_X12_bound ml_L_120 mv_X12_bound k_o2 (s_X12_bound hΓ hX k_o2 e16) ⟨Nat.le_of_ble_eq_true rfl, Nat.le_of_ble_eq_true rfl⟩ ⟨Nat.le_of_succ_le hcs.1, Nat.le_trans (Nat.le_add_right _ _) hcs.2⟩ (Nat.le_of_ble_eq_true rfl) ?_
  refine r_icmp_eq hg 2173 dL_law_1211 (by decide) (fun c17 => ?_) (fun c17 => ?_)
  · rw [if_pos c17] at h
    refine r_iinc hg 3 (v := (x3 + (nI 6))) (L' := [(3, .int (x3 + (nI 6))), (0, .ref 0), (1, .ref 64), (2, .ref 269)]) dL_law_2173 rfl (by rw [ci_6]) (by decide) rfl ?_
    refine r_goto hg 18 dL_law_2176 (by decide) ?_
    refine r_sub hg [1, 2, 3, 0] rfl ?_
    exact hk _ _ (Nat.le_succ _) (Nat.le_add_right _ _) _ _ _ hX k_o1 k_o2 h
  · rw [if_neg c17] at h
    refine r_iconst hg dL_law_1214 ci_0 ?_
    exact r_ireturn hr dL_law_1215 ⟨Nat.le_of_succ_le hcs.1, Nat.le_trans (Nat.le_add_right _ _) hcs.2⟩ ⟨_, rfl, bz_0.1⟩ (by cases h; rfl)
def b_L_law_1216 (L : Nat) (xs : Nat → Int32) (k18 : Int32 → qX → qI → Option (Int32 × qI × qX)) (x3 : Int32) (X : qX) (I : qI) : Option (Int32 × qI × qX) :=
  q_b1 (q_rdO xs L (x3 + (nI 1))) fun v1 =>
  q_b1 (q_rdO xs L (x3 + (nI 2))) fun v3 =>
  q_b3 (f_X11_beside 64 v1 v3 X I) fun v5 I6 X7 =>
  q_b1 (q_rdO xs L (x3 + (nI 1))) fun v11 =>
  q_b1 (q_rdO xs L (x3 + (nI 2))) fun v13 =>
  q_b2 (f_X12_beside 269 v11 v13 X7 I6) fun v15 I16 =>
  if v5 = v15 then
    k18 (x3 + (nI 6)) X7 I16
  else
    some ((nI 0), I16, X7)
set_option maxRecDepth 100000 in
set_option maxHeartbeats 4000000 in
theorem p_L_law_1216 {l : Launch} {Γ : qC} {g : qG} {z : Int32 × qI × qX} {L cells slots : Nat} {xs : Nat → Int32} {nm : String} {k18 : Int32 → qX → qI → Option (Int32 × qI × qX)} (hΓ : q_gm Γ) (hg : q_Ok l Γ RL cL_law 4 room_1 nm (some .boolean) g) (hr : q_Rt cL_law (some .boolean) room_1 (some (.int z.1), z.2.1, z.2.2) g) (hS : q_ol Γ 0 = L ∧ q_ov Γ 0 = xs) (hcs : cells + 1 ≤ room_1.cells ∧ slots + 96 ≤ room_1.slots) (hk : ∀ c s, c ≤ cells + 1 → s ≤ slots + 96 → ∀ (x3 : Int32) (X : qX) (I : qI), q_Lay X → q_kd X 64 = some (13, 9) → q_kd X 269 = some (14, 42) → k18 x3 X I = some z → g c s 18 [(0, .ref 0), (1, .ref 64), (2, .ref 269), (3, .int x3)] [] I X) (x3 : Int32) (X : qX) (I : qI) (hX : q_Lay X) (k_o1 : q_kd X 64 = some (13, 9)) (k_o2 : q_kd X 269 = some (14, 42)) (h : b_L_law_1216 L xs k18 x3 X I = some z) : g cells slots 1216 [(0, .ref 0), (1, .ref 64), (2, .ref 269), (3, .int x3)] [] I X := by
  unfold b_L_law_1216 at h
  refine r_aload_n hg 1 dL_law_1216 rfl rfl ?_
  refine r_aload_n hg 0 dL_law_1217 rfl rfl ?_
  refine r_iload_n hg 3 dL_law_1218 rfl rfl ?_
  refine r_iconst hg dL_law_1219 ci_1 ?_
  refine r_iadd hg dL_law_1220 ?_
  obtain ⟨v1, e2, h⟩ := q_b1_some h
  refine r_ialdC hg dL_law_1221 (by decide) hS.1 hS.2 e2 ?_
  refine r_aload_n hg 0 dL_law_1222 rfl rfl ?_
  refine r_iload_n hg 3 dL_law_1223 rfl rfl ?_
  refine r_iconst hg dL_law_1224 ci_2 ?_
  refine r_iadd hg dL_law_1225 ?_
  obtain ⟨v3, e4, h⟩ := q_b1_some h
  refine r_ialdC hg dL_law_1226 (by decide) hS.1 hS.2 e4 ?_
  obtain ⟨v5, I6, X7, e8, h⟩ := q_b3_some h
  refine r_cV2i hg dL_law_1227 mt_X11_beside ml_L_121 mv_X11_beside k_o1 (s_X11_beside hΓ hX k_o1 e8) ⟨Nat.le_of_ble_eq_true rfl, Nat.le_of_ble_eq_true rfl⟩ ⟨Nat.le_of_succ_le hcs.1, Nat.le_trans (Nat.le_add_right _ _) hcs.2⟩ (Nat.le_of_ble_eq_true rfl) ?_
  obtain ⟨hX10, e9⟩ := x_X11_beside hX k_o1 e8
  refine r_aload_n hg 2 dL_law_1230 rfl rfl ?_
  refine r_aload_n hg 0 dL_law_1231 rfl rfl ?_
  refine r_iload_n hg 3 dL_law_1232 rfl rfl ?_
  refine r_iconst hg dL_law_1233 ci_1 ?_
  refine r_iadd hg dL_law_1234 ?_
  obtain ⟨v11, e12, h⟩ := q_b1_some h
  refine r_ialdC hg dL_law_1235 (by decide) hS.1 hS.2 e12 ?_
  refine r_aload_n hg 0 dL_law_1236 rfl rfl ?_
  refine r_iload_n hg 3 dL_law_1237 rfl rfl ?_
  refine r_iconst hg dL_law_1238 ci_2 ?_
  refine r_iadd hg dL_law_1239 ?_
  obtain ⟨v13, e14, h⟩ := q_b1_some h
  refine r_ialdC hg dL_law_1240 (by decide) hS.1 hS.2 e14 ?_
  obtain ⟨v15, I16, e17, h⟩ := q_b2_some h
  refine r_cV2i hg dL_law_1241 mt_X12_beside ml_L_124 mv_X12_beside (e9 _ _ k_o2) (s_X12_beside hΓ hX10 (e9 _ _ k_o2) e17) ⟨Nat.le_of_ble_eq_true rfl, Nat.le_of_ble_eq_true rfl⟩ ⟨Nat.le_of_succ_le hcs.1, Nat.le_trans (Nat.le_add_right _ _) hcs.2⟩ (Nat.le_of_ble_eq_true rfl) ?_
  refine r_icmp_eq hg 2173 dL_law_1244 (by decide) (fun c18 => ?_) (fun c18 => ?_)
  · rw [if_pos c18] at h
    refine r_iinc hg 3 (v := (x3 + (nI 6))) (L' := [(3, .int (x3 + (nI 6))), (0, .ref 0), (1, .ref 64), (2, .ref 269)]) dL_law_2173 rfl (by rw [ci_6]) (by decide) rfl ?_
    refine r_goto hg 18 dL_law_2176 (by decide) ?_
    refine r_sub hg [1, 2, 3, 0] rfl ?_
    exact hk _ _ (Nat.le_succ _) (Nat.le_add_right _ _) _ _ _ hX10 (e9 _ _ k_o1) (e9 _ _ k_o2) h
  · rw [if_neg c18] at h
    refine r_iconst hg dL_law_1247 ci_0 ?_
    exact r_ireturn hr dL_law_1248 ⟨Nat.le_of_succ_le hcs.1, Nat.le_trans (Nat.le_add_right _ _) hcs.2⟩ ⟨_, rfl, bz_0.1⟩ (by cases h; rfl)
def b_L_law_1249 (L : Nat) (xs : Nat → Int32) (k18 : Int32 → qX → qI → Option (Int32 × qI × qX)) (x3 : Int32) (X : qX) (I : qI) : Option (Int32 × qI × qX) :=
  q_b1 (q_rdO xs L (x3 + (nI 1))) fun v1 =>
  q_b1 (q_rdO xs L (x3 + (nI 2))) fun v3 =>
  q_b1 (q_rdO xs L (x3 + (nI 3))) fun v5 =>
  q_b2 (f_X11_feed 64 v1 v3 v5 I) fun v7 I8 =>
  q_b1 (q_rdO xs L (x3 + (nI 1))) fun v10 =>
  q_b1 (q_rdO xs L (x3 + (nI 2))) fun v12 =>
  q_b1 (q_rdO xs L (x3 + (nI 3))) fun v14 =>
  q_b2 (f_X12_feed 269 v10 v12 v14 I8) fun v16 I17 =>
  if v7 = v16 then
    k18 (x3 + (nI 6)) X I17
  else
    some ((nI 0), I17, X)
set_option maxRecDepth 100000 in
set_option maxHeartbeats 4000000 in
theorem p_L_law_1249 {l : Launch} {Γ : qC} {g : qG} {z : Int32 × qI × qX} {L cells slots : Nat} {xs : Nat → Int32} {nm : String} {k18 : Int32 → qX → qI → Option (Int32 × qI × qX)} (hΓ : q_gm Γ) (hg : q_Ok l Γ RL cL_law 4 room_1 nm (some .boolean) g) (hr : q_Rt cL_law (some .boolean) room_1 (some (.int z.1), z.2.1, z.2.2) g) (hS : q_ol Γ 0 = L ∧ q_ov Γ 0 = xs) (hcs : cells + 1 ≤ room_1.cells ∧ slots + 96 ≤ room_1.slots) (hk : ∀ c s, c ≤ cells + 1 → s ≤ slots + 96 → ∀ (x3 : Int32) (X : qX) (I : qI), q_Lay X → q_kd X 64 = some (13, 9) → q_kd X 269 = some (14, 42) → k18 x3 X I = some z → g c s 18 [(0, .ref 0), (1, .ref 64), (2, .ref 269), (3, .int x3)] [] I X) (x3 : Int32) (X : qX) (I : qI) (hX : q_Lay X) (k_o1 : q_kd X 64 = some (13, 9)) (k_o2 : q_kd X 269 = some (14, 42)) (h : b_L_law_1249 L xs k18 x3 X I = some z) : g cells slots 1249 [(0, .ref 0), (1, .ref 64), (2, .ref 269), (3, .int x3)] [] I X := by
  unfold b_L_law_1249 at h
  refine r_aload_n hg 1 dL_law_1249 rfl rfl ?_
  refine r_aload_n hg 0 dL_law_1250 rfl rfl ?_
  refine r_iload_n hg 3 dL_law_1251 rfl rfl ?_
  refine r_iconst hg dL_law_1252 ci_1 ?_
  refine r_iadd hg dL_law_1253 ?_
  obtain ⟨v1, e2, h⟩ := q_b1_some h
  refine r_ialdC hg dL_law_1254 (by decide) hS.1 hS.2 e2 ?_
  refine r_aload_n hg 0 dL_law_1255 rfl rfl ?_
  refine r_iload_n hg 3 dL_law_1256 rfl rfl ?_
  refine r_iconst hg dL_law_1257 ci_2 ?_
  refine r_iadd hg dL_law_1258 ?_
  obtain ⟨v3, e4, h⟩ := q_b1_some h
  refine r_ialdC hg dL_law_1259 (by decide) hS.1 hS.2 e4 ?_
  refine r_aload_n hg 0 dL_law_1260 rfl rfl ?_
  refine r_iload_n hg 3 dL_law_1261 rfl rfl ?_
  refine r_iconst hg dL_law_1262 ci_3 ?_
  refine r_iadd hg dL_law_1263 ?_
  obtain ⟨v5, e6, h⟩ := q_b1_some h
  refine r_ialdC hg dL_law_1264 (by decide) hS.1 hS.2 e6 ?_
  obtain ⟨v7, I8, e9, h⟩ := q_b2_some h
  refine r_cV3i hg dL_law_1265 mt_X11_feed ml_L_125 mv_X11_feed k_o1 (s_X11_feed hΓ hX k_o1 e9) ⟨Nat.le_of_ble_eq_true rfl, Nat.le_of_ble_eq_true rfl⟩ ⟨Nat.le_of_succ_le hcs.1, Nat.le_trans (Nat.le_add_right _ _) hcs.2⟩ (Nat.le_of_ble_eq_true rfl) ?_
  refine r_aload_n hg 2 dL_law_1268 rfl rfl ?_
  refine r_aload_n hg 0 dL_law_1269 rfl rfl ?_
  refine r_iload_n hg 3 dL_law_1270 rfl rfl ?_
  refine r_iconst hg dL_law_1271 ci_1 ?_
  refine r_iadd hg dL_law_1272 ?_
  obtain ⟨v10, e11, h⟩ := q_b1_some h
  refine r_ialdC hg dL_law_1273 (by decide) hS.1 hS.2 e11 ?_
  refine r_aload_n hg 0 dL_law_1274 rfl rfl ?_
  refine r_iload_n hg 3 dL_law_1275 rfl rfl ?_
  refine r_iconst hg dL_law_1276 ci_2 ?_
  refine r_iadd hg dL_law_1277 ?_
  obtain ⟨v12, e13, h⟩ := q_b1_some h
  refine r_ialdC hg dL_law_1278 (by decide) hS.1 hS.2 e13 ?_
  refine r_aload_n hg 0 dL_law_1279 rfl rfl ?_
  refine r_iload_n hg 3 dL_law_1280 rfl rfl ?_
  refine r_iconst hg dL_law_1281 ci_3 ?_
  refine r_iadd hg dL_law_1282 ?_
  obtain ⟨v14, e15, h⟩ := q_b1_some h
  refine r_ialdC hg dL_law_1283 (by decide) hS.1 hS.2 e15 ?_
  obtain ⟨v16, I17, e18, h⟩ := q_b2_some h
  refine r_cV3i hg dL_law_1284 mt_X12_feed ml_L_128 mv_X12_feed k_o2 (s_X12_feed hΓ hX k_o2 e18) ⟨Nat.le_of_ble_eq_true rfl, Nat.le_of_ble_eq_true rfl⟩ ⟨Nat.le_of_succ_le hcs.1, Nat.le_trans (Nat.le_add_right _ _) hcs.2⟩ (Nat.le_of_ble_eq_true rfl) ?_
  refine r_icmp_eq hg 2173 dL_law_1287 (by decide) (fun c19 => ?_) (fun c19 => ?_)
  · rw [if_pos c19] at h
    refine r_iinc hg 3 (v := (x3 + (nI 6))) (L' := [(3, .int (x3 + (nI 6))), (0, .ref 0), (1, .ref 64), (2, .ref 269)]) dL_law_2173 rfl (by rw [ci_6]) (by decide) rfl ?_
    refine r_goto hg 18 dL_law_2176 (by decide) ?_
    refine r_sub hg [1, 2, 3, 0] rfl ?_
    exact hk _ _ (Nat.le_succ _) (Nat.le_add_right _ _) _ _ _ hX k_o1 k_o2 h
  · rw [if_neg c19] at h
    refine r_iconst hg dL_law_1290 ci_0 ?_
    exact r_ireturn hr dL_law_1291 ⟨Nat.le_of_succ_le hcs.1, Nat.le_trans (Nat.le_add_right _ _) hcs.2⟩ ⟨_, rfl, bz_0.1⟩ (by cases h; rfl)
def b_L_law_1292 (L : Nat) (xs : Nat → Int32) (k18 : Int32 → qX → qI → Option (Int32 × qI × qX)) (x3 : Int32) (X : qX) (I : qI) : Option (Int32 × qI × qX) :=
  q_b1 (q_rdO xs L (x3 + (nI 1))) fun v1 =>
  q_b2 (f_X11_trim 64 v1 I) fun v3 I4 =>
  q_b1 (q_rdO xs L (x3 + (nI 1))) fun v6 =>
  q_b2 (f_X12_trim 269 v6 I4) fun v8 I9 =>
  if v3 = v8 then
    k18 (x3 + (nI 6)) X I9
  else
    some ((nI 0), I9, X)
set_option maxRecDepth 100000 in
set_option maxHeartbeats 4000000 in
theorem p_L_law_1292 {l : Launch} {Γ : qC} {g : qG} {z : Int32 × qI × qX} {L cells slots : Nat} {xs : Nat → Int32} {nm : String} {k18 : Int32 → qX → qI → Option (Int32 × qI × qX)} (hΓ : q_gm Γ) (hg : q_Ok l Γ RL cL_law 4 room_1 nm (some .boolean) g) (hr : q_Rt cL_law (some .boolean) room_1 (some (.int z.1), z.2.1, z.2.2) g) (hS : q_ol Γ 0 = L ∧ q_ov Γ 0 = xs) (hcs : cells + 1 ≤ room_1.cells ∧ slots + 96 ≤ room_1.slots) (hk : ∀ c s, c ≤ cells + 1 → s ≤ slots + 96 → ∀ (x3 : Int32) (X : qX) (I : qI), q_Lay X → q_kd X 64 = some (13, 9) → q_kd X 269 = some (14, 42) → k18 x3 X I = some z → g c s 18 [(0, .ref 0), (1, .ref 64), (2, .ref 269), (3, .int x3)] [] I X) (x3 : Int32) (X : qX) (I : qI) (hX : q_Lay X) (k_o1 : q_kd X 64 = some (13, 9)) (k_o2 : q_kd X 269 = some (14, 42)) (h : b_L_law_1292 L xs k18 x3 X I = some z) : g cells slots 1292 [(0, .ref 0), (1, .ref 64), (2, .ref 269), (3, .int x3)] [] I X := by
  unfold b_L_law_1292 at h
  refine r_aload_n hg 1 dL_law_1292 rfl rfl ?_
  refine r_aload_n hg 0 dL_law_1293 rfl rfl ?_
  refine r_iload_n hg 3 dL_law_1294 rfl rfl ?_
  refine r_iconst hg dL_law_1295 ci_1 ?_
  refine r_iadd hg dL_law_1296 ?_
  obtain ⟨v1, e2, h⟩ := q_b1_some h
  refine r_ialdC hg dL_law_1297 (by decide) hS.1 hS.2 e2 ?_
  obtain ⟨v3, I4, e5, h⟩ := q_b2_some h
  refine r_cV1i hg dL_law_1298 mt_X11_trim ml_L_129 mv_X11_trim k_o1 (s_X11_trim hΓ hX k_o1 e5) ⟨Nat.le_of_ble_eq_true rfl, Nat.le_of_ble_eq_true rfl⟩ ⟨Nat.le_of_succ_le hcs.1, Nat.le_trans (Nat.le_add_right _ _) hcs.2⟩ (Nat.le_of_ble_eq_true rfl) ?_
  refine r_aload_n hg 2 dL_law_1301 rfl rfl ?_
  refine r_aload_n hg 0 dL_law_1302 rfl rfl ?_
  refine r_iload_n hg 3 dL_law_1303 rfl rfl ?_
  refine r_iconst hg dL_law_1304 ci_1 ?_
  refine r_iadd hg dL_law_1305 ?_
  obtain ⟨v6, e7, h⟩ := q_b1_some h
  refine r_ialdC hg dL_law_1306 (by decide) hS.1 hS.2 e7 ?_
  obtain ⟨v8, I9, e10, h⟩ := q_b2_some h
  refine r_cV1i hg dL_law_1307 mt_X12_trim ml_L_132 mv_X12_trim k_o2 (s_X12_trim hΓ hX k_o2 e10) ⟨Nat.le_of_ble_eq_true rfl, Nat.le_of_ble_eq_true rfl⟩ ⟨Nat.le_of_succ_le hcs.1, Nat.le_trans (Nat.le_add_right _ _) hcs.2⟩ (Nat.le_of_ble_eq_true rfl) ?_
  refine r_icmp_eq hg 2173 dL_law_1310 (by decide) (fun c11 => ?_) (fun c11 => ?_)
  · rw [if_pos c11] at h
    refine r_iinc hg 3 (v := (x3 + (nI 6))) (L' := [(3, .int (x3 + (nI 6))), (0, .ref 0), (1, .ref 64), (2, .ref 269)]) dL_law_2173 rfl (by rw [ci_6]) (by decide) rfl ?_
    refine r_goto hg 18 dL_law_2176 (by decide) ?_
    refine r_sub hg [1, 2, 3, 0] rfl ?_
    exact hk _ _ (Nat.le_succ _) (Nat.le_add_right _ _) _ _ _ hX k_o1 k_o2 h
  · rw [if_neg c11] at h
    refine r_iconst hg dL_law_1313 ci_0 ?_
    exact r_ireturn hr dL_law_1314 ⟨Nat.le_of_succ_le hcs.1, Nat.le_trans (Nat.le_add_right _ _) hcs.2⟩ ⟨_, rfl, bz_0.1⟩ (by cases h; rfl)
def b_L_law_1315 (L : Nat) (xs : Nat → Int32) (k18 : Int32 → qX → qI → Option (Int32 × qI × qX)) (x3 : Int32) (X : qX) (I : qI) : Option (Int32 × qI × qX) :=
  q_b1 (q_rdO xs L (x3 + (nI 1))) fun v1 =>
  q_b3 (f_X11_text 64 v1 X I) fun v3 I4 X5 =>
  q_b1 (q_rdO xs L (x3 + (nI 1))) fun v9 =>
  q_b2 (f_X12_text 269 v9 I4) fun v11 I12 =>
  if v3 = v11 then
    k18 (x3 + (nI 6)) X5 I12
  else
    some ((nI 0), I12, X5)
set_option maxRecDepth 100000 in
set_option maxHeartbeats 4000000 in
theorem p_L_law_1315 {l : Launch} {Γ : qC} {g : qG} {z : Int32 × qI × qX} {L cells slots : Nat} {xs : Nat → Int32} {nm : String} {k18 : Int32 → qX → qI → Option (Int32 × qI × qX)} (hΓ : q_gm Γ) (hg : q_Ok l Γ RL cL_law 4 room_1 nm (some .boolean) g) (hr : q_Rt cL_law (some .boolean) room_1 (some (.int z.1), z.2.1, z.2.2) g) (hS : q_ol Γ 0 = L ∧ q_ov Γ 0 = xs) (hcs : cells + 1 ≤ room_1.cells ∧ slots + 96 ≤ room_1.slots) (hk : ∀ c s, c ≤ cells + 1 → s ≤ slots + 96 → ∀ (x3 : Int32) (X : qX) (I : qI), q_Lay X → q_kd X 64 = some (13, 9) → q_kd X 269 = some (14, 42) → k18 x3 X I = some z → g c s 18 [(0, .ref 0), (1, .ref 64), (2, .ref 269), (3, .int x3)] [] I X) (x3 : Int32) (X : qX) (I : qI) (hX : q_Lay X) (k_o1 : q_kd X 64 = some (13, 9)) (k_o2 : q_kd X 269 = some (14, 42)) (h : b_L_law_1315 L xs k18 x3 X I = some z) : g cells slots 1315 [(0, .ref 0), (1, .ref 64), (2, .ref 269), (3, .int x3)] [] I X := by
  unfold b_L_law_1315 at h
  refine r_aload_n hg 1 dL_law_1315 rfl rfl ?_
  refine r_aload_n hg 0 dL_law_1316 rfl rfl ?_
  refine r_iload_n hg 3 dL_law_1317 rfl rfl ?_
  refine r_iconst hg dL_law_1318 ci_1 ?_
  refine r_iadd hg dL_law_1319 ?_
  obtain ⟨v1, e2, h⟩ := q_b1_some h
  refine r_ialdC hg dL_law_1320 (by decide) hS.1 hS.2 e2 ?_
  obtain ⟨v3, I4, X5, e6, h⟩ := q_b3_some h
  refine r_aV1i hg dL_law_1321 mt_X11_text ml_L_133 mv_X11_text k_o1 (s_X11_text hΓ hX k_o1 e6) ⟨Nat.le_of_ble_eq_true rfl, Nat.le_of_ble_eq_true rfl⟩ hcs (Nat.le_of_ble_eq_true rfl) ?_
  obtain ⟨hX8, e7⟩ := x_X11_text hX k_o1 e6
  refine r_aload_n hg 2 dL_law_1324 rfl rfl ?_
  refine r_aload_n hg 0 dL_law_1325 rfl rfl ?_
  refine r_iload_n hg 3 dL_law_1326 rfl rfl ?_
  refine r_iconst hg dL_law_1327 ci_1 ?_
  refine r_iadd hg dL_law_1328 ?_
  obtain ⟨v9, e10, h⟩ := q_b1_some h
  refine r_ialdC hg dL_law_1329 (by decide) hS.1 hS.2 e10 ?_
  obtain ⟨v11, I12, e13, h⟩ := q_b2_some h
  refine r_cV1i hg dL_law_1330 mt_X12_text ml_L_136 mv_X12_text (e7 _ _ k_o2) (s_X12_text hΓ hX8 (e7 _ _ k_o2) e13) ⟨Nat.le_of_ble_eq_true rfl, Nat.le_of_ble_eq_true rfl⟩ hcs (Nat.le_of_ble_eq_true rfl) ?_
  refine r_icmp_eq hg 2173 dL_law_1333 (by decide) (fun c14 => ?_) (fun c14 => ?_)
  · rw [if_pos c14] at h
    refine r_iinc hg 3 (v := (x3 + (nI 6))) (L' := [(3, .int (x3 + (nI 6))), (0, .ref 0), (1, .ref 64), (2, .ref 269)]) dL_law_2173 rfl (by rw [ci_6]) (by decide) rfl ?_
    refine r_goto hg 18 dL_law_2176 (by decide) ?_
    refine r_sub hg [1, 2, 3, 0] rfl ?_
    exact hk _ _ (Nat.le_refl _) (Nat.le_refl _) _ _ _ hX8 (e7 _ _ k_o1) (e7 _ _ k_o2) h
  · rw [if_neg c14] at h
    refine r_iconst hg dL_law_1336 ci_0 ?_
    exact r_ireturn hr dL_law_1337 hcs ⟨_, rfl, bz_0.1⟩ (by cases h; rfl)
def b_L_law_1338 (L : Nat) (xs : Nat → Int32) (k18 : Int32 → qX → qI → Option (Int32 × qI × qX)) (x3 : Int32) (X : qX) (I : qI) : Option (Int32 × qI × qX) :=
  q_b1 (q_rdO xs L (x3 + (nI 1))) fun v1 =>
  q_b1 (q_rdO xs L (x3 + (nI 2))) fun v3 =>
  q_b1 (f_X11_of 64 v1 v3 X I) fun v5 =>
  q_b1 (q_rdO xs L (x3 + (nI 1))) fun v7 =>
  q_b1 (q_rdO xs L (x3 + (nI 2))) fun v9 =>
  q_b1 (f_X12_of 269 v7 v9 I) fun v11 =>
  if v5 = v11 then
    k18 (x3 + (nI 6)) X I
  else
    some ((nI 0), I, X)
set_option maxRecDepth 100000 in
set_option maxHeartbeats 4000000 in
theorem p_L_law_1338 {l : Launch} {Γ : qC} {g : qG} {z : Int32 × qI × qX} {L cells slots : Nat} {xs : Nat → Int32} {nm : String} {k18 : Int32 → qX → qI → Option (Int32 × qI × qX)} (hΓ : q_gm Γ) (hg : q_Ok l Γ RL cL_law 4 room_1 nm (some .boolean) g) (hr : q_Rt cL_law (some .boolean) room_1 (some (.int z.1), z.2.1, z.2.2) g) (hS : q_ol Γ 0 = L ∧ q_ov Γ 0 = xs) (hcs : cells + 1 ≤ room_1.cells ∧ slots + 96 ≤ room_1.slots) (hk : ∀ c s, c ≤ cells + 1 → s ≤ slots + 96 → ∀ (x3 : Int32) (X : qX) (I : qI), q_Lay X → q_kd X 64 = some (13, 9) → q_kd X 269 = some (14, 42) → k18 x3 X I = some z → g c s 18 [(0, .ref 0), (1, .ref 64), (2, .ref 269), (3, .int x3)] [] I X) (x3 : Int32) (X : qX) (I : qI) (hX : q_Lay X) (k_o1 : q_kd X 64 = some (13, 9)) (k_o2 : q_kd X 269 = some (14, 42)) (h : b_L_law_1338 L xs k18 x3 X I = some z) : g cells slots 1338 [(0, .ref 0), (1, .ref 64), (2, .ref 269), (3, .int x3)] [] I X := by
  unfold b_L_law_1338 at h
  refine r_aload_n hg 1 dL_law_1338 rfl rfl ?_
  refine r_aload_n hg 0 dL_law_1339 rfl rfl ?_
  refine r_iload_n hg 3 dL_law_1340 rfl rfl ?_
  refine r_iconst hg dL_law_1341 ci_1 ?_
  refine r_iadd hg dL_law_1342 ?_
  obtain ⟨v1, e2, h⟩ := q_b1_some h
  refine r_ialdC hg dL_law_1343 (by decide) hS.1 hS.2 e2 ?_
  refine r_aload_n hg 0 dL_law_1344 rfl rfl ?_
  refine r_iload_n hg 3 dL_law_1345 rfl rfl ?_
  refine r_iconst hg dL_law_1346 ci_2 ?_
  refine r_iadd hg dL_law_1347 ?_
  obtain ⟨v3, e4, h⟩ := q_b1_some h
  refine r_ialdC hg dL_law_1348 (by decide) hS.1 hS.2 e4 ?_
  obtain ⟨v5, e6, h⟩ := q_b1_some h
  refine r_cV2i hg dL_law_1349 mt_X11_of ml_L_137 mv_X11_of k_o1 (s_X11_of hΓ hX k_o1 e6) ⟨Nat.le_of_ble_eq_true rfl, Nat.le_of_ble_eq_true rfl⟩ ⟨Nat.le_of_succ_le hcs.1, Nat.le_trans (Nat.le_add_right _ _) hcs.2⟩ (Nat.le_of_ble_eq_true rfl) ?_
  refine r_aload_n hg 2 dL_law_1352 rfl rfl ?_
  refine r_aload_n hg 0 dL_law_1353 rfl rfl ?_
  refine r_iload_n hg 3 dL_law_1354 rfl rfl ?_
  refine r_iconst hg dL_law_1355 ci_1 ?_
  refine r_iadd hg dL_law_1356 ?_
  obtain ⟨v7, e8, h⟩ := q_b1_some h
  refine r_ialdC hg dL_law_1357 (by decide) hS.1 hS.2 e8 ?_
  refine r_aload_n hg 0 dL_law_1358 rfl rfl ?_
  refine r_iload_n hg 3 dL_law_1359 rfl rfl ?_
  refine r_iconst hg dL_law_1360 ci_2 ?_
  refine r_iadd hg dL_law_1361 ?_
  obtain ⟨v9, e10, h⟩ := q_b1_some h
  refine r_ialdC hg dL_law_1362 (by decide) hS.1 hS.2 e10 ?_
  obtain ⟨v11, e12, h⟩ := q_b1_some h
  refine r_cV2i hg dL_law_1363 mt_X12_of ml_L_140 mv_X12_of k_o2 (s_X12_of hΓ hX k_o2 e12) ⟨Nat.le_of_ble_eq_true rfl, Nat.le_of_ble_eq_true rfl⟩ ⟨Nat.le_of_succ_le hcs.1, Nat.le_trans (Nat.le_add_right _ _) hcs.2⟩ (Nat.le_of_ble_eq_true rfl) ?_
  refine r_icmp_eq hg 2173 dL_law_1366 (by decide) (fun c13 => ?_) (fun c13 => ?_)
  · rw [if_pos c13] at h
    refine r_iinc hg 3 (v := (x3 + (nI 6))) (L' := [(3, .int (x3 + (nI 6))), (0, .ref 0), (1, .ref 64), (2, .ref 269)]) dL_law_2173 rfl (by rw [ci_6]) (by decide) rfl ?_
    refine r_goto hg 18 dL_law_2176 (by decide) ?_
    refine r_sub hg [1, 2, 3, 0] rfl ?_
    exact hk _ _ (Nat.le_succ _) (Nat.le_add_right _ _) _ _ _ hX k_o1 k_o2 h
  · rw [if_neg c13] at h
    refine r_iconst hg dL_law_1369 ci_0 ?_
    exact r_ireturn hr dL_law_1370 ⟨Nat.le_of_succ_le hcs.1, Nat.le_trans (Nat.le_add_right _ _) hcs.2⟩ ⟨_, rfl, bz_0.1⟩ (by cases h; rfl)
def b_L_law_1371 (L : Nat) (xs : Nat → Int32) (k18 : Int32 → qX → qI → Option (Int32 × qI × qX)) (x3 : Int32) (X : qX) (I : qI) : Option (Int32 × qI × qX) :=
  q_b1 (q_rdO xs L (x3 + (nI 1))) fun v1 =>
  q_b1 (f_X11_why 64 v1 I) fun v3 =>
  q_b1 (q_rdO xs L (x3 + (nI 1))) fun v5 =>
  q_b1 (f_X12_why 269 v5 I) fun v7 =>
  if v3 = v7 then
    k18 (x3 + (nI 6)) X I
  else
    some ((nI 0), I, X)
set_option maxRecDepth 100000 in
set_option maxHeartbeats 4000000 in
theorem p_L_law_1371 {l : Launch} {Γ : qC} {g : qG} {z : Int32 × qI × qX} {L cells slots : Nat} {xs : Nat → Int32} {nm : String} {k18 : Int32 → qX → qI → Option (Int32 × qI × qX)} (hΓ : q_gm Γ) (hg : q_Ok l Γ RL cL_law 4 room_1 nm (some .boolean) g) (hr : q_Rt cL_law (some .boolean) room_1 (some (.int z.1), z.2.1, z.2.2) g) (hS : q_ol Γ 0 = L ∧ q_ov Γ 0 = xs) (hcs : cells + 1 ≤ room_1.cells ∧ slots + 96 ≤ room_1.slots) (hk : ∀ c s, c ≤ cells + 1 → s ≤ slots + 96 → ∀ (x3 : Int32) (X : qX) (I : qI), q_Lay X → q_kd X 64 = some (13, 9) → q_kd X 269 = some (14, 42) → k18 x3 X I = some z → g c s 18 [(0, .ref 0), (1, .ref 64), (2, .ref 269), (3, .int x3)] [] I X) (x3 : Int32) (X : qX) (I : qI) (hX : q_Lay X) (k_o1 : q_kd X 64 = some (13, 9)) (k_o2 : q_kd X 269 = some (14, 42)) (h : b_L_law_1371 L xs k18 x3 X I = some z) : g cells slots 1371 [(0, .ref 0), (1, .ref 64), (2, .ref 269), (3, .int x3)] [] I X := by
  unfold b_L_law_1371 at h
  refine r_aload_n hg 1 dL_law_1371 rfl rfl ?_
  refine r_aload_n hg 0 dL_law_1372 rfl rfl ?_
  refine r_iload_n hg 3 dL_law_1373 rfl rfl ?_
  refine r_iconst hg dL_law_1374 ci_1 ?_
  refine r_iadd hg dL_law_1375 ?_
  obtain ⟨v1, e2, h⟩ := q_b1_some h
  refine r_ialdC hg dL_law_1376 (by decide) hS.1 hS.2 e2 ?_
  obtain ⟨v3, e4, h⟩ := q_b1_some h
  refine r_cV1i hg dL_law_1377 mt_X11_why ml_L_141 mv_X11_why k_o1 (s_X11_why hΓ hX k_o1 e4) ⟨Nat.le_of_ble_eq_true rfl, Nat.le_of_ble_eq_true rfl⟩ ⟨Nat.le_of_succ_le hcs.1, Nat.le_trans (Nat.le_add_right _ _) hcs.2⟩ (Nat.le_of_ble_eq_true rfl) ?_
  refine r_aload_n hg 2 dL_law_1380 rfl rfl ?_
  refine r_aload_n hg 0 dL_law_1381 rfl rfl ?_
  refine r_iload_n hg 3 dL_law_1382 rfl rfl ?_
  refine r_iconst hg dL_law_1383 ci_1 ?_
  refine r_iadd hg dL_law_1384 ?_
  obtain ⟨v5, e6, h⟩ := q_b1_some h
  refine r_ialdC hg dL_law_1385 (by decide) hS.1 hS.2 e6 ?_
  obtain ⟨v7, e8, h⟩ := q_b1_some h
  refine r_cV1i hg dL_law_1386 mt_X12_why ml_L_144 mv_X12_why k_o2 (s_X12_why hΓ hX k_o2 e8) ⟨Nat.le_of_ble_eq_true rfl, Nat.le_of_ble_eq_true rfl⟩ ⟨Nat.le_of_succ_le hcs.1, Nat.le_trans (Nat.le_add_right _ _) hcs.2⟩ (Nat.le_of_ble_eq_true rfl) ?_
  refine r_icmp_eq hg 2173 dL_law_1389 (by decide) (fun c9 => ?_) (fun c9 => ?_)
  · rw [if_pos c9] at h
    refine r_iinc hg 3 (v := (x3 + (nI 6))) (L' := [(3, .int (x3 + (nI 6))), (0, .ref 0), (1, .ref 64), (2, .ref 269)]) dL_law_2173 rfl (by rw [ci_6]) (by decide) rfl ?_
    refine r_goto hg 18 dL_law_2176 (by decide) ?_
    refine r_sub hg [1, 2, 3, 0] rfl ?_
    exact hk _ _ (Nat.le_succ _) (Nat.le_add_right _ _) _ _ _ hX k_o1 k_o2 h
  · rw [if_neg c9] at h
    refine r_iconst hg dL_law_1392 ci_0 ?_
    exact r_ireturn hr dL_law_1393 ⟨Nat.le_of_succ_le hcs.1, Nat.le_trans (Nat.le_add_right _ _) hcs.2⟩ ⟨_, rfl, bz_0.1⟩ (by cases h; rfl)
def b_L_law_1394 (L : Nat) (xs : Nat → Int32) (k18 : Int32 → qX → qI → Option (Int32 × qI × qX)) (x3 : Int32) (X : qX) (I : qI) : Option (Int32 × qI × qX) :=
  q_b1 (q_rdO xs L (x3 + (nI 1))) fun v1 =>
  q_b1 (q_rdO xs L (x3 + (nI 2))) fun v3 =>
  q_b1 (q_rdO xs L (x3 + (nI 3))) fun v5 =>
  q_b1 (q_rdO xs L (x3 + (nI 4))) fun v7 =>
  q_b2 (f_X11_rules 64 v1 v3 v5 v7 X I) fun v9 I10 =>
  q_b1 (q_rdO xs L (x3 + (nI 1))) fun v12 =>
  q_b1 (q_rdO xs L (x3 + (nI 2))) fun v14 =>
  q_b1 (q_rdO xs L (x3 + (nI 3))) fun v16 =>
  q_b1 (q_rdO xs L (x3 + (nI 4))) fun v18 =>
  q_b2 (f_X12_rules 269 v12 v14 v16 v18 I10) fun v20 I21 =>
  if v9 = v20 then
    k18 (x3 + (nI 6)) X I21
  else
    some ((nI 0), I21, X)
set_option maxRecDepth 100000 in
set_option maxHeartbeats 4000000 in
theorem p_L_law_1394 {l : Launch} {Γ : qC} {g : qG} {z : Int32 × qI × qX} {L cells slots : Nat} {xs : Nat → Int32} {nm : String} {k18 : Int32 → qX → qI → Option (Int32 × qI × qX)} (hΓ : q_gm Γ) (hg : q_Ok l Γ RL cL_law 4 room_1 nm (some .boolean) g) (hr : q_Rt cL_law (some .boolean) room_1 (some (.int z.1), z.2.1, z.2.2) g) (hS : q_ol Γ 0 = L ∧ q_ov Γ 0 = xs) (hcs : cells + 1 ≤ room_1.cells ∧ slots + 96 ≤ room_1.slots) (hk : ∀ c s, c ≤ cells + 1 → s ≤ slots + 96 → ∀ (x3 : Int32) (X : qX) (I : qI), q_Lay X → q_kd X 64 = some (13, 9) → q_kd X 269 = some (14, 42) → k18 x3 X I = some z → g c s 18 [(0, .ref 0), (1, .ref 64), (2, .ref 269), (3, .int x3)] [] I X) (x3 : Int32) (X : qX) (I : qI) (hX : q_Lay X) (k_o1 : q_kd X 64 = some (13, 9)) (k_o2 : q_kd X 269 = some (14, 42)) (h : b_L_law_1394 L xs k18 x3 X I = some z) : g cells slots 1394 [(0, .ref 0), (1, .ref 64), (2, .ref 269), (3, .int x3)] [] I X := by
  unfold b_L_law_1394 at h
  refine r_aload_n hg 1 dL_law_1394 rfl rfl ?_
  refine r_aload_n hg 0 dL_law_1395 rfl rfl ?_
  refine r_iload_n hg 3 dL_law_1396 rfl rfl ?_
  refine r_iconst hg dL_law_1397 ci_1 ?_
  refine r_iadd hg dL_law_1398 ?_
  obtain ⟨v1, e2, h⟩ := q_b1_some h
  refine r_ialdC hg dL_law_1399 (by decide) hS.1 hS.2 e2 ?_
  refine r_aload_n hg 0 dL_law_1400 rfl rfl ?_
  refine r_iload_n hg 3 dL_law_1401 rfl rfl ?_
  refine r_iconst hg dL_law_1402 ci_2 ?_
  refine r_iadd hg dL_law_1403 ?_
  obtain ⟨v3, e4, h⟩ := q_b1_some h
  refine r_ialdC hg dL_law_1404 (by decide) hS.1 hS.2 e4 ?_
  refine r_aload_n hg 0 dL_law_1405 rfl rfl ?_
  refine r_iload_n hg 3 dL_law_1406 rfl rfl ?_
  refine r_iconst hg dL_law_1407 ci_3 ?_
  refine r_iadd hg dL_law_1408 ?_
  obtain ⟨v5, e6, h⟩ := q_b1_some h
  refine r_ialdC hg dL_law_1409 (by decide) hS.1 hS.2 e6 ?_
  refine r_aload_n hg 0 dL_law_1410 rfl rfl ?_
  refine r_iload_n hg 3 dL_law_1411 rfl rfl ?_
  refine r_iconst hg dL_law_1412 ci_4 ?_
  refine r_iadd hg dL_law_1413 ?_
  obtain ⟨v7, e8, h⟩ := q_b1_some h
  refine r_ialdC hg dL_law_1414 (by decide) hS.1 hS.2 e8 ?_
  obtain ⟨v9, I10, e11, h⟩ := q_b2_some h
  refine r_cV4i hg dL_law_1415 mt_X11_rules ml_L_145 mv_X11_rules k_o1 (s_X11_rules hΓ hX k_o1 e11) ⟨Nat.le_of_ble_eq_true rfl, Nat.le_of_ble_eq_true rfl⟩ ⟨Nat.le_of_succ_le hcs.1, Nat.le_trans (Nat.le_add_right _ _) hcs.2⟩ (Nat.le_of_ble_eq_true rfl) ?_
  refine r_aload_n hg 2 dL_law_1418 rfl rfl ?_
  refine r_aload_n hg 0 dL_law_1419 rfl rfl ?_
  refine r_iload_n hg 3 dL_law_1420 rfl rfl ?_
  refine r_iconst hg dL_law_1421 ci_1 ?_
  refine r_iadd hg dL_law_1422 ?_
  obtain ⟨v12, e13, h⟩ := q_b1_some h
  refine r_ialdC hg dL_law_1423 (by decide) hS.1 hS.2 e13 ?_
  refine r_aload_n hg 0 dL_law_1424 rfl rfl ?_
  refine r_iload_n hg 3 dL_law_1425 rfl rfl ?_
  refine r_iconst hg dL_law_1426 ci_2 ?_
  refine r_iadd hg dL_law_1427 ?_
  obtain ⟨v14, e15, h⟩ := q_b1_some h
  refine r_ialdC hg dL_law_1428 (by decide) hS.1 hS.2 e15 ?_
  refine r_aload_n hg 0 dL_law_1429 rfl rfl ?_
  refine r_iload_n hg 3 dL_law_1430 rfl rfl ?_
  refine r_iconst hg dL_law_1431 ci_3 ?_
  refine r_iadd hg dL_law_1432 ?_
  obtain ⟨v16, e17, h⟩ := q_b1_some h
  refine r_ialdC hg dL_law_1433 (by decide) hS.1 hS.2 e17 ?_
  refine r_aload_n hg 0 dL_law_1434 rfl rfl ?_
  refine r_iload_n hg 3 dL_law_1435 rfl rfl ?_
  refine r_iconst hg dL_law_1436 ci_4 ?_
  refine r_iadd hg dL_law_1437 ?_
  obtain ⟨v18, e19, h⟩ := q_b1_some h
  refine r_ialdC hg dL_law_1438 (by decide) hS.1 hS.2 e19 ?_
  obtain ⟨v20, I21, e22, h⟩ := q_b2_some h
  refine r_cV4i hg dL_law_1439 mt_X12_rules ml_L_148 mv_X12_rules k_o2 (s_X12_rules hΓ hX k_o2 e22) ⟨Nat.le_of_ble_eq_true rfl, Nat.le_of_ble_eq_true rfl⟩ ⟨Nat.le_of_succ_le hcs.1, Nat.le_trans (Nat.le_add_right _ _) hcs.2⟩ (Nat.le_of_ble_eq_true rfl) ?_
  refine r_icmp_eq hg 2173 dL_law_1442 (by decide) (fun c23 => ?_) (fun c23 => ?_)
  · rw [if_pos c23] at h
    refine r_iinc hg 3 (v := (x3 + (nI 6))) (L' := [(3, .int (x3 + (nI 6))), (0, .ref 0), (1, .ref 64), (2, .ref 269)]) dL_law_2173 rfl (by rw [ci_6]) (by decide) rfl ?_
    refine r_goto hg 18 dL_law_2176 (by decide) ?_
    refine r_sub hg [1, 2, 3, 0] rfl ?_
    exact hk _ _ (Nat.le_succ _) (Nat.le_add_right _ _) _ _ _ hX k_o1 k_o2 h
  · rw [if_neg c23] at h
    refine r_iconst hg dL_law_1445 ci_0 ?_
    exact r_ireturn hr dL_law_1446 ⟨Nat.le_of_succ_le hcs.1, Nat.le_trans (Nat.le_add_right _ _) hcs.2⟩ ⟨_, rfl, bz_0.1⟩ (by cases h; rfl)
def b_L_law_1447 (L : Nat) (xs : Nat → Int32) (k18 : Int32 → qX → qI → Option (Int32 × qI × qX)) (x3 : Int32) (X : qX) (I : qI) : Option (Int32 × qI × qX) :=
  q_b1 (q_rdO xs L (x3 + (nI 1))) fun v1 =>
  q_b1 (q_rdO xs L (x3 + (nI 2))) fun v3 =>
  q_b1 (q_rdO xs L (x3 + (nI 3))) fun v5 =>
  q_b2 (f_X11_book 64 v1 v3 v5 I) fun v7 I8 =>
  q_b1 (q_rdO xs L (x3 + (nI 1))) fun v10 =>
  q_b1 (q_rdO xs L (x3 + (nI 2))) fun v12 =>
  q_b1 (q_rdO xs L (x3 + (nI 3))) fun v14 =>
  q_b2 (f_X12_book 269 v10 v12 v14 I8) fun v16 I17 =>
  if v7 = v16 then
    k18 (x3 + (nI 6)) X I17
  else
    some ((nI 0), I17, X)
set_option maxRecDepth 100000 in
set_option maxHeartbeats 4000000 in
theorem p_L_law_1447 {l : Launch} {Γ : qC} {g : qG} {z : Int32 × qI × qX} {L cells slots : Nat} {xs : Nat → Int32} {nm : String} {k18 : Int32 → qX → qI → Option (Int32 × qI × qX)} (hΓ : q_gm Γ) (hg : q_Ok l Γ RL cL_law 4 room_1 nm (some .boolean) g) (hr : q_Rt cL_law (some .boolean) room_1 (some (.int z.1), z.2.1, z.2.2) g) (hS : q_ol Γ 0 = L ∧ q_ov Γ 0 = xs) (hcs : cells + 1 ≤ room_1.cells ∧ slots + 96 ≤ room_1.slots) (hk : ∀ c s, c ≤ cells + 1 → s ≤ slots + 96 → ∀ (x3 : Int32) (X : qX) (I : qI), q_Lay X → q_kd X 64 = some (13, 9) → q_kd X 269 = some (14, 42) → k18 x3 X I = some z → g c s 18 [(0, .ref 0), (1, .ref 64), (2, .ref 269), (3, .int x3)] [] I X) (x3 : Int32) (X : qX) (I : qI) (hX : q_Lay X) (k_o1 : q_kd X 64 = some (13, 9)) (k_o2 : q_kd X 269 = some (14, 42)) (h : b_L_law_1447 L xs k18 x3 X I = some z) : g cells slots 1447 [(0, .ref 0), (1, .ref 64), (2, .ref 269), (3, .int x3)] [] I X := by
  unfold b_L_law_1447 at h
  refine r_aload_n hg 1 dL_law_1447 rfl rfl ?_
  refine r_aload_n hg 0 dL_law_1448 rfl rfl ?_
  refine r_iload_n hg 3 dL_law_1449 rfl rfl ?_
  refine r_iconst hg dL_law_1450 ci_1 ?_
  refine r_iadd hg dL_law_1451 ?_
  obtain ⟨v1, e2, h⟩ := q_b1_some h
  refine r_ialdC hg dL_law_1452 (by decide) hS.1 hS.2 e2 ?_
  refine r_aload_n hg 0 dL_law_1453 rfl rfl ?_
  refine r_iload_n hg 3 dL_law_1454 rfl rfl ?_
  refine r_iconst hg dL_law_1455 ci_2 ?_
  refine r_iadd hg dL_law_1456 ?_
  obtain ⟨v3, e4, h⟩ := q_b1_some h
  refine r_ialdC hg dL_law_1457 (by decide) hS.1 hS.2 e4 ?_
  refine r_aload_n hg 0 dL_law_1458 rfl rfl ?_
  refine r_iload_n hg 3 dL_law_1459 rfl rfl ?_
  refine r_iconst hg dL_law_1460 ci_3 ?_
  refine r_iadd hg dL_law_1461 ?_
  obtain ⟨v5, e6, h⟩ := q_b1_some h
  refine r_ialdC hg dL_law_1462 (by decide) hS.1 hS.2 e6 ?_
  obtain ⟨v7, I8, e9, h⟩ := q_b2_some h
  refine r_cV3i hg dL_law_1463 mt_X11_book ml_L_149 mv_X11_book k_o1 (s_X11_book hΓ hX k_o1 e9) ⟨Nat.le_of_ble_eq_true rfl, Nat.le_of_ble_eq_true rfl⟩ ⟨Nat.le_of_succ_le hcs.1, Nat.le_trans (Nat.le_add_right _ _) hcs.2⟩ (Nat.le_of_ble_eq_true rfl) ?_
  refine r_aload_n hg 2 dL_law_1466 rfl rfl ?_
  refine r_aload_n hg 0 dL_law_1467 rfl rfl ?_
  refine r_iload_n hg 3 dL_law_1468 rfl rfl ?_
  refine r_iconst hg dL_law_1469 ci_1 ?_
  refine r_iadd hg dL_law_1470 ?_
  obtain ⟨v10, e11, h⟩ := q_b1_some h
  refine r_ialdC hg dL_law_1471 (by decide) hS.1 hS.2 e11 ?_
  refine r_aload_n hg 0 dL_law_1472 rfl rfl ?_
  refine r_iload_n hg 3 dL_law_1473 rfl rfl ?_
  refine r_iconst hg dL_law_1474 ci_2 ?_
  refine r_iadd hg dL_law_1475 ?_
  obtain ⟨v12, e13, h⟩ := q_b1_some h
  refine r_ialdC hg dL_law_1476 (by decide) hS.1 hS.2 e13 ?_
  refine r_aload_n hg 0 dL_law_1477 rfl rfl ?_
  refine r_iload_n hg 3 dL_law_1478 rfl rfl ?_
  refine r_iconst hg dL_law_1479 ci_3 ?_
  refine r_iadd hg dL_law_1480 ?_
  obtain ⟨v14, e15, h⟩ := q_b1_some h
  refine r_ialdC hg dL_law_1481 (by decide) hS.1 hS.2 e15 ?_
  obtain ⟨v16, I17, e18, h⟩ := q_b2_some h
  refine r_cV3i hg dL_law_1482 mt_X12_book ml_L_152 mv_X12_book k_o2 (s_X12_book hΓ hX k_o2 e18) ⟨Nat.le_of_ble_eq_true rfl, Nat.le_of_ble_eq_true rfl⟩ ⟨Nat.le_of_succ_le hcs.1, Nat.le_trans (Nat.le_add_right _ _) hcs.2⟩ (Nat.le_of_ble_eq_true rfl) ?_
  refine r_icmp_eq hg 2173 dL_law_1485 (by decide) (fun c19 => ?_) (fun c19 => ?_)
  · rw [if_pos c19] at h
    refine r_iinc hg 3 (v := (x3 + (nI 6))) (L' := [(3, .int (x3 + (nI 6))), (0, .ref 0), (1, .ref 64), (2, .ref 269)]) dL_law_2173 rfl (by rw [ci_6]) (by decide) rfl ?_
    refine r_goto hg 18 dL_law_2176 (by decide) ?_
    refine r_sub hg [1, 2, 3, 0] rfl ?_
    exact hk _ _ (Nat.le_succ _) (Nat.le_add_right _ _) _ _ _ hX k_o1 k_o2 h
  · rw [if_neg c19] at h
    refine r_iconst hg dL_law_1488 ci_0 ?_
    exact r_ireturn hr dL_law_1489 ⟨Nat.le_of_succ_le hcs.1, Nat.le_trans (Nat.le_add_right _ _) hcs.2⟩ ⟨_, rfl, bz_0.1⟩ (by cases h; rfl)
def b_L_law_1490 (L : Nat) (xs : Nat → Int32) (k18 : Int32 → qX → qI → Option (Int32 × qI × qX)) (x3 : Int32) (X : qX) (I : qI) : Option (Int32 × qI × qX) :=
  q_b1 (q_rdO xs L (x3 + (nI 1))) fun v1 =>
  q_b1 (q_rdO xs L (x3 + (nI 2))) fun v3 =>
  q_b1 (q_rdO xs L (x3 + (nI 3))) fun v5 =>
  q_b2 (f_X11_note 64 v1 v3 v5 I) fun v7 I8 =>
  q_b1 (q_rdO xs L (x3 + (nI 1))) fun v10 =>
  q_b1 (q_rdO xs L (x3 + (nI 2))) fun v12 =>
  q_b1 (q_rdO xs L (x3 + (nI 3))) fun v14 =>
  q_b2 (f_X12_note 269 v10 v12 v14 I8) fun v16 I17 =>
  if v7 = v16 then
    k18 (x3 + (nI 6)) X I17
  else
    some ((nI 0), I17, X)
set_option maxRecDepth 100000 in
set_option maxHeartbeats 4000000 in
theorem p_L_law_1490 {l : Launch} {Γ : qC} {g : qG} {z : Int32 × qI × qX} {L cells slots : Nat} {xs : Nat → Int32} {nm : String} {k18 : Int32 → qX → qI → Option (Int32 × qI × qX)} (hΓ : q_gm Γ) (hg : q_Ok l Γ RL cL_law 4 room_1 nm (some .boolean) g) (hr : q_Rt cL_law (some .boolean) room_1 (some (.int z.1), z.2.1, z.2.2) g) (hS : q_ol Γ 0 = L ∧ q_ov Γ 0 = xs) (hcs : cells + 1 ≤ room_1.cells ∧ slots + 96 ≤ room_1.slots) (hk : ∀ c s, c ≤ cells + 1 → s ≤ slots + 96 → ∀ (x3 : Int32) (X : qX) (I : qI), q_Lay X → q_kd X 64 = some (13, 9) → q_kd X 269 = some (14, 42) → k18 x3 X I = some z → g c s 18 [(0, .ref 0), (1, .ref 64), (2, .ref 269), (3, .int x3)] [] I X) (x3 : Int32) (X : qX) (I : qI) (hX : q_Lay X) (k_o1 : q_kd X 64 = some (13, 9)) (k_o2 : q_kd X 269 = some (14, 42)) (h : b_L_law_1490 L xs k18 x3 X I = some z) : g cells slots 1490 [(0, .ref 0), (1, .ref 64), (2, .ref 269), (3, .int x3)] [] I X := by
  unfold b_L_law_1490 at h
  refine r_aload_n hg 1 dL_law_1490 rfl rfl ?_
  refine r_aload_n hg 0 dL_law_1491 rfl rfl ?_
  refine r_iload_n hg 3 dL_law_1492 rfl rfl ?_
  refine r_iconst hg dL_law_1493 ci_1 ?_
  refine r_iadd hg dL_law_1494 ?_
  obtain ⟨v1, e2, h⟩ := q_b1_some h
  refine r_ialdC hg dL_law_1495 (by decide) hS.1 hS.2 e2 ?_
  refine r_aload_n hg 0 dL_law_1496 rfl rfl ?_
  refine r_iload_n hg 3 dL_law_1497 rfl rfl ?_
  refine r_iconst hg dL_law_1498 ci_2 ?_
  refine r_iadd hg dL_law_1499 ?_
  obtain ⟨v3, e4, h⟩ := q_b1_some h
  refine r_ialdC hg dL_law_1500 (by decide) hS.1 hS.2 e4 ?_
  refine r_aload_n hg 0 dL_law_1501 rfl rfl ?_
  refine r_iload_n hg 3 dL_law_1502 rfl rfl ?_
  refine r_iconst hg dL_law_1503 ci_3 ?_
  refine r_iadd hg dL_law_1504 ?_
  obtain ⟨v5, e6, h⟩ := q_b1_some h
  refine r_ialdC hg dL_law_1505 (by decide) hS.1 hS.2 e6 ?_
  obtain ⟨v7, I8, e9, h⟩ := q_b2_some h
  refine r_cV3i hg dL_law_1506 mt_X11_note ml_L_153 mv_X11_note k_o1 (s_X11_note hΓ hX k_o1 e9) ⟨Nat.le_of_ble_eq_true rfl, Nat.le_of_ble_eq_true rfl⟩ ⟨Nat.le_of_succ_le hcs.1, Nat.le_trans (Nat.le_add_right _ _) hcs.2⟩ (Nat.le_of_ble_eq_true rfl) ?_
  refine r_aload_n hg 2 dL_law_1509 rfl rfl ?_
  refine r_aload_n hg 0 dL_law_1510 rfl rfl ?_
  refine r_iload_n hg 3 dL_law_1511 rfl rfl ?_
  refine r_iconst hg dL_law_1512 ci_1 ?_
  refine r_iadd hg dL_law_1513 ?_
  obtain ⟨v10, e11, h⟩ := q_b1_some h
  refine r_ialdC hg dL_law_1514 (by decide) hS.1 hS.2 e11 ?_
  refine r_aload_n hg 0 dL_law_1515 rfl rfl ?_
  refine r_iload_n hg 3 dL_law_1516 rfl rfl ?_
  refine r_iconst hg dL_law_1517 ci_2 ?_
  refine r_iadd hg dL_law_1518 ?_
  obtain ⟨v12, e13, h⟩ := q_b1_some h
  refine r_ialdC hg dL_law_1519 (by decide) hS.1 hS.2 e13 ?_
  refine r_aload_n hg 0 dL_law_1520 rfl rfl ?_
  refine r_iload_n hg 3 dL_law_1521 rfl rfl ?_
  refine r_iconst hg dL_law_1522 ci_3 ?_
  refine r_iadd hg dL_law_1523 ?_
  obtain ⟨v14, e15, h⟩ := q_b1_some h
  refine r_ialdC hg dL_law_1524 (by decide) hS.1 hS.2 e15 ?_
  obtain ⟨v16, I17, e18, h⟩ := q_b2_some h
  refine r_cV3i hg dL_law_1525 mt_X12_note ml_L_156 mv_X12_note k_o2 (s_X12_note hΓ hX k_o2 e18) ⟨Nat.le_of_ble_eq_true rfl, Nat.le_of_ble_eq_true rfl⟩ ⟨Nat.le_of_succ_le hcs.1, Nat.le_trans (Nat.le_add_right _ _) hcs.2⟩ (Nat.le_of_ble_eq_true rfl) ?_
  refine r_icmp_eq hg 2173 dL_law_1528 (by decide) (fun c19 => ?_) (fun c19 => ?_)
  · rw [if_pos c19] at h
    refine r_iinc hg 3 (v := (x3 + (nI 6))) (L' := [(3, .int (x3 + (nI 6))), (0, .ref 0), (1, .ref 64), (2, .ref 269)]) dL_law_2173 rfl (by rw [ci_6]) (by decide) rfl ?_
    refine r_goto hg 18 dL_law_2176 (by decide) ?_
    refine r_sub hg [1, 2, 3, 0] rfl ?_
    exact hk _ _ (Nat.le_succ _) (Nat.le_add_right _ _) _ _ _ hX k_o1 k_o2 h
  · rw [if_neg c19] at h
    refine r_iconst hg dL_law_1531 ci_0 ?_
    exact r_ireturn hr dL_law_1532 ⟨Nat.le_of_succ_le hcs.1, Nat.le_trans (Nat.le_add_right _ _) hcs.2⟩ ⟨_, rfl, bz_0.1⟩ (by cases h; rfl)
def b_L_law_1533 (L : Nat) (xs : Nat → Int32) (k18 : Int32 → qX → qI → Option (Int32 × qI × qX)) (x3 : Int32) (X : qX) (I : qI) : Option (Int32 × qI × qX) :=
  q_b1 (q_rdO xs L (x3 + (nI 1))) fun v1 =>
  q_b1 (q_rdO xs L (x3 + (nI 2))) fun v3 =>
  q_b1 (f_X11_read 64 v1 v3 I) fun v5 =>
  q_b1 (q_rdO xs L (x3 + (nI 1))) fun v7 =>
  q_b1 (q_rdO xs L (x3 + (nI 2))) fun v9 =>
  q_b1 (f_X12_read 269 v7 v9 I) fun v11 =>
  if v5 = v11 then
    k18 (x3 + (nI 6)) X I
  else
    some ((nI 0), I, X)
set_option maxRecDepth 100000 in
set_option maxHeartbeats 4000000 in
theorem p_L_law_1533 {l : Launch} {Γ : qC} {g : qG} {z : Int32 × qI × qX} {L cells slots : Nat} {xs : Nat → Int32} {nm : String} {k18 : Int32 → qX → qI → Option (Int32 × qI × qX)} (hΓ : q_gm Γ) (hg : q_Ok l Γ RL cL_law 4 room_1 nm (some .boolean) g) (hr : q_Rt cL_law (some .boolean) room_1 (some (.int z.1), z.2.1, z.2.2) g) (hS : q_ol Γ 0 = L ∧ q_ov Γ 0 = xs) (hcs : cells + 1 ≤ room_1.cells ∧ slots + 96 ≤ room_1.slots) (hk : ∀ c s, c ≤ cells + 1 → s ≤ slots + 96 → ∀ (x3 : Int32) (X : qX) (I : qI), q_Lay X → q_kd X 64 = some (13, 9) → q_kd X 269 = some (14, 42) → k18 x3 X I = some z → g c s 18 [(0, .ref 0), (1, .ref 64), (2, .ref 269), (3, .int x3)] [] I X) (x3 : Int32) (X : qX) (I : qI) (hX : q_Lay X) (k_o1 : q_kd X 64 = some (13, 9)) (k_o2 : q_kd X 269 = some (14, 42)) (h : b_L_law_1533 L xs k18 x3 X I = some z) : g cells slots 1533 [(0, .ref 0), (1, .ref 64), (2, .ref 269), (3, .int x3)] [] I X := by
  unfold b_L_law_1533 at h
  refine r_aload_n hg 1 dL_law_1533 rfl rfl ?_
  refine r_aload_n hg 0 dL_law_1534 rfl rfl ?_
  refine r_iload_n hg 3 dL_law_1535 rfl rfl ?_
  refine r_iconst hg dL_law_1536 ci_1 ?_
  refine r_iadd hg dL_law_1537 ?_
  obtain ⟨v1, e2, h⟩ := q_b1_some h
  refine r_ialdC hg dL_law_1538 (by decide) hS.1 hS.2 e2 ?_
  refine r_aload_n hg 0 dL_law_1539 rfl rfl ?_
  refine r_iload_n hg 3 dL_law_1540 rfl rfl ?_
  refine r_iconst hg dL_law_1541 ci_2 ?_
  refine r_iadd hg dL_law_1542 ?_
  obtain ⟨v3, e4, h⟩ := q_b1_some h
  refine r_ialdC hg dL_law_1543 (by decide) hS.1 hS.2 e4 ?_
  obtain ⟨v5, e6, h⟩ := q_b1_some h
  refine r_cV2i hg dL_law_1544 mt_X11_read ml_L_157 mv_X11_read k_o1 (s_X11_read hΓ hX k_o1 e6) ⟨Nat.le_of_ble_eq_true rfl, Nat.le_of_ble_eq_true rfl⟩ ⟨Nat.le_of_succ_le hcs.1, Nat.le_trans (Nat.le_add_right _ _) hcs.2⟩ (Nat.le_of_ble_eq_true rfl) ?_
  refine r_aload_n hg 2 dL_law_1547 rfl rfl ?_
  refine r_aload_n hg 0 dL_law_1548 rfl rfl ?_
  refine r_iload_n hg 3 dL_law_1549 rfl rfl ?_
  refine r_iconst hg dL_law_1550 ci_1 ?_
  refine r_iadd hg dL_law_1551 ?_
  obtain ⟨v7, e8, h⟩ := q_b1_some h
  refine r_ialdC hg dL_law_1552 (by decide) hS.1 hS.2 e8 ?_
  refine r_aload_n hg 0 dL_law_1553 rfl rfl ?_
  refine r_iload_n hg 3 dL_law_1554 rfl rfl ?_
  refine r_iconst hg dL_law_1555 ci_2 ?_
  refine r_iadd hg dL_law_1556 ?_
  obtain ⟨v9, e10, h⟩ := q_b1_some h
  refine r_ialdC hg dL_law_1557 (by decide) hS.1 hS.2 e10 ?_
  obtain ⟨v11, e12, h⟩ := q_b1_some h
  refine r_cV2i hg dL_law_1558 mt_X12_read ml_L_160 mv_X12_read k_o2 (s_X12_read hΓ hX k_o2 e12) ⟨Nat.le_of_ble_eq_true rfl, Nat.le_of_ble_eq_true rfl⟩ ⟨Nat.le_of_succ_le hcs.1, Nat.le_trans (Nat.le_add_right _ _) hcs.2⟩ (Nat.le_of_ble_eq_true rfl) ?_
  refine r_icmp_eq hg 2173 dL_law_1561 (by decide) (fun c13 => ?_) (fun c13 => ?_)
  · rw [if_pos c13] at h
    refine r_iinc hg 3 (v := (x3 + (nI 6))) (L' := [(3, .int (x3 + (nI 6))), (0, .ref 0), (1, .ref 64), (2, .ref 269)]) dL_law_2173 rfl (by rw [ci_6]) (by decide) rfl ?_
    refine r_goto hg 18 dL_law_2176 (by decide) ?_
    refine r_sub hg [1, 2, 3, 0] rfl ?_
    exact hk _ _ (Nat.le_succ _) (Nat.le_add_right _ _) _ _ _ hX k_o1 k_o2 h
  · rw [if_neg c13] at h
    refine r_iconst hg dL_law_1564 ci_0 ?_
    exact r_ireturn hr dL_law_1565 ⟨Nat.le_of_succ_le hcs.1, Nat.le_trans (Nat.le_add_right _ _) hcs.2⟩ ⟨_, rfl, bz_0.1⟩ (by cases h; rfl)
def b_L_law_1566 (L : Nat) (xs : Nat → Int32) (k18 : Int32 → qX → qI → Option (Int32 × qI × qX)) (x3 : Int32) (X : qX) (I : qI) : Option (Int32 × qI × qX) :=
  q_b1 (q_rdO xs L (x3 + (nI 1))) fun v1 =>
  q_b1 (q_rdO xs L (x3 + (nI 2))) fun v3 =>
  q_b1 (q_rdO xs L (x3 + (nI 3))) fun v5 =>
  q_b1 (q_rdO xs L (x3 + (nI 4))) fun v7 =>
  q_b1 (q_rdO xs L (x3 + (nI 5))) fun v9 =>
  q_b2 (f_X11_copy 64 v1 v3 v5 v7 v9 I) fun v11 I12 =>
  q_b1 (q_rdO xs L (x3 + (nI 1))) fun v14 =>
  q_b1 (q_rdO xs L (x3 + (nI 2))) fun v16 =>
  q_b1 (q_rdO xs L (x3 + (nI 3))) fun v18 =>
  q_b1 (q_rdO xs L (x3 + (nI 4))) fun v20 =>
  q_b1 (q_rdO xs L (x3 + (nI 5))) fun v22 =>
  q_b2 (f_X12_copy 269 v14 v16 v18 v20 v22 I12) fun v24 I25 =>
  if v11 = v24 then
    k18 (x3 + (nI 6)) X I25
  else
    some ((nI 0), I25, X)
set_option maxRecDepth 100000 in
set_option maxHeartbeats 4000000 in
theorem p_L_law_1566 {l : Launch} {Γ : qC} {g : qG} {z : Int32 × qI × qX} {L cells slots : Nat} {xs : Nat → Int32} {nm : String} {k18 : Int32 → qX → qI → Option (Int32 × qI × qX)} (hΓ : q_gm Γ) (hg : q_Ok l Γ RL cL_law 4 room_1 nm (some .boolean) g) (hr : q_Rt cL_law (some .boolean) room_1 (some (.int z.1), z.2.1, z.2.2) g) (hS : q_ol Γ 0 = L ∧ q_ov Γ 0 = xs) (hcs : cells + 1 ≤ room_1.cells ∧ slots + 96 ≤ room_1.slots) (hk : ∀ c s, c ≤ cells + 1 → s ≤ slots + 96 → ∀ (x3 : Int32) (X : qX) (I : qI), q_Lay X → q_kd X 64 = some (13, 9) → q_kd X 269 = some (14, 42) → k18 x3 X I = some z → g c s 18 [(0, .ref 0), (1, .ref 64), (2, .ref 269), (3, .int x3)] [] I X) (x3 : Int32) (X : qX) (I : qI) (hX : q_Lay X) (k_o1 : q_kd X 64 = some (13, 9)) (k_o2 : q_kd X 269 = some (14, 42)) (h : b_L_law_1566 L xs k18 x3 X I = some z) : g cells slots 1566 [(0, .ref 0), (1, .ref 64), (2, .ref 269), (3, .int x3)] [] I X := by
  unfold b_L_law_1566 at h
  refine r_aload_n hg 1 dL_law_1566 rfl rfl ?_
  refine r_aload_n hg 0 dL_law_1567 rfl rfl ?_
  refine r_iload_n hg 3 dL_law_1568 rfl rfl ?_
  refine r_iconst hg dL_law_1569 ci_1 ?_
  refine r_iadd hg dL_law_1570 ?_
  obtain ⟨v1, e2, h⟩ := q_b1_some h
  refine r_ialdC hg dL_law_1571 (by decide) hS.1 hS.2 e2 ?_
  refine r_aload_n hg 0 dL_law_1572 rfl rfl ?_
  refine r_iload_n hg 3 dL_law_1573 rfl rfl ?_
  refine r_iconst hg dL_law_1574 ci_2 ?_
  refine r_iadd hg dL_law_1575 ?_
  obtain ⟨v3, e4, h⟩ := q_b1_some h
  refine r_ialdC hg dL_law_1576 (by decide) hS.1 hS.2 e4 ?_
  refine r_aload_n hg 0 dL_law_1577 rfl rfl ?_
  refine r_iload_n hg 3 dL_law_1578 rfl rfl ?_
  refine r_iconst hg dL_law_1579 ci_3 ?_
  refine r_iadd hg dL_law_1580 ?_
  obtain ⟨v5, e6, h⟩ := q_b1_some h
  refine r_ialdC hg dL_law_1581 (by decide) hS.1 hS.2 e6 ?_
  refine r_aload_n hg 0 dL_law_1582 rfl rfl ?_
  refine r_iload_n hg 3 dL_law_1583 rfl rfl ?_
  refine r_iconst hg dL_law_1584 ci_4 ?_
  refine r_iadd hg dL_law_1585 ?_
  obtain ⟨v7, e8, h⟩ := q_b1_some h
  refine r_ialdC hg dL_law_1586 (by decide) hS.1 hS.2 e8 ?_
  refine r_aload_n hg 0 dL_law_1587 rfl rfl ?_
  refine r_iload_n hg 3 dL_law_1588 rfl rfl ?_
  refine r_iconst hg dL_law_1589 ci_5 ?_
  refine r_iadd hg dL_law_1590 ?_
  obtain ⟨v9, e10, h⟩ := q_b1_some h
  refine r_ialdC hg dL_law_1591 (by decide) hS.1 hS.2 e10 ?_
  obtain ⟨v11, I12, e13, h⟩ := q_b2_some h
  refine r_cV5i hg dL_law_1592 mt_X11_copy ml_L_161 mv_X11_copy k_o1 (s_X11_copy hΓ hX k_o1 e13) ⟨Nat.le_of_ble_eq_true rfl, Nat.le_of_ble_eq_true rfl⟩ ⟨Nat.le_of_succ_le hcs.1, Nat.le_trans (Nat.le_add_right _ _) hcs.2⟩ (Nat.le_of_ble_eq_true rfl) ?_
  refine r_aload_n hg 2 dL_law_1595 rfl rfl ?_
  refine r_aload_n hg 0 dL_law_1596 rfl rfl ?_
  refine r_iload_n hg 3 dL_law_1597 rfl rfl ?_
  refine r_iconst hg dL_law_1598 ci_1 ?_
  refine r_iadd hg dL_law_1599 ?_
  obtain ⟨v14, e15, h⟩ := q_b1_some h
  refine r_ialdC hg dL_law_1600 (by decide) hS.1 hS.2 e15 ?_
  refine r_aload_n hg 0 dL_law_1601 rfl rfl ?_
  refine r_iload_n hg 3 dL_law_1602 rfl rfl ?_
  refine r_iconst hg dL_law_1603 ci_2 ?_
  refine r_iadd hg dL_law_1604 ?_
  obtain ⟨v16, e17, h⟩ := q_b1_some h
  refine r_ialdC hg dL_law_1605 (by decide) hS.1 hS.2 e17 ?_
  refine r_aload_n hg 0 dL_law_1606 rfl rfl ?_
  refine r_iload_n hg 3 dL_law_1607 rfl rfl ?_
  refine r_iconst hg dL_law_1608 ci_3 ?_
  refine r_iadd hg dL_law_1609 ?_
  obtain ⟨v18, e19, h⟩ := q_b1_some h
  refine r_ialdC hg dL_law_1610 (by decide) hS.1 hS.2 e19 ?_
  refine r_aload_n hg 0 dL_law_1611 rfl rfl ?_
  refine r_iload_n hg 3 dL_law_1612 rfl rfl ?_
  refine r_iconst hg dL_law_1613 ci_4 ?_
  refine r_iadd hg dL_law_1614 ?_
  obtain ⟨v20, e21, h⟩ := q_b1_some h
  refine r_ialdC hg dL_law_1615 (by decide) hS.1 hS.2 e21 ?_
  refine r_aload_n hg 0 dL_law_1616 rfl rfl ?_
  refine r_iload_n hg 3 dL_law_1617 rfl rfl ?_
  refine r_iconst hg dL_law_1618 ci_5 ?_
  refine r_iadd hg dL_law_1619 ?_
  obtain ⟨v22, e23, h⟩ := q_b1_some h
  refine r_ialdC hg dL_law_1620 (by decide) hS.1 hS.2 e23 ?_
  obtain ⟨v24, I25, e26, h⟩ := q_b2_some h
  refine r_cV5i hg dL_law_1621 mt_X12_copy ml_L_165 mv_X12_copy k_o2 (s_X12_copy hΓ hX k_o2 e26) ⟨Nat.le_of_ble_eq_true rfl, Nat.le_of_ble_eq_true rfl⟩ ⟨Nat.le_of_succ_le hcs.1, Nat.le_trans (Nat.le_add_right _ _) hcs.2⟩ (Nat.le_of_ble_eq_true rfl) ?_
  refine r_icmp_eq hg 2173 dL_law_1624 (by decide) (fun c27 => ?_) (fun c27 => ?_)
  · rw [if_pos c27] at h
    refine r_iinc hg 3 (v := (x3 + (nI 6))) (L' := [(3, .int (x3 + (nI 6))), (0, .ref 0), (1, .ref 64), (2, .ref 269)]) dL_law_2173 rfl (by rw [ci_6]) (by decide) rfl ?_
    refine r_goto hg 18 dL_law_2176 (by decide) ?_
    refine r_sub hg [1, 2, 3, 0] rfl ?_
    exact hk _ _ (Nat.le_succ _) (Nat.le_add_right _ _) _ _ _ hX k_o1 k_o2 h
  · rw [if_neg c27] at h
    refine r_iconst hg dL_law_1627 ci_0 ?_
    exact r_ireturn hr dL_law_1628 ⟨Nat.le_of_succ_le hcs.1, Nat.le_trans (Nat.le_add_right _ _) hcs.2⟩ ⟨_, rfl, bz_0.1⟩ (by cases h; rfl)
def b_L_law_1629 (L : Nat) (xs : Nat → Int32) (k18 : Int32 → qX → qI → Option (Int32 × qI × qX)) (x3 : Int32) (X : qX) (I : qI) : Option (Int32 × qI × qX) :=
  q_b1 (q_rdO xs L (x3 + (nI 1))) fun v1 =>
  q_b1 (q_rdO xs L (x3 + (nI 2))) fun v3 =>
  q_b1 (f_X11_all 64 v1 v3 I) fun v5 =>
  q_b1 (q_rdO xs L (x3 + (nI 1))) fun v7 =>
  q_b1 (q_rdO xs L (x3 + (nI 2))) fun v9 =>
  q_b1 (f_X12_all 269 v7 v9 I) fun v11 =>
  if v5 = v11 then
    k18 (x3 + (nI 6)) X I
  else
    some ((nI 0), I, X)
set_option maxRecDepth 100000 in
set_option maxHeartbeats 4000000 in
theorem p_L_law_1629 {l : Launch} {Γ : qC} {g : qG} {z : Int32 × qI × qX} {L cells slots : Nat} {xs : Nat → Int32} {nm : String} {k18 : Int32 → qX → qI → Option (Int32 × qI × qX)} (hΓ : q_gm Γ) (hg : q_Ok l Γ RL cL_law 4 room_1 nm (some .boolean) g) (hr : q_Rt cL_law (some .boolean) room_1 (some (.int z.1), z.2.1, z.2.2) g) (hS : q_ol Γ 0 = L ∧ q_ov Γ 0 = xs) (hcs : cells + 1 ≤ room_1.cells ∧ slots + 96 ≤ room_1.slots) (hk : ∀ c s, c ≤ cells + 1 → s ≤ slots + 96 → ∀ (x3 : Int32) (X : qX) (I : qI), q_Lay X → q_kd X 64 = some (13, 9) → q_kd X 269 = some (14, 42) → k18 x3 X I = some z → g c s 18 [(0, .ref 0), (1, .ref 64), (2, .ref 269), (3, .int x3)] [] I X) (x3 : Int32) (X : qX) (I : qI) (hX : q_Lay X) (k_o1 : q_kd X 64 = some (13, 9)) (k_o2 : q_kd X 269 = some (14, 42)) (h : b_L_law_1629 L xs k18 x3 X I = some z) : g cells slots 1629 [(0, .ref 0), (1, .ref 64), (2, .ref 269), (3, .int x3)] [] I X := by
  unfold b_L_law_1629 at h
  refine r_aload_n hg 1 dL_law_1629 rfl rfl ?_
  refine r_aload_n hg 0 dL_law_1630 rfl rfl ?_
  refine r_iload_n hg 3 dL_law_1631 rfl rfl ?_
  refine r_iconst hg dL_law_1632 ci_1 ?_
  refine r_iadd hg dL_law_1633 ?_
  obtain ⟨v1, e2, h⟩ := q_b1_some h
  refine r_ialdC hg dL_law_1634 (by decide) hS.1 hS.2 e2 ?_
  refine r_aload_n hg 0 dL_law_1635 rfl rfl ?_
  refine r_iload_n hg 3 dL_law_1636 rfl rfl ?_
  refine r_iconst hg dL_law_1637 ci_2 ?_
  refine r_iadd hg dL_law_1638 ?_
  obtain ⟨v3, e4, h⟩ := q_b1_some h
  refine r_ialdC hg dL_law_1639 (by decide) hS.1 hS.2 e4 ?_
  obtain ⟨v5, e6, h⟩ := q_b1_some h
  refine r_cV2i hg dL_law_1640 mt_X11_all ml_L_166 mv_X11_all k_o1 (s_X11_all hΓ hX k_o1 e6) ⟨Nat.le_of_ble_eq_true rfl, Nat.le_of_ble_eq_true rfl⟩ ⟨Nat.le_of_succ_le hcs.1, Nat.le_trans (Nat.le_add_right _ _) hcs.2⟩ (Nat.le_of_ble_eq_true rfl) ?_
  refine r_aload_n hg 2 dL_law_1643 rfl rfl ?_
  refine r_aload_n hg 0 dL_law_1644 rfl rfl ?_
  refine r_iload_n hg 3 dL_law_1645 rfl rfl ?_
  refine r_iconst hg dL_law_1646 ci_1 ?_
  refine r_iadd hg dL_law_1647 ?_
  obtain ⟨v7, e8, h⟩ := q_b1_some h
  refine r_ialdC hg dL_law_1648 (by decide) hS.1 hS.2 e8 ?_
  refine r_aload_n hg 0 dL_law_1649 rfl rfl ?_
  refine r_iload_n hg 3 dL_law_1650 rfl rfl ?_
  refine r_iconst hg dL_law_1651 ci_2 ?_
  refine r_iadd hg dL_law_1652 ?_
  obtain ⟨v9, e10, h⟩ := q_b1_some h
  refine r_ialdC hg dL_law_1653 (by decide) hS.1 hS.2 e10 ?_
  obtain ⟨v11, e12, h⟩ := q_b1_some h
  refine r_cV2i hg dL_law_1654 mt_X12_all ml_L_169 mv_X12_all k_o2 (s_X12_all hΓ hX k_o2 e12) ⟨Nat.le_of_ble_eq_true rfl, Nat.le_of_ble_eq_true rfl⟩ ⟨Nat.le_of_succ_le hcs.1, Nat.le_trans (Nat.le_add_right _ _) hcs.2⟩ (Nat.le_of_ble_eq_true rfl) ?_
  refine r_icmp_eq hg 2173 dL_law_1657 (by decide) (fun c13 => ?_) (fun c13 => ?_)
  · rw [if_pos c13] at h
    refine r_iinc hg 3 (v := (x3 + (nI 6))) (L' := [(3, .int (x3 + (nI 6))), (0, .ref 0), (1, .ref 64), (2, .ref 269)]) dL_law_2173 rfl (by rw [ci_6]) (by decide) rfl ?_
    refine r_goto hg 18 dL_law_2176 (by decide) ?_
    refine r_sub hg [1, 2, 3, 0] rfl ?_
    exact hk _ _ (Nat.le_succ _) (Nat.le_add_right _ _) _ _ _ hX k_o1 k_o2 h
  · rw [if_neg c13] at h
    refine r_iconst hg dL_law_1660 ci_0 ?_
    exact r_ireturn hr dL_law_1661 ⟨Nat.le_of_succ_le hcs.1, Nat.le_trans (Nat.le_add_right _ _) hcs.2⟩ ⟨_, rfl, bz_0.1⟩ (by cases h; rfl)
def b_L_law_1662 (L : Nat) (xs : Nat → Int32) (k18 : Int32 → qX → qI → Option (Int32 × qI × qX)) (x3 : Int32) (X : qX) (I : qI) : Option (Int32 × qI × qX) :=
  q_b1 (q_rdO xs L (x3 + (nI 1))) fun v1 =>
  q_b1 (q_rdO xs L (x3 + (nI 2))) fun v3 =>
  q_b1 (q_rdO xs L (x3 + (nI 3))) fun v5 =>
  q_b1 (q_rdO xs L (x3 + (nI 4))) fun v7 =>
  q_b2 (f_X11_end 64 v1 v3 v5 v7 X I) fun v9 I10 =>
  q_b1 (q_rdO xs L (x3 + (nI 1))) fun v12 =>
  q_b1 (q_rdO xs L (x3 + (nI 2))) fun v14 =>
  q_b1 (q_rdO xs L (x3 + (nI 3))) fun v16 =>
  q_b1 (q_rdO xs L (x3 + (nI 4))) fun v18 =>
  q_b2 (f_X12_end 269 v12 v14 v16 v18 I10) fun v20 I21 =>
  if v9 = v20 then
    k18 (x3 + (nI 6)) X I21
  else
    some ((nI 0), I21, X)
set_option maxRecDepth 100000 in
set_option maxHeartbeats 4000000 in
theorem p_L_law_1662 {l : Launch} {Γ : qC} {g : qG} {z : Int32 × qI × qX} {L cells slots : Nat} {xs : Nat → Int32} {nm : String} {k18 : Int32 → qX → qI → Option (Int32 × qI × qX)} (hΓ : q_gm Γ) (hg : q_Ok l Γ RL cL_law 4 room_1 nm (some .boolean) g) (hr : q_Rt cL_law (some .boolean) room_1 (some (.int z.1), z.2.1, z.2.2) g) (hS : q_ol Γ 0 = L ∧ q_ov Γ 0 = xs) (hcs : cells + 1 ≤ room_1.cells ∧ slots + 96 ≤ room_1.slots) (hk : ∀ c s, c ≤ cells + 1 → s ≤ slots + 96 → ∀ (x3 : Int32) (X : qX) (I : qI), q_Lay X → q_kd X 64 = some (13, 9) → q_kd X 269 = some (14, 42) → k18 x3 X I = some z → g c s 18 [(0, .ref 0), (1, .ref 64), (2, .ref 269), (3, .int x3)] [] I X) (x3 : Int32) (X : qX) (I : qI) (hX : q_Lay X) (k_o1 : q_kd X 64 = some (13, 9)) (k_o2 : q_kd X 269 = some (14, 42)) (h : b_L_law_1662 L xs k18 x3 X I = some z) : g cells slots 1662 [(0, .ref 0), (1, .ref 64), (2, .ref 269), (3, .int x3)] [] I X := by
  unfold b_L_law_1662 at h
  refine r_aload_n hg 1 dL_law_1662 rfl rfl ?_
  refine r_aload_n hg 0 dL_law_1663 rfl rfl ?_
  refine r_iload_n hg 3 dL_law_1664 rfl rfl ?_
  refine r_iconst hg dL_law_1665 ci_1 ?_
  refine r_iadd hg dL_law_1666 ?_
  obtain ⟨v1, e2, h⟩ := q_b1_some h
  refine r_ialdC hg dL_law_1667 (by decide) hS.1 hS.2 e2 ?_
  refine r_aload_n hg 0 dL_law_1668 rfl rfl ?_
  refine r_iload_n hg 3 dL_law_1669 rfl rfl ?_
  refine r_iconst hg dL_law_1670 ci_2 ?_
  refine r_iadd hg dL_law_1671 ?_
  obtain ⟨v3, e4, h⟩ := q_b1_some h
  refine r_ialdC hg dL_law_1672 (by decide) hS.1 hS.2 e4 ?_
  refine r_aload_n hg 0 dL_law_1673 rfl rfl ?_
  refine r_iload_n hg 3 dL_law_1674 rfl rfl ?_
  refine r_iconst hg dL_law_1675 ci_3 ?_
  refine r_iadd hg dL_law_1676 ?_
  obtain ⟨v5, e6, h⟩ := q_b1_some h
  refine r_ialdC hg dL_law_1677 (by decide) hS.1 hS.2 e6 ?_
  refine r_aload_n hg 0 dL_law_1678 rfl rfl ?_
  refine r_iload_n hg 3 dL_law_1679 rfl rfl ?_
  refine r_iconst hg dL_law_1680 ci_4 ?_
  refine r_iadd hg dL_law_1681 ?_
  obtain ⟨v7, e8, h⟩ := q_b1_some h
  refine r_ialdC hg dL_law_1682 (by decide) hS.1 hS.2 e8 ?_
  obtain ⟨v9, I10, e11, h⟩ := q_b2_some h
  refine r_cV4i hg dL_law_1683 mt_X11_end ml_L_170 mv_X11_end k_o1 (s_X11_end hΓ hX k_o1 e11) ⟨Nat.le_of_ble_eq_true rfl, Nat.le_of_ble_eq_true rfl⟩ ⟨Nat.le_of_succ_le hcs.1, Nat.le_trans (Nat.le_add_right _ _) hcs.2⟩ (Nat.le_of_ble_eq_true rfl) ?_
  refine r_aload_n hg 2 dL_law_1686 rfl rfl ?_
  refine r_aload_n hg 0 dL_law_1687 rfl rfl ?_
  refine r_iload_n hg 3 dL_law_1688 rfl rfl ?_
  refine r_iconst hg dL_law_1689 ci_1 ?_
  refine r_iadd hg dL_law_1690 ?_
  obtain ⟨v12, e13, h⟩ := q_b1_some h
  refine r_ialdC hg dL_law_1691 (by decide) hS.1 hS.2 e13 ?_
  refine r_aload_n hg 0 dL_law_1692 rfl rfl ?_
  refine r_iload_n hg 3 dL_law_1693 rfl rfl ?_
  refine r_iconst hg dL_law_1694 ci_2 ?_
  refine r_iadd hg dL_law_1695 ?_
  obtain ⟨v14, e15, h⟩ := q_b1_some h
  refine r_ialdC hg dL_law_1696 (by decide) hS.1 hS.2 e15 ?_
  refine r_aload_n hg 0 dL_law_1697 rfl rfl ?_
  refine r_iload_n hg 3 dL_law_1698 rfl rfl ?_
  refine r_iconst hg dL_law_1699 ci_3 ?_
  refine r_iadd hg dL_law_1700 ?_
  obtain ⟨v16, e17, h⟩ := q_b1_some h
  refine r_ialdC hg dL_law_1701 (by decide) hS.1 hS.2 e17 ?_
  refine r_aload_n hg 0 dL_law_1702 rfl rfl ?_
  refine r_iload_n hg 3 dL_law_1703 rfl rfl ?_
  refine r_iconst hg dL_law_1704 ci_4 ?_
  refine r_iadd hg dL_law_1705 ?_
  obtain ⟨v18, e19, h⟩ := q_b1_some h
  refine r_ialdC hg dL_law_1706 (by decide) hS.1 hS.2 e19 ?_
  obtain ⟨v20, I21, e22, h⟩ := q_b2_some h
  refine r_cV4i hg dL_law_1707 mt_X12_end ml_L_173 mv_X12_end k_o2 (s_X12_end hΓ hX k_o2 e22) ⟨Nat.le_of_ble_eq_true rfl, Nat.le_of_ble_eq_true rfl⟩ ⟨Nat.le_of_succ_le hcs.1, Nat.le_trans (Nat.le_add_right _ _) hcs.2⟩ (Nat.le_of_ble_eq_true rfl) ?_
  refine r_icmp_eq hg 2173 dL_law_1710 (by decide) (fun c23 => ?_) (fun c23 => ?_)
  · rw [if_pos c23] at h
    refine r_iinc hg 3 (v := (x3 + (nI 6))) (L' := [(3, .int (x3 + (nI 6))), (0, .ref 0), (1, .ref 64), (2, .ref 269)]) dL_law_2173 rfl (by rw [ci_6]) (by decide) rfl ?_
    refine r_goto hg 18 dL_law_2176 (by decide) ?_
    refine r_sub hg [1, 2, 3, 0] rfl ?_
    exact hk _ _ (Nat.le_succ _) (Nat.le_add_right _ _) _ _ _ hX k_o1 k_o2 h
  · rw [if_neg c23] at h
    refine r_iconst hg dL_law_1713 ci_0 ?_
    exact r_ireturn hr dL_law_1714 ⟨Nat.le_of_succ_le hcs.1, Nat.le_trans (Nat.le_add_right _ _) hcs.2⟩ ⟨_, rfl, bz_0.1⟩ (by cases h; rfl)
def b_L_law_1715 (L : Nat) (xs : Nat → Int32) (k18 : Int32 → qX → qI → Option (Int32 × qI × qX)) (x3 : Int32) (X : qX) (I : qI) : Option (Int32 × qI × qX) :=
  q_b2 (f_X11_round 64 X I) fun v1 I2 =>
  q_b2 (f_X12_round 269 I2) fun v4 I5 =>
  if v1 = v4 then
    k18 (x3 + (nI 6)) X I5
  else
    some ((nI 0), I5, X)
set_option maxRecDepth 100000 in
set_option maxHeartbeats 4000000 in
theorem p_L_law_1715 {l : Launch} {Γ : qC} {g : qG} {z : Int32 × qI × qX} {L cells slots : Nat} {xs : Nat → Int32} {nm : String} {k18 : Int32 → qX → qI → Option (Int32 × qI × qX)} (hΓ : q_gm Γ) (hg : q_Ok l Γ RL cL_law 4 room_1 nm (some .boolean) g) (hr : q_Rt cL_law (some .boolean) room_1 (some (.int z.1), z.2.1, z.2.2) g) (hS : q_ol Γ 0 = L ∧ q_ov Γ 0 = xs) (hcs : cells + 1 ≤ room_1.cells ∧ slots + 96 ≤ room_1.slots) (hk : ∀ c s, c ≤ cells + 1 → s ≤ slots + 96 → ∀ (x3 : Int32) (X : qX) (I : qI), q_Lay X → q_kd X 64 = some (13, 9) → q_kd X 269 = some (14, 42) → k18 x3 X I = some z → g c s 18 [(0, .ref 0), (1, .ref 64), (2, .ref 269), (3, .int x3)] [] I X) (x3 : Int32) (X : qX) (I : qI) (hX : q_Lay X) (k_o1 : q_kd X 64 = some (13, 9)) (k_o2 : q_kd X 269 = some (14, 42)) (h : b_L_law_1715 L xs k18 x3 X I = some z) : g cells slots 1715 [(0, .ref 0), (1, .ref 64), (2, .ref 269), (3, .int x3)] [] I X := by
  unfold b_L_law_1715 at h
  refine r_aload_n hg 1 dL_law_1715 rfl rfl ?_
  obtain ⟨v1, I2, e3, h⟩ := q_b2_some h
  refine r_cV0i hg dL_law_1716 mt_X11_round ml_L_174 mv_X11_round k_o1 (s_X11_round hΓ hX k_o1 e3) ⟨Nat.le_of_ble_eq_true rfl, Nat.le_of_ble_eq_true rfl⟩ ⟨Nat.le_of_succ_le hcs.1, Nat.le_trans (Nat.le_add_right _ _) hcs.2⟩ (Nat.le_of_ble_eq_true rfl) ?_
  refine r_aload_n hg 2 dL_law_1719 rfl rfl ?_
  obtain ⟨v4, I5, e6, h⟩ := q_b2_some h
  refine r_cV0i hg dL_law_1720 mt_X12_round ml_L_178 mv_X12_round k_o2 (s_X12_round hΓ hX k_o2 e6) ⟨Nat.le_of_ble_eq_true rfl, Nat.le_of_ble_eq_true rfl⟩ ⟨Nat.le_of_succ_le hcs.1, Nat.le_trans (Nat.le_add_right _ _) hcs.2⟩ (Nat.le_of_ble_eq_true rfl) ?_
  refine r_icmp_eq hg 2173 dL_law_1723 (by decide) (fun c7 => ?_) (fun c7 => ?_)
  · rw [if_pos c7] at h
    refine r_iinc hg 3 (v := (x3 + (nI 6))) (L' := [(3, .int (x3 + (nI 6))), (0, .ref 0), (1, .ref 64), (2, .ref 269)]) dL_law_2173 rfl (by rw [ci_6]) (by decide) rfl ?_
    refine r_goto hg 18 dL_law_2176 (by decide) ?_
    refine r_sub hg [1, 2, 3, 0] rfl ?_
    exact hk _ _ (Nat.le_succ _) (Nat.le_add_right _ _) _ _ _ hX k_o1 k_o2 h
  · rw [if_neg c7] at h
    refine r_iconst hg dL_law_1726 ci_0 ?_
    exact r_ireturn hr dL_law_1727 ⟨Nat.le_of_succ_le hcs.1, Nat.le_trans (Nat.le_add_right _ _) hcs.2⟩ ⟨_, rfl, bz_0.1⟩ (by cases h; rfl)
def b_L_law_1728 (L : Nat) (xs : Nat → Int32) (k18 : Int32 → qX → qI → Option (Int32 × qI × qX)) (x3 : Int32) (X : qX) (I : qI) : Option (Int32 × qI × qX) :=
  q_b1 (q_rdO xs L (x3 + (nI 1))) fun v1 =>
  q_b2 (f_X11_way 64 v1 X I) fun v3 I4 =>
  q_b1 (q_rdO xs L (x3 + (nI 1))) fun v6 =>
  q_b2 (f_X12_way 269 v6 I4) fun v8 I9 =>
  if v3 = v8 then
    k18 (x3 + (nI 6)) X I9
  else
    some ((nI 0), I9, X)
set_option maxRecDepth 100000 in
set_option maxHeartbeats 4000000 in
theorem p_L_law_1728 {l : Launch} {Γ : qC} {g : qG} {z : Int32 × qI × qX} {L cells slots : Nat} {xs : Nat → Int32} {nm : String} {k18 : Int32 → qX → qI → Option (Int32 × qI × qX)} (hΓ : q_gm Γ) (hg : q_Ok l Γ RL cL_law 4 room_1 nm (some .boolean) g) (hr : q_Rt cL_law (some .boolean) room_1 (some (.int z.1), z.2.1, z.2.2) g) (hS : q_ol Γ 0 = L ∧ q_ov Γ 0 = xs) (hcs : cells + 1 ≤ room_1.cells ∧ slots + 96 ≤ room_1.slots) (hk : ∀ c s, c ≤ cells + 1 → s ≤ slots + 96 → ∀ (x3 : Int32) (X : qX) (I : qI), q_Lay X → q_kd X 64 = some (13, 9) → q_kd X 269 = some (14, 42) → k18 x3 X I = some z → g c s 18 [(0, .ref 0), (1, .ref 64), (2, .ref 269), (3, .int x3)] [] I X) (x3 : Int32) (X : qX) (I : qI) (hX : q_Lay X) (k_o1 : q_kd X 64 = some (13, 9)) (k_o2 : q_kd X 269 = some (14, 42)) (h : b_L_law_1728 L xs k18 x3 X I = some z) : g cells slots 1728 [(0, .ref 0), (1, .ref 64), (2, .ref 269), (3, .int x3)] [] I X := by
  unfold b_L_law_1728 at h
  refine r_aload_n hg 1 dL_law_1728 rfl rfl ?_
  refine r_aload_n hg 0 dL_law_1729 rfl rfl ?_
  refine r_iload_n hg 3 dL_law_1730 rfl rfl ?_
  refine r_iconst hg dL_law_1731 ci_1 ?_
  refine r_iadd hg dL_law_1732 ?_
  obtain ⟨v1, e2, h⟩ := q_b1_some h
  refine r_ialdC hg dL_law_1733 (by decide) hS.1 hS.2 e2 ?_
  obtain ⟨v3, I4, e5, h⟩ := q_b2_some h
  refine r_cV1i hg dL_law_1734 mt_X11_way ml_L_179 mv_X11_way k_o1 (s_X11_way hΓ hX k_o1 e5) ⟨Nat.le_of_ble_eq_true rfl, Nat.le_of_ble_eq_true rfl⟩ ⟨Nat.le_of_succ_le hcs.1, Nat.le_trans (Nat.le_add_right _ _) hcs.2⟩ (Nat.le_of_ble_eq_true rfl) ?_
  refine r_aload_n hg 2 dL_law_1737 rfl rfl ?_
  refine r_aload_n hg 0 dL_law_1738 rfl rfl ?_
  refine r_iload_n hg 3 dL_law_1739 rfl rfl ?_
  refine r_iconst hg dL_law_1740 ci_1 ?_
  refine r_iadd hg dL_law_1741 ?_
  obtain ⟨v6, e7, h⟩ := q_b1_some h
  refine r_ialdC hg dL_law_1742 (by decide) hS.1 hS.2 e7 ?_
  obtain ⟨v8, I9, e10, h⟩ := q_b2_some h
  refine r_cV1i hg dL_law_1743 mt_X12_way ml_L_182 mv_X12_way k_o2 (s_X12_way hΓ hX k_o2 e10) ⟨Nat.le_of_ble_eq_true rfl, Nat.le_of_ble_eq_true rfl⟩ ⟨Nat.le_of_succ_le hcs.1, Nat.le_trans (Nat.le_add_right _ _) hcs.2⟩ (Nat.le_of_ble_eq_true rfl) ?_
  refine r_icmp_eq hg 2173 dL_law_1746 (by decide) (fun c11 => ?_) (fun c11 => ?_)
  · rw [if_pos c11] at h
    refine r_iinc hg 3 (v := (x3 + (nI 6))) (L' := [(3, .int (x3 + (nI 6))), (0, .ref 0), (1, .ref 64), (2, .ref 269)]) dL_law_2173 rfl (by rw [ci_6]) (by decide) rfl ?_
    refine r_goto hg 18 dL_law_2176 (by decide) ?_
    refine r_sub hg [1, 2, 3, 0] rfl ?_
    exact hk _ _ (Nat.le_succ _) (Nat.le_add_right _ _) _ _ _ hX k_o1 k_o2 h
  · rw [if_neg c11] at h
    refine r_iconst hg dL_law_1749 ci_0 ?_
    exact r_ireturn hr dL_law_1750 ⟨Nat.le_of_succ_le hcs.1, Nat.le_trans (Nat.le_add_right _ _) hcs.2⟩ ⟨_, rfl, bz_0.1⟩ (by cases h; rfl)
def b_L_law_1751 (L : Nat) (xs : Nat → Int32) (k18 : Int32 → qX → qI → Option (Int32 × qI × qX)) (x3 : Int32) (X : qX) (I : qI) : Option (Int32 × qI × qX) :=
  q_b1 (q_rdO xs L (x3 + (nI 1))) fun v1 =>
  q_b1 (q_rdO xs L (x3 + (nI 2))) fun v3 =>
  q_b2 (f_X11_would 64 v1 v3 X I) fun v5 I6 =>
  q_b1 (q_rdO xs L (x3 + (nI 1))) fun v8 =>
  q_b1 (q_rdO xs L (x3 + (nI 2))) fun v10 =>
  q_b2 (f_X12_would 269 v8 v10 I6) fun v12 I13 =>
  if v5 = v12 then
    k18 (x3 + (nI 6)) X I13
  else
    some ((nI 0), I13, X)
set_option maxRecDepth 100000 in
set_option maxHeartbeats 4000000 in
theorem p_L_law_1751 {l : Launch} {Γ : qC} {g : qG} {z : Int32 × qI × qX} {L cells slots : Nat} {xs : Nat → Int32} {nm : String} {k18 : Int32 → qX → qI → Option (Int32 × qI × qX)} (hΓ : q_gm Γ) (hg : q_Ok l Γ RL cL_law 4 room_1 nm (some .boolean) g) (hr : q_Rt cL_law (some .boolean) room_1 (some (.int z.1), z.2.1, z.2.2) g) (hS : q_ol Γ 0 = L ∧ q_ov Γ 0 = xs) (hcs : cells + 1 ≤ room_1.cells ∧ slots + 96 ≤ room_1.slots) (hk : ∀ c s, c ≤ cells + 1 → s ≤ slots + 96 → ∀ (x3 : Int32) (X : qX) (I : qI), q_Lay X → q_kd X 64 = some (13, 9) → q_kd X 269 = some (14, 42) → k18 x3 X I = some z → g c s 18 [(0, .ref 0), (1, .ref 64), (2, .ref 269), (3, .int x3)] [] I X) (x3 : Int32) (X : qX) (I : qI) (hX : q_Lay X) (k_o1 : q_kd X 64 = some (13, 9)) (k_o2 : q_kd X 269 = some (14, 42)) (h : b_L_law_1751 L xs k18 x3 X I = some z) : g cells slots 1751 [(0, .ref 0), (1, .ref 64), (2, .ref 269), (3, .int x3)] [] I X := by
  unfold b_L_law_1751 at h
  refine r_aload_n hg 1 dL_law_1751 rfl rfl ?_
  refine r_aload_n hg 0 dL_law_1752 rfl rfl ?_
  refine r_iload_n hg 3 dL_law_1753 rfl rfl ?_
  refine r_iconst hg dL_law_1754 ci_1 ?_
  refine r_iadd hg dL_law_1755 ?_
  obtain ⟨v1, e2, h⟩ := q_b1_some h
  refine r_ialdC hg dL_law_1756 (by decide) hS.1 hS.2 e2 ?_
  refine r_aload_n hg 0 dL_law_1757 rfl rfl ?_
  refine r_iload_n hg 3 dL_law_1758 rfl rfl ?_
  refine r_iconst hg dL_law_1759 ci_2 ?_
  refine r_iadd hg dL_law_1760 ?_
  obtain ⟨v3, e4, h⟩ := q_b1_some h
  refine r_ialdC hg dL_law_1761 (by decide) hS.1 hS.2 e4 ?_
  obtain ⟨v5, I6, e7, h⟩ := q_b2_some h
  refine r_cV2i hg dL_law_1762 mt_X11_would ml_L_183 mv_X11_would k_o1 (s_X11_would hΓ hX k_o1 e7) ⟨Nat.le_of_ble_eq_true rfl, Nat.le_of_ble_eq_true rfl⟩ ⟨Nat.le_of_succ_le hcs.1, Nat.le_trans (Nat.le_add_right _ _) hcs.2⟩ (Nat.le_of_ble_eq_true rfl) ?_
  refine r_aload_n hg 2 dL_law_1765 rfl rfl ?_
  refine r_aload_n hg 0 dL_law_1766 rfl rfl ?_
  refine r_iload_n hg 3 dL_law_1767 rfl rfl ?_
  refine r_iconst hg dL_law_1768 ci_1 ?_
  refine r_iadd hg dL_law_1769 ?_
  obtain ⟨v8, e9, h⟩ := q_b1_some h
  refine r_ialdC hg dL_law_1770 (by decide) hS.1 hS.2 e9 ?_
  refine r_aload_n hg 0 dL_law_1771 rfl rfl ?_
  refine r_iload_n hg 3 dL_law_1772 rfl rfl ?_
  refine r_iconst hg dL_law_1773 ci_2 ?_
  refine r_iadd hg dL_law_1774 ?_
  obtain ⟨v10, e11, h⟩ := q_b1_some h
  refine r_ialdC hg dL_law_1775 (by decide) hS.1 hS.2 e11 ?_
  obtain ⟨v12, I13, e14, h⟩ := q_b2_some h
  refine r_cV2i hg dL_law_1776 mt_X12_would ml_L_186 mv_X12_would k_o2 (s_X12_would hΓ hX k_o2 e14) ⟨Nat.le_of_ble_eq_true rfl, Nat.le_of_ble_eq_true rfl⟩ ⟨Nat.le_of_succ_le hcs.1, Nat.le_trans (Nat.le_add_right _ _) hcs.2⟩ (Nat.le_of_ble_eq_true rfl) ?_
  refine r_icmp_eq hg 2173 dL_law_1779 (by decide) (fun c15 => ?_) (fun c15 => ?_)
  · rw [if_pos c15] at h
    refine r_iinc hg 3 (v := (x3 + (nI 6))) (L' := [(3, .int (x3 + (nI 6))), (0, .ref 0), (1, .ref 64), (2, .ref 269)]) dL_law_2173 rfl (by rw [ci_6]) (by decide) rfl ?_
    refine r_goto hg 18 dL_law_2176 (by decide) ?_
    refine r_sub hg [1, 2, 3, 0] rfl ?_
    exact hk _ _ (Nat.le_succ _) (Nat.le_add_right _ _) _ _ _ hX k_o1 k_o2 h
  · rw [if_neg c15] at h
    refine r_iconst hg dL_law_1782 ci_0 ?_
    exact r_ireturn hr dL_law_1783 ⟨Nat.le_of_succ_le hcs.1, Nat.le_trans (Nat.le_add_right _ _) hcs.2⟩ ⟨_, rfl, bz_0.1⟩ (by cases h; rfl)
def b_L_law_1784 (L : Nat) (xs : Nat → Int32) (k18 : Int32 → qX → qI → Option (Int32 × qI × qX)) (x3 : Int32) (X : qX) (I : qI) : Option (Int32 × qI × qX) :=
  q_b1 (q_rdO xs L (x3 + (nI 1))) fun v1 =>
  q_b1 (q_rdO xs L (x3 + (nI 2))) fun v3 =>
  q_b1 (q_rdO xs L (x3 + (nI 3))) fun v5 =>
  q_b2 (f_X11_breach 64 v1 v3 v5 I) fun v7 I8 =>
  q_b1 (q_rdO xs L (x3 + (nI 1))) fun v10 =>
  q_b1 (q_rdO xs L (x3 + (nI 2))) fun v12 =>
  q_b1 (q_rdO xs L (x3 + (nI 3))) fun v14 =>
  q_b2 (f_X12_breach 269 v10 v12 v14 I8) fun v16 I17 =>
  if v7 = v16 then
    k18 (x3 + (nI 6)) X I17
  else
    some ((nI 0), I17, X)
set_option maxRecDepth 100000 in
set_option maxHeartbeats 4000000 in
theorem p_L_law_1784 {l : Launch} {Γ : qC} {g : qG} {z : Int32 × qI × qX} {L cells slots : Nat} {xs : Nat → Int32} {nm : String} {k18 : Int32 → qX → qI → Option (Int32 × qI × qX)} (hΓ : q_gm Γ) (hg : q_Ok l Γ RL cL_law 4 room_1 nm (some .boolean) g) (hr : q_Rt cL_law (some .boolean) room_1 (some (.int z.1), z.2.1, z.2.2) g) (hS : q_ol Γ 0 = L ∧ q_ov Γ 0 = xs) (hcs : cells + 1 ≤ room_1.cells ∧ slots + 96 ≤ room_1.slots) (hk : ∀ c s, c ≤ cells + 1 → s ≤ slots + 96 → ∀ (x3 : Int32) (X : qX) (I : qI), q_Lay X → q_kd X 64 = some (13, 9) → q_kd X 269 = some (14, 42) → k18 x3 X I = some z → g c s 18 [(0, .ref 0), (1, .ref 64), (2, .ref 269), (3, .int x3)] [] I X) (x3 : Int32) (X : qX) (I : qI) (hX : q_Lay X) (k_o1 : q_kd X 64 = some (13, 9)) (k_o2 : q_kd X 269 = some (14, 42)) (h : b_L_law_1784 L xs k18 x3 X I = some z) : g cells slots 1784 [(0, .ref 0), (1, .ref 64), (2, .ref 269), (3, .int x3)] [] I X := by
  unfold b_L_law_1784 at h
  refine r_aload_n hg 1 dL_law_1784 rfl rfl ?_
  refine r_aload_n hg 0 dL_law_1785 rfl rfl ?_
  refine r_iload_n hg 3 dL_law_1786 rfl rfl ?_
  refine r_iconst hg dL_law_1787 ci_1 ?_
  refine r_iadd hg dL_law_1788 ?_
  obtain ⟨v1, e2, h⟩ := q_b1_some h
  refine r_ialdC hg dL_law_1789 (by decide) hS.1 hS.2 e2 ?_
  refine r_aload_n hg 0 dL_law_1790 rfl rfl ?_
  refine r_iload_n hg 3 dL_law_1791 rfl rfl ?_
  refine r_iconst hg dL_law_1792 ci_2 ?_
  refine r_iadd hg dL_law_1793 ?_
  obtain ⟨v3, e4, h⟩ := q_b1_some h
  refine r_ialdC hg dL_law_1794 (by decide) hS.1 hS.2 e4 ?_
  refine r_aload_n hg 0 dL_law_1795 rfl rfl ?_
  refine r_iload_n hg 3 dL_law_1796 rfl rfl ?_
  refine r_iconst hg dL_law_1797 ci_3 ?_
  refine r_iadd hg dL_law_1798 ?_
  obtain ⟨v5, e6, h⟩ := q_b1_some h
  refine r_ialdC hg dL_law_1799 (by decide) hS.1 hS.2 e6 ?_
  obtain ⟨v7, I8, e9, h⟩ := q_b2_some h
  refine r_cV3i hg dL_law_1800 mt_X11_breach ml_L_187 mv_X11_breach k_o1 (s_X11_breach hΓ hX k_o1 e9) ⟨Nat.le_of_ble_eq_true rfl, Nat.le_of_ble_eq_true rfl⟩ ⟨Nat.le_of_succ_le hcs.1, Nat.le_trans (Nat.le_add_right _ _) hcs.2⟩ (Nat.le_of_ble_eq_true rfl) ?_
  refine r_aload_n hg 2 dL_law_1803 rfl rfl ?_
  refine r_aload_n hg 0 dL_law_1804 rfl rfl ?_
  refine r_iload_n hg 3 dL_law_1805 rfl rfl ?_
  refine r_iconst hg dL_law_1806 ci_1 ?_
  refine r_iadd hg dL_law_1807 ?_
  obtain ⟨v10, e11, h⟩ := q_b1_some h
  refine r_ialdC hg dL_law_1808 (by decide) hS.1 hS.2 e11 ?_
  refine r_aload_n hg 0 dL_law_1809 rfl rfl ?_
  refine r_iload_n hg 3 dL_law_1810 rfl rfl ?_
  refine r_iconst hg dL_law_1811 ci_2 ?_
  refine r_iadd hg dL_law_1812 ?_
  obtain ⟨v12, e13, h⟩ := q_b1_some h
  refine r_ialdC hg dL_law_1813 (by decide) hS.1 hS.2 e13 ?_
  refine r_aload_n hg 0 dL_law_1814 rfl rfl ?_
  refine r_iload_n hg 3 dL_law_1815 rfl rfl ?_
  refine r_iconst hg dL_law_1816 ci_3 ?_
  refine r_iadd hg dL_law_1817 ?_
  obtain ⟨v14, e15, h⟩ := q_b1_some h
  refine r_ialdC hg dL_law_1818 (by decide) hS.1 hS.2 e15 ?_
  obtain ⟨v16, I17, e18, h⟩ := q_b2_some h
  refine r_cV3i hg dL_law_1819 mt_X12_breach ml_L_190 mv_X12_breach k_o2 (s_X12_breach hΓ hX k_o2 e18) ⟨Nat.le_of_ble_eq_true rfl, Nat.le_of_ble_eq_true rfl⟩ ⟨Nat.le_of_succ_le hcs.1, Nat.le_trans (Nat.le_add_right _ _) hcs.2⟩ (Nat.le_of_ble_eq_true rfl) ?_
  refine r_icmp_eq hg 2173 dL_law_1822 (by decide) (fun c19 => ?_) (fun c19 => ?_)
  · rw [if_pos c19] at h
    refine r_iinc hg 3 (v := (x3 + (nI 6))) (L' := [(3, .int (x3 + (nI 6))), (0, .ref 0), (1, .ref 64), (2, .ref 269)]) dL_law_2173 rfl (by rw [ci_6]) (by decide) rfl ?_
    refine r_goto hg 18 dL_law_2176 (by decide) ?_
    refine r_sub hg [1, 2, 3, 0] rfl ?_
    exact hk _ _ (Nat.le_succ _) (Nat.le_add_right _ _) _ _ _ hX k_o1 k_o2 h
  · rw [if_neg c19] at h
    refine r_iconst hg dL_law_1825 ci_0 ?_
    exact r_ireturn hr dL_law_1826 ⟨Nat.le_of_succ_le hcs.1, Nat.le_trans (Nat.le_add_right _ _) hcs.2⟩ ⟨_, rfl, bz_0.1⟩ (by cases h; rfl)
def b_L_law_1827 (L : Nat) (xs : Nat → Int32) (k18 : Int32 → qX → qI → Option (Int32 × qI × qX)) (x3 : Int32) (X : qX) (I : qI) : Option (Int32 × qI × qX) :=
  q_b1 (q_rdO xs L (x3 + (nI 1))) fun v1 =>
  q_b2 (f_X11_seen 64 v1 I) fun v3 I4 =>
  q_b1 (q_rdO xs L (x3 + (nI 1))) fun v6 =>
  q_b2 (f_X12_seen 269 v6 I4) fun v8 I9 =>
  if v3 = v8 then
    k18 (x3 + (nI 6)) X I9
  else
    some ((nI 0), I9, X)
set_option maxRecDepth 100000 in
set_option maxHeartbeats 4000000 in
theorem p_L_law_1827 {l : Launch} {Γ : qC} {g : qG} {z : Int32 × qI × qX} {L cells slots : Nat} {xs : Nat → Int32} {nm : String} {k18 : Int32 → qX → qI → Option (Int32 × qI × qX)} (hΓ : q_gm Γ) (hg : q_Ok l Γ RL cL_law 4 room_1 nm (some .boolean) g) (hr : q_Rt cL_law (some .boolean) room_1 (some (.int z.1), z.2.1, z.2.2) g) (hS : q_ol Γ 0 = L ∧ q_ov Γ 0 = xs) (hcs : cells + 1 ≤ room_1.cells ∧ slots + 96 ≤ room_1.slots) (hk : ∀ c s, c ≤ cells + 1 → s ≤ slots + 96 → ∀ (x3 : Int32) (X : qX) (I : qI), q_Lay X → q_kd X 64 = some (13, 9) → q_kd X 269 = some (14, 42) → k18 x3 X I = some z → g c s 18 [(0, .ref 0), (1, .ref 64), (2, .ref 269), (3, .int x3)] [] I X) (x3 : Int32) (X : qX) (I : qI) (hX : q_Lay X) (k_o1 : q_kd X 64 = some (13, 9)) (k_o2 : q_kd X 269 = some (14, 42)) (h : b_L_law_1827 L xs k18 x3 X I = some z) : g cells slots 1827 [(0, .ref 0), (1, .ref 64), (2, .ref 269), (3, .int x3)] [] I X := by
  unfold b_L_law_1827 at h
  refine r_aload_n hg 1 dL_law_1827 rfl rfl ?_
  refine r_aload_n hg 0 dL_law_1828 rfl rfl ?_
  refine r_iload_n hg 3 dL_law_1829 rfl rfl ?_
  refine r_iconst hg dL_law_1830 ci_1 ?_
  refine r_iadd hg dL_law_1831 ?_
  obtain ⟨v1, e2, h⟩ := q_b1_some h
  refine r_ialdC hg dL_law_1832 (by decide) hS.1 hS.2 e2 ?_
  obtain ⟨v3, I4, e5, h⟩ := q_b2_some h
  refine r_cV1i hg dL_law_1833 mt_X11_seen ml_L_191 mv_X11_seen k_o1 (s_X11_seen hΓ hX k_o1 e5) ⟨Nat.le_of_ble_eq_true rfl, Nat.le_of_ble_eq_true rfl⟩ ⟨Nat.le_of_succ_le hcs.1, Nat.le_trans (Nat.le_add_right _ _) hcs.2⟩ (Nat.le_of_ble_eq_true rfl) ?_
  refine r_aload_n hg 2 dL_law_1836 rfl rfl ?_
  refine r_aload_n hg 0 dL_law_1837 rfl rfl ?_
  refine r_iload_n hg 3 dL_law_1838 rfl rfl ?_
  refine r_iconst hg dL_law_1839 ci_1 ?_
  refine r_iadd hg dL_law_1840 ?_
  obtain ⟨v6, e7, h⟩ := q_b1_some h
  refine r_ialdC hg dL_law_1841 (by decide) hS.1 hS.2 e7 ?_
  obtain ⟨v8, I9, e10, h⟩ := q_b2_some h
  refine r_cV1i hg dL_law_1842 mt_X12_seen ml_L_194 mv_X12_seen k_o2 (s_X12_seen hΓ hX k_o2 e10) ⟨Nat.le_of_ble_eq_true rfl, Nat.le_of_ble_eq_true rfl⟩ ⟨Nat.le_of_succ_le hcs.1, Nat.le_trans (Nat.le_add_right _ _) hcs.2⟩ (Nat.le_of_ble_eq_true rfl) ?_
  refine r_icmp_eq hg 2173 dL_law_1845 (by decide) (fun c11 => ?_) (fun c11 => ?_)
  · rw [if_pos c11] at h
    refine r_iinc hg 3 (v := (x3 + (nI 6))) (L' := [(3, .int (x3 + (nI 6))), (0, .ref 0), (1, .ref 64), (2, .ref 269)]) dL_law_2173 rfl (by rw [ci_6]) (by decide) rfl ?_
    refine r_goto hg 18 dL_law_2176 (by decide) ?_
    refine r_sub hg [1, 2, 3, 0] rfl ?_
    exact hk _ _ (Nat.le_succ _) (Nat.le_add_right _ _) _ _ _ hX k_o1 k_o2 h
  · rw [if_neg c11] at h
    refine r_iconst hg dL_law_1848 ci_0 ?_
    exact r_ireturn hr dL_law_1849 ⟨Nat.le_of_succ_le hcs.1, Nat.le_trans (Nat.le_add_right _ _) hcs.2⟩ ⟨_, rfl, bz_0.1⟩ (by cases h; rfl)
def b_L_law_1850 (L : Nat) (xs : Nat → Int32) (k18 : Int32 → qX → qI → Option (Int32 × qI × qX)) (x3 : Int32) (X : qX) (I : qI) : Option (Int32 × qI × qX) :=
  q_b1 (q_rdO xs L (x3 + (nI 1))) fun v1 =>
  q_b1 (q_rdO xs L (x3 + (nI 2))) fun v3 =>
  q_b2 (f_X11_at 64 v1 v3 X I) fun v5 I6 =>
  q_b1 (q_rdO xs L (x3 + (nI 1))) fun v8 =>
  q_b1 (q_rdO xs L (x3 + (nI 2))) fun v10 =>
  q_b2 (f_X12_at 269 v8 v10 I6) fun v12 I13 =>
  if v5 = v12 then
    k18 (x3 + (nI 6)) X I13
  else
    some ((nI 0), I13, X)
set_option maxRecDepth 100000 in
set_option maxHeartbeats 4000000 in
theorem p_L_law_1850 {l : Launch} {Γ : qC} {g : qG} {z : Int32 × qI × qX} {L cells slots : Nat} {xs : Nat → Int32} {nm : String} {k18 : Int32 → qX → qI → Option (Int32 × qI × qX)} (hΓ : q_gm Γ) (hg : q_Ok l Γ RL cL_law 4 room_1 nm (some .boolean) g) (hr : q_Rt cL_law (some .boolean) room_1 (some (.int z.1), z.2.1, z.2.2) g) (hS : q_ol Γ 0 = L ∧ q_ov Γ 0 = xs) (hcs : cells + 1 ≤ room_1.cells ∧ slots + 96 ≤ room_1.slots) (hk : ∀ c s, c ≤ cells + 1 → s ≤ slots + 96 → ∀ (x3 : Int32) (X : qX) (I : qI), q_Lay X → q_kd X 64 = some (13, 9) → q_kd X 269 = some (14, 42) → k18 x3 X I = some z → g c s 18 [(0, .ref 0), (1, .ref 64), (2, .ref 269), (3, .int x3)] [] I X) (x3 : Int32) (X : qX) (I : qI) (hX : q_Lay X) (k_o1 : q_kd X 64 = some (13, 9)) (k_o2 : q_kd X 269 = some (14, 42)) (h : b_L_law_1850 L xs k18 x3 X I = some z) : g cells slots 1850 [(0, .ref 0), (1, .ref 64), (2, .ref 269), (3, .int x3)] [] I X := by
  unfold b_L_law_1850 at h
  refine r_aload_n hg 1 dL_law_1850 rfl rfl ?_
  refine r_aload_n hg 0 dL_law_1851 rfl rfl ?_
  refine r_iload_n hg 3 dL_law_1852 rfl rfl ?_
  refine r_iconst hg dL_law_1853 ci_1 ?_
  refine r_iadd hg dL_law_1854 ?_
  obtain ⟨v1, e2, h⟩ := q_b1_some h
  refine r_ialdC hg dL_law_1855 (by decide) hS.1 hS.2 e2 ?_
  refine r_aload_n hg 0 dL_law_1856 rfl rfl ?_
  refine r_iload_n hg 3 dL_law_1857 rfl rfl ?_
  refine r_iconst hg dL_law_1858 ci_2 ?_
  refine r_iadd hg dL_law_1859 ?_
  obtain ⟨v3, e4, h⟩ := q_b1_some h
  refine r_ialdC hg dL_law_1860 (by decide) hS.1 hS.2 e4 ?_
  obtain ⟨v5, I6, e7, h⟩ := q_b2_some h
  refine r_cV2i hg dL_law_1861 mt_X11_at ml_L_195 mv_X11_at k_o1 (s_X11_at hΓ hX k_o1 e7) ⟨Nat.le_of_ble_eq_true rfl, Nat.le_of_ble_eq_true rfl⟩ ⟨Nat.le_of_succ_le hcs.1, Nat.le_trans (Nat.le_add_right _ _) hcs.2⟩ (Nat.le_of_ble_eq_true rfl) ?_
  refine r_aload_n hg 2 dL_law_1864 rfl rfl ?_
  refine r_aload_n hg 0 dL_law_1865 rfl rfl ?_
  refine r_iload_n hg 3 dL_law_1866 rfl rfl ?_
  refine r_iconst hg dL_law_1867 ci_1 ?_
  refine r_iadd hg dL_law_1868 ?_
  obtain ⟨v8, e9, h⟩ := q_b1_some h
  refine r_ialdC hg dL_law_1869 (by decide) hS.1 hS.2 e9 ?_
  refine r_aload_n hg 0 dL_law_1870 rfl rfl ?_
  refine r_iload_n hg 3 dL_law_1871 rfl rfl ?_
  refine r_iconst hg dL_law_1872 ci_2 ?_
  refine r_iadd hg dL_law_1873 ?_
  obtain ⟨v10, e11, h⟩ := q_b1_some h
  refine r_ialdC hg dL_law_1874 (by decide) hS.1 hS.2 e11 ?_
  obtain ⟨v12, I13, e14, h⟩ := q_b2_some h
  refine r_cV2i hg dL_law_1875 mt_X12_at ml_L_198 mv_X12_at k_o2 (s_X12_at hΓ hX k_o2 e14) ⟨Nat.le_of_ble_eq_true rfl, Nat.le_of_ble_eq_true rfl⟩ ⟨Nat.le_of_succ_le hcs.1, Nat.le_trans (Nat.le_add_right _ _) hcs.2⟩ (Nat.le_of_ble_eq_true rfl) ?_
  refine r_icmp_eq hg 2173 dL_law_1878 (by decide) (fun c15 => ?_) (fun c15 => ?_)
  · rw [if_pos c15] at h
    refine r_iinc hg 3 (v := (x3 + (nI 6))) (L' := [(3, .int (x3 + (nI 6))), (0, .ref 0), (1, .ref 64), (2, .ref 269)]) dL_law_2173 rfl (by rw [ci_6]) (by decide) rfl ?_
    refine r_goto hg 18 dL_law_2176 (by decide) ?_
    refine r_sub hg [1, 2, 3, 0] rfl ?_
    exact hk _ _ (Nat.le_succ _) (Nat.le_add_right _ _) _ _ _ hX k_o1 k_o2 h
  · rw [if_neg c15] at h
    refine r_iconst hg dL_law_1881 ci_0 ?_
    exact r_ireturn hr dL_law_1882 ⟨Nat.le_of_succ_le hcs.1, Nat.le_trans (Nat.le_add_right _ _) hcs.2⟩ ⟨_, rfl, bz_0.1⟩ (by cases h; rfl)
def b_L_law_1883 (L : Nat) (xs : Nat → Int32) (k18 : Int32 → qX → qI → Option (Int32 × qI × qX)) (x3 : Int32) (X : qX) (I : qI) : Option (Int32 × qI × qX) :=
  q_b1 (q_rdO xs L (x3 + (nI 1))) fun v1 =>
  q_b1 (q_rdO xs L (x3 + (nI 2))) fun v3 =>
  q_b2 (f_X11_last 64 v1 v3 I) fun v5 I6 =>
  q_b1 (q_rdO xs L (x3 + (nI 1))) fun v8 =>
  q_b1 (q_rdO xs L (x3 + (nI 2))) fun v10 =>
  q_b1 (f_X12_last 269 v8 v10 I6) fun v12 =>
  if v5 = v12 then
    k18 (x3 + (nI 6)) X I6
  else
    some ((nI 0), I6, X)
set_option maxRecDepth 100000 in
set_option maxHeartbeats 4000000 in
theorem p_L_law_1883 {l : Launch} {Γ : qC} {g : qG} {z : Int32 × qI × qX} {L cells slots : Nat} {xs : Nat → Int32} {nm : String} {k18 : Int32 → qX → qI → Option (Int32 × qI × qX)} (hΓ : q_gm Γ) (hg : q_Ok l Γ RL cL_law 4 room_1 nm (some .boolean) g) (hr : q_Rt cL_law (some .boolean) room_1 (some (.int z.1), z.2.1, z.2.2) g) (hS : q_ol Γ 0 = L ∧ q_ov Γ 0 = xs) (hcs : cells + 1 ≤ room_1.cells ∧ slots + 96 ≤ room_1.slots) (hk : ∀ c s, c ≤ cells + 1 → s ≤ slots + 96 → ∀ (x3 : Int32) (X : qX) (I : qI), q_Lay X → q_kd X 64 = some (13, 9) → q_kd X 269 = some (14, 42) → k18 x3 X I = some z → g c s 18 [(0, .ref 0), (1, .ref 64), (2, .ref 269), (3, .int x3)] [] I X) (x3 : Int32) (X : qX) (I : qI) (hX : q_Lay X) (k_o1 : q_kd X 64 = some (13, 9)) (k_o2 : q_kd X 269 = some (14, 42)) (h : b_L_law_1883 L xs k18 x3 X I = some z) : g cells slots 1883 [(0, .ref 0), (1, .ref 64), (2, .ref 269), (3, .int x3)] [] I X := by
  unfold b_L_law_1883 at h
  refine r_aload_n hg 1 dL_law_1883 rfl rfl ?_
  refine r_aload_n hg 0 dL_law_1884 rfl rfl ?_
  refine r_iload_n hg 3 dL_law_1885 rfl rfl ?_
  refine r_iconst hg dL_law_1886 ci_1 ?_
  refine r_iadd hg dL_law_1887 ?_
  obtain ⟨v1, e2, h⟩ := q_b1_some h
  refine r_ialdC hg dL_law_1888 (by decide) hS.1 hS.2 e2 ?_
  refine r_aload_n hg 0 dL_law_1889 rfl rfl ?_
  refine r_iload_n hg 3 dL_law_1890 rfl rfl ?_
  refine r_iconst hg dL_law_1891 ci_2 ?_
  refine r_iadd hg dL_law_1892 ?_
  obtain ⟨v3, e4, h⟩ := q_b1_some h
  refine r_ialdC hg dL_law_1893 (by decide) hS.1 hS.2 e4 ?_
  obtain ⟨v5, I6, e7, h⟩ := q_b2_some h
  refine r_cV2i hg dL_law_1894 mt_X11_last ml_L_199 mv_X11_last k_o1 (s_X11_last hΓ hX k_o1 e7) ⟨Nat.le_of_ble_eq_true rfl, Nat.le_of_ble_eq_true rfl⟩ ⟨Nat.le_of_succ_le hcs.1, Nat.le_trans (Nat.le_add_right _ _) hcs.2⟩ (Nat.le_of_ble_eq_true rfl) ?_
  refine r_aload_n hg 2 dL_law_1897 rfl rfl ?_
  refine r_aload_n hg 0 dL_law_1898 rfl rfl ?_
  refine r_iload_n hg 3 dL_law_1899 rfl rfl ?_
  refine r_iconst hg dL_law_1900 ci_1 ?_
  refine r_iadd hg dL_law_1901 ?_
  obtain ⟨v8, e9, h⟩ := q_b1_some h
  refine r_ialdC hg dL_law_1902 (by decide) hS.1 hS.2 e9 ?_
  refine r_aload_n hg 0 dL_law_1903 rfl rfl ?_
  refine r_iload_n hg 3 dL_law_1904 rfl rfl ?_
  refine r_iconst hg dL_law_1905 ci_2 ?_
  refine r_iadd hg dL_law_1906 ?_
  obtain ⟨v10, e11, h⟩ := q_b1_some h
  refine r_ialdC hg dL_law_1907 (by decide) hS.1 hS.2 e11 ?_
  obtain ⟨v12, e13, h⟩ := q_b1_some h
  refine r_cV2i hg dL_law_1908 mt_X12_last ml_L_202 mv_X12_last k_o2 (s_X12_last hΓ hX k_o2 e13) ⟨Nat.le_of_ble_eq_true rfl, Nat.le_of_ble_eq_true rfl⟩ ⟨Nat.le_of_succ_le hcs.1, Nat.le_trans (Nat.le_add_right _ _) hcs.2⟩ (Nat.le_of_ble_eq_true rfl) ?_
  refine r_icmp_eq hg 2173 dL_law_1911 (by decide) (fun c14 => ?_) (fun c14 => ?_)
  · rw [if_pos c14] at h
    refine r_iinc hg 3 (v := (x3 + (nI 6))) (L' := [(3, .int (x3 + (nI 6))), (0, .ref 0), (1, .ref 64), (2, .ref 269)]) dL_law_2173 rfl (by rw [ci_6]) (by decide) rfl ?_
    refine r_goto hg 18 dL_law_2176 (by decide) ?_
    refine r_sub hg [1, 2, 3, 0] rfl ?_
    exact hk _ _ (Nat.le_succ _) (Nat.le_add_right _ _) _ _ _ hX k_o1 k_o2 h
  · rw [if_neg c14] at h
    refine r_iconst hg dL_law_1914 ci_0 ?_
    exact r_ireturn hr dL_law_1915 ⟨Nat.le_of_succ_le hcs.1, Nat.le_trans (Nat.le_add_right _ _) hcs.2⟩ ⟨_, rfl, bz_0.1⟩ (by cases h; rfl)
def b_L_law_1916 (L : Nat) (xs : Nat → Int32) (k18 : Int32 → qX → qI → Option (Int32 × qI × qX)) (x3 : Int32) (X : qX) (I : qI) : Option (Int32 × qI × qX) :=
  q_b2 (f_X11_least 64 I) fun v1 I2 =>
  q_b1 (f_X12_least_ 269 I2) fun v4 =>
  if v1 = v4 then
    k18 (x3 + (nI 6)) X I2
  else
    some ((nI 0), I2, X)
set_option maxRecDepth 100000 in
set_option maxHeartbeats 4000000 in
theorem p_L_law_1916 {l : Launch} {Γ : qC} {g : qG} {z : Int32 × qI × qX} {L cells slots : Nat} {xs : Nat → Int32} {nm : String} {k18 : Int32 → qX → qI → Option (Int32 × qI × qX)} (hΓ : q_gm Γ) (hg : q_Ok l Γ RL cL_law 4 room_1 nm (some .boolean) g) (hr : q_Rt cL_law (some .boolean) room_1 (some (.int z.1), z.2.1, z.2.2) g) (hS : q_ol Γ 0 = L ∧ q_ov Γ 0 = xs) (hcs : cells + 1 ≤ room_1.cells ∧ slots + 96 ≤ room_1.slots) (hk : ∀ c s, c ≤ cells + 1 → s ≤ slots + 96 → ∀ (x3 : Int32) (X : qX) (I : qI), q_Lay X → q_kd X 64 = some (13, 9) → q_kd X 269 = some (14, 42) → k18 x3 X I = some z → g c s 18 [(0, .ref 0), (1, .ref 64), (2, .ref 269), (3, .int x3)] [] I X) (x3 : Int32) (X : qX) (I : qI) (hX : q_Lay X) (k_o1 : q_kd X 64 = some (13, 9)) (k_o2 : q_kd X 269 = some (14, 42)) (h : b_L_law_1916 L xs k18 x3 X I = some z) : g cells slots 1916 [(0, .ref 0), (1, .ref 64), (2, .ref 269), (3, .int x3)] [] I X := by
  unfold b_L_law_1916 at h
  refine r_aload_n hg 1 dL_law_1916 rfl rfl ?_
  obtain ⟨v1, I2, e3, h⟩ := q_b2_some h
  refine r_cV0i hg dL_law_1917 mt_X11_least ml_L_203 mv_X11_least k_o1 (s_X11_least hΓ hX k_o1 e3) ⟨Nat.le_of_ble_eq_true rfl, Nat.le_of_ble_eq_true rfl⟩ ⟨Nat.le_of_succ_le hcs.1, Nat.le_trans (Nat.le_add_right _ _) hcs.2⟩ (Nat.le_of_ble_eq_true rfl) ?_
  refine r_aload_n hg 2 dL_law_1920 rfl rfl ?_
  obtain ⟨v4, e5, h⟩ := q_b1_some h
  refine r_cV0i hg dL_law_1921 mt_X12_least_ ml_L_206 mv_X12_least_ k_o2 (s_X12_least_ hΓ hX k_o2 e5) ⟨Nat.le_of_ble_eq_true rfl, Nat.le_of_ble_eq_true rfl⟩ ⟨Nat.le_of_succ_le hcs.1, Nat.le_trans (Nat.le_add_right _ _) hcs.2⟩ (Nat.le_of_ble_eq_true rfl) ?_
  refine r_icmp_eq hg 2173 dL_law_1924 (by decide) (fun c6 => ?_) (fun c6 => ?_)
  · rw [if_pos c6] at h
    refine r_iinc hg 3 (v := (x3 + (nI 6))) (L' := [(3, .int (x3 + (nI 6))), (0, .ref 0), (1, .ref 64), (2, .ref 269)]) dL_law_2173 rfl (by rw [ci_6]) (by decide) rfl ?_
    refine r_goto hg 18 dL_law_2176 (by decide) ?_
    refine r_sub hg [1, 2, 3, 0] rfl ?_
    exact hk _ _ (Nat.le_succ _) (Nat.le_add_right _ _) _ _ _ hX k_o1 k_o2 h
  · rw [if_neg c6] at h
    refine r_iconst hg dL_law_1927 ci_0 ?_
    exact r_ireturn hr dL_law_1928 ⟨Nat.le_of_succ_le hcs.1, Nat.le_trans (Nat.le_add_right _ _) hcs.2⟩ ⟨_, rfl, bz_0.1⟩ (by cases h; rfl)
def b_L_law_1929 (L : Nat) (xs : Nat → Int32) (k18 : Int32 → qX → qI → Option (Int32 × qI × qX)) (x3 : Int32) (X : qX) (I : qI) : Option (Int32 × qI × qX) :=
  q_b1 (q_rdO xs L (x3 + (nI 1))) fun v1 =>
  q_b1 (q_rdO xs L (x3 + (nI 2))) fun v3 =>
  q_b1 (q_rdO xs L (x3 + (nI 3))) fun v5 =>
  q_b2 (f_X11_choice 64 v1 v3 v5 I) fun v7 I8 =>
  q_b1 (q_rdO xs L (x3 + (nI 1))) fun v10 =>
  q_b1 (q_rdO xs L (x3 + (nI 2))) fun v12 =>
  q_b1 (q_rdO xs L (x3 + (nI 3))) fun v14 =>
  q_b2 (f_X12_choice 269 v10 v12 v14 I8) fun v16 I17 =>
  if v7 = v16 then
    k18 (x3 + (nI 6)) X I17
  else
    some ((nI 0), I17, X)
set_option maxRecDepth 100000 in
set_option maxHeartbeats 4000000 in
theorem p_L_law_1929 {l : Launch} {Γ : qC} {g : qG} {z : Int32 × qI × qX} {L cells slots : Nat} {xs : Nat → Int32} {nm : String} {k18 : Int32 → qX → qI → Option (Int32 × qI × qX)} (hΓ : q_gm Γ) (hg : q_Ok l Γ RL cL_law 4 room_1 nm (some .boolean) g) (hr : q_Rt cL_law (some .boolean) room_1 (some (.int z.1), z.2.1, z.2.2) g) (hS : q_ol Γ 0 = L ∧ q_ov Γ 0 = xs) (hcs : cells + 1 ≤ room_1.cells ∧ slots + 96 ≤ room_1.slots) (hk : ∀ c s, c ≤ cells + 1 → s ≤ slots + 96 → ∀ (x3 : Int32) (X : qX) (I : qI), q_Lay X → q_kd X 64 = some (13, 9) → q_kd X 269 = some (14, 42) → k18 x3 X I = some z → g c s 18 [(0, .ref 0), (1, .ref 64), (2, .ref 269), (3, .int x3)] [] I X) (x3 : Int32) (X : qX) (I : qI) (hX : q_Lay X) (k_o1 : q_kd X 64 = some (13, 9)) (k_o2 : q_kd X 269 = some (14, 42)) (h : b_L_law_1929 L xs k18 x3 X I = some z) : g cells slots 1929 [(0, .ref 0), (1, .ref 64), (2, .ref 269), (3, .int x3)] [] I X := by
  unfold b_L_law_1929 at h
  refine r_aload_n hg 1 dL_law_1929 rfl rfl ?_
  refine r_aload_n hg 0 dL_law_1930 rfl rfl ?_
  refine r_iload_n hg 3 dL_law_1931 rfl rfl ?_
  refine r_iconst hg dL_law_1932 ci_1 ?_
  refine r_iadd hg dL_law_1933 ?_
  obtain ⟨v1, e2, h⟩ := q_b1_some h
  refine r_ialdC hg dL_law_1934 (by decide) hS.1 hS.2 e2 ?_
  refine r_aload_n hg 0 dL_law_1935 rfl rfl ?_
  refine r_iload_n hg 3 dL_law_1936 rfl rfl ?_
  refine r_iconst hg dL_law_1937 ci_2 ?_
  refine r_iadd hg dL_law_1938 ?_
  obtain ⟨v3, e4, h⟩ := q_b1_some h
  refine r_ialdC hg dL_law_1939 (by decide) hS.1 hS.2 e4 ?_
  refine r_aload_n hg 0 dL_law_1940 rfl rfl ?_
  refine r_iload_n hg 3 dL_law_1941 rfl rfl ?_
  refine r_iconst hg dL_law_1942 ci_3 ?_
  refine r_iadd hg dL_law_1943 ?_
  obtain ⟨v5, e6, h⟩ := q_b1_some h
  refine r_ialdC hg dL_law_1944 (by decide) hS.1 hS.2 e6 ?_
  obtain ⟨v7, I8, e9, h⟩ := q_b2_some h
  refine r_cV3i hg dL_law_1945 mt_X11_choice ml_L_207 mv_X11_choice k_o1 (s_X11_choice hΓ hX k_o1 e9) ⟨Nat.le_of_ble_eq_true rfl, Nat.le_of_ble_eq_true rfl⟩ ⟨Nat.le_of_succ_le hcs.1, Nat.le_trans (Nat.le_add_right _ _) hcs.2⟩ (Nat.le_of_ble_eq_true rfl) ?_
  refine r_aload_n hg 2 dL_law_1948 rfl rfl ?_
  refine r_aload_n hg 0 dL_law_1949 rfl rfl ?_
  refine r_iload_n hg 3 dL_law_1950 rfl rfl ?_
  refine r_iconst hg dL_law_1951 ci_1 ?_
  refine r_iadd hg dL_law_1952 ?_
  obtain ⟨v10, e11, h⟩ := q_b1_some h
  refine r_ialdC hg dL_law_1953 (by decide) hS.1 hS.2 e11 ?_
  refine r_aload_n hg 0 dL_law_1954 rfl rfl ?_
  refine r_iload_n hg 3 dL_law_1955 rfl rfl ?_
  refine r_iconst hg dL_law_1956 ci_2 ?_
  refine r_iadd hg dL_law_1957 ?_
  obtain ⟨v12, e13, h⟩ := q_b1_some h
  refine r_ialdC hg dL_law_1958 (by decide) hS.1 hS.2 e13 ?_
  refine r_aload_n hg 0 dL_law_1959 rfl rfl ?_
  refine r_iload_n hg 3 dL_law_1960 rfl rfl ?_
  refine r_iconst hg dL_law_1961 ci_3 ?_
  refine r_iadd hg dL_law_1962 ?_
  obtain ⟨v14, e15, h⟩ := q_b1_some h
  refine r_ialdC hg dL_law_1963 (by decide) hS.1 hS.2 e15 ?_
  obtain ⟨v16, I17, e18, h⟩ := q_b2_some h
  refine r_cV3i hg dL_law_1964 mt_X12_choice ml_L_210 mv_X12_choice k_o2 (s_X12_choice hΓ hX k_o2 e18) ⟨Nat.le_of_ble_eq_true rfl, Nat.le_of_ble_eq_true rfl⟩ ⟨Nat.le_of_succ_le hcs.1, Nat.le_trans (Nat.le_add_right _ _) hcs.2⟩ (Nat.le_of_ble_eq_true rfl) ?_
  refine r_icmp_eq hg 2173 dL_law_1967 (by decide) (fun c19 => ?_) (fun c19 => ?_)
  · rw [if_pos c19] at h
    refine r_iinc hg 3 (v := (x3 + (nI 6))) (L' := [(3, .int (x3 + (nI 6))), (0, .ref 0), (1, .ref 64), (2, .ref 269)]) dL_law_2173 rfl (by rw [ci_6]) (by decide) rfl ?_
    refine r_goto hg 18 dL_law_2176 (by decide) ?_
    refine r_sub hg [1, 2, 3, 0] rfl ?_
    exact hk _ _ (Nat.le_succ _) (Nat.le_add_right _ _) _ _ _ hX k_o1 k_o2 h
  · rw [if_neg c19] at h
    refine r_iconst hg dL_law_1970 ci_0 ?_
    exact r_ireturn hr dL_law_1971 ⟨Nat.le_of_succ_le hcs.1, Nat.le_trans (Nat.le_add_right _ _) hcs.2⟩ ⟨_, rfl, bz_0.1⟩ (by cases h; rfl)
def b_L_law_1972 (L : Nat) (xs : Nat → Int32) (k18 : Int32 → qX → qI → Option (Int32 × qI × qX)) (x3 : Int32) (X : qX) (I : qI) : Option (Int32 × qI × qX) :=
  q_b1 (q_rdO xs L (x3 + (nI 1))) fun v1 =>
  q_b1 (q_rdO xs L (x3 + (nI 2))) fun v3 =>
  q_b1 (q_rdO xs L (x3 + (nI 3))) fun v5 =>
  q_b2 (f_X11_plan 64 v1 v3 v5 I) fun v7 I8 =>
  q_b1 (q_rdO xs L (x3 + (nI 1))) fun v10 =>
  q_b1 (q_rdO xs L (x3 + (nI 2))) fun v12 =>
  q_b1 (q_rdO xs L (x3 + (nI 3))) fun v14 =>
  q_b2 (f_X12_plan 269 v10 v12 v14 I8) fun v16 I17 =>
  if v7 = v16 then
    k18 (x3 + (nI 6)) X I17
  else
    some ((nI 0), I17, X)
set_option maxRecDepth 100000 in
set_option maxHeartbeats 4000000 in
theorem p_L_law_1972 {l : Launch} {Γ : qC} {g : qG} {z : Int32 × qI × qX} {L cells slots : Nat} {xs : Nat → Int32} {nm : String} {k18 : Int32 → qX → qI → Option (Int32 × qI × qX)} (hΓ : q_gm Γ) (hg : q_Ok l Γ RL cL_law 4 room_1 nm (some .boolean) g) (hr : q_Rt cL_law (some .boolean) room_1 (some (.int z.1), z.2.1, z.2.2) g) (hS : q_ol Γ 0 = L ∧ q_ov Γ 0 = xs) (hcs : cells + 1 ≤ room_1.cells ∧ slots + 96 ≤ room_1.slots) (hk : ∀ c s, c ≤ cells + 1 → s ≤ slots + 96 → ∀ (x3 : Int32) (X : qX) (I : qI), q_Lay X → q_kd X 64 = some (13, 9) → q_kd X 269 = some (14, 42) → k18 x3 X I = some z → g c s 18 [(0, .ref 0), (1, .ref 64), (2, .ref 269), (3, .int x3)] [] I X) (x3 : Int32) (X : qX) (I : qI) (hX : q_Lay X) (k_o1 : q_kd X 64 = some (13, 9)) (k_o2 : q_kd X 269 = some (14, 42)) (h : b_L_law_1972 L xs k18 x3 X I = some z) : g cells slots 1972 [(0, .ref 0), (1, .ref 64), (2, .ref 269), (3, .int x3)] [] I X := by
  unfold b_L_law_1972 at h
  refine r_aload_n hg 1 dL_law_1972 rfl rfl ?_
  refine r_aload_n hg 0 dL_law_1973 rfl rfl ?_
  refine r_iload_n hg 3 dL_law_1974 rfl rfl ?_
  refine r_iconst hg dL_law_1975 ci_1 ?_
  refine r_iadd hg dL_law_1976 ?_
  obtain ⟨v1, e2, h⟩ := q_b1_some h
  refine r_ialdC hg dL_law_1977 (by decide) hS.1 hS.2 e2 ?_
  refine r_aload_n hg 0 dL_law_1978 rfl rfl ?_
  refine r_iload_n hg 3 dL_law_1979 rfl rfl ?_
  refine r_iconst hg dL_law_1980 ci_2 ?_
  refine r_iadd hg dL_law_1981 ?_
  obtain ⟨v3, e4, h⟩ := q_b1_some h
  refine r_ialdC hg dL_law_1982 (by decide) hS.1 hS.2 e4 ?_
  refine r_aload_n hg 0 dL_law_1983 rfl rfl ?_
  refine r_iload_n hg 3 dL_law_1984 rfl rfl ?_
  refine r_iconst hg dL_law_1985 ci_3 ?_
  refine r_iadd hg dL_law_1986 ?_
  obtain ⟨v5, e6, h⟩ := q_b1_some h
  refine r_ialdC hg dL_law_1987 (by decide) hS.1 hS.2 e6 ?_
  obtain ⟨v7, I8, e9, h⟩ := q_b2_some h
  refine r_cV3i hg dL_law_1988 mt_X11_plan ml_L_211 mv_X11_plan k_o1 (s_X11_plan hΓ hX k_o1 e9) ⟨Nat.le_of_ble_eq_true rfl, Nat.le_of_ble_eq_true rfl⟩ ⟨Nat.le_of_succ_le hcs.1, Nat.le_trans (Nat.le_add_right _ _) hcs.2⟩ (Nat.le_of_ble_eq_true rfl) ?_
  refine r_aload_n hg 2 dL_law_1991 rfl rfl ?_
  refine r_aload_n hg 0 dL_law_1992 rfl rfl ?_
  refine r_iload_n hg 3 dL_law_1993 rfl rfl ?_
  refine r_iconst hg dL_law_1994 ci_1 ?_
  refine r_iadd hg dL_law_1995 ?_
  obtain ⟨v10, e11, h⟩ := q_b1_some h
  refine r_ialdC hg dL_law_1996 (by decide) hS.1 hS.2 e11 ?_
  refine r_aload_n hg 0 dL_law_1997 rfl rfl ?_
  refine r_iload_n hg 3 dL_law_1998 rfl rfl ?_
  refine r_iconst hg dL_law_1999 ci_2 ?_
  refine r_iadd hg dL_law_2000 ?_
  obtain ⟨v12, e13, h⟩ := q_b1_some h
  refine r_ialdC hg dL_law_2001 (by decide) hS.1 hS.2 e13 ?_
  refine r_aload_n hg 0 dL_law_2002 rfl rfl ?_
  refine r_iload_n hg 3 dL_law_2003 rfl rfl ?_
  refine r_iconst hg dL_law_2004 ci_3 ?_
  refine r_iadd hg dL_law_2005 ?_
  obtain ⟨v14, e15, h⟩ := q_b1_some h
  refine r_ialdC hg dL_law_2006 (by decide) hS.1 hS.2 e15 ?_
  obtain ⟨v16, I17, e18, h⟩ := q_b2_some h
  refine r_cV3i hg dL_law_2007 mt_X12_plan ml_L_214 mv_X12_plan k_o2 (s_X12_plan hΓ hX k_o2 e18) ⟨Nat.le_of_ble_eq_true rfl, Nat.le_of_ble_eq_true rfl⟩ ⟨Nat.le_of_succ_le hcs.1, Nat.le_trans (Nat.le_add_right _ _) hcs.2⟩ (Nat.le_of_ble_eq_true rfl) ?_
  refine r_icmp_eq hg 2173 dL_law_2010 (by decide) (fun c19 => ?_) (fun c19 => ?_)
  · rw [if_pos c19] at h
    refine r_iinc hg 3 (v := (x3 + (nI 6))) (L' := [(3, .int (x3 + (nI 6))), (0, .ref 0), (1, .ref 64), (2, .ref 269)]) dL_law_2173 rfl (by rw [ci_6]) (by decide) rfl ?_
    refine r_goto hg 18 dL_law_2176 (by decide) ?_
    refine r_sub hg [1, 2, 3, 0] rfl ?_
    exact hk _ _ (Nat.le_succ _) (Nat.le_add_right _ _) _ _ _ hX k_o1 k_o2 h
  · rw [if_neg c19] at h
    refine r_iconst hg dL_law_2013 ci_0 ?_
    exact r_ireturn hr dL_law_2014 ⟨Nat.le_of_succ_le hcs.1, Nat.le_trans (Nat.le_add_right _ _) hcs.2⟩ ⟨_, rfl, bz_0.1⟩ (by cases h; rfl)
def b_L_law_2015 (L : Nat) (xs : Nat → Int32) (k18 : Int32 → qX → qI → Option (Int32 × qI × qX)) (x3 : Int32) (X : qX) (I : qI) : Option (Int32 × qI × qX) :=
  q_b1 (q_rdO xs L (x3 + (nI 1))) fun v1 =>
  q_b1 (q_rdO xs L (x3 + (nI 2))) fun v3 =>
  q_b1 (q_rdO xs L (x3 + (nI 3))) fun v5 =>
  q_b2 (f_X11_planned 64 v1 v3 v5 X I) fun v7 I8 =>
  q_b1 (q_rdO xs L (x3 + (nI 1))) fun v10 =>
  q_b1 (q_rdO xs L (x3 + (nI 2))) fun v12 =>
  q_b1 (q_rdO xs L (x3 + (nI 3))) fun v14 =>
  q_b2 (f_X12_planned 269 v10 v12 v14 I8) fun v16 I17 =>
  if v7 = v16 then
    k18 (x3 + (nI 6)) X I17
  else
    some ((nI 0), I17, X)
set_option maxRecDepth 100000 in
set_option maxHeartbeats 4000000 in
theorem p_L_law_2015 {l : Launch} {Γ : qC} {g : qG} {z : Int32 × qI × qX} {L cells slots : Nat} {xs : Nat → Int32} {nm : String} {k18 : Int32 → qX → qI → Option (Int32 × qI × qX)} (hΓ : q_gm Γ) (hg : q_Ok l Γ RL cL_law 4 room_1 nm (some .boolean) g) (hr : q_Rt cL_law (some .boolean) room_1 (some (.int z.1), z.2.1, z.2.2) g) (hS : q_ol Γ 0 = L ∧ q_ov Γ 0 = xs) (hcs : cells + 1 ≤ room_1.cells ∧ slots + 96 ≤ room_1.slots) (hk : ∀ c s, c ≤ cells + 1 → s ≤ slots + 96 → ∀ (x3 : Int32) (X : qX) (I : qI), q_Lay X → q_kd X 64 = some (13, 9) → q_kd X 269 = some (14, 42) → k18 x3 X I = some z → g c s 18 [(0, .ref 0), (1, .ref 64), (2, .ref 269), (3, .int x3)] [] I X) (x3 : Int32) (X : qX) (I : qI) (hX : q_Lay X) (k_o1 : q_kd X 64 = some (13, 9)) (k_o2 : q_kd X 269 = some (14, 42)) (h : b_L_law_2015 L xs k18 x3 X I = some z) : g cells slots 2015 [(0, .ref 0), (1, .ref 64), (2, .ref 269), (3, .int x3)] [] I X := by
  unfold b_L_law_2015 at h
  refine r_aload_n hg 1 dL_law_2015 rfl rfl ?_
  refine r_aload_n hg 0 dL_law_2016 rfl rfl ?_
  refine r_iload_n hg 3 dL_law_2017 rfl rfl ?_
  refine r_iconst hg dL_law_2018 ci_1 ?_
  refine r_iadd hg dL_law_2019 ?_
  obtain ⟨v1, e2, h⟩ := q_b1_some h
  refine r_ialdC hg dL_law_2020 (by decide) hS.1 hS.2 e2 ?_
  refine r_aload_n hg 0 dL_law_2021 rfl rfl ?_
  refine r_iload_n hg 3 dL_law_2022 rfl rfl ?_
  refine r_iconst hg dL_law_2023 ci_2 ?_
  refine r_iadd hg dL_law_2024 ?_
  obtain ⟨v3, e4, h⟩ := q_b1_some h
  refine r_ialdC hg dL_law_2025 (by decide) hS.1 hS.2 e4 ?_
  refine r_aload_n hg 0 dL_law_2026 rfl rfl ?_
  refine r_iload_n hg 3 dL_law_2027 rfl rfl ?_
  refine r_iconst hg dL_law_2028 ci_3 ?_
  refine r_iadd hg dL_law_2029 ?_
  obtain ⟨v5, e6, h⟩ := q_b1_some h
  refine r_ialdC hg dL_law_2030 (by decide) hS.1 hS.2 e6 ?_
  obtain ⟨v7, I8, e9, h⟩ := q_b2_some h
  refine r_cV3i hg dL_law_2031 mt_X11_planned ml_L_215 mv_X11_planned k_o1 (s_X11_planned hΓ hX k_o1 e9) ⟨Nat.le_of_ble_eq_true rfl, Nat.le_of_ble_eq_true rfl⟩ ⟨Nat.le_of_succ_le hcs.1, Nat.le_trans (Nat.le_add_right _ _) hcs.2⟩ (Nat.le_of_ble_eq_true rfl) ?_
  refine r_aload_n hg 2 dL_law_2034 rfl rfl ?_
  refine r_aload_n hg 0 dL_law_2035 rfl rfl ?_
  refine r_iload_n hg 3 dL_law_2036 rfl rfl ?_
  refine r_iconst hg dL_law_2037 ci_1 ?_
  refine r_iadd hg dL_law_2038 ?_
  obtain ⟨v10, e11, h⟩ := q_b1_some h
  refine r_ialdC hg dL_law_2039 (by decide) hS.1 hS.2 e11 ?_
  refine r_aload_n hg 0 dL_law_2040 rfl rfl ?_
  refine r_iload_n hg 3 dL_law_2041 rfl rfl ?_
  refine r_iconst hg dL_law_2042 ci_2 ?_
  refine r_iadd hg dL_law_2043 ?_
  obtain ⟨v12, e13, h⟩ := q_b1_some h
  refine r_ialdC hg dL_law_2044 (by decide) hS.1 hS.2 e13 ?_
  refine r_aload_n hg 0 dL_law_2045 rfl rfl ?_
  refine r_iload_n hg 3 dL_law_2046 rfl rfl ?_
  refine r_iconst hg dL_law_2047 ci_3 ?_
  refine r_iadd hg dL_law_2048 ?_
  obtain ⟨v14, e15, h⟩ := q_b1_some h
  refine r_ialdC hg dL_law_2049 (by decide) hS.1 hS.2 e15 ?_
  obtain ⟨v16, I17, e18, h⟩ := q_b2_some h
  refine r_cV3i hg dL_law_2050 mt_X12_planned ml_L_218 mv_X12_planned k_o2 (s_X12_planned hΓ hX k_o2 e18) ⟨Nat.le_of_ble_eq_true rfl, Nat.le_of_ble_eq_true rfl⟩ ⟨Nat.le_of_succ_le hcs.1, Nat.le_trans (Nat.le_add_right _ _) hcs.2⟩ (Nat.le_of_ble_eq_true rfl) ?_
  refine r_icmp_eq hg 2173 dL_law_2053 (by decide) (fun c19 => ?_) (fun c19 => ?_)
  · rw [if_pos c19] at h
    refine r_iinc hg 3 (v := (x3 + (nI 6))) (L' := [(3, .int (x3 + (nI 6))), (0, .ref 0), (1, .ref 64), (2, .ref 269)]) dL_law_2173 rfl (by rw [ci_6]) (by decide) rfl ?_
    refine r_goto hg 18 dL_law_2176 (by decide) ?_
    refine r_sub hg [1, 2, 3, 0] rfl ?_
    exact hk _ _ (Nat.le_succ _) (Nat.le_add_right _ _) _ _ _ hX k_o1 k_o2 h
  · rw [if_neg c19] at h
    refine r_iconst hg dL_law_2056 ci_0 ?_
    exact r_ireturn hr dL_law_2057 ⟨Nat.le_of_succ_le hcs.1, Nat.le_trans (Nat.le_add_right _ _) hcs.2⟩ ⟨_, rfl, bz_0.1⟩ (by cases h; rfl)
def b_L_law_2058 (L : Nat) (xs : Nat → Int32) (k18 : Int32 → qX → qI → Option (Int32 × qI × qX)) (x3 : Int32) (X : qX) (I : qI) : Option (Int32 × qI × qX) :=
  q_b1 (q_rdO xs L (x3 + (nI 1))) fun v1 =>
  q_b2 (f_X11_tell 64 v1 I) fun v3 I4 =>
  q_b1 (q_rdO xs L (x3 + (nI 1))) fun v6 =>
  q_b2 (f_X12_tell 269 v6 I4) fun v8 I9 =>
  if v3 = v8 then
    k18 (x3 + (nI 6)) X I9
  else
    some ((nI 0), I9, X)
set_option maxRecDepth 100000 in
set_option maxHeartbeats 4000000 in
theorem p_L_law_2058 {l : Launch} {Γ : qC} {g : qG} {z : Int32 × qI × qX} {L cells slots : Nat} {xs : Nat → Int32} {nm : String} {k18 : Int32 → qX → qI → Option (Int32 × qI × qX)} (hΓ : q_gm Γ) (hg : q_Ok l Γ RL cL_law 4 room_1 nm (some .boolean) g) (hr : q_Rt cL_law (some .boolean) room_1 (some (.int z.1), z.2.1, z.2.2) g) (hS : q_ol Γ 0 = L ∧ q_ov Γ 0 = xs) (hcs : cells + 1 ≤ room_1.cells ∧ slots + 96 ≤ room_1.slots) (hk : ∀ c s, c ≤ cells + 1 → s ≤ slots + 96 → ∀ (x3 : Int32) (X : qX) (I : qI), q_Lay X → q_kd X 64 = some (13, 9) → q_kd X 269 = some (14, 42) → k18 x3 X I = some z → g c s 18 [(0, .ref 0), (1, .ref 64), (2, .ref 269), (3, .int x3)] [] I X) (x3 : Int32) (X : qX) (I : qI) (hX : q_Lay X) (k_o1 : q_kd X 64 = some (13, 9)) (k_o2 : q_kd X 269 = some (14, 42)) (h : b_L_law_2058 L xs k18 x3 X I = some z) : g cells slots 2058 [(0, .ref 0), (1, .ref 64), (2, .ref 269), (3, .int x3)] [] I X := by
  unfold b_L_law_2058 at h
  refine r_aload_n hg 1 dL_law_2058 rfl rfl ?_
  refine r_aload_n hg 0 dL_law_2059 rfl rfl ?_
  refine r_iload_n hg 3 dL_law_2060 rfl rfl ?_
  refine r_iconst hg dL_law_2061 ci_1 ?_
  refine r_iadd hg dL_law_2062 ?_
  obtain ⟨v1, e2, h⟩ := q_b1_some h
  refine r_ialdC hg dL_law_2063 (by decide) hS.1 hS.2 e2 ?_
  obtain ⟨v3, I4, e5, h⟩ := q_b2_some h
  refine r_cV1i hg dL_law_2064 mt_X11_tell ml_L_219 mv_X11_tell k_o1 (s_X11_tell hΓ hX k_o1 e5) ⟨Nat.le_of_ble_eq_true rfl, Nat.le_of_ble_eq_true rfl⟩ ⟨Nat.le_of_succ_le hcs.1, Nat.le_trans (Nat.le_add_right _ _) hcs.2⟩ (Nat.le_of_ble_eq_true rfl) ?_
  refine r_aload_n hg 2 dL_law_2067 rfl rfl ?_
  refine r_aload_n hg 0 dL_law_2068 rfl rfl ?_
  refine r_iload_n hg 3 dL_law_2069 rfl rfl ?_
  refine r_iconst hg dL_law_2070 ci_1 ?_
  refine r_iadd hg dL_law_2071 ?_
  obtain ⟨v6, e7, h⟩ := q_b1_some h
  refine r_ialdC hg dL_law_2072 (by decide) hS.1 hS.2 e7 ?_
  obtain ⟨v8, I9, e10, h⟩ := q_b2_some h
  refine r_cV1i hg dL_law_2073 mt_X12_tell ml_L_222 mv_X12_tell k_o2 (s_X12_tell hΓ hX k_o2 e10) ⟨Nat.le_of_ble_eq_true rfl, Nat.le_of_ble_eq_true rfl⟩ ⟨Nat.le_of_succ_le hcs.1, Nat.le_trans (Nat.le_add_right _ _) hcs.2⟩ (Nat.le_of_ble_eq_true rfl) ?_
  refine r_icmp_eq hg 2173 dL_law_2076 (by decide) (fun c11 => ?_) (fun c11 => ?_)
  · rw [if_pos c11] at h
    refine r_iinc hg 3 (v := (x3 + (nI 6))) (L' := [(3, .int (x3 + (nI 6))), (0, .ref 0), (1, .ref 64), (2, .ref 269)]) dL_law_2173 rfl (by rw [ci_6]) (by decide) rfl ?_
    refine r_goto hg 18 dL_law_2176 (by decide) ?_
    refine r_sub hg [1, 2, 3, 0] rfl ?_
    exact hk _ _ (Nat.le_succ _) (Nat.le_add_right _ _) _ _ _ hX k_o1 k_o2 h
  · rw [if_neg c11] at h
    refine r_iconst hg dL_law_2079 ci_0 ?_
    exact r_ireturn hr dL_law_2080 ⟨Nat.le_of_succ_le hcs.1, Nat.le_trans (Nat.le_add_right _ _) hcs.2⟩ ⟨_, rfl, bz_0.1⟩ (by cases h; rfl)
def b_L_law_2081 (L : Nat) (xs : Nat → Int32) (k18 : Int32 → qX → qI → Option (Int32 × qI × qX)) (x3 : Int32) (X : qX) (I : qI) : Option (Int32 × qI × qX) :=
  q_b1 (q_rdO xs L (x3 + (nI 1))) fun v1 =>
  q_b1 (q_rdO xs L (x3 + (nI 2))) fun v3 =>
  q_b1 (q_rdO xs L (x3 + (nI 3))) fun v5 =>
  q_b3 (f_X11_check 64 v1 v3 v5 X I) fun v7 I8 X9 =>
  q_b1 (q_rdO xs L (x3 + (nI 1))) fun v13 =>
  q_b1 (q_rdO xs L (x3 + (nI 2))) fun v15 =>
  q_b1 (q_rdO xs L (x3 + (nI 3))) fun v17 =>
  q_b2 (f_X12_check 269 v13 v15 v17 X9 I8) fun v19 I20 =>
  if v7 = v19 then
    k18 (x3 + (nI 6)) X9 I20
  else
    some ((nI 0), I20, X9)
set_option maxRecDepth 100000 in
set_option maxHeartbeats 4000000 in
theorem p_L_law_2081 {l : Launch} {Γ : qC} {g : qG} {z : Int32 × qI × qX} {L cells slots : Nat} {xs : Nat → Int32} {nm : String} {k18 : Int32 → qX → qI → Option (Int32 × qI × qX)} (hΓ : q_gm Γ) (hg : q_Ok l Γ RL cL_law 4 room_1 nm (some .boolean) g) (hr : q_Rt cL_law (some .boolean) room_1 (some (.int z.1), z.2.1, z.2.2) g) (hS : q_ol Γ 0 = L ∧ q_ov Γ 0 = xs) (hcs : cells + 1 ≤ room_1.cells ∧ slots + 96 ≤ room_1.slots) (hk : ∀ c s, c ≤ cells + 1 → s ≤ slots + 96 → ∀ (x3 : Int32) (X : qX) (I : qI), q_Lay X → q_kd X 64 = some (13, 9) → q_kd X 269 = some (14, 42) → k18 x3 X I = some z → g c s 18 [(0, .ref 0), (1, .ref 64), (2, .ref 269), (3, .int x3)] [] I X) (x3 : Int32) (X : qX) (I : qI) (hX : q_Lay X) (k_o1 : q_kd X 64 = some (13, 9)) (k_o2 : q_kd X 269 = some (14, 42)) (h : b_L_law_2081 L xs k18 x3 X I = some z) : g cells slots 2081 [(0, .ref 0), (1, .ref 64), (2, .ref 269), (3, .int x3)] [] I X := by
  unfold b_L_law_2081 at h
  refine r_aload_n hg 1 dL_law_2081 rfl rfl ?_
  refine r_aload_n hg 0 dL_law_2082 rfl rfl ?_
  refine r_iload_n hg 3 dL_law_2083 rfl rfl ?_
  refine r_iconst hg dL_law_2084 ci_1 ?_
  refine r_iadd hg dL_law_2085 ?_
  obtain ⟨v1, e2, h⟩ := q_b1_some h
  refine r_ialdC hg dL_law_2086 (by decide) hS.1 hS.2 e2 ?_
  refine r_aload_n hg 0 dL_law_2087 rfl rfl ?_
  refine r_iload_n hg 3 dL_law_2088 rfl rfl ?_
  refine r_iconst hg dL_law_2089 ci_2 ?_
  refine r_iadd hg dL_law_2090 ?_
  obtain ⟨v3, e4, h⟩ := q_b1_some h
  refine r_ialdC hg dL_law_2091 (by decide) hS.1 hS.2 e4 ?_
  refine r_aload_n hg 0 dL_law_2092 rfl rfl ?_
  refine r_iload_n hg 3 dL_law_2093 rfl rfl ?_
  refine r_iconst hg dL_law_2094 ci_3 ?_
  refine r_iadd hg dL_law_2095 ?_
  obtain ⟨v5, e6, h⟩ := q_b1_some h
  refine r_ialdC hg dL_law_2096 (by decide) hS.1 hS.2 e6 ?_
  obtain ⟨v7, I8, X9, e10, h⟩ := q_b3_some h
  refine r_cV3i hg dL_law_2097 mt_X11_check ml_L_223 mv_X11_check k_o1 (s_X11_check hΓ hX k_o1 e10) ⟨Nat.le_of_ble_eq_true rfl, Nat.le_of_ble_eq_true rfl⟩ ⟨Nat.le_of_succ_le hcs.1, Nat.le_trans (Nat.le_add_right _ _) hcs.2⟩ (Nat.le_of_ble_eq_true rfl) ?_
  obtain ⟨hX12, e11⟩ := x_X11_check hX k_o1 e10
  refine r_aload_n hg 2 dL_law_2100 rfl rfl ?_
  refine r_aload_n hg 0 dL_law_2101 rfl rfl ?_
  refine r_iload_n hg 3 dL_law_2102 rfl rfl ?_
  refine r_iconst hg dL_law_2103 ci_1 ?_
  refine r_iadd hg dL_law_2104 ?_
  obtain ⟨v13, e14, h⟩ := q_b1_some h
  refine r_ialdC hg dL_law_2105 (by decide) hS.1 hS.2 e14 ?_
  refine r_aload_n hg 0 dL_law_2106 rfl rfl ?_
  refine r_iload_n hg 3 dL_law_2107 rfl rfl ?_
  refine r_iconst hg dL_law_2108 ci_2 ?_
  refine r_iadd hg dL_law_2109 ?_
  obtain ⟨v15, e16, h⟩ := q_b1_some h
  refine r_ialdC hg dL_law_2110 (by decide) hS.1 hS.2 e16 ?_
  refine r_aload_n hg 0 dL_law_2111 rfl rfl ?_
  refine r_iload_n hg 3 dL_law_2112 rfl rfl ?_
  refine r_iconst hg dL_law_2113 ci_3 ?_
  refine r_iadd hg dL_law_2114 ?_
  obtain ⟨v17, e18, h⟩ := q_b1_some h
  refine r_ialdC hg dL_law_2115 (by decide) hS.1 hS.2 e18 ?_
  obtain ⟨v19, I20, e21, h⟩ := q_b2_some h
  refine r_cV3i hg dL_law_2116 mt_X12_check ml_L_226 mv_X12_check (e11 _ _ k_o2) (s_X12_check hΓ hX12 (e11 _ _ k_o2) e21) ⟨Nat.le_of_ble_eq_true rfl, Nat.le_of_ble_eq_true rfl⟩ ⟨Nat.le_of_succ_le hcs.1, Nat.le_trans (Nat.le_add_right _ _) hcs.2⟩ (Nat.le_of_ble_eq_true rfl) ?_
  refine r_icmp_eq hg 2173 dL_law_2119 (by decide) (fun c22 => ?_) (fun c22 => ?_)
  · rw [if_pos c22] at h
    refine r_iinc hg 3 (v := (x3 + (nI 6))) (L' := [(3, .int (x3 + (nI 6))), (0, .ref 0), (1, .ref 64), (2, .ref 269)]) dL_law_2173 rfl (by rw [ci_6]) (by decide) rfl ?_
    refine r_goto hg 18 dL_law_2176 (by decide) ?_
    refine r_sub hg [1, 2, 3, 0] rfl ?_
    exact hk _ _ (Nat.le_succ _) (Nat.le_add_right _ _) _ _ _ hX12 (e11 _ _ k_o1) (e11 _ _ k_o2) h
  · rw [if_neg c22] at h
    refine r_iconst hg dL_law_2122 ci_0 ?_
    exact r_ireturn hr dL_law_2123 ⟨Nat.le_of_succ_le hcs.1, Nat.le_trans (Nat.le_add_right _ _) hcs.2⟩ ⟨_, rfl, bz_0.1⟩ (by cases h; rfl)
def b_L_law_2124 (L : Nat) (xs : Nat → Int32) (k18 : Int32 → qX → qI → Option (Int32 × qI × qX)) (x3 : Int32) (X : qX) (I : qI) : Option (Int32 × qI × qX) :=
  q_b3 (f_X11_keep 64 X I) fun v1 I2 X3 =>
  q_b2 (f_X12_keep 269 X3 I2) fun v7 I8 =>
  if v1 = v7 then
    k18 (x3 + (nI 6)) X3 I8
  else
    some ((nI 0), I8, X3)
set_option maxRecDepth 100000 in
set_option maxHeartbeats 4000000 in
theorem p_L_law_2124 {l : Launch} {Γ : qC} {g : qG} {z : Int32 × qI × qX} {L cells slots : Nat} {xs : Nat → Int32} {nm : String} {k18 : Int32 → qX → qI → Option (Int32 × qI × qX)} (hΓ : q_gm Γ) (hg : q_Ok l Γ RL cL_law 4 room_1 nm (some .boolean) g) (hr : q_Rt cL_law (some .boolean) room_1 (some (.int z.1), z.2.1, z.2.2) g) (hS : q_ol Γ 0 = L ∧ q_ov Γ 0 = xs) (hcs : cells + 1 ≤ room_1.cells ∧ slots + 96 ≤ room_1.slots) (hk : ∀ c s, c ≤ cells + 1 → s ≤ slots + 96 → ∀ (x3 : Int32) (X : qX) (I : qI), q_Lay X → q_kd X 64 = some (13, 9) → q_kd X 269 = some (14, 42) → k18 x3 X I = some z → g c s 18 [(0, .ref 0), (1, .ref 64), (2, .ref 269), (3, .int x3)] [] I X) (x3 : Int32) (X : qX) (I : qI) (hX : q_Lay X) (k_o1 : q_kd X 64 = some (13, 9)) (k_o2 : q_kd X 269 = some (14, 42)) (h : b_L_law_2124 L xs k18 x3 X I = some z) : g cells slots 2124 [(0, .ref 0), (1, .ref 64), (2, .ref 269), (3, .int x3)] [] I X := by
  unfold b_L_law_2124 at h
  refine r_aload_n hg 1 dL_law_2124 rfl rfl ?_
  obtain ⟨v1, I2, X3, e4, h⟩ := q_b3_some h
  refine r_cV0i hg dL_law_2125 mt_X11_keep ml_L_227 mv_X11_keep k_o1 (s_X11_keep hΓ hX k_o1 e4) ⟨Nat.le_of_ble_eq_true rfl, Nat.le_of_ble_eq_true rfl⟩ ⟨Nat.le_of_succ_le hcs.1, Nat.le_trans (Nat.le_add_right _ _) hcs.2⟩ (Nat.le_of_ble_eq_true rfl) ?_
  obtain ⟨hX6, e5⟩ := x_X11_keep hX k_o1 e4
  refine r_aload_n hg 2 dL_law_2128 rfl rfl ?_
  obtain ⟨v7, I8, e9, h⟩ := q_b2_some h
  refine r_cV0i hg dL_law_2129 mt_X12_keep ml_L_230 mv_X12_keep (e5 _ _ k_o2) (s_X12_keep hΓ hX6 (e5 _ _ k_o2) e9) ⟨Nat.le_of_ble_eq_true rfl, Nat.le_of_ble_eq_true rfl⟩ ⟨Nat.le_of_succ_le hcs.1, Nat.le_trans (Nat.le_add_right _ _) hcs.2⟩ (Nat.le_of_ble_eq_true rfl) ?_
  refine r_icmp_eq hg 2173 dL_law_2132 (by decide) (fun c10 => ?_) (fun c10 => ?_)
  · rw [if_pos c10] at h
    refine r_iinc hg 3 (v := (x3 + (nI 6))) (L' := [(3, .int (x3 + (nI 6))), (0, .ref 0), (1, .ref 64), (2, .ref 269)]) dL_law_2173 rfl (by rw [ci_6]) (by decide) rfl ?_
    refine r_goto hg 18 dL_law_2176 (by decide) ?_
    refine r_sub hg [1, 2, 3, 0] rfl ?_
    exact hk _ _ (Nat.le_succ _) (Nat.le_add_right _ _) _ _ _ hX6 (e5 _ _ k_o1) (e5 _ _ k_o2) h
  · rw [if_neg c10] at h
    refine r_iconst hg dL_law_2135 ci_0 ?_
    exact r_ireturn hr dL_law_2136 ⟨Nat.le_of_succ_le hcs.1, Nat.le_trans (Nat.le_add_right _ _) hcs.2⟩ ⟨_, rfl, bz_0.1⟩ (by cases h; rfl)
def b_L_law_2137 (L : Nat) (xs : Nat → Int32) (k18 : Int32 → qX → qI → Option (Int32 × qI × qX)) (x3 : Int32) (X : qX) (I : qI) : Option (Int32 × qI × qX) :=
  q_b3 (f_X11_back 64 X I) fun v1 I2 X3 =>
  q_b2 (f_X12_back 269 X3 I2) fun v7 I8 =>
  if v1 = v7 then
    k18 (x3 + (nI 6)) X3 I8
  else
    some ((nI 0), I8, X3)
set_option maxRecDepth 100000 in
set_option maxHeartbeats 4000000 in
theorem p_L_law_2137 {l : Launch} {Γ : qC} {g : qG} {z : Int32 × qI × qX} {L cells slots : Nat} {xs : Nat → Int32} {nm : String} {k18 : Int32 → qX → qI → Option (Int32 × qI × qX)} (hΓ : q_gm Γ) (hg : q_Ok l Γ RL cL_law 4 room_1 nm (some .boolean) g) (hr : q_Rt cL_law (some .boolean) room_1 (some (.int z.1), z.2.1, z.2.2) g) (hS : q_ol Γ 0 = L ∧ q_ov Γ 0 = xs) (hcs : cells + 1 ≤ room_1.cells ∧ slots + 96 ≤ room_1.slots) (hk : ∀ c s, c ≤ cells + 1 → s ≤ slots + 96 → ∀ (x3 : Int32) (X : qX) (I : qI), q_Lay X → q_kd X 64 = some (13, 9) → q_kd X 269 = some (14, 42) → k18 x3 X I = some z → g c s 18 [(0, .ref 0), (1, .ref 64), (2, .ref 269), (3, .int x3)] [] I X) (x3 : Int32) (X : qX) (I : qI) (hX : q_Lay X) (k_o1 : q_kd X 64 = some (13, 9)) (k_o2 : q_kd X 269 = some (14, 42)) (h : b_L_law_2137 L xs k18 x3 X I = some z) : g cells slots 2137 [(0, .ref 0), (1, .ref 64), (2, .ref 269), (3, .int x3)] [] I X := by
  unfold b_L_law_2137 at h
  refine r_aload_n hg 1 dL_law_2137 rfl rfl ?_
  obtain ⟨v1, I2, X3, e4, h⟩ := q_b3_some h
  refine r_cV0i hg dL_law_2138 mt_X11_back ml_L_231 mv_X11_back k_o1 (s_X11_back hΓ hX k_o1 e4) ⟨Nat.le_of_ble_eq_true rfl, Nat.le_of_ble_eq_true rfl⟩ ⟨Nat.le_of_succ_le hcs.1, Nat.le_trans (Nat.le_add_right _ _) hcs.2⟩ (Nat.le_of_ble_eq_true rfl) ?_
  obtain ⟨hX6, e5⟩ := x_X11_back hX k_o1 e4
  refine r_aload_n hg 2 dL_law_2141 rfl rfl ?_
  obtain ⟨v7, I8, e9, h⟩ := q_b2_some h
  refine r_cV0i hg dL_law_2142 mt_X12_back ml_L_234 mv_X12_back (e5 _ _ k_o2) (s_X12_back hΓ hX6 (e5 _ _ k_o2) e9) ⟨Nat.le_of_ble_eq_true rfl, Nat.le_of_ble_eq_true rfl⟩ ⟨Nat.le_of_succ_le hcs.1, Nat.le_trans (Nat.le_add_right _ _) hcs.2⟩ (Nat.le_of_ble_eq_true rfl) ?_
  refine r_icmp_eq hg 2173 dL_law_2145 (by decide) (fun c10 => ?_) (fun c10 => ?_)
  · rw [if_pos c10] at h
    refine r_iinc hg 3 (v := (x3 + (nI 6))) (L' := [(3, .int (x3 + (nI 6))), (0, .ref 0), (1, .ref 64), (2, .ref 269)]) dL_law_2173 rfl (by rw [ci_6]) (by decide) rfl ?_
    refine r_goto hg 18 dL_law_2176 (by decide) ?_
    refine r_sub hg [1, 2, 3, 0] rfl ?_
    exact hk _ _ (Nat.le_succ _) (Nat.le_add_right _ _) _ _ _ hX6 (e5 _ _ k_o1) (e5 _ _ k_o2) h
  · rw [if_neg c10] at h
    refine r_iconst hg dL_law_2148 ci_0 ?_
    exact r_ireturn hr dL_law_2149 ⟨Nat.le_of_succ_le hcs.1, Nat.le_trans (Nat.le_add_right _ _) hcs.2⟩ ⟨_, rfl, bz_0.1⟩ (by cases h; rfl)
def b_L_law_2150 (L : Nat) (xs : Nat → Int32) (k18 : Int32 → qX → qI → Option (Int32 × qI × qX)) (x3 : Int32) (X : qX) (I : qI) : Option (Int32 × qI × qX) :=
  q_b1 (q_rdO xs L (x3 + (nI 1))) fun v1 =>
  q_b1 (f_X11_count 64 v1 X I) fun v3 =>
  q_b1 (q_rdO xs L (x3 + (nI 1))) fun v5 =>
  q_b1 (f_X12_count 269 v5 I) fun v7 =>
  if v3 = v7 then
    k18 (x3 + (nI 6)) X I
  else
    some ((nI 0), I, X)
set_option maxRecDepth 100000 in
set_option maxHeartbeats 4000000 in
theorem p_L_law_2150 {l : Launch} {Γ : qC} {g : qG} {z : Int32 × qI × qX} {L cells slots : Nat} {xs : Nat → Int32} {nm : String} {k18 : Int32 → qX → qI → Option (Int32 × qI × qX)} (hΓ : q_gm Γ) (hg : q_Ok l Γ RL cL_law 4 room_1 nm (some .boolean) g) (hr : q_Rt cL_law (some .boolean) room_1 (some (.int z.1), z.2.1, z.2.2) g) (hS : q_ol Γ 0 = L ∧ q_ov Γ 0 = xs) (hcs : cells + 1 ≤ room_1.cells ∧ slots + 96 ≤ room_1.slots) (hk : ∀ c s, c ≤ cells + 1 → s ≤ slots + 96 → ∀ (x3 : Int32) (X : qX) (I : qI), q_Lay X → q_kd X 64 = some (13, 9) → q_kd X 269 = some (14, 42) → k18 x3 X I = some z → g c s 18 [(0, .ref 0), (1, .ref 64), (2, .ref 269), (3, .int x3)] [] I X) (x3 : Int32) (X : qX) (I : qI) (hX : q_Lay X) (k_o1 : q_kd X 64 = some (13, 9)) (k_o2 : q_kd X 269 = some (14, 42)) (h : b_L_law_2150 L xs k18 x3 X I = some z) : g cells slots 2150 [(0, .ref 0), (1, .ref 64), (2, .ref 269), (3, .int x3)] [] I X := by
  unfold b_L_law_2150 at h
  refine r_aload_n hg 1 dL_law_2150 rfl rfl ?_
  refine r_aload_n hg 0 dL_law_2151 rfl rfl ?_
  refine r_iload_n hg 3 dL_law_2152 rfl rfl ?_
  refine r_iconst hg dL_law_2153 ci_1 ?_
  refine r_iadd hg dL_law_2154 ?_
  obtain ⟨v1, e2, h⟩ := q_b1_some h
  refine r_ialdC hg dL_law_2155 (by decide) hS.1 hS.2 e2 ?_
  obtain ⟨v3, e4, h⟩ := q_b1_some h
  refine r_cV1i hg dL_law_2156 mt_X11_count ml_L_235 mv_X11_count k_o1 (s_X11_count hΓ hX k_o1 e4) ⟨Nat.le_of_ble_eq_true rfl, Nat.le_of_ble_eq_true rfl⟩ ⟨Nat.le_of_succ_le hcs.1, Nat.le_trans (Nat.le_add_right _ _) hcs.2⟩ (Nat.le_of_ble_eq_true rfl) ?_
  refine r_aload_n hg 2 dL_law_2159 rfl rfl ?_
  refine r_aload_n hg 0 dL_law_2160 rfl rfl ?_
  refine r_iload_n hg 3 dL_law_2161 rfl rfl ?_
  refine r_iconst hg dL_law_2162 ci_1 ?_
  refine r_iadd hg dL_law_2163 ?_
  obtain ⟨v5, e6, h⟩ := q_b1_some h
  refine r_ialdC hg dL_law_2164 (by decide) hS.1 hS.2 e6 ?_
  obtain ⟨v7, e8, h⟩ := q_b1_some h
  refine r_cV1i hg dL_law_2165 mt_X12_count ml_L_238 mv_X12_count k_o2 (s_X12_count hΓ hX k_o2 e8) ⟨Nat.le_of_ble_eq_true rfl, Nat.le_of_ble_eq_true rfl⟩ ⟨Nat.le_of_succ_le hcs.1, Nat.le_trans (Nat.le_add_right _ _) hcs.2⟩ (Nat.le_of_ble_eq_true rfl) ?_
  refine r_icmp_eq hg 2173 dL_law_2168 (by decide) (fun c9 => ?_) (fun c9 => ?_)
  · rw [if_pos c9] at h
    refine r_iinc hg 3 (v := (x3 + (nI 6))) (L' := [(3, .int (x3 + (nI 6))), (0, .ref 0), (1, .ref 64), (2, .ref 269)]) dL_law_2173 rfl (by rw [ci_6]) (by decide) rfl ?_
    refine r_goto hg 18 dL_law_2176 (by decide) ?_
    refine r_sub hg [1, 2, 3, 0] rfl ?_
    exact hk _ _ (Nat.le_succ _) (Nat.le_add_right _ _) _ _ _ hX k_o1 k_o2 h
  · rw [if_neg c9] at h
    refine r_iconst hg dL_law_2171 ci_0 ?_
    exact r_ireturn hr dL_law_2172 ⟨Nat.le_of_succ_le hcs.1, Nat.le_trans (Nat.le_add_right _ _) hcs.2⟩ ⟨_, rfl, bz_0.1⟩ (by cases h; rfl)
def b_L_law_18 (L : Nat) (xs : Nat → Int32) (k18 : Int32 → qX → qI → Option (Int32 × qI × qX)) (x3 : Int32) (X : qX) (I : qI) : Option (Int32 × qI × qX) :=
  if ((nI L) - (nI 6)) < x3 then
    some ((nI 1), I, X)
  else
    q_b1 (q_rdO xs L x3) fun v2 =>
    if (v2 &&& (nI 63)) = (nI 0) then
      b_L_law_268 L xs k18 x3 X I
    else
    if (v2 &&& (nI 63)) = (nI 1) then
      b_L_law_311 L xs k18 x3 X I
    else
    if (v2 &&& (nI 63)) = (nI 2) then
      b_L_law_344 L xs k18 x3 X I
    else
    if (v2 &&& (nI 63)) = (nI 3) then
      b_L_law_397 L xs k18 x3 X I
    else
    if (v2 &&& (nI 63)) = (nI 4) then
      b_L_law_440 L xs k18 x3 X I
    else
    if (v2 &&& (nI 63)) = (nI 5) then
      b_L_law_473 L xs k18 x3 X I
    else
    if (v2 &&& (nI 63)) = (nI 6) then
      b_L_law_516 L xs k18 x3 X I
    else
    if (v2 &&& (nI 63)) = (nI 7) then
      b_L_law_549 L xs k18 x3 X I
    else
    if (v2 &&& (nI 63)) = (nI 8) then
      b_L_law_592 L xs k18 x3 X I
    else
    if (v2 &&& (nI 63)) = (nI 9) then
      b_L_law_635 L xs k18 x3 X I
    else
    if (v2 &&& (nI 63)) = (nI 10) then
      b_L_law_668 L xs k18 x3 X I
    else
    if (v2 &&& (nI 63)) = (nI 11) then
      b_L_law_701 L xs k18 x3 X I
    else
    if (v2 &&& (nI 63)) = (nI 12) then
      b_L_law_724 L xs k18 x3 X I
    else
    if (v2 &&& (nI 63)) = (nI 13) then
      b_L_law_767 L xs k18 x3 X I
    else
    if (v2 &&& (nI 63)) = (nI 14) then
      b_L_law_800 L xs k18 x3 X I
    else
    if (v2 &&& (nI 63)) = (nI 15) then
      b_L_law_843 L xs k18 x3 X I
    else
    if (v2 &&& (nI 63)) = (nI 16) then
      b_L_law_886 L xs k18 x3 X I
    else
    if (v2 &&& (nI 63)) = (nI 17) then
      b_L_law_909 L xs k18 x3 X I
    else
    if (v2 &&& (nI 63)) = (nI 18) then
      b_L_law_952 L xs k18 x3 X I
    else
    if (v2 &&& (nI 63)) = (nI 19) then
      b_L_law_975 L xs k18 x3 X I
    else
    if (v2 &&& (nI 63)) = (nI 20) then
      b_L_law_1008 L xs k18 x3 X I
    else
    if (v2 &&& (nI 63)) = (nI 21) then
      b_L_law_1041 L xs k18 x3 X I
    else
    if (v2 &&& (nI 63)) = (nI 22) then
      b_L_law_1064 L xs k18 x3 X I
    else
    if (v2 &&& (nI 63)) = (nI 23) then
      b_L_law_1087 L xs k18 x3 X I
    else
    if (v2 &&& (nI 63)) = (nI 24) then
      b_L_law_1120 L xs k18 x3 X I
    else
    if (v2 &&& (nI 63)) = (nI 25) then
      b_L_law_1173 L xs k18 x3 X I
    else
    if (v2 &&& (nI 63)) = (nI 26) then
      b_L_law_1216 L xs k18 x3 X I
    else
    if (v2 &&& (nI 63)) = (nI 27) then
      b_L_law_1249 L xs k18 x3 X I
    else
    if (v2 &&& (nI 63)) = (nI 28) then
      b_L_law_1292 L xs k18 x3 X I
    else
    if (v2 &&& (nI 63)) = (nI 29) then
      b_L_law_1315 L xs k18 x3 X I
    else
    if (v2 &&& (nI 63)) = (nI 30) then
      b_L_law_1338 L xs k18 x3 X I
    else
    if (v2 &&& (nI 63)) = (nI 31) then
      b_L_law_1371 L xs k18 x3 X I
    else
    if (v2 &&& (nI 63)) = (nI 32) then
      b_L_law_1394 L xs k18 x3 X I
    else
    if (v2 &&& (nI 63)) = (nI 33) then
      b_L_law_1447 L xs k18 x3 X I
    else
    if (v2 &&& (nI 63)) = (nI 34) then
      b_L_law_1490 L xs k18 x3 X I
    else
    if (v2 &&& (nI 63)) = (nI 35) then
      b_L_law_1533 L xs k18 x3 X I
    else
    if (v2 &&& (nI 63)) = (nI 36) then
      b_L_law_1566 L xs k18 x3 X I
    else
    if (v2 &&& (nI 63)) = (nI 37) then
      b_L_law_1629 L xs k18 x3 X I
    else
    if (v2 &&& (nI 63)) = (nI 38) then
      b_L_law_1662 L xs k18 x3 X I
    else
    if (v2 &&& (nI 63)) = (nI 39) then
      b_L_law_1715 L xs k18 x3 X I
    else
    if (v2 &&& (nI 63)) = (nI 40) then
      b_L_law_1728 L xs k18 x3 X I
    else
    if (v2 &&& (nI 63)) = (nI 41) then
      b_L_law_1751 L xs k18 x3 X I
    else
    if (v2 &&& (nI 63)) = (nI 42) then
      b_L_law_1784 L xs k18 x3 X I
    else
    if (v2 &&& (nI 63)) = (nI 43) then
      b_L_law_1827 L xs k18 x3 X I
    else
    if (v2 &&& (nI 63)) = (nI 44) then
      b_L_law_1850 L xs k18 x3 X I
    else
    if (v2 &&& (nI 63)) = (nI 45) then
      b_L_law_1883 L xs k18 x3 X I
    else
    if (v2 &&& (nI 63)) = (nI 46) then
      b_L_law_1916 L xs k18 x3 X I
    else
    if (v2 &&& (nI 63)) = (nI 47) then
      b_L_law_1929 L xs k18 x3 X I
    else
    if (v2 &&& (nI 63)) = (nI 48) then
      b_L_law_1972 L xs k18 x3 X I
    else
    if (v2 &&& (nI 63)) = (nI 49) then
      b_L_law_2015 L xs k18 x3 X I
    else
    if (v2 &&& (nI 63)) = (nI 50) then
      b_L_law_2058 L xs k18 x3 X I
    else
    if (v2 &&& (nI 63)) = (nI 51) then
      b_L_law_2081 L xs k18 x3 X I
    else
    if (v2 &&& (nI 63)) = (nI 52) then
      b_L_law_2124 L xs k18 x3 X I
    else
    if (v2 &&& (nI 63)) = (nI 53) then
      b_L_law_2137 L xs k18 x3 X I
    else
    if (v2 &&& (nI 63)) = (nI 54) then
      b_L_law_2150 L xs k18 x3 X I
    else
    k18 (x3 + (nI 6)) X I
set_option maxRecDepth 100000 in
set_option maxHeartbeats 4000000 in
theorem p_L_law_18 {l : Launch} {Γ : qC} {g : qG} {z : Int32 × qI × qX} {L cells slots : Nat} {xs : Nat → Int32} {nm : String} {k18 : Int32 → qX → qI → Option (Int32 × qI × qX)} (hΓ : q_gm Γ) (hg : q_Ok l Γ RL cL_law 4 room_1 nm (some .boolean) g) (hr : q_Rt cL_law (some .boolean) room_1 (some (.int z.1), z.2.1, z.2.2) g) (hS : q_ol Γ 0 = L ∧ q_ov Γ 0 = xs) (hcs : cells + 1 ≤ room_1.cells ∧ slots + 96 ≤ room_1.slots) (hk : ∀ c s, c ≤ cells + 1 → s ≤ slots + 96 → ∀ (x3 : Int32) (X : qX) (I : qI), q_Lay X → q_kd X 64 = some (13, 9) → q_kd X 269 = some (14, 42) → k18 x3 X I = some z → g c s 18 [(0, .ref 0), (1, .ref 64), (2, .ref 269), (3, .int x3)] [] I X) (x3 : Int32) (X : qX) (I : qI) (hX : q_Lay X) (k_o1 : q_kd X 64 = some (13, 9)) (k_o2 : q_kd X 269 = some (14, 42)) (h : b_L_law_18 L xs k18 x3 X I = some z) : g cells slots 18 [(0, .ref 0), (1, .ref 64), (2, .ref 269), (3, .int x3)] [] I X := by
  unfold b_L_law_18 at h
  refine r_iload_n hg 3 dL_law_18 rfl rfl ?_
  refine r_aload_n hg 0 dL_law_19 rfl rfl ?_
  refine r_alenC hg dL_law_20 (by decide) hS.1 ?_
  refine r_bipush hg dL_law_21 cb_6 ?_
  refine r_isub hg dL_law_23 ?_
  refine r_icmp_gt hg 2179 dL_law_24 (by decide) (fun c1 => ?_) (fun c1 => ?_)
  · rw [if_pos c1] at h
    refine r_iconst hg dL_law_2179 ci_1 ?_
    exact r_ireturn hr dL_law_2180 ⟨Nat.le_of_succ_le hcs.1, Nat.le_trans (Nat.le_add_right _ _) hcs.2⟩ ⟨_, rfl, bz_1.1⟩ (by cases h; rfl)
  · rw [if_neg c1] at h
    refine r_aload_n hg 0 dL_law_27 rfl rfl ?_
    refine r_iload_n hg 3 dL_law_28 rfl rfl ?_
    obtain ⟨v2, e3, h⟩ := q_b1_some h
    refine r_ialdC hg dL_law_29 (by decide) hS.1 hS.2 e3 ?_
    refine r_bipush hg dL_law_30 cb_63 ?_
    refine r_iand hg dL_law_32 ?_
    by_cases c4 : (v2 &&& (nI 63)) = (nI 0)
    · rw [if_pos c4] at h
      refine r_tab hg 268 dL_law_33 rfl (by rw [c4] <;> decide +kernel) (by decide) ?_
      exact p_L_law_268 hΓ hg hr hS hcs hk _ _ _ hX k_o1 k_o2 h
    rw [if_neg c4] at h
    by_cases c5 : (v2 &&& (nI 63)) = (nI 1)
    · rw [if_pos c5] at h
      refine r_tab hg 311 dL_law_33 rfl (by rw [c5] <;> decide +kernel) (by decide) ?_
      exact p_L_law_311 hΓ hg hr hS hcs hk _ _ _ hX k_o1 k_o2 h
    rw [if_neg c5] at h
    by_cases c6 : (v2 &&& (nI 63)) = (nI 2)
    · rw [if_pos c6] at h
      refine r_tab hg 344 dL_law_33 rfl (by rw [c6] <;> decide +kernel) (by decide) ?_
      exact p_L_law_344 hΓ hg hr hS hcs hk _ _ _ hX k_o1 k_o2 h
    rw [if_neg c6] at h
    by_cases c7 : (v2 &&& (nI 63)) = (nI 3)
    · rw [if_pos c7] at h
      refine r_tab hg 397 dL_law_33 rfl (by rw [c7] <;> decide +kernel) (by decide) ?_
      exact p_L_law_397 hΓ hg hr hS hcs hk _ _ _ hX k_o1 k_o2 h
    rw [if_neg c7] at h
    by_cases c8 : (v2 &&& (nI 63)) = (nI 4)
    · rw [if_pos c8] at h
      refine r_tab hg 440 dL_law_33 rfl (by rw [c8] <;> decide +kernel) (by decide) ?_
      exact p_L_law_440 hΓ hg hr hS hcs hk _ _ _ hX k_o1 k_o2 h
    rw [if_neg c8] at h
    by_cases c9 : (v2 &&& (nI 63)) = (nI 5)
    · rw [if_pos c9] at h
      refine r_tab hg 473 dL_law_33 rfl (by rw [c9] <;> decide +kernel) (by decide) ?_
      exact p_L_law_473 hΓ hg hr hS hcs hk _ _ _ hX k_o1 k_o2 h
    rw [if_neg c9] at h
    by_cases c10 : (v2 &&& (nI 63)) = (nI 6)
    · rw [if_pos c10] at h
      refine r_tab hg 516 dL_law_33 rfl (by rw [c10] <;> decide +kernel) (by decide) ?_
      exact p_L_law_516 hΓ hg hr hS hcs hk _ _ _ hX k_o1 k_o2 h
    rw [if_neg c10] at h
    by_cases c11 : (v2 &&& (nI 63)) = (nI 7)
    · rw [if_pos c11] at h
      refine r_tab hg 549 dL_law_33 rfl (by rw [c11] <;> decide +kernel) (by decide) ?_
      exact p_L_law_549 hΓ hg hr hS hcs hk _ _ _ hX k_o1 k_o2 h
    rw [if_neg c11] at h
    by_cases c12 : (v2 &&& (nI 63)) = (nI 8)
    · rw [if_pos c12] at h
      refine r_tab hg 592 dL_law_33 rfl (by rw [c12] <;> decide +kernel) (by decide) ?_
      exact p_L_law_592 hΓ hg hr hS hcs hk _ _ _ hX k_o1 k_o2 h
    rw [if_neg c12] at h
    by_cases c13 : (v2 &&& (nI 63)) = (nI 9)
    · rw [if_pos c13] at h
      refine r_tab hg 635 dL_law_33 rfl (by rw [c13] <;> decide +kernel) (by decide) ?_
      exact p_L_law_635 hΓ hg hr hS hcs hk _ _ _ hX k_o1 k_o2 h
    rw [if_neg c13] at h
    by_cases c14 : (v2 &&& (nI 63)) = (nI 10)
    · rw [if_pos c14] at h
      refine r_tab hg 668 dL_law_33 rfl (by rw [c14] <;> decide +kernel) (by decide) ?_
      exact p_L_law_668 hΓ hg hr hS hcs hk _ _ _ hX k_o1 k_o2 h
    rw [if_neg c14] at h
    by_cases c15 : (v2 &&& (nI 63)) = (nI 11)
    · rw [if_pos c15] at h
      refine r_tab hg 701 dL_law_33 rfl (by rw [c15] <;> decide +kernel) (by decide) ?_
      exact p_L_law_701 hΓ hg hr hS hcs hk _ _ _ hX k_o1 k_o2 h
    rw [if_neg c15] at h
    by_cases c16 : (v2 &&& (nI 63)) = (nI 12)
    · rw [if_pos c16] at h
      refine r_tab hg 724 dL_law_33 rfl (by rw [c16] <;> decide +kernel) (by decide) ?_
      exact p_L_law_724 hΓ hg hr hS hcs hk _ _ _ hX k_o1 k_o2 h
    rw [if_neg c16] at h
    by_cases c17 : (v2 &&& (nI 63)) = (nI 13)
    · rw [if_pos c17] at h
      refine r_tab hg 767 dL_law_33 rfl (by rw [c17] <;> decide +kernel) (by decide) ?_
      exact p_L_law_767 hΓ hg hr hS hcs hk _ _ _ hX k_o1 k_o2 h
    rw [if_neg c17] at h
    by_cases c18 : (v2 &&& (nI 63)) = (nI 14)
    · rw [if_pos c18] at h
      refine r_tab hg 800 dL_law_33 rfl (by rw [c18] <;> decide +kernel) (by decide) ?_
      exact p_L_law_800 hΓ hg hr hS hcs hk _ _ _ hX k_o1 k_o2 h
    rw [if_neg c18] at h
    by_cases c19 : (v2 &&& (nI 63)) = (nI 15)
    · rw [if_pos c19] at h
      refine r_tab hg 843 dL_law_33 rfl (by rw [c19] <;> decide +kernel) (by decide) ?_
      exact p_L_law_843 hΓ hg hr hS hcs hk _ _ _ hX k_o1 k_o2 h
    rw [if_neg c19] at h
    by_cases c20 : (v2 &&& (nI 63)) = (nI 16)
    · rw [if_pos c20] at h
      refine r_tab hg 886 dL_law_33 rfl (by rw [c20] <;> decide +kernel) (by decide) ?_
      exact p_L_law_886 hΓ hg hr hS hcs hk _ _ _ hX k_o1 k_o2 h
    rw [if_neg c20] at h
    by_cases c21 : (v2 &&& (nI 63)) = (nI 17)
    · rw [if_pos c21] at h
      refine r_tab hg 909 dL_law_33 rfl (by rw [c21] <;> decide +kernel) (by decide) ?_
      exact p_L_law_909 hΓ hg hr hS hcs hk _ _ _ hX k_o1 k_o2 h
    rw [if_neg c21] at h
    by_cases c22 : (v2 &&& (nI 63)) = (nI 18)
    · rw [if_pos c22] at h
      refine r_tab hg 952 dL_law_33 rfl (by rw [c22] <;> decide +kernel) (by decide) ?_
      exact p_L_law_952 hΓ hg hr hS hcs hk _ _ _ hX k_o1 k_o2 h
    rw [if_neg c22] at h
    by_cases c23 : (v2 &&& (nI 63)) = (nI 19)
    · rw [if_pos c23] at h
      refine r_tab hg 975 dL_law_33 rfl (by rw [c23] <;> decide +kernel) (by decide) ?_
      exact p_L_law_975 hΓ hg hr hS hcs hk _ _ _ hX k_o1 k_o2 h
    rw [if_neg c23] at h
    by_cases c24 : (v2 &&& (nI 63)) = (nI 20)
    · rw [if_pos c24] at h
      refine r_tab hg 1008 dL_law_33 rfl (by rw [c24] <;> decide +kernel) (by decide) ?_
      exact p_L_law_1008 hΓ hg hr hS hcs hk _ _ _ hX k_o1 k_o2 h
    rw [if_neg c24] at h
    by_cases c25 : (v2 &&& (nI 63)) = (nI 21)
    · rw [if_pos c25] at h
      refine r_tab hg 1041 dL_law_33 rfl (by rw [c25] <;> decide +kernel) (by decide) ?_
      exact p_L_law_1041 hΓ hg hr hS hcs hk _ _ _ hX k_o1 k_o2 h
    rw [if_neg c25] at h
    by_cases c26 : (v2 &&& (nI 63)) = (nI 22)
    · rw [if_pos c26] at h
      refine r_tab hg 1064 dL_law_33 rfl (by rw [c26] <;> decide +kernel) (by decide) ?_
      exact p_L_law_1064 hΓ hg hr hS hcs hk _ _ _ hX k_o1 k_o2 h
    rw [if_neg c26] at h
    by_cases c27 : (v2 &&& (nI 63)) = (nI 23)
    · rw [if_pos c27] at h
      refine r_tab hg 1087 dL_law_33 rfl (by rw [c27] <;> decide +kernel) (by decide) ?_
      exact p_L_law_1087 hΓ hg hr hS hcs hk _ _ _ hX k_o1 k_o2 h
    rw [if_neg c27] at h
    by_cases c28 : (v2 &&& (nI 63)) = (nI 24)
    · rw [if_pos c28] at h
      refine r_tab hg 1120 dL_law_33 rfl (by rw [c28] <;> decide +kernel) (by decide) ?_
      exact p_L_law_1120 hΓ hg hr hS hcs hk _ _ _ hX k_o1 k_o2 h
    rw [if_neg c28] at h
    by_cases c29 : (v2 &&& (nI 63)) = (nI 25)
    · rw [if_pos c29] at h
      refine r_tab hg 1173 dL_law_33 rfl (by rw [c29] <;> decide +kernel) (by decide) ?_
      exact p_L_law_1173 hΓ hg hr hS hcs hk _ _ _ hX k_o1 k_o2 h
    rw [if_neg c29] at h
    by_cases c30 : (v2 &&& (nI 63)) = (nI 26)
    · rw [if_pos c30] at h
      refine r_tab hg 1216 dL_law_33 rfl (by rw [c30] <;> decide +kernel) (by decide) ?_
      exact p_L_law_1216 hΓ hg hr hS hcs hk _ _ _ hX k_o1 k_o2 h
    rw [if_neg c30] at h
    by_cases c31 : (v2 &&& (nI 63)) = (nI 27)
    · rw [if_pos c31] at h
      refine r_tab hg 1249 dL_law_33 rfl (by rw [c31] <;> decide +kernel) (by decide) ?_
      exact p_L_law_1249 hΓ hg hr hS hcs hk _ _ _ hX k_o1 k_o2 h
    rw [if_neg c31] at h
    by_cases c32 : (v2 &&& (nI 63)) = (nI 28)
    · rw [if_pos c32] at h
      refine r_tab hg 1292 dL_law_33 rfl (by rw [c32] <;> decide +kernel) (by decide) ?_
      exact p_L_law_1292 hΓ hg hr hS hcs hk _ _ _ hX k_o1 k_o2 h
    rw [if_neg c32] at h
    by_cases c33 : (v2 &&& (nI 63)) = (nI 29)
    · rw [if_pos c33] at h
      refine r_tab hg 1315 dL_law_33 rfl (by rw [c33] <;> decide +kernel) (by decide) ?_
      exact p_L_law_1315 hΓ hg hr hS hcs hk _ _ _ hX k_o1 k_o2 h
    rw [if_neg c33] at h
    by_cases c34 : (v2 &&& (nI 63)) = (nI 30)
    · rw [if_pos c34] at h
      refine r_tab hg 1338 dL_law_33 rfl (by rw [c34] <;> decide +kernel) (by decide) ?_
      exact p_L_law_1338 hΓ hg hr hS hcs hk _ _ _ hX k_o1 k_o2 h
    rw [if_neg c34] at h
    by_cases c35 : (v2 &&& (nI 63)) = (nI 31)
    · rw [if_pos c35] at h
      refine r_tab hg 1371 dL_law_33 rfl (by rw [c35] <;> decide +kernel) (by decide) ?_
      exact p_L_law_1371 hΓ hg hr hS hcs hk _ _ _ hX k_o1 k_o2 h
    rw [if_neg c35] at h
    by_cases c36 : (v2 &&& (nI 63)) = (nI 32)
    · rw [if_pos c36] at h
      refine r_tab hg 1394 dL_law_33 rfl (by rw [c36] <;> decide +kernel) (by decide) ?_
      exact p_L_law_1394 hΓ hg hr hS hcs hk _ _ _ hX k_o1 k_o2 h
    rw [if_neg c36] at h
    by_cases c37 : (v2 &&& (nI 63)) = (nI 33)
    · rw [if_pos c37] at h
      refine r_tab hg 1447 dL_law_33 rfl (by rw [c37] <;> decide +kernel) (by decide) ?_
      exact p_L_law_1447 hΓ hg hr hS hcs hk _ _ _ hX k_o1 k_o2 h
    rw [if_neg c37] at h
    by_cases c38 : (v2 &&& (nI 63)) = (nI 34)
    · rw [if_pos c38] at h
      refine r_tab hg 1490 dL_law_33 rfl (by rw [c38] <;> decide +kernel) (by decide) ?_
      exact p_L_law_1490 hΓ hg hr hS hcs hk _ _ _ hX k_o1 k_o2 h
    rw [if_neg c38] at h
    by_cases c39 : (v2 &&& (nI 63)) = (nI 35)
    · rw [if_pos c39] at h
      refine r_tab hg 1533 dL_law_33 rfl (by rw [c39] <;> decide +kernel) (by decide) ?_
      exact p_L_law_1533 hΓ hg hr hS hcs hk _ _ _ hX k_o1 k_o2 h
    rw [if_neg c39] at h
    by_cases c40 : (v2 &&& (nI 63)) = (nI 36)
    · rw [if_pos c40] at h
      refine r_tab hg 1566 dL_law_33 rfl (by rw [c40] <;> decide +kernel) (by decide) ?_
      exact p_L_law_1566 hΓ hg hr hS hcs hk _ _ _ hX k_o1 k_o2 h
    rw [if_neg c40] at h
    by_cases c41 : (v2 &&& (nI 63)) = (nI 37)
    · rw [if_pos c41] at h
      refine r_tab hg 1629 dL_law_33 rfl (by rw [c41] <;> decide +kernel) (by decide) ?_
      exact p_L_law_1629 hΓ hg hr hS hcs hk _ _ _ hX k_o1 k_o2 h
    rw [if_neg c41] at h
    by_cases c42 : (v2 &&& (nI 63)) = (nI 38)
    · rw [if_pos c42] at h
      refine r_tab hg 1662 dL_law_33 rfl (by rw [c42] <;> decide +kernel) (by decide) ?_
      exact p_L_law_1662 hΓ hg hr hS hcs hk _ _ _ hX k_o1 k_o2 h
    rw [if_neg c42] at h
    by_cases c43 : (v2 &&& (nI 63)) = (nI 39)
    · rw [if_pos c43] at h
      refine r_tab hg 1715 dL_law_33 rfl (by rw [c43] <;> decide +kernel) (by decide) ?_
      exact p_L_law_1715 hΓ hg hr hS hcs hk _ _ _ hX k_o1 k_o2 h
    rw [if_neg c43] at h
    by_cases c44 : (v2 &&& (nI 63)) = (nI 40)
    · rw [if_pos c44] at h
      refine r_tab hg 1728 dL_law_33 rfl (by rw [c44] <;> decide +kernel) (by decide) ?_
      exact p_L_law_1728 hΓ hg hr hS hcs hk _ _ _ hX k_o1 k_o2 h
    rw [if_neg c44] at h
    by_cases c45 : (v2 &&& (nI 63)) = (nI 41)
    · rw [if_pos c45] at h
      refine r_tab hg 1751 dL_law_33 rfl (by rw [c45] <;> decide +kernel) (by decide) ?_
      exact p_L_law_1751 hΓ hg hr hS hcs hk _ _ _ hX k_o1 k_o2 h
    rw [if_neg c45] at h
    by_cases c46 : (v2 &&& (nI 63)) = (nI 42)
    · rw [if_pos c46] at h
      refine r_tab hg 1784 dL_law_33 rfl (by rw [c46] <;> decide +kernel) (by decide) ?_
      exact p_L_law_1784 hΓ hg hr hS hcs hk _ _ _ hX k_o1 k_o2 h
    rw [if_neg c46] at h
    by_cases c47 : (v2 &&& (nI 63)) = (nI 43)
    · rw [if_pos c47] at h
      refine r_tab hg 1827 dL_law_33 rfl (by rw [c47] <;> decide +kernel) (by decide) ?_
      exact p_L_law_1827 hΓ hg hr hS hcs hk _ _ _ hX k_o1 k_o2 h
    rw [if_neg c47] at h
    by_cases c48 : (v2 &&& (nI 63)) = (nI 44)
    · rw [if_pos c48] at h
      refine r_tab hg 1850 dL_law_33 rfl (by rw [c48] <;> decide +kernel) (by decide) ?_
      exact p_L_law_1850 hΓ hg hr hS hcs hk _ _ _ hX k_o1 k_o2 h
    rw [if_neg c48] at h
    by_cases c49 : (v2 &&& (nI 63)) = (nI 45)
    · rw [if_pos c49] at h
      refine r_tab hg 1883 dL_law_33 rfl (by rw [c49] <;> decide +kernel) (by decide) ?_
      exact p_L_law_1883 hΓ hg hr hS hcs hk _ _ _ hX k_o1 k_o2 h
    rw [if_neg c49] at h
    by_cases c50 : (v2 &&& (nI 63)) = (nI 46)
    · rw [if_pos c50] at h
      refine r_tab hg 1916 dL_law_33 rfl (by rw [c50] <;> decide +kernel) (by decide) ?_
      exact p_L_law_1916 hΓ hg hr hS hcs hk _ _ _ hX k_o1 k_o2 h
    rw [if_neg c50] at h
    by_cases c51 : (v2 &&& (nI 63)) = (nI 47)
    · rw [if_pos c51] at h
      refine r_tab hg 1929 dL_law_33 rfl (by rw [c51] <;> decide +kernel) (by decide) ?_
      exact p_L_law_1929 hΓ hg hr hS hcs hk _ _ _ hX k_o1 k_o2 h
    rw [if_neg c51] at h
    by_cases c52 : (v2 &&& (nI 63)) = (nI 48)
    · rw [if_pos c52] at h
      refine r_tab hg 1972 dL_law_33 rfl (by rw [c52] <;> decide +kernel) (by decide) ?_
      exact p_L_law_1972 hΓ hg hr hS hcs hk _ _ _ hX k_o1 k_o2 h
    rw [if_neg c52] at h
    by_cases c53 : (v2 &&& (nI 63)) = (nI 49)
    · rw [if_pos c53] at h
      refine r_tab hg 2015 dL_law_33 rfl (by rw [c53] <;> decide +kernel) (by decide) ?_
      exact p_L_law_2015 hΓ hg hr hS hcs hk _ _ _ hX k_o1 k_o2 h
    rw [if_neg c53] at h
    by_cases c54 : (v2 &&& (nI 63)) = (nI 50)
    · rw [if_pos c54] at h
      refine r_tab hg 2058 dL_law_33 rfl (by rw [c54] <;> decide +kernel) (by decide) ?_
      exact p_L_law_2058 hΓ hg hr hS hcs hk _ _ _ hX k_o1 k_o2 h
    rw [if_neg c54] at h
    by_cases c55 : (v2 &&& (nI 63)) = (nI 51)
    · rw [if_pos c55] at h
      refine r_tab hg 2081 dL_law_33 rfl (by rw [c55] <;> decide +kernel) (by decide) ?_
      exact p_L_law_2081 hΓ hg hr hS hcs hk _ _ _ hX k_o1 k_o2 h
    rw [if_neg c55] at h
    by_cases c56 : (v2 &&& (nI 63)) = (nI 52)
    · rw [if_pos c56] at h
      refine r_tab hg 2124 dL_law_33 rfl (by rw [c56] <;> decide +kernel) (by decide) ?_
      exact p_L_law_2124 hΓ hg hr hS hcs hk _ _ _ hX k_o1 k_o2 h
    rw [if_neg c56] at h
    by_cases c57 : (v2 &&& (nI 63)) = (nI 53)
    · rw [if_pos c57] at h
      refine r_tab hg 2137 dL_law_33 rfl (by rw [c57] <;> decide +kernel) (by decide) ?_
      exact p_L_law_2137 hΓ hg hr hS hcs hk _ _ _ hX k_o1 k_o2 h
    rw [if_neg c57] at h
    by_cases c58 : (v2 &&& (nI 63)) = (nI 54)
    · rw [if_pos c58] at h
      refine r_tab hg 2150 dL_law_33 rfl (by rw [c58] <;> decide +kernel) (by decide) ?_
      exact p_L_law_2150 hΓ hg hr hS hcs hk _ _ _ hX k_o1 k_o2 h
    rw [if_neg c58] at h
    refine r_tab hg 2173 dL_law_33 rfl (q_tab_d (fun k hk ho => ?_)) (by decide) ?_
    · have hk : k < 55 := hk
      rcases (show k = 0 ∨ k = 1 ∨ k = 2 ∨ k = 3 ∨ k = 4 ∨ k = 5 ∨ k = 6 ∨ k = 7 ∨ k = 8 ∨ k = 9 ∨ k = 10 ∨ k = 11 ∨ k = 12 ∨ k = 13 ∨ k = 14 ∨ k = 15 ∨ k = 16 ∨ k = 17 ∨ k = 18 ∨ k = 19 ∨ k = 20 ∨ k = 21 ∨ k = 22 ∨ k = 23 ∨ k = 24 ∨ k = 25 ∨ k = 26 ∨ k = 27 ∨ k = 28 ∨ k = 29 ∨ k = 30 ∨ k = 31 ∨ k = 32 ∨ k = 33 ∨ k = 34 ∨ k = 35 ∨ k = 36 ∨ k = 37 ∨ k = 38 ∨ k = 39 ∨ k = 40 ∨ k = 41 ∨ k = 42 ∨ k = 43 ∨ k = 44 ∨ k = 45 ∨ k = 46 ∨ k = 47 ∨ k = 48 ∨ k = 49 ∨ k = 50 ∨ k = 51 ∨ k = 52 ∨ k = 53 ∨ k = 54 by omega) with rfl | rfl | rfl | rfl | rfl | rfl | rfl | rfl | rfl | rfl | rfl | rfl | rfl | rfl | rfl | rfl | rfl | rfl | rfl | rfl | rfl | rfl | rfl | rfl | rfl | rfl | rfl | rfl | rfl | rfl | rfl | rfl | rfl | rfl | rfl | rfl | rfl | rfl | rfl | rfl | rfl | rfl | rfl | rfl | rfl | rfl | rfl | rfl | rfl | rfl | rfl | rfl | rfl | rfl | rfl
      · exact lv_neT c4 (by decide +kernel)
      · exact lv_neT c5 (by decide +kernel)
      · exact lv_neT c6 (by decide +kernel)
      · exact lv_neT c7 (by decide +kernel)
      · exact lv_neT c8 (by decide +kernel)
      · exact lv_neT c9 (by decide +kernel)
      · exact lv_neT c10 (by decide +kernel)
      · exact lv_neT c11 (by decide +kernel)
      · exact lv_neT c12 (by decide +kernel)
      · exact lv_neT c13 (by decide +kernel)
      · exact lv_neT c14 (by decide +kernel)
      · exact lv_neT c15 (by decide +kernel)
      · exact lv_neT c16 (by decide +kernel)
      · exact lv_neT c17 (by decide +kernel)
      · exact lv_neT c18 (by decide +kernel)
      · exact lv_neT c19 (by decide +kernel)
      · exact lv_neT c20 (by decide +kernel)
      · exact lv_neT c21 (by decide +kernel)
      · exact lv_neT c22 (by decide +kernel)
      · exact lv_neT c23 (by decide +kernel)
      · exact lv_neT c24 (by decide +kernel)
      · exact lv_neT c25 (by decide +kernel)
      · exact lv_neT c26 (by decide +kernel)
      · exact lv_neT c27 (by decide +kernel)
      · exact lv_neT c28 (by decide +kernel)
      · exact lv_neT c29 (by decide +kernel)
      · exact lv_neT c30 (by decide +kernel)
      · exact lv_neT c31 (by decide +kernel)
      · exact lv_neT c32 (by decide +kernel)
      · exact lv_neT c33 (by decide +kernel)
      · exact lv_neT c34 (by decide +kernel)
      · exact lv_neT c35 (by decide +kernel)
      · exact lv_neT c36 (by decide +kernel)
      · exact lv_neT c37 (by decide +kernel)
      · exact lv_neT c38 (by decide +kernel)
      · exact lv_neT c39 (by decide +kernel)
      · exact lv_neT c40 (by decide +kernel)
      · exact lv_neT c41 (by decide +kernel)
      · exact lv_neT c42 (by decide +kernel)
      · exact lv_neT c43 (by decide +kernel)
      · exact lv_neT c44 (by decide +kernel)
      · exact lv_neT c45 (by decide +kernel)
      · exact lv_neT c46 (by decide +kernel)
      · exact lv_neT c47 (by decide +kernel)
      · exact lv_neT c48 (by decide +kernel)
      · exact lv_neT c49 (by decide +kernel)
      · exact lv_neT c50 (by decide +kernel)
      · exact lv_neT c51 (by decide +kernel)
      · exact lv_neT c52 (by decide +kernel)
      · exact lv_neT c53 (by decide +kernel)
      · exact lv_neT c54 (by decide +kernel)
      · exact lv_neT c55 (by decide +kernel)
      · exact lv_neT c56 (by decide +kernel)
      · exact lv_neT c57 (by decide +kernel)
      · exact lv_neT c58 (by decide +kernel)
    refine r_iinc hg 3 (v := (x3 + (nI 6))) (L' := [(3, .int (x3 + (nI 6))), (0, .ref 0), (1, .ref 64), (2, .ref 269)]) dL_law_2173 rfl (by rw [ci_6]) (by decide) rfl ?_
    refine r_goto hg 18 dL_law_2176 (by decide) ?_
    refine r_sub hg [1, 2, 3, 0] rfl ?_
    exact hk _ _ (Nat.le_succ _) (Nat.le_add_right _ _) _ _ _ hX k_o1 k_o2 h
theorem pl_L_law {l : Launch} {Γ : qC} {g : qG} {z : Int32 × qI × qX} {L : Nat} {xs : Nat → Int32} {nm : String} (hΓ : q_gm Γ) (hg : q_Ok l Γ RL cL_law 4 room_1 nm (some .boolean) g) (hr : q_Rt cL_law (some .boolean) room_1 (some (.int z.1), z.2.1, z.2.2) g) (hS : q_ol Γ 0 = L ∧ q_ov Γ 0 = xs) : ∀ (n cells slots : Nat), cells + n ≤ 600000 → slots + 96 * n ≤ 7302250 → ∀ (x3 : Int32) (X : qX) (I : qI), q_Lay X → q_kd X 64 = some (13, 9) → q_kd X 269 = some (14, 42) → q_fix (fun _ _ _ => none) (b_L_law_18 L xs) n x3 X I = some z → g cells slots 18 [(0, .ref 0), (1, .ref 64), (2, .ref 269), (3, .int x3)] [] I X := by
  intro n
  induction n with
  | zero =>
    intro cells slots _ _ x3 X I _ _ _ h
    cases (show (none : Option (Int32 × qI × qX)) = some z from h)
  | succ n ih =>
    intro cells slots h1 h2 x3 X I hX k1 k2 h
    exact p_L_law_18 hΓ hg hr hS ⟨by show cells + 1 ≤ 600000; omega, by show slots + 96 ≤ 7302250; omega⟩ (fun c s hc hs => ih c s (by omega) (by omega)) x3 X I hX k1 k2 h
