theorem dJ6_bitCount_0f7a4_0 : q_at cJ6_bitCount_0f7a4 0 (.iload_n 0) 1 1 := ⟨by decide +kernel, rfl⟩
theorem dJ6_bitCount_0f7a4_1 : q_at cJ6_bitCount_0f7a4 1 (.iload_n 0) 1 2 := ⟨by decide +kernel, rfl⟩
theorem dJ6_bitCount_0f7a4_2 : q_at cJ6_bitCount_0f7a4 2 (.iconst 1) 1 3 := ⟨by decide +kernel, rfl⟩
theorem dJ6_bitCount_0f7a4_3 : q_at cJ6_bitCount_0f7a4 3 (.iushr) 1 4 := ⟨by decide +kernel, rfl⟩
theorem dJ6_bitCount_0f7a4_4 : q_at cJ6_bitCount_0f7a4 4 (.ldc_w 265) 3 7 := ⟨by decide +kernel, rfl⟩
theorem dJ6_bitCount_0f7a4_7 : q_at cJ6_bitCount_0f7a4 7 (.iand) 1 8 := ⟨by decide +kernel, rfl⟩
theorem dJ6_bitCount_0f7a4_8 : q_at cJ6_bitCount_0f7a4 8 (.isub) 1 9 := ⟨by decide +kernel, rfl⟩
theorem dJ6_bitCount_0f7a4_9 : q_at cJ6_bitCount_0f7a4 9 (.istore_n 0) 1 10 := ⟨by decide +kernel, rfl⟩
theorem dJ6_bitCount_0f7a4_10 : q_at cJ6_bitCount_0f7a4 10 (.iload_n 0) 1 11 := ⟨by decide +kernel, rfl⟩
theorem dJ6_bitCount_0f7a4_11 : q_at cJ6_bitCount_0f7a4 11 (.ldc_w 266) 3 14 := ⟨by decide +kernel, rfl⟩
theorem dJ6_bitCount_0f7a4_14 : q_at cJ6_bitCount_0f7a4 14 (.iand) 1 15 := ⟨by decide +kernel, rfl⟩
theorem dJ6_bitCount_0f7a4_15 : q_at cJ6_bitCount_0f7a4 15 (.iload_n 0) 1 16 := ⟨by decide +kernel, rfl⟩
theorem dJ6_bitCount_0f7a4_16 : q_at cJ6_bitCount_0f7a4 16 (.iconst 2) 1 17 := ⟨by decide +kernel, rfl⟩
theorem dJ6_bitCount_0f7a4_17 : q_at cJ6_bitCount_0f7a4 17 (.iushr) 1 18 := ⟨by decide +kernel, rfl⟩
theorem dJ6_bitCount_0f7a4_18 : q_at cJ6_bitCount_0f7a4 18 (.ldc_w 266) 3 21 := ⟨by decide +kernel, rfl⟩
theorem dJ6_bitCount_0f7a4_21 : q_at cJ6_bitCount_0f7a4 21 (.iand) 1 22 := ⟨by decide +kernel, rfl⟩
theorem dJ6_bitCount_0f7a4_22 : q_at cJ6_bitCount_0f7a4 22 (.iadd) 1 23 := ⟨by decide +kernel, rfl⟩
theorem dJ6_bitCount_0f7a4_23 : q_at cJ6_bitCount_0f7a4 23 (.istore_n 0) 1 24 := ⟨by decide +kernel, rfl⟩
theorem dJ6_bitCount_0f7a4_24 : q_at cJ6_bitCount_0f7a4 24 (.iload_n 0) 1 25 := ⟨by decide +kernel, rfl⟩
theorem dJ6_bitCount_0f7a4_25 : q_at cJ6_bitCount_0f7a4 25 (.iload_n 0) 1 26 := ⟨by decide +kernel, rfl⟩
theorem dJ6_bitCount_0f7a4_26 : q_at cJ6_bitCount_0f7a4 26 (.iconst 4) 1 27 := ⟨by decide +kernel, rfl⟩
theorem dJ6_bitCount_0f7a4_27 : q_at cJ6_bitCount_0f7a4 27 (.iushr) 1 28 := ⟨by decide +kernel, rfl⟩
theorem dJ6_bitCount_0f7a4_28 : q_at cJ6_bitCount_0f7a4 28 (.iadd) 1 29 := ⟨by decide +kernel, rfl⟩
theorem dJ6_bitCount_0f7a4_29 : q_at cJ6_bitCount_0f7a4 29 (.ldc_w 267) 3 32 := ⟨by decide +kernel, rfl⟩
theorem dJ6_bitCount_0f7a4_32 : q_at cJ6_bitCount_0f7a4 32 (.iand) 1 33 := ⟨by decide +kernel, rfl⟩
theorem dJ6_bitCount_0f7a4_33 : q_at cJ6_bitCount_0f7a4 33 (.istore_n 0) 1 34 := ⟨by decide +kernel, rfl⟩
theorem dJ6_bitCount_0f7a4_34 : q_at cJ6_bitCount_0f7a4 34 (.iload_n 0) 1 35 := ⟨by decide +kernel, rfl⟩
theorem dJ6_bitCount_0f7a4_35 : q_at cJ6_bitCount_0f7a4 35 (.iload_n 0) 1 36 := ⟨by decide +kernel, rfl⟩
theorem dJ6_bitCount_0f7a4_36 : q_at cJ6_bitCount_0f7a4 36 (.bipush 8) 2 38 := ⟨by decide +kernel, rfl⟩
theorem dJ6_bitCount_0f7a4_38 : q_at cJ6_bitCount_0f7a4 38 (.iushr) 1 39 := ⟨by decide +kernel, rfl⟩
theorem dJ6_bitCount_0f7a4_39 : q_at cJ6_bitCount_0f7a4 39 (.iadd) 1 40 := ⟨by decide +kernel, rfl⟩
theorem dJ6_bitCount_0f7a4_40 : q_at cJ6_bitCount_0f7a4 40 (.istore_n 0) 1 41 := ⟨by decide +kernel, rfl⟩
theorem dJ6_bitCount_0f7a4_41 : q_at cJ6_bitCount_0f7a4 41 (.iload_n 0) 1 42 := ⟨by decide +kernel, rfl⟩
theorem dJ6_bitCount_0f7a4_42 : q_at cJ6_bitCount_0f7a4 42 (.iload_n 0) 1 43 := ⟨by decide +kernel, rfl⟩
theorem dJ6_bitCount_0f7a4_43 : q_at cJ6_bitCount_0f7a4 43 (.bipush 16) 2 45 := ⟨by decide +kernel, rfl⟩
theorem dJ6_bitCount_0f7a4_45 : q_at cJ6_bitCount_0f7a4 45 (.iushr) 1 46 := ⟨by decide +kernel, rfl⟩
theorem dJ6_bitCount_0f7a4_46 : q_at cJ6_bitCount_0f7a4 46 (.iadd) 1 47 := ⟨by decide +kernel, rfl⟩
theorem dJ6_bitCount_0f7a4_47 : q_at cJ6_bitCount_0f7a4 47 (.istore_n 0) 1 48 := ⟨by decide +kernel, rfl⟩
theorem dJ6_bitCount_0f7a4_48 : q_at cJ6_bitCount_0f7a4 48 (.iload_n 0) 1 49 := ⟨by decide +kernel, rfl⟩
theorem dJ6_bitCount_0f7a4_49 : q_at cJ6_bitCount_0f7a4 49 (.bipush 63) 2 51 := ⟨by decide +kernel, rfl⟩
theorem dJ6_bitCount_0f7a4_51 : q_at cJ6_bitCount_0f7a4 51 (.iand) 1 52 := ⟨by decide +kernel, rfl⟩
theorem dJ6_bitCount_0f7a4_52 : q_at cJ6_bitCount_0f7a4 52 (.ireturn) 1 53 := ⟨by decide +kernel, rfl⟩
theorem dX0_hasRange_0 : q_at cX0_hasRange 0 (.iload_n 2) 1 1 := ⟨by decide +kernel, rfl⟩
theorem dX0_hasRange_1 : q_at cX0_hasRange 1 (.ifCond .lt 23) 3 4 := ⟨by decide +kernel, rfl⟩
theorem dX0_hasRange_4 : q_at cX0_hasRange 4 (.iload_n 3) 1 5 := ⟨by decide +kernel, rfl⟩
theorem dX0_hasRange_5 : q_at cX0_hasRange 5 (.ifCond .lt 19) 3 8 := ⟨by decide +kernel, rfl⟩
theorem dX0_hasRange_8 : q_at cX0_hasRange 8 (.iload_n 3) 1 9 := ⟨by decide +kernel, rfl⟩
theorem dX0_hasRange_9 : q_at cX0_hasRange 9 (.aload_n 0) 1 10 := ⟨by decide +kernel, rfl⟩
theorem dX0_hasRange_10 : q_at cX0_hasRange 10 (.getfield 17) 3 13 := ⟨by decide +kernel, rfl⟩
theorem dX0_hasRange_13 : q_at cX0_hasRange 13 (.iload_n 1) 1 14 := ⟨by decide +kernel, rfl⟩
theorem dX0_hasRange_14 : q_at cX0_hasRange 14 (.iaload) 1 15 := ⟨by decide +kernel, rfl⟩
theorem dX0_hasRange_15 : q_at cX0_hasRange 15 (.iload_n 2) 1 16 := ⟨by decide +kernel, rfl⟩
theorem dX0_hasRange_16 : q_at cX0_hasRange 16 (.isub) 1 17 := ⟨by decide +kernel, rfl⟩
theorem dX0_hasRange_17 : q_at cX0_hasRange 17 (.if_icmp .gt 7) 3 20 := ⟨by decide +kernel, rfl⟩
theorem dX0_hasRange_20 : q_at cX0_hasRange 20 (.iconst 1) 1 21 := ⟨by decide +kernel, rfl⟩
theorem dX0_hasRange_21 : q_at cX0_hasRange 21 (.goto 4) 3 24 := ⟨by decide +kernel, rfl⟩
theorem dX0_hasRange_24 : q_at cX0_hasRange 24 (.iconst 0) 1 25 := ⟨by decide +kernel, rfl⟩
theorem dX0_hasRange_25 : q_at cX0_hasRange 25 (.ireturn) 1 26 := ⟨by decide +kernel, rfl⟩
theorem dX0_hasWeek_0 : q_at cX0_hasWeek 0 (.iload_n 2) 1 1 := ⟨by decide +kernel, rfl⟩
theorem dX0_hasWeek_1 : q_at cX0_hasWeek 1 (.ifCond .lt 17) 3 4 := ⟨by decide +kernel, rfl⟩
theorem dX0_hasWeek_4 : q_at cX0_hasWeek 4 (.iload_n 2) 1 5 := ⟨by decide +kernel, rfl⟩
theorem dX0_hasWeek_5 : q_at cX0_hasWeek 5 (.aload_n 0) 1 6 := ⟨by decide +kernel, rfl⟩
theorem dX0_hasWeek_6 : q_at cX0_hasWeek 6 (.getfield 17) 3 9 := ⟨by decide +kernel, rfl⟩
theorem dX0_hasWeek_9 : q_at cX0_hasWeek 9 (.iload_n 1) 1 10 := ⟨by decide +kernel, rfl⟩
theorem dX0_hasWeek_10 : q_at cX0_hasWeek 10 (.iaload) 1 11 := ⟨by decide +kernel, rfl⟩
theorem dX0_hasWeek_11 : q_at cX0_hasWeek 11 (.if_icmp .ge 7) 3 14 := ⟨by decide +kernel, rfl⟩
theorem dX0_hasWeek_14 : q_at cX0_hasWeek 14 (.iconst 1) 1 15 := ⟨by decide +kernel, rfl⟩
theorem dX0_hasWeek_15 : q_at cX0_hasWeek 15 (.goto 4) 3 18 := ⟨by decide +kernel, rfl⟩
theorem dX0_hasWeek_18 : q_at cX0_hasWeek 18 (.iconst 0) 1 19 := ⟨by decide +kernel, rfl⟩
theorem dX0_hasWeek_19 : q_at cX0_hasWeek 19 (.ireturn) 1 20 := ⟨by decide +kernel, rfl⟩
theorem dX0_isMissing_0 : q_at cX0_isMissing 0 (.aload_n 0) 1 1 := ⟨by decide +kernel, rfl⟩
theorem dX0_isMissing_1 : q_at cX0_isMissing 1 (.getfield 11) 3 4 := ⟨by decide +kernel, rfl⟩
theorem dX0_isMissing_4 : q_at cX0_isMissing 4 (.iload_n 1) 1 5 := ⟨by decide +kernel, rfl⟩
theorem dX0_isMissing_5 : q_at cX0_isMissing 5 (.iaload) 1 6 := ⟨by decide +kernel, rfl⟩
theorem dX0_isMissing_6 : q_at cX0_isMissing 6 (.iconst (-1)) 1 7 := ⟨by decide +kernel, rfl⟩
theorem dX0_isMissing_7 : q_at cX0_isMissing 7 (.if_icmp .ne 7) 3 10 := ⟨by decide +kernel, rfl⟩
theorem dX0_isMissing_10 : q_at cX0_isMissing 10 (.iconst 1) 1 11 := ⟨by decide +kernel, rfl⟩
theorem dX0_isMissing_11 : q_at cX0_isMissing 11 (.goto 4) 3 14 := ⟨by decide +kernel, rfl⟩
theorem dX0_isMissing_14 : q_at cX0_isMissing 14 (.iconst 0) 1 15 := ⟨by decide +kernel, rfl⟩
theorem dX0_isMissing_15 : q_at cX0_isMissing 15 (.ireturn) 1 16 := ⟨by decide +kernel, rfl⟩
theorem dX0_start_0 : q_at cX0_start 0 (.iload_n 0) 1 1 := ⟨by decide +kernel, rfl⟩
theorem dX0_start_1 : q_at cX0_start 1 (.bipush 30) 2 3 := ⟨by decide +kernel, rfl⟩
theorem dX0_start_3 : q_at cX0_start 3 (.imul) 1 4 := ⟨by decide +kernel, rfl⟩
theorem dX0_start_4 : q_at cX0_start 4 (.ireturn) 1 5 := ⟨by decide +kernel, rfl⟩
theorem dX10_become_0 : q_at cX10_become 0 (.aload_n 1) 1 1 := ⟨by decide +kernel, rfl⟩
theorem dX10_become_1 : q_at cX10_become 1 (.getfield 9) 3 4 := ⟨by decide +kernel, rfl⟩
theorem dX10_become_4 : q_at cX10_become 4 (.iconst 0) 1 5 := ⟨by decide +kernel, rfl⟩
theorem dX10_become_5 : q_at cX10_become 5 (.aload_n 0) 1 6 := ⟨by decide +kernel, rfl⟩
theorem dX10_become_6 : q_at cX10_become 6 (.getfield 9) 3 9 := ⟨by decide +kernel, rfl⟩
theorem dX10_become_9 : q_at cX10_become 9 (.iconst 0) 1 10 := ⟨by decide +kernel, rfl⟩
theorem dX10_become_10 : q_at cX10_become 10 (.bipush 48) 2 12 := ⟨by decide +kernel, rfl⟩
theorem dX10_become_12 : q_at cX10_become 12 (.invokestatic 13) 3 15 := ⟨by decide +kernel, rfl⟩
theorem dX10_become_15 : q_at cX10_become 15 (.return_) 1 16 := ⟨by decide +kernel, rfl⟩
theorem dX10_m_0 : q_at cX10_m 0 (.iload_n 0) 1 1 := ⟨by decide +kernel, rfl⟩
theorem dX10_m_1 : q_at cX10_m 1 (.bipush 12) 2 3 := ⟨by decide +kernel, rfl⟩
theorem dX10_m_3 : q_at cX10_m 3 (.idiv) 1 4 := ⟨by decide +kernel, rfl⟩
theorem dX10_m_4 : q_at cX10_m 4 (.ireturn) 1 5 := ⟨by decide +kernel, rfl⟩
theorem dX10_number_0 : q_at cX10_number 0 (.iload_n 0) 1 1 := ⟨by decide +kernel, rfl⟩
theorem dX10_number_1 : q_at cX10_number 1 (.iconst 4) 1 2 := ⟨by decide +kernel, rfl⟩
theorem dX10_number_2 : q_at cX10_number 2 (.imul) 1 3 := ⟨by decide +kernel, rfl⟩
theorem dX10_number_3 : q_at cX10_number 3 (.iload_n 1) 1 4 := ⟨by decide +kernel, rfl⟩
theorem dX10_number_4 : q_at cX10_number 4 (.iadd) 1 5 := ⟨by decide +kernel, rfl⟩
theorem dX10_number_5 : q_at cX10_number 5 (.iconst 3) 1 6 := ⟨by decide +kernel, rfl⟩
theorem dX10_number_6 : q_at cX10_number 6 (.imul) 1 7 := ⟨by decide +kernel, rfl⟩
theorem dX10_number_7 : q_at cX10_number 7 (.iload_n 2) 1 8 := ⟨by decide +kernel, rfl⟩
theorem dX10_number_8 : q_at cX10_number 8 (.iadd) 1 9 := ⟨by decide +kernel, rfl⟩
theorem dX10_number_9 : q_at cX10_number 9 (.ireturn) 1 10 := ⟨by decide +kernel, rfl⟩
theorem dX10_p_0 : q_at cX10_p 0 (.iload_n 0) 1 1 := ⟨by decide +kernel, rfl⟩
theorem dX10_p_1 : q_at cX10_p 1 (.iconst 3) 1 2 := ⟨by decide +kernel, rfl⟩
theorem dX10_p_2 : q_at cX10_p 2 (.idiv) 1 3 := ⟨by decide +kernel, rfl⟩
theorem dX10_p_3 : q_at cX10_p 3 (.iconst 4) 1 4 := ⟨by decide +kernel, rfl⟩
theorem dX10_p_4 : q_at cX10_p 4 (.irem) 1 5 := ⟨by decide +kernel, rfl⟩
theorem dX10_p_5 : q_at cX10_p 5 (.ireturn) 1 6 := ⟨by decide +kernel, rfl⟩
theorem dX10_t_0 : q_at cX10_t 0 (.iload_n 0) 1 1 := ⟨by decide +kernel, rfl⟩
theorem dX10_t_1 : q_at cX10_t 1 (.iconst 3) 1 2 := ⟨by decide +kernel, rfl⟩
theorem dX10_t_2 : q_at cX10_t 2 (.irem) 1 3 := ⟨by decide +kernel, rfl⟩
theorem dX10_t_3 : q_at cX10_t 3 (.ireturn) 1 4 := ⟨by decide +kernel, rfl⟩
theorem dX1_added_0 : q_at cX1_added 0 (.aload_n 0) 1 1 := ⟨by decide +kernel, rfl⟩
theorem dX1_added_1 : q_at cX1_added 1 (.getfield 36) 3 4 := ⟨by decide +kernel, rfl⟩
theorem dX1_added_4 : q_at cX1_added 4 (.bipush 60) 2 6 := ⟨by decide +kernel, rfl⟩
theorem dX1_added_6 : q_at cX1_added 6 (.if_icmp .lt 6) 3 9 := ⟨by decide +kernel, rfl⟩
theorem dX1_added_9 : q_at cX1_added 9 (.ldc 43) 2 11 := ⟨by decide +kernel, rfl⟩
theorem dX1_added_11 : q_at cX1_added 11 (.ireturn) 1 12 := ⟨by decide +kernel, rfl⟩
theorem dX1_added_12 : q_at cX1_added 12 (.aload_n 0) 1 13 := ⟨by decide +kernel, rfl⟩
theorem dX1_added_13 : q_at cX1_added 13 (.getfield 11) 3 16 := ⟨by decide +kernel, rfl⟩
theorem dX1_added_16 : q_at cX1_added 16 (.aload_n 0) 1 17 := ⟨by decide +kernel, rfl⟩
theorem dX1_added_17 : q_at cX1_added 17 (.getfield 36) 3 20 := ⟨by decide +kernel, rfl⟩
theorem dX1_added_20 : q_at cX1_added 20 (.iload_n 1) 1 21 := ⟨by decide +kernel, rfl⟩
theorem dX1_added_21 : q_at cX1_added 21 (.iastore) 1 22 := ⟨by decide +kernel, rfl⟩
theorem dX1_added_22 : q_at cX1_added 22 (.aload_n 0) 1 23 := ⟨by decide +kernel, rfl⟩
theorem dX1_added_23 : q_at cX1_added 23 (.getfield 15) 3 26 := ⟨by decide +kernel, rfl⟩
theorem dX1_added_26 : q_at cX1_added 26 (.aload_n 0) 1 27 := ⟨by decide +kernel, rfl⟩
theorem dX1_added_27 : q_at cX1_added 27 (.getfield 36) 3 30 := ⟨by decide +kernel, rfl⟩
theorem dX1_added_30 : q_at cX1_added 30 (.iload_n 2) 1 31 := ⟨by decide +kernel, rfl⟩
theorem dX1_added_31 : q_at cX1_added 31 (.iastore) 1 32 := ⟨by decide +kernel, rfl⟩
theorem dX1_added_32 : q_at cX1_added 32 (.aload_n 0) 1 33 := ⟨by decide +kernel, rfl⟩
theorem dX1_added_33 : q_at cX1_added 33 (.getfield 18) 3 36 := ⟨by decide +kernel, rfl⟩
theorem dX1_added_36 : q_at cX1_added 36 (.aload_n 0) 1 37 := ⟨by decide +kernel, rfl⟩
theorem dX1_added_37 : q_at cX1_added 37 (.getfield 36) 3 40 := ⟨by decide +kernel, rfl⟩
theorem dX1_added_40 : q_at cX1_added 40 (.iload_n 3) 1 41 := ⟨by decide +kernel, rfl⟩
theorem dX1_added_41 : q_at cX1_added 41 (.iastore) 1 42 := ⟨by decide +kernel, rfl⟩
theorem dX1_added_42 : q_at cX1_added 42 (.aload_n 0) 1 43 := ⟨by decide +kernel, rfl⟩
theorem dX1_added_43 : q_at cX1_added 43 (.getfield 21) 3 46 := ⟨by decide +kernel, rfl⟩
theorem dX1_added_46 : q_at cX1_added 46 (.aload_n 0) 1 47 := ⟨by decide +kernel, rfl⟩
theorem dX1_added_47 : q_at cX1_added 47 (.getfield 36) 3 50 := ⟨by decide +kernel, rfl⟩
theorem dX1_added_50 : q_at cX1_added 50 (.iload 4) 2 52 := ⟨by decide +kernel, rfl⟩
theorem dX1_added_52 : q_at cX1_added 52 (.iastore) 1 53 := ⟨by decide +kernel, rfl⟩
theorem dX1_added_53 : q_at cX1_added 53 (.aload_n 0) 1 54 := ⟨by decide +kernel, rfl⟩
theorem dX1_added_54 : q_at cX1_added 54 (.getfield 24) 3 57 := ⟨by decide +kernel, rfl⟩
theorem dX1_added_57 : q_at cX1_added 57 (.aload_n 0) 1 58 := ⟨by decide +kernel, rfl⟩
theorem dX1_added_58 : q_at cX1_added 58 (.getfield 36) 3 61 := ⟨by decide +kernel, rfl⟩
theorem dX1_added_61 : q_at cX1_added 61 (.iload 5) 2 63 := ⟨by decide +kernel, rfl⟩
theorem dX1_added_63 : q_at cX1_added 63 (.iastore) 1 64 := ⟨by decide +kernel, rfl⟩
theorem dX1_added_64 : q_at cX1_added 64 (.aload_n 0) 1 65 := ⟨by decide +kernel, rfl⟩
theorem dX1_added_65 : q_at cX1_added 65 (.getfield 27) 3 68 := ⟨by decide +kernel, rfl⟩
theorem dX1_added_68 : q_at cX1_added 68 (.aload_n 0) 1 69 := ⟨by decide +kernel, rfl⟩
theorem dX1_added_69 : q_at cX1_added 69 (.getfield 36) 3 72 := ⟨by decide +kernel, rfl⟩
theorem dX1_added_72 : q_at cX1_added 72 (.iconst 0) 1 73 := ⟨by decide +kernel, rfl⟩
theorem dX1_added_73 : q_at cX1_added 73 (.iastore) 1 74 := ⟨by decide +kernel, rfl⟩
theorem dX1_added_74 : q_at cX1_added 74 (.aload_n 0) 1 75 := ⟨by decide +kernel, rfl⟩
theorem dX1_added_75 : q_at cX1_added 75 (.getfield 30) 3 78 := ⟨by decide +kernel, rfl⟩
theorem dX1_added_78 : q_at cX1_added 78 (.aload_n 0) 1 79 := ⟨by decide +kernel, rfl⟩
theorem dX1_added_79 : q_at cX1_added 79 (.getfield 36) 3 82 := ⟨by decide +kernel, rfl⟩
theorem dX1_added_82 : q_at cX1_added 82 (.ldc 44) 2 84 := ⟨by decide +kernel, rfl⟩
theorem dX1_added_84 : q_at cX1_added 84 (.iastore) 1 85 := ⟨by decide +kernel, rfl⟩
theorem dX1_added_85 : q_at cX1_added 85 (.aload_n 0) 1 86 := ⟨by decide +kernel, rfl⟩
theorem dX1_added_86 : q_at cX1_added 86 (.getfield 33) 3 89 := ⟨by decide +kernel, rfl⟩
theorem dX1_added_89 : q_at cX1_added 89 (.aload_n 0) 1 90 := ⟨by decide +kernel, rfl⟩
theorem dX1_added_90 : q_at cX1_added 90 (.getfield 36) 3 93 := ⟨by decide +kernel, rfl⟩
theorem dX1_added_93 : q_at cX1_added 93 (.iconst 0) 1 94 := ⟨by decide +kernel, rfl⟩
theorem dX1_added_94 : q_at cX1_added 94 (.iastore) 1 95 := ⟨by decide +kernel, rfl⟩
theorem dX1_added_95 : q_at cX1_added 95 (.aload_n 0) 1 96 := ⟨by decide +kernel, rfl⟩
theorem dX1_added_96 : q_at cX1_added 96 (.dup) 1 97 := ⟨by decide +kernel, rfl⟩
theorem dX1_added_97 : q_at cX1_added 97 (.getfield 36) 3 100 := ⟨by decide +kernel, rfl⟩
theorem dX1_added_100 : q_at cX1_added 100 (.iconst 1) 1 101 := ⟨by decide +kernel, rfl⟩
theorem dX1_added_101 : q_at cX1_added 101 (.iadd) 1 102 := ⟨by decide +kernel, rfl⟩
theorem dX1_added_102 : q_at cX1_added 102 (.putfield 36) 3 105 := ⟨by decide +kernel, rfl⟩
theorem dX1_added_105 : q_at cX1_added 105 (.aload_n 0) 1 106 := ⟨by decide +kernel, rfl⟩
theorem dX1_added_106 : q_at cX1_added 106 (.getfield 36) 3 109 := ⟨by decide +kernel, rfl⟩
theorem dX1_added_109 : q_at cX1_added 109 (.iconst 1) 1 110 := ⟨by decide +kernel, rfl⟩
theorem dX1_added_110 : q_at cX1_added 110 (.isub) 1 111 := ⟨by decide +kernel, rfl⟩
theorem dX1_added_111 : q_at cX1_added 111 (.ireturn) 1 112 := ⟨by decide +kernel, rfl⟩
theorem dX1_has_0 : q_at cX1_has 0 (.iload_n 1) 1 1 := ⟨by decide +kernel, rfl⟩
theorem dX1_has_1 : q_at cX1_has 1 (.ifCond .lt 15) 3 4 := ⟨by decide +kernel, rfl⟩
theorem dX1_has_4 : q_at cX1_has 4 (.iload_n 1) 1 5 := ⟨by decide +kernel, rfl⟩
theorem dX1_has_5 : q_at cX1_has 5 (.aload_n 0) 1 6 := ⟨by decide +kernel, rfl⟩
theorem dX1_has_6 : q_at cX1_has 6 (.getfield 36) 3 9 := ⟨by decide +kernel, rfl⟩
theorem dX1_has_9 : q_at cX1_has 9 (.if_icmp .ge 7) 3 12 := ⟨by decide +kernel, rfl⟩
theorem dX1_has_12 : q_at cX1_has 12 (.iconst 1) 1 13 := ⟨by decide +kernel, rfl⟩
theorem dX1_has_13 : q_at cX1_has 13 (.goto 4) 3 16 := ⟨by decide +kernel, rfl⟩
theorem dX1_has_16 : q_at cX1_has 16 (.iconst 0) 1 17 := ⟨by decide +kernel, rfl⟩
theorem dX1_has_17 : q_at cX1_has 17 (.ireturn) 1 18 := ⟨by decide +kernel, rfl⟩
theorem dX1_isUnder_0 : q_at cX1_isUnder 0 (.iload_n 0) 1 1 := ⟨by decide +kernel, rfl⟩
theorem dX1_isUnder_1 : q_at cX1_isUnder 1 (.istore_n 2) 1 2 := ⟨by decide +kernel, rfl⟩
theorem dX1_isUnder_2 : q_at cX1_isUnder 2 (.iconst 0) 1 3 := ⟨by decide +kernel, rfl⟩
theorem dX1_isUnder_3 : q_at cX1_isUnder 3 (.istore_n 3) 1 4 := ⟨by decide +kernel, rfl⟩
theorem dX1_isUnder_4 : q_at cX1_isUnder 4 (.iload_n 3) 1 5 := ⟨by decide +kernel, rfl⟩
theorem dX1_isUnder_5 : q_at cX1_isUnder 5 (.getstatic 40) 3 8 := ⟨by decide +kernel, rfl⟩
theorem dX1_isUnder_8 : q_at cX1_isUnder 8 (.arraylength) 1 9 := ⟨by decide +kernel, rfl⟩
theorem dX1_isUnder_9 : q_at cX1_isUnder 9 (.if_icmp .ge 34) 3 12 := ⟨by decide +kernel, rfl⟩
theorem dX1_isUnder_12 : q_at cX1_isUnder 12 (.iload_n 2) 1 13 := ⟨by decide +kernel, rfl⟩
theorem dX1_isUnder_13 : q_at cX1_isUnder 13 (.ifCond .lt 30) 3 16 := ⟨by decide +kernel, rfl⟩
theorem dX1_isUnder_16 : q_at cX1_isUnder 16 (.iload_n 2) 1 17 := ⟨by decide +kernel, rfl⟩
theorem dX1_isUnder_17 : q_at cX1_isUnder 17 (.getstatic 40) 3 20 := ⟨by decide +kernel, rfl⟩
theorem dX1_isUnder_20 : q_at cX1_isUnder 20 (.arraylength) 1 21 := ⟨by decide +kernel, rfl⟩
theorem dX1_isUnder_21 : q_at cX1_isUnder 21 (.if_icmp .ge 22) 3 24 := ⟨by decide +kernel, rfl⟩
theorem dX1_isUnder_24 : q_at cX1_isUnder 24 (.iload_n 2) 1 25 := ⟨by decide +kernel, rfl⟩
theorem dX1_isUnder_25 : q_at cX1_isUnder 25 (.iload_n 1) 1 26 := ⟨by decide +kernel, rfl⟩
theorem dX1_isUnder_26 : q_at cX1_isUnder 26 (.if_icmp .ne 5) 3 29 := ⟨by decide +kernel, rfl⟩
theorem dX1_isUnder_29 : q_at cX1_isUnder 29 (.iconst 1) 1 30 := ⟨by decide +kernel, rfl⟩
theorem dX1_isUnder_30 : q_at cX1_isUnder 30 (.ireturn) 1 31 := ⟨by decide +kernel, rfl⟩
theorem dX1_isUnder_31 : q_at cX1_isUnder 31 (.getstatic 40) 3 34 := ⟨by decide +kernel, rfl⟩
theorem dX1_isUnder_34 : q_at cX1_isUnder 34 (.iload_n 2) 1 35 := ⟨by decide +kernel, rfl⟩
theorem dX1_isUnder_35 : q_at cX1_isUnder 35 (.iaload) 1 36 := ⟨by decide +kernel, rfl⟩
theorem dX1_isUnder_36 : q_at cX1_isUnder 36 (.istore_n 2) 1 37 := ⟨by decide +kernel, rfl⟩
theorem dX1_isUnder_37 : q_at cX1_isUnder 37 (.iinc 3 1) 3 40 := ⟨by decide +kernel, rfl⟩
theorem dX1_isUnder_40 : q_at cX1_isUnder 40 (.goto (-36)) 3 43 := ⟨by decide +kernel, rfl⟩
theorem dX1_isUnder_43 : q_at cX1_isUnder 43 (.iconst 0) 1 44 := ⟨by decide +kernel, rfl⟩
theorem dX1_isUnder_44 : q_at cX1_isUnder 44 (.ireturn) 1 45 := ⟨by decide +kernel, rfl⟩
theorem dX1_open_0 : q_at cX1_open 0 (.iconst 0) 1 1 := ⟨by decide +kernel, rfl⟩
theorem dX1_open_1 : q_at cX1_open 1 (.istore_n 1) 1 2 := ⟨by decide +kernel, rfl⟩
theorem dX1_open_2 : q_at cX1_open 2 (.iconst 0) 1 3 := ⟨by decide +kernel, rfl⟩
theorem dX1_open_3 : q_at cX1_open 3 (.istore_n 2) 1 4 := ⟨by decide +kernel, rfl⟩
theorem dX1_open_4 : q_at cX1_open 4 (.iload_n 2) 1 5 := ⟨by decide +kernel, rfl⟩
theorem dX1_open_5 : q_at cX1_open 5 (.aload_n 0) 1 6 := ⟨by decide +kernel, rfl⟩
theorem dX1_open_6 : q_at cX1_open 6 (.getfield 36) 3 9 := ⟨by decide +kernel, rfl⟩
theorem dX1_open_9 : q_at cX1_open 9 (.if_icmp .ge 21) 3 12 := ⟨by decide +kernel, rfl⟩
theorem dX1_open_12 : q_at cX1_open 12 (.aload_n 0) 1 13 := ⟨by decide +kernel, rfl⟩
theorem dX1_open_13 : q_at cX1_open 13 (.getfield 27) 3 16 := ⟨by decide +kernel, rfl⟩
theorem dX1_open_16 : q_at cX1_open 16 (.iload_n 2) 1 17 := ⟨by decide +kernel, rfl⟩
theorem dX1_open_17 : q_at cX1_open 17 (.iaload) 1 18 := ⟨by decide +kernel, rfl⟩
theorem dX1_open_18 : q_at cX1_open 18 (.ifCond .ne 6) 3 21 := ⟨by decide +kernel, rfl⟩
theorem dX1_open_21 : q_at cX1_open 21 (.iinc 1 1) 3 24 := ⟨by decide +kernel, rfl⟩
theorem dX1_open_24 : q_at cX1_open 24 (.iinc 2 1) 3 27 := ⟨by decide +kernel, rfl⟩
theorem dX1_open_27 : q_at cX1_open 27 (.goto (-23)) 3 30 := ⟨by decide +kernel, rfl⟩
theorem dX1_open_30 : q_at cX1_open 30 (.iload_n 1) 1 31 := ⟨by decide +kernel, rfl⟩
theorem dX1_open_31 : q_at cX1_open 31 (.ireturn) 1 32 := ⟨by decide +kernel, rfl⟩
theorem dX1_out_0 : q_at cX1_out 0 (.iconst 0) 1 1 := ⟨by decide +kernel, rfl⟩
theorem dX1_out_1 : q_at cX1_out 1 (.istore_n 1) 1 2 := ⟨by decide +kernel, rfl⟩
theorem dX1_out_2 : q_at cX1_out 2 (.iconst 0) 1 3 := ⟨by decide +kernel, rfl⟩
theorem dX1_out_3 : q_at cX1_out 3 (.istore_n 2) 1 4 := ⟨by decide +kernel, rfl⟩
theorem dX1_out_4 : q_at cX1_out 4 (.iload_n 2) 1 5 := ⟨by decide +kernel, rfl⟩
theorem dX1_out_5 : q_at cX1_out 5 (.aload_n 0) 1 6 := ⟨by decide +kernel, rfl⟩
theorem dX1_out_6 : q_at cX1_out 6 (.getfield 36) 3 9 := ⟨by decide +kernel, rfl⟩
theorem dX1_out_9 : q_at cX1_out 9 (.if_icmp .ge 23) 3 12 := ⟨by decide +kernel, rfl⟩
theorem dX1_out_12 : q_at cX1_out 12 (.aload_n 0) 1 13 := ⟨by decide +kernel, rfl⟩
theorem dX1_out_13 : q_at cX1_out 13 (.getfield 30) 3 16 := ⟨by decide +kernel, rfl⟩
theorem dX1_out_16 : q_at cX1_out 16 (.iload_n 2) 1 17 := ⟨by decide +kernel, rfl⟩
theorem dX1_out_17 : q_at cX1_out 17 (.iaload) 1 18 := ⟨by decide +kernel, rfl⟩
theorem dX1_out_18 : q_at cX1_out 18 (.ldc 44) 2 20 := ⟨by decide +kernel, rfl⟩
theorem dX1_out_20 : q_at cX1_out 20 (.if_icmp .eq 6) 3 23 := ⟨by decide +kernel, rfl⟩
theorem dX1_out_23 : q_at cX1_out 23 (.iinc 1 1) 3 26 := ⟨by decide +kernel, rfl⟩
theorem dX1_out_26 : q_at cX1_out 26 (.iinc 2 1) 3 29 := ⟨by decide +kernel, rfl⟩
theorem dX1_out_29 : q_at cX1_out 29 (.goto (-25)) 3 32 := ⟨by decide +kernel, rfl⟩
theorem dX1_out_32 : q_at cX1_out 32 (.iload_n 1) 1 33 := ⟨by decide +kernel, rfl⟩
theorem dX1_out_33 : q_at cX1_out 33 (.ireturn) 1 34 := ⟨by decide +kernel, rfl⟩
theorem dX1_row_0 : q_at cX1_row 0 (.iload_n 1) 1 1 := ⟨by decide +kernel, rfl⟩
theorem dX1_row_1 : q_at cX1_row 1 (.tableswitch 87 0 7 #[47, 52, 57, 62, 67, 72, 77, 82]) 47 48 := ⟨by decide +kernel, rfl⟩
theorem dX1_row_48 : q_at cX1_row 48 (.aload_n 0) 1 49 := ⟨by decide +kernel, rfl⟩
theorem dX1_row_49 : q_at cX1_row 49 (.getfield 11) 3 52 := ⟨by decide +kernel, rfl⟩
theorem dX1_row_52 : q_at cX1_row 52 (.areturn) 1 53 := ⟨by decide +kernel, rfl⟩
theorem dX1_row_53 : q_at cX1_row 53 (.aload_n 0) 1 54 := ⟨by decide +kernel, rfl⟩
theorem dX1_row_54 : q_at cX1_row 54 (.getfield 15) 3 57 := ⟨by decide +kernel, rfl⟩
theorem dX1_row_57 : q_at cX1_row 57 (.areturn) 1 58 := ⟨by decide +kernel, rfl⟩
theorem dX1_row_58 : q_at cX1_row 58 (.aload_n 0) 1 59 := ⟨by decide +kernel, rfl⟩
theorem dX1_row_59 : q_at cX1_row 59 (.getfield 18) 3 62 := ⟨by decide +kernel, rfl⟩
theorem dX1_row_62 : q_at cX1_row 62 (.areturn) 1 63 := ⟨by decide +kernel, rfl⟩
theorem dX1_row_63 : q_at cX1_row 63 (.aload_n 0) 1 64 := ⟨by decide +kernel, rfl⟩
theorem dX1_row_64 : q_at cX1_row 64 (.getfield 21) 3 67 := ⟨by decide +kernel, rfl⟩
theorem dX1_row_67 : q_at cX1_row 67 (.areturn) 1 68 := ⟨by decide +kernel, rfl⟩
theorem dX1_row_68 : q_at cX1_row 68 (.aload_n 0) 1 69 := ⟨by decide +kernel, rfl⟩
theorem dX1_row_69 : q_at cX1_row 69 (.getfield 24) 3 72 := ⟨by decide +kernel, rfl⟩
theorem dX1_row_72 : q_at cX1_row 72 (.areturn) 1 73 := ⟨by decide +kernel, rfl⟩
theorem dX1_row_73 : q_at cX1_row 73 (.aload_n 0) 1 74 := ⟨by decide +kernel, rfl⟩
theorem dX1_row_74 : q_at cX1_row 74 (.getfield 27) 3 77 := ⟨by decide +kernel, rfl⟩
theorem dX1_row_77 : q_at cX1_row 77 (.areturn) 1 78 := ⟨by decide +kernel, rfl⟩
theorem dX1_row_78 : q_at cX1_row 78 (.aload_n 0) 1 79 := ⟨by decide +kernel, rfl⟩
theorem dX1_row_79 : q_at cX1_row 79 (.getfield 30) 3 82 := ⟨by decide +kernel, rfl⟩
theorem dX1_row_82 : q_at cX1_row 82 (.areturn) 1 83 := ⟨by decide +kernel, rfl⟩
theorem dX1_row_83 : q_at cX1_row 83 (.aload_n 0) 1 84 := ⟨by decide +kernel, rfl⟩
theorem dX1_row_84 : q_at cX1_row 84 (.getfield 33) 3 87 := ⟨by decide +kernel, rfl⟩
theorem dX1_row_87 : q_at cX1_row 87 (.areturn) 1 88 := ⟨by decide +kernel, rfl⟩
theorem dX1_row_88 : q_at cX1_row 88 (.aconst_null) 1 89 := ⟨by decide +kernel, rfl⟩
theorem dX1_row_89 : q_at cX1_row 89 (.areturn) 1 90 := ⟨by decide +kernel, rfl⟩
theorem dX1_settle_0 : q_at cX1_settle 0 (.aload_n 0) 1 1 := ⟨by decide +kernel, rfl⟩
theorem dX1_settle_1 : q_at cX1_settle 1 (.getfield 11) 3 4 := ⟨by decide +kernel, rfl⟩
theorem dX1_settle_4 : q_at cX1_settle 4 (.iload_n 1) 1 5 := ⟨by decide +kernel, rfl⟩
theorem dX1_settle_5 : q_at cX1_settle 5 (.iaload) 1 6 := ⟨by decide +kernel, rfl⟩
theorem dX1_settle_6 : q_at cX1_settle 6 (.iconst 5) 1 7 := ⟨by decide +kernel, rfl⟩
theorem dX1_settle_7 : q_at cX1_settle 7 (.if_icmp .ne 14) 3 10 := ⟨by decide +kernel, rfl⟩
theorem dX1_settle_10 : q_at cX1_settle 10 (.aload_n 0) 1 11 := ⟨by decide +kernel, rfl⟩
theorem dX1_settle_11 : q_at cX1_settle 11 (.getfield 33) 3 14 := ⟨by decide +kernel, rfl⟩
theorem dX1_settle_14 : q_at cX1_settle 14 (.iload_n 1) 1 15 := ⟨by decide +kernel, rfl⟩
theorem dX1_settle_15 : q_at cX1_settle 15 (.dup2) 1 16 := ⟨by decide +kernel, rfl⟩
theorem dX1_settle_16 : q_at cX1_settle 16 (.iaload) 1 17 := ⟨by decide +kernel, rfl⟩
theorem dX1_settle_17 : q_at cX1_settle 17 (.iload_n 2) 1 18 := ⟨by decide +kernel, rfl⟩
theorem dX1_settle_18 : q_at cX1_settle 18 (.iadd) 1 19 := ⟨by decide +kernel, rfl⟩
theorem dX1_settle_19 : q_at cX1_settle 19 (.iastore) 1 20 := ⟨by decide +kernel, rfl⟩
theorem dX1_settle_20 : q_at cX1_settle 20 (.return_) 1 21 := ⟨by decide +kernel, rfl⟩
theorem dX1_settle_21 : q_at cX1_settle 21 (.aload_n 0) 1 22 := ⟨by decide +kernel, rfl⟩
theorem dX1_settle_22 : q_at cX1_settle 22 (.getfield 11) 3 25 := ⟨by decide +kernel, rfl⟩
theorem dX1_settle_25 : q_at cX1_settle 25 (.iload_n 1) 1 26 := ⟨by decide +kernel, rfl⟩
theorem dX1_settle_26 : q_at cX1_settle 26 (.iaload) 1 27 := ⟨by decide +kernel, rfl⟩
theorem dX1_settle_27 : q_at cX1_settle 27 (.iconst 4) 1 28 := ⟨by decide +kernel, rfl⟩
theorem dX1_settle_28 : q_at cX1_settle 28 (.if_icmp .ne 10) 3 31 := ⟨by decide +kernel, rfl⟩
theorem dX1_settle_31 : q_at cX1_settle 31 (.aload_n 0) 1 32 := ⟨by decide +kernel, rfl⟩
theorem dX1_settle_32 : q_at cX1_settle 32 (.getfield 18) 3 35 := ⟨by decide +kernel, rfl⟩
theorem dX1_settle_35 : q_at cX1_settle 35 (.iload_n 1) 1 36 := ⟨by decide +kernel, rfl⟩
theorem dX1_settle_36 : q_at cX1_settle 36 (.iload_n 2) 1 37 := ⟨by decide +kernel, rfl⟩
theorem dX1_settle_37 : q_at cX1_settle 37 (.iastore) 1 38 := ⟨by decide +kernel, rfl⟩
theorem dX1_settle_38 : q_at cX1_settle 38 (.aload_n 0) 1 39 := ⟨by decide +kernel, rfl⟩
theorem dX1_settle_39 : q_at cX1_settle 39 (.getfield 27) 3 42 := ⟨by decide +kernel, rfl⟩
theorem dX1_settle_42 : q_at cX1_settle 42 (.iload_n 1) 1 43 := ⟨by decide +kernel, rfl⟩
theorem dX1_settle_43 : q_at cX1_settle 43 (.iconst 1) 1 44 := ⟨by decide +kernel, rfl⟩
theorem dX1_settle_44 : q_at cX1_settle 44 (.iastore) 1 45 := ⟨by decide +kernel, rfl⟩
theorem dX1_settle_45 : q_at cX1_settle 45 (.return_) 1 46 := ⟨by decide +kernel, rfl⟩
theorem dX2_added_0 : q_at cX2_added 0 (.aload_n 0) 1 1 := ⟨by decide +kernel, rfl⟩
theorem dX2_added_1 : q_at cX2_added 1 (.getfield 56) 3 4 := ⟨by decide +kernel, rfl⟩
theorem dX2_added_4 : q_at cX2_added 4 (.bipush 12) 2 6 := ⟨by decide +kernel, rfl⟩
theorem dX2_added_6 : q_at cX2_added 6 (.if_icmp .lt 6) 3 9 := ⟨by decide +kernel, rfl⟩
theorem dX2_added_9 : q_at cX2_added 9 (.ldc 66) 2 11 := ⟨by decide +kernel, rfl⟩
theorem dX2_added_11 : q_at cX2_added 11 (.ireturn) 1 12 := ⟨by decide +kernel, rfl⟩
theorem dX2_added_12 : q_at cX2_added 12 (.aload_n 0) 1 13 := ⟨by decide +kernel, rfl⟩
theorem dX2_added_13 : q_at cX2_added 13 (.getfield 11) 3 16 := ⟨by decide +kernel, rfl⟩
theorem dX2_added_16 : q_at cX2_added 16 (.aload_n 0) 1 17 := ⟨by decide +kernel, rfl⟩
theorem dX2_added_17 : q_at cX2_added 17 (.getfield 56) 3 20 := ⟨by decide +kernel, rfl⟩
theorem dX2_added_20 : q_at cX2_added 20 (.iload_n 1) 1 21 := ⟨by decide +kernel, rfl⟩
theorem dX2_added_21 : q_at cX2_added 21 (.iastore) 1 22 := ⟨by decide +kernel, rfl⟩
theorem dX2_added_22 : q_at cX2_added 22 (.aload_n 0) 1 23 := ⟨by decide +kernel, rfl⟩
theorem dX2_added_23 : q_at cX2_added 23 (.getfield 15) 3 26 := ⟨by decide +kernel, rfl⟩
theorem dX2_added_26 : q_at cX2_added 26 (.aload_n 0) 1 27 := ⟨by decide +kernel, rfl⟩
theorem dX2_added_27 : q_at cX2_added 27 (.getfield 56) 3 30 := ⟨by decide +kernel, rfl⟩
theorem dX2_added_30 : q_at cX2_added 30 (.iload_n 2) 1 31 := ⟨by decide +kernel, rfl⟩
theorem dX2_added_31 : q_at cX2_added 31 (.iastore) 1 32 := ⟨by decide +kernel, rfl⟩
theorem dX2_added_32 : q_at cX2_added 32 (.aload_n 0) 1 33 := ⟨by decide +kernel, rfl⟩
theorem dX2_added_33 : q_at cX2_added 33 (.getfield 18) 3 36 := ⟨by decide +kernel, rfl⟩
theorem dX2_added_36 : q_at cX2_added 36 (.aload_n 0) 1 37 := ⟨by decide +kernel, rfl⟩
theorem dX2_added_37 : q_at cX2_added 37 (.getfield 56) 3 40 := ⟨by decide +kernel, rfl⟩
theorem dX2_added_40 : q_at cX2_added 40 (.iload_n 3) 1 41 := ⟨by decide +kernel, rfl⟩
theorem dX2_added_41 : q_at cX2_added 41 (.iastore) 1 42 := ⟨by decide +kernel, rfl⟩
theorem dX2_added_42 : q_at cX2_added 42 (.aload_n 0) 1 43 := ⟨by decide +kernel, rfl⟩
theorem dX2_added_43 : q_at cX2_added 43 (.dup) 1 44 := ⟨by decide +kernel, rfl⟩
theorem dX2_added_44 : q_at cX2_added 44 (.getfield 56) 3 47 := ⟨by decide +kernel, rfl⟩
theorem dX2_added_47 : q_at cX2_added 47 (.iconst 1) 1 48 := ⟨by decide +kernel, rfl⟩
theorem dX2_added_48 : q_at cX2_added 48 (.iadd) 1 49 := ⟨by decide +kernel, rfl⟩
theorem dX2_added_49 : q_at cX2_added 49 (.putfield 56) 3 52 := ⟨by decide +kernel, rfl⟩
theorem dX2_added_52 : q_at cX2_added 52 (.aload_n 0) 1 53 := ⟨by decide +kernel, rfl⟩
theorem dX2_added_53 : q_at cX2_added 53 (.getfield 56) 3 56 := ⟨by decide +kernel, rfl⟩
theorem dX2_added_56 : q_at cX2_added 56 (.iconst 1) 1 57 := ⟨by decide +kernel, rfl⟩
theorem dX2_added_57 : q_at cX2_added 57 (.isub) 1 58 := ⟨by decide +kernel, rfl⟩
theorem dX2_added_58 : q_at cX2_added 58 (.ireturn) 1 59 := ⟨by decide +kernel, rfl⟩
theorem dX2_dayKnown_0 : q_at cX2_dayKnown 0 (.aload_n 0) 1 1 := ⟨by decide +kernel, rfl⟩
theorem dX2_dayKnown_1 : q_at cX2_dayKnown 1 (.getfield 53) 3 4 := ⟨by decide +kernel, rfl⟩
theorem dX2_dayKnown_4 : q_at cX2_dayKnown 4 (.iload_n 1) 1 5 := ⟨by decide +kernel, rfl⟩
theorem dX2_dayKnown_5 : q_at cX2_dayKnown 5 (.bipush 6) 2 7 := ⟨by decide +kernel, rfl⟩
theorem dX2_dayKnown_7 : q_at cX2_dayKnown 7 (.imul) 1 8 := ⟨by decide +kernel, rfl⟩
theorem dX2_dayKnown_8 : q_at cX2_dayKnown 8 (.iload_n 2) 1 9 := ⟨by decide +kernel, rfl⟩
theorem dX2_dayKnown_9 : q_at cX2_dayKnown 9 (.iadd) 1 10 := ⟨by decide +kernel, rfl⟩
theorem dX2_dayKnown_10 : q_at cX2_dayKnown 10 (.iaload) 1 11 := ⟨by decide +kernel, rfl⟩
theorem dX2_dayKnown_11 : q_at cX2_dayKnown 11 (.ireturn) 1 12 := ⟨by decide +kernel, rfl⟩
theorem dX2_has_0 : q_at cX2_has 0 (.iload_n 1) 1 1 := ⟨by decide +kernel, rfl⟩
theorem dX2_has_1 : q_at cX2_has 1 (.ifCond .lt 15) 3 4 := ⟨by decide +kernel, rfl⟩
theorem dX2_has_4 : q_at cX2_has 4 (.iload_n 1) 1 5 := ⟨by decide +kernel, rfl⟩
theorem dX2_has_5 : q_at cX2_has 5 (.aload_n 0) 1 6 := ⟨by decide +kernel, rfl⟩
theorem dX2_has_6 : q_at cX2_has 6 (.getfield 56) 3 9 := ⟨by decide +kernel, rfl⟩
theorem dX2_has_9 : q_at cX2_has 9 (.if_icmp .ge 7) 3 12 := ⟨by decide +kernel, rfl⟩
theorem dX2_has_12 : q_at cX2_has 12 (.iconst 1) 1 13 := ⟨by decide +kernel, rfl⟩
theorem dX2_has_13 : q_at cX2_has 13 (.goto 4) 3 16 := ⟨by decide +kernel, rfl⟩
theorem dX2_has_16 : q_at cX2_has 16 (.iconst 0) 1 17 := ⟨by decide +kernel, rfl⟩
theorem dX2_has_17 : q_at cX2_has 17 (.ireturn) 1 18 := ⟨by decide +kernel, rfl⟩
theorem dX2_isGone_0 : q_at cX2_isGone 0 (.aload_n 0) 1 1 := ⟨by decide +kernel, rfl⟩
theorem dX2_isGone_1 : q_at cX2_isGone 1 (.getfield 39) 3 4 := ⟨by decide +kernel, rfl⟩
theorem dX2_isGone_4 : q_at cX2_isGone 4 (.iload_n 1) 1 5 := ⟨by decide +kernel, rfl⟩
theorem dX2_isGone_5 : q_at cX2_isGone 5 (.iaload) 1 6 := ⟨by decide +kernel, rfl⟩
theorem dX2_isGone_6 : q_at cX2_isGone 6 (.ifCond .eq 7) 3 9 := ⟨by decide +kernel, rfl⟩
theorem dX2_isGone_9 : q_at cX2_isGone 9 (.iconst 1) 1 10 := ⟨by decide +kernel, rfl⟩
theorem dX2_isGone_10 : q_at cX2_isGone 10 (.goto 4) 3 13 := ⟨by decide +kernel, rfl⟩
theorem dX2_isGone_13 : q_at cX2_isGone 13 (.iconst 0) 1 14 := ⟨by decide +kernel, rfl⟩
theorem dX2_isGone_14 : q_at cX2_isGone 14 (.ireturn) 1 15 := ⟨by decide +kernel, rfl⟩
theorem dX2_knows_0 : q_at cX2_knows 0 (.aload_n 0) 1 1 := ⟨by decide +kernel, rfl⟩
theorem dX2_knows_1 : q_at cX2_knows 1 (.getfield 53) 3 4 := ⟨by decide +kernel, rfl⟩
theorem dX2_knows_4 : q_at cX2_knows 4 (.iload_n 1) 1 5 := ⟨by decide +kernel, rfl⟩
theorem dX2_knows_5 : q_at cX2_knows 5 (.bipush 6) 2 7 := ⟨by decide +kernel, rfl⟩
theorem dX2_knows_7 : q_at cX2_knows 7 (.imul) 1 8 := ⟨by decide +kernel, rfl⟩
theorem dX2_knows_8 : q_at cX2_knows 8 (.iload_n 2) 1 9 := ⟨by decide +kernel, rfl⟩
theorem dX2_knows_9 : q_at cX2_knows 9 (.iadd) 1 10 := ⟨by decide +kernel, rfl⟩
theorem dX2_knows_10 : q_at cX2_knows 10 (.iaload) 1 11 := ⟨by decide +kernel, rfl⟩
theorem dX2_knows_11 : q_at cX2_knows 11 (.iconst (-1)) 1 12 := ⟨by decide +kernel, rfl⟩
theorem dX2_knows_12 : q_at cX2_knows 12 (.if_icmp .eq 7) 3 15 := ⟨by decide +kernel, rfl⟩
theorem dX2_knows_15 : q_at cX2_knows 15 (.iconst 1) 1 16 := ⟨by decide +kernel, rfl⟩
theorem dX2_knows_16 : q_at cX2_knows 16 (.goto 4) 3 19 := ⟨by decide +kernel, rfl⟩
theorem dX2_knows_19 : q_at cX2_knows 19 (.iconst 0) 1 20 := ⟨by decide +kernel, rfl⟩
theorem dX2_knows_20 : q_at cX2_knows 20 (.ireturn) 1 21 := ⟨by decide +kernel, rfl⟩
theorem dX2_lacks_0 : q_at cX2_lacks 0 (.aload_n 0) 1 1 := ⟨by decide +kernel, rfl⟩
theorem dX2_lacks_1 : q_at cX2_lacks 1 (.getfield 18) 3 4 := ⟨by decide +kernel, rfl⟩
theorem dX2_lacks_4 : q_at cX2_lacks 4 (.iload_n 1) 1 5 := ⟨by decide +kernel, rfl⟩
theorem dX2_lacks_5 : q_at cX2_lacks 5 (.iaload) 1 6 := ⟨by decide +kernel, rfl⟩
theorem dX2_lacks_6 : q_at cX2_lacks 6 (.aload_n 0) 1 7 := ⟨by decide +kernel, rfl⟩
theorem dX2_lacks_7 : q_at cX2_lacks 7 (.getfield 21) 3 10 := ⟨by decide +kernel, rfl⟩
theorem dX2_lacks_10 : q_at cX2_lacks 10 (.iload_n 1) 1 11 := ⟨by decide +kernel, rfl⟩
theorem dX2_lacks_11 : q_at cX2_lacks 11 (.iaload) 1 12 := ⟨by decide +kernel, rfl⟩
theorem dX2_lacks_12 : q_at cX2_lacks 12 (.isub) 1 13 := ⟨by decide +kernel, rfl⟩
theorem dX2_lacks_13 : q_at cX2_lacks 13 (.ireturn) 1 14 := ⟨by decide +kernel, rfl⟩
theorem dX2_learn_0 : q_at cX2_learn 0 (.aload_n 0) 1 1 := ⟨by decide +kernel, rfl⟩
theorem dX2_learn_1 : q_at cX2_learn 1 (.getfield 50) 3 4 := ⟨by decide +kernel, rfl⟩
theorem dX2_learn_4 : q_at cX2_learn 4 (.iload_n 1) 1 5 := ⟨by decide +kernel, rfl⟩
theorem dX2_learn_5 : q_at cX2_learn 5 (.bipush 6) 2 7 := ⟨by decide +kernel, rfl⟩
theorem dX2_learn_7 : q_at cX2_learn 7 (.imul) 1 8 := ⟨by decide +kernel, rfl⟩
theorem dX2_learn_8 : q_at cX2_learn 8 (.iload_n 2) 1 9 := ⟨by decide +kernel, rfl⟩
theorem dX2_learn_9 : q_at cX2_learn 9 (.iadd) 1 10 := ⟨by decide +kernel, rfl⟩
theorem dX2_learn_10 : q_at cX2_learn 10 (.iload_n 3) 1 11 := ⟨by decide +kernel, rfl⟩
theorem dX2_learn_11 : q_at cX2_learn 11 (.iastore) 1 12 := ⟨by decide +kernel, rfl⟩
theorem dX2_learn_12 : q_at cX2_learn 12 (.aload_n 0) 1 13 := ⟨by decide +kernel, rfl⟩
theorem dX2_learn_13 : q_at cX2_learn 13 (.getfield 53) 3 16 := ⟨by decide +kernel, rfl⟩
theorem dX2_learn_16 : q_at cX2_learn 16 (.iload_n 1) 1 17 := ⟨by decide +kernel, rfl⟩
theorem dX2_learn_17 : q_at cX2_learn 17 (.bipush 6) 2 19 := ⟨by decide +kernel, rfl⟩
theorem dX2_learn_19 : q_at cX2_learn 19 (.imul) 1 20 := ⟨by decide +kernel, rfl⟩
theorem dX2_learn_20 : q_at cX2_learn 20 (.iload_n 2) 1 21 := ⟨by decide +kernel, rfl⟩
theorem dX2_learn_21 : q_at cX2_learn 21 (.iadd) 1 22 := ⟨by decide +kernel, rfl⟩
theorem dX2_learn_22 : q_at cX2_learn 22 (.iload 4) 2 24 := ⟨by decide +kernel, rfl⟩
theorem dX2_learn_24 : q_at cX2_learn 24 (.iastore) 1 25 := ⟨by decide +kernel, rfl⟩
theorem dX2_learn_25 : q_at cX2_learn 25 (.return_) 1 26 := ⟨by decide +kernel, rfl⟩
theorem dX2_mayBe_0 : q_at cX2_mayBe 0 (.iload_n 0) 1 1 := ⟨by decide +kernel, rfl⟩
theorem dX2_mayBe_1 : q_at cX2_mayBe 1 (.ifCond .lt 19) 3 4 := ⟨by decide +kernel, rfl⟩
theorem dX2_mayBe_4 : q_at cX2_mayBe 4 (.iload_n 0) 1 5 := ⟨by decide +kernel, rfl⟩
theorem dX2_mayBe_5 : q_at cX2_mayBe 5 (.getstatic 60) 3 8 := ⟨by decide +kernel, rfl⟩
theorem dX2_mayBe_8 : q_at cX2_mayBe 8 (.arraylength) 1 9 := ⟨by decide +kernel, rfl⟩
theorem dX2_mayBe_9 : q_at cX2_mayBe 9 (.if_icmp .ge 11) 3 12 := ⟨by decide +kernel, rfl⟩
theorem dX2_mayBe_12 : q_at cX2_mayBe 12 (.iload_n 0) 1 13 := ⟨by decide +kernel, rfl⟩
theorem dX2_mayBe_13 : q_at cX2_mayBe 13 (.getstatic 63) 3 16 := ⟨by decide +kernel, rfl⟩
theorem dX2_mayBe_16 : q_at cX2_mayBe 16 (.arraylength) 1 17 := ⟨by decide +kernel, rfl⟩
theorem dX2_mayBe_17 : q_at cX2_mayBe 17 (.if_icmp .lt 5) 3 20 := ⟨by decide +kernel, rfl⟩
theorem dX2_mayBe_20 : q_at cX2_mayBe 20 (.iconst 0) 1 21 := ⟨by decide +kernel, rfl⟩
theorem dX2_mayBe_21 : q_at cX2_mayBe 21 (.ireturn) 1 22 := ⟨by decide +kernel, rfl⟩
theorem dX2_mayBe_22 : q_at cX2_mayBe 22 (.iload_n 1) 1 23 := ⟨by decide +kernel, rfl⟩
theorem dX2_mayBe_23 : q_at cX2_mayBe 23 (.getstatic 60) 3 26 := ⟨by decide +kernel, rfl⟩
theorem dX2_mayBe_26 : q_at cX2_mayBe 26 (.iload_n 0) 1 27 := ⟨by decide +kernel, rfl⟩
theorem dX2_mayBe_27 : q_at cX2_mayBe 27 (.iaload) 1 28 := ⟨by decide +kernel, rfl⟩
theorem dX2_mayBe_28 : q_at cX2_mayBe 28 (.if_icmp .lt 16) 3 31 := ⟨by decide +kernel, rfl⟩
theorem dX2_mayBe_31 : q_at cX2_mayBe 31 (.iload_n 1) 1 32 := ⟨by decide +kernel, rfl⟩
theorem dX2_mayBe_32 : q_at cX2_mayBe 32 (.getstatic 63) 3 35 := ⟨by decide +kernel, rfl⟩
theorem dX2_mayBe_35 : q_at cX2_mayBe 35 (.iload_n 0) 1 36 := ⟨by decide +kernel, rfl⟩
theorem dX2_mayBe_36 : q_at cX2_mayBe 36 (.iaload) 1 37 := ⟨by decide +kernel, rfl⟩
theorem dX2_mayBe_37 : q_at cX2_mayBe 37 (.if_icmp .gt 7) 3 40 := ⟨by decide +kernel, rfl⟩
theorem dX2_mayBe_40 : q_at cX2_mayBe 40 (.iconst 1) 1 41 := ⟨by decide +kernel, rfl⟩
theorem dX2_mayBe_41 : q_at cX2_mayBe 41 (.goto 4) 3 44 := ⟨by decide +kernel, rfl⟩
theorem dX2_mayBe_44 : q_at cX2_mayBe 44 (.iconst 0) 1 45 := ⟨by decide +kernel, rfl⟩
theorem dX2_mayBe_45 : q_at cX2_mayBe 45 (.ireturn) 1 46 := ⟨by decide +kernel, rfl⟩
theorem dX2_priceKnown_0 : q_at cX2_priceKnown 0 (.aload_n 0) 1 1 := ⟨by decide +kernel, rfl⟩
theorem dX2_priceKnown_1 : q_at cX2_priceKnown 1 (.getfield 50) 3 4 := ⟨by decide +kernel, rfl⟩
theorem dX2_priceKnown_4 : q_at cX2_priceKnown 4 (.iload_n 1) 1 5 := ⟨by decide +kernel, rfl⟩
theorem dX2_priceKnown_5 : q_at cX2_priceKnown 5 (.bipush 6) 2 7 := ⟨by decide +kernel, rfl⟩
theorem dX2_priceKnown_7 : q_at cX2_priceKnown 7 (.imul) 1 8 := ⟨by decide +kernel, rfl⟩
theorem dX2_priceKnown_8 : q_at cX2_priceKnown 8 (.iload_n 2) 1 9 := ⟨by decide +kernel, rfl⟩
theorem dX2_priceKnown_9 : q_at cX2_priceKnown 9 (.iadd) 1 10 := ⟨by decide +kernel, rfl⟩
theorem dX2_priceKnown_10 : q_at cX2_priceKnown 10 (.iaload) 1 11 := ⟨by decide +kernel, rfl⟩
theorem dX2_priceKnown_11 : q_at cX2_priceKnown 11 (.ireturn) 1 12 := ⟨by decide +kernel, rfl⟩
theorem dX2_row_0 : q_at cX2_row 0 (.iload_n 1) 1 1 := ⟨by decide +kernel, rfl⟩
theorem dX2_row_1 : q_at cX2_row 1 (.tableswitch 131 0 13 #[71, 76, 81, 86, 91, 96, 101, 106, 111, 116, 131, 131, 121, 126]) 71 72 := ⟨by decide +kernel, rfl⟩
theorem dX2_row_72 : q_at cX2_row 72 (.aload_n 0) 1 73 := ⟨by decide +kernel, rfl⟩
theorem dX2_row_73 : q_at cX2_row 73 (.getfield 11) 3 76 := ⟨by decide +kernel, rfl⟩
theorem dX2_row_76 : q_at cX2_row 76 (.areturn) 1 77 := ⟨by decide +kernel, rfl⟩
theorem dX2_row_77 : q_at cX2_row 77 (.aload_n 0) 1 78 := ⟨by decide +kernel, rfl⟩
theorem dX2_row_78 : q_at cX2_row 78 (.getfield 15) 3 81 := ⟨by decide +kernel, rfl⟩
theorem dX2_row_81 : q_at cX2_row 81 (.areturn) 1 82 := ⟨by decide +kernel, rfl⟩
theorem dX2_row_82 : q_at cX2_row 82 (.aload_n 0) 1 83 := ⟨by decide +kernel, rfl⟩
theorem dX2_row_83 : q_at cX2_row 83 (.getfield 18) 3 86 := ⟨by decide +kernel, rfl⟩
theorem dX2_row_86 : q_at cX2_row 86 (.areturn) 1 87 := ⟨by decide +kernel, rfl⟩
theorem dX2_row_87 : q_at cX2_row 87 (.aload_n 0) 1 88 := ⟨by decide +kernel, rfl⟩
theorem dX2_row_88 : q_at cX2_row 88 (.getfield 21) 3 91 := ⟨by decide +kernel, rfl⟩
theorem dX2_row_91 : q_at cX2_row 91 (.areturn) 1 92 := ⟨by decide +kernel, rfl⟩
theorem dX2_row_92 : q_at cX2_row 92 (.aload_n 0) 1 93 := ⟨by decide +kernel, rfl⟩
theorem dX2_row_93 : q_at cX2_row 93 (.getfield 24) 3 96 := ⟨by decide +kernel, rfl⟩
theorem dX2_row_96 : q_at cX2_row 96 (.areturn) 1 97 := ⟨by decide +kernel, rfl⟩
theorem dX2_row_97 : q_at cX2_row 97 (.aload_n 0) 1 98 := ⟨by decide +kernel, rfl⟩
theorem dX2_row_98 : q_at cX2_row 98 (.getfield 27) 3 101 := ⟨by decide +kernel, rfl⟩
theorem dX2_row_101 : q_at cX2_row 101 (.areturn) 1 102 := ⟨by decide +kernel, rfl⟩
theorem dX2_row_102 : q_at cX2_row 102 (.aload_n 0) 1 103 := ⟨by decide +kernel, rfl⟩
theorem dX2_row_103 : q_at cX2_row 103 (.getfield 30) 3 106 := ⟨by decide +kernel, rfl⟩
theorem dX2_row_106 : q_at cX2_row 106 (.areturn) 1 107 := ⟨by decide +kernel, rfl⟩
theorem dX2_row_107 : q_at cX2_row 107 (.aload_n 0) 1 108 := ⟨by decide +kernel, rfl⟩
theorem dX2_row_108 : q_at cX2_row 108 (.getfield 33) 3 111 := ⟨by decide +kernel, rfl⟩
theorem dX2_row_111 : q_at cX2_row 111 (.areturn) 1 112 := ⟨by decide +kernel, rfl⟩
theorem dX2_row_112 : q_at cX2_row 112 (.aload_n 0) 1 113 := ⟨by decide +kernel, rfl⟩
theorem dX2_row_113 : q_at cX2_row 113 (.getfield 36) 3 116 := ⟨by decide +kernel, rfl⟩
theorem dX2_row_116 : q_at cX2_row 116 (.areturn) 1 117 := ⟨by decide +kernel, rfl⟩
theorem dX2_row_117 : q_at cX2_row 117 (.aload_n 0) 1 118 := ⟨by decide +kernel, rfl⟩
theorem dX2_row_118 : q_at cX2_row 118 (.getfield 39) 3 121 := ⟨by decide +kernel, rfl⟩
theorem dX2_row_121 : q_at cX2_row 121 (.areturn) 1 122 := ⟨by decide +kernel, rfl⟩
theorem dX2_row_122 : q_at cX2_row 122 (.aload_n 0) 1 123 := ⟨by decide +kernel, rfl⟩
theorem dX2_row_123 : q_at cX2_row 123 (.getfield 42) 3 126 := ⟨by decide +kernel, rfl⟩
theorem dX2_row_126 : q_at cX2_row 126 (.areturn) 1 127 := ⟨by decide +kernel, rfl⟩
theorem dX2_row_127 : q_at cX2_row 127 (.aload_n 0) 1 128 := ⟨by decide +kernel, rfl⟩
theorem dX2_row_128 : q_at cX2_row 128 (.getfield 45) 3 131 := ⟨by decide +kernel, rfl⟩
theorem dX2_row_131 : q_at cX2_row 131 (.areturn) 1 132 := ⟨by decide +kernel, rfl⟩
theorem dX2_row_132 : q_at cX2_row 132 (.aconst_null) 1 133 := ⟨by decide +kernel, rfl⟩
theorem dX2_row_133 : q_at cX2_row 133 (.areturn) 1 134 := ⟨by decide +kernel, rfl⟩
theorem dX2_sum_0 : q_at cX2_sum 0 (.iconst 0) 1 1 := ⟨by decide +kernel, rfl⟩
theorem dX2_sum_1 : q_at cX2_sum 1 (.istore_n 2) 1 2 := ⟨by decide +kernel, rfl⟩
theorem dX2_sum_2 : q_at cX2_sum 2 (.iconst 0) 1 3 := ⟨by decide +kernel, rfl⟩
theorem dX2_sum_3 : q_at cX2_sum 3 (.istore_n 3) 1 4 := ⟨by decide +kernel, rfl⟩
theorem dX2_sum_4 : q_at cX2_sum 4 (.iload_n 3) 1 5 := ⟨by decide +kernel, rfl⟩
theorem dX2_sum_5 : q_at cX2_sum 5 (.aload_n 0) 1 6 := ⟨by decide +kernel, rfl⟩
theorem dX2_sum_6 : q_at cX2_sum 6 (.getfield 56) 3 9 := ⟨by decide +kernel, rfl⟩
theorem dX2_sum_9 : q_at cX2_sum 9 (.if_icmp .ge 21) 3 12 := ⟨by decide +kernel, rfl⟩
theorem dX2_sum_12 : q_at cX2_sum 12 (.iload_n 3) 1 13 := ⟨by decide +kernel, rfl⟩
theorem dX2_sum_13 : q_at cX2_sum 13 (.aload_n 1) 1 14 := ⟨by decide +kernel, rfl⟩
theorem dX2_sum_14 : q_at cX2_sum 14 (.arraylength) 1 15 := ⟨by decide +kernel, rfl⟩
theorem dX2_sum_15 : q_at cX2_sum 15 (.if_icmp .ge 15) 3 18 := ⟨by decide +kernel, rfl⟩
theorem dX2_sum_18 : q_at cX2_sum 18 (.iload_n 2) 1 19 := ⟨by decide +kernel, rfl⟩
theorem dX2_sum_19 : q_at cX2_sum 19 (.aload_n 1) 1 20 := ⟨by decide +kernel, rfl⟩
theorem dX2_sum_20 : q_at cX2_sum 20 (.iload_n 3) 1 21 := ⟨by decide +kernel, rfl⟩
theorem dX2_sum_21 : q_at cX2_sum 21 (.iaload) 1 22 := ⟨by decide +kernel, rfl⟩
theorem dX2_sum_22 : q_at cX2_sum 22 (.iadd) 1 23 := ⟨by decide +kernel, rfl⟩
theorem dX2_sum_23 : q_at cX2_sum 23 (.istore_n 2) 1 24 := ⟨by decide +kernel, rfl⟩
theorem dX2_sum_24 : q_at cX2_sum 24 (.iinc 3 1) 3 27 := ⟨by decide +kernel, rfl⟩
theorem dX2_sum_27 : q_at cX2_sum 27 (.goto (-23)) 3 30 := ⟨by decide +kernel, rfl⟩
theorem dX2_sum_30 : q_at cX2_sum 30 (.iload_n 2) 1 31 := ⟨by decide +kernel, rfl⟩
theorem dX2_sum_31 : q_at cX2_sum 31 (.ireturn) 1 32 := ⟨by decide +kernel, rfl⟩
theorem dX3_become_0 : q_at cX3_become 0 (.aload_n 1) 1 1 := ⟨by decide +kernel, rfl⟩
theorem dX3_become_1 : q_at cX3_become 1 (.getfield 9) 3 4 := ⟨by decide +kernel, rfl⟩
theorem dX3_become_4 : q_at cX3_become 4 (.iconst 0) 1 5 := ⟨by decide +kernel, rfl⟩
theorem dX3_become_5 : q_at cX3_become 5 (.aload_n 0) 1 6 := ⟨by decide +kernel, rfl⟩
theorem dX3_become_6 : q_at cX3_become 6 (.getfield 9) 3 9 := ⟨by decide +kernel, rfl⟩
theorem dX3_become_9 : q_at cX3_become 9 (.iconst 0) 1 10 := ⟨by decide +kernel, rfl⟩
theorem dX3_become_10 : q_at cX3_become 10 (.bipush 8) 2 12 := ⟨by decide +kernel, rfl⟩
theorem dX3_become_12 : q_at cX3_become 12 (.invokestatic 25) 3 15 := ⟨by decide +kernel, rfl⟩
theorem dX3_become_15 : q_at cX3_become 15 (.aload_n 1) 1 16 := ⟨by decide +kernel, rfl⟩
theorem dX3_become_16 : q_at cX3_become 16 (.getfield 13) 3 19 := ⟨by decide +kernel, rfl⟩
theorem dX3_become_19 : q_at cX3_become 19 (.iconst 0) 1 20 := ⟨by decide +kernel, rfl⟩
theorem dX3_become_20 : q_at cX3_become 20 (.aload_n 0) 1 21 := ⟨by decide +kernel, rfl⟩
theorem dX3_become_21 : q_at cX3_become 21 (.getfield 13) 3 24 := ⟨by decide +kernel, rfl⟩
theorem dX3_become_24 : q_at cX3_become 24 (.iconst 0) 1 25 := ⟨by decide +kernel, rfl⟩
theorem dX3_become_25 : q_at cX3_become 25 (.bipush 8) 2 27 := ⟨by decide +kernel, rfl⟩
theorem dX3_become_27 : q_at cX3_become 27 (.invokestatic 25) 3 30 := ⟨by decide +kernel, rfl⟩
theorem dX3_become_30 : q_at cX3_become 30 (.aload_n 1) 1 31 := ⟨by decide +kernel, rfl⟩
theorem dX3_become_31 : q_at cX3_become 31 (.getfield 16) 3 34 := ⟨by decide +kernel, rfl⟩
theorem dX3_become_34 : q_at cX3_become 34 (.iconst 0) 1 35 := ⟨by decide +kernel, rfl⟩
theorem dX3_become_35 : q_at cX3_become 35 (.aload_n 0) 1 36 := ⟨by decide +kernel, rfl⟩
theorem dX3_become_36 : q_at cX3_become 36 (.getfield 16) 3 39 := ⟨by decide +kernel, rfl⟩
theorem dX3_become_39 : q_at cX3_become 39 (.iconst 0) 1 40 := ⟨by decide +kernel, rfl⟩
theorem dX3_become_40 : q_at cX3_become 40 (.bipush 8) 2 42 := ⟨by decide +kernel, rfl⟩
theorem dX3_become_42 : q_at cX3_become 42 (.invokestatic 25) 3 45 := ⟨by decide +kernel, rfl⟩
theorem dX3_become_45 : q_at cX3_become 45 (.aload_n 1) 1 46 := ⟨by decide +kernel, rfl⟩
theorem dX3_become_46 : q_at cX3_become 46 (.getfield 19) 3 49 := ⟨by decide +kernel, rfl⟩
theorem dX3_become_49 : q_at cX3_become 49 (.iconst 0) 1 50 := ⟨by decide +kernel, rfl⟩
theorem dX3_become_50 : q_at cX3_become 50 (.aload_n 0) 1 51 := ⟨by decide +kernel, rfl⟩
theorem dX3_become_51 : q_at cX3_become 51 (.getfield 19) 3 54 := ⟨by decide +kernel, rfl⟩
theorem dX3_become_54 : q_at cX3_become 54 (.iconst 0) 1 55 := ⟨by decide +kernel, rfl⟩
theorem dX3_become_55 : q_at cX3_become 55 (.bipush 8) 2 57 := ⟨by decide +kernel, rfl⟩
theorem dX3_become_57 : q_at cX3_become 57 (.invokestatic 25) 3 60 := ⟨by decide +kernel, rfl⟩
theorem dX3_become_60 : q_at cX3_become 60 (.aload_n 1) 1 61 := ⟨by decide +kernel, rfl⟩
theorem dX3_become_61 : q_at cX3_become 61 (.getfield 22) 3 64 := ⟨by decide +kernel, rfl⟩
theorem dX3_become_64 : q_at cX3_become 64 (.iconst 0) 1 65 := ⟨by decide +kernel, rfl⟩
theorem dX3_become_65 : q_at cX3_become 65 (.aload_n 0) 1 66 := ⟨by decide +kernel, rfl⟩
theorem dX3_become_66 : q_at cX3_become 66 (.getfield 22) 3 69 := ⟨by decide +kernel, rfl⟩
theorem dX3_become_69 : q_at cX3_become 69 (.iconst 0) 1 70 := ⟨by decide +kernel, rfl⟩
theorem dX3_become_70 : q_at cX3_become 70 (.bipush 8) 2 72 := ⟨by decide +kernel, rfl⟩
theorem dX3_become_72 : q_at cX3_become 72 (.invokestatic 25) 3 75 := ⟨by decide +kernel, rfl⟩
theorem dX3_become_75 : q_at cX3_become 75 (.return_) 1 76 := ⟨by decide +kernel, rfl⟩
theorem dX3_row_0 : q_at cX3_row 0 (.iload_n 1) 1 1 := ⟨by decide +kernel, rfl⟩
theorem dX3_row_1 : q_at cX3_row 1 (.tableswitch 60 0 4 #[35, 40, 45, 50, 55]) 35 36 := ⟨by decide +kernel, rfl⟩
theorem dX3_row_36 : q_at cX3_row 36 (.aload_n 0) 1 37 := ⟨by decide +kernel, rfl⟩
theorem dX3_row_37 : q_at cX3_row 37 (.getfield 9) 3 40 := ⟨by decide +kernel, rfl⟩
theorem dX3_row_40 : q_at cX3_row 40 (.areturn) 1 41 := ⟨by decide +kernel, rfl⟩
theorem dX3_row_41 : q_at cX3_row 41 (.aload_n 0) 1 42 := ⟨by decide +kernel, rfl⟩
theorem dX3_row_42 : q_at cX3_row 42 (.getfield 13) 3 45 := ⟨by decide +kernel, rfl⟩
theorem dX3_row_45 : q_at cX3_row 45 (.areturn) 1 46 := ⟨by decide +kernel, rfl⟩
theorem dX3_row_46 : q_at cX3_row 46 (.aload_n 0) 1 47 := ⟨by decide +kernel, rfl⟩
theorem dX3_row_47 : q_at cX3_row 47 (.getfield 16) 3 50 := ⟨by decide +kernel, rfl⟩
theorem dX3_row_50 : q_at cX3_row 50 (.areturn) 1 51 := ⟨by decide +kernel, rfl⟩
theorem dX3_row_51 : q_at cX3_row 51 (.aload_n 0) 1 52 := ⟨by decide +kernel, rfl⟩
theorem dX3_row_52 : q_at cX3_row 52 (.getfield 19) 3 55 := ⟨by decide +kernel, rfl⟩
theorem dX3_row_55 : q_at cX3_row 55 (.areturn) 1 56 := ⟨by decide +kernel, rfl⟩
theorem dX3_row_56 : q_at cX3_row 56 (.aload_n 0) 1 57 := ⟨by decide +kernel, rfl⟩
theorem dX3_row_57 : q_at cX3_row 57 (.getfield 22) 3 60 := ⟨by decide +kernel, rfl⟩
theorem dX3_row_60 : q_at cX3_row 60 (.areturn) 1 61 := ⟨by decide +kernel, rfl⟩
theorem dX3_row_61 : q_at cX3_row 61 (.aconst_null) 1 62 := ⟨by decide +kernel, rfl⟩
theorem dX3_row_62 : q_at cX3_row 62 (.areturn) 1 63 := ⟨by decide +kernel, rfl⟩
theorem dX4_added_0 : q_at cX4_added 0 (.aload_n 0) 1 1 := ⟨by decide +kernel, rfl⟩
theorem dX4_added_1 : q_at cX4_added 1 (.getfield 33) 3 4 := ⟨by decide +kernel, rfl⟩
theorem dX4_added_4 : q_at cX4_added 4 (.bipush 8) 2 6 := ⟨by decide +kernel, rfl⟩
theorem dX4_added_6 : q_at cX4_added 6 (.if_icmp .lt 6) 3 9 := ⟨by decide +kernel, rfl⟩
theorem dX4_added_9 : q_at cX4_added 9 (.ldc 37) 2 11 := ⟨by decide +kernel, rfl⟩
theorem dX4_added_11 : q_at cX4_added 11 (.ireturn) 1 12 := ⟨by decide +kernel, rfl⟩
theorem dX4_added_12 : q_at cX4_added 12 (.aload_n 0) 1 13 := ⟨by decide +kernel, rfl⟩
theorem dX4_added_13 : q_at cX4_added 13 (.getfield 11) 3 16 := ⟨by decide +kernel, rfl⟩
theorem dX4_added_16 : q_at cX4_added 16 (.aload_n 0) 1 17 := ⟨by decide +kernel, rfl⟩
theorem dX4_added_17 : q_at cX4_added 17 (.getfield 33) 3 20 := ⟨by decide +kernel, rfl⟩
theorem dX4_added_20 : q_at cX4_added 20 (.iload_n 1) 1 21 := ⟨by decide +kernel, rfl⟩
theorem dX4_added_21 : q_at cX4_added 21 (.iastore) 1 22 := ⟨by decide +kernel, rfl⟩
theorem dX4_added_22 : q_at cX4_added 22 (.aload_n 0) 1 23 := ⟨by decide +kernel, rfl⟩
theorem dX4_added_23 : q_at cX4_added 23 (.getfield 15) 3 26 := ⟨by decide +kernel, rfl⟩
theorem dX4_added_26 : q_at cX4_added 26 (.aload_n 0) 1 27 := ⟨by decide +kernel, rfl⟩
theorem dX4_added_27 : q_at cX4_added 27 (.getfield 33) 3 30 := ⟨by decide +kernel, rfl⟩
theorem dX4_added_30 : q_at cX4_added 30 (.iload_n 2) 1 31 := ⟨by decide +kernel, rfl⟩
theorem dX4_added_31 : q_at cX4_added 31 (.iastore) 1 32 := ⟨by decide +kernel, rfl⟩
theorem dX4_added_32 : q_at cX4_added 32 (.aload_n 0) 1 33 := ⟨by decide +kernel, rfl⟩
theorem dX4_added_33 : q_at cX4_added 33 (.getfield 18) 3 36 := ⟨by decide +kernel, rfl⟩
theorem dX4_added_36 : q_at cX4_added 36 (.aload_n 0) 1 37 := ⟨by decide +kernel, rfl⟩
theorem dX4_added_37 : q_at cX4_added 37 (.getfield 33) 3 40 := ⟨by decide +kernel, rfl⟩
theorem dX4_added_40 : q_at cX4_added 40 (.iload_n 3) 1 41 := ⟨by decide +kernel, rfl⟩
theorem dX4_added_41 : q_at cX4_added 41 (.iastore) 1 42 := ⟨by decide +kernel, rfl⟩
theorem dX4_added_42 : q_at cX4_added 42 (.aload_n 0) 1 43 := ⟨by decide +kernel, rfl⟩
theorem dX4_added_43 : q_at cX4_added 43 (.dup) 1 44 := ⟨by decide +kernel, rfl⟩
theorem dX4_added_44 : q_at cX4_added 44 (.getfield 33) 3 47 := ⟨by decide +kernel, rfl⟩
theorem dX4_added_47 : q_at cX4_added 47 (.iconst 1) 1 48 := ⟨by decide +kernel, rfl⟩
theorem dX4_added_48 : q_at cX4_added 48 (.iadd) 1 49 := ⟨by decide +kernel, rfl⟩
theorem dX4_added_49 : q_at cX4_added 49 (.putfield 33) 3 52 := ⟨by decide +kernel, rfl⟩
theorem dX4_added_52 : q_at cX4_added 52 (.aload_n 0) 1 53 := ⟨by decide +kernel, rfl⟩
theorem dX4_added_53 : q_at cX4_added 53 (.getfield 33) 3 56 := ⟨by decide +kernel, rfl⟩
theorem dX4_added_56 : q_at cX4_added 56 (.iconst 1) 1 57 := ⟨by decide +kernel, rfl⟩
theorem dX4_added_57 : q_at cX4_added 57 (.isub) 1 58 := ⟨by decide +kernel, rfl⟩
theorem dX4_added_58 : q_at cX4_added 58 (.ireturn) 1 59 := ⟨by decide +kernel, rfl⟩
theorem dX4_become_0 : q_at cX4_become 0 (.aload_n 1) 1 1 := ⟨by decide +kernel, rfl⟩
theorem dX4_become_1 : q_at cX4_become 1 (.getfield 11) 3 4 := ⟨by decide +kernel, rfl⟩
theorem dX4_become_4 : q_at cX4_become 4 (.iconst 0) 1 5 := ⟨by decide +kernel, rfl⟩
theorem dX4_become_5 : q_at cX4_become 5 (.aload_n 0) 1 6 := ⟨by decide +kernel, rfl⟩
theorem dX4_become_6 : q_at cX4_become 6 (.getfield 11) 3 9 := ⟨by decide +kernel, rfl⟩
theorem dX4_become_9 : q_at cX4_become 9 (.iconst 0) 1 10 := ⟨by decide +kernel, rfl⟩
theorem dX4_become_10 : q_at cX4_become 10 (.bipush 8) 2 12 := ⟨by decide +kernel, rfl⟩
theorem dX4_become_12 : q_at cX4_become 12 (.invokestatic 38) 3 15 := ⟨by decide +kernel, rfl⟩
theorem dX4_become_15 : q_at cX4_become 15 (.aload_n 1) 1 16 := ⟨by decide +kernel, rfl⟩
theorem dX4_become_16 : q_at cX4_become 16 (.getfield 15) 3 19 := ⟨by decide +kernel, rfl⟩
theorem dX4_become_19 : q_at cX4_become 19 (.iconst 0) 1 20 := ⟨by decide +kernel, rfl⟩
theorem dX4_become_20 : q_at cX4_become 20 (.aload_n 0) 1 21 := ⟨by decide +kernel, rfl⟩
theorem dX4_become_21 : q_at cX4_become 21 (.getfield 15) 3 24 := ⟨by decide +kernel, rfl⟩
theorem dX4_become_24 : q_at cX4_become 24 (.iconst 0) 1 25 := ⟨by decide +kernel, rfl⟩
theorem dX4_become_25 : q_at cX4_become 25 (.bipush 8) 2 27 := ⟨by decide +kernel, rfl⟩
theorem dX4_become_27 : q_at cX4_become 27 (.invokestatic 38) 3 30 := ⟨by decide +kernel, rfl⟩
theorem dX4_become_30 : q_at cX4_become 30 (.aload_n 1) 1 31 := ⟨by decide +kernel, rfl⟩
theorem dX4_become_31 : q_at cX4_become 31 (.getfield 18) 3 34 := ⟨by decide +kernel, rfl⟩
theorem dX4_become_34 : q_at cX4_become 34 (.iconst 0) 1 35 := ⟨by decide +kernel, rfl⟩
theorem dX4_become_35 : q_at cX4_become 35 (.aload_n 0) 1 36 := ⟨by decide +kernel, rfl⟩
theorem dX4_become_36 : q_at cX4_become 36 (.getfield 18) 3 39 := ⟨by decide +kernel, rfl⟩
theorem dX4_become_39 : q_at cX4_become 39 (.iconst 0) 1 40 := ⟨by decide +kernel, rfl⟩
theorem dX4_become_40 : q_at cX4_become 40 (.bipush 8) 2 42 := ⟨by decide +kernel, rfl⟩
theorem dX4_become_42 : q_at cX4_become 42 (.invokestatic 38) 3 45 := ⟨by decide +kernel, rfl⟩
theorem dX4_become_45 : q_at cX4_become 45 (.aload_n 0) 1 46 := ⟨by decide +kernel, rfl⟩
theorem dX4_become_46 : q_at cX4_become 46 (.aload_n 1) 1 47 := ⟨by decide +kernel, rfl⟩
theorem dX4_become_47 : q_at cX4_become 47 (.getfield 33) 3 50 := ⟨by decide +kernel, rfl⟩
theorem dX4_become_50 : q_at cX4_become 50 (.putfield 33) 3 53 := ⟨by decide +kernel, rfl⟩
theorem dX4_become_53 : q_at cX4_become 53 (.return_) 1 54 := ⟨by decide +kernel, rfl⟩
theorem dX4_keepOrder_0 : q_at cX4_keepOrder 0 (.aload_n 0) 1 1 := ⟨by decide +kernel, rfl⟩
theorem dX4_keepOrder_1 : q_at cX4_keepOrder 1 (.iload_n 1) 1 2 := ⟨by decide +kernel, rfl⟩
theorem dX4_keepOrder_2 : q_at cX4_keepOrder 2 (.putfield 44) 3 5 := ⟨by decide +kernel, rfl⟩
theorem dX4_keepOrder_5 : q_at cX4_keepOrder 5 (.aload_n 0) 1 6 := ⟨by decide +kernel, rfl⟩
theorem dX4_keepOrder_6 : q_at cX4_keepOrder 6 (.getfield 21) 3 9 := ⟨by decide +kernel, rfl⟩
theorem dX4_keepOrder_9 : q_at cX4_keepOrder 9 (.iconst 0) 1 10 := ⟨by decide +kernel, rfl⟩
theorem dX4_keepOrder_10 : q_at cX4_keepOrder 10 (.aload_n 0) 1 11 := ⟨by decide +kernel, rfl⟩
theorem dX4_keepOrder_11 : q_at cX4_keepOrder 11 (.getfield 27) 3 14 := ⟨by decide +kernel, rfl⟩
theorem dX4_keepOrder_14 : q_at cX4_keepOrder 14 (.iconst 0) 1 15 := ⟨by decide +kernel, rfl⟩
theorem dX4_keepOrder_15 : q_at cX4_keepOrder 15 (.aload_n 0) 1 16 := ⟨by decide +kernel, rfl⟩
theorem dX4_keepOrder_16 : q_at cX4_keepOrder 16 (.getfield 33) 3 19 := ⟨by decide +kernel, rfl⟩
theorem dX4_keepOrder_19 : q_at cX4_keepOrder 19 (.invokestatic 38) 3 22 := ⟨by decide +kernel, rfl⟩
theorem dX4_keepOrder_22 : q_at cX4_keepOrder 22 (.aload_n 0) 1 23 := ⟨by decide +kernel, rfl⟩
theorem dX4_keepOrder_23 : q_at cX4_keepOrder 23 (.getfield 24) 3 26 := ⟨by decide +kernel, rfl⟩
theorem dX4_keepOrder_26 : q_at cX4_keepOrder 26 (.iconst 0) 1 27 := ⟨by decide +kernel, rfl⟩
theorem dX4_keepOrder_27 : q_at cX4_keepOrder 27 (.aload_n 0) 1 28 := ⟨by decide +kernel, rfl⟩
theorem dX4_keepOrder_28 : q_at cX4_keepOrder 28 (.getfield 30) 3 31 := ⟨by decide +kernel, rfl⟩
theorem dX4_keepOrder_31 : q_at cX4_keepOrder 31 (.iconst 0) 1 32 := ⟨by decide +kernel, rfl⟩
theorem dX4_keepOrder_32 : q_at cX4_keepOrder 32 (.aload_n 0) 1 33 := ⟨by decide +kernel, rfl⟩
theorem dX4_keepOrder_33 : q_at cX4_keepOrder 33 (.getfield 33) 3 36 := ⟨by decide +kernel, rfl⟩
theorem dX4_keepOrder_36 : q_at cX4_keepOrder 36 (.invokestatic 38) 3 39 := ⟨by decide +kernel, rfl⟩
theorem dX4_keepOrder_39 : q_at cX4_keepOrder 39 (.return_) 1 40 := ⟨by decide +kernel, rfl⟩
theorem dX4_weeksTill_0 : q_at cX4_weeksTill 0 (.iload_n 0) 1 1 := ⟨by decide +kernel, rfl⟩
theorem dX4_weeksTill_1 : q_at cX4_weeksTill 1 (.ifCond .gt 5) 3 4 := ⟨by decide +kernel, rfl⟩
theorem dX4_weeksTill_4 : q_at cX4_weeksTill 4 (.iconst 0) 1 5 := ⟨by decide +kernel, rfl⟩
theorem dX4_weeksTill_5 : q_at cX4_weeksTill 5 (.ireturn) 1 6 := ⟨by decide +kernel, rfl⟩
theorem dX4_weeksTill_6 : q_at cX4_weeksTill 6 (.iload_n 1) 1 7 := ⟨by decide +kernel, rfl⟩
theorem dX4_weeksTill_7 : q_at cX4_weeksTill 7 (.ifCond .gt 9) 3 10 := ⟨by decide +kernel, rfl⟩
theorem dX4_weeksTill_10 : q_at cX4_weeksTill 10 (.sipush 1000) 3 13 := ⟨by decide +kernel, rfl⟩
theorem dX4_weeksTill_13 : q_at cX4_weeksTill 13 (.goto 10) 3 16 := ⟨by decide +kernel, rfl⟩
theorem dX4_weeksTill_16 : q_at cX4_weeksTill 16 (.iload_n 0) 1 17 := ⟨by decide +kernel, rfl⟩
theorem dX4_weeksTill_17 : q_at cX4_weeksTill 17 (.iload_n 1) 1 18 := ⟨by decide +kernel, rfl⟩
theorem dX4_weeksTill_18 : q_at cX4_weeksTill 18 (.iadd) 1 19 := ⟨by decide +kernel, rfl⟩
theorem dX4_weeksTill_19 : q_at cX4_weeksTill 19 (.iconst 1) 1 20 := ⟨by decide +kernel, rfl⟩
theorem dX4_weeksTill_20 : q_at cX4_weeksTill 20 (.isub) 1 21 := ⟨by decide +kernel, rfl⟩
theorem dX4_weeksTill_21 : q_at cX4_weeksTill 21 (.iload_n 1) 1 22 := ⟨by decide +kernel, rfl⟩
theorem dX4_weeksTill_22 : q_at cX4_weeksTill 22 (.idiv) 1 23 := ⟨by decide +kernel, rfl⟩
theorem dX4_weeksTill_23 : q_at cX4_weeksTill 23 (.ireturn) 1 24 := ⟨by decide +kernel, rfl⟩
theorem dX5_emit_0 : q_at cX5_emit 0 (.aload_n 0) 1 1 := ⟨by decide +kernel, rfl⟩
theorem dX5_emit_1 : q_at cX5_emit 1 (.getfield 20) 3 4 := ⟨by decide +kernel, rfl⟩
theorem dX5_emit_4 : q_at cX5_emit 4 (.aload_n 0) 1 5 := ⟨by decide +kernel, rfl⟩
theorem dX5_emit_5 : q_at cX5_emit 5 (.getfield 13) 3 8 := ⟨by decide +kernel, rfl⟩
theorem dX5_emit_8 : q_at cX5_emit 8 (.arraylength) 1 9 := ⟨by decide +kernel, rfl⟩
theorem dX5_emit_9 : q_at cX5_emit 9 (.if_icmp .lt 4) 3 12 := ⟨by decide +kernel, rfl⟩
theorem dX5_emit_12 : q_at cX5_emit 12 (.return_) 1 13 := ⟨by decide +kernel, rfl⟩
theorem dX5_emit_13 : q_at cX5_emit 13 (.aload_n 0) 1 14 := ⟨by decide +kernel, rfl⟩
theorem dX5_emit_14 : q_at cX5_emit 14 (.getfield 13) 3 17 := ⟨by decide +kernel, rfl⟩
theorem dX5_emit_17 : q_at cX5_emit 17 (.aload_n 0) 1 18 := ⟨by decide +kernel, rfl⟩
theorem dX5_emit_18 : q_at cX5_emit 18 (.getfield 20) 3 21 := ⟨by decide +kernel, rfl⟩
theorem dX5_emit_21 : q_at cX5_emit 21 (.iload_n 1) 1 22 := ⟨by decide +kernel, rfl⟩
theorem dX5_emit_22 : q_at cX5_emit 22 (.iastore) 1 23 := ⟨by decide +kernel, rfl⟩
theorem dX5_emit_23 : q_at cX5_emit 23 (.aload_n 0) 1 24 := ⟨by decide +kernel, rfl⟩
theorem dX5_emit_24 : q_at cX5_emit 24 (.dup) 1 25 := ⟨by decide +kernel, rfl⟩
theorem dX5_emit_25 : q_at cX5_emit 25 (.getfield 20) 3 28 := ⟨by decide +kernel, rfl⟩
theorem dX5_emit_28 : q_at cX5_emit 28 (.iconst 1) 1 29 := ⟨by decide +kernel, rfl⟩
theorem dX5_emit_29 : q_at cX5_emit 29 (.iadd) 1 30 := ⟨by decide +kernel, rfl⟩
theorem dX5_emit_30 : q_at cX5_emit 30 (.putfield 20) 3 33 := ⟨by decide +kernel, rfl⟩
theorem dX5_emit_33 : q_at cX5_emit 33 (.return_) 1 34 := ⟨by decide +kernel, rfl⟩
theorem dX5_isDigit_0 : q_at cX5_isDigit 0 (.iload_n 0) 1 1 := ⟨by decide +kernel, rfl⟩
theorem dX5_isDigit_1 : q_at cX5_isDigit 1 (.bipush 48) 2 3 := ⟨by decide +kernel, rfl⟩
theorem dX5_isDigit_3 : q_at cX5_isDigit 3 (.if_icmp .lt 13) 3 6 := ⟨by decide +kernel, rfl⟩
theorem dX5_isDigit_6 : q_at cX5_isDigit 6 (.iload_n 0) 1 7 := ⟨by decide +kernel, rfl⟩
theorem dX5_isDigit_7 : q_at cX5_isDigit 7 (.bipush 57) 2 9 := ⟨by decide +kernel, rfl⟩
theorem dX5_isDigit_9 : q_at cX5_isDigit 9 (.if_icmp .gt 7) 3 12 := ⟨by decide +kernel, rfl⟩
theorem dX5_isDigit_12 : q_at cX5_isDigit 12 (.iconst 1) 1 13 := ⟨by decide +kernel, rfl⟩
theorem dX5_isDigit_13 : q_at cX5_isDigit 13 (.goto 4) 3 16 := ⟨by decide +kernel, rfl⟩
theorem dX5_isDigit_16 : q_at cX5_isDigit 16 (.iconst 0) 1 17 := ⟨by decide +kernel, rfl⟩
theorem dX5_isDigit_17 : q_at cX5_isDigit 17 (.ireturn) 1 18 := ⟨by decide +kernel, rfl⟩
theorem dX5_isLetter_0 : q_at cX5_isLetter 0 (.iload_n 0) 1 1 := ⟨by decide +kernel, rfl⟩
theorem dX5_isLetter_1 : q_at cX5_isLetter 1 (.bipush 97) 2 3 := ⟨by decide +kernel, rfl⟩
theorem dX5_isLetter_3 : q_at cX5_isLetter 3 (.if_icmp .lt 13) 3 6 := ⟨by decide +kernel, rfl⟩
theorem dX5_isLetter_6 : q_at cX5_isLetter 6 (.iload_n 0) 1 7 := ⟨by decide +kernel, rfl⟩
theorem dX5_isLetter_7 : q_at cX5_isLetter 7 (.bipush 122) 2 9 := ⟨by decide +kernel, rfl⟩
theorem dX5_isLetter_9 : q_at cX5_isLetter 9 (.if_icmp .gt 7) 3 12 := ⟨by decide +kernel, rfl⟩
theorem dX5_isLetter_12 : q_at cX5_isLetter 12 (.iconst 1) 1 13 := ⟨by decide +kernel, rfl⟩
theorem dX5_isLetter_13 : q_at cX5_isLetter 13 (.goto 4) 3 16 := ⟨by decide +kernel, rfl⟩
theorem dX5_isLetter_16 : q_at cX5_isLetter 16 (.iconst 0) 1 17 := ⟨by decide +kernel, rfl⟩
theorem dX5_isLetter_17 : q_at cX5_isLetter 17 (.ireturn) 1 18 := ⟨by decide +kernel, rfl⟩
theorem dX5_isSign_0 : q_at cX5_isSign 0 (.aload_n 0) 1 1 := ⟨by decide +kernel, rfl⟩
theorem dX5_isSign_1 : q_at cX5_isSign 1 (.getfield 32) 3 4 := ⟨by decide +kernel, rfl⟩
theorem dX5_isSign_4 : q_at cX5_isSign 4 (.iconst 3) 1 5 := ⟨by decide +kernel, rfl⟩
theorem dX5_isSign_5 : q_at cX5_isSign 5 (.if_icmp .ne 20) 3 8 := ⟨by decide +kernel, rfl⟩
theorem dX5_isSign_8 : q_at cX5_isSign 8 (.aload_n 0) 1 9 := ⟨by decide +kernel, rfl⟩
theorem dX5_isSign_9 : q_at cX5_isSign 9 (.getfield 9) 3 12 := ⟨by decide +kernel, rfl⟩
theorem dX5_isSign_12 : q_at cX5_isSign 12 (.aload_n 0) 1 13 := ⟨by decide +kernel, rfl⟩
theorem dX5_isSign_13 : q_at cX5_isSign 13 (.getfield 48) 3 16 := ⟨by decide +kernel, rfl⟩
theorem dX5_isSign_16 : q_at cX5_isSign 16 (.iaload) 1 17 := ⟨by decide +kernel, rfl⟩
theorem dX5_isSign_17 : q_at cX5_isSign 17 (.iload_n 1) 1 18 := ⟨by decide +kernel, rfl⟩
theorem dX5_isSign_18 : q_at cX5_isSign 18 (.if_icmp .ne 7) 3 21 := ⟨by decide +kernel, rfl⟩
theorem dX5_isSign_21 : q_at cX5_isSign 21 (.iconst 1) 1 22 := ⟨by decide +kernel, rfl⟩
theorem dX5_isSign_22 : q_at cX5_isSign 22 (.goto 4) 3 25 := ⟨by decide +kernel, rfl⟩
theorem dX5_isSign_25 : q_at cX5_isSign 25 (.iconst 0) 1 26 := ⟨by decide +kernel, rfl⟩
theorem dX5_isSign_26 : q_at cX5_isSign 26 (.ireturn) 1 27 := ⟨by decide +kernel, rfl⟩
theorem dX5_number_0 : q_at cX5_number 0 (.iconst 0) 1 1 := ⟨by decide +kernel, rfl⟩
theorem dX5_number_1 : q_at cX5_number 1 (.istore_n 1) 1 2 := ⟨by decide +kernel, rfl⟩
theorem dX5_number_2 : q_at cX5_number 2 (.aload_n 0) 1 3 := ⟨by decide +kernel, rfl⟩
theorem dX5_number_3 : q_at cX5_number 3 (.getfield 48) 3 6 := ⟨by decide +kernel, rfl⟩
theorem dX5_number_6 : q_at cX5_number 6 (.istore_n 2) 1 7 := ⟨by decide +kernel, rfl⟩
theorem dX5_number_7 : q_at cX5_number 7 (.iload_n 2) 1 8 := ⟨by decide +kernel, rfl⟩
theorem dX5_number_8 : q_at cX5_number 8 (.aload_n 0) 1 9 := ⟨by decide +kernel, rfl⟩
theorem dX5_number_9 : q_at cX5_number 9 (.getfield 35) 3 12 := ⟨by decide +kernel, rfl⟩
theorem dX5_number_12 : q_at cX5_number 12 (.if_icmp .ge 24) 3 15 := ⟨by decide +kernel, rfl⟩
theorem dX5_number_15 : q_at cX5_number 15 (.iload_n 1) 1 16 := ⟨by decide +kernel, rfl⟩
theorem dX5_number_16 : q_at cX5_number 16 (.bipush 10) 2 18 := ⟨by decide +kernel, rfl⟩
theorem dX5_number_18 : q_at cX5_number 18 (.imul) 1 19 := ⟨by decide +kernel, rfl⟩
theorem dX5_number_19 : q_at cX5_number 19 (.aload_n 0) 1 20 := ⟨by decide +kernel, rfl⟩
theorem dX5_number_20 : q_at cX5_number 20 (.getfield 9) 3 23 := ⟨by decide +kernel, rfl⟩
theorem dX5_number_23 : q_at cX5_number 23 (.iload_n 2) 1 24 := ⟨by decide +kernel, rfl⟩
theorem dX5_number_24 : q_at cX5_number 24 (.iaload) 1 25 := ⟨by decide +kernel, rfl⟩
theorem dX5_number_25 : q_at cX5_number 25 (.iadd) 1 26 := ⟨by decide +kernel, rfl⟩
theorem dX5_number_26 : q_at cX5_number 26 (.bipush 48) 2 28 := ⟨by decide +kernel, rfl⟩
theorem dX5_number_28 : q_at cX5_number 28 (.isub) 1 29 := ⟨by decide +kernel, rfl⟩
theorem dX5_number_29 : q_at cX5_number 29 (.istore_n 1) 1 30 := ⟨by decide +kernel, rfl⟩
theorem dX5_number_30 : q_at cX5_number 30 (.iinc 2 1) 3 33 := ⟨by decide +kernel, rfl⟩
theorem dX5_number_33 : q_at cX5_number 33 (.goto (-26)) 3 36 := ⟨by decide +kernel, rfl⟩
theorem dX5_number_36 : q_at cX5_number 36 (.iload_n 1) 1 37 := ⟨by decide +kernel, rfl⟩
theorem dX5_number_37 : q_at cX5_number 37 (.ireturn) 1 38 := ⟨by decide +kernel, rfl⟩
theorem dX5_put_0 : q_at cX5_put 0 (.bipush 24) 2 2 := ⟨by decide +kernel, rfl⟩
theorem dX5_put_2 : q_at cX5_put 2 (.istore_n 2) 1 3 := ⟨by decide +kernel, rfl⟩
theorem dX5_put_3 : q_at cX5_put 3 (.iload_n 2) 1 4 := ⟨by decide +kernel, rfl⟩
theorem dX5_put_4 : q_at cX5_put 4 (.ifCond .lt 45) 3 7 := ⟨by decide +kernel, rfl⟩
theorem dX5_put_7 : q_at cX5_put 7 (.aload_n 0) 1 8 := ⟨by decide +kernel, rfl⟩
theorem dX5_put_8 : q_at cX5_put 8 (.getfield 16) 3 11 := ⟨by decide +kernel, rfl⟩
theorem dX5_put_11 : q_at cX5_put 11 (.bipush 96) 2 13 := ⟨by decide +kernel, rfl⟩
theorem dX5_put_13 : q_at cX5_put 13 (.if_icmp .lt 4) 3 16 := ⟨by decide +kernel, rfl⟩
theorem dX5_put_16 : q_at cX5_put 16 (.return_) 1 17 := ⟨by decide +kernel, rfl⟩
theorem dX5_put_17 : q_at cX5_put 17 (.aload_n 0) 1 18 := ⟨by decide +kernel, rfl⟩
theorem dX5_put_18 : q_at cX5_put 18 (.getfield 9) 3 21 := ⟨by decide +kernel, rfl⟩
theorem dX5_put_21 : q_at cX5_put 21 (.aload_n 0) 1 22 := ⟨by decide +kernel, rfl⟩
theorem dX5_put_22 : q_at cX5_put 22 (.getfield 16) 3 25 := ⟨by decide +kernel, rfl⟩
theorem dX5_put_25 : q_at cX5_put 25 (.iload_n 1) 1 26 := ⟨by decide +kernel, rfl⟩
theorem dX5_put_26 : q_at cX5_put 26 (.iload_n 2) 1 27 := ⟨by decide +kernel, rfl⟩
theorem dX5_put_27 : q_at cX5_put 27 (.ishr) 1 28 := ⟨by decide +kernel, rfl⟩
theorem dX5_put_28 : q_at cX5_put 28 (.sipush 255) 3 31 := ⟨by decide +kernel, rfl⟩
theorem dX5_put_31 : q_at cX5_put 31 (.iand) 1 32 := ⟨by decide +kernel, rfl⟩
theorem dX5_put_32 : q_at cX5_put 32 (.iastore) 1 33 := ⟨by decide +kernel, rfl⟩
theorem dX5_put_33 : q_at cX5_put 33 (.aload_n 0) 1 34 := ⟨by decide +kernel, rfl⟩
theorem dX5_put_34 : q_at cX5_put 34 (.dup) 1 35 := ⟨by decide +kernel, rfl⟩
theorem dX5_put_35 : q_at cX5_put 35 (.getfield 16) 3 38 := ⟨by decide +kernel, rfl⟩
theorem dX5_put_38 : q_at cX5_put 38 (.iconst 1) 1 39 := ⟨by decide +kernel, rfl⟩
theorem dX5_put_39 : q_at cX5_put 39 (.iadd) 1 40 := ⟨by decide +kernel, rfl⟩
theorem dX5_put_40 : q_at cX5_put 40 (.putfield 16) 3 43 := ⟨by decide +kernel, rfl⟩
theorem dX5_put_43 : q_at cX5_put 43 (.iinc 2 (-8)) 3 46 := ⟨by decide +kernel, rfl⟩
theorem dX5_put_46 : q_at cX5_put 46 (.goto (-43)) 3 49 := ⟨by decide +kernel, rfl⟩
theorem dX5_put_49 : q_at cX5_put 49 (.return_) 1 50 := ⟨by decide +kernel, rfl⟩
theorem dX6_added_0 : q_at cX6_added 0 (.aload_n 0) 1 1 := ⟨by decide +kernel, rfl⟩
theorem dX6_added_1 : q_at cX6_added 1 (.getfield 33) 3 4 := ⟨by decide +kernel, rfl⟩
theorem dX6_added_4 : q_at cX6_added 4 (.bipush 16) 2 6 := ⟨by decide +kernel, rfl⟩
theorem dX6_added_6 : q_at cX6_added 6 (.if_icmp .lt 6) 3 9 := ⟨by decide +kernel, rfl⟩
theorem dX6_added_9 : q_at cX6_added 9 (.ldc 37) 2 11 := ⟨by decide +kernel, rfl⟩
theorem dX6_added_11 : q_at cX6_added 11 (.ireturn) 1 12 := ⟨by decide +kernel, rfl⟩
theorem dX6_added_12 : q_at cX6_added 12 (.aload_n 0) 1 13 := ⟨by decide +kernel, rfl⟩
theorem dX6_added_13 : q_at cX6_added 13 (.getfield 11) 3 16 := ⟨by decide +kernel, rfl⟩
theorem dX6_added_16 : q_at cX6_added 16 (.aload_n 0) 1 17 := ⟨by decide +kernel, rfl⟩
theorem dX6_added_17 : q_at cX6_added 17 (.getfield 33) 3 20 := ⟨by decide +kernel, rfl⟩
theorem dX6_added_20 : q_at cX6_added 20 (.iload_n 1) 1 21 := ⟨by decide +kernel, rfl⟩
theorem dX6_added_21 : q_at cX6_added 21 (.iastore) 1 22 := ⟨by decide +kernel, rfl⟩
theorem dX6_added_22 : q_at cX6_added 22 (.aload_n 0) 1 23 := ⟨by decide +kernel, rfl⟩
theorem dX6_added_23 : q_at cX6_added 23 (.getfield 15) 3 26 := ⟨by decide +kernel, rfl⟩
theorem dX6_added_26 : q_at cX6_added 26 (.aload_n 0) 1 27 := ⟨by decide +kernel, rfl⟩
theorem dX6_added_27 : q_at cX6_added 27 (.getfield 33) 3 30 := ⟨by decide +kernel, rfl⟩
theorem dX6_added_30 : q_at cX6_added 30 (.iload_n 2) 1 31 := ⟨by decide +kernel, rfl⟩
theorem dX6_added_31 : q_at cX6_added 31 (.iastore) 1 32 := ⟨by decide +kernel, rfl⟩
theorem dX6_added_32 : q_at cX6_added 32 (.aload_n 0) 1 33 := ⟨by decide +kernel, rfl⟩
theorem dX6_added_33 : q_at cX6_added 33 (.getfield 18) 3 36 := ⟨by decide +kernel, rfl⟩
theorem dX6_added_36 : q_at cX6_added 36 (.aload_n 0) 1 37 := ⟨by decide +kernel, rfl⟩
theorem dX6_added_37 : q_at cX6_added 37 (.getfield 33) 3 40 := ⟨by decide +kernel, rfl⟩
theorem dX6_added_40 : q_at cX6_added 40 (.iload_n 3) 1 41 := ⟨by decide +kernel, rfl⟩
theorem dX6_added_41 : q_at cX6_added 41 (.iastore) 1 42 := ⟨by decide +kernel, rfl⟩
theorem dX6_added_42 : q_at cX6_added 42 (.aload_n 0) 1 43 := ⟨by decide +kernel, rfl⟩
theorem dX6_added_43 : q_at cX6_added 43 (.dup) 1 44 := ⟨by decide +kernel, rfl⟩
theorem dX6_added_44 : q_at cX6_added 44 (.getfield 33) 3 47 := ⟨by decide +kernel, rfl⟩
theorem dX6_added_47 : q_at cX6_added 47 (.iconst 1) 1 48 := ⟨by decide +kernel, rfl⟩
theorem dX6_added_48 : q_at cX6_added 48 (.iadd) 1 49 := ⟨by decide +kernel, rfl⟩
theorem dX6_added_49 : q_at cX6_added 49 (.putfield 33) 3 52 := ⟨by decide +kernel, rfl⟩
theorem dX6_added_52 : q_at cX6_added 52 (.aload_n 0) 1 53 := ⟨by decide +kernel, rfl⟩
theorem dX6_added_53 : q_at cX6_added 53 (.getfield 33) 3 56 := ⟨by decide +kernel, rfl⟩
theorem dX6_added_56 : q_at cX6_added 56 (.iconst 1) 1 57 := ⟨by decide +kernel, rfl⟩
theorem dX6_added_57 : q_at cX6_added 57 (.isub) 1 58 := ⟨by decide +kernel, rfl⟩
theorem dX6_added_58 : q_at cX6_added 58 (.ireturn) 1 59 := ⟨by decide +kernel, rfl⟩
theorem dX6_become_0 : q_at cX6_become 0 (.aload_n 1) 1 1 := ⟨by decide +kernel, rfl⟩
theorem dX6_become_1 : q_at cX6_become 1 (.getfield 11) 3 4 := ⟨by decide +kernel, rfl⟩
theorem dX6_become_4 : q_at cX6_become 4 (.iconst 0) 1 5 := ⟨by decide +kernel, rfl⟩
theorem dX6_become_5 : q_at cX6_become 5 (.aload_n 0) 1 6 := ⟨by decide +kernel, rfl⟩
theorem dX6_become_6 : q_at cX6_become 6 (.getfield 11) 3 9 := ⟨by decide +kernel, rfl⟩
theorem dX6_become_9 : q_at cX6_become 9 (.iconst 0) 1 10 := ⟨by decide +kernel, rfl⟩
theorem dX6_become_10 : q_at cX6_become 10 (.bipush 16) 2 12 := ⟨by decide +kernel, rfl⟩
theorem dX6_become_12 : q_at cX6_become 12 (.invokestatic 38) 3 15 := ⟨by decide +kernel, rfl⟩
theorem dX6_become_15 : q_at cX6_become 15 (.aload_n 1) 1 16 := ⟨by decide +kernel, rfl⟩
theorem dX6_become_16 : q_at cX6_become 16 (.getfield 15) 3 19 := ⟨by decide +kernel, rfl⟩
theorem dX6_become_19 : q_at cX6_become 19 (.iconst 0) 1 20 := ⟨by decide +kernel, rfl⟩
theorem dX6_become_20 : q_at cX6_become 20 (.aload_n 0) 1 21 := ⟨by decide +kernel, rfl⟩
theorem dX6_become_21 : q_at cX6_become 21 (.getfield 15) 3 24 := ⟨by decide +kernel, rfl⟩
theorem dX6_become_24 : q_at cX6_become 24 (.iconst 0) 1 25 := ⟨by decide +kernel, rfl⟩
theorem dX6_become_25 : q_at cX6_become 25 (.bipush 16) 2 27 := ⟨by decide +kernel, rfl⟩
theorem dX6_become_27 : q_at cX6_become 27 (.invokestatic 38) 3 30 := ⟨by decide +kernel, rfl⟩
theorem dX6_become_30 : q_at cX6_become 30 (.aload_n 1) 1 31 := ⟨by decide +kernel, rfl⟩
theorem dX6_become_31 : q_at cX6_become 31 (.getfield 18) 3 34 := ⟨by decide +kernel, rfl⟩
theorem dX6_become_34 : q_at cX6_become 34 (.iconst 0) 1 35 := ⟨by decide +kernel, rfl⟩
theorem dX6_become_35 : q_at cX6_become 35 (.aload_n 0) 1 36 := ⟨by decide +kernel, rfl⟩
theorem dX6_become_36 : q_at cX6_become 36 (.getfield 18) 3 39 := ⟨by decide +kernel, rfl⟩
theorem dX6_become_39 : q_at cX6_become 39 (.iconst 0) 1 40 := ⟨by decide +kernel, rfl⟩
theorem dX6_become_40 : q_at cX6_become 40 (.bipush 16) 2 42 := ⟨by decide +kernel, rfl⟩
theorem dX6_become_42 : q_at cX6_become 42 (.invokestatic 38) 3 45 := ⟨by decide +kernel, rfl⟩
theorem dX6_become_45 : q_at cX6_become 45 (.aload_n 0) 1 46 := ⟨by decide +kernel, rfl⟩
theorem dX6_become_46 : q_at cX6_become 46 (.aload_n 1) 1 47 := ⟨by decide +kernel, rfl⟩
theorem dX6_become_47 : q_at cX6_become 47 (.getfield 33) 3 50 := ⟨by decide +kernel, rfl⟩
theorem dX6_become_50 : q_at cX6_become 50 (.putfield 33) 3 53 := ⟨by decide +kernel, rfl⟩
theorem dX6_become_53 : q_at cX6_become 53 (.return_) 1 54 := ⟨by decide +kernel, rfl⟩
theorem dX7_counting_0 : q_at cX7_counting 0 (.iconst (-1)) 1 1 := ⟨by decide +kernel, rfl⟩
theorem dX7_counting_1 : q_at cX7_counting 1 (.istore_n 3) 1 2 := ⟨by decide +kernel, rfl⟩
theorem dX7_counting_2 : q_at cX7_counting 2 (.iconst 0) 1 3 := ⟨by decide +kernel, rfl⟩
theorem dX7_counting_3 : q_at cX7_counting 3 (.istore 4) 2 5 := ⟨by decide +kernel, rfl⟩
theorem dX7_counting_5 : q_at cX7_counting 5 (.iload 4) 2 7 := ⟨by decide +kernel, rfl⟩
theorem dX7_counting_7 : q_at cX7_counting 7 (.aload_n 0) 1 8 := ⟨by decide +kernel, rfl⟩
theorem dX7_counting_8 : q_at cX7_counting 8 (.getfield 31) 3 11 := ⟨by decide +kernel, rfl⟩
theorem dX7_counting_11 : q_at cX7_counting 11 (.if_icmp .ge 57) 3 14 := ⟨by decide +kernel, rfl⟩
theorem dX7_counting_14 : q_at cX7_counting 14 (.aload_n 0) 1 15 := ⟨by decide +kernel, rfl⟩
theorem dX7_counting_15 : q_at cX7_counting 15 (.getfield 11) 3 18 := ⟨by decide +kernel, rfl⟩
theorem dX7_counting_18 : q_at cX7_counting 18 (.iload 4) 2 20 := ⟨by decide +kernel, rfl⟩
theorem dX7_counting_20 : q_at cX7_counting 20 (.iaload) 1 21 := ⟨by decide +kernel, rfl⟩
theorem dX7_counting_21 : q_at cX7_counting 21 (.iload_n 1) 1 22 := ⟨by decide +kernel, rfl⟩
theorem dX7_counting_22 : q_at cX7_counting 22 (.if_icmp .ne 40) 3 25 := ⟨by decide +kernel, rfl⟩
theorem dX7_counting_25 : q_at cX7_counting 25 (.aload_n 0) 1 26 := ⟨by decide +kernel, rfl⟩
theorem dX7_counting_26 : q_at cX7_counting 26 (.getfield 15) 3 29 := ⟨by decide +kernel, rfl⟩
theorem dX7_counting_29 : q_at cX7_counting 29 (.iload 4) 2 31 := ⟨by decide +kernel, rfl⟩
theorem dX7_counting_31 : q_at cX7_counting 31 (.iaload) 1 32 := ⟨by decide +kernel, rfl⟩
theorem dX7_counting_32 : q_at cX7_counting 32 (.iload_n 2) 1 33 := ⟨by decide +kernel, rfl⟩
theorem dX7_counting_33 : q_at cX7_counting 33 (.if_icmp .le 6) 3 36 := ⟨by decide +kernel, rfl⟩
theorem dX7_counting_36 : q_at cX7_counting 36 (.goto 26) 3 39 := ⟨by decide +kernel, rfl⟩
theorem dX7_counting_39 : q_at cX7_counting 39 (.iload_n 3) 1 40 := ⟨by decide +kernel, rfl⟩
theorem dX7_counting_40 : q_at cX7_counting 40 (.ifCond .lt 19) 3 43 := ⟨by decide +kernel, rfl⟩
theorem dX7_counting_43 : q_at cX7_counting 43 (.aload_n 0) 1 44 := ⟨by decide +kernel, rfl⟩
theorem dX7_counting_44 : q_at cX7_counting 44 (.getfield 15) 3 47 := ⟨by decide +kernel, rfl⟩
theorem dX7_counting_47 : q_at cX7_counting 47 (.iload 4) 2 49 := ⟨by decide +kernel, rfl⟩
theorem dX7_counting_49 : q_at cX7_counting 49 (.iaload) 1 50 := ⟨by decide +kernel, rfl⟩
theorem dX7_counting_50 : q_at cX7_counting 50 (.aload_n 0) 1 51 := ⟨by decide +kernel, rfl⟩
theorem dX7_counting_51 : q_at cX7_counting 51 (.getfield 15) 3 54 := ⟨by decide +kernel, rfl⟩
theorem dX7_counting_54 : q_at cX7_counting 54 (.iload_n 3) 1 55 := ⟨by decide +kernel, rfl⟩
theorem dX7_counting_55 : q_at cX7_counting 55 (.iaload) 1 56 := ⟨by decide +kernel, rfl⟩
theorem dX7_counting_56 : q_at cX7_counting 56 (.if_icmp .lt 6) 3 59 := ⟨by decide +kernel, rfl⟩
theorem dX7_counting_59 : q_at cX7_counting 59 (.iload 4) 2 61 := ⟨by decide +kernel, rfl⟩
theorem dX7_counting_61 : q_at cX7_counting 61 (.istore_n 3) 1 62 := ⟨by decide +kernel, rfl⟩
theorem dX7_counting_62 : q_at cX7_counting 62 (.iinc 4 1) 3 65 := ⟨by decide +kernel, rfl⟩
theorem dX7_counting_65 : q_at cX7_counting 65 (.goto (-60)) 3 68 := ⟨by decide +kernel, rfl⟩
theorem dX7_counting_68 : q_at cX7_counting 68 (.iload_n 3) 1 69 := ⟨by decide +kernel, rfl⟩
theorem dX7_counting_69 : q_at cX7_counting 69 (.ireturn) 1 70 := ⟨by decide +kernel, rfl⟩
theorem dX7_has_0 : q_at cX7_has 0 (.iload_n 1) 1 1 := ⟨by decide +kernel, rfl⟩
theorem dX7_has_1 : q_at cX7_has 1 (.ifCond .lt 15) 3 4 := ⟨by decide +kernel, rfl⟩
theorem dX7_has_4 : q_at cX7_has 4 (.iload_n 1) 1 5 := ⟨by decide +kernel, rfl⟩
theorem dX7_has_5 : q_at cX7_has 5 (.aload_n 0) 1 6 := ⟨by decide +kernel, rfl⟩
theorem dX7_has_6 : q_at cX7_has 6 (.getfield 31) 3 9 := ⟨by decide +kernel, rfl⟩
theorem dX7_has_9 : q_at cX7_has 9 (.if_icmp .ge 7) 3 12 := ⟨by decide +kernel, rfl⟩
theorem dX7_has_12 : q_at cX7_has 12 (.iconst 1) 1 13 := ⟨by decide +kernel, rfl⟩
theorem dX7_has_13 : q_at cX7_has 13 (.goto 4) 3 16 := ⟨by decide +kernel, rfl⟩
theorem dX7_has_16 : q_at cX7_has 16 (.iconst 0) 1 17 := ⟨by decide +kernel, rfl⟩
theorem dX7_has_17 : q_at cX7_has 17 (.ireturn) 1 18 := ⟨by decide +kernel, rfl⟩
theorem dX7_joined_0 : q_at cX7_joined 0 (.iload_n 0) 1 1 := ⟨by decide +kernel, rfl⟩
theorem dX7_joined_1 : q_at cX7_joined 1 (.lookupswitch 148 #[(38, 89), (42, 144), (43, 136), (45, 140), (60, 103), (61, 114), (62, 125), (124, 75)]) 75 76 := ⟨by decide +kernel, rfl⟩
theorem dX7_joined_76 : q_at cX7_joined 76 (.iload_n 1) 1 77 := ⟨by decide +kernel, rfl⟩
theorem dX7_joined_77 : q_at cX7_joined 77 (.ifCond .ne 7) 3 80 := ⟨by decide +kernel, rfl⟩
theorem dX7_joined_80 : q_at cX7_joined 80 (.iload_n 2) 1 81 := ⟨by decide +kernel, rfl⟩
theorem dX7_joined_81 : q_at cX7_joined 81 (.ifCond .eq 7) 3 84 := ⟨by decide +kernel, rfl⟩
theorem dX7_joined_84 : q_at cX7_joined 84 (.iconst 1) 1 85 := ⟨by decide +kernel, rfl⟩
theorem dX7_joined_85 : q_at cX7_joined 85 (.goto 4) 3 88 := ⟨by decide +kernel, rfl⟩
theorem dX7_joined_88 : q_at cX7_joined 88 (.iconst 0) 1 89 := ⟨by decide +kernel, rfl⟩
theorem dX7_joined_89 : q_at cX7_joined 89 (.ireturn) 1 90 := ⟨by decide +kernel, rfl⟩
theorem dX7_joined_90 : q_at cX7_joined 90 (.iload_n 1) 1 91 := ⟨by decide +kernel, rfl⟩
theorem dX7_joined_91 : q_at cX7_joined 91 (.ifCond .eq 11) 3 94 := ⟨by decide +kernel, rfl⟩
theorem dX7_joined_94 : q_at cX7_joined 94 (.iload_n 2) 1 95 := ⟨by decide +kernel, rfl⟩
theorem dX7_joined_95 : q_at cX7_joined 95 (.ifCond .eq 7) 3 98 := ⟨by decide +kernel, rfl⟩
theorem dX7_joined_98 : q_at cX7_joined 98 (.iconst 1) 1 99 := ⟨by decide +kernel, rfl⟩
theorem dX7_joined_99 : q_at cX7_joined 99 (.goto 4) 3 102 := ⟨by decide +kernel, rfl⟩
theorem dX7_joined_102 : q_at cX7_joined 102 (.iconst 0) 1 103 := ⟨by decide +kernel, rfl⟩
theorem dX7_joined_103 : q_at cX7_joined 103 (.ireturn) 1 104 := ⟨by decide +kernel, rfl⟩
theorem dX7_joined_104 : q_at cX7_joined 104 (.iload_n 1) 1 105 := ⟨by decide +kernel, rfl⟩
theorem dX7_joined_105 : q_at cX7_joined 105 (.iload_n 2) 1 106 := ⟨by decide +kernel, rfl⟩
theorem dX7_joined_106 : q_at cX7_joined 106 (.if_icmp .ge 7) 3 109 := ⟨by decide +kernel, rfl⟩
theorem dX7_joined_109 : q_at cX7_joined 109 (.iconst 1) 1 110 := ⟨by decide +kernel, rfl⟩
theorem dX7_joined_110 : q_at cX7_joined 110 (.goto 4) 3 113 := ⟨by decide +kernel, rfl⟩
theorem dX7_joined_113 : q_at cX7_joined 113 (.iconst 0) 1 114 := ⟨by decide +kernel, rfl⟩
theorem dX7_joined_114 : q_at cX7_joined 114 (.ireturn) 1 115 := ⟨by decide +kernel, rfl⟩
theorem dX7_joined_115 : q_at cX7_joined 115 (.iload_n 1) 1 116 := ⟨by decide +kernel, rfl⟩
theorem dX7_joined_116 : q_at cX7_joined 116 (.iload_n 2) 1 117 := ⟨by decide +kernel, rfl⟩
theorem dX7_joined_117 : q_at cX7_joined 117 (.if_icmp .ne 7) 3 120 := ⟨by decide +kernel, rfl⟩
theorem dX7_joined_120 : q_at cX7_joined 120 (.iconst 1) 1 121 := ⟨by decide +kernel, rfl⟩
theorem dX7_joined_121 : q_at cX7_joined 121 (.goto 4) 3 124 := ⟨by decide +kernel, rfl⟩
theorem dX7_joined_124 : q_at cX7_joined 124 (.iconst 0) 1 125 := ⟨by decide +kernel, rfl⟩
theorem dX7_joined_125 : q_at cX7_joined 125 (.ireturn) 1 126 := ⟨by decide +kernel, rfl⟩
theorem dX7_joined_126 : q_at cX7_joined 126 (.iload_n 1) 1 127 := ⟨by decide +kernel, rfl⟩
theorem dX7_joined_127 : q_at cX7_joined 127 (.iload_n 2) 1 128 := ⟨by decide +kernel, rfl⟩
theorem dX7_joined_128 : q_at cX7_joined 128 (.if_icmp .le 7) 3 131 := ⟨by decide +kernel, rfl⟩
theorem dX7_joined_131 : q_at cX7_joined 131 (.iconst 1) 1 132 := ⟨by decide +kernel, rfl⟩
theorem dX7_joined_132 : q_at cX7_joined 132 (.goto 4) 3 135 := ⟨by decide +kernel, rfl⟩
theorem dX7_joined_135 : q_at cX7_joined 135 (.iconst 0) 1 136 := ⟨by decide +kernel, rfl⟩
theorem dX7_joined_136 : q_at cX7_joined 136 (.ireturn) 1 137 := ⟨by decide +kernel, rfl⟩
theorem dX7_joined_137 : q_at cX7_joined 137 (.iload_n 1) 1 138 := ⟨by decide +kernel, rfl⟩
theorem dX7_joined_138 : q_at cX7_joined 138 (.iload_n 2) 1 139 := ⟨by decide +kernel, rfl⟩
theorem dX7_joined_139 : q_at cX7_joined 139 (.iadd) 1 140 := ⟨by decide +kernel, rfl⟩
theorem dX7_joined_140 : q_at cX7_joined 140 (.ireturn) 1 141 := ⟨by decide +kernel, rfl⟩
theorem dX7_joined_141 : q_at cX7_joined 141 (.iload_n 1) 1 142 := ⟨by decide +kernel, rfl⟩
theorem dX7_joined_142 : q_at cX7_joined 142 (.iload_n 2) 1 143 := ⟨by decide +kernel, rfl⟩
theorem dX7_joined_143 : q_at cX7_joined 143 (.isub) 1 144 := ⟨by decide +kernel, rfl⟩
theorem dX7_joined_144 : q_at cX7_joined 144 (.ireturn) 1 145 := ⟨by decide +kernel, rfl⟩
theorem dX7_joined_145 : q_at cX7_joined 145 (.iload_n 1) 1 146 := ⟨by decide +kernel, rfl⟩
theorem dX7_joined_146 : q_at cX7_joined 146 (.iload_n 2) 1 147 := ⟨by decide +kernel, rfl⟩
theorem dX7_joined_147 : q_at cX7_joined 147 (.imul) 1 148 := ⟨by decide +kernel, rfl⟩
theorem dX7_joined_148 : q_at cX7_joined 148 (.ireturn) 1 149 := ⟨by decide +kernel, rfl⟩
theorem dX7_joined_149 : q_at cX7_joined 149 (.iload_n 2) 1 150 := ⟨by decide +kernel, rfl⟩
theorem dX7_joined_150 : q_at cX7_joined 150 (.ifCond .ne 7) 3 153 := ⟨by decide +kernel, rfl⟩
theorem dX7_joined_153 : q_at cX7_joined 153 (.iconst 0) 1 154 := ⟨by decide +kernel, rfl⟩
theorem dX7_joined_154 : q_at cX7_joined 154 (.goto 6) 3 157 := ⟨by decide +kernel, rfl⟩
theorem dX7_joined_157 : q_at cX7_joined 157 (.iload_n 1) 1 158 := ⟨by decide +kernel, rfl⟩
theorem dX7_joined_158 : q_at cX7_joined 158 (.iload_n 2) 1 159 := ⟨by decide +kernel, rfl⟩
theorem dX7_joined_159 : q_at cX7_joined 159 (.idiv) 1 160 := ⟨by decide +kernel, rfl⟩
theorem dX7_joined_160 : q_at cX7_joined 160 (.ireturn) 1 161 := ⟨by decide +kernel, rfl⟩
theorem dX7_named_0 : q_at cX7_named 0 (.iload_n 0) 1 1 := ⟨by decide +kernel, rfl⟩
theorem dX7_named_1 : q_at cX7_named 1 (.ifCond .ne 5) 3 4 := ⟨by decide +kernel, rfl⟩
theorem dX7_named_4 : q_at cX7_named 4 (.iload_n 1) 1 5 := ⟨by decide +kernel, rfl⟩
theorem dX7_named_5 : q_at cX7_named 5 (.ireturn) 1 6 := ⟨by decide +kernel, rfl⟩
theorem dX7_named_6 : q_at cX7_named 6 (.iload_n 0) 1 7 := ⟨by decide +kernel, rfl⟩
theorem dX7_named_7 : q_at cX7_named 7 (.iconst 1) 1 8 := ⟨by decide +kernel, rfl⟩
theorem dX7_named_8 : q_at cX7_named 8 (.if_icmp .ne 7) 3 11 := ⟨by decide +kernel, rfl⟩
theorem dX7_named_11 : q_at cX7_named 11 (.iload_n 2) 1 12 := ⟨by decide +kernel, rfl⟩
theorem dX7_named_12 : q_at cX7_named 12 (.goto 4) 3 15 := ⟨by decide +kernel, rfl⟩
theorem dX7_named_15 : q_at cX7_named 15 (.iload_n 3) 1 16 := ⟨by decide +kernel, rfl⟩
theorem dX7_named_16 : q_at cX7_named 16 (.ireturn) 1 17 := ⟨by decide +kernel, rfl⟩
theorem dX7_row_0 : q_at cX7_row 0 (.iload_n 1) 1 1 := ⟨by decide +kernel, rfl⟩
theorem dX7_row_1 : q_at cX7_row 1 (.tableswitch 42 0 2 #[27, 32, 37]) 27 28 := ⟨by decide +kernel, rfl⟩
theorem dX7_row_28 : q_at cX7_row 28 (.aload_n 0) 1 29 := ⟨by decide +kernel, rfl⟩
theorem dX7_row_29 : q_at cX7_row 29 (.getfield 11) 3 32 := ⟨by decide +kernel, rfl⟩
theorem dX7_row_32 : q_at cX7_row 32 (.areturn) 1 33 := ⟨by decide +kernel, rfl⟩
theorem dX7_row_33 : q_at cX7_row 33 (.aload_n 0) 1 34 := ⟨by decide +kernel, rfl⟩
theorem dX7_row_34 : q_at cX7_row 34 (.getfield 15) 3 37 := ⟨by decide +kernel, rfl⟩
theorem dX7_row_37 : q_at cX7_row 37 (.areturn) 1 38 := ⟨by decide +kernel, rfl⟩
theorem dX7_row_38 : q_at cX7_row 38 (.aload_n 0) 1 39 := ⟨by decide +kernel, rfl⟩
theorem dX7_row_39 : q_at cX7_row 39 (.getfield 18) 3 42 := ⟨by decide +kernel, rfl⟩
theorem dX7_row_42 : q_at cX7_row 42 (.areturn) 1 43 := ⟨by decide +kernel, rfl⟩
theorem dX7_row_43 : q_at cX7_row 43 (.aconst_null) 1 44 := ⟨by decide +kernel, rfl⟩
theorem dX7_row_44 : q_at cX7_row 44 (.areturn) 1 45 := ⟨by decide +kernel, rfl⟩
theorem dX7_unwritten_0 : q_at cX7_unwritten 0 (.iload_n 0) 1 1 := ⟨by decide +kernel, rfl⟩
theorem dX7_unwritten_1 : q_at cX7_unwritten 1 (.tableswitch 54 0 6 #[43, 45, 54, 49, 54, 54, 52]) 43 44 := ⟨by decide +kernel, rfl⟩
theorem dX7_unwritten_44 : q_at cX7_unwritten 44 (.iload_n 1) 1 45 := ⟨by decide +kernel, rfl⟩
theorem dX7_unwritten_45 : q_at cX7_unwritten 45 (.ireturn) 1 46 := ⟨by decide +kernel, rfl⟩
theorem dX7_unwritten_46 : q_at cX7_unwritten 46 (.sipush 9999) 3 49 := ⟨by decide +kernel, rfl⟩
theorem dX7_unwritten_49 : q_at cX7_unwritten 49 (.ireturn) 1 50 := ⟨by decide +kernel, rfl⟩
theorem dX7_unwritten_50 : q_at cX7_unwritten 50 (.bipush 100) 2 52 := ⟨by decide +kernel, rfl⟩
theorem dX7_unwritten_52 : q_at cX7_unwritten 52 (.ireturn) 1 53 := ⟨by decide +kernel, rfl⟩
theorem dX7_unwritten_53 : q_at cX7_unwritten 53 (.iconst 0) 1 54 := ⟨by decide +kernel, rfl⟩
theorem dX7_unwritten_54 : q_at cX7_unwritten 54 (.ireturn) 1 55 := ⟨by decide +kernel, rfl⟩
theorem dX7_unwritten_55 : q_at cX7_unwritten 55 (.iconst 1) 1 56 := ⟨by decide +kernel, rfl⟩
theorem dX7_unwritten_56 : q_at cX7_unwritten 56 (.ireturn) 1 57 := ⟨by decide +kernel, rfl⟩
theorem dX8_added_0 : q_at cX8_added 0 (.aload_n 0) 1 1 := ⟨by decide +kernel, rfl⟩
theorem dX8_added_1 : q_at cX8_added 1 (.getfield 24) 3 4 := ⟨by decide +kernel, rfl⟩
theorem dX8_added_4 : q_at cX8_added 4 (.bipush 6) 2 6 := ⟨by decide +kernel, rfl⟩
theorem dX8_added_6 : q_at cX8_added 6 (.if_icmp .lt 6) 3 9 := ⟨by decide +kernel, rfl⟩
theorem dX8_added_9 : q_at cX8_added 9 (.ldc 28) 2 11 := ⟨by decide +kernel, rfl⟩
theorem dX8_added_11 : q_at cX8_added 11 (.ireturn) 1 12 := ⟨by decide +kernel, rfl⟩
theorem dX8_added_12 : q_at cX8_added 12 (.aload_n 0) 1 13 := ⟨by decide +kernel, rfl⟩
theorem dX8_added_13 : q_at cX8_added 13 (.getfield 11) 3 16 := ⟨by decide +kernel, rfl⟩
theorem dX8_added_16 : q_at cX8_added 16 (.aload_n 0) 1 17 := ⟨by decide +kernel, rfl⟩
theorem dX8_added_17 : q_at cX8_added 17 (.getfield 24) 3 20 := ⟨by decide +kernel, rfl⟩
theorem dX8_added_20 : q_at cX8_added 20 (.iload_n 1) 1 21 := ⟨by decide +kernel, rfl⟩
theorem dX8_added_21 : q_at cX8_added 21 (.iastore) 1 22 := ⟨by decide +kernel, rfl⟩
theorem dX8_added_22 : q_at cX8_added 22 (.aload_n 0) 1 23 := ⟨by decide +kernel, rfl⟩
theorem dX8_added_23 : q_at cX8_added 23 (.getfield 15) 3 26 := ⟨by decide +kernel, rfl⟩
theorem dX8_added_26 : q_at cX8_added 26 (.aload_n 0) 1 27 := ⟨by decide +kernel, rfl⟩
theorem dX8_added_27 : q_at cX8_added 27 (.getfield 24) 3 30 := ⟨by decide +kernel, rfl⟩
theorem dX8_added_30 : q_at cX8_added 30 (.iload_n 2) 1 31 := ⟨by decide +kernel, rfl⟩
theorem dX8_added_31 : q_at cX8_added 31 (.iastore) 1 32 := ⟨by decide +kernel, rfl⟩
theorem dX8_added_32 : q_at cX8_added 32 (.aload_n 0) 1 33 := ⟨by decide +kernel, rfl⟩
theorem dX8_added_33 : q_at cX8_added 33 (.getfield 18) 3 36 := ⟨by decide +kernel, rfl⟩
theorem dX8_added_36 : q_at cX8_added 36 (.aload_n 0) 1 37 := ⟨by decide +kernel, rfl⟩
theorem dX8_added_37 : q_at cX8_added 37 (.getfield 24) 3 40 := ⟨by decide +kernel, rfl⟩
theorem dX8_added_40 : q_at cX8_added 40 (.iload_n 3) 1 41 := ⟨by decide +kernel, rfl⟩
theorem dX8_added_41 : q_at cX8_added 41 (.iastore) 1 42 := ⟨by decide +kernel, rfl⟩
theorem dX8_added_42 : q_at cX8_added 42 (.aload_n 0) 1 43 := ⟨by decide +kernel, rfl⟩
theorem dX8_added_43 : q_at cX8_added 43 (.getfield 21) 3 46 := ⟨by decide +kernel, rfl⟩
theorem dX8_added_46 : q_at cX8_added 46 (.aload_n 0) 1 47 := ⟨by decide +kernel, rfl⟩
theorem dX8_added_47 : q_at cX8_added 47 (.getfield 24) 3 50 := ⟨by decide +kernel, rfl⟩
theorem dX8_added_50 : q_at cX8_added 50 (.iload 4) 2 52 := ⟨by decide +kernel, rfl⟩
theorem dX8_added_52 : q_at cX8_added 52 (.iastore) 1 53 := ⟨by decide +kernel, rfl⟩
theorem dX8_added_53 : q_at cX8_added 53 (.aload_n 0) 1 54 := ⟨by decide +kernel, rfl⟩
theorem dX8_added_54 : q_at cX8_added 54 (.dup) 1 55 := ⟨by decide +kernel, rfl⟩
theorem dX8_added_55 : q_at cX8_added 55 (.getfield 24) 3 58 := ⟨by decide +kernel, rfl⟩
theorem dX8_added_58 : q_at cX8_added 58 (.iconst 1) 1 59 := ⟨by decide +kernel, rfl⟩
theorem dX8_added_59 : q_at cX8_added 59 (.iadd) 1 60 := ⟨by decide +kernel, rfl⟩
theorem dX8_added_60 : q_at cX8_added 60 (.putfield 24) 3 63 := ⟨by decide +kernel, rfl⟩
theorem dX8_added_63 : q_at cX8_added 63 (.aload_n 0) 1 64 := ⟨by decide +kernel, rfl⟩
theorem dX8_added_64 : q_at cX8_added 64 (.getfield 24) 3 67 := ⟨by decide +kernel, rfl⟩
theorem dX8_added_67 : q_at cX8_added 67 (.iconst 1) 1 68 := ⟨by decide +kernel, rfl⟩
theorem dX8_added_68 : q_at cX8_added 68 (.isub) 1 69 := ⟨by decide +kernel, rfl⟩
theorem dX8_added_69 : q_at cX8_added 69 (.ireturn) 1 70 := ⟨by decide +kernel, rfl⟩
theorem dX8_become_0 : q_at cX8_become 0 (.aload_n 1) 1 1 := ⟨by decide +kernel, rfl⟩
theorem dX8_become_1 : q_at cX8_become 1 (.getfield 11) 3 4 := ⟨by decide +kernel, rfl⟩
theorem dX8_become_4 : q_at cX8_become 4 (.iconst 0) 1 5 := ⟨by decide +kernel, rfl⟩
theorem dX8_become_5 : q_at cX8_become 5 (.aload_n 0) 1 6 := ⟨by decide +kernel, rfl⟩
theorem dX8_become_6 : q_at cX8_become 6 (.getfield 11) 3 9 := ⟨by decide +kernel, rfl⟩
theorem dX8_become_9 : q_at cX8_become 9 (.iconst 0) 1 10 := ⟨by decide +kernel, rfl⟩
theorem dX8_become_10 : q_at cX8_become 10 (.bipush 6) 2 12 := ⟨by decide +kernel, rfl⟩
theorem dX8_become_12 : q_at cX8_become 12 (.invokestatic 29) 3 15 := ⟨by decide +kernel, rfl⟩
theorem dX8_become_15 : q_at cX8_become 15 (.aload_n 1) 1 16 := ⟨by decide +kernel, rfl⟩
theorem dX8_become_16 : q_at cX8_become 16 (.getfield 15) 3 19 := ⟨by decide +kernel, rfl⟩
theorem dX8_become_19 : q_at cX8_become 19 (.iconst 0) 1 20 := ⟨by decide +kernel, rfl⟩
theorem dX8_become_20 : q_at cX8_become 20 (.aload_n 0) 1 21 := ⟨by decide +kernel, rfl⟩
theorem dX8_become_21 : q_at cX8_become 21 (.getfield 15) 3 24 := ⟨by decide +kernel, rfl⟩
theorem dX8_become_24 : q_at cX8_become 24 (.iconst 0) 1 25 := ⟨by decide +kernel, rfl⟩
theorem dX8_become_25 : q_at cX8_become 25 (.bipush 6) 2 27 := ⟨by decide +kernel, rfl⟩
theorem dX8_become_27 : q_at cX8_become 27 (.invokestatic 29) 3 30 := ⟨by decide +kernel, rfl⟩
theorem dX8_become_30 : q_at cX8_become 30 (.aload_n 1) 1 31 := ⟨by decide +kernel, rfl⟩
theorem dX8_become_31 : q_at cX8_become 31 (.getfield 18) 3 34 := ⟨by decide +kernel, rfl⟩
theorem dX8_become_34 : q_at cX8_become 34 (.iconst 0) 1 35 := ⟨by decide +kernel, rfl⟩
theorem dX8_become_35 : q_at cX8_become 35 (.aload_n 0) 1 36 := ⟨by decide +kernel, rfl⟩
theorem dX8_become_36 : q_at cX8_become 36 (.getfield 18) 3 39 := ⟨by decide +kernel, rfl⟩
theorem dX8_become_39 : q_at cX8_become 39 (.iconst 0) 1 40 := ⟨by decide +kernel, rfl⟩
theorem dX8_become_40 : q_at cX8_become 40 (.bipush 6) 2 42 := ⟨by decide +kernel, rfl⟩
theorem dX8_become_42 : q_at cX8_become 42 (.invokestatic 29) 3 45 := ⟨by decide +kernel, rfl⟩
theorem dX8_become_45 : q_at cX8_become 45 (.aload_n 1) 1 46 := ⟨by decide +kernel, rfl⟩
theorem dX8_become_46 : q_at cX8_become 46 (.getfield 21) 3 49 := ⟨by decide +kernel, rfl⟩
theorem dX8_become_49 : q_at cX8_become 49 (.iconst 0) 1 50 := ⟨by decide +kernel, rfl⟩
theorem dX8_become_50 : q_at cX8_become 50 (.aload_n 0) 1 51 := ⟨by decide +kernel, rfl⟩
theorem dX8_become_51 : q_at cX8_become 51 (.getfield 21) 3 54 := ⟨by decide +kernel, rfl⟩
theorem dX8_become_54 : q_at cX8_become 54 (.iconst 0) 1 55 := ⟨by decide +kernel, rfl⟩
theorem dX8_become_55 : q_at cX8_become 55 (.bipush 6) 2 57 := ⟨by decide +kernel, rfl⟩
theorem dX8_become_57 : q_at cX8_become 57 (.invokestatic 29) 3 60 := ⟨by decide +kernel, rfl⟩
theorem dX8_become_60 : q_at cX8_become 60 (.aload_n 0) 1 61 := ⟨by decide +kernel, rfl⟩
theorem dX8_become_61 : q_at cX8_become 61 (.aload_n 1) 1 62 := ⟨by decide +kernel, rfl⟩
theorem dX8_become_62 : q_at cX8_become 62 (.getfield 24) 3 65 := ⟨by decide +kernel, rfl⟩
theorem dX8_become_65 : q_at cX8_become 65 (.putfield 24) 3 68 := ⟨by decide +kernel, rfl⟩
theorem dX8_become_68 : q_at cX8_become 68 (.return_) 1 69 := ⟨by decide +kernel, rfl⟩
theorem dX8_firstCompany_0 : q_at cX8_firstCompany 0 (.iconst 0) 1 1 := ⟨by decide +kernel, rfl⟩
theorem dX8_firstCompany_1 : q_at cX8_firstCompany 1 (.istore_n 1) 1 2 := ⟨by decide +kernel, rfl⟩
theorem dX8_firstCompany_2 : q_at cX8_firstCompany 2 (.iload_n 1) 1 3 := ⟨by decide +kernel, rfl⟩
theorem dX8_firstCompany_3 : q_at cX8_firstCompany 3 (.aload_n 0) 1 4 := ⟨by decide +kernel, rfl⟩
theorem dX8_firstCompany_4 : q_at cX8_firstCompany 4 (.getfield 24) 3 7 := ⟨by decide +kernel, rfl⟩
theorem dX8_firstCompany_7 : q_at cX8_firstCompany 7 (.if_icmp .ge 20) 3 10 := ⟨by decide +kernel, rfl⟩
theorem dX8_firstCompany_10 : q_at cX8_firstCompany 10 (.aload_n 0) 1 11 := ⟨by decide +kernel, rfl⟩
theorem dX8_firstCompany_11 : q_at cX8_firstCompany 11 (.getfield 11) 3 14 := ⟨by decide +kernel, rfl⟩
theorem dX8_firstCompany_14 : q_at cX8_firstCompany 14 (.iload_n 1) 1 15 := ⟨by decide +kernel, rfl⟩
theorem dX8_firstCompany_15 : q_at cX8_firstCompany 15 (.iaload) 1 16 := ⟨by decide +kernel, rfl⟩
theorem dX8_firstCompany_16 : q_at cX8_firstCompany 16 (.ifCond .ne 5) 3 19 := ⟨by decide +kernel, rfl⟩
theorem dX8_firstCompany_19 : q_at cX8_firstCompany 19 (.iload_n 1) 1 20 := ⟨by decide +kernel, rfl⟩
theorem dX8_firstCompany_20 : q_at cX8_firstCompany 20 (.ireturn) 1 21 := ⟨by decide +kernel, rfl⟩
theorem dX8_firstCompany_21 : q_at cX8_firstCompany 21 (.iinc 1 1) 3 24 := ⟨by decide +kernel, rfl⟩
theorem dX8_firstCompany_24 : q_at cX8_firstCompany 24 (.goto (-22)) 3 27 := ⟨by decide +kernel, rfl⟩
theorem dX8_firstCompany_27 : q_at cX8_firstCompany 27 (.iconst (-1)) 1 28 := ⟨by decide +kernel, rfl⟩
theorem dX8_firstCompany_28 : q_at cX8_firstCompany 28 (.ireturn) 1 29 := ⟨by decide +kernel, rfl⟩
theorem dX8_has_0 : q_at cX8_has 0 (.iload_n 1) 1 1 := ⟨by decide +kernel, rfl⟩
theorem dX8_has_1 : q_at cX8_has 1 (.ifCond .lt 15) 3 4 := ⟨by decide +kernel, rfl⟩
theorem dX8_has_4 : q_at cX8_has 4 (.iload_n 1) 1 5 := ⟨by decide +kernel, rfl⟩
theorem dX8_has_5 : q_at cX8_has 5 (.aload_n 0) 1 6 := ⟨by decide +kernel, rfl⟩
theorem dX8_has_6 : q_at cX8_has 6 (.getfield 24) 3 9 := ⟨by decide +kernel, rfl⟩
theorem dX8_has_9 : q_at cX8_has 9 (.if_icmp .ge 7) 3 12 := ⟨by decide +kernel, rfl⟩
theorem dX8_has_12 : q_at cX8_has 12 (.iconst 1) 1 13 := ⟨by decide +kernel, rfl⟩
theorem dX8_has_13 : q_at cX8_has 13 (.goto 4) 3 16 := ⟨by decide +kernel, rfl⟩
theorem dX8_has_16 : q_at cX8_has 16 (.iconst 0) 1 17 := ⟨by decide +kernel, rfl⟩
theorem dX8_has_17 : q_at cX8_has 17 (.ireturn) 1 18 := ⟨by decide +kernel, rfl⟩
theorem dX8_leastPrice_0 : q_at cX8_leastPrice 0 (.iconst 0) 1 1 := ⟨by decide +kernel, rfl⟩
theorem dX8_leastPrice_1 : q_at cX8_leastPrice 1 (.istore_n 2) 1 2 := ⟨by decide +kernel, rfl⟩
theorem dX8_leastPrice_2 : q_at cX8_leastPrice 2 (.iconst 0) 1 3 := ⟨by decide +kernel, rfl⟩
theorem dX8_leastPrice_3 : q_at cX8_leastPrice 3 (.istore_n 3) 1 4 := ⟨by decide +kernel, rfl⟩
theorem dX8_leastPrice_4 : q_at cX8_leastPrice 4 (.iload_n 3) 1 5 := ⟨by decide +kernel, rfl⟩
theorem dX8_leastPrice_5 : q_at cX8_leastPrice 5 (.aload_n 0) 1 6 := ⟨by decide +kernel, rfl⟩
theorem dX8_leastPrice_6 : q_at cX8_leastPrice 6 (.getfield 24) 3 9 := ⟨by decide +kernel, rfl⟩
theorem dX8_leastPrice_9 : q_at cX8_leastPrice 9 (.if_icmp .ge 40) 3 12 := ⟨by decide +kernel, rfl⟩
theorem dX8_leastPrice_12 : q_at cX8_leastPrice 12 (.aload_n 0) 1 13 := ⟨by decide +kernel, rfl⟩
theorem dX8_leastPrice_13 : q_at cX8_leastPrice 13 (.getfield 11) 3 16 := ⟨by decide +kernel, rfl⟩
theorem dX8_leastPrice_16 : q_at cX8_leastPrice 16 (.iload_n 3) 1 17 := ⟨by decide +kernel, rfl⟩
theorem dX8_leastPrice_17 : q_at cX8_leastPrice 17 (.iaload) 1 18 := ⟨by decide +kernel, rfl⟩
theorem dX8_leastPrice_18 : q_at cX8_leastPrice 18 (.iload_n 1) 1 19 := ⟨by decide +kernel, rfl⟩
theorem dX8_leastPrice_19 : q_at cX8_leastPrice 19 (.if_icmp .ne 24) 3 22 := ⟨by decide +kernel, rfl⟩
theorem dX8_leastPrice_22 : q_at cX8_leastPrice 22 (.iload_n 2) 1 23 := ⟨by decide +kernel, rfl⟩
theorem dX8_leastPrice_23 : q_at cX8_leastPrice 23 (.ifCond .eq 13) 3 26 := ⟨by decide +kernel, rfl⟩
theorem dX8_leastPrice_26 : q_at cX8_leastPrice 26 (.aload_n 0) 1 27 := ⟨by decide +kernel, rfl⟩
theorem dX8_leastPrice_27 : q_at cX8_leastPrice 27 (.getfield 15) 3 30 := ⟨by decide +kernel, rfl⟩
theorem dX8_leastPrice_30 : q_at cX8_leastPrice 30 (.iload_n 3) 1 31 := ⟨by decide +kernel, rfl⟩
theorem dX8_leastPrice_31 : q_at cX8_leastPrice 31 (.iaload) 1 32 := ⟨by decide +kernel, rfl⟩
theorem dX8_leastPrice_32 : q_at cX8_leastPrice 32 (.iload_n 2) 1 33 := ⟨by decide +kernel, rfl⟩
theorem dX8_leastPrice_33 : q_at cX8_leastPrice 33 (.if_icmp .ge 10) 3 36 := ⟨by decide +kernel, rfl⟩
theorem dX8_leastPrice_36 : q_at cX8_leastPrice 36 (.aload_n 0) 1 37 := ⟨by decide +kernel, rfl⟩
theorem dX8_leastPrice_37 : q_at cX8_leastPrice 37 (.getfield 15) 3 40 := ⟨by decide +kernel, rfl⟩
theorem dX8_leastPrice_40 : q_at cX8_leastPrice 40 (.iload_n 3) 1 41 := ⟨by decide +kernel, rfl⟩
theorem dX8_leastPrice_41 : q_at cX8_leastPrice 41 (.iaload) 1 42 := ⟨by decide +kernel, rfl⟩
theorem dX8_leastPrice_42 : q_at cX8_leastPrice 42 (.istore_n 2) 1 43 := ⟨by decide +kernel, rfl⟩
theorem dX8_leastPrice_43 : q_at cX8_leastPrice 43 (.iinc 3 1) 3 46 := ⟨by decide +kernel, rfl⟩
theorem dX8_leastPrice_46 : q_at cX8_leastPrice 46 (.goto (-42)) 3 49 := ⟨by decide +kernel, rfl⟩
theorem dX8_leastPrice_49 : q_at cX8_leastPrice 49 (.iload_n 2) 1 50 := ⟨by decide +kernel, rfl⟩
theorem dX8_leastPrice_50 : q_at cX8_leastPrice 50 (.ireturn) 1 51 := ⟨by decide +kernel, rfl⟩
theorem dX8_row_0 : q_at cX8_row 0 (.iload_n 1) 1 1 := ⟨by decide +kernel, rfl⟩
theorem dX8_row_1 : q_at cX8_row 1 (.tableswitch 51 0 3 #[31, 36, 41, 46]) 31 32 := ⟨by decide +kernel, rfl⟩
theorem dX8_row_32 : q_at cX8_row 32 (.aload_n 0) 1 33 := ⟨by decide +kernel, rfl⟩
theorem dX8_row_33 : q_at cX8_row 33 (.getfield 11) 3 36 := ⟨by decide +kernel, rfl⟩
theorem dX8_row_36 : q_at cX8_row 36 (.areturn) 1 37 := ⟨by decide +kernel, rfl⟩
theorem dX8_row_37 : q_at cX8_row 37 (.aload_n 0) 1 38 := ⟨by decide +kernel, rfl⟩
theorem dX8_row_38 : q_at cX8_row 38 (.getfield 15) 3 41 := ⟨by decide +kernel, rfl⟩
theorem dX8_row_41 : q_at cX8_row 41 (.areturn) 1 42 := ⟨by decide +kernel, rfl⟩
theorem dX8_row_42 : q_at cX8_row 42 (.aload_n 0) 1 43 := ⟨by decide +kernel, rfl⟩
theorem dX8_row_43 : q_at cX8_row 43 (.getfield 18) 3 46 := ⟨by decide +kernel, rfl⟩
theorem dX8_row_46 : q_at cX8_row 46 (.areturn) 1 47 := ⟨by decide +kernel, rfl⟩
theorem dX8_row_47 : q_at cX8_row 47 (.aload_n 0) 1 48 := ⟨by decide +kernel, rfl⟩
theorem dX8_row_48 : q_at cX8_row 48 (.getfield 21) 3 51 := ⟨by decide +kernel, rfl⟩
theorem dX8_row_51 : q_at cX8_row 51 (.areturn) 1 52 := ⟨by decide +kernel, rfl⟩
theorem dX8_row_52 : q_at cX8_row 52 (.aconst_null) 1 53 := ⟨by decide +kernel, rfl⟩
theorem dX8_row_53 : q_at cX8_row 53 (.areturn) 1 54 := ⟨by decide +kernel, rfl⟩
theorem dX0_open_0 : q_at cX0_open 0 (.aload_n 0) 1 1 := ⟨by decide +kernel, rfl⟩
theorem dX0_open_1 : q_at cX0_open 1 (.getfield 11) 3 4 := ⟨by decide +kernel, rfl⟩
theorem dX0_open_4 : q_at cX0_open 4 (.iload_n 1) 1 5 := ⟨by decide +kernel, rfl⟩
theorem dX0_open_5 : q_at cX0_open 5 (.iload_n 2) 1 6 := ⟨by decide +kernel, rfl⟩
theorem dX0_open_6 : q_at cX0_open 6 (.iastore) 1 7 := ⟨by decide +kernel, rfl⟩
theorem dX0_open_7 : q_at cX0_open 7 (.aload_n 0) 1 8 := ⟨by decide +kernel, rfl⟩
theorem dX0_open_8 : q_at cX0_open 8 (.getfield 17) 3 11 := ⟨by decide +kernel, rfl⟩
theorem dX0_open_11 : q_at cX0_open 11 (.iload_n 1) 1 12 := ⟨by decide +kernel, rfl⟩
theorem dX0_open_12 : q_at cX0_open 12 (.iload_n 3) 1 13 := ⟨by decide +kernel, rfl⟩
theorem dX0_open_13 : q_at cX0_open 13 (.iastore) 1 14 := ⟨by decide +kernel, rfl⟩
theorem dX0_open_14 : q_at cX0_open 14 (.iconst 0) 1 15 := ⟨by decide +kernel, rfl⟩
theorem dX0_open_15 : q_at cX0_open 15 (.istore 4) 2 17 := ⟨by decide +kernel, rfl⟩
theorem dX0_open_17 : q_at cX0_open 17 (.iload 4) 2 19 := ⟨by decide +kernel, rfl⟩
theorem dX0_open_19 : q_at cX0_open 19 (.bipush 30) 2 21 := ⟨by decide +kernel, rfl⟩
theorem dX0_open_21 : q_at cX0_open 21 (.if_icmp .ge 22) 3 24 := ⟨by decide +kernel, rfl⟩
theorem dX0_open_24 : q_at cX0_open 24 (.aload_n 0) 1 25 := ⟨by decide +kernel, rfl⟩
theorem dX0_open_25 : q_at cX0_open 25 (.getfield 20) 3 28 := ⟨by decide +kernel, rfl⟩
theorem dX0_open_28 : q_at cX0_open 28 (.iload_n 1) 1 29 := ⟨by decide +kernel, rfl⟩
theorem dX0_open_29 : q_at cX0_open 29 (.invokestatic 23) 3 32 := ⟨by decide +kernel, rfl⟩
theorem dX0_open_32 : q_at cX0_open 32 (.iload 4) 2 34 := ⟨by decide +kernel, rfl⟩
theorem dX0_open_34 : q_at cX0_open 34 (.iadd) 1 35 := ⟨by decide +kernel, rfl⟩
theorem dX0_open_35 : q_at cX0_open 35 (.iconst 0) 1 36 := ⟨by decide +kernel, rfl⟩
theorem dX0_open_36 : q_at cX0_open 36 (.iastore) 1 37 := ⟨by decide +kernel, rfl⟩
theorem dX0_open_37 : q_at cX0_open 37 (.iinc 4 1) 3 40 := ⟨by decide +kernel, rfl⟩
theorem dX0_open_40 : q_at cX0_open 40 (.goto (-23)) 3 43 := ⟨by decide +kernel, rfl⟩
theorem dX0_open_43 : q_at cX0_open 43 (.return_) 1 44 := ⟨by decide +kernel, rfl⟩
theorem dX0_placeOf_0 : q_at cX0_placeOf 0 (.aload_n 0) 1 1 := ⟨by decide +kernel, rfl⟩
theorem dX0_placeOf_1 : q_at cX0_placeOf 1 (.iload_n 1) 1 2 := ⟨by decide +kernel, rfl⟩
theorem dX0_placeOf_2 : q_at cX0_placeOf 2 (.invokevirtual 27) 3 5 := ⟨by decide +kernel, rfl⟩
theorem dX0_placeOf_5 : q_at cX0_placeOf 5 (.ifCond .ne 12) 3 8 := ⟨by decide +kernel, rfl⟩
theorem dX0_placeOf_8 : q_at cX0_placeOf 8 (.aload_n 0) 1 9 := ⟨by decide +kernel, rfl⟩
theorem dX0_placeOf_9 : q_at cX0_placeOf 9 (.iload_n 1) 1 10 := ⟨by decide +kernel, rfl⟩
theorem dX0_placeOf_10 : q_at cX0_placeOf 10 (.iload_n 2) 1 11 := ⟨by decide +kernel, rfl⟩
theorem dX0_placeOf_11 : q_at cX0_placeOf 11 (.invokevirtual 31) 3 14 := ⟨by decide +kernel, rfl⟩
theorem dX0_placeOf_14 : q_at cX0_placeOf 14 (.ifCond .ne 5) 3 17 := ⟨by decide +kernel, rfl⟩
theorem dX0_placeOf_17 : q_at cX0_placeOf 17 (.iconst (-1)) 1 18 := ⟨by decide +kernel, rfl⟩
theorem dX0_placeOf_18 : q_at cX0_placeOf 18 (.ireturn) 1 19 := ⟨by decide +kernel, rfl⟩
theorem dX0_placeOf_19 : q_at cX0_placeOf 19 (.aload_n 0) 1 20 := ⟨by decide +kernel, rfl⟩
theorem dX0_placeOf_20 : q_at cX0_placeOf 20 (.getfield 11) 3 23 := ⟨by decide +kernel, rfl⟩
theorem dX0_placeOf_23 : q_at cX0_placeOf 23 (.iload_n 1) 1 24 := ⟨by decide +kernel, rfl⟩
theorem dX0_placeOf_24 : q_at cX0_placeOf 24 (.iaload) 1 25 := ⟨by decide +kernel, rfl⟩
theorem dX0_placeOf_25 : q_at cX0_placeOf 25 (.iconst 1) 1 26 := ⟨by decide +kernel, rfl⟩
theorem dX0_placeOf_26 : q_at cX0_placeOf 26 (.if_icmp .ne 9) 3 29 := ⟨by decide +kernel, rfl⟩
theorem dX0_placeOf_29 : q_at cX0_placeOf 29 (.sipush (-32768)) 3 32 := ⟨by decide +kernel, rfl⟩
theorem dX0_placeOf_32 : q_at cX0_placeOf 32 (.goto 5) 3 35 := ⟨by decide +kernel, rfl⟩
theorem dX0_placeOf_35 : q_at cX0_placeOf 35 (.ldc 37) 2 37 := ⟨by decide +kernel, rfl⟩
theorem dX0_placeOf_37 : q_at cX0_placeOf 37 (.istore_n 3) 1 38 := ⟨by decide +kernel, rfl⟩
theorem dX0_placeOf_38 : q_at cX0_placeOf 38 (.iload_n 2) 1 39 := ⟨by decide +kernel, rfl⟩
theorem dX0_placeOf_39 : q_at cX0_placeOf 39 (.istore 4) 2 41 := ⟨by decide +kernel, rfl⟩
theorem dX0_placeOf_41 : q_at cX0_placeOf 41 (.iload 4) 2 43 := ⟨by decide +kernel, rfl⟩
theorem dX0_placeOf_43 : q_at cX0_placeOf 43 (.ifCond .lt 33) 3 46 := ⟨by decide +kernel, rfl⟩
theorem dX0_placeOf_46 : q_at cX0_placeOf 46 (.aload_n 0) 1 47 := ⟨by decide +kernel, rfl⟩
theorem dX0_placeOf_47 : q_at cX0_placeOf 47 (.getfield 20) 3 50 := ⟨by decide +kernel, rfl⟩
theorem dX0_placeOf_50 : q_at cX0_placeOf 50 (.iload_n 1) 1 51 := ⟨by decide +kernel, rfl⟩
theorem dX0_placeOf_51 : q_at cX0_placeOf 51 (.invokestatic 23) 3 54 := ⟨by decide +kernel, rfl⟩
theorem dX0_placeOf_54 : q_at cX0_placeOf 54 (.iload 4) 2 56 := ⟨by decide +kernel, rfl⟩
theorem dX0_placeOf_56 : q_at cX0_placeOf 56 (.iadd) 1 57 := ⟨by decide +kernel, rfl⟩
theorem dX0_placeOf_57 : q_at cX0_placeOf 57 (.iaload) 1 58 := ⟨by decide +kernel, rfl⟩
theorem dX0_placeOf_58 : q_at cX0_placeOf 58 (.iload_n 3) 1 59 := ⟨by decide +kernel, rfl⟩
theorem dX0_placeOf_59 : q_at cX0_placeOf 59 (.if_icmp .eq 11) 3 62 := ⟨by decide +kernel, rfl⟩
theorem dX0_placeOf_62 : q_at cX0_placeOf 62 (.iload_n 1) 1 63 := ⟨by decide +kernel, rfl⟩
theorem dX0_placeOf_63 : q_at cX0_placeOf 63 (.invokestatic 23) 3 66 := ⟨by decide +kernel, rfl⟩
theorem dX0_placeOf_66 : q_at cX0_placeOf 66 (.iload 4) 2 68 := ⟨by decide +kernel, rfl⟩
theorem dX0_placeOf_68 : q_at cX0_placeOf 68 (.iadd) 1 69 := ⟨by decide +kernel, rfl⟩
theorem dX0_placeOf_69 : q_at cX0_placeOf 69 (.ireturn) 1 70 := ⟨by decide +kernel, rfl⟩
theorem dX0_placeOf_70 : q_at cX0_placeOf 70 (.iinc 4 (-1)) 3 73 := ⟨by decide +kernel, rfl⟩
theorem dX0_placeOf_73 : q_at cX0_placeOf 73 (.goto (-32)) 3 76 := ⟨by decide +kernel, rfl⟩
theorem dX0_placeOf_76 : q_at cX0_placeOf 76 (.iconst (-1)) 1 77 := ⟨by decide +kernel, rfl⟩
theorem dX0_placeOf_77 : q_at cX0_placeOf 77 (.ireturn) 1 78 := ⟨by decide +kernel, rfl⟩
theorem dX0_set_0 : q_at cX0_set 0 (.aload_n 0) 1 1 := ⟨by decide +kernel, rfl⟩
theorem dX0_set_1 : q_at cX0_set 1 (.getfield 20) 3 4 := ⟨by decide +kernel, rfl⟩
theorem dX0_set_4 : q_at cX0_set 4 (.iload_n 1) 1 5 := ⟨by decide +kernel, rfl⟩
theorem dX0_set_5 : q_at cX0_set 5 (.invokestatic 23) 3 8 := ⟨by decide +kernel, rfl⟩
theorem dX0_set_8 : q_at cX0_set 8 (.iload_n 2) 1 9 := ⟨by decide +kernel, rfl⟩
theorem dX0_set_9 : q_at cX0_set 9 (.iadd) 1 10 := ⟨by decide +kernel, rfl⟩
theorem dX0_set_10 : q_at cX0_set 10 (.aload_n 0) 1 11 := ⟨by decide +kernel, rfl⟩
theorem dX0_set_11 : q_at cX0_set 11 (.getfield 11) 3 14 := ⟨by decide +kernel, rfl⟩
theorem dX0_set_14 : q_at cX0_set 14 (.iload_n 1) 1 15 := ⟨by decide +kernel, rfl⟩
theorem dX0_set_15 : q_at cX0_set 15 (.iaload) 1 16 := ⟨by decide +kernel, rfl⟩
theorem dX0_set_16 : q_at cX0_set 16 (.iconst 1) 1 17 := ⟨by decide +kernel, rfl⟩
theorem dX0_set_17 : q_at cX0_set 17 (.if_icmp .ne 8) 3 20 := ⟨by decide +kernel, rfl⟩
theorem dX0_set_20 : q_at cX0_set 20 (.iload_n 3) 1 21 := ⟨by decide +kernel, rfl⟩
theorem dX0_set_21 : q_at cX0_set 21 (.i2s) 1 22 := ⟨by decide +kernel, rfl⟩
theorem dX0_set_22 : q_at cX0_set 22 (.goto 4) 3 25 := ⟨by decide +kernel, rfl⟩
theorem dX0_set_25 : q_at cX0_set 25 (.iload_n 3) 1 26 := ⟨by decide +kernel, rfl⟩
theorem dX0_set_26 : q_at cX0_set 26 (.iastore) 1 27 := ⟨by decide +kernel, rfl⟩
theorem dX0_set_27 : q_at cX0_set 27 (.return_) 1 28 := ⟨by decide +kernel, rfl⟩
theorem dX1_become_0 : q_at cX1_become 0 (.iconst 0) 1 1 := ⟨by decide +kernel, rfl⟩
theorem dX1_become_1 : q_at cX1_become 1 (.istore_n 2) 1 2 := ⟨by decide +kernel, rfl⟩
theorem dX1_become_2 : q_at cX1_become 2 (.iload_n 2) 1 3 := ⟨by decide +kernel, rfl⟩
theorem dX1_become_3 : q_at cX1_become 3 (.bipush 7) 2 5 := ⟨by decide +kernel, rfl⟩
theorem dX1_become_5 : q_at cX1_become 5 (.if_icmp .gt 41) 3 8 := ⟨by decide +kernel, rfl⟩
theorem dX1_become_8 : q_at cX1_become 8 (.aload_n 0) 1 9 := ⟨by decide +kernel, rfl⟩
theorem dX1_become_9 : q_at cX1_become 9 (.iload_n 2) 1 10 := ⟨by decide +kernel, rfl⟩
theorem dX1_become_10 : q_at cX1_become 10 (.invokevirtual 45) 3 13 := ⟨by decide +kernel, rfl⟩
theorem dX1_become_13 : q_at cX1_become 13 (.astore_n 3) 1 14 := ⟨by decide +kernel, rfl⟩
theorem dX1_become_14 : q_at cX1_become 14 (.aload_n 1) 1 15 := ⟨by decide +kernel, rfl⟩
theorem dX1_become_15 : q_at cX1_become 15 (.iload_n 2) 1 16 := ⟨by decide +kernel, rfl⟩
theorem dX1_become_16 : q_at cX1_become 16 (.invokevirtual 45) 3 19 := ⟨by decide +kernel, rfl⟩
theorem dX1_become_19 : q_at cX1_become 19 (.astore 4) 2 21 := ⟨by decide +kernel, rfl⟩
theorem dX1_become_21 : q_at cX1_become 21 (.aload_n 3) 1 22 := ⟨by decide +kernel, rfl⟩
theorem dX1_become_22 : q_at cX1_become 22 (.ifnull 18) 3 25 := ⟨by decide +kernel, rfl⟩
theorem dX1_become_25 : q_at cX1_become 25 (.aload 4) 2 27 := ⟨by decide +kernel, rfl⟩
theorem dX1_become_27 : q_at cX1_become 27 (.ifnull 13) 3 30 := ⟨by decide +kernel, rfl⟩
theorem dX1_become_30 : q_at cX1_become 30 (.aload 4) 2 32 := ⟨by decide +kernel, rfl⟩
theorem dX1_become_32 : q_at cX1_become 32 (.iconst 0) 1 33 := ⟨by decide +kernel, rfl⟩
theorem dX1_become_33 : q_at cX1_become 33 (.aload_n 3) 1 34 := ⟨by decide +kernel, rfl⟩
theorem dX1_become_34 : q_at cX1_become 34 (.iconst 0) 1 35 := ⟨by decide +kernel, rfl⟩
theorem dX1_become_35 : q_at cX1_become 35 (.bipush 60) 2 37 := ⟨by decide +kernel, rfl⟩
theorem dX1_become_37 : q_at cX1_become 37 (.invokestatic 49) 3 40 := ⟨by decide +kernel, rfl⟩
theorem dX1_become_40 : q_at cX1_become 40 (.iinc 2 1) 3 43 := ⟨by decide +kernel, rfl⟩
theorem dX1_become_43 : q_at cX1_become 43 (.goto (-41)) 3 46 := ⟨by decide +kernel, rfl⟩
theorem dX1_become_46 : q_at cX1_become 46 (.aload_n 0) 1 47 := ⟨by decide +kernel, rfl⟩
theorem dX1_become_47 : q_at cX1_become 47 (.aload_n 1) 1 48 := ⟨by decide +kernel, rfl⟩
theorem dX1_become_48 : q_at cX1_become 48 (.getfield 36) 3 51 := ⟨by decide +kernel, rfl⟩
theorem dX1_become_51 : q_at cX1_become 51 (.putfield 36) 3 54 := ⟨by decide +kernel, rfl⟩
theorem dX1_become_54 : q_at cX1_become 54 (.return_) 1 55 := ⟨by decide +kernel, rfl⟩
theorem dX1_taken_0 : q_at cX1_taken 0 (.iconst 0) 1 1 := ⟨by decide +kernel, rfl⟩
theorem dX1_taken_1 : q_at cX1_taken 1 (.istore 5) 2 3 := ⟨by decide +kernel, rfl⟩
theorem dX1_taken_3 : q_at cX1_taken 3 (.iconst 0) 1 4 := ⟨by decide +kernel, rfl⟩
theorem dX1_taken_4 : q_at cX1_taken 4 (.istore 6) 2 6 := ⟨by decide +kernel, rfl⟩
theorem dX1_taken_6 : q_at cX1_taken 6 (.iload 6) 2 8 := ⟨by decide +kernel, rfl⟩
theorem dX1_taken_8 : q_at cX1_taken 8 (.aload_n 0) 1 9 := ⟨by decide +kernel, rfl⟩
theorem dX1_taken_9 : q_at cX1_taken 9 (.getfield 36) 3 12 := ⟨by decide +kernel, rfl⟩
theorem dX1_taken_12 : q_at cX1_taken 12 (.if_icmp .ge 83) 3 15 := ⟨by decide +kernel, rfl⟩
theorem dX1_taken_15 : q_at cX1_taken 15 (.aload_n 0) 1 16 := ⟨by decide +kernel, rfl⟩
theorem dX1_taken_16 : q_at cX1_taken 16 (.getfield 15) 3 19 := ⟨by decide +kernel, rfl⟩
theorem dX1_taken_19 : q_at cX1_taken 19 (.iload 6) 2 21 := ⟨by decide +kernel, rfl⟩
theorem dX1_taken_21 : q_at cX1_taken 21 (.iaload) 1 22 := ⟨by decide +kernel, rfl⟩
theorem dX1_taken_22 : q_at cX1_taken 22 (.iload_n 1) 1 23 := ⟨by decide +kernel, rfl⟩
theorem dX1_taken_23 : q_at cX1_taken 23 (.if_icmp .ne 66) 3 26 := ⟨by decide +kernel, rfl⟩
theorem dX1_taken_26 : q_at cX1_taken 26 (.aload_n 0) 1 27 := ⟨by decide +kernel, rfl⟩
theorem dX1_taken_27 : q_at cX1_taken 27 (.getfield 27) 3 30 := ⟨by decide +kernel, rfl⟩
theorem dX1_taken_30 : q_at cX1_taken 30 (.iload 6) 2 32 := ⟨by decide +kernel, rfl⟩
theorem dX1_taken_32 : q_at cX1_taken 32 (.iaload) 1 33 := ⟨by decide +kernel, rfl⟩
theorem dX1_taken_33 : q_at cX1_taken 33 (.ifCond .ne 56) 3 36 := ⟨by decide +kernel, rfl⟩
theorem dX1_taken_36 : q_at cX1_taken 36 (.aload_n 0) 1 37 := ⟨by decide +kernel, rfl⟩
theorem dX1_taken_37 : q_at cX1_taken 37 (.getfield 11) 3 40 := ⟨by decide +kernel, rfl⟩
theorem dX1_taken_40 : q_at cX1_taken 40 (.iload 6) 2 42 := ⟨by decide +kernel, rfl⟩
theorem dX1_taken_42 : q_at cX1_taken 42 (.iaload) 1 43 := ⟨by decide +kernel, rfl⟩
theorem dX1_taken_43 : q_at cX1_taken 43 (.iload_n 2) 1 44 := ⟨by decide +kernel, rfl⟩
theorem dX1_taken_44 : q_at cX1_taken 44 (.invokestatic 55) 3 47 := ⟨by decide +kernel, rfl⟩
theorem dX1_taken_47 : q_at cX1_taken 47 (.ifCond .ne 6) 3 50 := ⟨by decide +kernel, rfl⟩
theorem dX1_taken_50 : q_at cX1_taken 50 (.goto 39) 3 53 := ⟨by decide +kernel, rfl⟩
theorem dX1_taken_53 : q_at cX1_taken 53 (.aload_n 0) 1 54 := ⟨by decide +kernel, rfl⟩
theorem dX1_taken_54 : q_at cX1_taken 54 (.getfield 18) 3 57 := ⟨by decide +kernel, rfl⟩
theorem dX1_taken_57 : q_at cX1_taken 57 (.iload 6) 2 59 := ⟨by decide +kernel, rfl⟩
theorem dX1_taken_59 : q_at cX1_taken 59 (.iaload) 1 60 := ⟨by decide +kernel, rfl⟩
theorem dX1_taken_60 : q_at cX1_taken 60 (.iload_n 3) 1 61 := ⟨by decide +kernel, rfl⟩
theorem dX1_taken_61 : q_at cX1_taken 61 (.iload 5) 2 63 := ⟨by decide +kernel, rfl⟩
theorem dX1_taken_63 : q_at cX1_taken 63 (.isub) 1 64 := ⟨by decide +kernel, rfl⟩
theorem dX1_taken_64 : q_at cX1_taken 64 (.invokestatic 59) 3 67 := ⟨by decide +kernel, rfl⟩
theorem dX1_taken_67 : q_at cX1_taken 67 (.istore 7) 2 69 := ⟨by decide +kernel, rfl⟩
theorem dX1_taken_69 : q_at cX1_taken 69 (.iload 5) 2 71 := ⟨by decide +kernel, rfl⟩
theorem dX1_taken_71 : q_at cX1_taken 71 (.iload 7) 2 73 := ⟨by decide +kernel, rfl⟩
theorem dX1_taken_73 : q_at cX1_taken 73 (.iadd) 1 74 := ⟨by decide +kernel, rfl⟩
theorem dX1_taken_74 : q_at cX1_taken 74 (.istore 5) 2 76 := ⟨by decide +kernel, rfl⟩
theorem dX1_taken_76 : q_at cX1_taken 76 (.iload 4) 2 78 := ⟨by decide +kernel, rfl⟩
theorem dX1_taken_78 : q_at cX1_taken 78 (.ifCond .eq 11) 3 81 := ⟨by decide +kernel, rfl⟩
theorem dX1_taken_81 : q_at cX1_taken 81 (.aload_n 0) 1 82 := ⟨by decide +kernel, rfl⟩
theorem dX1_taken_82 : q_at cX1_taken 82 (.iload 6) 2 84 := ⟨by decide +kernel, rfl⟩
theorem dX1_taken_84 : q_at cX1_taken 84 (.iload 7) 2 86 := ⟨by decide +kernel, rfl⟩
theorem dX1_taken_86 : q_at cX1_taken 86 (.invokevirtual 65) 3 89 := ⟨by decide +kernel, rfl⟩
theorem dX1_taken_89 : q_at cX1_taken 89 (.iinc 6 1) 3 92 := ⟨by decide +kernel, rfl⟩
theorem dX1_taken_92 : q_at cX1_taken 92 (.goto (-86)) 3 95 := ⟨by decide +kernel, rfl⟩
theorem dX1_taken_95 : q_at cX1_taken 95 (.iload 5) 2 97 := ⟨by decide +kernel, rfl⟩
theorem dX1_taken_97 : q_at cX1_taken 97 (.ireturn) 1 98 := ⟨by decide +kernel, rfl⟩
theorem dX2_become_0 : q_at cX2_become 0 (.iconst 0) 1 1 := ⟨by decide +kernel, rfl⟩
theorem dX2_become_1 : q_at cX2_become 1 (.istore_n 2) 1 2 := ⟨by decide +kernel, rfl⟩
theorem dX2_become_2 : q_at cX2_become 2 (.iload_n 2) 1 3 := ⟨by decide +kernel, rfl⟩
theorem dX2_become_3 : q_at cX2_become 3 (.bipush 13) 2 5 := ⟨by decide +kernel, rfl⟩
theorem dX2_become_5 : q_at cX2_become 5 (.if_icmp .gt 41) 3 8 := ⟨by decide +kernel, rfl⟩
theorem dX2_become_8 : q_at cX2_become 8 (.aload_n 0) 1 9 := ⟨by decide +kernel, rfl⟩
theorem dX2_become_9 : q_at cX2_become 9 (.iload_n 2) 1 10 := ⟨by decide +kernel, rfl⟩
theorem dX2_become_10 : q_at cX2_become 10 (.invokevirtual 67) 3 13 := ⟨by decide +kernel, rfl⟩
theorem dX2_become_13 : q_at cX2_become 13 (.astore_n 3) 1 14 := ⟨by decide +kernel, rfl⟩
theorem dX2_become_14 : q_at cX2_become 14 (.aload_n 1) 1 15 := ⟨by decide +kernel, rfl⟩
theorem dX2_become_15 : q_at cX2_become 15 (.iload_n 2) 1 16 := ⟨by decide +kernel, rfl⟩
theorem dX2_become_16 : q_at cX2_become 16 (.invokevirtual 67) 3 19 := ⟨by decide +kernel, rfl⟩
theorem dX2_become_19 : q_at cX2_become 19 (.astore 4) 2 21 := ⟨by decide +kernel, rfl⟩
theorem dX2_become_21 : q_at cX2_become 21 (.aload_n 3) 1 22 := ⟨by decide +kernel, rfl⟩
theorem dX2_become_22 : q_at cX2_become 22 (.ifnull 18) 3 25 := ⟨by decide +kernel, rfl⟩
theorem dX2_become_25 : q_at cX2_become 25 (.aload 4) 2 27 := ⟨by decide +kernel, rfl⟩
theorem dX2_become_27 : q_at cX2_become 27 (.ifnull 13) 3 30 := ⟨by decide +kernel, rfl⟩
theorem dX2_become_30 : q_at cX2_become 30 (.aload 4) 2 32 := ⟨by decide +kernel, rfl⟩
theorem dX2_become_32 : q_at cX2_become 32 (.iconst 0) 1 33 := ⟨by decide +kernel, rfl⟩
theorem dX2_become_33 : q_at cX2_become 33 (.aload_n 3) 1 34 := ⟨by decide +kernel, rfl⟩
theorem dX2_become_34 : q_at cX2_become 34 (.iconst 0) 1 35 := ⟨by decide +kernel, rfl⟩
theorem dX2_become_35 : q_at cX2_become 35 (.bipush 12) 2 37 := ⟨by decide +kernel, rfl⟩
theorem dX2_become_37 : q_at cX2_become 37 (.invokestatic 71) 3 40 := ⟨by decide +kernel, rfl⟩
theorem dX2_become_40 : q_at cX2_become 40 (.iinc 2 1) 3 43 := ⟨by decide +kernel, rfl⟩
theorem dX2_become_43 : q_at cX2_become 43 (.goto (-41)) 3 46 := ⟨by decide +kernel, rfl⟩
theorem dX2_become_46 : q_at cX2_become 46 (.aload_n 1) 1 47 := ⟨by decide +kernel, rfl⟩
theorem dX2_become_47 : q_at cX2_become 47 (.getfield 50) 3 50 := ⟨by decide +kernel, rfl⟩
theorem dX2_become_50 : q_at cX2_become 50 (.iconst 0) 1 51 := ⟨by decide +kernel, rfl⟩
theorem dX2_become_51 : q_at cX2_become 51 (.aload_n 0) 1 52 := ⟨by decide +kernel, rfl⟩
theorem dX2_become_52 : q_at cX2_become 52 (.getfield 50) 3 55 := ⟨by decide +kernel, rfl⟩
theorem dX2_become_55 : q_at cX2_become 55 (.iconst 0) 1 56 := ⟨by decide +kernel, rfl⟩
theorem dX2_become_56 : q_at cX2_become 56 (.aload_n 0) 1 57 := ⟨by decide +kernel, rfl⟩
theorem dX2_become_57 : q_at cX2_become 57 (.getfield 50) 3 60 := ⟨by decide +kernel, rfl⟩
theorem dX2_become_60 : q_at cX2_become 60 (.arraylength) 1 61 := ⟨by decide +kernel, rfl⟩
theorem dX2_become_61 : q_at cX2_become 61 (.invokestatic 71) 3 64 := ⟨by decide +kernel, rfl⟩
theorem dX2_become_64 : q_at cX2_become 64 (.aload_n 1) 1 65 := ⟨by decide +kernel, rfl⟩
theorem dX2_become_65 : q_at cX2_become 65 (.getfield 53) 3 68 := ⟨by decide +kernel, rfl⟩
theorem dX2_become_68 : q_at cX2_become 68 (.iconst 0) 1 69 := ⟨by decide +kernel, rfl⟩
theorem dX2_become_69 : q_at cX2_become 69 (.aload_n 0) 1 70 := ⟨by decide +kernel, rfl⟩
theorem dX2_become_70 : q_at cX2_become 70 (.getfield 53) 3 73 := ⟨by decide +kernel, rfl⟩
theorem dX2_become_73 : q_at cX2_become 73 (.iconst 0) 1 74 := ⟨by decide +kernel, rfl⟩
theorem dX2_become_74 : q_at cX2_become 74 (.aload_n 0) 1 75 := ⟨by decide +kernel, rfl⟩
theorem dX2_become_75 : q_at cX2_become 75 (.getfield 53) 3 78 := ⟨by decide +kernel, rfl⟩
theorem dX2_become_78 : q_at cX2_become 78 (.arraylength) 1 79 := ⟨by decide +kernel, rfl⟩
theorem dX2_become_79 : q_at cX2_become 79 (.invokestatic 71) 3 82 := ⟨by decide +kernel, rfl⟩
theorem dX2_become_82 : q_at cX2_become 82 (.aload_n 0) 1 83 := ⟨by decide +kernel, rfl⟩
theorem dX2_become_83 : q_at cX2_become 83 (.aload_n 1) 1 84 := ⟨by decide +kernel, rfl⟩
theorem dX2_become_84 : q_at cX2_become 84 (.getfield 56) 3 87 := ⟨by decide +kernel, rfl⟩
theorem dX2_become_87 : q_at cX2_become 87 (.putfield 56) 3 90 := ⟨by decide +kernel, rfl⟩
theorem dX2_become_90 : q_at cX2_become 90 (.return_) 1 91 := ⟨by decide +kernel, rfl⟩
theorem dX2_getChecks_0 : q_at cX2_getChecks 0 (.aload_n 0) 1 1 := ⟨by decide +kernel, rfl⟩
theorem dX2_getChecks_1 : q_at cX2_getChecks 1 (.getfield 27) 3 4 := ⟨by decide +kernel, rfl⟩
theorem dX2_getChecks_4 : q_at cX2_getChecks 4 (.iload_n 1) 1 5 := ⟨by decide +kernel, rfl⟩
theorem dX2_getChecks_5 : q_at cX2_getChecks 5 (.ldc 81) 2 7 := ⟨by decide +kernel, rfl⟩
theorem dX2_getChecks_7 : q_at cX2_getChecks 7 (.aload_n 0) 1 8 := ⟨by decide +kernel, rfl⟩
theorem dX2_getChecks_8 : q_at cX2_getChecks 8 (.getfield 27) 3 11 := ⟨by decide +kernel, rfl⟩
theorem dX2_getChecks_11 : q_at cX2_getChecks 11 (.iload_n 1) 1 12 := ⟨by decide +kernel, rfl⟩
theorem dX2_getChecks_12 : q_at cX2_getChecks 12 (.iaload) 1 13 := ⟨by decide +kernel, rfl⟩
theorem dX2_getChecks_13 : q_at cX2_getChecks 13 (.iload_n 2) 1 14 := ⟨by decide +kernel, rfl⟩
theorem dX2_getChecks_14 : q_at cX2_getChecks 14 (.iadd) 1 15 := ⟨by decide +kernel, rfl⟩
theorem dX2_getChecks_15 : q_at cX2_getChecks 15 (.invokestatic 82) 3 18 := ⟨by decide +kernel, rfl⟩
theorem dX2_getChecks_18 : q_at cX2_getChecks 18 (.iastore) 1 19 := ⟨by decide +kernel, rfl⟩
theorem dX2_getChecks_19 : q_at cX2_getChecks 19 (.return_) 1 20 := ⟨by decide +kernel, rfl⟩
theorem dX2_getCoin_0 : q_at cX2_getCoin 0 (.aload_n 0) 1 1 := ⟨by decide +kernel, rfl⟩
theorem dX2_getCoin_1 : q_at cX2_getCoin 1 (.getfield 24) 3 4 := ⟨by decide +kernel, rfl⟩
theorem dX2_getCoin_4 : q_at cX2_getCoin 4 (.iload_n 1) 1 5 := ⟨by decide +kernel, rfl⟩
theorem dX2_getCoin_5 : q_at cX2_getCoin 5 (.ldc 81) 2 7 := ⟨by decide +kernel, rfl⟩
theorem dX2_getCoin_7 : q_at cX2_getCoin 7 (.aload_n 0) 1 8 := ⟨by decide +kernel, rfl⟩
theorem dX2_getCoin_8 : q_at cX2_getCoin 8 (.getfield 24) 3 11 := ⟨by decide +kernel, rfl⟩
theorem dX2_getCoin_11 : q_at cX2_getCoin 11 (.iload_n 1) 1 12 := ⟨by decide +kernel, rfl⟩
theorem dX2_getCoin_12 : q_at cX2_getCoin 12 (.iaload) 1 13 := ⟨by decide +kernel, rfl⟩
theorem dX2_getCoin_13 : q_at cX2_getCoin 13 (.iload_n 2) 1 14 := ⟨by decide +kernel, rfl⟩
theorem dX2_getCoin_14 : q_at cX2_getCoin 14 (.iadd) 1 15 := ⟨by decide +kernel, rfl⟩
theorem dX2_getCoin_15 : q_at cX2_getCoin 15 (.invokestatic 82) 3 18 := ⟨by decide +kernel, rfl⟩
theorem dX2_getCoin_18 : q_at cX2_getCoin 18 (.iastore) 1 19 := ⟨by decide +kernel, rfl⟩
theorem dX2_getCoin_19 : q_at cX2_getCoin 19 (.return_) 1 20 := ⟨by decide +kernel, rfl⟩
theorem dX2_inPit_0 : q_at cX2_inPit 0 (.iconst 0) 1 1 := ⟨by decide +kernel, rfl⟩
theorem dX2_inPit_1 : q_at cX2_inPit 1 (.istore_n 2) 1 2 := ⟨by decide +kernel, rfl⟩
theorem dX2_inPit_2 : q_at cX2_inPit 2 (.iconst 0) 1 3 := ⟨by decide +kernel, rfl⟩
theorem dX2_inPit_3 : q_at cX2_inPit 3 (.istore_n 3) 1 4 := ⟨by decide +kernel, rfl⟩
theorem dX2_inPit_4 : q_at cX2_inPit 4 (.iload_n 3) 1 5 := ⟨by decide +kernel, rfl⟩
theorem dX2_inPit_5 : q_at cX2_inPit 5 (.aload_n 0) 1 6 := ⟨by decide +kernel, rfl⟩
theorem dX2_inPit_6 : q_at cX2_inPit 6 (.getfield 56) 3 9 := ⟨by decide +kernel, rfl⟩
theorem dX2_inPit_9 : q_at cX2_inPit 9 (.if_icmp .ge 30) 3 12 := ⟨by decide +kernel, rfl⟩
theorem dX2_inPit_12 : q_at cX2_inPit 12 (.aload_n 0) 1 13 := ⟨by decide +kernel, rfl⟩
theorem dX2_inPit_13 : q_at cX2_inPit 13 (.getfield 11) 3 16 := ⟨by decide +kernel, rfl⟩
theorem dX2_inPit_16 : q_at cX2_inPit 16 (.iload_n 3) 1 17 := ⟨by decide +kernel, rfl⟩
theorem dX2_inPit_17 : q_at cX2_inPit 17 (.iaload) 1 18 := ⟨by decide +kernel, rfl⟩
theorem dX2_inPit_18 : q_at cX2_inPit 18 (.iload_n 1) 1 19 := ⟨by decide +kernel, rfl⟩
theorem dX2_inPit_19 : q_at cX2_inPit 19 (.if_icmp .ne 14) 3 22 := ⟨by decide +kernel, rfl⟩
theorem dX2_inPit_22 : q_at cX2_inPit 22 (.aload_n 0) 1 23 := ⟨by decide +kernel, rfl⟩
theorem dX2_inPit_23 : q_at cX2_inPit 23 (.iload_n 3) 1 24 := ⟨by decide +kernel, rfl⟩
theorem dX2_inPit_24 : q_at cX2_inPit 24 (.invokevirtual 77) 3 27 := ⟨by decide +kernel, rfl⟩
theorem dX2_inPit_27 : q_at cX2_inPit 27 (.ifCond .ne 6) 3 30 := ⟨by decide +kernel, rfl⟩
theorem dX2_inPit_30 : q_at cX2_inPit 30 (.iinc 2 1) 3 33 := ⟨by decide +kernel, rfl⟩
theorem dX2_inPit_33 : q_at cX2_inPit 33 (.iinc 3 1) 3 36 := ⟨by decide +kernel, rfl⟩
theorem dX2_inPit_36 : q_at cX2_inPit 36 (.goto (-32)) 3 39 := ⟨by decide +kernel, rfl⟩
theorem dX2_inPit_39 : q_at cX2_inPit 39 (.iload_n 2) 1 40 := ⟨by decide +kernel, rfl⟩
theorem dX2_inPit_40 : q_at cX2_inPit 40 (.ireturn) 1 41 := ⟨by decide +kernel, rfl⟩
theorem dX5_goOn_0 : q_at cX5_goOn 0 (.aload_n 0) 1 1 := ⟨by decide +kernel, rfl⟩
theorem dX5_goOn_1 : q_at cX5_goOn 1 (.getfield 32) 3 4 := ⟨by decide +kernel, rfl⟩
theorem dX5_goOn_4 : q_at cX5_goOn 4 (.iconst 1) 1 5 := ⟨by decide +kernel, rfl⟩
theorem dX5_goOn_5 : q_at cX5_goOn 5 (.if_icmp .eq 11) 3 8 := ⟨by decide +kernel, rfl⟩
theorem dX5_goOn_8 : q_at cX5_goOn 8 (.aload_n 0) 1 9 := ⟨by decide +kernel, rfl⟩
theorem dX5_goOn_9 : q_at cX5_goOn 9 (.getfield 32) 3 12 := ⟨by decide +kernel, rfl⟩
theorem dX5_goOn_12 : q_at cX5_goOn 12 (.iconst 2) 1 13 := ⟨by decide +kernel, rfl⟩
theorem dX5_goOn_13 : q_at cX5_goOn 13 (.if_icmp .ne 10) 3 16 := ⟨by decide +kernel, rfl⟩
theorem dX5_goOn_16 : q_at cX5_goOn 16 (.aload_n 0) 1 17 := ⟨by decide +kernel, rfl⟩
theorem dX5_goOn_17 : q_at cX5_goOn 17 (.getfield 35) 3 20 := ⟨by decide +kernel, rfl⟩
theorem dX5_goOn_20 : q_at cX5_goOn 20 (.goto 4) 3 23 := ⟨by decide +kernel, rfl⟩
theorem dX5_goOn_23 : q_at cX5_goOn 23 (.iconst (-1)) 1 24 := ⟨by decide +kernel, rfl⟩
theorem dX5_goOn_24 : q_at cX5_goOn 24 (.istore_n 1) 1 25 := ⟨by decide +kernel, rfl⟩
theorem dX5_goOn_25 : q_at cX5_goOn 25 (.aload_n 0) 1 26 := ⟨by decide +kernel, rfl⟩
theorem dX5_goOn_26 : q_at cX5_goOn 26 (.aload_n 0) 1 27 := ⟨by decide +kernel, rfl⟩
theorem dX5_goOn_27 : q_at cX5_goOn 27 (.getfield 35) 3 30 := ⟨by decide +kernel, rfl⟩
theorem dX5_goOn_30 : q_at cX5_goOn 30 (.putfield 48) 3 33 := ⟨by decide +kernel, rfl⟩
theorem dX5_goOn_33 : q_at cX5_goOn 33 (.aload_n 0) 1 34 := ⟨by decide +kernel, rfl⟩
theorem dX5_goOn_34 : q_at cX5_goOn 34 (.getfield 48) 3 37 := ⟨by decide +kernel, rfl⟩
theorem dX5_goOn_37 : q_at cX5_goOn 37 (.aload_n 0) 1 38 := ⟨by decide +kernel, rfl⟩
theorem dX5_goOn_38 : q_at cX5_goOn 38 (.getfield 16) 3 41 := ⟨by decide +kernel, rfl⟩
theorem dX5_goOn_41 : q_at cX5_goOn 41 (.if_icmp .ge 30) 3 44 := ⟨by decide +kernel, rfl⟩
theorem dX5_goOn_44 : q_at cX5_goOn 44 (.aload_n 0) 1 45 := ⟨by decide +kernel, rfl⟩
theorem dX5_goOn_45 : q_at cX5_goOn 45 (.getfield 9) 3 48 := ⟨by decide +kernel, rfl⟩
theorem dX5_goOn_48 : q_at cX5_goOn 48 (.aload_n 0) 1 49 := ⟨by decide +kernel, rfl⟩
theorem dX5_goOn_49 : q_at cX5_goOn 49 (.getfield 48) 3 52 := ⟨by decide +kernel, rfl⟩
theorem dX5_goOn_52 : q_at cX5_goOn 52 (.iaload) 1 53 := ⟨by decide +kernel, rfl⟩
theorem dX5_goOn_53 : q_at cX5_goOn 53 (.bipush 32) 2 55 := ⟨by decide +kernel, rfl⟩
theorem dX5_goOn_55 : q_at cX5_goOn 55 (.if_icmp .ne 16) 3 58 := ⟨by decide +kernel, rfl⟩
theorem dX5_goOn_58 : q_at cX5_goOn 58 (.aload_n 0) 1 59 := ⟨by decide +kernel, rfl⟩
theorem dX5_goOn_59 : q_at cX5_goOn 59 (.dup) 1 60 := ⟨by decide +kernel, rfl⟩
theorem dX5_goOn_60 : q_at cX5_goOn 60 (.getfield 48) 3 63 := ⟨by decide +kernel, rfl⟩
theorem dX5_goOn_63 : q_at cX5_goOn 63 (.iconst 1) 1 64 := ⟨by decide +kernel, rfl⟩
theorem dX5_goOn_64 : q_at cX5_goOn 64 (.iadd) 1 65 := ⟨by decide +kernel, rfl⟩
theorem dX5_goOn_65 : q_at cX5_goOn 65 (.putfield 48) 3 68 := ⟨by decide +kernel, rfl⟩
theorem dX5_goOn_68 : q_at cX5_goOn 68 (.goto (-35)) 3 71 := ⟨by decide +kernel, rfl⟩
theorem dX5_goOn_71 : q_at cX5_goOn 71 (.aload_n 0) 1 72 := ⟨by decide +kernel, rfl⟩
theorem dX5_goOn_72 : q_at cX5_goOn 72 (.aload_n 0) 1 73 := ⟨by decide +kernel, rfl⟩
theorem dX5_goOn_73 : q_at cX5_goOn 73 (.getfield 48) 3 76 := ⟨by decide +kernel, rfl⟩
theorem dX5_goOn_76 : q_at cX5_goOn 76 (.putfield 35) 3 79 := ⟨by decide +kernel, rfl⟩
theorem dX5_goOn_79 : q_at cX5_goOn 79 (.aload_n 0) 1 80 := ⟨by decide +kernel, rfl⟩
theorem dX5_goOn_80 : q_at cX5_goOn 80 (.getfield 48) 3 83 := ⟨by decide +kernel, rfl⟩
theorem dX5_goOn_83 : q_at cX5_goOn 83 (.aload_n 0) 1 84 := ⟨by decide +kernel, rfl⟩
theorem dX5_goOn_84 : q_at cX5_goOn 84 (.getfield 16) 3 87 := ⟨by decide +kernel, rfl⟩
theorem dX5_goOn_87 : q_at cX5_goOn 87 (.if_icmp .lt 11) 3 90 := ⟨by decide +kernel, rfl⟩
theorem dX5_goOn_90 : q_at cX5_goOn 90 (.aload_n 0) 1 91 := ⟨by decide +kernel, rfl⟩
theorem dX5_goOn_91 : q_at cX5_goOn 91 (.iconst 0) 1 92 := ⟨by decide +kernel, rfl⟩
theorem dX5_goOn_92 : q_at cX5_goOn 92 (.putfield 32) 3 95 := ⟨by decide +kernel, rfl⟩
theorem dX5_goOn_95 : q_at cX5_goOn 95 (.goto 159) 3 98 := ⟨by decide +kernel, rfl⟩
theorem dX5_goOn_98 : q_at cX5_goOn 98 (.aload_n 0) 1 99 := ⟨by decide +kernel, rfl⟩
theorem dX5_goOn_99 : q_at cX5_goOn 99 (.getfield 9) 3 102 := ⟨by decide +kernel, rfl⟩
theorem dX5_goOn_102 : q_at cX5_goOn 102 (.aload_n 0) 1 103 := ⟨by decide +kernel, rfl⟩
theorem dX5_goOn_103 : q_at cX5_goOn 103 (.getfield 48) 3 106 := ⟨by decide +kernel, rfl⟩
theorem dX5_goOn_106 : q_at cX5_goOn 106 (.iaload) 1 107 := ⟨by decide +kernel, rfl⟩
theorem dX5_goOn_107 : q_at cX5_goOn 107 (.invokestatic 55) 3 110 := ⟨by decide +kernel, rfl⟩
theorem dX5_goOn_110 : q_at cX5_goOn 110 (.ifCond .eq 50) 3 113 := ⟨by decide +kernel, rfl⟩
theorem dX5_goOn_113 : q_at cX5_goOn 113 (.aload_n 0) 1 114 := ⟨by decide +kernel, rfl⟩
theorem dX5_goOn_114 : q_at cX5_goOn 114 (.getfield 35) 3 117 := ⟨by decide +kernel, rfl⟩
theorem dX5_goOn_117 : q_at cX5_goOn 117 (.aload_n 0) 1 118 := ⟨by decide +kernel, rfl⟩
theorem dX5_goOn_118 : q_at cX5_goOn 118 (.getfield 16) 3 121 := ⟨by decide +kernel, rfl⟩
theorem dX5_goOn_121 : q_at cX5_goOn 121 (.if_icmp .ge 31) 3 124 := ⟨by decide +kernel, rfl⟩
theorem dX5_goOn_124 : q_at cX5_goOn 124 (.aload_n 0) 1 125 := ⟨by decide +kernel, rfl⟩
theorem dX5_goOn_125 : q_at cX5_goOn 125 (.getfield 9) 3 128 := ⟨by decide +kernel, rfl⟩
theorem dX5_goOn_128 : q_at cX5_goOn 128 (.aload_n 0) 1 129 := ⟨by decide +kernel, rfl⟩
theorem dX5_goOn_129 : q_at cX5_goOn 129 (.getfield 35) 3 132 := ⟨by decide +kernel, rfl⟩
theorem dX5_goOn_132 : q_at cX5_goOn 132 (.iaload) 1 133 := ⟨by decide +kernel, rfl⟩
theorem dX5_goOn_133 : q_at cX5_goOn 133 (.invokestatic 55) 3 136 := ⟨by decide +kernel, rfl⟩
theorem dX5_goOn_136 : q_at cX5_goOn 136 (.ifCond .eq 16) 3 139 := ⟨by decide +kernel, rfl⟩
theorem dX5_goOn_139 : q_at cX5_goOn 139 (.aload_n 0) 1 140 := ⟨by decide +kernel, rfl⟩
theorem dX5_goOn_140 : q_at cX5_goOn 140 (.dup) 1 141 := ⟨by decide +kernel, rfl⟩
theorem dX5_goOn_141 : q_at cX5_goOn 141 (.getfield 35) 3 144 := ⟨by decide +kernel, rfl⟩
theorem dX5_goOn_144 : q_at cX5_goOn 144 (.iconst 1) 1 145 := ⟨by decide +kernel, rfl⟩
theorem dX5_goOn_145 : q_at cX5_goOn 145 (.iadd) 1 146 := ⟨by decide +kernel, rfl⟩
theorem dX5_goOn_146 : q_at cX5_goOn 146 (.putfield 35) 3 149 := ⟨by decide +kernel, rfl⟩
theorem dX5_goOn_149 : q_at cX5_goOn 149 (.goto (-36)) 3 152 := ⟨by decide +kernel, rfl⟩
theorem dX5_goOn_152 : q_at cX5_goOn 152 (.aload_n 0) 1 153 := ⟨by decide +kernel, rfl⟩
theorem dX5_goOn_153 : q_at cX5_goOn 153 (.iconst 1) 1 154 := ⟨by decide +kernel, rfl⟩
theorem dX5_goOn_154 : q_at cX5_goOn 154 (.putfield 32) 3 157 := ⟨by decide +kernel, rfl⟩
theorem dX5_goOn_157 : q_at cX5_goOn 157 (.goto 97) 3 160 := ⟨by decide +kernel, rfl⟩
theorem dX5_goOn_160 : q_at cX5_goOn 160 (.aload_n 0) 1 161 := ⟨by decide +kernel, rfl⟩
theorem dX5_goOn_161 : q_at cX5_goOn 161 (.getfield 9) 3 164 := ⟨by decide +kernel, rfl⟩
theorem dX5_goOn_164 : q_at cX5_goOn 164 (.aload_n 0) 1 165 := ⟨by decide +kernel, rfl⟩
theorem dX5_goOn_165 : q_at cX5_goOn 165 (.getfield 48) 3 168 := ⟨by decide +kernel, rfl⟩
theorem dX5_goOn_168 : q_at cX5_goOn 168 (.iaload) 1 169 := ⟨by decide +kernel, rfl⟩
theorem dX5_goOn_169 : q_at cX5_goOn 169 (.invokestatic 59) 3 172 := ⟨by decide +kernel, rfl⟩
theorem dX5_goOn_172 : q_at cX5_goOn 172 (.ifCond .eq 67) 3 175 := ⟨by decide +kernel, rfl⟩
theorem dX5_goOn_175 : q_at cX5_goOn 175 (.aload_n 0) 1 176 := ⟨by decide +kernel, rfl⟩
theorem dX5_goOn_176 : q_at cX5_goOn 176 (.getfield 35) 3 179 := ⟨by decide +kernel, rfl⟩
theorem dX5_goOn_179 : q_at cX5_goOn 179 (.aload_n 0) 1 180 := ⟨by decide +kernel, rfl⟩
theorem dX5_goOn_180 : q_at cX5_goOn 180 (.getfield 16) 3 183 := ⟨by decide +kernel, rfl⟩
theorem dX5_goOn_183 : q_at cX5_goOn 183 (.if_icmp .ge 31) 3 186 := ⟨by decide +kernel, rfl⟩
theorem dX5_goOn_186 : q_at cX5_goOn 186 (.aload_n 0) 1 187 := ⟨by decide +kernel, rfl⟩
theorem dX5_goOn_187 : q_at cX5_goOn 187 (.getfield 9) 3 190 := ⟨by decide +kernel, rfl⟩
theorem dX5_goOn_190 : q_at cX5_goOn 190 (.aload_n 0) 1 191 := ⟨by decide +kernel, rfl⟩
theorem dX5_goOn_191 : q_at cX5_goOn 191 (.getfield 35) 3 194 := ⟨by decide +kernel, rfl⟩
theorem dX5_goOn_194 : q_at cX5_goOn 194 (.iaload) 1 195 := ⟨by decide +kernel, rfl⟩
theorem dX5_goOn_195 : q_at cX5_goOn 195 (.invokestatic 59) 3 198 := ⟨by decide +kernel, rfl⟩
theorem dX5_goOn_198 : q_at cX5_goOn 198 (.ifCond .eq 16) 3 201 := ⟨by decide +kernel, rfl⟩
theorem dX5_goOn_201 : q_at cX5_goOn 201 (.aload_n 0) 1 202 := ⟨by decide +kernel, rfl⟩
theorem dX5_goOn_202 : q_at cX5_goOn 202 (.dup) 1 203 := ⟨by decide +kernel, rfl⟩
theorem dX5_goOn_203 : q_at cX5_goOn 203 (.getfield 35) 3 206 := ⟨by decide +kernel, rfl⟩
theorem dX5_goOn_206 : q_at cX5_goOn 206 (.iconst 1) 1 207 := ⟨by decide +kernel, rfl⟩
theorem dX5_goOn_207 : q_at cX5_goOn 207 (.iadd) 1 208 := ⟨by decide +kernel, rfl⟩
theorem dX5_goOn_208 : q_at cX5_goOn 208 (.putfield 35) 3 211 := ⟨by decide +kernel, rfl⟩
theorem dX5_goOn_211 : q_at cX5_goOn 211 (.goto (-36)) 3 214 := ⟨by decide +kernel, rfl⟩
theorem dX5_goOn_214 : q_at cX5_goOn 214 (.aload_n 0) 1 215 := ⟨by decide +kernel, rfl⟩
theorem dX5_goOn_215 : q_at cX5_goOn 215 (.aload_n 0) 1 216 := ⟨by decide +kernel, rfl⟩
theorem dX5_goOn_216 : q_at cX5_goOn 216 (.getfield 35) 3 219 := ⟨by decide +kernel, rfl⟩
theorem dX5_goOn_219 : q_at cX5_goOn 219 (.aload_n 0) 1 220 := ⟨by decide +kernel, rfl⟩
theorem dX5_goOn_220 : q_at cX5_goOn 220 (.getfield 48) 3 223 := ⟨by decide +kernel, rfl⟩
theorem dX5_goOn_223 : q_at cX5_goOn 223 (.isub) 1 224 := ⟨by decide +kernel, rfl⟩
theorem dX5_goOn_224 : q_at cX5_goOn 224 (.iconst 4) 1 225 := ⟨by decide +kernel, rfl⟩
theorem dX5_goOn_225 : q_at cX5_goOn 225 (.if_icmp .le 7) 3 228 := ⟨by decide +kernel, rfl⟩
theorem dX5_goOn_228 : q_at cX5_goOn 228 (.iconst 4) 1 229 := ⟨by decide +kernel, rfl⟩
theorem dX5_goOn_229 : q_at cX5_goOn 229 (.goto 4) 3 232 := ⟨by decide +kernel, rfl⟩
theorem dX5_goOn_232 : q_at cX5_goOn 232 (.iconst 2) 1 233 := ⟨by decide +kernel, rfl⟩
theorem dX5_goOn_233 : q_at cX5_goOn 233 (.putfield 32) 3 236 := ⟨by decide +kernel, rfl⟩
theorem dX5_goOn_236 : q_at cX5_goOn 236 (.goto 18) 3 239 := ⟨by decide +kernel, rfl⟩
theorem dX5_goOn_239 : q_at cX5_goOn 239 (.aload_n 0) 1 240 := ⟨by decide +kernel, rfl⟩
theorem dX5_goOn_240 : q_at cX5_goOn 240 (.aload_n 0) 1 241 := ⟨by decide +kernel, rfl⟩
theorem dX5_goOn_241 : q_at cX5_goOn 241 (.getfield 48) 3 244 := ⟨by decide +kernel, rfl⟩
theorem dX5_goOn_244 : q_at cX5_goOn 244 (.iconst 1) 1 245 := ⟨by decide +kernel, rfl⟩
theorem dX5_goOn_245 : q_at cX5_goOn 245 (.iadd) 1 246 := ⟨by decide +kernel, rfl⟩
theorem dX5_goOn_246 : q_at cX5_goOn 246 (.putfield 35) 3 249 := ⟨by decide +kernel, rfl⟩
theorem dX5_goOn_249 : q_at cX5_goOn 249 (.aload_n 0) 1 250 := ⟨by decide +kernel, rfl⟩
theorem dX5_goOn_250 : q_at cX5_goOn 250 (.iconst 3) 1 251 := ⟨by decide +kernel, rfl⟩
theorem dX5_goOn_251 : q_at cX5_goOn 251 (.putfield 32) 3 254 := ⟨by decide +kernel, rfl⟩
theorem dX5_goOn_254 : q_at cX5_goOn 254 (.aload_n 0) 1 255 := ⟨by decide +kernel, rfl⟩
theorem dX5_goOn_255 : q_at cX5_goOn 255 (.getfield 48) 3 258 := ⟨by decide +kernel, rfl⟩
theorem dX5_goOn_258 : q_at cX5_goOn 258 (.iload_n 1) 1 259 := ⟨by decide +kernel, rfl⟩
theorem dX5_goOn_259 : q_at cX5_goOn 259 (.if_icmp .ne 24) 3 262 := ⟨by decide +kernel, rfl⟩
theorem dX5_goOn_262 : q_at cX5_goOn 262 (.aload_n 0) 1 263 := ⟨by decide +kernel, rfl⟩
theorem dX5_goOn_263 : q_at cX5_goOn 263 (.getfield 32) 3 266 := ⟨by decide +kernel, rfl⟩
theorem dX5_goOn_266 : q_at cX5_goOn 266 (.iconst 1) 1 267 := ⟨by decide +kernel, rfl⟩
theorem dX5_goOn_267 : q_at cX5_goOn 267 (.if_icmp .eq 11) 3 270 := ⟨by decide +kernel, rfl⟩
theorem dX5_goOn_270 : q_at cX5_goOn 270 (.aload_n 0) 1 271 := ⟨by decide +kernel, rfl⟩
theorem dX5_goOn_271 : q_at cX5_goOn 271 (.getfield 32) 3 274 := ⟨by decide +kernel, rfl⟩
theorem dX5_goOn_274 : q_at cX5_goOn 274 (.iconst 2) 1 275 := ⟨by decide +kernel, rfl⟩
theorem dX5_goOn_275 : q_at cX5_goOn 275 (.if_icmp .ne 8) 3 278 := ⟨by decide +kernel, rfl⟩
theorem dX5_goOn_278 : q_at cX5_goOn 278 (.aload_n 0) 1 279 := ⟨by decide +kernel, rfl⟩
theorem dX5_goOn_279 : q_at cX5_goOn 279 (.iconst 4) 1 280 := ⟨by decide +kernel, rfl⟩
theorem dX5_goOn_280 : q_at cX5_goOn 280 (.putfield 32) 3 283 := ⟨by decide +kernel, rfl⟩
theorem dX5_goOn_283 : q_at cX5_goOn 283 (.return_) 1 284 := ⟨by decide +kernel, rfl⟩
theorem dX5_joinsAt_0 : q_at cX5_joinsAt 0 (.iload_n 1) 1 1 := ⟨by decide +kernel, rfl⟩
theorem dX5_joinsAt_1 : q_at cX5_joinsAt 1 (.tableswitch 102 0 3 #[31, 38, 45, 78]) 31 32 := ⟨by decide +kernel, rfl⟩
theorem dX5_joinsAt_32 : q_at cX5_joinsAt 32 (.aload_n 0) 1 33 := ⟨by decide +kernel, rfl⟩
theorem dX5_joinsAt_33 : q_at cX5_joinsAt 33 (.bipush 124) 2 35 := ⟨by decide +kernel, rfl⟩
theorem dX5_joinsAt_35 : q_at cX5_joinsAt 35 (.invokevirtual 119) 3 38 := ⟨by decide +kernel, rfl⟩
theorem dX5_joinsAt_38 : q_at cX5_joinsAt 38 (.ireturn) 1 39 := ⟨by decide +kernel, rfl⟩
theorem dX5_joinsAt_39 : q_at cX5_joinsAt 39 (.aload_n 0) 1 40 := ⟨by decide +kernel, rfl⟩
theorem dX5_joinsAt_40 : q_at cX5_joinsAt 40 (.bipush 38) 2 42 := ⟨by decide +kernel, rfl⟩
theorem dX5_joinsAt_42 : q_at cX5_joinsAt 42 (.invokevirtual 119) 3 45 := ⟨by decide +kernel, rfl⟩
theorem dX5_joinsAt_45 : q_at cX5_joinsAt 45 (.ireturn) 1 46 := ⟨by decide +kernel, rfl⟩
theorem dX5_joinsAt_46 : q_at cX5_joinsAt 46 (.aload_n 0) 1 47 := ⟨by decide +kernel, rfl⟩
theorem dX5_joinsAt_47 : q_at cX5_joinsAt 47 (.bipush 60) 2 49 := ⟨by decide +kernel, rfl⟩
theorem dX5_joinsAt_49 : q_at cX5_joinsAt 49 (.invokevirtual 119) 3 52 := ⟨by decide +kernel, rfl⟩
theorem dX5_joinsAt_52 : q_at cX5_joinsAt 52 (.ifCond .ne 21) 3 55 := ⟨by decide +kernel, rfl⟩
theorem dX5_joinsAt_55 : q_at cX5_joinsAt 55 (.aload_n 0) 1 56 := ⟨by decide +kernel, rfl⟩
theorem dX5_joinsAt_56 : q_at cX5_joinsAt 56 (.bipush 61) 2 58 := ⟨by decide +kernel, rfl⟩
theorem dX5_joinsAt_58 : q_at cX5_joinsAt 58 (.invokevirtual 119) 3 61 := ⟨by decide +kernel, rfl⟩
theorem dX5_joinsAt_61 : q_at cX5_joinsAt 61 (.ifCond .ne 12) 3 64 := ⟨by decide +kernel, rfl⟩
theorem dX5_joinsAt_64 : q_at cX5_joinsAt 64 (.aload_n 0) 1 65 := ⟨by decide +kernel, rfl⟩
theorem dX5_joinsAt_65 : q_at cX5_joinsAt 65 (.bipush 62) 2 67 := ⟨by decide +kernel, rfl⟩
theorem dX5_joinsAt_67 : q_at cX5_joinsAt 67 (.invokevirtual 119) 3 70 := ⟨by decide +kernel, rfl⟩
theorem dX5_joinsAt_70 : q_at cX5_joinsAt 70 (.ifCond .eq 7) 3 73 := ⟨by decide +kernel, rfl⟩
theorem dX5_joinsAt_73 : q_at cX5_joinsAt 73 (.iconst 1) 1 74 := ⟨by decide +kernel, rfl⟩
theorem dX5_joinsAt_74 : q_at cX5_joinsAt 74 (.goto 4) 3 77 := ⟨by decide +kernel, rfl⟩
theorem dX5_joinsAt_77 : q_at cX5_joinsAt 77 (.iconst 0) 1 78 := ⟨by decide +kernel, rfl⟩
theorem dX5_joinsAt_78 : q_at cX5_joinsAt 78 (.ireturn) 1 79 := ⟨by decide +kernel, rfl⟩
theorem dX5_joinsAt_79 : q_at cX5_joinsAt 79 (.aload_n 0) 1 80 := ⟨by decide +kernel, rfl⟩
theorem dX5_joinsAt_80 : q_at cX5_joinsAt 80 (.bipush 43) 2 82 := ⟨by decide +kernel, rfl⟩
theorem dX5_joinsAt_82 : q_at cX5_joinsAt 82 (.invokevirtual 119) 3 85 := ⟨by decide +kernel, rfl⟩
theorem dX5_joinsAt_85 : q_at cX5_joinsAt 85 (.ifCond .ne 12) 3 88 := ⟨by decide +kernel, rfl⟩
theorem dX5_joinsAt_88 : q_at cX5_joinsAt 88 (.aload_n 0) 1 89 := ⟨by decide +kernel, rfl⟩
theorem dX5_joinsAt_89 : q_at cX5_joinsAt 89 (.bipush 45) 2 91 := ⟨by decide +kernel, rfl⟩
theorem dX5_joinsAt_91 : q_at cX5_joinsAt 91 (.invokevirtual 119) 3 94 := ⟨by decide +kernel, rfl⟩
theorem dX5_joinsAt_94 : q_at cX5_joinsAt 94 (.ifCond .eq 7) 3 97 := ⟨by decide +kernel, rfl⟩
theorem dX5_joinsAt_97 : q_at cX5_joinsAt 97 (.iconst 1) 1 98 := ⟨by decide +kernel, rfl⟩
theorem dX5_joinsAt_98 : q_at cX5_joinsAt 98 (.goto 4) 3 101 := ⟨by decide +kernel, rfl⟩
theorem dX5_joinsAt_101 : q_at cX5_joinsAt 101 (.iconst 0) 1 102 := ⟨by decide +kernel, rfl⟩
theorem dX5_joinsAt_102 : q_at cX5_joinsAt 102 (.ireturn) 1 103 := ⟨by decide +kernel, rfl⟩
theorem dX5_joinsAt_103 : q_at cX5_joinsAt 103 (.aload_n 0) 1 104 := ⟨by decide +kernel, rfl⟩
theorem dX5_joinsAt_104 : q_at cX5_joinsAt 104 (.bipush 42) 2 106 := ⟨by decide +kernel, rfl⟩
theorem dX5_joinsAt_106 : q_at cX5_joinsAt 106 (.invokevirtual 119) 3 109 := ⟨by decide +kernel, rfl⟩
theorem dX5_joinsAt_109 : q_at cX5_joinsAt 109 (.ifCond .ne 12) 3 112 := ⟨by decide +kernel, rfl⟩
theorem dX5_joinsAt_112 : q_at cX5_joinsAt 112 (.aload_n 0) 1 113 := ⟨by decide +kernel, rfl⟩
theorem dX5_joinsAt_113 : q_at cX5_joinsAt 113 (.bipush 47) 2 115 := ⟨by decide +kernel, rfl⟩
theorem dX5_joinsAt_115 : q_at cX5_joinsAt 115 (.invokevirtual 119) 3 118 := ⟨by decide +kernel, rfl⟩
theorem dX5_joinsAt_118 : q_at cX5_joinsAt 118 (.ifCond .eq 7) 3 121 := ⟨by decide +kernel, rfl⟩
theorem dX5_joinsAt_121 : q_at cX5_joinsAt 121 (.iconst 1) 1 122 := ⟨by decide +kernel, rfl⟩
theorem dX5_joinsAt_122 : q_at cX5_joinsAt 122 (.goto 4) 3 125 := ⟨by decide +kernel, rfl⟩
theorem dX5_joinsAt_125 : q_at cX5_joinsAt 125 (.iconst 0) 1 126 := ⟨by decide +kernel, rfl⟩
theorem dX5_joinsAt_126 : q_at cX5_joinsAt 126 (.ireturn) 1 127 := ⟨by decide +kernel, rfl⟩
theorem dX7_held_0 : q_at cX7_held 0 (.iload_n 0) 1 1 := ⟨by decide +kernel, rfl⟩
theorem dX7_held_1 : q_at cX7_held 1 (.tableswitch 65 0 3 #[31, 31, 43, 54]) 31 32 := ⟨by decide +kernel, rfl⟩
theorem dX7_held_32 : q_at cX7_held 32 (.iconst 0) 1 33 := ⟨by decide +kernel, rfl⟩
theorem dX7_held_33 : q_at cX7_held 33 (.sipush 9999) 3 36 := ⟨by decide +kernel, rfl⟩
theorem dX7_held_36 : q_at cX7_held 36 (.iload_n 1) 1 37 := ⟨by decide +kernel, rfl⟩
theorem dX7_held_37 : q_at cX7_held 37 (.invokestatic 56) 3 40 := ⟨by decide +kernel, rfl⟩
theorem dX7_held_40 : q_at cX7_held 40 (.invokestatic 61) 3 43 := ⟨by decide +kernel, rfl⟩
theorem dX7_held_43 : q_at cX7_held 43 (.ireturn) 1 44 := ⟨by decide +kernel, rfl⟩
theorem dX7_held_44 : q_at cX7_held 44 (.iconst 1) 1 45 := ⟨by decide +kernel, rfl⟩
theorem dX7_held_45 : q_at cX7_held 45 (.bipush 99) 2 47 := ⟨by decide +kernel, rfl⟩
theorem dX7_held_47 : q_at cX7_held 47 (.iload_n 1) 1 48 := ⟨by decide +kernel, rfl⟩
theorem dX7_held_48 : q_at cX7_held 48 (.invokestatic 56) 3 51 := ⟨by decide +kernel, rfl⟩
theorem dX7_held_51 : q_at cX7_held 51 (.invokestatic 61) 3 54 := ⟨by decide +kernel, rfl⟩
theorem dX7_held_54 : q_at cX7_held 54 (.ireturn) 1 55 := ⟨by decide +kernel, rfl⟩
theorem dX7_held_55 : q_at cX7_held 55 (.iconst 0) 1 56 := ⟨by decide +kernel, rfl⟩
theorem dX7_held_56 : q_at cX7_held 56 (.bipush 100) 2 58 := ⟨by decide +kernel, rfl⟩
theorem dX7_held_58 : q_at cX7_held 58 (.iload_n 1) 1 59 := ⟨by decide +kernel, rfl⟩
theorem dX7_held_59 : q_at cX7_held 59 (.invokestatic 56) 3 62 := ⟨by decide +kernel, rfl⟩
theorem dX7_held_62 : q_at cX7_held 62 (.invokestatic 61) 3 65 := ⟨by decide +kernel, rfl⟩
theorem dX7_held_65 : q_at cX7_held 65 (.ireturn) 1 66 := ⟨by decide +kernel, rfl⟩
theorem dX7_held_66 : q_at cX7_held 66 (.iload_n 1) 1 67 := ⟨by decide +kernel, rfl⟩
theorem dX7_held_67 : q_at cX7_held 67 (.ireturn) 1 68 := ⟨by decide +kernel, rfl⟩
theorem dX7_value_0 : q_at cX7_value 0 (.aload_n 0) 1 1 := ⟨by decide +kernel, rfl⟩
theorem dX7_value_1 : q_at cX7_value 1 (.getfield 22) 3 4 := ⟨by decide +kernel, rfl⟩
theorem dX7_value_4 : q_at cX7_value 4 (.iload_n 1) 1 5 := ⟨by decide +kernel, rfl⟩
theorem dX7_value_5 : q_at cX7_value 5 (.aaload) 1 6 := ⟨by decide +kernel, rfl⟩
theorem dX7_value_6 : q_at cX7_value 6 (.astore 5) 2 8 := ⟨by decide +kernel, rfl⟩
theorem dX7_value_8 : q_at cX7_value 8 (.aload 5) 2 10 := ⟨by decide +kernel, rfl⟩
theorem dX7_value_10 : q_at cX7_value 10 (.ifnonnull 5) 3 13 := ⟨by decide +kernel, rfl⟩
theorem dX7_value_13 : q_at cX7_value 13 (.iconst 0) 1 14 := ⟨by decide +kernel, rfl⟩
theorem dX7_value_14 : q_at cX7_value 14 (.ireturn) 1 15 := ⟨by decide +kernel, rfl⟩
theorem dX7_value_15 : q_at cX7_value 15 (.iconst 0) 1 16 := ⟨by decide +kernel, rfl⟩
theorem dX7_value_16 : q_at cX7_value 16 (.istore 6) 2 18 := ⟨by decide +kernel, rfl⟩
theorem dX7_value_18 : q_at cX7_value 18 (.iconst 0) 1 19 := ⟨by decide +kernel, rfl⟩
theorem dX7_value_19 : q_at cX7_value 19 (.istore 7) 2 21 := ⟨by decide +kernel, rfl⟩
theorem dX7_value_21 : q_at cX7_value 21 (.iload 7) 2 23 := ⟨by decide +kernel, rfl⟩
theorem dX7_value_23 : q_at cX7_value 23 (.aload 5) 2 25 := ⟨by decide +kernel, rfl⟩
theorem dX7_value_25 : q_at cX7_value 25 (.arraylength) 1 26 := ⟨by decide +kernel, rfl⟩
theorem dX7_value_26 : q_at cX7_value 26 (.if_icmp .ge 156) 3 29 := ⟨by decide +kernel, rfl⟩
theorem dX7_value_29 : q_at cX7_value 29 (.aload 5) 2 31 := ⟨by decide +kernel, rfl⟩
theorem dX7_value_31 : q_at cX7_value 31 (.iload 7) 2 33 := ⟨by decide +kernel, rfl⟩
theorem dX7_value_33 : q_at cX7_value 33 (.iaload) 1 34 := ⟨by decide +kernel, rfl⟩
theorem dX7_value_34 : q_at cX7_value 34 (.istore 8) 2 36 := ⟨by decide +kernel, rfl⟩
theorem dX7_value_36 : q_at cX7_value 36 (.iload 8) 2 38 := ⟨by decide +kernel, rfl⟩
theorem dX7_value_38 : q_at cX7_value 38 (.ifCond .lt 52) 3 41 := ⟨by decide +kernel, rfl⟩
theorem dX7_value_41 : q_at cX7_value 41 (.iload 6) 2 43 := ⟨by decide +kernel, rfl⟩
theorem dX7_value_43 : q_at cX7_value 43 (.aload_n 0) 1 44 := ⟨by decide +kernel, rfl⟩
theorem dX7_value_44 : q_at cX7_value 44 (.getfield 28) 3 47 := ⟨by decide +kernel, rfl⟩
theorem dX7_value_47 : q_at cX7_value 47 (.arraylength) 1 48 := ⟨by decide +kernel, rfl⟩
theorem dX7_value_48 : q_at cX7_value 48 (.if_icmp .ge 42) 3 51 := ⟨by decide +kernel, rfl⟩
theorem dX7_value_51 : q_at cX7_value 51 (.aload_n 0) 1 52 := ⟨by decide +kernel, rfl⟩
theorem dX7_value_52 : q_at cX7_value 52 (.getfield 28) 3 55 := ⟨by decide +kernel, rfl⟩
theorem dX7_value_55 : q_at cX7_value 55 (.iload 6) 2 57 := ⟨by decide +kernel, rfl⟩
theorem dX7_value_57 : q_at cX7_value 57 (.iload 8) 2 59 := ⟨by decide +kernel, rfl⟩
theorem dX7_value_59 : q_at cX7_value 59 (.sipush 10000) 3 62 := ⟨by decide +kernel, rfl⟩
theorem dX7_value_62 : q_at cX7_value 62 (.if_icmp .ge 8) 3 65 := ⟨by decide +kernel, rfl⟩
theorem dX7_value_65 : q_at cX7_value 65 (.iload 8) 2 67 := ⟨by decide +kernel, rfl⟩
theorem dX7_value_67 : q_at cX7_value 67 (.goto 16) 3 70 := ⟨by decide +kernel, rfl⟩
theorem dX7_value_70 : q_at cX7_value 70 (.iload 8) 2 72 := ⟨by decide +kernel, rfl⟩
theorem dX7_value_72 : q_at cX7_value 72 (.sipush 10000) 3 75 := ⟨by decide +kernel, rfl⟩
theorem dX7_value_75 : q_at cX7_value 75 (.isub) 1 76 := ⟨by decide +kernel, rfl⟩
theorem dX7_value_76 : q_at cX7_value 76 (.iload_n 2) 1 77 := ⟨by decide +kernel, rfl⟩
theorem dX7_value_77 : q_at cX7_value 77 (.iload_n 3) 1 78 := ⟨by decide +kernel, rfl⟩
theorem dX7_value_78 : q_at cX7_value 78 (.iload 4) 2 80 := ⟨by decide +kernel, rfl⟩
theorem dX7_value_80 : q_at cX7_value 80 (.invokestatic 64) 3 83 := ⟨by decide +kernel, rfl⟩
theorem dX7_value_83 : q_at cX7_value 83 (.iastore) 1 84 := ⟨by decide +kernel, rfl⟩
theorem dX7_value_84 : q_at cX7_value 84 (.iinc 6 1) 3 87 := ⟨by decide +kernel, rfl⟩
theorem dX7_value_87 : q_at cX7_value 87 (.goto 89) 3 90 := ⟨by decide +kernel, rfl⟩
theorem dX7_value_90 : q_at cX7_value 90 (.iload 8) 2 92 := ⟨by decide +kernel, rfl⟩
theorem dX7_value_92 : q_at cX7_value 92 (.bipush (-33)) 2 94 := ⟨by decide +kernel, rfl⟩
theorem dX7_value_94 : q_at cX7_value 94 (.if_icmp .ne 37) 3 97 := ⟨by decide +kernel, rfl⟩
theorem dX7_value_97 : q_at cX7_value 97 (.iload 6) 2 99 := ⟨by decide +kernel, rfl⟩
theorem dX7_value_99 : q_at cX7_value 99 (.ifCond .le 32) 3 102 := ⟨by decide +kernel, rfl⟩
theorem dX7_value_102 : q_at cX7_value 102 (.aload_n 0) 1 103 := ⟨by decide +kernel, rfl⟩
theorem dX7_value_103 : q_at cX7_value 103 (.getfield 28) 3 106 := ⟨by decide +kernel, rfl⟩
theorem dX7_value_106 : q_at cX7_value 106 (.iload 6) 2 108 := ⟨by decide +kernel, rfl⟩
theorem dX7_value_108 : q_at cX7_value 108 (.iconst 1) 1 109 := ⟨by decide +kernel, rfl⟩
theorem dX7_value_109 : q_at cX7_value 109 (.isub) 1 110 := ⟨by decide +kernel, rfl⟩
theorem dX7_value_110 : q_at cX7_value 110 (.aload_n 0) 1 111 := ⟨by decide +kernel, rfl⟩
theorem dX7_value_111 : q_at cX7_value 111 (.getfield 28) 3 114 := ⟨by decide +kernel, rfl⟩
theorem dX7_value_114 : q_at cX7_value 114 (.iload 6) 2 116 := ⟨by decide +kernel, rfl⟩
theorem dX7_value_116 : q_at cX7_value 116 (.iconst 1) 1 117 := ⟨by decide +kernel, rfl⟩
theorem dX7_value_117 : q_at cX7_value 117 (.isub) 1 118 := ⟨by decide +kernel, rfl⟩
theorem dX7_value_118 : q_at cX7_value 118 (.iaload) 1 119 := ⟨by decide +kernel, rfl⟩
theorem dX7_value_119 : q_at cX7_value 119 (.ifCond .ne 7) 3 122 := ⟨by decide +kernel, rfl⟩
theorem dX7_value_122 : q_at cX7_value 122 (.iconst 1) 1 123 := ⟨by decide +kernel, rfl⟩
theorem dX7_value_123 : q_at cX7_value 123 (.goto 4) 3 126 := ⟨by decide +kernel, rfl⟩
theorem dX7_value_126 : q_at cX7_value 126 (.iconst 0) 1 127 := ⟨by decide +kernel, rfl⟩
theorem dX7_value_127 : q_at cX7_value 127 (.iastore) 1 128 := ⟨by decide +kernel, rfl⟩
theorem dX7_value_128 : q_at cX7_value 128 (.goto 48) 3 131 := ⟨by decide +kernel, rfl⟩
theorem dX7_value_131 : q_at cX7_value 131 (.iload 8) 2 133 := ⟨by decide +kernel, rfl⟩
theorem dX7_value_133 : q_at cX7_value 133 (.ifCond .ge 43) 3 136 := ⟨by decide +kernel, rfl⟩
theorem dX7_value_136 : q_at cX7_value 136 (.iload 6) 2 138 := ⟨by decide +kernel, rfl⟩
theorem dX7_value_138 : q_at cX7_value 138 (.iconst 1) 1 139 := ⟨by decide +kernel, rfl⟩
theorem dX7_value_139 : q_at cX7_value 139 (.if_icmp .le 37) 3 142 := ⟨by decide +kernel, rfl⟩
theorem dX7_value_142 : q_at cX7_value 142 (.iinc 6 (-1)) 3 145 := ⟨by decide +kernel, rfl⟩
theorem dX7_value_145 : q_at cX7_value 145 (.aload_n 0) 1 146 := ⟨by decide +kernel, rfl⟩
theorem dX7_value_146 : q_at cX7_value 146 (.getfield 28) 3 149 := ⟨by decide +kernel, rfl⟩
theorem dX7_value_149 : q_at cX7_value 149 (.iload 6) 2 151 := ⟨by decide +kernel, rfl⟩
theorem dX7_value_151 : q_at cX7_value 151 (.iconst 1) 1 152 := ⟨by decide +kernel, rfl⟩
theorem dX7_value_152 : q_at cX7_value 152 (.isub) 1 153 := ⟨by decide +kernel, rfl⟩
theorem dX7_value_153 : q_at cX7_value 153 (.iload 8) 2 155 := ⟨by decide +kernel, rfl⟩
theorem dX7_value_155 : q_at cX7_value 155 (.ineg) 1 156 := ⟨by decide +kernel, rfl⟩
theorem dX7_value_156 : q_at cX7_value 156 (.aload_n 0) 1 157 := ⟨by decide +kernel, rfl⟩
theorem dX7_value_157 : q_at cX7_value 157 (.getfield 28) 3 160 := ⟨by decide +kernel, rfl⟩
theorem dX7_value_160 : q_at cX7_value 160 (.iload 6) 2 162 := ⟨by decide +kernel, rfl⟩
theorem dX7_value_162 : q_at cX7_value 162 (.iconst 1) 1 163 := ⟨by decide +kernel, rfl⟩
theorem dX7_value_163 : q_at cX7_value 163 (.isub) 1 164 := ⟨by decide +kernel, rfl⟩
theorem dX7_value_164 : q_at cX7_value 164 (.iaload) 1 165 := ⟨by decide +kernel, rfl⟩
theorem dX7_value_165 : q_at cX7_value 165 (.aload_n 0) 1 166 := ⟨by decide +kernel, rfl⟩
theorem dX7_value_166 : q_at cX7_value 166 (.getfield 28) 3 169 := ⟨by decide +kernel, rfl⟩
theorem dX7_value_169 : q_at cX7_value 169 (.iload 6) 2 171 := ⟨by decide +kernel, rfl⟩
theorem dX7_value_171 : q_at cX7_value 171 (.iaload) 1 172 := ⟨by decide +kernel, rfl⟩
theorem dX7_value_172 : q_at cX7_value 172 (.invokestatic 67) 3 175 := ⟨by decide +kernel, rfl⟩
theorem dX7_value_175 : q_at cX7_value 175 (.iastore) 1 176 := ⟨by decide +kernel, rfl⟩
theorem dX7_value_176 : q_at cX7_value 176 (.iinc 7 1) 3 179 := ⟨by decide +kernel, rfl⟩
theorem dX7_value_179 : q_at cX7_value 179 (.goto (-158)) 3 182 := ⟨by decide +kernel, rfl⟩
theorem dX7_value_182 : q_at cX7_value 182 (.iload 6) 2 184 := ⟨by decide +kernel, rfl⟩
theorem dX7_value_184 : q_at cX7_value 184 (.ifCond .le 15) 3 187 := ⟨by decide +kernel, rfl⟩
theorem dX7_value_187 : q_at cX7_value 187 (.aload_n 0) 1 188 := ⟨by decide +kernel, rfl⟩
theorem dX7_value_188 : q_at cX7_value 188 (.getfield 28) 3 191 := ⟨by decide +kernel, rfl⟩
theorem dX7_value_191 : q_at cX7_value 191 (.iload 6) 2 193 := ⟨by decide +kernel, rfl⟩
theorem dX7_value_193 : q_at cX7_value 193 (.iconst 1) 1 194 := ⟨by decide +kernel, rfl⟩
theorem dX7_value_194 : q_at cX7_value 194 (.isub) 1 195 := ⟨by decide +kernel, rfl⟩
theorem dX7_value_195 : q_at cX7_value 195 (.iaload) 1 196 := ⟨by decide +kernel, rfl⟩
theorem dX7_value_196 : q_at cX7_value 196 (.goto 4) 3 199 := ⟨by decide +kernel, rfl⟩
theorem dX7_value_199 : q_at cX7_value 199 (.iconst 0) 1 200 := ⟨by decide +kernel, rfl⟩
theorem dX7_value_200 : q_at cX7_value 200 (.ireturn) 1 201 := ⟨by decide +kernel, rfl⟩
theorem dX8_loavesFor_0 : q_at cX8_loavesFor 0 (.iload_n 2) 1 1 := ⟨by decide +kernel, rfl⟩
theorem dX8_loavesFor_1 : q_at cX8_loavesFor 1 (.ifCond .le 12) 3 4 := ⟨by decide +kernel, rfl⟩
theorem dX8_loavesFor_4 : q_at cX8_loavesFor 4 (.aload_n 0) 1 5 := ⟨by decide +kernel, rfl⟩
theorem dX8_loavesFor_5 : q_at cX8_loavesFor 5 (.getfield 15) 3 8 := ⟨by decide +kernel, rfl⟩
theorem dX8_loavesFor_8 : q_at cX8_loavesFor 8 (.iload_n 1) 1 9 := ⟨by decide +kernel, rfl⟩
theorem dX8_loavesFor_9 : q_at cX8_loavesFor 9 (.iaload) 1 10 := ⟨by decide +kernel, rfl⟩
theorem dX8_loavesFor_10 : q_at cX8_loavesFor 10 (.ifCond .gt 5) 3 13 := ⟨by decide +kernel, rfl⟩
theorem dX8_loavesFor_13 : q_at cX8_loavesFor 13 (.iconst 0) 1 14 := ⟨by decide +kernel, rfl⟩
theorem dX8_loavesFor_14 : q_at cX8_loavesFor 14 (.ireturn) 1 15 := ⟨by decide +kernel, rfl⟩
theorem dX8_loavesFor_15 : q_at cX8_loavesFor 15 (.aload_n 0) 1 16 := ⟨by decide +kernel, rfl⟩
theorem dX8_loavesFor_16 : q_at cX8_loavesFor 16 (.getfield 18) 3 19 := ⟨by decide +kernel, rfl⟩
theorem dX8_loavesFor_19 : q_at cX8_loavesFor 19 (.iload_n 1) 1 20 := ⟨by decide +kernel, rfl⟩
theorem dX8_loavesFor_20 : q_at cX8_loavesFor 20 (.iaload) 1 21 := ⟨by decide +kernel, rfl⟩
theorem dX8_loavesFor_21 : q_at cX8_loavesFor 21 (.iload_n 2) 1 22 := ⟨by decide +kernel, rfl⟩
theorem dX8_loavesFor_22 : q_at cX8_loavesFor 22 (.aload_n 0) 1 23 := ⟨by decide +kernel, rfl⟩
theorem dX8_loavesFor_23 : q_at cX8_loavesFor 23 (.getfield 15) 3 26 := ⟨by decide +kernel, rfl⟩
theorem dX8_loavesFor_26 : q_at cX8_loavesFor 26 (.iload_n 1) 1 27 := ⟨by decide +kernel, rfl⟩
theorem dX8_loavesFor_27 : q_at cX8_loavesFor 27 (.iaload) 1 28 := ⟨by decide +kernel, rfl⟩
theorem dX8_loavesFor_28 : q_at cX8_loavesFor 28 (.idiv) 1 29 := ⟨by decide +kernel, rfl⟩
theorem dX8_loavesFor_29 : q_at cX8_loavesFor 29 (.invokestatic 35) 3 32 := ⟨by decide +kernel, rfl⟩
theorem dX8_loavesFor_32 : q_at cX8_loavesFor 32 (.ireturn) 1 33 := ⟨by decide +kernel, rfl⟩
theorem dX8_loavesOfCompany_0 : q_at cX8_loavesOfCompany 0 (.aload_n 0) 1 1 := ⟨by decide +kernel, rfl⟩
theorem dX8_loavesOfCompany_1 : q_at cX8_loavesOfCompany 1 (.iconst 0) 1 2 := ⟨by decide +kernel, rfl⟩
theorem dX8_loavesOfCompany_2 : q_at cX8_loavesOfCompany 2 (.invokevirtual 41) 3 5 := ⟨by decide +kernel, rfl⟩
theorem dX8_loavesOfCompany_5 : q_at cX8_loavesOfCompany 5 (.istore_n 2) 1 6 := ⟨by decide +kernel, rfl⟩
theorem dX8_loavesOfCompany_6 : q_at cX8_loavesOfCompany 6 (.iload_n 2) 1 7 := ⟨by decide +kernel, rfl⟩
theorem dX8_loavesOfCompany_7 : q_at cX8_loavesOfCompany 7 (.ifCond .gt 7) 3 10 := ⟨by decide +kernel, rfl⟩
theorem dX8_loavesOfCompany_10 : q_at cX8_loavesOfCompany 10 (.iconst 0) 1 11 := ⟨by decide +kernel, rfl⟩
theorem dX8_loavesOfCompany_11 : q_at cX8_loavesOfCompany 11 (.goto 6) 3 14 := ⟨by decide +kernel, rfl⟩
theorem dX8_loavesOfCompany_14 : q_at cX8_loavesOfCompany 14 (.iload_n 1) 1 15 := ⟨by decide +kernel, rfl⟩
theorem dX8_loavesOfCompany_15 : q_at cX8_loavesOfCompany 15 (.iload_n 2) 1 16 := ⟨by decide +kernel, rfl⟩
theorem dX8_loavesOfCompany_16 : q_at cX8_loavesOfCompany 16 (.idiv) 1 17 := ⟨by decide +kernel, rfl⟩
theorem dX8_loavesOfCompany_17 : q_at cX8_loavesOfCompany 17 (.ireturn) 1 18 := ⟨by decide +kernel, rfl⟩
theorem dX8_loavesOfTown_0 : q_at cX8_loavesOfTown 0 (.iconst 0) 1 1 := ⟨by decide +kernel, rfl⟩
theorem dX8_loavesOfTown_1 : q_at cX8_loavesOfTown 1 (.istore_n 2) 1 2 := ⟨by decide +kernel, rfl⟩
theorem dX8_loavesOfTown_2 : q_at cX8_loavesOfTown 2 (.iconst 0) 1 3 := ⟨by decide +kernel, rfl⟩
theorem dX8_loavesOfTown_3 : q_at cX8_loavesOfTown 3 (.istore_n 3) 1 4 := ⟨by decide +kernel, rfl⟩
theorem dX8_loavesOfTown_4 : q_at cX8_loavesOfTown 4 (.iload_n 3) 1 5 := ⟨by decide +kernel, rfl⟩
theorem dX8_loavesOfTown_5 : q_at cX8_loavesOfTown 5 (.aload_n 0) 1 6 := ⟨by decide +kernel, rfl⟩
theorem dX8_loavesOfTown_6 : q_at cX8_loavesOfTown 6 (.getfield 24) 3 9 := ⟨by decide +kernel, rfl⟩
theorem dX8_loavesOfTown_9 : q_at cX8_loavesOfTown 9 (.if_icmp .ge 48) 3 12 := ⟨by decide +kernel, rfl⟩
theorem dX8_loavesOfTown_12 : q_at cX8_loavesOfTown 12 (.aload_n 0) 1 13 := ⟨by decide +kernel, rfl⟩
theorem dX8_loavesOfTown_13 : q_at cX8_loavesOfTown 13 (.getfield 11) 3 16 := ⟨by decide +kernel, rfl⟩
theorem dX8_loavesOfTown_16 : q_at cX8_loavesOfTown 16 (.iload_n 3) 1 17 := ⟨by decide +kernel, rfl⟩
theorem dX8_loavesOfTown_17 : q_at cX8_loavesOfTown 17 (.iaload) 1 18 := ⟨by decide +kernel, rfl⟩
theorem dX8_loavesOfTown_18 : q_at cX8_loavesOfTown 18 (.iconst 1) 1 19 := ⟨by decide +kernel, rfl⟩
theorem dX8_loavesOfTown_19 : q_at cX8_loavesOfTown 19 (.if_icmp .ne 32) 3 22 := ⟨by decide +kernel, rfl⟩
theorem dX8_loavesOfTown_22 : q_at cX8_loavesOfTown 22 (.aload_n 0) 1 23 := ⟨by decide +kernel, rfl⟩
theorem dX8_loavesOfTown_23 : q_at cX8_loavesOfTown 23 (.getfield 15) 3 26 := ⟨by decide +kernel, rfl⟩
theorem dX8_loavesOfTown_26 : q_at cX8_loavesOfTown 26 (.iload_n 3) 1 27 := ⟨by decide +kernel, rfl⟩
theorem dX8_loavesOfTown_27 : q_at cX8_loavesOfTown 27 (.iaload) 1 28 := ⟨by decide +kernel, rfl⟩
theorem dX8_loavesOfTown_28 : q_at cX8_loavesOfTown 28 (.ifCond .le 23) 3 31 := ⟨by decide +kernel, rfl⟩
theorem dX8_loavesOfTown_31 : q_at cX8_loavesOfTown 31 (.iload_n 2) 1 32 := ⟨by decide +kernel, rfl⟩
theorem dX8_loavesOfTown_32 : q_at cX8_loavesOfTown 32 (.iload_n 1) 1 33 := ⟨by decide +kernel, rfl⟩
theorem dX8_loavesOfTown_33 : q_at cX8_loavesOfTown 33 (.aload_n 0) 1 34 := ⟨by decide +kernel, rfl⟩
theorem dX8_loavesOfTown_34 : q_at cX8_loavesOfTown 34 (.getfield 21) 3 37 := ⟨by decide +kernel, rfl⟩
theorem dX8_loavesOfTown_37 : q_at cX8_loavesOfTown 37 (.iload_n 3) 1 38 := ⟨by decide +kernel, rfl⟩
theorem dX8_loavesOfTown_38 : q_at cX8_loavesOfTown 38 (.iaload) 1 39 := ⟨by decide +kernel, rfl⟩
theorem dX8_loavesOfTown_39 : q_at cX8_loavesOfTown 39 (.isub) 1 40 := ⟨by decide +kernel, rfl⟩
theorem dX8_loavesOfTown_40 : q_at cX8_loavesOfTown 40 (.aload_n 0) 1 41 := ⟨by decide +kernel, rfl⟩
theorem dX8_loavesOfTown_41 : q_at cX8_loavesOfTown 41 (.getfield 15) 3 44 := ⟨by decide +kernel, rfl⟩
theorem dX8_loavesOfTown_44 : q_at cX8_loavesOfTown 44 (.iload_n 3) 1 45 := ⟨by decide +kernel, rfl⟩
theorem dX8_loavesOfTown_45 : q_at cX8_loavesOfTown 45 (.iaload) 1 46 := ⟨by decide +kernel, rfl⟩
theorem dX8_loavesOfTown_46 : q_at cX8_loavesOfTown 46 (.idiv) 1 47 := ⟨by decide +kernel, rfl⟩
theorem dX8_loavesOfTown_47 : q_at cX8_loavesOfTown 47 (.invokestatic 45) 3 50 := ⟨by decide +kernel, rfl⟩
theorem dX8_loavesOfTown_50 : q_at cX8_loavesOfTown 50 (.istore_n 2) 1 51 := ⟨by decide +kernel, rfl⟩
theorem dX8_loavesOfTown_51 : q_at cX8_loavesOfTown 51 (.iinc 3 1) 3 54 := ⟨by decide +kernel, rfl⟩
theorem dX8_loavesOfTown_54 : q_at cX8_loavesOfTown 54 (.goto (-50)) 3 57 := ⟨by decide +kernel, rfl⟩
theorem dX8_loavesOfTown_57 : q_at cX8_loavesOfTown 57 (.iload_n 2) 1 58 := ⟨by decide +kernel, rfl⟩
theorem dX8_loavesOfTown_58 : q_at cX8_loavesOfTown 58 (.ireturn) 1 59 := ⟨by decide +kernel, rfl⟩
theorem dX10_isBarred_0 : q_at cX10_isBarred 0 (.aload_n 0) 1 1 := ⟨by decide +kernel, rfl⟩
theorem dX10_isBarred_1 : q_at cX10_isBarred 1 (.iload_n 1) 1 2 := ⟨by decide +kernel, rfl⟩
theorem dX10_isBarred_2 : q_at cX10_isBarred 2 (.iload_n 2) 1 3 := ⟨by decide +kernel, rfl⟩
theorem dX10_isBarred_3 : q_at cX10_isBarred 3 (.invokestatic 21) 3 6 := ⟨by decide +kernel, rfl⟩
theorem dX10_isBarred_6 : q_at cX10_isBarred 6 (.iload_n 2) 1 7 := ⟨by decide +kernel, rfl⟩
theorem dX10_isBarred_7 : q_at cX10_isBarred 7 (.invokestatic 25) 3 10 := ⟨by decide +kernel, rfl⟩
theorem dX10_isBarred_10 : q_at cX10_isBarred 10 (.iload_n 2) 1 11 := ⟨by decide +kernel, rfl⟩
theorem dX10_isBarred_11 : q_at cX10_isBarred 11 (.invokestatic 28) 3 14 := ⟨by decide +kernel, rfl⟩
theorem dX10_isBarred_14 : q_at cX10_isBarred 14 (.invokevirtual 35) 3 17 := ⟨by decide +kernel, rfl⟩
theorem dX10_isBarred_17 : q_at cX10_isBarred 17 (.ifCond .eq 7) 3 20 := ⟨by decide +kernel, rfl⟩
theorem dX10_isBarred_20 : q_at cX10_isBarred 20 (.iconst 1) 1 21 := ⟨by decide +kernel, rfl⟩
theorem dX10_isBarred_21 : q_at cX10_isBarred 21 (.goto 4) 3 24 := ⟨by decide +kernel, rfl⟩
theorem dX10_isBarred_24 : q_at cX10_isBarred 24 (.iconst 0) 1 25 := ⟨by decide +kernel, rfl⟩
theorem dX10_isBarred_25 : q_at cX10_isBarred 25 (.ireturn) 1 26 := ⟨by decide +kernel, rfl⟩
theorem dX5_operand_0 : q_at cX5_operand 0 (.iload_n 1) 1 1 := ⟨by decide +kernel, rfl⟩
theorem dX5_operand_1 : q_at cX5_operand 1 (.ifCond .ge 5) 3 4 := ⟨by decide +kernel, rfl⟩
theorem dX5_operand_4 : q_at cX5_operand 4 (.iconst 0) 1 5 := ⟨by decide +kernel, rfl⟩
theorem dX5_operand_5 : q_at cX5_operand 5 (.ireturn) 1 6 := ⟨by decide +kernel, rfl⟩
theorem dX5_operand_6 : q_at cX5_operand 6 (.aload_n 0) 1 7 := ⟨by decide +kernel, rfl⟩
theorem dX5_operand_7 : q_at cX5_operand 7 (.iload_n 1) 1 8 := ⟨by decide +kernel, rfl⟩
theorem dX5_operand_8 : q_at cX5_operand 8 (.invokevirtual 115) 3 11 := ⟨by decide +kernel, rfl⟩
theorem dX5_operand_11 : q_at cX5_operand 11 (.aload_n 0) 1 12 := ⟨by decide +kernel, rfl⟩
theorem dX5_operand_12 : q_at cX5_operand 12 (.dup) 1 13 := ⟨by decide +kernel, rfl⟩
theorem dX5_operand_13 : q_at cX5_operand 13 (.getfield 29) 3 16 := ⟨by decide +kernel, rfl⟩
theorem dX5_operand_16 : q_at cX5_operand 16 (.iconst 1) 1 17 := ⟨by decide +kernel, rfl⟩
theorem dX5_operand_17 : q_at cX5_operand 17 (.iadd) 1 18 := ⟨by decide +kernel, rfl⟩
theorem dX5_operand_18 : q_at cX5_operand 18 (.putfield 29) 3 21 := ⟨by decide +kernel, rfl⟩
theorem dX5_operand_21 : q_at cX5_operand 21 (.aload_n 0) 1 22 := ⟨by decide +kernel, rfl⟩
theorem dX5_operand_22 : q_at cX5_operand 22 (.invokevirtual 38) 3 25 := ⟨by decide +kernel, rfl⟩
theorem dX5_operand_25 : q_at cX5_operand 25 (.iconst 1) 1 26 := ⟨by decide +kernel, rfl⟩
theorem dX5_operand_26 : q_at cX5_operand 26 (.ireturn) 1 27 := ⟨by decide +kernel, rfl⟩
theorem dX7_given_0 : q_at cX7_given 0 (.aload_n 0) 1 1 := ⟨by decide +kernel, rfl⟩
theorem dX7_given_1 : q_at cX7_given 1 (.iload_n 1) 1 2 := ⟨by decide +kernel, rfl⟩
theorem dX7_given_2 : q_at cX7_given 2 (.iload_n 2) 1 3 := ⟨by decide +kernel, rfl⟩
theorem dX7_given_3 : q_at cX7_given 3 (.invokevirtual 42) 3 6 := ⟨by decide +kernel, rfl⟩
theorem dX7_given_6 : q_at cX7_given 6 (.istore 6) 2 8 := ⟨by decide +kernel, rfl⟩
theorem dX7_given_8 : q_at cX7_given 8 (.iload_n 1) 1 9 := ⟨by decide +kernel, rfl⟩
theorem dX7_given_9 : q_at cX7_given 9 (.iload 6) 2 11 := ⟨by decide +kernel, rfl⟩
theorem dX7_given_11 : q_at cX7_given 11 (.ifCond .ge 11) 3 14 := ⟨by decide +kernel, rfl⟩
theorem dX7_given_14 : q_at cX7_given 14 (.iload_n 1) 1 15 := ⟨by decide +kernel, rfl⟩
theorem dX7_given_15 : q_at cX7_given 15 (.iload_n 3) 1 16 := ⟨by decide +kernel, rfl⟩
theorem dX7_given_16 : q_at cX7_given 16 (.invokestatic 46) 3 19 := ⟨by decide +kernel, rfl⟩
theorem dX7_given_19 : q_at cX7_given 19 (.goto 14) 3 22 := ⟨by decide +kernel, rfl⟩
theorem dX7_given_22 : q_at cX7_given 22 (.aload_n 0) 1 23 := ⟨by decide +kernel, rfl⟩
theorem dX7_given_23 : q_at cX7_given 23 (.iload 6) 2 25 := ⟨by decide +kernel, rfl⟩
theorem dX7_given_25 : q_at cX7_given 25 (.iload_n 3) 1 26 := ⟨by decide +kernel, rfl⟩
theorem dX7_given_26 : q_at cX7_given 26 (.iload 4) 2 28 := ⟨by decide +kernel, rfl⟩
theorem dX7_given_28 : q_at cX7_given 28 (.iload 5) 2 30 := ⟨by decide +kernel, rfl⟩
theorem dX7_given_30 : q_at cX7_given 30 (.invokevirtual 49) 3 33 := ⟨by decide +kernel, rfl⟩
theorem dX7_given_33 : q_at cX7_given 33 (.invokestatic 53) 3 36 := ⟨by decide +kernel, rfl⟩
theorem dX7_given_36 : q_at cX7_given 36 (.ireturn) 1 37 := ⟨by decide +kernel, rfl⟩
theorem dX10_isOpen_0 : q_at cX10_isOpen 0 (.aload_n 0) 1 1 := ⟨by decide +kernel, rfl⟩
theorem dX10_isOpen_1 : q_at cX10_isOpen 1 (.getfield 9) 3 4 := ⟨by decide +kernel, rfl⟩
theorem dX10_isOpen_4 : q_at cX10_isOpen 4 (.iload_n 3) 1 5 := ⟨by decide +kernel, rfl⟩
theorem dX10_isOpen_5 : q_at cX10_isOpen 5 (.iaload) 1 6 := ⟨by decide +kernel, rfl⟩
theorem dX10_isOpen_6 : q_at cX10_isOpen 6 (.ifCond .eq 29) 3 9 := ⟨by decide +kernel, rfl⟩
theorem dX10_isOpen_9 : q_at cX10_isOpen 9 (.aload_n 1) 1 10 := ⟨by decide +kernel, rfl⟩
theorem dX10_isOpen_10 : q_at cX10_isOpen 10 (.bipush 6) 2 12 := ⟨by decide +kernel, rfl⟩
theorem dX10_isOpen_12 : q_at cX10_isOpen 12 (.iload_n 2) 1 13 := ⟨by decide +kernel, rfl⟩
theorem dX10_isOpen_13 : q_at cX10_isOpen 13 (.iload_n 3) 1 14 := ⟨by decide +kernel, rfl⟩
theorem dX10_isOpen_14 : q_at cX10_isOpen 14 (.invokestatic 21) 3 17 := ⟨by decide +kernel, rfl⟩
theorem dX10_isOpen_17 : q_at cX10_isOpen 17 (.iload_n 3) 1 18 := ⟨by decide +kernel, rfl⟩
theorem dX10_isOpen_18 : q_at cX10_isOpen 18 (.invokestatic 25) 3 21 := ⟨by decide +kernel, rfl⟩
theorem dX10_isOpen_21 : q_at cX10_isOpen 21 (.iload_n 3) 1 22 := ⟨by decide +kernel, rfl⟩
theorem dX10_isOpen_22 : q_at cX10_isOpen 22 (.invokestatic 28) 3 25 := ⟨by decide +kernel, rfl⟩
theorem dX10_isOpen_25 : q_at cX10_isOpen 25 (.invokevirtual 31) 3 28 := ⟨by decide +kernel, rfl⟩
theorem dX10_isOpen_28 : q_at cX10_isOpen 28 (.ifCond .ne 7) 3 31 := ⟨by decide +kernel, rfl⟩
theorem dX10_isOpen_31 : q_at cX10_isOpen 31 (.iconst 1) 1 32 := ⟨by decide +kernel, rfl⟩
theorem dX10_isOpen_32 : q_at cX10_isOpen 32 (.goto 4) 3 35 := ⟨by decide +kernel, rfl⟩
theorem dX10_isOpen_35 : q_at cX10_isOpen 35 (.iconst 0) 1 36 := ⟨by decide +kernel, rfl⟩
theorem dX10_isOpen_36 : q_at cX10_isOpen 36 (.ireturn) 1 37 := ⟨by decide +kernel, rfl⟩
theorem dX10_othersBarred_0 : q_at cX10_othersBarred 0 (.iconst 0) 1 1 := ⟨by decide +kernel, rfl⟩
theorem dX10_othersBarred_1 : q_at cX10_othersBarred 1 (.istore_n 3) 1 2 := ⟨by decide +kernel, rfl⟩
theorem dX10_othersBarred_2 : q_at cX10_othersBarred 2 (.iconst 0) 1 3 := ⟨by decide +kernel, rfl⟩
theorem dX10_othersBarred_3 : q_at cX10_othersBarred 3 (.istore 4) 2 5 := ⟨by decide +kernel, rfl⟩
theorem dX10_othersBarred_5 : q_at cX10_othersBarred 5 (.iload 4) 2 7 := ⟨by decide +kernel, rfl⟩
theorem dX10_othersBarred_7 : q_at cX10_othersBarred 7 (.bipush 48) 2 9 := ⟨by decide +kernel, rfl⟩
theorem dX10_othersBarred_9 : q_at cX10_othersBarred 9 (.if_icmp .ge 32) 3 12 := ⟨by decide +kernel, rfl⟩
theorem dX10_othersBarred_12 : q_at cX10_othersBarred 12 (.aload_n 0) 1 13 := ⟨by decide +kernel, rfl⟩
theorem dX10_othersBarred_13 : q_at cX10_othersBarred 13 (.getfield 9) 3 16 := ⟨by decide +kernel, rfl⟩
theorem dX10_othersBarred_16 : q_at cX10_othersBarred 16 (.iload 4) 2 18 := ⟨by decide +kernel, rfl⟩
theorem dX10_othersBarred_18 : q_at cX10_othersBarred 18 (.iaload) 1 19 := ⟨by decide +kernel, rfl⟩
theorem dX10_othersBarred_19 : q_at cX10_othersBarred 19 (.ifCond .ne 16) 3 22 := ⟨by decide +kernel, rfl⟩
theorem dX10_othersBarred_22 : q_at cX10_othersBarred 22 (.aload_n 1) 1 23 := ⟨by decide +kernel, rfl⟩
theorem dX10_othersBarred_23 : q_at cX10_othersBarred 23 (.iload_n 2) 1 24 := ⟨by decide +kernel, rfl⟩
theorem dX10_othersBarred_24 : q_at cX10_othersBarred 24 (.iload 4) 2 26 := ⟨by decide +kernel, rfl⟩
theorem dX10_othersBarred_26 : q_at cX10_othersBarred 26 (.invokestatic 43) 3 29 := ⟨by decide +kernel, rfl⟩
theorem dX10_othersBarred_29 : q_at cX10_othersBarred 29 (.ifCond .eq 6) 3 32 := ⟨by decide +kernel, rfl⟩
theorem dX10_othersBarred_32 : q_at cX10_othersBarred 32 (.iinc 3 1) 3 35 := ⟨by decide +kernel, rfl⟩
theorem dX10_othersBarred_35 : q_at cX10_othersBarred 35 (.iinc 4 1) 3 38 := ⟨by decide +kernel, rfl⟩
theorem dX10_othersBarred_38 : q_at cX10_othersBarred 38 (.goto (-33)) 3 41 := ⟨by decide +kernel, rfl⟩
theorem dX10_othersBarred_41 : q_at cX10_othersBarred 41 (.iload_n 3) 1 42 := ⟨by decide +kernel, rfl⟩
theorem dX10_othersBarred_42 : q_at cX10_othersBarred 42 (.ireturn) 1 43 := ⟨by decide +kernel, rfl⟩
theorem dX10_open_0 : q_at cX10_open 0 (.iconst 0) 1 1 := ⟨by decide +kernel, rfl⟩
theorem dX10_open_1 : q_at cX10_open 1 (.istore_n 3) 1 2 := ⟨by decide +kernel, rfl⟩
theorem dX10_open_2 : q_at cX10_open 2 (.iconst 0) 1 3 := ⟨by decide +kernel, rfl⟩
theorem dX10_open_3 : q_at cX10_open 3 (.istore 4) 2 5 := ⟨by decide +kernel, rfl⟩
theorem dX10_open_5 : q_at cX10_open 5 (.iload 4) 2 7 := ⟨by decide +kernel, rfl⟩
theorem dX10_open_7 : q_at cX10_open 7 (.bipush 48) 2 9 := ⟨by decide +kernel, rfl⟩
theorem dX10_open_9 : q_at cX10_open 9 (.if_icmp .ge 23) 3 12 := ⟨by decide +kernel, rfl⟩
theorem dX10_open_12 : q_at cX10_open 12 (.aload_n 0) 1 13 := ⟨by decide +kernel, rfl⟩
theorem dX10_open_13 : q_at cX10_open 13 (.aload_n 1) 1 14 := ⟨by decide +kernel, rfl⟩
theorem dX10_open_14 : q_at cX10_open 14 (.iload_n 2) 1 15 := ⟨by decide +kernel, rfl⟩
theorem dX10_open_15 : q_at cX10_open 15 (.iload 4) 2 17 := ⟨by decide +kernel, rfl⟩
theorem dX10_open_17 : q_at cX10_open 17 (.invokevirtual 39) 3 20 := ⟨by decide +kernel, rfl⟩
theorem dX10_open_20 : q_at cX10_open 20 (.ifCond .eq 6) 3 23 := ⟨by decide +kernel, rfl⟩
theorem dX10_open_23 : q_at cX10_open 23 (.iinc 3 1) 3 26 := ⟨by decide +kernel, rfl⟩
theorem dX10_open_26 : q_at cX10_open 26 (.iinc 4 1) 3 29 := ⟨by decide +kernel, rfl⟩
theorem dX10_open_29 : q_at cX10_open 29 (.goto (-24)) 3 32 := ⟨by decide +kernel, rfl⟩
theorem dX10_open_32 : q_at cX10_open 32 (.iload_n 3) 1 33 := ⟨by decide +kernel, rfl⟩
theorem dX10_open_33 : q_at cX10_open 33 (.ireturn) 1 34 := ⟨by decide +kernel, rfl⟩
theorem dX10_openBarred_0 : q_at cX10_openBarred 0 (.iconst 0) 1 1 := ⟨by decide +kernel, rfl⟩
theorem dX10_openBarred_1 : q_at cX10_openBarred 1 (.istore 4) 2 3 := ⟨by decide +kernel, rfl⟩
theorem dX10_openBarred_3 : q_at cX10_openBarred 3 (.iconst 0) 1 4 := ⟨by decide +kernel, rfl⟩
theorem dX10_openBarred_4 : q_at cX10_openBarred 4 (.istore 5) 2 6 := ⟨by decide +kernel, rfl⟩
theorem dX10_openBarred_6 : q_at cX10_openBarred 6 (.iload 5) 2 8 := ⟨by decide +kernel, rfl⟩
theorem dX10_openBarred_8 : q_at cX10_openBarred 8 (.bipush 48) 2 10 := ⟨by decide +kernel, rfl⟩
theorem dX10_openBarred_10 : q_at cX10_openBarred 10 (.if_icmp .ge 33) 3 13 := ⟨by decide +kernel, rfl⟩
theorem dX10_openBarred_13 : q_at cX10_openBarred 13 (.aload_n 0) 1 14 := ⟨by decide +kernel, rfl⟩
theorem dX10_openBarred_14 : q_at cX10_openBarred 14 (.aload_n 1) 1 15 := ⟨by decide +kernel, rfl⟩
theorem dX10_openBarred_15 : q_at cX10_openBarred 15 (.iload_n 2) 1 16 := ⟨by decide +kernel, rfl⟩
theorem dX10_openBarred_16 : q_at cX10_openBarred 16 (.iload 5) 2 18 := ⟨by decide +kernel, rfl⟩
theorem dX10_openBarred_18 : q_at cX10_openBarred 18 (.invokevirtual 39) 3 21 := ⟨by decide +kernel, rfl⟩
theorem dX10_openBarred_21 : q_at cX10_openBarred 21 (.ifCond .eq 16) 3 24 := ⟨by decide +kernel, rfl⟩
theorem dX10_openBarred_24 : q_at cX10_openBarred 24 (.aload_n 1) 1 25 := ⟨by decide +kernel, rfl⟩
theorem dX10_openBarred_25 : q_at cX10_openBarred 25 (.iload_n 3) 1 26 := ⟨by decide +kernel, rfl⟩
theorem dX10_openBarred_26 : q_at cX10_openBarred 26 (.iload 5) 2 28 := ⟨by decide +kernel, rfl⟩
theorem dX10_openBarred_28 : q_at cX10_openBarred 28 (.invokestatic 43) 3 31 := ⟨by decide +kernel, rfl⟩
theorem dX10_openBarred_31 : q_at cX10_openBarred 31 (.ifCond .eq 6) 3 34 := ⟨by decide +kernel, rfl⟩
theorem dX10_openBarred_34 : q_at cX10_openBarred 34 (.iinc 4 1) 3 37 := ⟨by decide +kernel, rfl⟩
theorem dX10_openBarred_37 : q_at cX10_openBarred 37 (.iinc 5 1) 3 40 := ⟨by decide +kernel, rfl⟩
theorem dX10_openBarred_40 : q_at cX10_openBarred 40 (.goto (-34)) 3 43 := ⟨by decide +kernel, rfl⟩
theorem dX10_openBarred_43 : q_at cX10_openBarred 43 (.iload 4) 2 45 := ⟨by decide +kernel, rfl⟩
theorem dX10_openBarred_45 : q_at cX10_openBarred 45 (.ireturn) 1 46 := ⟨by decide +kernel, rfl⟩
theorem dX10_openWay_0 : q_at cX10_openWay 0 (.iconst 0) 1 1 := ⟨by decide +kernel, rfl⟩
theorem dX10_openWay_1 : q_at cX10_openWay 1 (.istore 4) 2 3 := ⟨by decide +kernel, rfl⟩
theorem dX10_openWay_3 : q_at cX10_openWay 3 (.iconst 0) 1 4 := ⟨by decide +kernel, rfl⟩
theorem dX10_openWay_4 : q_at cX10_openWay 4 (.istore 5) 2 6 := ⟨by decide +kernel, rfl⟩
theorem dX10_openWay_6 : q_at cX10_openWay 6 (.iload 5) 2 8 := ⟨by decide +kernel, rfl⟩
theorem dX10_openWay_8 : q_at cX10_openWay 8 (.bipush 48) 2 10 := ⟨by decide +kernel, rfl⟩
theorem dX10_openWay_10 : q_at cX10_openWay 10 (.if_icmp .ge 56) 3 13 := ⟨by decide +kernel, rfl⟩
theorem dX10_openWay_13 : q_at cX10_openWay 13 (.aload_n 0) 1 14 := ⟨by decide +kernel, rfl⟩
theorem dX10_openWay_14 : q_at cX10_openWay 14 (.aload_n 1) 1 15 := ⟨by decide +kernel, rfl⟩
theorem dX10_openWay_15 : q_at cX10_openWay 15 (.iload_n 2) 1 16 := ⟨by decide +kernel, rfl⟩
theorem dX10_openWay_16 : q_at cX10_openWay 16 (.iload 5) 2 18 := ⟨by decide +kernel, rfl⟩
theorem dX10_openWay_18 : q_at cX10_openWay 18 (.invokevirtual 39) 3 21 := ⟨by decide +kernel, rfl⟩
theorem dX10_openWay_21 : q_at cX10_openWay 21 (.ifCond .ne 6) 3 24 := ⟨by decide +kernel, rfl⟩
theorem dX10_openWay_24 : q_at cX10_openWay 24 (.goto 36) 3 27 := ⟨by decide +kernel, rfl⟩
theorem dX10_openWay_27 : q_at cX10_openWay 27 (.iload 4) 2 29 := ⟨by decide +kernel, rfl⟩
theorem dX10_openWay_29 : q_at cX10_openWay 29 (.iload_n 3) 1 30 := ⟨by decide +kernel, rfl⟩
theorem dX10_openWay_30 : q_at cX10_openWay 30 (.if_icmp .ne 27) 3 33 := ⟨by decide +kernel, rfl⟩
theorem dX10_openWay_33 : q_at cX10_openWay 33 (.bipush 100) 2 35 := ⟨by decide +kernel, rfl⟩
theorem dX10_openWay_35 : q_at cX10_openWay 35 (.iload 5) 2 37 := ⟨by decide +kernel, rfl⟩
theorem dX10_openWay_37 : q_at cX10_openWay 37 (.invokestatic 21) 3 40 := ⟨by decide +kernel, rfl⟩
theorem dX10_openWay_40 : q_at cX10_openWay 40 (.imul) 1 41 := ⟨by decide +kernel, rfl⟩
theorem dX10_openWay_41 : q_at cX10_openWay 41 (.bipush 10) 2 43 := ⟨by decide +kernel, rfl⟩
theorem dX10_openWay_43 : q_at cX10_openWay 43 (.iload 5) 2 45 := ⟨by decide +kernel, rfl⟩
theorem dX10_openWay_45 : q_at cX10_openWay 45 (.invokestatic 25) 3 48 := ⟨by decide +kernel, rfl⟩
theorem dX10_openWay_48 : q_at cX10_openWay 48 (.imul) 1 49 := ⟨by decide +kernel, rfl⟩
theorem dX10_openWay_49 : q_at cX10_openWay 49 (.iadd) 1 50 := ⟨by decide +kernel, rfl⟩
theorem dX10_openWay_50 : q_at cX10_openWay 50 (.iload 5) 2 52 := ⟨by decide +kernel, rfl⟩
theorem dX10_openWay_52 : q_at cX10_openWay 52 (.invokestatic 28) 3 55 := ⟨by decide +kernel, rfl⟩
theorem dX10_openWay_55 : q_at cX10_openWay 55 (.iadd) 1 56 := ⟨by decide +kernel, rfl⟩
theorem dX10_openWay_56 : q_at cX10_openWay 56 (.ireturn) 1 57 := ⟨by decide +kernel, rfl⟩
theorem dX10_openWay_57 : q_at cX10_openWay 57 (.iinc 4 1) 3 60 := ⟨by decide +kernel, rfl⟩
theorem dX10_openWay_60 : q_at cX10_openWay 60 (.iinc 5 1) 3 63 := ⟨by decide +kernel, rfl⟩
theorem dX10_openWay_63 : q_at cX10_openWay 63 (.goto (-57)) 3 66 := ⟨by decide +kernel, rfl⟩
theorem dX10_openWay_66 : q_at cX10_openWay 66 (.iconst (-1)) 1 67 := ⟨by decide +kernel, rfl⟩
theorem dX10_openWay_67 : q_at cX10_openWay 67 (.ireturn) 1 68 := ⟨by decide +kernel, rfl⟩
theorem dX4_putNext_0 : q_at cX4_putNext 0 (.iload_n 2) 1 1 := ⟨by decide +kernel, rfl⟩
theorem dX4_putNext_1 : q_at cX4_putNext 1 (.aload_n 0) 1 2 := ⟨by decide +kernel, rfl⟩
theorem dX4_putNext_2 : q_at cX4_putNext 2 (.getfield 33) 3 5 := ⟨by decide +kernel, rfl⟩
theorem dX4_putNext_5 : q_at cX4_putNext 5 (.if_icmp .lt 25) 3 8 := ⟨by decide +kernel, rfl⟩
theorem dX4_putNext_8 : q_at cX4_putNext 8 (.aload_n 0) 1 9 := ⟨by decide +kernel, rfl⟩
theorem dX4_putNext_9 : q_at cX4_putNext 9 (.getfield 44) 3 12 := ⟨by decide +kernel, rfl⟩
theorem dX4_putNext_12 : q_at cX4_putNext 12 (.ifCond .lt 11) 3 15 := ⟨by decide +kernel, rfl⟩
theorem dX4_putNext_15 : q_at cX4_putNext 15 (.iload_n 3) 1 16 := ⟨by decide +kernel, rfl⟩
theorem dX4_putNext_16 : q_at cX4_putNext 16 (.aload_n 0) 1 17 := ⟨by decide +kernel, rfl⟩
theorem dX4_putNext_17 : q_at cX4_putNext 17 (.getfield 44) 3 20 := ⟨by decide +kernel, rfl⟩
theorem dX4_putNext_20 : q_at cX4_putNext 20 (.if_icmp .ge 8) 3 23 := ⟨by decide +kernel, rfl⟩
theorem dX4_putNext_23 : q_at cX4_putNext 23 (.aload_n 0) 1 24 := ⟨by decide +kernel, rfl⟩
theorem dX4_putNext_24 : q_at cX4_putNext 24 (.iload_n 3) 1 25 := ⟨by decide +kernel, rfl⟩
theorem dX4_putNext_25 : q_at cX4_putNext 25 (.invokevirtual 56) 3 28 := ⟨by decide +kernel, rfl⟩
theorem dX4_putNext_28 : q_at cX4_putNext 28 (.iconst 1) 1 29 := ⟨by decide +kernel, rfl⟩
theorem dX4_putNext_29 : q_at cX4_putNext 29 (.ireturn) 1 30 := ⟨by decide +kernel, rfl⟩
theorem dX4_putNext_30 : q_at cX4_putNext 30 (.iconst 0) 1 31 := ⟨by decide +kernel, rfl⟩
theorem dX4_putNext_31 : q_at cX4_putNext 31 (.istore 6) 2 33 := ⟨by decide +kernel, rfl⟩
theorem dX4_putNext_33 : q_at cX4_putNext 33 (.iload 6) 2 35 := ⟨by decide +kernel, rfl⟩
theorem dX4_putNext_35 : q_at cX4_putNext 35 (.aload_n 0) 1 36 := ⟨by decide +kernel, rfl⟩
theorem dX4_putNext_36 : q_at cX4_putNext 36 (.getfield 33) 3 39 := ⟨by decide +kernel, rfl⟩
theorem dX4_putNext_39 : q_at cX4_putNext 39 (.if_icmp .ge 154) 3 42 := ⟨by decide +kernel, rfl⟩
theorem dX4_putNext_42 : q_at cX4_putNext 42 (.iload_n 1) 1 43 := ⟨by decide +kernel, rfl⟩
theorem dX4_putNext_43 : q_at cX4_putNext 43 (.iload 6) 2 45 := ⟨by decide +kernel, rfl⟩
theorem dX4_putNext_45 : q_at cX4_putNext 45 (.ishr) 1 46 := ⟨by decide +kernel, rfl⟩
theorem dX4_putNext_46 : q_at cX4_putNext 46 (.iconst 1) 1 47 := ⟨by decide +kernel, rfl⟩
theorem dX4_putNext_47 : q_at cX4_putNext 47 (.iand) 1 48 := ⟨by decide +kernel, rfl⟩
theorem dX4_putNext_48 : q_at cX4_putNext 48 (.ifCond .ne 139) 3 51 := ⟨by decide +kernel, rfl⟩
theorem dX4_putNext_51 : q_at cX4_putNext 51 (.aload_n 0) 1 52 := ⟨by decide +kernel, rfl⟩
theorem dX4_putNext_52 : q_at cX4_putNext 52 (.getfield 18) 3 55 := ⟨by decide +kernel, rfl⟩
theorem dX4_putNext_55 : q_at cX4_putNext 55 (.iload 6) 2 57 := ⟨by decide +kernel, rfl⟩
theorem dX4_putNext_57 : q_at cX4_putNext 57 (.iaload) 1 58 := ⟨by decide +kernel, rfl⟩
theorem dX4_putNext_58 : q_at cX4_putNext 58 (.iload_n 1) 1 59 := ⟨by decide +kernel, rfl⟩
theorem dX4_putNext_59 : q_at cX4_putNext 59 (.iconst (-1)) 1 60 := ⟨by decide +kernel, rfl⟩
theorem dX4_putNext_60 : q_at cX4_putNext 60 (.ixor) 1 61 := ⟨by decide +kernel, rfl⟩
theorem dX4_putNext_61 : q_at cX4_putNext 61 (.iand) 1 62 := ⟨by decide +kernel, rfl⟩
theorem dX4_putNext_62 : q_at cX4_putNext 62 (.ifCond .eq 6) 3 65 := ⟨by decide +kernel, rfl⟩
theorem dX4_putNext_65 : q_at cX4_putNext 65 (.goto 122) 3 68 := ⟨by decide +kernel, rfl⟩
theorem dX4_putNext_68 : q_at cX4_putNext 68 (.aload_n 0) 1 69 := ⟨by decide +kernel, rfl⟩
theorem dX4_putNext_69 : q_at cX4_putNext 69 (.getfield 47) 3 72 := ⟨by decide +kernel, rfl⟩
theorem dX4_putNext_72 : q_at cX4_putNext 72 (.ifCond .gt 5) 3 75 := ⟨by decide +kernel, rfl⟩
theorem dX4_putNext_75 : q_at cX4_putNext 75 (.iconst 0) 1 76 := ⟨by decide +kernel, rfl⟩
theorem dX4_putNext_76 : q_at cX4_putNext 76 (.ireturn) 1 77 := ⟨by decide +kernel, rfl⟩
theorem dX4_putNext_77 : q_at cX4_putNext 77 (.aload_n 0) 1 78 := ⟨by decide +kernel, rfl⟩
theorem dX4_putNext_78 : q_at cX4_putNext 78 (.dup) 1 79 := ⟨by decide +kernel, rfl⟩
theorem dX4_putNext_79 : q_at cX4_putNext 79 (.getfield 47) 3 82 := ⟨by decide +kernel, rfl⟩
theorem dX4_putNext_82 : q_at cX4_putNext 82 (.iconst 1) 1 83 := ⟨by decide +kernel, rfl⟩
theorem dX4_putNext_83 : q_at cX4_putNext 83 (.isub) 1 84 := ⟨by decide +kernel, rfl⟩
theorem dX4_putNext_84 : q_at cX4_putNext 84 (.putfield 47) 3 87 := ⟨by decide +kernel, rfl⟩
theorem dX4_putNext_87 : q_at cX4_putNext 87 (.aload_n 0) 1 88 := ⟨by decide +kernel, rfl⟩
theorem dX4_putNext_88 : q_at cX4_putNext 88 (.getfield 11) 3 91 := ⟨by decide +kernel, rfl⟩
theorem dX4_putNext_91 : q_at cX4_putNext 91 (.iload 6) 2 93 := ⟨by decide +kernel, rfl⟩
theorem dX4_putNext_93 : q_at cX4_putNext 93 (.iaload) 1 94 := ⟨by decide +kernel, rfl⟩
theorem dX4_putNext_94 : q_at cX4_putNext 94 (.iload 4) 2 96 := ⟨by decide +kernel, rfl⟩
theorem dX4_putNext_96 : q_at cX4_putNext 96 (.isub) 1 97 := ⟨by decide +kernel, rfl⟩
theorem dX4_putNext_97 : q_at cX4_putNext 97 (.iload 5) 2 99 := ⟨by decide +kernel, rfl⟩
theorem dX4_putNext_99 : q_at cX4_putNext 99 (.invokestatic 60) 3 102 := ⟨by decide +kernel, rfl⟩
theorem dX4_putNext_102 : q_at cX4_putNext 102 (.istore 7) 2 104 := ⟨by decide +kernel, rfl⟩
theorem dX4_putNext_104 : q_at cX4_putNext 104 (.iload_n 3) 1 105 := ⟨by decide +kernel, rfl⟩
theorem dX4_putNext_105 : q_at cX4_putNext 105 (.iload 7) 2 107 := ⟨by decide +kernel, rfl⟩
theorem dX4_putNext_107 : q_at cX4_putNext 107 (.iadd) 1 108 := ⟨by decide +kernel, rfl⟩
theorem dX4_putNext_108 : q_at cX4_putNext 108 (.sipush 999) 3 111 := ⟨by decide +kernel, rfl⟩
theorem dX4_putNext_111 : q_at cX4_putNext 111 (.if_icmp .le 6) 3 114 := ⟨by decide +kernel, rfl⟩
theorem dX4_putNext_114 : q_at cX4_putNext 114 (.goto 73) 3 117 := ⟨by decide +kernel, rfl⟩
theorem dX4_putNext_117 : q_at cX4_putNext 117 (.aload_n 0) 1 118 := ⟨by decide +kernel, rfl⟩
theorem dX4_putNext_118 : q_at cX4_putNext 118 (.getfield 21) 3 121 := ⟨by decide +kernel, rfl⟩
theorem dX4_putNext_121 : q_at cX4_putNext 121 (.iload_n 2) 1 122 := ⟨by decide +kernel, rfl⟩
theorem dX4_putNext_122 : q_at cX4_putNext 122 (.iload 6) 2 124 := ⟨by decide +kernel, rfl⟩
theorem dX4_putNext_124 : q_at cX4_putNext 124 (.iastore) 1 125 := ⟨by decide +kernel, rfl⟩
theorem dX4_putNext_125 : q_at cX4_putNext 125 (.aload_n 0) 1 126 := ⟨by decide +kernel, rfl⟩
theorem dX4_putNext_126 : q_at cX4_putNext 126 (.getfield 24) 3 129 := ⟨by decide +kernel, rfl⟩
theorem dX4_putNext_129 : q_at cX4_putNext 129 (.iload_n 2) 1 130 := ⟨by decide +kernel, rfl⟩
theorem dX4_putNext_130 : q_at cX4_putNext 130 (.iload_n 3) 1 131 := ⟨by decide +kernel, rfl⟩
theorem dX4_putNext_131 : q_at cX4_putNext 131 (.iload 7) 2 133 := ⟨by decide +kernel, rfl⟩
theorem dX4_putNext_133 : q_at cX4_putNext 133 (.iadd) 1 134 := ⟨by decide +kernel, rfl⟩
theorem dX4_putNext_134 : q_at cX4_putNext 134 (.iastore) 1 135 := ⟨by decide +kernel, rfl⟩
theorem dX4_putNext_135 : q_at cX4_putNext 135 (.iload 4) 2 137 := ⟨by decide +kernel, rfl⟩
theorem dX4_putNext_137 : q_at cX4_putNext 137 (.iload 7) 2 139 := ⟨by decide +kernel, rfl⟩
theorem dX4_putNext_139 : q_at cX4_putNext 139 (.iload 5) 2 141 := ⟨by decide +kernel, rfl⟩
theorem dX4_putNext_141 : q_at cX4_putNext 141 (.imul) 1 142 := ⟨by decide +kernel, rfl⟩
theorem dX4_putNext_142 : q_at cX4_putNext 142 (.iadd) 1 143 := ⟨by decide +kernel, rfl⟩
theorem dX4_putNext_143 : q_at cX4_putNext 143 (.aload_n 0) 1 144 := ⟨by decide +kernel, rfl⟩
theorem dX4_putNext_144 : q_at cX4_putNext 144 (.getfield 11) 3 147 := ⟨by decide +kernel, rfl⟩
theorem dX4_putNext_147 : q_at cX4_putNext 147 (.iload 6) 2 149 := ⟨by decide +kernel, rfl⟩
theorem dX4_putNext_149 : q_at cX4_putNext 149 (.iaload) 1 150 := ⟨by decide +kernel, rfl⟩
theorem dX4_putNext_150 : q_at cX4_putNext 150 (.isub) 1 151 := ⟨by decide +kernel, rfl⟩
theorem dX4_putNext_151 : q_at cX4_putNext 151 (.istore 8) 2 153 := ⟨by decide +kernel, rfl⟩
theorem dX4_putNext_153 : q_at cX4_putNext 153 (.aload_n 0) 1 154 := ⟨by decide +kernel, rfl⟩
theorem dX4_putNext_154 : q_at cX4_putNext 154 (.iload_n 1) 1 155 := ⟨by decide +kernel, rfl⟩
theorem dX4_putNext_155 : q_at cX4_putNext 155 (.iconst 1) 1 156 := ⟨by decide +kernel, rfl⟩
theorem dX4_putNext_156 : q_at cX4_putNext 156 (.iload 6) 2 158 := ⟨by decide +kernel, rfl⟩
theorem dX4_putNext_158 : q_at cX4_putNext 158 (.ishl) 1 159 := ⟨by decide +kernel, rfl⟩
theorem dX4_putNext_159 : q_at cX4_putNext 159 (.ior) 1 160 := ⟨by decide +kernel, rfl⟩
theorem dX4_putNext_160 : q_at cX4_putNext 160 (.iload_n 2) 1 161 := ⟨by decide +kernel, rfl⟩
theorem dX4_putNext_161 : q_at cX4_putNext 161 (.iconst 1) 1 162 := ⟨by decide +kernel, rfl⟩
theorem dX4_putNext_162 : q_at cX4_putNext 162 (.iadd) 1 163 := ⟨by decide +kernel, rfl⟩
theorem dX4_putNext_163 : q_at cX4_putNext 163 (.iload_n 3) 1 164 := ⟨by decide +kernel, rfl⟩
theorem dX4_putNext_164 : q_at cX4_putNext 164 (.iload 7) 2 166 := ⟨by decide +kernel, rfl⟩
theorem dX4_putNext_166 : q_at cX4_putNext 166 (.iadd) 1 167 := ⟨by decide +kernel, rfl⟩
theorem dX4_putNext_167 : q_at cX4_putNext 167 (.iload 8) 2 169 := ⟨by decide +kernel, rfl⟩
theorem dX4_putNext_169 : q_at cX4_putNext 169 (.iload 5) 2 171 := ⟨by decide +kernel, rfl⟩
theorem dX4_putNext_171 : q_at cX4_putNext 171 (.aload_n 0) 1 172 := ⟨by decide +kernel, rfl⟩
theorem dX4_putNext_172 : q_at cX4_putNext 172 (.getfield 15) 3 175 := ⟨by decide +kernel, rfl⟩
theorem dX4_putNext_175 : q_at cX4_putNext 175 (.iload 6) 2 177 := ⟨by decide +kernel, rfl⟩
theorem dX4_putNext_177 : q_at cX4_putNext 177 (.iaload) 1 178 := ⟨by decide +kernel, rfl⟩
theorem dX4_putNext_178 : q_at cX4_putNext 178 (.iadd) 1 179 := ⟨by decide +kernel, rfl⟩
theorem dX4_putNext_179 : q_at cX4_putNext 179 (.invokevirtual 50) 3 182 := ⟨by decide +kernel, rfl⟩
theorem dX4_putNext_182 : q_at cX4_putNext 182 (.ifCond .ne 5) 3 185 := ⟨by decide +kernel, rfl⟩
theorem dX4_putNext_185 : q_at cX4_putNext 185 (.iconst 0) 1 186 := ⟨by decide +kernel, rfl⟩
theorem dX4_putNext_186 : q_at cX4_putNext 186 (.ireturn) 1 187 := ⟨by decide +kernel, rfl⟩
theorem dX4_putNext_187 : q_at cX4_putNext 187 (.iinc 6 1) 3 190 := ⟨by decide +kernel, rfl⟩
theorem dX4_putNext_190 : q_at cX4_putNext 190 (.goto (-157)) 3 193 := ⟨by decide +kernel, rfl⟩
theorem dX4_putNext_193 : q_at cX4_putNext 193 (.iconst 1) 1 194 := ⟨by decide +kernel, rfl⟩
theorem dX4_putNext_194 : q_at cX4_putNext 194 (.ireturn) 1 195 := ⟨by decide +kernel, rfl⟩
theorem dX6_goRound_0 : q_at cX6_goRound 0 (.iload_n 3) 1 1 := ⟨by decide +kernel, rfl⟩
theorem dX6_goRound_1 : q_at cX6_goRound 1 (.aload_n 0) 1 2 := ⟨by decide +kernel, rfl⟩
theorem dX6_goRound_2 : q_at cX6_goRound 2 (.getfield 24) 3 5 := ⟨by decide +kernel, rfl⟩
theorem dX6_goRound_5 : q_at cX6_goRound 5 (.iload_n 1) 1 6 := ⟨by decide +kernel, rfl⟩
theorem dX6_goRound_6 : q_at cX6_goRound 6 (.iaload) 1 7 := ⟨by decide +kernel, rfl⟩
theorem dX6_goRound_7 : q_at cX6_goRound 7 (.ior) 1 8 := ⟨by decide +kernel, rfl⟩
theorem dX6_goRound_8 : q_at cX6_goRound 8 (.invokestatic 51) 3 11 := ⟨by decide +kernel, rfl⟩
theorem dX6_goRound_11 : q_at cX6_goRound 11 (.aload_n 0) 1 12 := ⟨by decide +kernel, rfl⟩
theorem dX6_goRound_12 : q_at cX6_goRound 12 (.getfield 44) 3 15 := ⟨by decide +kernel, rfl⟩
theorem dX6_goRound_15 : q_at cX6_goRound 15 (.if_icmp .gt 4) 3 18 := ⟨by decide +kernel, rfl⟩
theorem dX6_goRound_18 : q_at cX6_goRound 18 (.return_) 1 19 := ⟨by decide +kernel, rfl⟩
theorem dX6_goRound_19 : q_at cX6_goRound 19 (.iload_n 1) 1 20 := ⟨by decide +kernel, rfl⟩
theorem dX6_goRound_20 : q_at cX6_goRound 20 (.iload_n 2) 1 21 := ⟨by decide +kernel, rfl⟩
theorem dX6_goRound_21 : q_at cX6_goRound 21 (.if_icmp .lt 26) 3 24 := ⟨by decide +kernel, rfl⟩
theorem dX6_goRound_24 : q_at cX6_goRound 24 (.aload_n 0) 1 25 := ⟨by decide +kernel, rfl⟩
theorem dX6_goRound_25 : q_at cX6_goRound 25 (.iload_n 3) 1 26 := ⟨by decide +kernel, rfl⟩
theorem dX6_goRound_26 : q_at cX6_goRound 26 (.invokestatic 51) 3 29 := ⟨by decide +kernel, rfl⟩
theorem dX6_goRound_29 : q_at cX6_goRound 29 (.putfield 44) 3 32 := ⟨by decide +kernel, rfl⟩
theorem dX6_goRound_32 : q_at cX6_goRound 32 (.aload_n 0) 1 33 := ⟨by decide +kernel, rfl⟩
theorem dX6_goRound_33 : q_at cX6_goRound 33 (.getfield 27) 3 36 := ⟨by decide +kernel, rfl⟩
theorem dX6_goRound_36 : q_at cX6_goRound 36 (.iconst 0) 1 37 := ⟨by decide +kernel, rfl⟩
theorem dX6_goRound_37 : q_at cX6_goRound 37 (.aload_n 0) 1 38 := ⟨by decide +kernel, rfl⟩
theorem dX6_goRound_38 : q_at cX6_goRound 38 (.getfield 30) 3 41 := ⟨by decide +kernel, rfl⟩
theorem dX6_goRound_41 : q_at cX6_goRound 41 (.iconst 0) 1 42 := ⟨by decide +kernel, rfl⟩
theorem dX6_goRound_42 : q_at cX6_goRound 42 (.iload_n 2) 1 43 := ⟨by decide +kernel, rfl⟩
theorem dX6_goRound_43 : q_at cX6_goRound 43 (.invokestatic 38) 3 46 := ⟨by decide +kernel, rfl⟩
theorem dX6_goRound_46 : q_at cX6_goRound 46 (.return_) 1 47 := ⟨by decide +kernel, rfl⟩
theorem dX6_goRound_47 : q_at cX6_goRound 47 (.iconst 0) 1 48 := ⟨by decide +kernel, rfl⟩
theorem dX6_goRound_48 : q_at cX6_goRound 48 (.istore 4) 2 50 := ⟨by decide +kernel, rfl⟩
theorem dX6_goRound_50 : q_at cX6_goRound 50 (.iload 4) 2 52 := ⟨by decide +kernel, rfl⟩
theorem dX6_goRound_52 : q_at cX6_goRound 52 (.iconst 4) 1 53 := ⟨by decide +kernel, rfl⟩
theorem dX6_goRound_53 : q_at cX6_goRound 53 (.if_icmp .ge 38) 3 56 := ⟨by decide +kernel, rfl⟩
theorem dX6_goRound_56 : q_at cX6_goRound 56 (.aload_n 0) 1 57 := ⟨by decide +kernel, rfl⟩
theorem dX6_goRound_57 : q_at cX6_goRound 57 (.getfield 27) 3 60 := ⟨by decide +kernel, rfl⟩
theorem dX6_goRound_60 : q_at cX6_goRound 60 (.iload_n 1) 1 61 := ⟨by decide +kernel, rfl⟩
theorem dX6_goRound_61 : q_at cX6_goRound 61 (.iload 4) 2 63 := ⟨by decide +kernel, rfl⟩
theorem dX6_goRound_63 : q_at cX6_goRound 63 (.iastore) 1 64 := ⟨by decide +kernel, rfl⟩
theorem dX6_goRound_64 : q_at cX6_goRound 64 (.aload_n 0) 1 65 := ⟨by decide +kernel, rfl⟩
theorem dX6_goRound_65 : q_at cX6_goRound 65 (.iload_n 1) 1 66 := ⟨by decide +kernel, rfl⟩
theorem dX6_goRound_66 : q_at cX6_goRound 66 (.iconst 1) 1 67 := ⟨by decide +kernel, rfl⟩
theorem dX6_goRound_67 : q_at cX6_goRound 67 (.iadd) 1 68 := ⟨by decide +kernel, rfl⟩
theorem dX6_goRound_68 : q_at cX6_goRound 68 (.iload_n 2) 1 69 := ⟨by decide +kernel, rfl⟩
theorem dX6_goRound_69 : q_at cX6_goRound 69 (.iload_n 3) 1 70 := ⟨by decide +kernel, rfl⟩
theorem dX6_goRound_70 : q_at cX6_goRound 70 (.aload_n 0) 1 71 := ⟨by decide +kernel, rfl⟩
theorem dX6_goRound_71 : q_at cX6_goRound 71 (.getfield 21) 3 74 := ⟨by decide +kernel, rfl⟩
theorem dX6_goRound_74 : q_at cX6_goRound 74 (.iload_n 1) 1 75 := ⟨by decide +kernel, rfl⟩
theorem dX6_goRound_75 : q_at cX6_goRound 75 (.iconst 4) 1 76 := ⟨by decide +kernel, rfl⟩
theorem dX6_goRound_76 : q_at cX6_goRound 76 (.imul) 1 77 := ⟨by decide +kernel, rfl⟩
theorem dX6_goRound_77 : q_at cX6_goRound 77 (.iload 4) 2 79 := ⟨by decide +kernel, rfl⟩
theorem dX6_goRound_79 : q_at cX6_goRound 79 (.iadd) 1 80 := ⟨by decide +kernel, rfl⟩
theorem dX6_goRound_80 : q_at cX6_goRound 80 (.iaload) 1 81 := ⟨by decide +kernel, rfl⟩
theorem dX6_goRound_81 : q_at cX6_goRound 81 (.ior) 1 82 := ⟨by decide +kernel, rfl⟩
theorem dX6_goRound_82 : q_at cX6_goRound 82 (.invokevirtual 47) 3 85 := ⟨by decide +kernel, rfl⟩
theorem dX6_goRound_85 : q_at cX6_goRound 85 (.iinc 4 1) 3 88 := ⟨by decide +kernel, rfl⟩
theorem dX6_goRound_88 : q_at cX6_goRound 88 (.goto (-38)) 3 91 := ⟨by decide +kernel, rfl⟩
theorem dX6_goRound_91 : q_at cX6_goRound 91 (.return_) 1 92 := ⟨by decide +kernel, rfl⟩
theorem dX4_found_0 : q_at cX4_found 0 (.aload_n 0) 1 1 := ⟨by decide +kernel, rfl⟩
theorem dX4_found_1 : q_at cX4_found 1 (.iconst (-1)) 1 2 := ⟨by decide +kernel, rfl⟩
theorem dX4_found_2 : q_at cX4_found 2 (.putfield 44) 3 5 := ⟨by decide +kernel, rfl⟩
theorem dX4_found_5 : q_at cX4_found 5 (.aload_n 0) 1 6 := ⟨by decide +kernel, rfl⟩
theorem dX4_found_6 : q_at cX4_found 6 (.iload_n 3) 1 7 := ⟨by decide +kernel, rfl⟩
theorem dX4_found_7 : q_at cX4_found 7 (.putfield 47) 3 10 := ⟨by decide +kernel, rfl⟩
theorem dX4_found_10 : q_at cX4_found 10 (.aload_n 0) 1 11 := ⟨by decide +kernel, rfl⟩
theorem dX4_found_11 : q_at cX4_found 11 (.iconst 0) 1 12 := ⟨by decide +kernel, rfl⟩
theorem dX4_found_12 : q_at cX4_found 12 (.iconst 0) 1 13 := ⟨by decide +kernel, rfl⟩
theorem dX4_found_13 : q_at cX4_found 13 (.iconst 0) 1 14 := ⟨by decide +kernel, rfl⟩
theorem dX4_found_14 : q_at cX4_found 14 (.iload_n 1) 1 15 := ⟨by decide +kernel, rfl⟩
theorem dX4_found_15 : q_at cX4_found 15 (.iload_n 2) 1 16 := ⟨by decide +kernel, rfl⟩
theorem dX4_found_16 : q_at cX4_found 16 (.invokevirtual 50) 3 19 := ⟨by decide +kernel, rfl⟩
theorem dX4_found_19 : q_at cX4_found 19 (.ifCond .ne 6) 3 22 := ⟨by decide +kernel, rfl⟩
theorem dX4_found_22 : q_at cX4_found 22 (.ldc 54) 2 24 := ⟨by decide +kernel, rfl⟩
theorem dX4_found_24 : q_at cX4_found 24 (.ireturn) 1 25 := ⟨by decide +kernel, rfl⟩
theorem dX4_found_25 : q_at cX4_found 25 (.aload_n 0) 1 26 := ⟨by decide +kernel, rfl⟩
theorem dX4_found_26 : q_at cX4_found 26 (.getfield 44) 3 29 := ⟨by decide +kernel, rfl⟩
theorem dX4_found_29 : q_at cX4_found 29 (.ifCond .ge 8) 3 32 := ⟨by decide +kernel, rfl⟩
theorem dX4_found_32 : q_at cX4_found 32 (.ldc 55) 2 34 := ⟨by decide +kernel, rfl⟩
theorem dX4_found_34 : q_at cX4_found 34 (.goto 7) 3 37 := ⟨by decide +kernel, rfl⟩
theorem dX4_found_37 : q_at cX4_found 37 (.aload_n 0) 1 38 := ⟨by decide +kernel, rfl⟩
theorem dX4_found_38 : q_at cX4_found 38 (.getfield 44) 3 41 := ⟨by decide +kernel, rfl⟩
theorem dX4_found_41 : q_at cX4_found 41 (.ireturn) 1 42 := ⟨by decide +kernel, rfl⟩
theorem dX6_bestOf_0 : q_at cX6_bestOf 0 (.iconst 0) 1 1 := ⟨by decide +kernel, rfl⟩
theorem dX6_bestOf_1 : q_at cX6_bestOf 1 (.istore_n 2) 1 2 := ⟨by decide +kernel, rfl⟩
theorem dX6_bestOf_2 : q_at cX6_bestOf 2 (.iload_n 2) 1 3 := ⟨by decide +kernel, rfl⟩
theorem dX6_bestOf_3 : q_at cX6_bestOf 3 (.aload_n 0) 1 4 := ⟨by decide +kernel, rfl⟩
theorem dX6_bestOf_4 : q_at cX6_bestOf 4 (.getfield 21) 3 7 := ⟨by decide +kernel, rfl⟩
theorem dX6_bestOf_7 : q_at cX6_bestOf 7 (.arraylength) 1 8 := ⟨by decide +kernel, rfl⟩
theorem dX6_bestOf_8 : q_at cX6_bestOf 8 (.if_icmp .ge 16) 3 11 := ⟨by decide +kernel, rfl⟩
theorem dX6_bestOf_11 : q_at cX6_bestOf 11 (.aload_n 0) 1 12 := ⟨by decide +kernel, rfl⟩
theorem dX6_bestOf_12 : q_at cX6_bestOf 12 (.getfield 21) 3 15 := ⟨by decide +kernel, rfl⟩
theorem dX6_bestOf_15 : q_at cX6_bestOf 15 (.iload_n 2) 1 16 := ⟨by decide +kernel, rfl⟩
theorem dX6_bestOf_16 : q_at cX6_bestOf 16 (.iconst 0) 1 17 := ⟨by decide +kernel, rfl⟩
theorem dX6_bestOf_17 : q_at cX6_bestOf 17 (.iastore) 1 18 := ⟨by decide +kernel, rfl⟩
theorem dX6_bestOf_18 : q_at cX6_bestOf 18 (.iinc 2 1) 3 21 := ⟨by decide +kernel, rfl⟩
theorem dX6_bestOf_21 : q_at cX6_bestOf 21 (.goto (-19)) 3 24 := ⟨by decide +kernel, rfl⟩
theorem dX6_bestOf_24 : q_at cX6_bestOf 24 (.iconst 0) 1 25 := ⟨by decide +kernel, rfl⟩
theorem dX6_bestOf_25 : q_at cX6_bestOf 25 (.istore_n 2) 1 26 := ⟨by decide +kernel, rfl⟩
theorem dX6_bestOf_26 : q_at cX6_bestOf 26 (.iload_n 2) 1 27 := ⟨by decide +kernel, rfl⟩
theorem dX6_bestOf_27 : q_at cX6_bestOf 27 (.aload_n 0) 1 28 := ⟨by decide +kernel, rfl⟩
theorem dX6_bestOf_28 : q_at cX6_bestOf 28 (.getfield 33) 3 31 := ⟨by decide +kernel, rfl⟩
theorem dX6_bestOf_31 : q_at cX6_bestOf 31 (.if_icmp .ge 53) 3 34 := ⟨by decide +kernel, rfl⟩
theorem dX6_bestOf_34 : q_at cX6_bestOf 34 (.aload_n 0) 1 35 := ⟨by decide +kernel, rfl⟩
theorem dX6_bestOf_35 : q_at cX6_bestOf 35 (.getfield 15) 3 38 := ⟨by decide +kernel, rfl⟩
theorem dX6_bestOf_38 : q_at cX6_bestOf 38 (.iload_n 2) 1 39 := ⟨by decide +kernel, rfl⟩
theorem dX6_bestOf_39 : q_at cX6_bestOf 39 (.iaload) 1 40 := ⟨by decide +kernel, rfl⟩
theorem dX6_bestOf_40 : q_at cX6_bestOf 40 (.istore_n 3) 1 41 := ⟨by decide +kernel, rfl⟩
theorem dX6_bestOf_41 : q_at cX6_bestOf 41 (.iload_n 3) 1 42 := ⟨by decide +kernel, rfl⟩
theorem dX6_bestOf_42 : q_at cX6_bestOf 42 (.aload_n 0) 1 43 := ⟨by decide +kernel, rfl⟩
theorem dX6_bestOf_43 : q_at cX6_bestOf 43 (.getfield 18) 3 46 := ⟨by decide +kernel, rfl⟩
theorem dX6_bestOf_46 : q_at cX6_bestOf 46 (.iload_n 2) 1 47 := ⟨by decide +kernel, rfl⟩
theorem dX6_bestOf_47 : q_at cX6_bestOf 47 (.iaload) 1 48 := ⟨by decide +kernel, rfl⟩
theorem dX6_bestOf_48 : q_at cX6_bestOf 48 (.if_icmp .gt 30) 3 51 := ⟨by decide +kernel, rfl⟩
theorem dX6_bestOf_51 : q_at cX6_bestOf 51 (.aload_n 0) 1 52 := ⟨by decide +kernel, rfl⟩
theorem dX6_bestOf_52 : q_at cX6_bestOf 52 (.getfield 21) 3 55 := ⟨by decide +kernel, rfl⟩
theorem dX6_bestOf_55 : q_at cX6_bestOf 55 (.iload_n 3) 1 56 := ⟨by decide +kernel, rfl⟩
theorem dX6_bestOf_56 : q_at cX6_bestOf 56 (.iconst 4) 1 57 := ⟨by decide +kernel, rfl⟩
theorem dX6_bestOf_57 : q_at cX6_bestOf 57 (.imul) 1 58 := ⟨by decide +kernel, rfl⟩
theorem dX6_bestOf_58 : q_at cX6_bestOf 58 (.aload_n 0) 1 59 := ⟨by decide +kernel, rfl⟩
theorem dX6_bestOf_59 : q_at cX6_bestOf 59 (.getfield 11) 3 62 := ⟨by decide +kernel, rfl⟩
theorem dX6_bestOf_62 : q_at cX6_bestOf 62 (.iload_n 2) 1 63 := ⟨by decide +kernel, rfl⟩
theorem dX6_bestOf_63 : q_at cX6_bestOf 63 (.iaload) 1 64 := ⟨by decide +kernel, rfl⟩
theorem dX6_bestOf_64 : q_at cX6_bestOf 64 (.iadd) 1 65 := ⟨by decide +kernel, rfl⟩
theorem dX6_bestOf_65 : q_at cX6_bestOf 65 (.dup2) 1 66 := ⟨by decide +kernel, rfl⟩
theorem dX6_bestOf_66 : q_at cX6_bestOf 66 (.iaload) 1 67 := ⟨by decide +kernel, rfl⟩
theorem dX6_bestOf_67 : q_at cX6_bestOf 67 (.iconst 1) 1 68 := ⟨by decide +kernel, rfl⟩
theorem dX6_bestOf_68 : q_at cX6_bestOf 68 (.iload_n 2) 1 69 := ⟨by decide +kernel, rfl⟩
theorem dX6_bestOf_69 : q_at cX6_bestOf 69 (.ishl) 1 70 := ⟨by decide +kernel, rfl⟩
theorem dX6_bestOf_70 : q_at cX6_bestOf 70 (.ior) 1 71 := ⟨by decide +kernel, rfl⟩
theorem dX6_bestOf_71 : q_at cX6_bestOf 71 (.iastore) 1 72 := ⟨by decide +kernel, rfl⟩
theorem dX6_bestOf_72 : q_at cX6_bestOf 72 (.iinc 3 1) 3 75 := ⟨by decide +kernel, rfl⟩
theorem dX6_bestOf_75 : q_at cX6_bestOf 75 (.goto (-34)) 3 78 := ⟨by decide +kernel, rfl⟩
theorem dX6_bestOf_78 : q_at cX6_bestOf 78 (.iinc 2 1) 3 81 := ⟨by decide +kernel, rfl⟩
theorem dX6_bestOf_81 : q_at cX6_bestOf 81 (.goto (-55)) 3 84 := ⟨by decide +kernel, rfl⟩
theorem dX6_bestOf_84 : q_at cX6_bestOf 84 (.aload_n 0) 1 85 := ⟨by decide +kernel, rfl⟩
theorem dX6_bestOf_85 : q_at cX6_bestOf 85 (.getfield 24) 3 88 := ⟨by decide +kernel, rfl⟩
theorem dX6_bestOf_88 : q_at cX6_bestOf 88 (.iload_n 1) 1 89 := ⟨by decide +kernel, rfl⟩
theorem dX6_bestOf_89 : q_at cX6_bestOf 89 (.iconst 0) 1 90 := ⟨by decide +kernel, rfl⟩
theorem dX6_bestOf_90 : q_at cX6_bestOf 90 (.iastore) 1 91 := ⟨by decide +kernel, rfl⟩
theorem dX6_bestOf_91 : q_at cX6_bestOf 91 (.iload_n 1) 1 92 := ⟨by decide +kernel, rfl⟩
theorem dX6_bestOf_92 : q_at cX6_bestOf 92 (.iconst 1) 1 93 := ⟨by decide +kernel, rfl⟩
theorem dX6_bestOf_93 : q_at cX6_bestOf 93 (.isub) 1 94 := ⟨by decide +kernel, rfl⟩
theorem dX6_bestOf_94 : q_at cX6_bestOf 94 (.istore_n 2) 1 95 := ⟨by decide +kernel, rfl⟩
theorem dX6_bestOf_95 : q_at cX6_bestOf 95 (.iload_n 2) 1 96 := ⟨by decide +kernel, rfl⟩
theorem dX6_bestOf_96 : q_at cX6_bestOf 96 (.ifCond .lt 55) 3 99 := ⟨by decide +kernel, rfl⟩
theorem dX6_bestOf_99 : q_at cX6_bestOf 99 (.aload_n 0) 1 100 := ⟨by decide +kernel, rfl⟩
theorem dX6_bestOf_100 : q_at cX6_bestOf 100 (.getfield 24) 3 103 := ⟨by decide +kernel, rfl⟩
theorem dX6_bestOf_103 : q_at cX6_bestOf 103 (.iload_n 2) 1 104 := ⟨by decide +kernel, rfl⟩
theorem dX6_bestOf_104 : q_at cX6_bestOf 104 (.aload_n 0) 1 105 := ⟨by decide +kernel, rfl⟩
theorem dX6_bestOf_105 : q_at cX6_bestOf 105 (.getfield 24) 3 108 := ⟨by decide +kernel, rfl⟩
theorem dX6_bestOf_108 : q_at cX6_bestOf 108 (.iload_n 2) 1 109 := ⟨by decide +kernel, rfl⟩
theorem dX6_bestOf_109 : q_at cX6_bestOf 109 (.iconst 1) 1 110 := ⟨by decide +kernel, rfl⟩
theorem dX6_bestOf_110 : q_at cX6_bestOf 110 (.iadd) 1 111 := ⟨by decide +kernel, rfl⟩
theorem dX6_bestOf_111 : q_at cX6_bestOf 111 (.iaload) 1 112 := ⟨by decide +kernel, rfl⟩
theorem dX6_bestOf_112 : q_at cX6_bestOf 112 (.iastore) 1 113 := ⟨by decide +kernel, rfl⟩
theorem dX6_bestOf_113 : q_at cX6_bestOf 113 (.iconst 0) 1 114 := ⟨by decide +kernel, rfl⟩
theorem dX6_bestOf_114 : q_at cX6_bestOf 114 (.istore_n 3) 1 115 := ⟨by decide +kernel, rfl⟩
theorem dX6_bestOf_115 : q_at cX6_bestOf 115 (.iload_n 3) 1 116 := ⟨by decide +kernel, rfl⟩
theorem dX6_bestOf_116 : q_at cX6_bestOf 116 (.iconst 4) 1 117 := ⟨by decide +kernel, rfl⟩
theorem dX6_bestOf_117 : q_at cX6_bestOf 117 (.if_icmp .ge 28) 3 120 := ⟨by decide +kernel, rfl⟩
theorem dX6_bestOf_120 : q_at cX6_bestOf 120 (.aload_n 0) 1 121 := ⟨by decide +kernel, rfl⟩
theorem dX6_bestOf_121 : q_at cX6_bestOf 121 (.getfield 24) 3 124 := ⟨by decide +kernel, rfl⟩
theorem dX6_bestOf_124 : q_at cX6_bestOf 124 (.iload_n 2) 1 125 := ⟨by decide +kernel, rfl⟩
theorem dX6_bestOf_125 : q_at cX6_bestOf 125 (.dup2) 1 126 := ⟨by decide +kernel, rfl⟩
theorem dX6_bestOf_126 : q_at cX6_bestOf 126 (.iaload) 1 127 := ⟨by decide +kernel, rfl⟩
theorem dX6_bestOf_127 : q_at cX6_bestOf 127 (.aload_n 0) 1 128 := ⟨by decide +kernel, rfl⟩
theorem dX6_bestOf_128 : q_at cX6_bestOf 128 (.getfield 21) 3 131 := ⟨by decide +kernel, rfl⟩
theorem dX6_bestOf_131 : q_at cX6_bestOf 131 (.iload_n 2) 1 132 := ⟨by decide +kernel, rfl⟩
theorem dX6_bestOf_132 : q_at cX6_bestOf 132 (.iconst 4) 1 133 := ⟨by decide +kernel, rfl⟩
theorem dX6_bestOf_133 : q_at cX6_bestOf 133 (.imul) 1 134 := ⟨by decide +kernel, rfl⟩
theorem dX6_bestOf_134 : q_at cX6_bestOf 134 (.iload_n 3) 1 135 := ⟨by decide +kernel, rfl⟩
theorem dX6_bestOf_135 : q_at cX6_bestOf 135 (.iadd) 1 136 := ⟨by decide +kernel, rfl⟩
theorem dX6_bestOf_136 : q_at cX6_bestOf 136 (.iaload) 1 137 := ⟨by decide +kernel, rfl⟩
theorem dX6_bestOf_137 : q_at cX6_bestOf 137 (.ior) 1 138 := ⟨by decide +kernel, rfl⟩
theorem dX6_bestOf_138 : q_at cX6_bestOf 138 (.iastore) 1 139 := ⟨by decide +kernel, rfl⟩
theorem dX6_bestOf_139 : q_at cX6_bestOf 139 (.iinc 3 1) 3 142 := ⟨by decide +kernel, rfl⟩
theorem dX6_bestOf_142 : q_at cX6_bestOf 142 (.goto (-27)) 3 145 := ⟨by decide +kernel, rfl⟩
theorem dX6_bestOf_145 : q_at cX6_bestOf 145 (.iinc 2 (-1)) 3 148 := ⟨by decide +kernel, rfl⟩
theorem dX6_bestOf_148 : q_at cX6_bestOf 148 (.goto (-53)) 3 151 := ⟨by decide +kernel, rfl⟩
theorem dX6_bestOf_151 : q_at cX6_bestOf 151 (.aload_n 0) 1 152 := ⟨by decide +kernel, rfl⟩
theorem dX6_bestOf_152 : q_at cX6_bestOf 152 (.iconst (-1)) 1 153 := ⟨by decide +kernel, rfl⟩
theorem dX6_bestOf_153 : q_at cX6_bestOf 153 (.putfield 44) 3 156 := ⟨by decide +kernel, rfl⟩
theorem dX6_bestOf_156 : q_at cX6_bestOf 156 (.aload_n 0) 1 157 := ⟨by decide +kernel, rfl⟩
theorem dX6_bestOf_157 : q_at cX6_bestOf 157 (.iconst 0) 1 158 := ⟨by decide +kernel, rfl⟩
theorem dX6_bestOf_158 : q_at cX6_bestOf 158 (.iload_n 1) 1 159 := ⟨by decide +kernel, rfl⟩
theorem dX6_bestOf_159 : q_at cX6_bestOf 159 (.iconst 0) 1 160 := ⟨by decide +kernel, rfl⟩
theorem dX6_bestOf_160 : q_at cX6_bestOf 160 (.invokevirtual 47) 3 163 := ⟨by decide +kernel, rfl⟩
theorem dX6_bestOf_163 : q_at cX6_bestOf 163 (.aload_n 0) 1 164 := ⟨by decide +kernel, rfl⟩
theorem dX6_bestOf_164 : q_at cX6_bestOf 164 (.getfield 44) 3 167 := ⟨by decide +kernel, rfl⟩
theorem dX6_bestOf_167 : q_at cX6_bestOf 167 (.ireturn) 1 168 := ⟨by decide +kernel, rfl⟩
def f_J6_bitCount_0f7a4 (x0 : Int32) : Option (Int32) :=
  some (((((((((x0 - ((q_ush x0 (nI 1)) &&& (nI 1431655765))) &&& (nI 858993459)) + ((q_ush (x0 - ((q_ush x0 (nI 1)) &&& (nI 1431655765))) (nI 2)) &&& (nI 858993459))) + (q_ush (((x0 - ((q_ush x0 (nI 1)) &&& (nI 1431655765))) &&& (nI 858993459)) + ((q_ush (x0 - ((q_ush x0 (nI 1)) &&& (nI 1431655765))) (nI 2)) &&& (nI 858993459))) (nI 4))) &&& (nI 252645135)) + (q_ush (((((x0 - ((q_ush x0 (nI 1)) &&& (nI 1431655765))) &&& (nI 858993459)) + ((q_ush (x0 - ((q_ush x0 (nI 1)) &&& (nI 1431655765))) (nI 2)) &&& (nI 858993459))) + (q_ush (((x0 - ((q_ush x0 (nI 1)) &&& (nI 1431655765))) &&& (nI 858993459)) + ((q_ush (x0 - ((q_ush x0 (nI 1)) &&& (nI 1431655765))) (nI 2)) &&& (nI 858993459))) (nI 4))) &&& (nI 252645135)) (nI 8))) + (q_ush ((((((x0 - ((q_ush x0 (nI 1)) &&& (nI 1431655765))) &&& (nI 858993459)) + ((q_ush (x0 - ((q_ush x0 (nI 1)) &&& (nI 1431655765))) (nI 2)) &&& (nI 858993459))) + (q_ush (((x0 - ((q_ush x0 (nI 1)) &&& (nI 1431655765))) &&& (nI 858993459)) + ((q_ush (x0 - ((q_ush x0 (nI 1)) &&& (nI 1431655765))) (nI 2)) &&& (nI 858993459))) (nI 4))) &&& (nI 252645135)) + (q_ush (((((x0 - ((q_ush x0 (nI 1)) &&& (nI 1431655765))) &&& (nI 858993459)) + ((q_ush (x0 - ((q_ush x0 (nI 1)) &&& (nI 1431655765))) (nI 2)) &&& (nI 858993459))) + (q_ush (((x0 - ((q_ush x0 (nI 1)) &&& (nI 1431655765))) &&& (nI 858993459)) + ((q_ush (x0 - ((q_ush x0 (nI 1)) &&& (nI 1431655765))) (nI 2)) &&& (nI 858993459))) (nI 4))) &&& (nI 252645135)) (nI 8))) (nI 16))) &&& (nI 63)))
set_option maxRecDepth 100000 in
set_option maxHeartbeats 4000000 in
theorem s_J6_bitCount_0f7a4 {l : Launch} {Γ : qC} (hΓ : q_gm Γ) {X : qX} (hX : q_Lay X) {x0 : Int32} {I : qI} {z : Int32} (h : f_J6_bitCount_0f7a4 x0 = some z) : q_Sem l Γ (q_rm 2 0 0) yJ6_bitCount_0f7a4 cJ6_bitCount_0f7a4 1 (some .int) [.int x0] I X (some (.int z), I, X) := by
  refine q_met (by decide) (Nat.le_of_ble_eq_true rfl) (fun g hg hr => ?_)
  unfold f_J6_bitCount_0f7a4 at h
  show g 0 0 0 [(0, .int x0)] [] I X
  refine r_iload_n hg 0 dJ6_bitCount_0f7a4_0 rfl rfl ?_
  refine r_iload_n hg 0 dJ6_bitCount_0f7a4_1 rfl rfl ?_
  refine r_iconst hg dJ6_bitCount_0f7a4_2 ci_1 ?_
  refine r_iushrq hg dJ6_bitCount_0f7a4_3 ?_
  refine r_ldcw hg dJ6_bitCount_0f7a4_4 kc_J6_265 ?_
  refine r_iand hg dJ6_bitCount_0f7a4_7 ?_
  refine r_isub hg dJ6_bitCount_0f7a4_8 ?_
  refine r_istore_n hg (L' := [(0, .int (x0 - ((q_ush x0 (nI 1)) &&& (nI 1431655765))))]) dJ6_bitCount_0f7a4_9 rfl (by decide) rfl ?_
  refine r_iload_n hg 0 dJ6_bitCount_0f7a4_10 rfl rfl ?_
  refine r_ldcw hg dJ6_bitCount_0f7a4_11 kc_J6_266 ?_
  refine r_iand hg dJ6_bitCount_0f7a4_14 ?_
  refine r_iload_n hg 0 dJ6_bitCount_0f7a4_15 rfl rfl ?_
  refine r_iconst hg dJ6_bitCount_0f7a4_16 ci_2 ?_
  refine r_iushrq hg dJ6_bitCount_0f7a4_17 ?_
  refine r_ldcw hg dJ6_bitCount_0f7a4_18 kc_J6_266 ?_
  refine r_iand hg dJ6_bitCount_0f7a4_21 ?_
  refine r_iadd hg dJ6_bitCount_0f7a4_22 ?_
  refine r_istore_n hg (L' := [(0, .int (((x0 - ((q_ush x0 (nI 1)) &&& (nI 1431655765))) &&& (nI 858993459)) + ((q_ush (x0 - ((q_ush x0 (nI 1)) &&& (nI 1431655765))) (nI 2)) &&& (nI 858993459))))]) dJ6_bitCount_0f7a4_23 rfl (by decide) rfl ?_
  refine r_iload_n hg 0 dJ6_bitCount_0f7a4_24 rfl rfl ?_
  refine r_iload_n hg 0 dJ6_bitCount_0f7a4_25 rfl rfl ?_
  refine r_iconst hg dJ6_bitCount_0f7a4_26 ci_4 ?_
  refine r_iushrq hg dJ6_bitCount_0f7a4_27 ?_
  refine r_iadd hg dJ6_bitCount_0f7a4_28 ?_
  refine r_ldcw hg dJ6_bitCount_0f7a4_29 kc_J6_267 ?_
  refine r_iand hg dJ6_bitCount_0f7a4_32 ?_
  refine r_istore_n hg (L' := [(0, .int (((((x0 - ((q_ush x0 (nI 1)) &&& (nI 1431655765))) &&& (nI 858993459)) + ((q_ush (x0 - ((q_ush x0 (nI 1)) &&& (nI 1431655765))) (nI 2)) &&& (nI 858993459))) + (q_ush (((x0 - ((q_ush x0 (nI 1)) &&& (nI 1431655765))) &&& (nI 858993459)) + ((q_ush (x0 - ((q_ush x0 (nI 1)) &&& (nI 1431655765))) (nI 2)) &&& (nI 858993459))) (nI 4))) &&& (nI 252645135)))]) dJ6_bitCount_0f7a4_33 rfl (by decide) rfl ?_
  refine r_iload_n hg 0 dJ6_bitCount_0f7a4_34 rfl rfl ?_
  refine r_iload_n hg 0 dJ6_bitCount_0f7a4_35 rfl rfl ?_
  refine r_bipush hg dJ6_bitCount_0f7a4_36 cb_8 ?_
  refine r_iushrq hg dJ6_bitCount_0f7a4_38 ?_
  refine r_iadd hg dJ6_bitCount_0f7a4_39 ?_
  refine r_istore_n hg (L' := [(0, .int ((((((x0 - ((q_ush x0 (nI 1)) &&& (nI 1431655765))) &&& (nI 858993459)) + ((q_ush (x0 - ((q_ush x0 (nI 1)) &&& (nI 1431655765))) (nI 2)) &&& (nI 858993459))) + (q_ush (((x0 - ((q_ush x0 (nI 1)) &&& (nI 1431655765))) &&& (nI 858993459)) + ((q_ush (x0 - ((q_ush x0 (nI 1)) &&& (nI 1431655765))) (nI 2)) &&& (nI 858993459))) (nI 4))) &&& (nI 252645135)) + (q_ush (((((x0 - ((q_ush x0 (nI 1)) &&& (nI 1431655765))) &&& (nI 858993459)) + ((q_ush (x0 - ((q_ush x0 (nI 1)) &&& (nI 1431655765))) (nI 2)) &&& (nI 858993459))) + (q_ush (((x0 - ((q_ush x0 (nI 1)) &&& (nI 1431655765))) &&& (nI 858993459)) + ((q_ush (x0 - ((q_ush x0 (nI 1)) &&& (nI 1431655765))) (nI 2)) &&& (nI 858993459))) (nI 4))) &&& (nI 252645135)) (nI 8))))]) dJ6_bitCount_0f7a4_40 rfl (by decide) rfl ?_
  refine r_iload_n hg 0 dJ6_bitCount_0f7a4_41 rfl rfl ?_
  refine r_iload_n hg 0 dJ6_bitCount_0f7a4_42 rfl rfl ?_
  refine r_bipush hg dJ6_bitCount_0f7a4_43 cb_16 ?_
  refine r_iushrq hg dJ6_bitCount_0f7a4_45 ?_
  refine r_iadd hg dJ6_bitCount_0f7a4_46 ?_
  refine r_istore_n hg (L' := [(0, .int (((((((x0 - ((q_ush x0 (nI 1)) &&& (nI 1431655765))) &&& (nI 858993459)) + ((q_ush (x0 - ((q_ush x0 (nI 1)) &&& (nI 1431655765))) (nI 2)) &&& (nI 858993459))) + (q_ush (((x0 - ((q_ush x0 (nI 1)) &&& (nI 1431655765))) &&& (nI 858993459)) + ((q_ush (x0 - ((q_ush x0 (nI 1)) &&& (nI 1431655765))) (nI 2)) &&& (nI 858993459))) (nI 4))) &&& (nI 252645135)) + (q_ush (((((x0 - ((q_ush x0 (nI 1)) &&& (nI 1431655765))) &&& (nI 858993459)) + ((q_ush (x0 - ((q_ush x0 (nI 1)) &&& (nI 1431655765))) (nI 2)) &&& (nI 858993459))) + (q_ush (((x0 - ((q_ush x0 (nI 1)) &&& (nI 1431655765))) &&& (nI 858993459)) + ((q_ush (x0 - ((q_ush x0 (nI 1)) &&& (nI 1431655765))) (nI 2)) &&& (nI 858993459))) (nI 4))) &&& (nI 252645135)) (nI 8))) + (q_ush ((((((x0 - ((q_ush x0 (nI 1)) &&& (nI 1431655765))) &&& (nI 858993459)) + ((q_ush (x0 - ((q_ush x0 (nI 1)) &&& (nI 1431655765))) (nI 2)) &&& (nI 858993459))) + (q_ush (((x0 - ((q_ush x0 (nI 1)) &&& (nI 1431655765))) &&& (nI 858993459)) + ((q_ush (x0 - ((q_ush x0 (nI 1)) &&& (nI 1431655765))) (nI 2)) &&& (nI 858993459))) (nI 4))) &&& (nI 252645135)) + (q_ush (((((x0 - ((q_ush x0 (nI 1)) &&& (nI 1431655765))) &&& (nI 858993459)) + ((q_ush (x0 - ((q_ush x0 (nI 1)) &&& (nI 1431655765))) (nI 2)) &&& (nI 858993459))) + (q_ush (((x0 - ((q_ush x0 (nI 1)) &&& (nI 1431655765))) &&& (nI 858993459)) + ((q_ush (x0 - ((q_ush x0 (nI 1)) &&& (nI 1431655765))) (nI 2)) &&& (nI 858993459))) (nI 4))) &&& (nI 252645135)) (nI 8))) (nI 16))))]) dJ6_bitCount_0f7a4_47 rfl (by decide) rfl ?_
  refine r_iload_n hg 0 dJ6_bitCount_0f7a4_48 rfl rfl ?_
  refine r_bipush hg dJ6_bitCount_0f7a4_49 cb_63 ?_
  refine r_iand hg dJ6_bitCount_0f7a4_51 ?_
  exact r_ireturn hr dJ6_bitCount_0f7a4_52 ⟨Nat.zero_le _, Nat.zero_le _⟩ ⟨_, rfl, rfl⟩ (by cases h; rfl)

def f_X0_hasRange (this : Nat) (x1 : Int32) (x2 : Int32) (x3 : Int32) (I : qI) : Option (Int32) :=
  if x2 < 0 then
    some ((nI 0))
  else
    if x3 < 0 then
      some ((nI 0))
    else
      q_b1 (q_rd I (this + 2) 8 x1) fun v4 =>
      if (v4 - x2) < x3 then
        some ((nI 0))
      else
        some ((nI 1))
set_option maxRecDepth 100000 in
set_option maxHeartbeats 4000000 in
theorem s_X0_hasRange {l : Launch} {Γ : qC} (hΓ : q_gm Γ) {X : qX} (hX : q_Lay X) {this : Nat} {x1 : Int32} {x2 : Int32} {x3 : Int32} (k_this : q_kd X this = some (2, 3)) {I : qI} {z : Int32} (h : f_X0_hasRange this x1 x2 x3 I = some z) : q_Sem l Γ (q_rm 2 0 0) yX0_hasRange cX0_hasRange 4 (some .boolean) [.ref this, .int x1, .int x2, .int x3] I X (some (.int z), I, X) := by
  refine q_met (by decide) (Nat.le_of_ble_eq_true rfl) (fun g hg hr => ?_)
  unfold f_X0_hasRange at h
  show g 0 0 0 [(0, .ref this), (1, .int x1), (2, .int x2), (3, .int x3)] [] I X
  refine r_iload_n hg 2 dX0_hasRange_0 rfl rfl ?_
  refine r_if_lt hg 24 dX0_hasRange_1 (by decide) (fun c1 => ?_) (fun c1 => ?_)
  · rw [if_pos c1] at h
    refine r_iconst hg dX0_hasRange_24 ci_0 ?_
    exact r_ireturn hr dX0_hasRange_25 ⟨Nat.zero_le _, Nat.zero_le _⟩ ⟨_, rfl, bz_0.1⟩ (by cases h; rfl)
  · rw [if_neg c1] at h
    refine r_iload_n hg 3 dX0_hasRange_4 rfl rfl ?_
    refine r_if_lt hg 24 dX0_hasRange_5 (by decide) (fun c2 => ?_) (fun c2 => ?_)
    · rw [if_pos c2] at h
      refine r_iconst hg dX0_hasRange_24 ci_0 ?_
      exact r_ireturn hr dX0_hasRange_25 ⟨Nat.zero_le _, Nat.zero_le _⟩ ⟨_, rfl, bz_0.1⟩ (by cases h; rfl)
    · rw [if_neg c2] at h
      refine r_iload_n hg 3 dX0_hasRange_8 rfl rfl ?_
      refine r_aload_n hg 0 dX0_hasRange_9 rfl rfl ?_
      have e3 := ly_0_1 hX k_this
      refine r_getR hg dX0_hasRange_10 fl_X0_17 k_this rfl e3.1 ?_
      refine r_iload_n hg 1 dX0_hasRange_13 rfl rfl ?_
      obtain ⟨v4, e5, h⟩ := q_b1_some h
      refine r_iald hg dX0_hasRange_14 e3.2 e5 ?_
      refine r_iload_n hg 2 dX0_hasRange_15 rfl rfl ?_
      refine r_isub hg dX0_hasRange_16 ?_
      refine r_icmp_gt hg 24 dX0_hasRange_17 (by decide) (fun c6 => ?_) (fun c6 => ?_)
      · rw [if_pos c6] at h
        refine r_iconst hg dX0_hasRange_24 ci_0 ?_
        exact r_ireturn hr dX0_hasRange_25 ⟨Nat.zero_le _, Nat.zero_le _⟩ ⟨_, rfl, bz_0.1⟩ (by cases h; rfl)
      · rw [if_neg c6] at h
        refine r_iconst hg dX0_hasRange_20 ci_1 ?_
        refine r_goto hg 25 dX0_hasRange_21 (by decide) ?_
        exact r_ireturn hr dX0_hasRange_25 ⟨Nat.zero_le _, Nat.zero_le _⟩ ⟨_, rfl, bz_1.1⟩ (by cases h; rfl)

def f_X0_hasWeek (this : Nat) (x1 : Int32) (x2 : Int32) (I : qI) : Option (Int32) :=
  if x2 < 0 then
    some ((nI 0))
  else
    q_b1 (q_rd I (this + 2) 8 x1) fun v3 =>
    if v3 ≤ x2 then
      some ((nI 0))
    else
      some ((nI 1))
set_option maxRecDepth 100000 in
set_option maxHeartbeats 4000000 in
theorem s_X0_hasWeek {l : Launch} {Γ : qC} (hΓ : q_gm Γ) {X : qX} (hX : q_Lay X) {this : Nat} {x1 : Int32} {x2 : Int32} (k_this : q_kd X this = some (2, 3)) {I : qI} {z : Int32} (h : f_X0_hasWeek this x1 x2 I = some z) : q_Sem l Γ (q_rm 2 0 0) yX0_hasWeek cX0_hasWeek 3 (some .boolean) [.ref this, .int x1, .int x2] I X (some (.int z), I, X) := by
  refine q_met (by decide) (Nat.le_of_ble_eq_true rfl) (fun g hg hr => ?_)
  unfold f_X0_hasWeek at h
  show g 0 0 0 [(0, .ref this), (1, .int x1), (2, .int x2)] [] I X
  refine r_iload_n hg 2 dX0_hasWeek_0 rfl rfl ?_
  refine r_if_lt hg 18 dX0_hasWeek_1 (by decide) (fun c1 => ?_) (fun c1 => ?_)
  · rw [if_pos c1] at h
    refine r_iconst hg dX0_hasWeek_18 ci_0 ?_
    exact r_ireturn hr dX0_hasWeek_19 ⟨Nat.zero_le _, Nat.zero_le _⟩ ⟨_, rfl, bz_0.1⟩ (by cases h; rfl)
  · rw [if_neg c1] at h
    refine r_iload_n hg 2 dX0_hasWeek_4 rfl rfl ?_
    refine r_aload_n hg 0 dX0_hasWeek_5 rfl rfl ?_
    have e2 := ly_0_1 hX k_this
    refine r_getR hg dX0_hasWeek_6 fl_X0_17 k_this rfl e2.1 ?_
    refine r_iload_n hg 1 dX0_hasWeek_9 rfl rfl ?_
    obtain ⟨v3, e4, h⟩ := q_b1_some h
    refine r_iald hg dX0_hasWeek_10 e2.2 e4 ?_
    refine r_icmp_ge hg 18 dX0_hasWeek_11 (by decide) (fun c5 => ?_) (fun c5 => ?_)
    · rw [if_pos c5] at h
      refine r_iconst hg dX0_hasWeek_18 ci_0 ?_
      exact r_ireturn hr dX0_hasWeek_19 ⟨Nat.zero_le _, Nat.zero_le _⟩ ⟨_, rfl, bz_0.1⟩ (by cases h; rfl)
    · rw [if_neg c5] at h
      refine r_iconst hg dX0_hasWeek_14 ci_1 ?_
      refine r_goto hg 19 dX0_hasWeek_15 (by decide) ?_
      exact r_ireturn hr dX0_hasWeek_19 ⟨Nat.zero_le _, Nat.zero_le _⟩ ⟨_, rfl, bz_1.1⟩ (by cases h; rfl)

def f_X0_isMissing (this : Nat) (x1 : Int32) (I : qI) : Option (Int32) :=
  q_b1 (q_rd I (this + 1) 8 x1) fun v2 =>
  if v2 = (-1) then
    some ((nI 1))
  else
    some ((nI 0))
set_option maxRecDepth 100000 in
set_option maxHeartbeats 4000000 in
theorem s_X0_isMissing {l : Launch} {Γ : qC} (hΓ : q_gm Γ) {X : qX} (hX : q_Lay X) {this : Nat} {x1 : Int32} (k_this : q_kd X this = some (2, 3)) {I : qI} {z : Int32} (h : f_X0_isMissing this x1 I = some z) : q_Sem l Γ (q_rm 2 0 0) yX0_isMissing cX0_isMissing 2 (some .boolean) [.ref this, .int x1] I X (some (.int z), I, X) := by
  refine q_met (by decide) (Nat.le_of_ble_eq_true rfl) (fun g hg hr => ?_)
  unfold f_X0_isMissing at h
  show g 0 0 0 [(0, .ref this), (1, .int x1)] [] I X
  refine r_aload_n hg 0 dX0_isMissing_0 rfl rfl ?_
  have e1 := ly_0_0 hX k_this
  refine r_getR hg dX0_isMissing_1 fl_X0_11 k_this rfl e1.1 ?_
  refine r_iload_n hg 1 dX0_isMissing_4 rfl rfl ?_
  obtain ⟨v2, e3, h⟩ := q_b1_some h
  refine r_iald hg dX0_isMissing_5 e1.2 e3 ?_
  refine r_iconst hg dX0_isMissing_6 ci_m1 ?_
  refine r_icmp_ne hg 14 dX0_isMissing_7 (by decide) (fun c4 => ?_) (fun c4 => ?_)
  · rw [if_neg c4] at h
    refine r_iconst hg dX0_isMissing_14 ci_0 ?_
    exact r_ireturn hr dX0_isMissing_15 ⟨Nat.zero_le _, Nat.zero_le _⟩ ⟨_, rfl, bz_0.1⟩ (by cases h; rfl)
  · rw [if_pos (Classical.not_not.mp c4)] at h
    refine r_iconst hg dX0_isMissing_10 ci_1 ?_
    refine r_goto hg 15 dX0_isMissing_11 (by decide) ?_
    exact r_ireturn hr dX0_isMissing_15 ⟨Nat.zero_le _, Nat.zero_le _⟩ ⟨_, rfl, bz_1.1⟩ (by cases h; rfl)

def f_X0_start (x0 : Int32) : Option (Int32) :=
  some ((x0 * (nI 30)))
set_option maxRecDepth 100000 in
set_option maxHeartbeats 4000000 in
theorem s_X0_start {l : Launch} {Γ : qC} (hΓ : q_gm Γ) {X : qX} (hX : q_Lay X) {x0 : Int32} {I : qI} {z : Int32} (h : f_X0_start x0 = some z) : q_Sem l Γ (q_rm 2 0 0) yX0_start cX0_start 1 (some .int) [.int x0] I X (some (.int z), I, X) := by
  refine q_met (by decide) (Nat.le_of_ble_eq_true rfl) (fun g hg hr => ?_)
  unfold f_X0_start at h
  show g 0 0 0 [(0, .int x0)] [] I X
  refine r_iload_n hg 0 dX0_start_0 rfl rfl ?_
  refine r_bipush hg dX0_start_1 cb_30 ?_
  refine r_imul hg dX0_start_3 ?_
  exact r_ireturn hr dX0_start_4 ⟨Nat.zero_le _, Nat.zero_le _⟩ ⟨_, rfl, rfl⟩ (by cases h; rfl)

def f_X10_become (this : Nat) (x1 : Nat) (I : qI) : Option (qI) :=
  q_b1 (q_cp I (x1 + 1) 48 (nI 0) (this + 1) 48 (nI 0) (nI 48)) fun I3 =>
  some (I3)
set_option maxRecDepth 100000 in
set_option maxHeartbeats 4000000 in
theorem s_X10_become {l : Launch} {Γ : qC} (hΓ : q_gm Γ) {X : qX} (hX : q_Lay X) {this : Nat} {x1 : Nat} (k_this : q_kd X this = some (12, 1)) (k_x1 : q_kd X x1 = some (12, 1)) {I : qI} {z : qI} (h : f_X10_become this x1 I = some z) : q_Sem l Γ (q_rm 2 0 0) yX10_become cX10_become 2 none [.ref this, .ref x1] I X (none, z, X) := by
  refine q_met (by decide) (Nat.le_of_ble_eq_true rfl) (fun g hg hr => ?_)
  unfold f_X10_become at h
  show g 0 0 0 [(0, .ref this), (1, .ref x1)] [] I X
  refine r_aload_n hg 1 dX10_become_0 rfl rfl ?_
  have e1 := ly_10_0 hX k_x1
  refine r_getR hg dX10_become_1 fl_X10_9 k_x1 rfl e1.1 ?_
  refine r_iconst hg dX10_become_4 ci_0 ?_
  refine r_aload_n hg 0 dX10_become_5 rfl rfl ?_
  have e2 := ly_10_0 hX k_this
  refine r_getR hg dX10_become_6 fl_X10_9 k_this rfl e2.1 ?_
  refine r_iconst hg dX10_become_9 ci_0 ?_
  refine r_bipush hg dX10_become_10 cb_48 ?_
  obtain ⟨I3, e4, h⟩ := q_b1_some h
  obtain ⟨⟨e5, e6, e7⟩, e8, e9, rfl⟩ := q_cp_some e4
  refine r_copy hg dX10_become_12 cp_X10_13 e1.2 e2.2 e5 e6 e7 e8 e9 ⟨Nat.le_of_ble_eq_true rfl, Nat.le_of_ble_eq_true rfl⟩ ?_
  exact r_return hr dX10_become_15 ⟨Nat.zero_le _, Nat.zero_le _⟩ rfl (by cases h; rfl)

def f_X10_m (x0 : Int32) : Option (Int32) :=
  some ((x0 / (nI 12)))
set_option maxRecDepth 100000 in
set_option maxHeartbeats 4000000 in
theorem s_X10_m {l : Launch} {Γ : qC} (hΓ : q_gm Γ) {X : qX} (hX : q_Lay X) {x0 : Int32} {I : qI} {z : Int32} (h : f_X10_m x0 = some z) : q_Sem l Γ (q_rm 2 0 0) yX10_m cX10_m 1 (some .int) [.int x0] I X (some (.int z), I, X) := by
  refine q_met (by decide) (Nat.le_of_ble_eq_true rfl) (fun g hg hr => ?_)
  unfold f_X10_m at h
  show g 0 0 0 [(0, .int x0)] [] I X
  refine r_iload_n hg 0 dX10_m_0 rfl rfl ?_
  refine r_bipush hg dX10_m_1 cb_12 ?_
  refine r_idiv hg dX10_m_3 nz_12 ?_
  exact r_ireturn hr dX10_m_4 ⟨Nat.zero_le _, Nat.zero_le _⟩ ⟨_, rfl, rfl⟩ (by cases h; rfl)

def f_X10_number (x0 : Int32) (x1 : Int32) (x2 : Int32) : Option (Int32) :=
  some (((((x0 * (nI 4)) + x1) * (nI 3)) + x2))
set_option maxRecDepth 100000 in
set_option maxHeartbeats 4000000 in
theorem s_X10_number {l : Launch} {Γ : qC} (hΓ : q_gm Γ) {X : qX} (hX : q_Lay X) {x0 : Int32} {x1 : Int32} {x2 : Int32} {I : qI} {z : Int32} (h : f_X10_number x0 x1 x2 = some z) : q_Sem l Γ (q_rm 2 0 0) yX10_number cX10_number 3 (some .int) [.int x0, .int x1, .int x2] I X (some (.int z), I, X) := by
  refine q_met (by decide) (Nat.le_of_ble_eq_true rfl) (fun g hg hr => ?_)
  unfold f_X10_number at h
  show g 0 0 0 [(0, .int x0), (1, .int x1), (2, .int x2)] [] I X
  refine r_iload_n hg 0 dX10_number_0 rfl rfl ?_
  refine r_iconst hg dX10_number_1 ci_4 ?_
  refine r_imul hg dX10_number_2 ?_
  refine r_iload_n hg 1 dX10_number_3 rfl rfl ?_
  refine r_iadd hg dX10_number_4 ?_
  refine r_iconst hg dX10_number_5 ci_3 ?_
  refine r_imul hg dX10_number_6 ?_
  refine r_iload_n hg 2 dX10_number_7 rfl rfl ?_
  refine r_iadd hg dX10_number_8 ?_
  exact r_ireturn hr dX10_number_9 ⟨Nat.zero_le _, Nat.zero_le _⟩ ⟨_, rfl, rfl⟩ (by cases h; rfl)

def f_X10_p (x0 : Int32) : Option (Int32) :=
  some ((q_rem (x0 / (nI 3)) (nI 4)))
set_option maxRecDepth 100000 in
set_option maxHeartbeats 4000000 in
theorem s_X10_p {l : Launch} {Γ : qC} (hΓ : q_gm Γ) {X : qX} (hX : q_Lay X) {x0 : Int32} {I : qI} {z : Int32} (h : f_X10_p x0 = some z) : q_Sem l Γ (q_rm 2 0 0) yX10_p cX10_p 1 (some .int) [.int x0] I X (some (.int z), I, X) := by
  refine q_met (by decide) (Nat.le_of_ble_eq_true rfl) (fun g hg hr => ?_)
  unfold f_X10_p at h
  show g 0 0 0 [(0, .int x0)] [] I X
  refine r_iload_n hg 0 dX10_p_0 rfl rfl ?_
  refine r_iconst hg dX10_p_1 ci_3 ?_
  refine r_idiv hg dX10_p_2 nz_3 ?_
  refine r_iconst hg dX10_p_3 ci_4 ?_
  refine r_iremq hg dX10_p_4 nz_4 ?_
  exact r_ireturn hr dX10_p_5 ⟨Nat.zero_le _, Nat.zero_le _⟩ ⟨_, rfl, rfl⟩ (by cases h; rfl)

def f_X10_t (x0 : Int32) : Option (Int32) :=
  some ((q_rem x0 (nI 3)))
set_option maxRecDepth 100000 in
set_option maxHeartbeats 4000000 in
theorem s_X10_t {l : Launch} {Γ : qC} (hΓ : q_gm Γ) {X : qX} (hX : q_Lay X) {x0 : Int32} {I : qI} {z : Int32} (h : f_X10_t x0 = some z) : q_Sem l Γ (q_rm 2 0 0) yX10_t cX10_t 1 (some .int) [.int x0] I X (some (.int z), I, X) := by
  refine q_met (by decide) (Nat.le_of_ble_eq_true rfl) (fun g hg hr => ?_)
  unfold f_X10_t at h
  show g 0 0 0 [(0, .int x0)] [] I X
  refine r_iload_n hg 0 dX10_t_0 rfl rfl ?_
  refine r_iconst hg dX10_t_1 ci_3 ?_
  refine r_iremq hg dX10_t_2 nz_3 ?_
  exact r_ireturn hr dX10_t_3 ⟨Nat.zero_le _, Nat.zero_le _⟩ ⟨_, rfl, rfl⟩ (by cases h; rfl)

def f_X1_added (this : Nat) (x1 : Int32) (x2 : Int32) (x3 : Int32) (x4 : Int32) (x5 : Int32) (I : qI) : Option (Int32 × qI) :=
  if (I this 8) < (nI 60) then
    q_b1 (q_wr I (this + 1) 60 (I this 8) x1) fun I3 =>
    q_b1 (q_wr I3 (this + 2) 60 (I3 this 8) x2) fun I6 =>
    q_b1 (q_wr I6 (this + 3) 60 (I6 this 8) x3) fun I9 =>
    q_b1 (q_wr I9 (this + 4) 60 (I9 this 8) x4) fun I12 =>
    q_b1 (q_wr I12 (this + 5) 60 (I12 this 8) x5) fun I15 =>
    q_b1 (q_wr I15 (this + 6) 60 (I15 this 8) (nI 0)) fun I18 =>
    q_b1 (q_wr I18 (this + 7) 60 (I18 this 8) (-1000000005)) fun I21 =>
    q_b1 (q_wr I21 (this + 8) 60 (I21 this 8) (nI 0)) fun I24 =>
    q_b1 (some (q_up I24 this 8 ((I24 this 8) + (nI 1)))) fun I26 =>
    some (((I26 this 8) - (nI 1)), I26)
  else
    some ((-1000000003), I)
set_option maxRecDepth 100000 in
set_option maxHeartbeats 4000000 in
theorem s_X1_added {l : Launch} {Γ : qC} (hΓ : q_gm Γ) {X : qX} (hX : q_Lay X) {this : Nat} {x1 : Int32} {x2 : Int32} {x3 : Int32} {x4 : Int32} {x5 : Int32} (k_this : q_kd X this = some (3, 9)) {I : qI} {z : Int32 × qI} (h : f_X1_added this x1 x2 x3 x4 x5 I = some z) : q_Sem l Γ (q_rm 2 0 0) yX1_added cX1_added 6 (some .int) [.ref this, .int x1, .int x2, .int x3, .int x4, .int x5] I X (some (.int z.1), z.2, X) := by
  refine q_met (by decide) (Nat.le_of_ble_eq_true rfl) (fun g hg hr => ?_)
  unfold f_X1_added at h
  show g 0 0 0 [(0, .ref this), (1, .int x1), (2, .int x2), (3, .int x3), (4, .int x4), (5, .int x5)] [] I X
  refine r_aload_n hg 0 dX1_added_0 rfl rfl ?_
  refine r_getI hg dX1_added_1 fl_X1_36 k_this rfl ?_
  refine r_bipush hg dX1_added_4 cb_60 ?_
  refine r_icmp_lt hg 12 dX1_added_6 (by decide) (fun c1 => ?_) (fun c1 => ?_)
  · rw [if_pos c1] at h
    refine r_aload_n hg 0 dX1_added_12 rfl rfl ?_
    have e2 := ly_1_0 hX k_this
    refine r_getR hg dX1_added_13 fl_X1_11 k_this rfl e2.1 ?_
    refine r_aload_n hg 0 dX1_added_16 rfl rfl ?_
    refine r_getI hg dX1_added_17 fl_X1_36 k_this rfl ?_
    refine r_iload_n hg 1 dX1_added_20 rfl rfl ?_
    obtain ⟨I3, e4, h⟩ := q_b1_some h
    refine r_iast hg dX1_added_21 e2.2 e4 ?_
    refine r_aload_n hg 0 dX1_added_22 rfl rfl ?_
    have e5 := ly_1_1 hX k_this
    refine r_getR hg dX1_added_23 fl_X1_15 k_this rfl e5.1 ?_
    refine r_aload_n hg 0 dX1_added_26 rfl rfl ?_
    refine r_getI hg dX1_added_27 fl_X1_36 k_this rfl ?_
    refine r_iload_n hg 2 dX1_added_30 rfl rfl ?_
    obtain ⟨I6, e7, h⟩ := q_b1_some h
    refine r_iast hg dX1_added_31 e5.2 e7 ?_
    refine r_aload_n hg 0 dX1_added_32 rfl rfl ?_
    have e8 := ly_1_2 hX k_this
    refine r_getR hg dX1_added_33 fl_X1_18 k_this rfl e8.1 ?_
    refine r_aload_n hg 0 dX1_added_36 rfl rfl ?_
    refine r_getI hg dX1_added_37 fl_X1_36 k_this rfl ?_
    refine r_iload_n hg 3 dX1_added_40 rfl rfl ?_
    obtain ⟨I9, e10, h⟩ := q_b1_some h
    refine r_iast hg dX1_added_41 e8.2 e10 ?_
    refine r_aload_n hg 0 dX1_added_42 rfl rfl ?_
    have e11 := ly_1_3 hX k_this
    refine r_getR hg dX1_added_43 fl_X1_21 k_this rfl e11.1 ?_
    refine r_aload_n hg 0 dX1_added_46 rfl rfl ?_
    refine r_getI hg dX1_added_47 fl_X1_36 k_this rfl ?_
    refine r_iload hg 4 dX1_added_50 rfl ?_
    obtain ⟨I12, e13, h⟩ := q_b1_some h
    refine r_iast hg dX1_added_52 e11.2 e13 ?_
    refine r_aload_n hg 0 dX1_added_53 rfl rfl ?_
    have e14 := ly_1_4 hX k_this
    refine r_getR hg dX1_added_54 fl_X1_24 k_this rfl e14.1 ?_
    refine r_aload_n hg 0 dX1_added_57 rfl rfl ?_
    refine r_getI hg dX1_added_58 fl_X1_36 k_this rfl ?_
    refine r_iload hg 5 dX1_added_61 rfl ?_
    obtain ⟨I15, e16, h⟩ := q_b1_some h
    refine r_iast hg dX1_added_63 e14.2 e16 ?_
    refine r_aload_n hg 0 dX1_added_64 rfl rfl ?_
    have e17 := ly_1_5 hX k_this
    refine r_getR hg dX1_added_65 fl_X1_27 k_this rfl e17.1 ?_
    refine r_aload_n hg 0 dX1_added_68 rfl rfl ?_
    refine r_getI hg dX1_added_69 fl_X1_36 k_this rfl ?_
    refine r_iconst hg dX1_added_72 ci_0 ?_
    obtain ⟨I18, e19, h⟩ := q_b1_some h
    refine r_iast hg dX1_added_73 e17.2 e19 ?_
    refine r_aload_n hg 0 dX1_added_74 rfl rfl ?_
    have e20 := ly_1_6 hX k_this
    refine r_getR hg dX1_added_75 fl_X1_30 k_this rfl e20.1 ?_
    refine r_aload_n hg 0 dX1_added_78 rfl rfl ?_
    refine r_getI hg dX1_added_79 fl_X1_36 k_this rfl ?_
    refine r_ldc hg dX1_added_82 kc_X1_44 ?_
    obtain ⟨I21, e22, h⟩ := q_b1_some h
    refine r_iast hg dX1_added_84 e20.2 e22 ?_
    refine r_aload_n hg 0 dX1_added_85 rfl rfl ?_
    have e23 := ly_1_7 hX k_this
    refine r_getR hg dX1_added_86 fl_X1_33 k_this rfl e23.1 ?_
    refine r_aload_n hg 0 dX1_added_89 rfl rfl ?_
    refine r_getI hg dX1_added_90 fl_X1_36 k_this rfl ?_
    refine r_iconst hg dX1_added_93 ci_0 ?_
    obtain ⟨I24, e25, h⟩ := q_b1_some h
    refine r_iast hg dX1_added_94 e23.2 e25 ?_
    refine r_aload_n hg 0 dX1_added_95 rfl rfl ?_
    refine r_dup hg dX1_added_96 rfl ?_
    refine r_getI hg dX1_added_97 fl_X1_36 k_this rfl ?_
    refine r_iconst hg dX1_added_100 ci_1 ?_
    refine r_iadd hg dX1_added_101 ?_
    obtain ⟨I26, e27, h⟩ := q_b1_some h
    obtain rfl := Option.some.inj e27
    refine r_putI hg dX1_added_102 fl_X1_36 k_this rfl ⟨rfl, rfl⟩ ?_
    refine r_aload_n hg 0 dX1_added_105 rfl rfl ?_
    refine r_getI hg dX1_added_106 fl_X1_36 k_this rfl ?_
    refine r_iconst hg dX1_added_109 ci_1 ?_
    refine r_isub hg dX1_added_110 ?_
    exact r_ireturn hr dX1_added_111 ⟨Nat.zero_le _, Nat.zero_le _⟩ ⟨_, rfl, rfl⟩ (by cases h; rfl)
  · rw [if_neg c1] at h
    refine r_ldc hg dX1_added_9 kc_X1_43 ?_
    exact r_ireturn hr dX1_added_11 ⟨Nat.zero_le _, Nat.zero_le _⟩ ⟨_, rfl, rfl⟩ (by cases h; rfl)

def f_X1_has (this : Nat) (x1 : Int32) (I : qI) : Option (Int32) :=
  if x1 < 0 then
    some ((nI 0))
  else
    if (I this 8) ≤ x1 then
      some ((nI 0))
    else
      some ((nI 1))
set_option maxRecDepth 100000 in
set_option maxHeartbeats 4000000 in
theorem s_X1_has {l : Launch} {Γ : qC} (hΓ : q_gm Γ) {X : qX} (hX : q_Lay X) {this : Nat} {x1 : Int32} (k_this : q_kd X this = some (3, 9)) {I : qI} {z : Int32} (h : f_X1_has this x1 I = some z) : q_Sem l Γ (q_rm 2 0 0) yX1_has cX1_has 2 (some .boolean) [.ref this, .int x1] I X (some (.int z), I, X) := by
  refine q_met (by decide) (Nat.le_of_ble_eq_true rfl) (fun g hg hr => ?_)
  unfold f_X1_has at h
  show g 0 0 0 [(0, .ref this), (1, .int x1)] [] I X
  refine r_iload_n hg 1 dX1_has_0 rfl rfl ?_
  refine r_if_lt hg 16 dX1_has_1 (by decide) (fun c1 => ?_) (fun c1 => ?_)
  · rw [if_pos c1] at h
    refine r_iconst hg dX1_has_16 ci_0 ?_
    exact r_ireturn hr dX1_has_17 ⟨Nat.zero_le _, Nat.zero_le _⟩ ⟨_, rfl, bz_0.1⟩ (by cases h; rfl)
  · rw [if_neg c1] at h
    refine r_iload_n hg 1 dX1_has_4 rfl rfl ?_
    refine r_aload_n hg 0 dX1_has_5 rfl rfl ?_
    refine r_getI hg dX1_has_6 fl_X1_36 k_this rfl ?_
    refine r_icmp_ge hg 16 dX1_has_9 (by decide) (fun c2 => ?_) (fun c2 => ?_)
    · rw [if_pos c2] at h
      refine r_iconst hg dX1_has_16 ci_0 ?_
      exact r_ireturn hr dX1_has_17 ⟨Nat.zero_le _, Nat.zero_le _⟩ ⟨_, rfl, bz_0.1⟩ (by cases h; rfl)
    · rw [if_neg c2] at h
      refine r_iconst hg dX1_has_12 ci_1 ?_
      refine r_goto hg 17 dX1_has_13 (by decide) ?_
      exact r_ireturn hr dX1_has_17 ⟨Nat.zero_le _, Nat.zero_le _⟩ ⟨_, rfl, bz_1.1⟩ (by cases h; rfl)

def b_X1_isUnder_4 (x0 : Int32) (x1 : Int32) (I : qI) (k4 : Int32 → Int32 → Option (Int32)) (x2 : Int32) (x3 : Int32) : Option (Int32) :=
  if (nI 7) ≤ x3 then
    some ((nI 0))
  else
    if x2 < 0 then
      some ((nI 0))
    else
      if (nI 7) ≤ x2 then
        some ((nI 0))
      else
        if x2 = x1 then
          some ((nI 1))
        else
          q_b1 (q_rdO q_ABOVE 7 x2) fun v5 =>
          k4 v5 (x3 + (nI 1))
set_option maxRecDepth 100000 in
set_option maxHeartbeats 4000000 in
theorem p_X1_isUnder_4 {l : Launch} {Γ : qC} {g : qG} {z : Int32} {x0 : Int32} {x1 : Int32} {X : qX} {I : qI} (hΓ : q_gm Γ) (hg : q_Ok l Γ RX1 cX1_isUnder 4 (q_rm 2 0 0) "isUnder" (some .boolean) g) (hr : q_Rt cX1_isUnder (some .boolean) (q_rm 2 0 0) (some (.int z), I, X) g) (hX : q_Lay X) {k4 : Int32 → Int32 → Option (Int32)} (hk4 : ∀ (x2 : Int32) (x3 : Int32), k4 x2 x3 = some z → g 0 0 4 [(1, .int x1), (2, .int x2), (3, .int x3)] [] I X) (x2 : Int32) (x3 : Int32) (h : b_X1_isUnder_4 x0 x1 I k4 x2 x3 = some z) : g 0 0 4 [(1, .int x1), (2, .int x2), (3, .int x3)] [] I X := by
  unfold b_X1_isUnder_4 at h
  refine r_iload_n hg 2 dX1_isUnder_4 rfl rfl ?_
  refine r_gets hg (a := 3) dX1_isUnder_5 fs_X1_40 (Or.inr (Or.inr ⟨rfl, rfl, rfl⟩)) ?_
  refine r_alenC hg dX1_isUnder_8 (by decide) hΓ.2.2.1 ?_
  refine r_icmp_ge hg 43 dX1_isUnder_9 (by decide) (fun c1 => ?_) (fun c1 => ?_)
  · rw [if_pos c1] at h
    refine r_iconst hg dX1_isUnder_43 ci_0 ?_
    exact r_ireturn hr dX1_isUnder_44 ⟨Nat.zero_le _, Nat.zero_le _⟩ ⟨_, rfl, bz_0.1⟩ (by cases h; rfl)
  · rw [if_neg c1] at h
    refine r_iload_n hg 1 dX1_isUnder_12 rfl rfl ?_
    refine r_if_lt hg 43 dX1_isUnder_13 (by decide) (fun c2 => ?_) (fun c2 => ?_)
    · rw [if_pos c2] at h
      refine r_iconst hg dX1_isUnder_43 ci_0 ?_
      exact r_ireturn hr dX1_isUnder_44 ⟨Nat.zero_le _, Nat.zero_le _⟩ ⟨_, rfl, bz_0.1⟩ (by cases h; rfl)
    · rw [if_neg c2] at h
      refine r_iload_n hg 1 dX1_isUnder_16 rfl rfl ?_
      refine r_gets hg (a := 3) dX1_isUnder_17 fs_X1_40 (Or.inr (Or.inr ⟨rfl, rfl, rfl⟩)) ?_
      refine r_alenC hg dX1_isUnder_20 (by decide) hΓ.2.2.1 ?_
      refine r_icmp_ge hg 43 dX1_isUnder_21 (by decide) (fun c3 => ?_) (fun c3 => ?_)
      · rw [if_pos c3] at h
        refine r_iconst hg dX1_isUnder_43 ci_0 ?_
        exact r_ireturn hr dX1_isUnder_44 ⟨Nat.zero_le _, Nat.zero_le _⟩ ⟨_, rfl, bz_0.1⟩ (by cases h; rfl)
      · rw [if_neg c3] at h
        refine r_iload_n hg 1 dX1_isUnder_24 rfl rfl ?_
        refine r_iload_n hg 0 dX1_isUnder_25 rfl rfl ?_
        refine r_icmp_ne hg 31 dX1_isUnder_26 (by decide) (fun c4 => ?_) (fun c4 => ?_)
        · rw [if_neg c4] at h
          refine r_gets hg (a := 3) dX1_isUnder_31 fs_X1_40 (Or.inr (Or.inr ⟨rfl, rfl, rfl⟩)) ?_
          refine r_iload_n hg 1 dX1_isUnder_34 rfl rfl ?_
          obtain ⟨v5, e6, h⟩ := q_b1_some h
          refine r_ialdC hg dX1_isUnder_35 (by decide) hΓ.2.2.1 hΓ.2.2.2 e6 ?_
          refine r_istore_n hg (L' := [(2, .int v5), (1, .int x1), (3, .int x3)]) dX1_isUnder_36 rfl (by decide) rfl ?_
          refine r_iinc hg 2 (v := (x3 + (nI 1))) (L' := [(3, .int (x3 + (nI 1))), (2, .int v5), (1, .int x1)]) dX1_isUnder_37 rfl (by rw [ci_1]) (by decide) rfl ?_
          refine r_goto hg 4 dX1_isUnder_40 (by decide) ?_
          refine r_sub hg [2, 1, 0] rfl ?_
          exact hk4 _ _ h
        · rw [if_pos (Classical.not_not.mp c4)] at h
          refine r_iconst hg dX1_isUnder_29 ci_1 ?_
          exact r_ireturn hr dX1_isUnder_30 ⟨Nat.zero_le _, Nat.zero_le _⟩ ⟨_, rfl, bz_1.1⟩ (by cases h; rfl)
theorem pl_X1_isUnder_4 {l : Launch} {Γ : qC} {g : qG} {z : Int32} {x0 : Int32} {x1 : Int32} {X : qX} {I : qI} (hΓ : q_gm Γ) (hg : q_Ok l Γ RX1 cX1_isUnder 4 (q_rm 2 0 0) "isUnder" (some .boolean) g) (hr : q_Rt cX1_isUnder (some .boolean) (q_rm 2 0 0) (some (.int z), I, X) g) (hX : q_Lay X) : ∀ (n : Nat) (x2 : Int32) (x3 : Int32), q_fix (fun _ _ => none) (b_X1_isUnder_4 x0 x1 I) n x2 x3 = some z → g 0 0 4 [(1, .int x1), (2, .int x2), (3, .int x3)] [] I X := by
  intro n
  induction n with
  | zero =>
    intro x2 x3 h
    cases (show (none : Option (Int32)) = some z from h)
  | succ n ih =>
    intro x2 x3 h
    exact p_X1_isUnder_4 hΓ hg hr hX ih _ _ h
def f_X1_isUnder (x0 : Int32) (x1 : Int32) (I : qI) : Option (Int32) :=
  q_fix (fun _ _ => none) (b_X1_isUnder_4 x0 x1 I) q_fu x0 (nI 0)
set_option maxRecDepth 100000 in
set_option maxHeartbeats 4000000 in
theorem s_X1_isUnder {l : Launch} {Γ : qC} (hΓ : q_gm Γ) {X : qX} (hX : q_Lay X) {x0 : Int32} {x1 : Int32} {I : qI} {z : Int32} (h : f_X1_isUnder x0 x1 I = some z) : q_Sem l Γ (q_rm 2 0 0) yX1_isUnder cX1_isUnder 4 (some .boolean) [.int x0, .int x1] I X (some (.int z), I, X) := by
  refine q_met (by decide) (Nat.le_of_ble_eq_true rfl) (fun g hg hr => ?_)
  unfold f_X1_isUnder at h
  show g 0 0 0 [(0, .int x0), (1, .int x1)] [] I X
  refine r_iload_n hg 0 dX1_isUnder_0 rfl rfl ?_
  refine r_istore_n hg (L' := [(2, .int x0), (0, .int x0), (1, .int x1)]) dX1_isUnder_1 rfl (by decide) rfl ?_
  refine r_iconst hg dX1_isUnder_2 ci_0 ?_
  refine r_istore_n hg (L' := [(3, .int (nI 0)), (2, .int x0), (0, .int x0), (1, .int x1)]) dX1_isUnder_3 rfl (by decide) rfl ?_
  refine r_sub hg [3, 1, 0] rfl ?_
  exact pl_X1_isUnder_4 hΓ hg hr hX _ _ _ h

def b_X1_open_24 (this : Nat) (I : qI) (k4 : Int32 → Int32 → Option (Int32)) (x1 : Int32) (x2 : Int32) : Option (Int32) :=
  k4 x1 (x2 + (nI 1))
set_option maxRecDepth 100000 in
set_option maxHeartbeats 4000000 in
theorem p_X1_open_24 {l : Launch} {Γ : qC} {g : qG} {z : Int32} {this : Nat} {X : qX} {I : qI} (hΓ : q_gm Γ) (hg : q_Ok l Γ RX1 cX1_open 3 (q_rm 2 0 0) "open" (some .int) g) (hr : q_Rt cX1_open (some .int) (q_rm 2 0 0) (some (.int z), I, X) g) (hX : q_Lay X) (k_this : q_kd X this = some (3, 9)) {k4 : Int32 → Int32 → Option (Int32)} (hk4 : ∀ (x1 : Int32) (x2 : Int32), k4 x1 x2 = some z → g 0 0 4 [(0, .ref this), (1, .int x1), (2, .int x2)] [] I X) (x1 : Int32) (x2 : Int32) (h : b_X1_open_24 this I k4 x1 x2 = some z) : g 0 0 24 [(0, .ref this), (1, .int x1), (2, .int x2)] [] I X := by
  unfold b_X1_open_24 at h
  refine r_iinc hg 2 (v := (x2 + (nI 1))) (L' := [(2, .int (x2 + (nI 1))), (0, .ref this), (1, .int x1)]) dX1_open_24 rfl (by rw [ci_1]) (by decide) rfl ?_
  refine r_goto hg 4 dX1_open_27 (by decide) ?_
  refine r_sub hg [1, 2, 0] rfl ?_
  exact hk4 _ _ h
def b_X1_open_4 (this : Nat) (I : qI) (k4 : Int32 → Int32 → Option (Int32)) (x1 : Int32) (x2 : Int32) : Option (Int32) :=
  if (I this 8) ≤ x2 then
    some (x1)
  else
    q_b1 (q_rd I (this + 6) 60 x2) fun v3 =>
    if v3 = 0 then
      b_X1_open_24 this I k4 (x1 + (nI 1)) x2
    else
      b_X1_open_24 this I k4 x1 x2
set_option maxRecDepth 100000 in
set_option maxHeartbeats 4000000 in
theorem p_X1_open_4 {l : Launch} {Γ : qC} {g : qG} {z : Int32} {this : Nat} {X : qX} {I : qI} (hΓ : q_gm Γ) (hg : q_Ok l Γ RX1 cX1_open 3 (q_rm 2 0 0) "open" (some .int) g) (hr : q_Rt cX1_open (some .int) (q_rm 2 0 0) (some (.int z), I, X) g) (hX : q_Lay X) (k_this : q_kd X this = some (3, 9)) {k4 : Int32 → Int32 → Option (Int32)} (hk4 : ∀ (x1 : Int32) (x2 : Int32), k4 x1 x2 = some z → g 0 0 4 [(0, .ref this), (1, .int x1), (2, .int x2)] [] I X) (x1 : Int32) (x2 : Int32) (h : b_X1_open_4 this I k4 x1 x2 = some z) : g 0 0 4 [(0, .ref this), (1, .int x1), (2, .int x2)] [] I X := by
  unfold b_X1_open_4 at h
  refine r_iload_n hg 2 dX1_open_4 rfl rfl ?_
  refine r_aload_n hg 0 dX1_open_5 rfl rfl ?_
  refine r_getI hg dX1_open_6 fl_X1_36 k_this rfl ?_
  refine r_icmp_ge hg 30 dX1_open_9 (by decide) (fun c1 => ?_) (fun c1 => ?_)
  · rw [if_pos c1] at h
    refine r_iload_n hg 1 dX1_open_30 rfl rfl ?_
    exact r_ireturn hr dX1_open_31 ⟨Nat.zero_le _, Nat.zero_le _⟩ ⟨_, rfl, rfl⟩ (by cases h; rfl)
  · rw [if_neg c1] at h
    refine r_aload_n hg 0 dX1_open_12 rfl rfl ?_
    have e2 := ly_1_5 hX k_this
    refine r_getR hg dX1_open_13 fl_X1_27 k_this rfl e2.1 ?_
    refine r_iload_n hg 2 dX1_open_16 rfl rfl ?_
    obtain ⟨v3, e4, h⟩ := q_b1_some h
    refine r_iald hg dX1_open_17 e2.2 e4 ?_
    refine r_if_ne hg 24 dX1_open_18 (by decide) (fun c5 => ?_) (fun c5 => ?_)
    · rw [if_neg c5] at h
      exact p_X1_open_24 hΓ hg hr hX k_this hk4 _ _ h
    · rw [if_pos (Classical.not_not.mp c5)] at h
      refine r_iinc hg 1 (v := (x1 + (nI 1))) (L' := [(1, .int (x1 + (nI 1))), (0, .ref this), (2, .int x2)]) dX1_open_21 rfl (by rw [ci_1]) (by decide) rfl ?_
      refine r_sub hg [1, 0, 2] rfl ?_
      exact p_X1_open_24 hΓ hg hr hX k_this hk4 _ _ h
theorem pl_X1_open_4 {l : Launch} {Γ : qC} {g : qG} {z : Int32} {this : Nat} {X : qX} {I : qI} (hΓ : q_gm Γ) (hg : q_Ok l Γ RX1 cX1_open 3 (q_rm 2 0 0) "open" (some .int) g) (hr : q_Rt cX1_open (some .int) (q_rm 2 0 0) (some (.int z), I, X) g) (hX : q_Lay X) (k_this : q_kd X this = some (3, 9)) : ∀ (n : Nat) (x1 : Int32) (x2 : Int32), q_fix (fun _ _ => none) (b_X1_open_4 this I) n x1 x2 = some z → g 0 0 4 [(0, .ref this), (1, .int x1), (2, .int x2)] [] I X := by
  intro n
  induction n with
  | zero =>
    intro x1 x2 h
    cases (show (none : Option (Int32)) = some z from h)
  | succ n ih =>
    intro x1 x2 h
    exact p_X1_open_4 hΓ hg hr hX k_this ih _ _ h
def f_X1_open (this : Nat) (I : qI) : Option (Int32) :=
  q_fix (fun _ _ => none) (b_X1_open_4 this I) q_fu (nI 0) (nI 0)
set_option maxRecDepth 100000 in
set_option maxHeartbeats 4000000 in
theorem s_X1_open {l : Launch} {Γ : qC} (hΓ : q_gm Γ) {X : qX} (hX : q_Lay X) {this : Nat} (k_this : q_kd X this = some (3, 9)) {I : qI} {z : Int32} (h : f_X1_open this I = some z) : q_Sem l Γ (q_rm 2 0 0) yX1_open cX1_open 3 (some .int) [.ref this] I X (some (.int z), I, X) := by
  refine q_met (by decide) (Nat.le_of_ble_eq_true rfl) (fun g hg hr => ?_)
  unfold f_X1_open at h
  show g 0 0 0 [(0, .ref this)] [] I X
  refine r_iconst hg dX1_open_0 ci_0 ?_
  refine r_istore_n hg (L' := [(1, .int (nI 0)), (0, .ref this)]) dX1_open_1 rfl (by decide) rfl ?_
  refine r_iconst hg dX1_open_2 ci_0 ?_
  refine r_istore_n hg (L' := [(2, .int (nI 0)), (1, .int (nI 0)), (0, .ref this)]) dX1_open_3 rfl (by decide) rfl ?_
  refine r_sub hg [2, 1, 0] rfl ?_
  exact pl_X1_open_4 hΓ hg hr hX k_this _ _ _ h

def b_X1_out_26 (this : Nat) (I : qI) (k4 : Int32 → Int32 → Option (Int32)) (x1 : Int32) (x2 : Int32) : Option (Int32) :=
  k4 x1 (x2 + (nI 1))
set_option maxRecDepth 100000 in
set_option maxHeartbeats 4000000 in
theorem p_X1_out_26 {l : Launch} {Γ : qC} {g : qG} {z : Int32} {this : Nat} {X : qX} {I : qI} (hΓ : q_gm Γ) (hg : q_Ok l Γ RX1 cX1_out 3 (q_rm 2 0 0) "out" (some .int) g) (hr : q_Rt cX1_out (some .int) (q_rm 2 0 0) (some (.int z), I, X) g) (hX : q_Lay X) (k_this : q_kd X this = some (3, 9)) {k4 : Int32 → Int32 → Option (Int32)} (hk4 : ∀ (x1 : Int32) (x2 : Int32), k4 x1 x2 = some z → g 0 0 4 [(0, .ref this), (1, .int x1), (2, .int x2)] [] I X) (x1 : Int32) (x2 : Int32) (h : b_X1_out_26 this I k4 x1 x2 = some z) : g 0 0 26 [(0, .ref this), (1, .int x1), (2, .int x2)] [] I X := by
  unfold b_X1_out_26 at h
  refine r_iinc hg 2 (v := (x2 + (nI 1))) (L' := [(2, .int (x2 + (nI 1))), (0, .ref this), (1, .int x1)]) dX1_out_26 rfl (by rw [ci_1]) (by decide) rfl ?_
  refine r_goto hg 4 dX1_out_29 (by decide) ?_
  refine r_sub hg [1, 2, 0] rfl ?_
  exact hk4 _ _ h
def b_X1_out_4 (this : Nat) (I : qI) (k4 : Int32 → Int32 → Option (Int32)) (x1 : Int32) (x2 : Int32) : Option (Int32) :=
  if (I this 8) ≤ x2 then
    some (x1)
  else
    q_b1 (q_rd I (this + 7) 60 x2) fun v3 =>
    if v3 = (-1000000005) then
      b_X1_out_26 this I k4 x1 x2
    else
      b_X1_out_26 this I k4 (x1 + (nI 1)) x2
set_option maxRecDepth 100000 in
set_option maxHeartbeats 4000000 in
theorem p_X1_out_4 {l : Launch} {Γ : qC} {g : qG} {z : Int32} {this : Nat} {X : qX} {I : qI} (hΓ : q_gm Γ) (hg : q_Ok l Γ RX1 cX1_out 3 (q_rm 2 0 0) "out" (some .int) g) (hr : q_Rt cX1_out (some .int) (q_rm 2 0 0) (some (.int z), I, X) g) (hX : q_Lay X) (k_this : q_kd X this = some (3, 9)) {k4 : Int32 → Int32 → Option (Int32)} (hk4 : ∀ (x1 : Int32) (x2 : Int32), k4 x1 x2 = some z → g 0 0 4 [(0, .ref this), (1, .int x1), (2, .int x2)] [] I X) (x1 : Int32) (x2 : Int32) (h : b_X1_out_4 this I k4 x1 x2 = some z) : g 0 0 4 [(0, .ref this), (1, .int x1), (2, .int x2)] [] I X := by
  unfold b_X1_out_4 at h
  refine r_iload_n hg 2 dX1_out_4 rfl rfl ?_
  refine r_aload_n hg 0 dX1_out_5 rfl rfl ?_
  refine r_getI hg dX1_out_6 fl_X1_36 k_this rfl ?_
  refine r_icmp_ge hg 32 dX1_out_9 (by decide) (fun c1 => ?_) (fun c1 => ?_)
  · rw [if_pos c1] at h
    refine r_iload_n hg 1 dX1_out_32 rfl rfl ?_
    exact r_ireturn hr dX1_out_33 ⟨Nat.zero_le _, Nat.zero_le _⟩ ⟨_, rfl, rfl⟩ (by cases h; rfl)
  · rw [if_neg c1] at h
    refine r_aload_n hg 0 dX1_out_12 rfl rfl ?_
    have e2 := ly_1_6 hX k_this
    refine r_getR hg dX1_out_13 fl_X1_30 k_this rfl e2.1 ?_
    refine r_iload_n hg 2 dX1_out_16 rfl rfl ?_
    obtain ⟨v3, e4, h⟩ := q_b1_some h
    refine r_iald hg dX1_out_17 e2.2 e4 ?_
    refine r_ldc hg dX1_out_18 kc_X1_44 ?_
    refine r_icmp_eq hg 26 dX1_out_20 (by decide) (fun c5 => ?_) (fun c5 => ?_)
    · rw [if_pos c5] at h
      exact p_X1_out_26 hΓ hg hr hX k_this hk4 _ _ h
    · rw [if_neg c5] at h
      refine r_iinc hg 1 (v := (x1 + (nI 1))) (L' := [(1, .int (x1 + (nI 1))), (0, .ref this), (2, .int x2)]) dX1_out_23 rfl (by rw [ci_1]) (by decide) rfl ?_
      refine r_sub hg [1, 0, 2] rfl ?_
      exact p_X1_out_26 hΓ hg hr hX k_this hk4 _ _ h
theorem pl_X1_out_4 {l : Launch} {Γ : qC} {g : qG} {z : Int32} {this : Nat} {X : qX} {I : qI} (hΓ : q_gm Γ) (hg : q_Ok l Γ RX1 cX1_out 3 (q_rm 2 0 0) "out" (some .int) g) (hr : q_Rt cX1_out (some .int) (q_rm 2 0 0) (some (.int z), I, X) g) (hX : q_Lay X) (k_this : q_kd X this = some (3, 9)) : ∀ (n : Nat) (x1 : Int32) (x2 : Int32), q_fix (fun _ _ => none) (b_X1_out_4 this I) n x1 x2 = some z → g 0 0 4 [(0, .ref this), (1, .int x1), (2, .int x2)] [] I X := by
  intro n
  induction n with
  | zero =>
    intro x1 x2 h
    cases (show (none : Option (Int32)) = some z from h)
  | succ n ih =>
    intro x1 x2 h
    exact p_X1_out_4 hΓ hg hr hX k_this ih _ _ h
def f_X1_out (this : Nat) (I : qI) : Option (Int32) :=
  q_fix (fun _ _ => none) (b_X1_out_4 this I) q_fu (nI 0) (nI 0)
set_option maxRecDepth 100000 in
set_option maxHeartbeats 4000000 in
theorem s_X1_out {l : Launch} {Γ : qC} (hΓ : q_gm Γ) {X : qX} (hX : q_Lay X) {this : Nat} (k_this : q_kd X this = some (3, 9)) {I : qI} {z : Int32} (h : f_X1_out this I = some z) : q_Sem l Γ (q_rm 2 0 0) yX1_out cX1_out 3 (some .int) [.ref this] I X (some (.int z), I, X) := by
  refine q_met (by decide) (Nat.le_of_ble_eq_true rfl) (fun g hg hr => ?_)
  unfold f_X1_out at h
  show g 0 0 0 [(0, .ref this)] [] I X
  refine r_iconst hg dX1_out_0 ci_0 ?_
  refine r_istore_n hg (L' := [(1, .int (nI 0)), (0, .ref this)]) dX1_out_1 rfl (by decide) rfl ?_
  refine r_iconst hg dX1_out_2 ci_0 ?_
  refine r_istore_n hg (L' := [(2, .int (nI 0)), (1, .int (nI 0)), (0, .ref this)]) dX1_out_3 rfl (by decide) rfl ?_
  refine r_sub hg [2, 1, 0] rfl ?_
  exact pl_X1_out_4 hΓ hg hr hX k_this _ _ _ h

def f_X1_row (this : Nat) (x1 : Int32) : Option (Option Nat) :=
  if x1 = (nI 0) then
    some ((some (this + 1)))
  else
  if x1 = (nI 1) then
    some ((some (this + 2)))
  else
  if x1 = (nI 2) then
    some ((some (this + 3)))
  else
  if x1 = (nI 3) then
    some ((some (this + 4)))
  else
  if x1 = (nI 4) then
    some ((some (this + 5)))
  else
  if x1 = (nI 5) then
    some ((some (this + 6)))
  else
  if x1 = (nI 6) then
    some ((some (this + 7)))
  else
  if x1 = (nI 7) then
    some ((some (this + 8)))
  else
  some (none)
set_option maxRecDepth 100000 in
set_option maxHeartbeats 4000000 in
theorem s_X1_row {l : Launch} {Γ : qC} (hΓ : q_gm Γ) {X : qX} (hX : q_Lay X) {this : Nat} {x1 : Int32} (k_this : q_kd X this = some (3, 9)) {I : qI} {z : Option Nat} (h : f_X1_row this x1 = some z) : q_Sem l Γ (q_rm 2 0 0) yX1_row cX1_row 2 (some (.array .int)) [.ref this, .int x1] I X (some (va_rf z), I, X) := by
  refine q_met (by decide) (Nat.le_of_ble_eq_true rfl) (fun g hg hr => ?_)
  unfold f_X1_row at h
  show g 0 0 0 [(0, .ref this), (1, .int x1)] [] I X
  refine r_iload_n hg 1 dX1_row_0 rfl rfl ?_
  by_cases c1 : x1 = (nI 0)
  · rw [if_pos c1] at h
    refine r_tab hg 48 dX1_row_1 rfl (by rw [c1] <;> decide +kernel) (by decide) ?_
    refine r_aload_n hg 0 dX1_row_48 rfl rfl ?_
    have e2 := ly_1_0 hX k_this
    refine r_getR hg dX1_row_49 fl_X1_11 k_this rfl e2.1 ?_
    exact r_areturn hr (r := (some (this + 1))) dX1_row_52 ⟨Nat.zero_le _, Nat.zero_le _⟩ ⟨_, rfl, Or.inr ⟨_, rfl⟩⟩ (by cases h; rfl)
  rw [if_neg c1] at h
  by_cases c3 : x1 = (nI 1)
  · rw [if_pos c3] at h
    refine r_tab hg 53 dX1_row_1 rfl (by rw [c3] <;> decide +kernel) (by decide) ?_
    refine r_aload_n hg 0 dX1_row_53 rfl rfl ?_
    have e4 := ly_1_1 hX k_this
    refine r_getR hg dX1_row_54 fl_X1_15 k_this rfl e4.1 ?_
    exact r_areturn hr (r := (some (this + 2))) dX1_row_57 ⟨Nat.zero_le _, Nat.zero_le _⟩ ⟨_, rfl, Or.inr ⟨_, rfl⟩⟩ (by cases h; rfl)
  rw [if_neg c3] at h
  by_cases c5 : x1 = (nI 2)
  · rw [if_pos c5] at h
    refine r_tab hg 58 dX1_row_1 rfl (by rw [c5] <;> decide +kernel) (by decide) ?_
    refine r_aload_n hg 0 dX1_row_58 rfl rfl ?_
    have e6 := ly_1_2 hX k_this
    refine r_getR hg dX1_row_59 fl_X1_18 k_this rfl e6.1 ?_
    exact r_areturn hr (r := (some (this + 3))) dX1_row_62 ⟨Nat.zero_le _, Nat.zero_le _⟩ ⟨_, rfl, Or.inr ⟨_, rfl⟩⟩ (by cases h; rfl)
  rw [if_neg c5] at h
  by_cases c7 : x1 = (nI 3)
  · rw [if_pos c7] at h
    refine r_tab hg 63 dX1_row_1 rfl (by rw [c7] <;> decide +kernel) (by decide) ?_
    refine r_aload_n hg 0 dX1_row_63 rfl rfl ?_
    have e8 := ly_1_3 hX k_this
    refine r_getR hg dX1_row_64 fl_X1_21 k_this rfl e8.1 ?_
    exact r_areturn hr (r := (some (this + 4))) dX1_row_67 ⟨Nat.zero_le _, Nat.zero_le _⟩ ⟨_, rfl, Or.inr ⟨_, rfl⟩⟩ (by cases h; rfl)
  rw [if_neg c7] at h
  by_cases c9 : x1 = (nI 4)
  · rw [if_pos c9] at h
    refine r_tab hg 68 dX1_row_1 rfl (by rw [c9] <;> decide +kernel) (by decide) ?_
    refine r_aload_n hg 0 dX1_row_68 rfl rfl ?_
    have e10 := ly_1_4 hX k_this
    refine r_getR hg dX1_row_69 fl_X1_24 k_this rfl e10.1 ?_
    exact r_areturn hr (r := (some (this + 5))) dX1_row_72 ⟨Nat.zero_le _, Nat.zero_le _⟩ ⟨_, rfl, Or.inr ⟨_, rfl⟩⟩ (by cases h; rfl)
  rw [if_neg c9] at h
  by_cases c11 : x1 = (nI 5)
  · rw [if_pos c11] at h
    refine r_tab hg 73 dX1_row_1 rfl (by rw [c11] <;> decide +kernel) (by decide) ?_
    refine r_aload_n hg 0 dX1_row_73 rfl rfl ?_
    have e12 := ly_1_5 hX k_this
    refine r_getR hg dX1_row_74 fl_X1_27 k_this rfl e12.1 ?_
    exact r_areturn hr (r := (some (this + 6))) dX1_row_77 ⟨Nat.zero_le _, Nat.zero_le _⟩ ⟨_, rfl, Or.inr ⟨_, rfl⟩⟩ (by cases h; rfl)
  rw [if_neg c11] at h
  by_cases c13 : x1 = (nI 6)
  · rw [if_pos c13] at h
    refine r_tab hg 78 dX1_row_1 rfl (by rw [c13] <;> decide +kernel) (by decide) ?_
    refine r_aload_n hg 0 dX1_row_78 rfl rfl ?_
    have e14 := ly_1_6 hX k_this
    refine r_getR hg dX1_row_79 fl_X1_30 k_this rfl e14.1 ?_
    exact r_areturn hr (r := (some (this + 7))) dX1_row_82 ⟨Nat.zero_le _, Nat.zero_le _⟩ ⟨_, rfl, Or.inr ⟨_, rfl⟩⟩ (by cases h; rfl)
  rw [if_neg c13] at h
  by_cases c15 : x1 = (nI 7)
  · rw [if_pos c15] at h
    refine r_tab hg 83 dX1_row_1 rfl (by rw [c15] <;> decide +kernel) (by decide) ?_
    refine r_aload_n hg 0 dX1_row_83 rfl rfl ?_
    have e16 := ly_1_7 hX k_this
    refine r_getR hg dX1_row_84 fl_X1_33 k_this rfl e16.1 ?_
    exact r_areturn hr (r := (some (this + 8))) dX1_row_87 ⟨Nat.zero_le _, Nat.zero_le _⟩ ⟨_, rfl, Or.inr ⟨_, rfl⟩⟩ (by cases h; rfl)
  rw [if_neg c15] at h
  refine r_tab hg 88 dX1_row_1 rfl (q_tab_d (fun k hk ho => ?_)) (by decide) ?_
  · have hk : k < 8 := hk
    rcases (show k = 0 ∨ k = 1 ∨ k = 2 ∨ k = 3 ∨ k = 4 ∨ k = 5 ∨ k = 6 ∨ k = 7 by omega) with rfl | rfl | rfl | rfl | rfl | rfl | rfl | rfl
    · exact lv_neT c1 (by decide +kernel)
    · exact lv_neT c3 (by decide +kernel)
    · exact lv_neT c5 (by decide +kernel)
    · exact lv_neT c7 (by decide +kernel)
    · exact lv_neT c9 (by decide +kernel)
    · exact lv_neT c11 (by decide +kernel)
    · exact lv_neT c13 (by decide +kernel)
    · exact lv_neT c15 (by decide +kernel)
  refine r_null hg dX1_row_88 ?_
  exact r_areturn hr (r := none) dX1_row_89 ⟨Nat.zero_le _, Nat.zero_le _⟩ ⟨_, rfl, Or.inr ⟨_, rfl⟩⟩ (by cases h; rfl)

def b_X1_settle_38 (this : Nat) (x1 : Int32) (x2 : Int32) (I : qI) : Option (qI) :=
  q_b1 (q_wr I (this + 6) 60 x1 (nI 1)) fun I2 =>
  some (I2)
set_option maxRecDepth 100000 in
set_option maxHeartbeats 4000000 in
theorem p_X1_settle_38 {l : Launch} {Γ : qC} {g : qG} {z : qI} {this : Nat} {x1 : Int32} {x2 : Int32} {X : qX} (hΓ : q_gm Γ) (hg : q_Ok l Γ RX1 cX1_settle 3 (q_rm 2 0 0) "settle" none g) (hr : q_Rt cX1_settle none (q_rm 2 0 0) (none, z, X) g) (hX : q_Lay X) (k_this : q_kd X this = some (3, 9)) (I : qI) (h : b_X1_settle_38 this x1 x2 I = some z) : g 0 0 38 [(0, .ref this), (1, .int x1)] [] I X := by
  unfold b_X1_settle_38 at h
  refine r_aload_n hg 0 dX1_settle_38 rfl rfl ?_
  have e1 := ly_1_5 hX k_this
  refine r_getR hg dX1_settle_39 fl_X1_27 k_this rfl e1.1 ?_
  refine r_iload_n hg 1 dX1_settle_42 rfl rfl ?_
  refine r_iconst hg dX1_settle_43 ci_1 ?_
  obtain ⟨I2, e3, h⟩ := q_b1_some h
  refine r_iast hg dX1_settle_44 e1.2 e3 ?_
  exact r_return hr dX1_settle_45 ⟨Nat.zero_le _, Nat.zero_le _⟩ rfl (by cases h; rfl)
def f_X1_settle (this : Nat) (x1 : Int32) (x2 : Int32) (I : qI) : Option (qI) :=
  q_b1 (q_rd I (this + 1) 60 x1) fun v2 =>
  if v2 = (nI 5) then
    q_b1 (q_rd I (this + 8) 60 x1) fun v13 =>
    q_b1 (q_wr I (this + 8) 60 x1 (v13 + x2)) fun I15 =>
    some (I15)
  else
    q_b1 (q_rd I (this + 1) 60 x1) fun v6 =>
    if v6 = (nI 4) then
      q_b1 (q_wr I (this + 3) 60 x1 x2) fun I10 =>
      b_X1_settle_38 this x1 x2 I10
    else
      b_X1_settle_38 this x1 x2 I
set_option maxRecDepth 100000 in
set_option maxHeartbeats 4000000 in
theorem s_X1_settle {l : Launch} {Γ : qC} (hΓ : q_gm Γ) {X : qX} (hX : q_Lay X) {this : Nat} {x1 : Int32} {x2 : Int32} (k_this : q_kd X this = some (3, 9)) {I : qI} {z : qI} (h : f_X1_settle this x1 x2 I = some z) : q_Sem l Γ (q_rm 2 0 0) yX1_settle cX1_settle 3 none [.ref this, .int x1, .int x2] I X (none, z, X) := by
  refine q_met (by decide) (Nat.le_of_ble_eq_true rfl) (fun g hg hr => ?_)
  unfold f_X1_settle at h
  show g 0 0 0 [(0, .ref this), (1, .int x1), (2, .int x2)] [] I X
  refine r_aload_n hg 0 dX1_settle_0 rfl rfl ?_
  have e1 := ly_1_0 hX k_this
  refine r_getR hg dX1_settle_1 fl_X1_11 k_this rfl e1.1 ?_
  refine r_iload_n hg 1 dX1_settle_4 rfl rfl ?_
  obtain ⟨v2, e3, h⟩ := q_b1_some h
  refine r_iald hg dX1_settle_5 e1.2 e3 ?_
  refine r_iconst hg dX1_settle_6 ci_5 ?_
  refine r_icmp_ne hg 21 dX1_settle_7 (by decide) (fun c4 => ?_) (fun c4 => ?_)
  · rw [if_neg c4] at h
    refine r_aload_n hg 0 dX1_settle_21 rfl rfl ?_
    have e5 := ly_1_0 hX k_this
    refine r_getR hg dX1_settle_22 fl_X1_11 k_this rfl e5.1 ?_
    refine r_iload_n hg 1 dX1_settle_25 rfl rfl ?_
    obtain ⟨v6, e7, h⟩ := q_b1_some h
    refine r_iald hg dX1_settle_26 e5.2 e7 ?_
    refine r_iconst hg dX1_settle_27 ci_4 ?_
    refine r_icmp_ne hg 38 dX1_settle_28 (by decide) (fun c8 => ?_) (fun c8 => ?_)
    · rw [if_neg c8] at h
      refine r_sub hg [0, 1] rfl ?_
      exact p_X1_settle_38 hΓ hg hr hX k_this _ h
    · rw [if_pos (Classical.not_not.mp c8)] at h
      refine r_aload_n hg 0 dX1_settle_31 rfl rfl ?_
      have e9 := ly_1_2 hX k_this
      refine r_getR hg dX1_settle_32 fl_X1_18 k_this rfl e9.1 ?_
      refine r_iload_n hg 1 dX1_settle_35 rfl rfl ?_
      refine r_iload_n hg 2 dX1_settle_36 rfl rfl ?_
      obtain ⟨I10, e11, h⟩ := q_b1_some h
      refine r_iast hg dX1_settle_37 e9.2 e11 ?_
      refine r_sub hg [0, 1] rfl ?_
      exact p_X1_settle_38 hΓ hg hr hX k_this _ h
  · rw [if_pos (Classical.not_not.mp c4)] at h
    refine r_aload_n hg 0 dX1_settle_10 rfl rfl ?_
    have e12 := ly_1_7 hX k_this
    refine r_getR hg dX1_settle_11 fl_X1_33 k_this rfl e12.1 ?_
    refine r_iload_n hg 1 dX1_settle_14 rfl rfl ?_
    refine r_dup2 hg dX1_settle_15 rfl rfl ?_
    obtain ⟨v13, e14, h⟩ := q_b1_some h
    refine r_iald hg dX1_settle_16 e12.2 e14 ?_
    refine r_iload_n hg 2 dX1_settle_17 rfl rfl ?_
    refine r_iadd hg dX1_settle_18 ?_
    obtain ⟨I15, e16, h⟩ := q_b1_some h
    refine r_iast hg dX1_settle_19 e12.2 e16 ?_
    exact r_return hr dX1_settle_20 ⟨Nat.zero_le _, Nat.zero_le _⟩ rfl (by cases h; rfl)

def f_X2_added (this : Nat) (x1 : Int32) (x2 : Int32) (x3 : Int32) (I : qI) : Option (Int32 × qI) :=
  if (I this 14) < (nI 12) then
    q_b1 (q_wr I (this + 1) 12 (I this 14) x1) fun I3 =>
    q_b1 (q_wr I3 (this + 2) 12 (I3 this 14) x2) fun I6 =>
    q_b1 (q_wr I6 (this + 3) 12 (I6 this 14) x3) fun I9 =>
    q_b1 (some (q_up I9 this 14 ((I9 this 14) + (nI 1)))) fun I11 =>
    some (((I11 this 14) - (nI 1)), I11)
  else
    some ((-1000000003), I)
set_option maxRecDepth 100000 in
set_option maxHeartbeats 4000000 in
theorem s_X2_added {l : Launch} {Γ : qC} (hΓ : q_gm Γ) {X : qX} (hX : q_Lay X) {this : Nat} {x1 : Int32} {x2 : Int32} {x3 : Int32} (k_this : q_kd X this = some (4, 15)) {I : qI} {z : Int32 × qI} (h : f_X2_added this x1 x2 x3 I = some z) : q_Sem l Γ (q_rm 2 0 0) yX2_added cX2_added 4 (some .int) [.ref this, .int x1, .int x2, .int x3] I X (some (.int z.1), z.2, X) := by
  refine q_met (by decide) (Nat.le_of_ble_eq_true rfl) (fun g hg hr => ?_)
  unfold f_X2_added at h
  show g 0 0 0 [(0, .ref this), (1, .int x1), (2, .int x2), (3, .int x3)] [] I X
  refine r_aload_n hg 0 dX2_added_0 rfl rfl ?_
  refine r_getI hg dX2_added_1 fl_X2_56 k_this rfl ?_
  refine r_bipush hg dX2_added_4 cb_12 ?_
  refine r_icmp_lt hg 12 dX2_added_6 (by decide) (fun c1 => ?_) (fun c1 => ?_)
  · rw [if_pos c1] at h
    refine r_aload_n hg 0 dX2_added_12 rfl rfl ?_
    have e2 := ly_2_0 hX k_this
    refine r_getR hg dX2_added_13 fl_X2_11 k_this rfl e2.1 ?_
    refine r_aload_n hg 0 dX2_added_16 rfl rfl ?_
    refine r_getI hg dX2_added_17 fl_X2_56 k_this rfl ?_
    refine r_iload_n hg 1 dX2_added_20 rfl rfl ?_
    obtain ⟨I3, e4, h⟩ := q_b1_some h
    refine r_iast hg dX2_added_21 e2.2 e4 ?_
    refine r_aload_n hg 0 dX2_added_22 rfl rfl ?_
    have e5 := ly_2_1 hX k_this
    refine r_getR hg dX2_added_23 fl_X2_15 k_this rfl e5.1 ?_
    refine r_aload_n hg 0 dX2_added_26 rfl rfl ?_
    refine r_getI hg dX2_added_27 fl_X2_56 k_this rfl ?_
    refine r_iload_n hg 2 dX2_added_30 rfl rfl ?_
    obtain ⟨I6, e7, h⟩ := q_b1_some h
    refine r_iast hg dX2_added_31 e5.2 e7 ?_
    refine r_aload_n hg 0 dX2_added_32 rfl rfl ?_
    have e8 := ly_2_2 hX k_this
    refine r_getR hg dX2_added_33 fl_X2_18 k_this rfl e8.1 ?_
    refine r_aload_n hg 0 dX2_added_36 rfl rfl ?_
    refine r_getI hg dX2_added_37 fl_X2_56 k_this rfl ?_
    refine r_iload_n hg 3 dX2_added_40 rfl rfl ?_
    obtain ⟨I9, e10, h⟩ := q_b1_some h
    refine r_iast hg dX2_added_41 e8.2 e10 ?_
    refine r_aload_n hg 0 dX2_added_42 rfl rfl ?_
    refine r_dup hg dX2_added_43 rfl ?_
    refine r_getI hg dX2_added_44 fl_X2_56 k_this rfl ?_
    refine r_iconst hg dX2_added_47 ci_1 ?_
    refine r_iadd hg dX2_added_48 ?_
    obtain ⟨I11, e12, h⟩ := q_b1_some h
    obtain rfl := Option.some.inj e12
    refine r_putI hg dX2_added_49 fl_X2_56 k_this rfl ⟨rfl, rfl⟩ ?_
    refine r_aload_n hg 0 dX2_added_52 rfl rfl ?_
    refine r_getI hg dX2_added_53 fl_X2_56 k_this rfl ?_
    refine r_iconst hg dX2_added_56 ci_1 ?_
    refine r_isub hg dX2_added_57 ?_
    exact r_ireturn hr dX2_added_58 ⟨Nat.zero_le _, Nat.zero_le _⟩ ⟨_, rfl, rfl⟩ (by cases h; rfl)
  · rw [if_neg c1] at h
    refine r_ldc hg dX2_added_9 kc_X2_66 ?_
    exact r_ireturn hr dX2_added_11 ⟨Nat.zero_le _, Nat.zero_le _⟩ ⟨_, rfl, rfl⟩ (by cases h; rfl)

def f_X2_dayKnown (this : Nat) (x1 : Int32) (x2 : Int32) (I : qI) : Option (Int32) :=
  q_b1 (q_rd I (this + 14) 72 ((x1 * (nI 6)) + x2)) fun v2 =>
  some (v2)
set_option maxRecDepth 100000 in
set_option maxHeartbeats 4000000 in
theorem s_X2_dayKnown {l : Launch} {Γ : qC} (hΓ : q_gm Γ) {X : qX} (hX : q_Lay X) {this : Nat} {x1 : Int32} {x2 : Int32} (k_this : q_kd X this = some (4, 15)) {I : qI} {z : Int32} (h : f_X2_dayKnown this x1 x2 I = some z) : q_Sem l Γ (q_rm 2 0 0) yX2_dayKnown cX2_dayKnown 3 (some .int) [.ref this, .int x1, .int x2] I X (some (.int z), I, X) := by
  refine q_met (by decide) (Nat.le_of_ble_eq_true rfl) (fun g hg hr => ?_)
  unfold f_X2_dayKnown at h
  show g 0 0 0 [(0, .ref this), (1, .int x1), (2, .int x2)] [] I X
  refine r_aload_n hg 0 dX2_dayKnown_0 rfl rfl ?_
  have e1 := ly_2_13 hX k_this
  refine r_getR hg dX2_dayKnown_1 fl_X2_53 k_this rfl e1.1 ?_
  refine r_iload_n hg 1 dX2_dayKnown_4 rfl rfl ?_
  refine r_bipush hg dX2_dayKnown_5 cb_6 ?_
  refine r_imul hg dX2_dayKnown_7 ?_
  refine r_iload_n hg 2 dX2_dayKnown_8 rfl rfl ?_
  refine r_iadd hg dX2_dayKnown_9 ?_
  obtain ⟨v2, e3, h⟩ := q_b1_some h
  refine r_iald hg dX2_dayKnown_10 e1.2 e3 ?_
  exact r_ireturn hr dX2_dayKnown_11 ⟨Nat.zero_le _, Nat.zero_le _⟩ ⟨_, rfl, rfl⟩ (by cases h; rfl)

def f_X2_has (this : Nat) (x1 : Int32) (I : qI) : Option (Int32) :=
  if x1 < 0 then
    some ((nI 0))
  else
    if (I this 14) ≤ x1 then
      some ((nI 0))
    else
      some ((nI 1))
set_option maxRecDepth 100000 in
set_option maxHeartbeats 4000000 in
theorem s_X2_has {l : Launch} {Γ : qC} (hΓ : q_gm Γ) {X : qX} (hX : q_Lay X) {this : Nat} {x1 : Int32} (k_this : q_kd X this = some (4, 15)) {I : qI} {z : Int32} (h : f_X2_has this x1 I = some z) : q_Sem l Γ (q_rm 2 0 0) yX2_has cX2_has 2 (some .boolean) [.ref this, .int x1] I X (some (.int z), I, X) := by
  refine q_met (by decide) (Nat.le_of_ble_eq_true rfl) (fun g hg hr => ?_)
  unfold f_X2_has at h
  show g 0 0 0 [(0, .ref this), (1, .int x1)] [] I X
  refine r_iload_n hg 1 dX2_has_0 rfl rfl ?_
  refine r_if_lt hg 16 dX2_has_1 (by decide) (fun c1 => ?_) (fun c1 => ?_)
  · rw [if_pos c1] at h
    refine r_iconst hg dX2_has_16 ci_0 ?_
    exact r_ireturn hr dX2_has_17 ⟨Nat.zero_le _, Nat.zero_le _⟩ ⟨_, rfl, bz_0.1⟩ (by cases h; rfl)
  · rw [if_neg c1] at h
    refine r_iload_n hg 1 dX2_has_4 rfl rfl ?_
    refine r_aload_n hg 0 dX2_has_5 rfl rfl ?_
    refine r_getI hg dX2_has_6 fl_X2_56 k_this rfl ?_
    refine r_icmp_ge hg 16 dX2_has_9 (by decide) (fun c2 => ?_) (fun c2 => ?_)
    · rw [if_pos c2] at h
      refine r_iconst hg dX2_has_16 ci_0 ?_
      exact r_ireturn hr dX2_has_17 ⟨Nat.zero_le _, Nat.zero_le _⟩ ⟨_, rfl, bz_0.1⟩ (by cases h; rfl)
    · rw [if_neg c2] at h
      refine r_iconst hg dX2_has_12 ci_1 ?_
      refine r_goto hg 17 dX2_has_13 (by decide) ?_
      exact r_ireturn hr dX2_has_17 ⟨Nat.zero_le _, Nat.zero_le _⟩ ⟨_, rfl, bz_1.1⟩ (by cases h; rfl)

def f_X2_isGone (this : Nat) (x1 : Int32) (I : qI) : Option (Int32) :=
  q_b1 (q_rd I (this + 10) 12 x1) fun v2 =>
  if v2 = 0 then
    some ((nI 0))
  else
    some ((nI 1))
set_option maxRecDepth 100000 in
set_option maxHeartbeats 4000000 in
theorem s_X2_isGone {l : Launch} {Γ : qC} (hΓ : q_gm Γ) {X : qX} (hX : q_Lay X) {this : Nat} {x1 : Int32} (k_this : q_kd X this = some (4, 15)) {I : qI} {z : Int32} (h : f_X2_isGone this x1 I = some z) : q_Sem l Γ (q_rm 2 0 0) yX2_isGone cX2_isGone 2 (some .boolean) [.ref this, .int x1] I X (some (.int z), I, X) := by
  refine q_met (by decide) (Nat.le_of_ble_eq_true rfl) (fun g hg hr => ?_)
  unfold f_X2_isGone at h
  show g 0 0 0 [(0, .ref this), (1, .int x1)] [] I X
  refine r_aload_n hg 0 dX2_isGone_0 rfl rfl ?_
  have e1 := ly_2_9 hX k_this
  refine r_getR hg dX2_isGone_1 fl_X2_39 k_this rfl e1.1 ?_
  refine r_iload_n hg 1 dX2_isGone_4 rfl rfl ?_
  obtain ⟨v2, e3, h⟩ := q_b1_some h
  refine r_iald hg dX2_isGone_5 e1.2 e3 ?_
  refine r_if_eq hg 13 dX2_isGone_6 (by decide) (fun c4 => ?_) (fun c4 => ?_)
  · rw [if_pos c4] at h
    refine r_iconst hg dX2_isGone_13 ci_0 ?_
    exact r_ireturn hr dX2_isGone_14 ⟨Nat.zero_le _, Nat.zero_le _⟩ ⟨_, rfl, bz_0.1⟩ (by cases h; rfl)
  · rw [if_neg c4] at h
    refine r_iconst hg dX2_isGone_9 ci_1 ?_
    refine r_goto hg 14 dX2_isGone_10 (by decide) ?_
    exact r_ireturn hr dX2_isGone_14 ⟨Nat.zero_le _, Nat.zero_le _⟩ ⟨_, rfl, bz_1.1⟩ (by cases h; rfl)

def f_X2_knows (this : Nat) (x1 : Int32) (x2 : Int32) (I : qI) : Option (Int32) :=
  q_b1 (q_rd I (this + 14) 72 ((x1 * (nI 6)) + x2)) fun v2 =>
  if v2 = (-1) then
    some ((nI 0))
  else
    some ((nI 1))
set_option maxRecDepth 100000 in
set_option maxHeartbeats 4000000 in
theorem s_X2_knows {l : Launch} {Γ : qC} (hΓ : q_gm Γ) {X : qX} (hX : q_Lay X) {this : Nat} {x1 : Int32} {x2 : Int32} (k_this : q_kd X this = some (4, 15)) {I : qI} {z : Int32} (h : f_X2_knows this x1 x2 I = some z) : q_Sem l Γ (q_rm 2 0 0) yX2_knows cX2_knows 3 (some .boolean) [.ref this, .int x1, .int x2] I X (some (.int z), I, X) := by
  refine q_met (by decide) (Nat.le_of_ble_eq_true rfl) (fun g hg hr => ?_)
  unfold f_X2_knows at h
  show g 0 0 0 [(0, .ref this), (1, .int x1), (2, .int x2)] [] I X
  refine r_aload_n hg 0 dX2_knows_0 rfl rfl ?_
  have e1 := ly_2_13 hX k_this
  refine r_getR hg dX2_knows_1 fl_X2_53 k_this rfl e1.1 ?_
  refine r_iload_n hg 1 dX2_knows_4 rfl rfl ?_
  refine r_bipush hg dX2_knows_5 cb_6 ?_
  refine r_imul hg dX2_knows_7 ?_
  refine r_iload_n hg 2 dX2_knows_8 rfl rfl ?_
  refine r_iadd hg dX2_knows_9 ?_
  obtain ⟨v2, e3, h⟩ := q_b1_some h
  refine r_iald hg dX2_knows_10 e1.2 e3 ?_
  refine r_iconst hg dX2_knows_11 ci_m1 ?_
  refine r_icmp_eq hg 19 dX2_knows_12 (by decide) (fun c4 => ?_) (fun c4 => ?_)
  · rw [if_pos c4] at h
    refine r_iconst hg dX2_knows_19 ci_0 ?_
    exact r_ireturn hr dX2_knows_20 ⟨Nat.zero_le _, Nat.zero_le _⟩ ⟨_, rfl, bz_0.1⟩ (by cases h; rfl)
  · rw [if_neg c4] at h
    refine r_iconst hg dX2_knows_15 ci_1 ?_
    refine r_goto hg 20 dX2_knows_16 (by decide) ?_
    exact r_ireturn hr dX2_knows_20 ⟨Nat.zero_le _, Nat.zero_le _⟩ ⟨_, rfl, bz_1.1⟩ (by cases h; rfl)

def f_X2_lacks (this : Nat) (x1 : Int32) (I : qI) : Option (Int32) :=
  q_b1 (q_rd I (this + 3) 12 x1) fun v2 =>
  q_b1 (q_rd I (this + 4) 12 x1) fun v5 =>
  some ((v2 - v5))
set_option maxRecDepth 100000 in
set_option maxHeartbeats 4000000 in
theorem s_X2_lacks {l : Launch} {Γ : qC} (hΓ : q_gm Γ) {X : qX} (hX : q_Lay X) {this : Nat} {x1 : Int32} (k_this : q_kd X this = some (4, 15)) {I : qI} {z : Int32} (h : f_X2_lacks this x1 I = some z) : q_Sem l Γ (q_rm 2 0 0) yX2_lacks cX2_lacks 2 (some .int) [.ref this, .int x1] I X (some (.int z), I, X) := by
  refine q_met (by decide) (Nat.le_of_ble_eq_true rfl) (fun g hg hr => ?_)
  unfold f_X2_lacks at h
  show g 0 0 0 [(0, .ref this), (1, .int x1)] [] I X
  refine r_aload_n hg 0 dX2_lacks_0 rfl rfl ?_
  have e1 := ly_2_2 hX k_this
  refine r_getR hg dX2_lacks_1 fl_X2_18 k_this rfl e1.1 ?_
  refine r_iload_n hg 1 dX2_lacks_4 rfl rfl ?_
  obtain ⟨v2, e3, h⟩ := q_b1_some h
  refine r_iald hg dX2_lacks_5 e1.2 e3 ?_
  refine r_aload_n hg 0 dX2_lacks_6 rfl rfl ?_
  have e4 := ly_2_3 hX k_this
  refine r_getR hg dX2_lacks_7 fl_X2_21 k_this rfl e4.1 ?_
  refine r_iload_n hg 1 dX2_lacks_10 rfl rfl ?_
  obtain ⟨v5, e6, h⟩ := q_b1_some h
  refine r_iald hg dX2_lacks_11 e4.2 e6 ?_
  refine r_isub hg dX2_lacks_12 ?_
  exact r_ireturn hr dX2_lacks_13 ⟨Nat.zero_le _, Nat.zero_le _⟩ ⟨_, rfl, rfl⟩ (by cases h; rfl)

def f_X2_learn (this : Nat) (x1 : Int32) (x2 : Int32) (x3 : Int32) (x4 : Int32) (I : qI) : Option (qI) :=
  q_b1 (q_wr I (this + 13) 72 ((x1 * (nI 6)) + x2) x3) fun I2 =>
  q_b1 (q_wr I2 (this + 14) 72 ((x1 * (nI 6)) + x2) x4) fun I5 =>
  some (I5)
set_option maxRecDepth 100000 in
set_option maxHeartbeats 4000000 in
theorem s_X2_learn {l : Launch} {Γ : qC} (hΓ : q_gm Γ) {X : qX} (hX : q_Lay X) {this : Nat} {x1 : Int32} {x2 : Int32} {x3 : Int32} {x4 : Int32} (k_this : q_kd X this = some (4, 15)) {I : qI} {z : qI} (h : f_X2_learn this x1 x2 x3 x4 I = some z) : q_Sem l Γ (q_rm 2 0 0) yX2_learn cX2_learn 5 none [.ref this, .int x1, .int x2, .int x3, .int x4] I X (none, z, X) := by
  refine q_met (by decide) (Nat.le_of_ble_eq_true rfl) (fun g hg hr => ?_)
  unfold f_X2_learn at h
  show g 0 0 0 [(0, .ref this), (1, .int x1), (2, .int x2), (3, .int x3), (4, .int x4)] [] I X
  refine r_aload_n hg 0 dX2_learn_0 rfl rfl ?_
  have e1 := ly_2_12 hX k_this
  refine r_getR hg dX2_learn_1 fl_X2_50 k_this rfl e1.1 ?_
  refine r_iload_n hg 1 dX2_learn_4 rfl rfl ?_
  refine r_bipush hg dX2_learn_5 cb_6 ?_
  refine r_imul hg dX2_learn_7 ?_
  refine r_iload_n hg 2 dX2_learn_8 rfl rfl ?_
  refine r_iadd hg dX2_learn_9 ?_
  refine r_iload_n hg 3 dX2_learn_10 rfl rfl ?_
  obtain ⟨I2, e3, h⟩ := q_b1_some h
  refine r_iast hg dX2_learn_11 e1.2 e3 ?_
  refine r_aload_n hg 0 dX2_learn_12 rfl rfl ?_
  have e4 := ly_2_13 hX k_this
  refine r_getR hg dX2_learn_13 fl_X2_53 k_this rfl e4.1 ?_
  refine r_iload_n hg 1 dX2_learn_16 rfl rfl ?_
  refine r_bipush hg dX2_learn_17 cb_6 ?_
  refine r_imul hg dX2_learn_19 ?_
  refine r_iload_n hg 2 dX2_learn_20 rfl rfl ?_
  refine r_iadd hg dX2_learn_21 ?_
  refine r_iload hg 4 dX2_learn_22 rfl ?_
  obtain ⟨I5, e6, h⟩ := q_b1_some h
  refine r_iast hg dX2_learn_24 e4.2 e6 ?_
  exact r_return hr dX2_learn_25 ⟨Nat.zero_le _, Nat.zero_le _⟩ rfl (by cases h; rfl)

def f_X2_mayBe (x0 : Int32) (x1 : Int32) (I : qI) : Option (Int32) :=
  if x0 < 0 then
    some ((nI 0))
  else
    if (nI 6) ≤ x0 then
      some ((nI 0))
    else
      if x0 < (nI 6) then
        q_b1 (q_rdO q_LEAST 6 x0) fun v4 =>
        if x1 < v4 then
          some ((nI 0))
        else
          q_b1 (q_rdO q_MOST 6 x0) fun v7 =>
          if v7 < x1 then
            some ((nI 0))
          else
            some ((nI 1))
      else
        some ((nI 0))
set_option maxRecDepth 100000 in
set_option maxHeartbeats 4000000 in
theorem s_X2_mayBe {l : Launch} {Γ : qC} (hΓ : q_gm Γ) {X : qX} (hX : q_Lay X) {x0 : Int32} {x1 : Int32} {I : qI} {z : Int32} (h : f_X2_mayBe x0 x1 I = some z) : q_Sem l Γ (q_rm 2 0 0) yX2_mayBe cX2_mayBe 2 (some .boolean) [.int x0, .int x1] I X (some (.int z), I, X) := by
  refine q_met (by decide) (Nat.le_of_ble_eq_true rfl) (fun g hg hr => ?_)
  unfold f_X2_mayBe at h
  show g 0 0 0 [(0, .int x0), (1, .int x1)] [] I X
  refine r_iload_n hg 0 dX2_mayBe_0 rfl rfl ?_
  refine r_if_lt hg 20 dX2_mayBe_1 (by decide) (fun c1 => ?_) (fun c1 => ?_)
  · rw [if_pos c1] at h
    refine r_iconst hg dX2_mayBe_20 ci_0 ?_
    exact r_ireturn hr dX2_mayBe_21 ⟨Nat.zero_le _, Nat.zero_le _⟩ ⟨_, rfl, bz_0.1⟩ (by cases h; rfl)
  · rw [if_neg c1] at h
    refine r_iload_n hg 0 dX2_mayBe_4 rfl rfl ?_
    refine r_gets hg (a := 1) dX2_mayBe_5 fs_X2_60 (Or.inl ⟨rfl, rfl, rfl⟩) ?_
    refine r_alenC hg dX2_mayBe_8 (by decide) hΓ.1.1 ?_
    refine r_icmp_ge hg 20 dX2_mayBe_9 (by decide) (fun c2 => ?_) (fun c2 => ?_)
    · rw [if_pos c2] at h
      refine r_iconst hg dX2_mayBe_20 ci_0 ?_
      exact r_ireturn hr dX2_mayBe_21 ⟨Nat.zero_le _, Nat.zero_le _⟩ ⟨_, rfl, bz_0.1⟩ (by cases h; rfl)
    · rw [if_neg c2] at h
      refine r_iload_n hg 0 dX2_mayBe_12 rfl rfl ?_
      refine r_gets hg (a := 2) dX2_mayBe_13 fs_X2_63 (Or.inr (Or.inl ⟨rfl, rfl, rfl⟩)) ?_
      refine r_alenC hg dX2_mayBe_16 (by decide) hΓ.2.1.1 ?_
      refine r_icmp_lt hg 22 dX2_mayBe_17 (by decide) (fun c3 => ?_) (fun c3 => ?_)
      · rw [if_pos c3] at h
        refine r_iload_n hg 1 dX2_mayBe_22 rfl rfl ?_
        refine r_gets hg (a := 1) dX2_mayBe_23 fs_X2_60 (Or.inl ⟨rfl, rfl, rfl⟩) ?_
        refine r_iload_n hg 0 dX2_mayBe_26 rfl rfl ?_
        obtain ⟨v4, e5, h⟩ := q_b1_some h
        refine r_ialdC hg dX2_mayBe_27 (by decide) hΓ.1.1 hΓ.1.2 e5 ?_
        refine r_icmp_lt hg 44 dX2_mayBe_28 (by decide) (fun c6 => ?_) (fun c6 => ?_)
        · rw [if_pos c6] at h
          refine r_iconst hg dX2_mayBe_44 ci_0 ?_
          exact r_ireturn hr dX2_mayBe_45 ⟨Nat.zero_le _, Nat.zero_le _⟩ ⟨_, rfl, bz_0.1⟩ (by cases h; rfl)
        · rw [if_neg c6] at h
          refine r_iload_n hg 1 dX2_mayBe_31 rfl rfl ?_
          refine r_gets hg (a := 2) dX2_mayBe_32 fs_X2_63 (Or.inr (Or.inl ⟨rfl, rfl, rfl⟩)) ?_
          refine r_iload_n hg 0 dX2_mayBe_35 rfl rfl ?_
          obtain ⟨v7, e8, h⟩ := q_b1_some h
          refine r_ialdC hg dX2_mayBe_36 (by decide) hΓ.2.1.1 hΓ.2.1.2 e8 ?_
          refine r_icmp_gt hg 44 dX2_mayBe_37 (by decide) (fun c9 => ?_) (fun c9 => ?_)
          · rw [if_pos c9] at h
            refine r_iconst hg dX2_mayBe_44 ci_0 ?_
            exact r_ireturn hr dX2_mayBe_45 ⟨Nat.zero_le _, Nat.zero_le _⟩ ⟨_, rfl, bz_0.1⟩ (by cases h; rfl)
          · rw [if_neg c9] at h
            refine r_iconst hg dX2_mayBe_40 ci_1 ?_
            refine r_goto hg 45 dX2_mayBe_41 (by decide) ?_
            exact r_ireturn hr dX2_mayBe_45 ⟨Nat.zero_le _, Nat.zero_le _⟩ ⟨_, rfl, bz_1.1⟩ (by cases h; rfl)
      · rw [if_neg c3] at h
        refine r_iconst hg dX2_mayBe_20 ci_0 ?_
        exact r_ireturn hr dX2_mayBe_21 ⟨Nat.zero_le _, Nat.zero_le _⟩ ⟨_, rfl, bz_0.1⟩ (by cases h; rfl)

def f_X2_priceKnown (this : Nat) (x1 : Int32) (x2 : Int32) (I : qI) : Option (Int32) :=
  q_b1 (q_rd I (this + 13) 72 ((x1 * (nI 6)) + x2)) fun v2 =>
  some (v2)
set_option maxRecDepth 100000 in
set_option maxHeartbeats 4000000 in
theorem s_X2_priceKnown {l : Launch} {Γ : qC} (hΓ : q_gm Γ) {X : qX} (hX : q_Lay X) {this : Nat} {x1 : Int32} {x2 : Int32} (k_this : q_kd X this = some (4, 15)) {I : qI} {z : Int32} (h : f_X2_priceKnown this x1 x2 I = some z) : q_Sem l Γ (q_rm 2 0 0) yX2_priceKnown cX2_priceKnown 3 (some .int) [.ref this, .int x1, .int x2] I X (some (.int z), I, X) := by
  refine q_met (by decide) (Nat.le_of_ble_eq_true rfl) (fun g hg hr => ?_)
  unfold f_X2_priceKnown at h
  show g 0 0 0 [(0, .ref this), (1, .int x1), (2, .int x2)] [] I X
  refine r_aload_n hg 0 dX2_priceKnown_0 rfl rfl ?_
  have e1 := ly_2_12 hX k_this
  refine r_getR hg dX2_priceKnown_1 fl_X2_50 k_this rfl e1.1 ?_
  refine r_iload_n hg 1 dX2_priceKnown_4 rfl rfl ?_
  refine r_bipush hg dX2_priceKnown_5 cb_6 ?_
  refine r_imul hg dX2_priceKnown_7 ?_
  refine r_iload_n hg 2 dX2_priceKnown_8 rfl rfl ?_
  refine r_iadd hg dX2_priceKnown_9 ?_
  obtain ⟨v2, e3, h⟩ := q_b1_some h
  refine r_iald hg dX2_priceKnown_10 e1.2 e3 ?_
  exact r_ireturn hr dX2_priceKnown_11 ⟨Nat.zero_le _, Nat.zero_le _⟩ ⟨_, rfl, rfl⟩ (by cases h; rfl)

def f_X2_row (this : Nat) (x1 : Int32) : Option (Option Nat) :=
  if x1 = (nI 0) then
    some ((some (this + 1)))
  else
  if x1 = (nI 1) then
    some ((some (this + 2)))
  else
  if x1 = (nI 2) then
    some ((some (this + 3)))
  else
  if x1 = (nI 3) then
    some ((some (this + 4)))
  else
  if x1 = (nI 4) then
    some ((some (this + 5)))
  else
  if x1 = (nI 5) then
    some ((some (this + 6)))
  else
  if x1 = (nI 6) then
    some ((some (this + 7)))
  else
  if x1 = (nI 7) then
    some ((some (this + 8)))
  else
  if x1 = (nI 8) then
    some ((some (this + 9)))
  else
  if x1 = (nI 9) then
    some ((some (this + 10)))
  else
  if x1 = (nI 12) then
    some ((some (this + 11)))
  else
  if x1 = (nI 13) then
    some ((some (this + 12)))
  else
  some (none)
set_option maxRecDepth 100000 in
set_option maxHeartbeats 4000000 in
theorem s_X2_row {l : Launch} {Γ : qC} (hΓ : q_gm Γ) {X : qX} (hX : q_Lay X) {this : Nat} {x1 : Int32} (k_this : q_kd X this = some (4, 15)) {I : qI} {z : Option Nat} (h : f_X2_row this x1 = some z) : q_Sem l Γ (q_rm 2 0 0) yX2_row cX2_row 2 (some (.array .int)) [.ref this, .int x1] I X (some (va_rf z), I, X) := by
  refine q_met (by decide) (Nat.le_of_ble_eq_true rfl) (fun g hg hr => ?_)
  unfold f_X2_row at h
  show g 0 0 0 [(0, .ref this), (1, .int x1)] [] I X
  refine r_iload_n hg 1 dX2_row_0 rfl rfl ?_
  by_cases c1 : x1 = (nI 0)
  · rw [if_pos c1] at h
    refine r_tab hg 72 dX2_row_1 rfl (by rw [c1] <;> decide +kernel) (by decide) ?_
    refine r_aload_n hg 0 dX2_row_72 rfl rfl ?_
    have e2 := ly_2_0 hX k_this
    refine r_getR hg dX2_row_73 fl_X2_11 k_this rfl e2.1 ?_
    exact r_areturn hr (r := (some (this + 1))) dX2_row_76 ⟨Nat.zero_le _, Nat.zero_le _⟩ ⟨_, rfl, Or.inr ⟨_, rfl⟩⟩ (by cases h; rfl)
  rw [if_neg c1] at h
  by_cases c3 : x1 = (nI 1)
  · rw [if_pos c3] at h
    refine r_tab hg 77 dX2_row_1 rfl (by rw [c3] <;> decide +kernel) (by decide) ?_
    refine r_aload_n hg 0 dX2_row_77 rfl rfl ?_
    have e4 := ly_2_1 hX k_this
    refine r_getR hg dX2_row_78 fl_X2_15 k_this rfl e4.1 ?_
    exact r_areturn hr (r := (some (this + 2))) dX2_row_81 ⟨Nat.zero_le _, Nat.zero_le _⟩ ⟨_, rfl, Or.inr ⟨_, rfl⟩⟩ (by cases h; rfl)
  rw [if_neg c3] at h
  by_cases c5 : x1 = (nI 2)
  · rw [if_pos c5] at h
    refine r_tab hg 82 dX2_row_1 rfl (by rw [c5] <;> decide +kernel) (by decide) ?_
    refine r_aload_n hg 0 dX2_row_82 rfl rfl ?_
    have e6 := ly_2_2 hX k_this
    refine r_getR hg dX2_row_83 fl_X2_18 k_this rfl e6.1 ?_
    exact r_areturn hr (r := (some (this + 3))) dX2_row_86 ⟨Nat.zero_le _, Nat.zero_le _⟩ ⟨_, rfl, Or.inr ⟨_, rfl⟩⟩ (by cases h; rfl)
  rw [if_neg c5] at h
  by_cases c7 : x1 = (nI 3)
  · rw [if_pos c7] at h
    refine r_tab hg 87 dX2_row_1 rfl (by rw [c7] <;> decide +kernel) (by decide) ?_
    refine r_aload_n hg 0 dX2_row_87 rfl rfl ?_
    have e8 := ly_2_3 hX k_this
    refine r_getR hg dX2_row_88 fl_X2_21 k_this rfl e8.1 ?_
    exact r_areturn hr (r := (some (this + 4))) dX2_row_91 ⟨Nat.zero_le _, Nat.zero_le _⟩ ⟨_, rfl, Or.inr ⟨_, rfl⟩⟩ (by cases h; rfl)
  rw [if_neg c7] at h
  by_cases c9 : x1 = (nI 4)
  · rw [if_pos c9] at h
    refine r_tab hg 92 dX2_row_1 rfl (by rw [c9] <;> decide +kernel) (by decide) ?_
    refine r_aload_n hg 0 dX2_row_92 rfl rfl ?_
    have e10 := ly_2_4 hX k_this
    refine r_getR hg dX2_row_93 fl_X2_24 k_this rfl e10.1 ?_
    exact r_areturn hr (r := (some (this + 5))) dX2_row_96 ⟨Nat.zero_le _, Nat.zero_le _⟩ ⟨_, rfl, Or.inr ⟨_, rfl⟩⟩ (by cases h; rfl)
  rw [if_neg c9] at h
  by_cases c11 : x1 = (nI 5)
  · rw [if_pos c11] at h
    refine r_tab hg 97 dX2_row_1 rfl (by rw [c11] <;> decide +kernel) (by decide) ?_
    refine r_aload_n hg 0 dX2_row_97 rfl rfl ?_
    have e12 := ly_2_5 hX k_this
    refine r_getR hg dX2_row_98 fl_X2_27 k_this rfl e12.1 ?_
    exact r_areturn hr (r := (some (this + 6))) dX2_row_101 ⟨Nat.zero_le _, Nat.zero_le _⟩ ⟨_, rfl, Or.inr ⟨_, rfl⟩⟩ (by cases h; rfl)
  rw [if_neg c11] at h
  by_cases c13 : x1 = (nI 6)
  · rw [if_pos c13] at h
    refine r_tab hg 102 dX2_row_1 rfl (by rw [c13] <;> decide +kernel) (by decide) ?_
    refine r_aload_n hg 0 dX2_row_102 rfl rfl ?_
    have e14 := ly_2_6 hX k_this
    refine r_getR hg dX2_row_103 fl_X2_30 k_this rfl e14.1 ?_
    exact r_areturn hr (r := (some (this + 7))) dX2_row_106 ⟨Nat.zero_le _, Nat.zero_le _⟩ ⟨_, rfl, Or.inr ⟨_, rfl⟩⟩ (by cases h; rfl)
  rw [if_neg c13] at h
  by_cases c15 : x1 = (nI 7)
  · rw [if_pos c15] at h
    refine r_tab hg 107 dX2_row_1 rfl (by rw [c15] <;> decide +kernel) (by decide) ?_
    refine r_aload_n hg 0 dX2_row_107 rfl rfl ?_
    have e16 := ly_2_7 hX k_this
    refine r_getR hg dX2_row_108 fl_X2_33 k_this rfl e16.1 ?_
    exact r_areturn hr (r := (some (this + 8))) dX2_row_111 ⟨Nat.zero_le _, Nat.zero_le _⟩ ⟨_, rfl, Or.inr ⟨_, rfl⟩⟩ (by cases h; rfl)
  rw [if_neg c15] at h
  by_cases c17 : x1 = (nI 8)
  · rw [if_pos c17] at h
    refine r_tab hg 112 dX2_row_1 rfl (by rw [c17] <;> decide +kernel) (by decide) ?_
    refine r_aload_n hg 0 dX2_row_112 rfl rfl ?_
    have e18 := ly_2_8 hX k_this
    refine r_getR hg dX2_row_113 fl_X2_36 k_this rfl e18.1 ?_
    exact r_areturn hr (r := (some (this + 9))) dX2_row_116 ⟨Nat.zero_le _, Nat.zero_le _⟩ ⟨_, rfl, Or.inr ⟨_, rfl⟩⟩ (by cases h; rfl)
  rw [if_neg c17] at h
  by_cases c19 : x1 = (nI 9)
  · rw [if_pos c19] at h
    refine r_tab hg 117 dX2_row_1 rfl (by rw [c19] <;> decide +kernel) (by decide) ?_
    refine r_aload_n hg 0 dX2_row_117 rfl rfl ?_
    have e20 := ly_2_9 hX k_this
    refine r_getR hg dX2_row_118 fl_X2_39 k_this rfl e20.1 ?_
    exact r_areturn hr (r := (some (this + 10))) dX2_row_121 ⟨Nat.zero_le _, Nat.zero_le _⟩ ⟨_, rfl, Or.inr ⟨_, rfl⟩⟩ (by cases h; rfl)
  rw [if_neg c19] at h
  by_cases c21 : x1 = (nI 12)
  · rw [if_pos c21] at h
    refine r_tab hg 122 dX2_row_1 rfl (by rw [c21] <;> decide +kernel) (by decide) ?_
    refine r_aload_n hg 0 dX2_row_122 rfl rfl ?_
    have e22 := ly_2_10 hX k_this
    refine r_getR hg dX2_row_123 fl_X2_42 k_this rfl e22.1 ?_
    exact r_areturn hr (r := (some (this + 11))) dX2_row_126 ⟨Nat.zero_le _, Nat.zero_le _⟩ ⟨_, rfl, Or.inr ⟨_, rfl⟩⟩ (by cases h; rfl)
  rw [if_neg c21] at h
  by_cases c23 : x1 = (nI 13)
  · rw [if_pos c23] at h
    refine r_tab hg 127 dX2_row_1 rfl (by rw [c23] <;> decide +kernel) (by decide) ?_
    refine r_aload_n hg 0 dX2_row_127 rfl rfl ?_
    have e24 := ly_2_11 hX k_this
    refine r_getR hg dX2_row_128 fl_X2_45 k_this rfl e24.1 ?_
    exact r_areturn hr (r := (some (this + 12))) dX2_row_131 ⟨Nat.zero_le _, Nat.zero_le _⟩ ⟨_, rfl, Or.inr ⟨_, rfl⟩⟩ (by cases h; rfl)
  rw [if_neg c23] at h
  refine r_tab hg 132 dX2_row_1 rfl (q_tab_d (fun k hk ho => ?_)) (by decide) ?_
  · have hk : k < 14 := hk
    rcases (show k = 0 ∨ k = 1 ∨ k = 2 ∨ k = 3 ∨ k = 4 ∨ k = 5 ∨ k = 6 ∨ k = 7 ∨ k = 8 ∨ k = 9 ∨ k = 10 ∨ k = 11 ∨ k = 12 ∨ k = 13 by omega) with rfl | rfl | rfl | rfl | rfl | rfl | rfl | rfl | rfl | rfl | rfl | rfl | rfl | rfl
    · exact lv_neT c1 (by decide +kernel)
    · exact lv_neT c3 (by decide +kernel)
    · exact lv_neT c5 (by decide +kernel)
    · exact lv_neT c7 (by decide +kernel)
    · exact lv_neT c9 (by decide +kernel)
    · exact lv_neT c11 (by decide +kernel)
    · exact lv_neT c13 (by decide +kernel)
    · exact lv_neT c15 (by decide +kernel)
    · exact lv_neT c17 (by decide +kernel)
    · exact lv_neT c19 (by decide +kernel)
    · exact absurd rfl ho
    · exact absurd rfl ho
    · exact lv_neT c21 (by decide +kernel)
    · exact lv_neT c23 (by decide +kernel)
  refine r_null hg dX2_row_132 ?_
  exact r_areturn hr (r := none) dX2_row_133 ⟨Nat.zero_le _, Nat.zero_le _⟩ ⟨_, rfl, Or.inr ⟨_, rfl⟩⟩ (by cases h; rfl)

def b_X2_sum_4 (this : Nat) (x1 : Option Nat) (X : qX) (I : qI) (k4 : Int32 → Int32 → Option (Int32)) (x2 : Int32) (x3 : Int32) : Option (Int32) :=
  if (I this 14) ≤ x3 then
    some (x2)
  else
    q_b2 (q_arr X x1) fun a2 n3 =>
    if (nI n3) ≤ x3 then
      some (x2)
    else
      q_b1 (q_rd I a2 n3 x3) fun v8 =>
      k4 (x2 + v8) (x3 + (nI 1))
set_option maxRecDepth 100000 in
set_option maxHeartbeats 4000000 in
theorem p_X2_sum_4 {l : Launch} {Γ : qC} {g : qG} {z : Int32} {this : Nat} {x1 : Option Nat} {X : qX} {I : qI} (hΓ : q_gm Γ) (hg : q_Ok l Γ RX2 cX2_sum 4 (q_rm 2 0 0) "sum" (some .int) g) (hr : q_Rt cX2_sum (some .int) (q_rm 2 0 0) (some (.int z), I, X) g) (hX : q_Lay X) (k_this : q_kd X this = some (4, 15)) {k4 : Int32 → Int32 → Option (Int32)} (hk4 : ∀ (x2 : Int32) (x3 : Int32), k4 x2 x3 = some z → g 0 0 4 [(0, .ref this), (1, va_rf x1), (2, .int x2), (3, .int x3)] [] I X) (x2 : Int32) (x3 : Int32) (h : b_X2_sum_4 this x1 X I k4 x2 x3 = some z) : g 0 0 4 [(0, .ref this), (1, va_rf x1), (2, .int x2), (3, .int x3)] [] I X := by
  unfold b_X2_sum_4 at h
  refine r_iload_n hg 3 dX2_sum_4 rfl rfl ?_
  refine r_aload_n hg 0 dX2_sum_5 rfl rfl ?_
  refine r_getI hg dX2_sum_6 fl_X2_56 k_this rfl ?_
  refine r_icmp_ge hg 30 dX2_sum_9 (by decide) (fun c1 => ?_) (fun c1 => ?_)
  · rw [if_pos c1] at h
    refine r_iload_n hg 2 dX2_sum_30 rfl rfl ?_
    exact r_ireturn hr dX2_sum_31 ⟨Nat.zero_le _, Nat.zero_le _⟩ ⟨_, rfl, rfl⟩ (by cases h; rfl)
  · rw [if_neg c1] at h
    refine r_iload_n hg 3 dX2_sum_12 rfl rfl ?_
    refine r_aloadq_n hg 1 dX2_sum_13 rfl rfl ?_
    replace h := q_b2_some h
    obtain ⟨a2, n3, e4, h⟩ := h
    obtain ⟨e6, k5⟩ := q_arr_some e4
    subst e6
    refine r_alen hg dX2_sum_14 k5 ?_
    refine r_icmp_ge hg 30 dX2_sum_15 (by decide) (fun c7 => ?_) (fun c7 => ?_)
    · rw [if_pos c7] at h
      refine r_iload_n hg 2 dX2_sum_30 rfl rfl ?_
      exact r_ireturn hr dX2_sum_31 ⟨Nat.zero_le _, Nat.zero_le _⟩ ⟨_, rfl, rfl⟩ (by cases h; rfl)
    · rw [if_neg c7] at h
      refine r_iload_n hg 2 dX2_sum_18 rfl rfl ?_
      refine r_aload_n hg 1 dX2_sum_19 rfl rfl ?_
      refine r_iload_n hg 3 dX2_sum_20 rfl rfl ?_
      obtain ⟨v8, e9, h⟩ := q_b1_some h
      refine r_iald hg dX2_sum_21 k5 e9 ?_
      refine r_iadd hg dX2_sum_22 ?_
      refine r_istore_n hg (L' := [(2, .int (x2 + v8)), (0, .ref this), (1, .ref a2), (3, .int x3)]) dX2_sum_23 rfl (by decide) rfl ?_
      refine r_iinc hg 3 (v := (x3 + (nI 1))) (L' := [(3, .int (x3 + (nI 1))), (2, .int (x2 + v8)), (0, .ref this), (1, .ref a2)]) dX2_sum_24 rfl (by rw [ci_1]) (by decide) rfl ?_
      refine r_goto hg 4 dX2_sum_27 (by decide) ?_
      refine r_sub hg [2, 3, 1, 0] rfl ?_
      exact hk4 _ _ h
theorem pl_X2_sum_4 {l : Launch} {Γ : qC} {g : qG} {z : Int32} {this : Nat} {x1 : Option Nat} {X : qX} {I : qI} (hΓ : q_gm Γ) (hg : q_Ok l Γ RX2 cX2_sum 4 (q_rm 2 0 0) "sum" (some .int) g) (hr : q_Rt cX2_sum (some .int) (q_rm 2 0 0) (some (.int z), I, X) g) (hX : q_Lay X) (k_this : q_kd X this = some (4, 15)) : ∀ (n : Nat) (x2 : Int32) (x3 : Int32), q_fix (fun _ _ => none) (b_X2_sum_4 this x1 X I) n x2 x3 = some z → g 0 0 4 [(0, .ref this), (1, va_rf x1), (2, .int x2), (3, .int x3)] [] I X := by
  intro n
  induction n with
  | zero =>
    intro x2 x3 h
    cases (show (none : Option (Int32)) = some z from h)
  | succ n ih =>
    intro x2 x3 h
    exact p_X2_sum_4 hΓ hg hr hX k_this ih _ _ h
def f_X2_sum (this : Nat) (x1 : Option Nat) (X : qX) (I : qI) : Option (Int32) :=
  q_fix (fun _ _ => none) (b_X2_sum_4 this x1 X I) q_fu (nI 0) (nI 0)
set_option maxRecDepth 100000 in
set_option maxHeartbeats 4000000 in
theorem s_X2_sum {l : Launch} {Γ : qC} (hΓ : q_gm Γ) {X : qX} (hX : q_Lay X) {this : Nat} {x1 : Option Nat} (k_this : q_kd X this = some (4, 15)) {I : qI} {z : Int32} (h : f_X2_sum this x1 X I = some z) : q_Sem l Γ (q_rm 2 0 0) yX2_sum cX2_sum 4 (some .int) [.ref this, va_rf x1] I X (some (.int z), I, X) := by
  refine q_met (by decide) (by cases x1 <;> exact Nat.le_of_ble_eq_true rfl) (fun g hg hr => ?_)
  unfold f_X2_sum at h
  have eL : lv_args 0 [.ref this, va_rf x1] = [(0, .ref this), (1, va_rf x1)] := by cases x1 <;> rfl
  rw [eL]
  refine r_iconst hg dX2_sum_0 ci_0 ?_
  refine r_istore_n hg (i0 := 2) (L' := [(2, .int (nI 0)), (0, .ref this), (1, va_rf x1)]) dX2_sum_1 rfl (by decide) (by simp [List.filter, q_cat_rf]) ?_
  refine r_iconst hg dX2_sum_2 ci_0 ?_
  refine r_istore_n hg (L' := [(3, .int (nI 0)), (2, .int (nI 0)), (0, .ref this), (1, va_rf x1)]) dX2_sum_3 rfl (by decide) rfl ?_
  refine r_sub hg [2, 3, 1, 0] rfl ?_
  exact pl_X2_sum_4 hΓ hg hr hX k_this _ _ _ h

def f_X3_become (this : Nat) (x1 : Nat) (I : qI) : Option (qI) :=
  q_b1 (q_cp I (x1 + 1) 8 (nI 0) (this + 1) 8 (nI 0) (nI 8)) fun I3 =>
  q_b1 (q_cp I3 (x1 + 2) 8 (nI 0) (this + 2) 8 (nI 0) (nI 8)) fun I12 =>
  q_b1 (q_cp I12 (x1 + 3) 8 (nI 0) (this + 3) 8 (nI 0) (nI 8)) fun I21 =>
  q_b1 (q_cp I21 (x1 + 4) 8 (nI 0) (this + 4) 8 (nI 0) (nI 8)) fun I30 =>
  q_b1 (q_cp I30 (x1 + 5) 8 (nI 0) (this + 5) 8 (nI 0) (nI 8)) fun I39 =>
  some (I39)
set_option maxRecDepth 100000 in
set_option maxHeartbeats 4000000 in
theorem s_X3_become {l : Launch} {Γ : qC} (hΓ : q_gm Γ) {X : qX} (hX : q_Lay X) {this : Nat} {x1 : Nat} (k_this : q_kd X this = some (5, 5)) (k_x1 : q_kd X x1 = some (5, 5)) {I : qI} {z : qI} (h : f_X3_become this x1 I = some z) : q_Sem l Γ (q_rm 2 0 0) yX3_become cX3_become 2 none [.ref this, .ref x1] I X (none, z, X) := by
  refine q_met (by decide) (Nat.le_of_ble_eq_true rfl) (fun g hg hr => ?_)
  unfold f_X3_become at h
  show g 0 0 0 [(0, .ref this), (1, .ref x1)] [] I X
  refine r_aload_n hg 1 dX3_become_0 rfl rfl ?_
  have e1 := ly_3_0 hX k_x1
  refine r_getR hg dX3_become_1 fl_X3_9 k_x1 rfl e1.1 ?_
  refine r_iconst hg dX3_become_4 ci_0 ?_
  refine r_aload_n hg 0 dX3_become_5 rfl rfl ?_
  have e2 := ly_3_0 hX k_this
  refine r_getR hg dX3_become_6 fl_X3_9 k_this rfl e2.1 ?_
  refine r_iconst hg dX3_become_9 ci_0 ?_
  refine r_bipush hg dX3_become_10 cb_8 ?_
  obtain ⟨I3, e4, h⟩ := q_b1_some h
  obtain ⟨⟨e5, e6, e7⟩, e8, e9, rfl⟩ := q_cp_some e4
  refine r_copy hg dX3_become_12 cp_X3_25 e1.2 e2.2 e5 e6 e7 e8 e9 ⟨Nat.le_of_ble_eq_true rfl, Nat.le_of_ble_eq_true rfl⟩ ?_
  refine r_aload_n hg 1 dX3_become_15 rfl rfl ?_
  have e10 := ly_3_1 hX k_x1
  refine r_getR hg dX3_become_16 fl_X3_13 k_x1 rfl e10.1 ?_
  refine r_iconst hg dX3_become_19 ci_0 ?_
  refine r_aload_n hg 0 dX3_become_20 rfl rfl ?_
  have e11 := ly_3_1 hX k_this
  refine r_getR hg dX3_become_21 fl_X3_13 k_this rfl e11.1 ?_
  refine r_iconst hg dX3_become_24 ci_0 ?_
  refine r_bipush hg dX3_become_25 cb_8 ?_
  obtain ⟨I12, e13, h⟩ := q_b1_some h
  obtain ⟨⟨e14, e15, e16⟩, e17, e18, rfl⟩ := q_cp_some e13
  refine r_copy hg dX3_become_27 cp_X3_25 e10.2 e11.2 e14 e15 e16 e17 e18 ⟨Nat.le_of_ble_eq_true rfl, Nat.le_of_ble_eq_true rfl⟩ ?_
  refine r_aload_n hg 1 dX3_become_30 rfl rfl ?_
  have e19 := ly_3_2 hX k_x1
  refine r_getR hg dX3_become_31 fl_X3_16 k_x1 rfl e19.1 ?_
  refine r_iconst hg dX3_become_34 ci_0 ?_
  refine r_aload_n hg 0 dX3_become_35 rfl rfl ?_
  have e20 := ly_3_2 hX k_this
  refine r_getR hg dX3_become_36 fl_X3_16 k_this rfl e20.1 ?_
  refine r_iconst hg dX3_become_39 ci_0 ?_
  refine r_bipush hg dX3_become_40 cb_8 ?_
  obtain ⟨I21, e22, h⟩ := q_b1_some h
  obtain ⟨⟨e23, e24, e25⟩, e26, e27, rfl⟩ := q_cp_some e22
  refine r_copy hg dX3_become_42 cp_X3_25 e19.2 e20.2 e23 e24 e25 e26 e27 ⟨Nat.le_of_ble_eq_true rfl, Nat.le_of_ble_eq_true rfl⟩ ?_
  refine r_aload_n hg 1 dX3_become_45 rfl rfl ?_
  have e28 := ly_3_3 hX k_x1
  refine r_getR hg dX3_become_46 fl_X3_19 k_x1 rfl e28.1 ?_
  refine r_iconst hg dX3_become_49 ci_0 ?_
  refine r_aload_n hg 0 dX3_become_50 rfl rfl ?_
  have e29 := ly_3_3 hX k_this
  refine r_getR hg dX3_become_51 fl_X3_19 k_this rfl e29.1 ?_
  refine r_iconst hg dX3_become_54 ci_0 ?_
  refine r_bipush hg dX3_become_55 cb_8 ?_
  obtain ⟨I30, e31, h⟩ := q_b1_some h
  obtain ⟨⟨e32, e33, e34⟩, e35, e36, rfl⟩ := q_cp_some e31
  refine r_copy hg dX3_become_57 cp_X3_25 e28.2 e29.2 e32 e33 e34 e35 e36 ⟨Nat.le_of_ble_eq_true rfl, Nat.le_of_ble_eq_true rfl⟩ ?_
  refine r_aload_n hg 1 dX3_become_60 rfl rfl ?_
  have e37 := ly_3_4 hX k_x1
  refine r_getR hg dX3_become_61 fl_X3_22 k_x1 rfl e37.1 ?_
  refine r_iconst hg dX3_become_64 ci_0 ?_
  refine r_aload_n hg 0 dX3_become_65 rfl rfl ?_
  have e38 := ly_3_4 hX k_this
  refine r_getR hg dX3_become_66 fl_X3_22 k_this rfl e38.1 ?_
  refine r_iconst hg dX3_become_69 ci_0 ?_
  refine r_bipush hg dX3_become_70 cb_8 ?_
  obtain ⟨I39, e40, h⟩ := q_b1_some h
  obtain ⟨⟨e41, e42, e43⟩, e44, e45, rfl⟩ := q_cp_some e40
  refine r_copy hg dX3_become_72 cp_X3_25 e37.2 e38.2 e41 e42 e43 e44 e45 ⟨Nat.le_of_ble_eq_true rfl, Nat.le_of_ble_eq_true rfl⟩ ?_
  exact r_return hr dX3_become_75 ⟨Nat.zero_le _, Nat.zero_le _⟩ rfl (by cases h; rfl)

def f_X3_row (this : Nat) (x1 : Int32) : Option (Option Nat) :=
  if x1 = (nI 0) then
    some ((some (this + 1)))
  else
  if x1 = (nI 1) then
    some ((some (this + 2)))
  else
  if x1 = (nI 2) then
    some ((some (this + 3)))
  else
  if x1 = (nI 3) then
    some ((some (this + 4)))
  else
  if x1 = (nI 4) then
    some ((some (this + 5)))
  else
  some (none)
set_option maxRecDepth 100000 in
set_option maxHeartbeats 4000000 in
theorem s_X3_row {l : Launch} {Γ : qC} (hΓ : q_gm Γ) {X : qX} (hX : q_Lay X) {this : Nat} {x1 : Int32} (k_this : q_kd X this = some (5, 5)) {I : qI} {z : Option Nat} (h : f_X3_row this x1 = some z) : q_Sem l Γ (q_rm 2 0 0) yX3_row cX3_row 2 (some (.array .int)) [.ref this, .int x1] I X (some (va_rf z), I, X) := by
  refine q_met (by decide) (Nat.le_of_ble_eq_true rfl) (fun g hg hr => ?_)
  unfold f_X3_row at h
  show g 0 0 0 [(0, .ref this), (1, .int x1)] [] I X
  refine r_iload_n hg 1 dX3_row_0 rfl rfl ?_
  by_cases c1 : x1 = (nI 0)
  · rw [if_pos c1] at h
    refine r_tab hg 36 dX3_row_1 rfl (by rw [c1] <;> decide +kernel) (by decide) ?_
    refine r_aload_n hg 0 dX3_row_36 rfl rfl ?_
    have e2 := ly_3_0 hX k_this
    refine r_getR hg dX3_row_37 fl_X3_9 k_this rfl e2.1 ?_
    exact r_areturn hr (r := (some (this + 1))) dX3_row_40 ⟨Nat.zero_le _, Nat.zero_le _⟩ ⟨_, rfl, Or.inr ⟨_, rfl⟩⟩ (by cases h; rfl)
  rw [if_neg c1] at h
  by_cases c3 : x1 = (nI 1)
  · rw [if_pos c3] at h
    refine r_tab hg 41 dX3_row_1 rfl (by rw [c3] <;> decide +kernel) (by decide) ?_
    refine r_aload_n hg 0 dX3_row_41 rfl rfl ?_
    have e4 := ly_3_1 hX k_this
    refine r_getR hg dX3_row_42 fl_X3_13 k_this rfl e4.1 ?_
    exact r_areturn hr (r := (some (this + 2))) dX3_row_45 ⟨Nat.zero_le _, Nat.zero_le _⟩ ⟨_, rfl, Or.inr ⟨_, rfl⟩⟩ (by cases h; rfl)
  rw [if_neg c3] at h
  by_cases c5 : x1 = (nI 2)
  · rw [if_pos c5] at h
    refine r_tab hg 46 dX3_row_1 rfl (by rw [c5] <;> decide +kernel) (by decide) ?_
    refine r_aload_n hg 0 dX3_row_46 rfl rfl ?_
    have e6 := ly_3_2 hX k_this
    refine r_getR hg dX3_row_47 fl_X3_16 k_this rfl e6.1 ?_
    exact r_areturn hr (r := (some (this + 3))) dX3_row_50 ⟨Nat.zero_le _, Nat.zero_le _⟩ ⟨_, rfl, Or.inr ⟨_, rfl⟩⟩ (by cases h; rfl)
  rw [if_neg c5] at h
  by_cases c7 : x1 = (nI 3)
  · rw [if_pos c7] at h
    refine r_tab hg 51 dX3_row_1 rfl (by rw [c7] <;> decide +kernel) (by decide) ?_
    refine r_aload_n hg 0 dX3_row_51 rfl rfl ?_
    have e8 := ly_3_3 hX k_this
    refine r_getR hg dX3_row_52 fl_X3_19 k_this rfl e8.1 ?_
    exact r_areturn hr (r := (some (this + 4))) dX3_row_55 ⟨Nat.zero_le _, Nat.zero_le _⟩ ⟨_, rfl, Or.inr ⟨_, rfl⟩⟩ (by cases h; rfl)
  rw [if_neg c7] at h
  by_cases c9 : x1 = (nI 4)
  · rw [if_pos c9] at h
    refine r_tab hg 56 dX3_row_1 rfl (by rw [c9] <;> decide +kernel) (by decide) ?_
    refine r_aload_n hg 0 dX3_row_56 rfl rfl ?_
    have e10 := ly_3_4 hX k_this
    refine r_getR hg dX3_row_57 fl_X3_22 k_this rfl e10.1 ?_
    exact r_areturn hr (r := (some (this + 5))) dX3_row_60 ⟨Nat.zero_le _, Nat.zero_le _⟩ ⟨_, rfl, Or.inr ⟨_, rfl⟩⟩ (by cases h; rfl)
  rw [if_neg c9] at h
  refine r_tab hg 61 dX3_row_1 rfl (q_tab_d (fun k hk ho => ?_)) (by decide) ?_
  · have hk : k < 5 := hk
    rcases (show k = 0 ∨ k = 1 ∨ k = 2 ∨ k = 3 ∨ k = 4 by omega) with rfl | rfl | rfl | rfl | rfl
    · exact lv_neT c1 (by decide +kernel)
    · exact lv_neT c3 (by decide +kernel)
    · exact lv_neT c5 (by decide +kernel)
    · exact lv_neT c7 (by decide +kernel)
    · exact lv_neT c9 (by decide +kernel)
  refine r_null hg dX3_row_61 ?_
  exact r_areturn hr (r := none) dX3_row_62 ⟨Nat.zero_le _, Nat.zero_le _⟩ ⟨_, rfl, Or.inr ⟨_, rfl⟩⟩ (by cases h; rfl)

def f_X4_added (this : Nat) (x1 : Int32) (x2 : Int32) (x3 : Int32) (I : qI) : Option (Int32 × qI) :=
  if (I this 9) < (nI 8) then
    q_b1 (q_wr I (this + 1) 8 (I this 9) x1) fun I3 =>
    q_b1 (q_wr I3 (this + 2) 8 (I3 this 9) x2) fun I6 =>
    q_b1 (q_wr I6 (this + 3) 8 (I6 this 9) x3) fun I9 =>
    q_b1 (some (q_up I9 this 9 ((I9 this 9) + (nI 1)))) fun I11 =>
    some (((I11 this 9) - (nI 1)), I11)
  else
    some ((-1000000003), I)
set_option maxRecDepth 100000 in
set_option maxHeartbeats 4000000 in
theorem s_X4_added {l : Launch} {Γ : qC} (hΓ : q_gm Γ) {X : qX} (hX : q_Lay X) {this : Nat} {x1 : Int32} {x2 : Int32} {x3 : Int32} (k_this : q_kd X this = some (6, 10)) {I : qI} {z : Int32 × qI} (h : f_X4_added this x1 x2 x3 I = some z) : q_Sem l Γ (q_rm 2 0 0) yX4_added cX4_added 4 (some .int) [.ref this, .int x1, .int x2, .int x3] I X (some (.int z.1), z.2, X) := by
  refine q_met (by decide) (Nat.le_of_ble_eq_true rfl) (fun g hg hr => ?_)
  unfold f_X4_added at h
  show g 0 0 0 [(0, .ref this), (1, .int x1), (2, .int x2), (3, .int x3)] [] I X
  refine r_aload_n hg 0 dX4_added_0 rfl rfl ?_
  refine r_getI hg dX4_added_1 fl_X4_33 k_this rfl ?_
  refine r_bipush hg dX4_added_4 cb_8 ?_
  refine r_icmp_lt hg 12 dX4_added_6 (by decide) (fun c1 => ?_) (fun c1 => ?_)
  · rw [if_pos c1] at h
    refine r_aload_n hg 0 dX4_added_12 rfl rfl ?_
    have e2 := ly_4_0 hX k_this
    refine r_getR hg dX4_added_13 fl_X4_11 k_this rfl e2.1 ?_
    refine r_aload_n hg 0 dX4_added_16 rfl rfl ?_
    refine r_getI hg dX4_added_17 fl_X4_33 k_this rfl ?_
    refine r_iload_n hg 1 dX4_added_20 rfl rfl ?_
    obtain ⟨I3, e4, h⟩ := q_b1_some h
    refine r_iast hg dX4_added_21 e2.2 e4 ?_
    refine r_aload_n hg 0 dX4_added_22 rfl rfl ?_
    have e5 := ly_4_1 hX k_this
    refine r_getR hg dX4_added_23 fl_X4_15 k_this rfl e5.1 ?_
    refine r_aload_n hg 0 dX4_added_26 rfl rfl ?_
    refine r_getI hg dX4_added_27 fl_X4_33 k_this rfl ?_
    refine r_iload_n hg 2 dX4_added_30 rfl rfl ?_
    obtain ⟨I6, e7, h⟩ := q_b1_some h
    refine r_iast hg dX4_added_31 e5.2 e7 ?_
    refine r_aload_n hg 0 dX4_added_32 rfl rfl ?_
    have e8 := ly_4_2 hX k_this
    refine r_getR hg dX4_added_33 fl_X4_18 k_this rfl e8.1 ?_
    refine r_aload_n hg 0 dX4_added_36 rfl rfl ?_
    refine r_getI hg dX4_added_37 fl_X4_33 k_this rfl ?_
    refine r_iload_n hg 3 dX4_added_40 rfl rfl ?_
    obtain ⟨I9, e10, h⟩ := q_b1_some h
    refine r_iast hg dX4_added_41 e8.2 e10 ?_
    refine r_aload_n hg 0 dX4_added_42 rfl rfl ?_
    refine r_dup hg dX4_added_43 rfl ?_
    refine r_getI hg dX4_added_44 fl_X4_33 k_this rfl ?_
    refine r_iconst hg dX4_added_47 ci_1 ?_
    refine r_iadd hg dX4_added_48 ?_
    obtain ⟨I11, e12, h⟩ := q_b1_some h
    obtain rfl := Option.some.inj e12
    refine r_putI hg dX4_added_49 fl_X4_33 k_this rfl ⟨rfl, rfl⟩ ?_
    refine r_aload_n hg 0 dX4_added_52 rfl rfl ?_
    refine r_getI hg dX4_added_53 fl_X4_33 k_this rfl ?_
    refine r_iconst hg dX4_added_56 ci_1 ?_
    refine r_isub hg dX4_added_57 ?_
    exact r_ireturn hr dX4_added_58 ⟨Nat.zero_le _, Nat.zero_le _⟩ ⟨_, rfl, rfl⟩ (by cases h; rfl)
  · rw [if_neg c1] at h
    refine r_ldc hg dX4_added_9 kc_X4_37 ?_
    exact r_ireturn hr dX4_added_11 ⟨Nat.zero_le _, Nat.zero_le _⟩ ⟨_, rfl, rfl⟩ (by cases h; rfl)

def f_X4_become (this : Nat) (x1 : Nat) (I : qI) : Option (qI) :=
  q_b1 (q_cp I (x1 + 1) 8 (nI 0) (this + 1) 8 (nI 0) (nI 8)) fun I3 =>
  q_b1 (q_cp I3 (x1 + 2) 8 (nI 0) (this + 2) 8 (nI 0) (nI 8)) fun I12 =>
  q_b1 (q_cp I12 (x1 + 3) 8 (nI 0) (this + 3) 8 (nI 0) (nI 8)) fun I21 =>
  q_b1 (some (q_up I21 this 9 (I21 x1 9))) fun I28 =>
  some (I28)
set_option maxRecDepth 100000 in
set_option maxHeartbeats 4000000 in
theorem s_X4_become {l : Launch} {Γ : qC} (hΓ : q_gm Γ) {X : qX} (hX : q_Lay X) {this : Nat} {x1 : Nat} (k_this : q_kd X this = some (6, 10)) (k_x1 : q_kd X x1 = some (6, 10)) {I : qI} {z : qI} (h : f_X4_become this x1 I = some z) : q_Sem l Γ (q_rm 2 0 0) yX4_become cX4_become 2 none [.ref this, .ref x1] I X (none, z, X) := by
  refine q_met (by decide) (Nat.le_of_ble_eq_true rfl) (fun g hg hr => ?_)
  unfold f_X4_become at h
  show g 0 0 0 [(0, .ref this), (1, .ref x1)] [] I X
  refine r_aload_n hg 1 dX4_become_0 rfl rfl ?_
  have e1 := ly_4_0 hX k_x1
  refine r_getR hg dX4_become_1 fl_X4_11 k_x1 rfl e1.1 ?_
  refine r_iconst hg dX4_become_4 ci_0 ?_
  refine r_aload_n hg 0 dX4_become_5 rfl rfl ?_
  have e2 := ly_4_0 hX k_this
  refine r_getR hg dX4_become_6 fl_X4_11 k_this rfl e2.1 ?_
  refine r_iconst hg dX4_become_9 ci_0 ?_
  refine r_bipush hg dX4_become_10 cb_8 ?_
  obtain ⟨I3, e4, h⟩ := q_b1_some h
  obtain ⟨⟨e5, e6, e7⟩, e8, e9, rfl⟩ := q_cp_some e4
  refine r_copy hg dX4_become_12 cp_X4_38 e1.2 e2.2 e5 e6 e7 e8 e9 ⟨Nat.le_of_ble_eq_true rfl, Nat.le_of_ble_eq_true rfl⟩ ?_
  refine r_aload_n hg 1 dX4_become_15 rfl rfl ?_
  have e10 := ly_4_1 hX k_x1
  refine r_getR hg dX4_become_16 fl_X4_15 k_x1 rfl e10.1 ?_
  refine r_iconst hg dX4_become_19 ci_0 ?_
  refine r_aload_n hg 0 dX4_become_20 rfl rfl ?_
  have e11 := ly_4_1 hX k_this
  refine r_getR hg dX4_become_21 fl_X4_15 k_this rfl e11.1 ?_
  refine r_iconst hg dX4_become_24 ci_0 ?_
  refine r_bipush hg dX4_become_25 cb_8 ?_
  obtain ⟨I12, e13, h⟩ := q_b1_some h
  obtain ⟨⟨e14, e15, e16⟩, e17, e18, rfl⟩ := q_cp_some e13
  refine r_copy hg dX4_become_27 cp_X4_38 e10.2 e11.2 e14 e15 e16 e17 e18 ⟨Nat.le_of_ble_eq_true rfl, Nat.le_of_ble_eq_true rfl⟩ ?_
  refine r_aload_n hg 1 dX4_become_30 rfl rfl ?_
  have e19 := ly_4_2 hX k_x1
  refine r_getR hg dX4_become_31 fl_X4_18 k_x1 rfl e19.1 ?_
  refine r_iconst hg dX4_become_34 ci_0 ?_
  refine r_aload_n hg 0 dX4_become_35 rfl rfl ?_
  have e20 := ly_4_2 hX k_this
  refine r_getR hg dX4_become_36 fl_X4_18 k_this rfl e20.1 ?_
  refine r_iconst hg dX4_become_39 ci_0 ?_
  refine r_bipush hg dX4_become_40 cb_8 ?_
  obtain ⟨I21, e22, h⟩ := q_b1_some h
  obtain ⟨⟨e23, e24, e25⟩, e26, e27, rfl⟩ := q_cp_some e22
  refine r_copy hg dX4_become_42 cp_X4_38 e19.2 e20.2 e23 e24 e25 e26 e27 ⟨Nat.le_of_ble_eq_true rfl, Nat.le_of_ble_eq_true rfl⟩ ?_
  refine r_aload_n hg 0 dX4_become_45 rfl rfl ?_
  refine r_aload_n hg 1 dX4_become_46 rfl rfl ?_
  refine r_getI hg dX4_become_47 fl_X4_33 k_x1 rfl ?_
  obtain ⟨I28, e29, h⟩ := q_b1_some h
  obtain rfl := Option.some.inj e29
  refine r_putI hg dX4_become_50 fl_X4_33 k_this rfl ⟨rfl, rfl⟩ ?_
  exact r_return hr dX4_become_53 ⟨Nat.zero_le _, Nat.zero_le _⟩ rfl (by cases h; rfl)

def f_X4_keepOrder (this : Nat) (x1 : Int32) (I : qI) : Option (qI) :=
  q_b1 (some (q_up I this 7 x1)) fun I1 =>
  q_b1 (q_cp I1 (this + 4) 8 (nI 0) (this + 6) 8 (nI 0) (I1 this 9)) fun I5 =>
  q_b1 (q_cp I5 (this + 5) 8 (nI 0) (this + 7) 8 (nI 0) (I5 this 9)) fun I14 =>
  some (I14)
set_option maxRecDepth 100000 in
set_option maxHeartbeats 4000000 in
theorem s_X4_keepOrder {l : Launch} {Γ : qC} (hΓ : q_gm Γ) {X : qX} (hX : q_Lay X) {this : Nat} {x1 : Int32} (k_this : q_kd X this = some (6, 10)) {I : qI} {z : qI} (h : f_X4_keepOrder this x1 I = some z) : q_Sem l Γ (q_rm 2 0 0) yX4_keepOrder cX4_keepOrder 2 none [.ref this, .int x1] I X (none, z, X) := by
  refine q_met (by decide) (Nat.le_of_ble_eq_true rfl) (fun g hg hr => ?_)
  unfold f_X4_keepOrder at h
  show g 0 0 0 [(0, .ref this), (1, .int x1)] [] I X
  refine r_aload_n hg 0 dX4_keepOrder_0 rfl rfl ?_
  refine r_iload_n hg 1 dX4_keepOrder_1 rfl rfl ?_
  obtain ⟨I1, e2, h⟩ := q_b1_some h
  obtain rfl := Option.some.inj e2
  refine r_putI hg dX4_keepOrder_2 fl_X4_44 k_this rfl ⟨rfl, rfl⟩ ?_
  refine r_aload_n hg 0 dX4_keepOrder_5 rfl rfl ?_
  have e3 := ly_4_3 hX k_this
  refine r_getR hg dX4_keepOrder_6 fl_X4_21 k_this rfl e3.1 ?_
  refine r_iconst hg dX4_keepOrder_9 ci_0 ?_
  refine r_aload_n hg 0 dX4_keepOrder_10 rfl rfl ?_
  have e4 := ly_4_5 hX k_this
  refine r_getR hg dX4_keepOrder_11 fl_X4_27 k_this rfl e4.1 ?_
  refine r_iconst hg dX4_keepOrder_14 ci_0 ?_
  refine r_aload_n hg 0 dX4_keepOrder_15 rfl rfl ?_
  refine r_getI hg dX4_keepOrder_16 fl_X4_33 k_this rfl ?_
  obtain ⟨I5, e6, h⟩ := q_b1_some h
  obtain ⟨⟨e7, e8, e9⟩, e10, e11, rfl⟩ := q_cp_some e6
  refine r_copy hg dX4_keepOrder_19 cp_X4_38 e3.2 e4.2 e7 e8 e9 e10 e11 ⟨Nat.le_of_ble_eq_true rfl, Nat.le_of_ble_eq_true rfl⟩ ?_
  refine r_aload_n hg 0 dX4_keepOrder_22 rfl rfl ?_
  have e12 := ly_4_4 hX k_this
  refine r_getR hg dX4_keepOrder_23 fl_X4_24 k_this rfl e12.1 ?_
  refine r_iconst hg dX4_keepOrder_26 ci_0 ?_
  refine r_aload_n hg 0 dX4_keepOrder_27 rfl rfl ?_
  have e13 := ly_4_6 hX k_this
  refine r_getR hg dX4_keepOrder_28 fl_X4_30 k_this rfl e13.1 ?_
  refine r_iconst hg dX4_keepOrder_31 ci_0 ?_
  refine r_aload_n hg 0 dX4_keepOrder_32 rfl rfl ?_
  refine r_getI hg dX4_keepOrder_33 fl_X4_33 k_this rfl ?_
  obtain ⟨I14, e15, h⟩ := q_b1_some h
  obtain ⟨⟨e16, e17, e18⟩, e19, e20, rfl⟩ := q_cp_some e15
  refine r_copy hg dX4_keepOrder_36 cp_X4_38 e12.2 e13.2 e16 e17 e18 e19 e20 ⟨Nat.le_of_ble_eq_true rfl, Nat.le_of_ble_eq_true rfl⟩ ?_
  exact r_return hr dX4_keepOrder_39 ⟨Nat.zero_le _, Nat.zero_le _⟩ rfl (by cases h; rfl)

def f_X4_weeksTill (x0 : Int32) (x1 : Int32) : Option (Int32) :=
  if 0 < x0 then
    if 0 < x1 then
      if x1 = 0 then none else
      some ((((x0 + x1) - (nI 1)) / x1))
    else
      some ((nI 1000))
  else
    some ((nI 0))
set_option maxRecDepth 100000 in
set_option maxHeartbeats 4000000 in
theorem s_X4_weeksTill {l : Launch} {Γ : qC} (hΓ : q_gm Γ) {X : qX} (hX : q_Lay X) {x0 : Int32} {x1 : Int32} {I : qI} {z : Int32} (h : f_X4_weeksTill x0 x1 = some z) : q_Sem l Γ (q_rm 2 0 0) yX4_weeksTill cX4_weeksTill 2 (some .int) [.int x0, .int x1] I X (some (.int z), I, X) := by
  refine q_met (by decide) (Nat.le_of_ble_eq_true rfl) (fun g hg hr => ?_)
  unfold f_X4_weeksTill at h
  show g 0 0 0 [(0, .int x0), (1, .int x1)] [] I X
  refine r_iload_n hg 0 dX4_weeksTill_0 rfl rfl ?_
  refine r_if_gt hg 6 dX4_weeksTill_1 (by decide) (fun c1 => ?_) (fun c1 => ?_)
  · rw [if_pos c1] at h
    refine r_iload_n hg 1 dX4_weeksTill_6 rfl rfl ?_
    refine r_if_gt hg 16 dX4_weeksTill_7 (by decide) (fun c2 => ?_) (fun c2 => ?_)
    · rw [if_pos c2] at h
      refine r_iload_n hg 0 dX4_weeksTill_16 rfl rfl ?_
      refine r_iload_n hg 1 dX4_weeksTill_17 rfl rfl ?_
      refine r_iadd hg dX4_weeksTill_18 ?_
      refine r_iconst hg dX4_weeksTill_19 ci_1 ?_
      refine r_isub hg dX4_weeksTill_20 ?_
      refine r_iload_n hg 1 dX4_weeksTill_21 rfl rfl ?_
      by_cases c3 : x1 = 0
      · rw [if_pos c3] at h; cases h
      rw [if_neg c3] at h
      refine r_idiv hg dX4_weeksTill_22 c3 ?_
      exact r_ireturn hr dX4_weeksTill_23 ⟨Nat.zero_le _, Nat.zero_le _⟩ ⟨_, rfl, rfl⟩ (by cases h; rfl)
    · rw [if_neg c2] at h
      refine r_sipush hg dX4_weeksTill_10 cs_1000 ?_
      refine r_goto hg 23 dX4_weeksTill_13 (by decide) ?_
      exact r_ireturn hr dX4_weeksTill_23 ⟨Nat.zero_le _, Nat.zero_le _⟩ ⟨_, rfl, rfl⟩ (by cases h; rfl)
  · rw [if_neg c1] at h
    refine r_iconst hg dX4_weeksTill_4 ci_0 ?_
    exact r_ireturn hr dX4_weeksTill_5 ⟨Nat.zero_le _, Nat.zero_le _⟩ ⟨_, rfl, rfl⟩ (by cases h; rfl)

def f_X5_emit (this : Nat) (x1 : Int32) (I : qI) : Option (qI) :=
  if (I this 2) < (nI 96) then
    q_b1 (q_wr I (this + 2) 96 (I this 2) x1) fun I4 =>
    q_b1 (some (q_up I4 this 2 ((I4 this 2) + (nI 1)))) fun I6 =>
    some (I6)
  else
    some (I)
set_option maxRecDepth 100000 in
set_option maxHeartbeats 4000000 in
theorem s_X5_emit {l : Launch} {Γ : qC} (hΓ : q_gm Γ) {X : qX} (hX : q_Lay X) {this : Nat} {x1 : Int32} (k_this : q_kd X this = some (7, 9)) {I : qI} {z : qI} (h : f_X5_emit this x1 I = some z) : q_Sem l Γ (q_rm 2 0 0) yX5_emit cX5_emit 2 none [.ref this, .int x1] I X (none, z, X) := by
  refine q_met (by decide) (Nat.le_of_ble_eq_true rfl) (fun g hg hr => ?_)
  unfold f_X5_emit at h
  show g 0 0 0 [(0, .ref this), (1, .int x1)] [] I X
  refine r_aload_n hg 0 dX5_emit_0 rfl rfl ?_
  refine r_getI hg dX5_emit_1 fl_X5_20 k_this rfl ?_
  refine r_aload_n hg 0 dX5_emit_4 rfl rfl ?_
  have e1 := ly_5_1 hX k_this
  refine r_getR hg dX5_emit_5 fl_X5_13 k_this rfl e1.1 ?_
  refine r_alen hg dX5_emit_8 e1.2 ?_
  refine r_icmp_lt hg 13 dX5_emit_9 (by decide) (fun c2 => ?_) (fun c2 => ?_)
  · rw [if_pos c2] at h
    refine r_aload_n hg 0 dX5_emit_13 rfl rfl ?_
    have e3 := ly_5_1 hX k_this
    refine r_getR hg dX5_emit_14 fl_X5_13 k_this rfl e3.1 ?_
    refine r_aload_n hg 0 dX5_emit_17 rfl rfl ?_
    refine r_getI hg dX5_emit_18 fl_X5_20 k_this rfl ?_
    refine r_iload_n hg 1 dX5_emit_21 rfl rfl ?_
    obtain ⟨I4, e5, h⟩ := q_b1_some h
    refine r_iast hg dX5_emit_22 e3.2 e5 ?_
    refine r_aload_n hg 0 dX5_emit_23 rfl rfl ?_
    refine r_dup hg dX5_emit_24 rfl ?_
    refine r_getI hg dX5_emit_25 fl_X5_20 k_this rfl ?_
    refine r_iconst hg dX5_emit_28 ci_1 ?_
    refine r_iadd hg dX5_emit_29 ?_
    obtain ⟨I6, e7, h⟩ := q_b1_some h
    obtain rfl := Option.some.inj e7
    refine r_putI hg dX5_emit_30 fl_X5_20 k_this rfl ⟨rfl, rfl⟩ ?_
    exact r_return hr dX5_emit_33 ⟨Nat.zero_le _, Nat.zero_le _⟩ rfl (by cases h; rfl)
  · rw [if_neg c2] at h
    exact r_return hr dX5_emit_12 ⟨Nat.zero_le _, Nat.zero_le _⟩ rfl (by cases h; rfl)

def f_X5_isDigit (x0 : Int32) : Option (Int32) :=
  if x0 < (nI 48) then
    some ((nI 0))
  else
    if (nI 57) < x0 then
      some ((nI 0))
    else
      some ((nI 1))
set_option maxRecDepth 100000 in
set_option maxHeartbeats 4000000 in
theorem s_X5_isDigit {l : Launch} {Γ : qC} (hΓ : q_gm Γ) {X : qX} (hX : q_Lay X) {x0 : Int32} {I : qI} {z : Int32} (h : f_X5_isDigit x0 = some z) : q_Sem l Γ (q_rm 2 0 0) yX5_isDigit cX5_isDigit 1 (some .boolean) [.int x0] I X (some (.int z), I, X) := by
  refine q_met (by decide) (Nat.le_of_ble_eq_true rfl) (fun g hg hr => ?_)
  unfold f_X5_isDigit at h
  show g 0 0 0 [(0, .int x0)] [] I X
  refine r_iload_n hg 0 dX5_isDigit_0 rfl rfl ?_
  refine r_bipush hg dX5_isDigit_1 cb_48 ?_
  refine r_icmp_lt hg 16 dX5_isDigit_3 (by decide) (fun c1 => ?_) (fun c1 => ?_)
  · rw [if_pos c1] at h
    refine r_iconst hg dX5_isDigit_16 ci_0 ?_
    exact r_ireturn hr dX5_isDigit_17 ⟨Nat.zero_le _, Nat.zero_le _⟩ ⟨_, rfl, bz_0.1⟩ (by cases h; rfl)
  · rw [if_neg c1] at h
    refine r_iload_n hg 0 dX5_isDigit_6 rfl rfl ?_
    refine r_bipush hg dX5_isDigit_7 cb_57 ?_
    refine r_icmp_gt hg 16 dX5_isDigit_9 (by decide) (fun c2 => ?_) (fun c2 => ?_)
    · rw [if_pos c2] at h
      refine r_iconst hg dX5_isDigit_16 ci_0 ?_
      exact r_ireturn hr dX5_isDigit_17 ⟨Nat.zero_le _, Nat.zero_le _⟩ ⟨_, rfl, bz_0.1⟩ (by cases h; rfl)
    · rw [if_neg c2] at h
      refine r_iconst hg dX5_isDigit_12 ci_1 ?_
      refine r_goto hg 17 dX5_isDigit_13 (by decide) ?_
      exact r_ireturn hr dX5_isDigit_17 ⟨Nat.zero_le _, Nat.zero_le _⟩ ⟨_, rfl, bz_1.1⟩ (by cases h; rfl)

def f_X5_isLetter (x0 : Int32) : Option (Int32) :=
  if x0 < (nI 97) then
    some ((nI 0))
  else
    if (nI 122) < x0 then
      some ((nI 0))
    else
      some ((nI 1))
set_option maxRecDepth 100000 in
set_option maxHeartbeats 4000000 in
theorem s_X5_isLetter {l : Launch} {Γ : qC} (hΓ : q_gm Γ) {X : qX} (hX : q_Lay X) {x0 : Int32} {I : qI} {z : Int32} (h : f_X5_isLetter x0 = some z) : q_Sem l Γ (q_rm 2 0 0) yX5_isLetter cX5_isLetter 1 (some .boolean) [.int x0] I X (some (.int z), I, X) := by
  refine q_met (by decide) (Nat.le_of_ble_eq_true rfl) (fun g hg hr => ?_)
  unfold f_X5_isLetter at h
  show g 0 0 0 [(0, .int x0)] [] I X
  refine r_iload_n hg 0 dX5_isLetter_0 rfl rfl ?_
  refine r_bipush hg dX5_isLetter_1 cb_97 ?_
  refine r_icmp_lt hg 16 dX5_isLetter_3 (by decide) (fun c1 => ?_) (fun c1 => ?_)
  · rw [if_pos c1] at h
    refine r_iconst hg dX5_isLetter_16 ci_0 ?_
    exact r_ireturn hr dX5_isLetter_17 ⟨Nat.zero_le _, Nat.zero_le _⟩ ⟨_, rfl, bz_0.1⟩ (by cases h; rfl)
  · rw [if_neg c1] at h
    refine r_iload_n hg 0 dX5_isLetter_6 rfl rfl ?_
    refine r_bipush hg dX5_isLetter_7 cb_122 ?_
    refine r_icmp_gt hg 16 dX5_isLetter_9 (by decide) (fun c2 => ?_) (fun c2 => ?_)
    · rw [if_pos c2] at h
      refine r_iconst hg dX5_isLetter_16 ci_0 ?_
      exact r_ireturn hr dX5_isLetter_17 ⟨Nat.zero_le _, Nat.zero_le _⟩ ⟨_, rfl, bz_0.1⟩ (by cases h; rfl)
    · rw [if_neg c2] at h
      refine r_iconst hg dX5_isLetter_12 ci_1 ?_
      refine r_goto hg 17 dX5_isLetter_13 (by decide) ?_
      exact r_ireturn hr dX5_isLetter_17 ⟨Nat.zero_le _, Nat.zero_le _⟩ ⟨_, rfl, bz_1.1⟩ (by cases h; rfl)

def f_X5_isSign (this : Nat) (x1 : Int32) (I : qI) : Option (Int32) :=
  if (I this 3) = (nI 3) then
    q_b1 (q_rd I (this + 1) 96 (I this 4)) fun v3 =>
    if v3 = x1 then
      some ((nI 1))
    else
      some ((nI 0))
  else
    some ((nI 0))
set_option maxRecDepth 100000 in
set_option maxHeartbeats 4000000 in
theorem s_X5_isSign {l : Launch} {Γ : qC} (hΓ : q_gm Γ) {X : qX} (hX : q_Lay X) {this : Nat} {x1 : Int32} (k_this : q_kd X this = some (7, 9)) {I : qI} {z : Int32} (h : f_X5_isSign this x1 I = some z) : q_Sem l Γ (q_rm 2 0 0) yX5_isSign cX5_isSign 2 (some .boolean) [.ref this, .int x1] I X (some (.int z), I, X) := by
  refine q_met (by decide) (Nat.le_of_ble_eq_true rfl) (fun g hg hr => ?_)
  unfold f_X5_isSign at h
  show g 0 0 0 [(0, .ref this), (1, .int x1)] [] I X
  refine r_aload_n hg 0 dX5_isSign_0 rfl rfl ?_
  refine r_getI hg dX5_isSign_1 fl_X5_32 k_this rfl ?_
  refine r_iconst hg dX5_isSign_4 ci_3 ?_
  refine r_icmp_ne hg 25 dX5_isSign_5 (by decide) (fun c1 => ?_) (fun c1 => ?_)
  · rw [if_neg c1] at h
    refine r_iconst hg dX5_isSign_25 ci_0 ?_
    exact r_ireturn hr dX5_isSign_26 ⟨Nat.zero_le _, Nat.zero_le _⟩ ⟨_, rfl, bz_0.1⟩ (by cases h; rfl)
  · rw [if_pos (Classical.not_not.mp c1)] at h
    refine r_aload_n hg 0 dX5_isSign_8 rfl rfl ?_
    have e2 := ly_5_0 hX k_this
    refine r_getR hg dX5_isSign_9 fl_X5_9 k_this rfl e2.1 ?_
    refine r_aload_n hg 0 dX5_isSign_12 rfl rfl ?_
    refine r_getI hg dX5_isSign_13 fl_X5_48 k_this rfl ?_
    obtain ⟨v3, e4, h⟩ := q_b1_some h
    refine r_iald hg dX5_isSign_16 e2.2 e4 ?_
    refine r_iload_n hg 1 dX5_isSign_17 rfl rfl ?_
    refine r_icmp_ne hg 25 dX5_isSign_18 (by decide) (fun c5 => ?_) (fun c5 => ?_)
    · rw [if_neg c5] at h
      refine r_iconst hg dX5_isSign_25 ci_0 ?_
      exact r_ireturn hr dX5_isSign_26 ⟨Nat.zero_le _, Nat.zero_le _⟩ ⟨_, rfl, bz_0.1⟩ (by cases h; rfl)
    · rw [if_pos (Classical.not_not.mp c5)] at h
      refine r_iconst hg dX5_isSign_21 ci_1 ?_
      refine r_goto hg 26 dX5_isSign_22 (by decide) ?_
      exact r_ireturn hr dX5_isSign_26 ⟨Nat.zero_le _, Nat.zero_le _⟩ ⟨_, rfl, bz_1.1⟩ (by cases h; rfl)

def b_X5_number_7 (this : Nat) (I : qI) (k7 : Int32 → Int32 → Option (Int32)) (x1 : Int32) (x2 : Int32) : Option (Int32) :=
  if (I this 5) ≤ x2 then
    some (x1)
  else
    q_b1 (q_rd I (this + 1) 96 x2) fun v3 =>
    k7 (((x1 * (nI 10)) + v3) - (nI 48)) (x2 + (nI 1))
set_option maxRecDepth 100000 in
set_option maxHeartbeats 4000000 in
theorem p_X5_number_7 {l : Launch} {Γ : qC} {g : qG} {z : Int32} {this : Nat} {X : qX} {I : qI} (hΓ : q_gm Γ) (hg : q_Ok l Γ RX5 cX5_number 3 (q_rm 2 0 0) "number" (some .int) g) (hr : q_Rt cX5_number (some .int) (q_rm 2 0 0) (some (.int z), I, X) g) (hX : q_Lay X) (k_this : q_kd X this = some (7, 9)) {k7 : Int32 → Int32 → Option (Int32)} (hk7 : ∀ (x1 : Int32) (x2 : Int32), k7 x1 x2 = some z → g 0 0 7 [(0, .ref this), (1, .int x1), (2, .int x2)] [] I X) (x1 : Int32) (x2 : Int32) (h : b_X5_number_7 this I k7 x1 x2 = some z) : g 0 0 7 [(0, .ref this), (1, .int x1), (2, .int x2)] [] I X := by
  unfold b_X5_number_7 at h
  refine r_iload_n hg 2 dX5_number_7 rfl rfl ?_
  refine r_aload_n hg 0 dX5_number_8 rfl rfl ?_
  refine r_getI hg dX5_number_9 fl_X5_35 k_this rfl ?_
  refine r_icmp_ge hg 36 dX5_number_12 (by decide) (fun c1 => ?_) (fun c1 => ?_)
  · rw [if_pos c1] at h
    refine r_iload_n hg 1 dX5_number_36 rfl rfl ?_
    exact r_ireturn hr dX5_number_37 ⟨Nat.zero_le _, Nat.zero_le _⟩ ⟨_, rfl, rfl⟩ (by cases h; rfl)
  · rw [if_neg c1] at h
    refine r_iload_n hg 1 dX5_number_15 rfl rfl ?_
    refine r_bipush hg dX5_number_16 cb_10 ?_
    refine r_imul hg dX5_number_18 ?_
    refine r_aload_n hg 0 dX5_number_19 rfl rfl ?_
    have e2 := ly_5_0 hX k_this
    refine r_getR hg dX5_number_20 fl_X5_9 k_this rfl e2.1 ?_
    refine r_iload_n hg 2 dX5_number_23 rfl rfl ?_
    obtain ⟨v3, e4, h⟩ := q_b1_some h
    refine r_iald hg dX5_number_24 e2.2 e4 ?_
    refine r_iadd hg dX5_number_25 ?_
    refine r_bipush hg dX5_number_26 cb_48 ?_
    refine r_isub hg dX5_number_28 ?_
    refine r_istore_n hg (L' := [(1, .int (((x1 * (nI 10)) + v3) - (nI 48))), (0, .ref this), (2, .int x2)]) dX5_number_29 rfl (by decide) rfl ?_
    refine r_iinc hg 2 (v := (x2 + (nI 1))) (L' := [(2, .int (x2 + (nI 1))), (1, .int (((x1 * (nI 10)) + v3) - (nI 48))), (0, .ref this)]) dX5_number_30 rfl (by rw [ci_1]) (by decide) rfl ?_
    refine r_goto hg 7 dX5_number_33 (by decide) ?_
    refine r_sub hg [2, 1, 0] rfl ?_
    exact hk7 _ _ h
theorem pl_X5_number_7 {l : Launch} {Γ : qC} {g : qG} {z : Int32} {this : Nat} {X : qX} {I : qI} (hΓ : q_gm Γ) (hg : q_Ok l Γ RX5 cX5_number 3 (q_rm 2 0 0) "number" (some .int) g) (hr : q_Rt cX5_number (some .int) (q_rm 2 0 0) (some (.int z), I, X) g) (hX : q_Lay X) (k_this : q_kd X this = some (7, 9)) : ∀ (n : Nat) (x1 : Int32) (x2 : Int32), q_fix (fun _ _ => none) (b_X5_number_7 this I) n x1 x2 = some z → g 0 0 7 [(0, .ref this), (1, .int x1), (2, .int x2)] [] I X := by
  intro n
  induction n with
  | zero =>
    intro x1 x2 h
    cases (show (none : Option (Int32)) = some z from h)
  | succ n ih =>
    intro x1 x2 h
    exact p_X5_number_7 hΓ hg hr hX k_this ih _ _ h
def f_X5_number (this : Nat) (I : qI) : Option (Int32) :=
  q_fix (fun _ _ => none) (b_X5_number_7 this I) q_fu (nI 0) (I this 4)
set_option maxRecDepth 100000 in
set_option maxHeartbeats 4000000 in
theorem s_X5_number {l : Launch} {Γ : qC} (hΓ : q_gm Γ) {X : qX} (hX : q_Lay X) {this : Nat} (k_this : q_kd X this = some (7, 9)) {I : qI} {z : Int32} (h : f_X5_number this I = some z) : q_Sem l Γ (q_rm 2 0 0) yX5_number cX5_number 3 (some .int) [.ref this] I X (some (.int z), I, X) := by
  refine q_met (by decide) (Nat.le_of_ble_eq_true rfl) (fun g hg hr => ?_)
  unfold f_X5_number at h
  show g 0 0 0 [(0, .ref this)] [] I X
  refine r_iconst hg dX5_number_0 ci_0 ?_
  refine r_istore_n hg (L' := [(1, .int (nI 0)), (0, .ref this)]) dX5_number_1 rfl (by decide) rfl ?_
  refine r_aload_n hg 1 dX5_number_2 rfl rfl ?_
  refine r_getI hg dX5_number_3 fl_X5_48 k_this rfl ?_
  refine r_istore_n hg (L' := [(2, .int (I this 4)), (1, .int (nI 0)), (0, .ref this)]) dX5_number_6 rfl (by decide) rfl ?_
  refine r_sub hg [2, 1, 0] rfl ?_
  exact pl_X5_number_7 hΓ hg hr hX k_this _ _ _ h

def b_X5_put_3 (this : Nat) (x1 : Int32) (k3 : Int32 → qI → Option (qI)) (x2 : Int32) (I : qI) : Option (qI) :=
  if x2 < 0 then
    some (I)
  else
    if (I this 6) < (nI 96) then
      q_b1 (q_wr I (this + 1) 96 (I this 6) ((x1 >>> (x2 &&& 31)) &&& (nI 255))) fun I4 =>
      q_b1 (some (q_up I4 this 6 ((I4 this 6) + (nI 1)))) fun I6 =>
      k3 (x2 + (-8)) I6
    else
      some (I)
set_option maxRecDepth 100000 in
set_option maxHeartbeats 4000000 in
theorem p_X5_put_3 {l : Launch} {Γ : qC} {g : qG} {z : qI} {this : Nat} {x1 : Int32} {X : qX} (hΓ : q_gm Γ) (hg : q_Ok l Γ RX5 cX5_put 3 (q_rm 2 0 0) "put" none g) (hr : q_Rt cX5_put none (q_rm 2 0 0) (none, z, X) g) (hX : q_Lay X) (k_this : q_kd X this = some (7, 9)) {k3 : Int32 → qI → Option (qI)} (hk3 : ∀ (x2 : Int32) (I : qI), k3 x2 I = some z → g 0 0 3 [(0, .ref this), (1, .int x1), (2, .int x2)] [] I X) (x2 : Int32) (I : qI) (h : b_X5_put_3 this x1 k3 x2 I = some z) : g 0 0 3 [(0, .ref this), (1, .int x1), (2, .int x2)] [] I X := by
  unfold b_X5_put_3 at h
  refine r_iload_n hg 2 dX5_put_3 rfl rfl ?_
  refine r_if_lt hg 49 dX5_put_4 (by decide) (fun c1 => ?_) (fun c1 => ?_)
  · rw [if_pos c1] at h
    exact r_return hr dX5_put_49 ⟨Nat.zero_le _, Nat.zero_le _⟩ rfl (by cases h; rfl)
  · rw [if_neg c1] at h
    refine r_aload_n hg 0 dX5_put_7 rfl rfl ?_
    refine r_getI hg dX5_put_8 fl_X5_16 k_this rfl ?_
    refine r_bipush hg dX5_put_11 cb_96 ?_
    refine r_icmp_lt hg 17 dX5_put_13 (by decide) (fun c2 => ?_) (fun c2 => ?_)
    · rw [if_pos c2] at h
      refine r_aload_n hg 0 dX5_put_17 rfl rfl ?_
      have e3 := ly_5_0 hX k_this
      refine r_getR hg dX5_put_18 fl_X5_9 k_this rfl e3.1 ?_
      refine r_aload_n hg 0 dX5_put_21 rfl rfl ?_
      refine r_getI hg dX5_put_22 fl_X5_16 k_this rfl ?_
      refine r_iload_n hg 1 dX5_put_25 rfl rfl ?_
      refine r_iload_n hg 2 dX5_put_26 rfl rfl ?_
      refine r_ishr hg dX5_put_27 ?_
      refine r_sipush hg dX5_put_28 cs_255 ?_
      refine r_iand hg dX5_put_31 ?_
      obtain ⟨I4, e5, h⟩ := q_b1_some h
      refine r_iast hg dX5_put_32 e3.2 e5 ?_
      refine r_aload_n hg 0 dX5_put_33 rfl rfl ?_
      refine r_dup hg dX5_put_34 rfl ?_
      refine r_getI hg dX5_put_35 fl_X5_16 k_this rfl ?_
      refine r_iconst hg dX5_put_38 ci_1 ?_
      refine r_iadd hg dX5_put_39 ?_
      obtain ⟨I6, e7, h⟩ := q_b1_some h
      obtain rfl := Option.some.inj e7
      refine r_putI hg dX5_put_40 fl_X5_16 k_this rfl ⟨rfl, rfl⟩ ?_
      refine r_iinc hg 2 (v := (x2 + (-8))) (L' := [(2, .int (x2 + (-8))), (0, .ref this), (1, .int x1)]) dX5_put_43 rfl (by rw [ci_m8]) (by decide) rfl ?_
      refine r_goto hg 3 dX5_put_46 (by decide) ?_
      refine r_sub hg [1, 2, 0] rfl ?_
      exact hk3 _ _ h
    · rw [if_neg c2] at h
      exact r_return hr dX5_put_16 ⟨Nat.zero_le _, Nat.zero_le _⟩ rfl (by cases h; rfl)
theorem pl_X5_put_3 {l : Launch} {Γ : qC} {g : qG} {z : qI} {this : Nat} {x1 : Int32} {X : qX} (hΓ : q_gm Γ) (hg : q_Ok l Γ RX5 cX5_put 3 (q_rm 2 0 0) "put" none g) (hr : q_Rt cX5_put none (q_rm 2 0 0) (none, z, X) g) (hX : q_Lay X) (k_this : q_kd X this = some (7, 9)) : ∀ (n : Nat) (x2 : Int32) (I : qI), q_fix (fun _ _ => none) (b_X5_put_3 this x1) n x2 I = some z → g 0 0 3 [(0, .ref this), (1, .int x1), (2, .int x2)] [] I X := by
  intro n
  induction n with
  | zero =>
    intro x2 I h
    cases (show (none : Option (qI)) = some z from h)
  | succ n ih =>
    intro x2 I h
    exact p_X5_put_3 hΓ hg hr hX k_this ih _ _ h
def f_X5_put (this : Nat) (x1 : Int32) (I : qI) : Option (qI) :=
  q_fix (fun _ _ => none) (b_X5_put_3 this x1) q_fu (nI 24) I
set_option maxRecDepth 100000 in
set_option maxHeartbeats 4000000 in
theorem s_X5_put {l : Launch} {Γ : qC} (hΓ : q_gm Γ) {X : qX} (hX : q_Lay X) {this : Nat} {x1 : Int32} (k_this : q_kd X this = some (7, 9)) {I : qI} {z : qI} (h : f_X5_put this x1 I = some z) : q_Sem l Γ (q_rm 2 0 0) yX5_put cX5_put 3 none [.ref this, .int x1] I X (none, z, X) := by
  refine q_met (by decide) (Nat.le_of_ble_eq_true rfl) (fun g hg hr => ?_)
  unfold f_X5_put at h
  show g 0 0 0 [(0, .ref this), (1, .int x1)] [] I X
  refine r_bipush hg dX5_put_0 cb_24 ?_
  refine r_istore_n hg (L' := [(2, .int (nI 24)), (0, .ref this), (1, .int x1)]) dX5_put_2 rfl (by decide) rfl ?_
  refine r_sub hg [1, 2, 0] rfl ?_
  exact pl_X5_put_3 hΓ hg hr hX k_this _ _ _ h

def f_X6_added (this : Nat) (x1 : Int32) (x2 : Int32) (x3 : Int32) (I : qI) : Option (Int32 × qI) :=
  if (I this 8) < (nI 16) then
    q_b1 (q_wr I (this + 1) 16 (I this 8) x1) fun I3 =>
    q_b1 (q_wr I3 (this + 2) 16 (I3 this 8) x2) fun I6 =>
    q_b1 (q_wr I6 (this + 3) 16 (I6 this 8) x3) fun I9 =>
    q_b1 (some (q_up I9 this 8 ((I9 this 8) + (nI 1)))) fun I11 =>
    some (((I11 this 8) - (nI 1)), I11)
  else
    some ((-1000000003), I)
set_option maxRecDepth 100000 in
set_option maxHeartbeats 4000000 in
theorem s_X6_added {l : Launch} {Γ : qC} (hΓ : q_gm Γ) {X : qX} (hX : q_Lay X) {this : Nat} {x1 : Int32} {x2 : Int32} {x3 : Int32} (k_this : q_kd X this = some (8, 9)) {I : qI} {z : Int32 × qI} (h : f_X6_added this x1 x2 x3 I = some z) : q_Sem l Γ (q_rm 2 0 0) yX6_added cX6_added 4 (some .int) [.ref this, .int x1, .int x2, .int x3] I X (some (.int z.1), z.2, X) := by
  refine q_met (by decide) (Nat.le_of_ble_eq_true rfl) (fun g hg hr => ?_)
  unfold f_X6_added at h
  show g 0 0 0 [(0, .ref this), (1, .int x1), (2, .int x2), (3, .int x3)] [] I X
  refine r_aload_n hg 0 dX6_added_0 rfl rfl ?_
  refine r_getI hg dX6_added_1 fl_X6_33 k_this rfl ?_
  refine r_bipush hg dX6_added_4 cb_16 ?_
  refine r_icmp_lt hg 12 dX6_added_6 (by decide) (fun c1 => ?_) (fun c1 => ?_)
  · rw [if_pos c1] at h
    refine r_aload_n hg 0 dX6_added_12 rfl rfl ?_
    have e2 := ly_6_0 hX k_this
    refine r_getR hg dX6_added_13 fl_X6_11 k_this rfl e2.1 ?_
    refine r_aload_n hg 0 dX6_added_16 rfl rfl ?_
    refine r_getI hg dX6_added_17 fl_X6_33 k_this rfl ?_
    refine r_iload_n hg 1 dX6_added_20 rfl rfl ?_
    obtain ⟨I3, e4, h⟩ := q_b1_some h
    refine r_iast hg dX6_added_21 e2.2 e4 ?_
    refine r_aload_n hg 0 dX6_added_22 rfl rfl ?_
    have e5 := ly_6_1 hX k_this
    refine r_getR hg dX6_added_23 fl_X6_15 k_this rfl e5.1 ?_
    refine r_aload_n hg 0 dX6_added_26 rfl rfl ?_
    refine r_getI hg dX6_added_27 fl_X6_33 k_this rfl ?_
    refine r_iload_n hg 2 dX6_added_30 rfl rfl ?_
    obtain ⟨I6, e7, h⟩ := q_b1_some h
    refine r_iast hg dX6_added_31 e5.2 e7 ?_
    refine r_aload_n hg 0 dX6_added_32 rfl rfl ?_
    have e8 := ly_6_2 hX k_this
    refine r_getR hg dX6_added_33 fl_X6_18 k_this rfl e8.1 ?_
    refine r_aload_n hg 0 dX6_added_36 rfl rfl ?_
    refine r_getI hg dX6_added_37 fl_X6_33 k_this rfl ?_
    refine r_iload_n hg 3 dX6_added_40 rfl rfl ?_
    obtain ⟨I9, e10, h⟩ := q_b1_some h
    refine r_iast hg dX6_added_41 e8.2 e10 ?_
    refine r_aload_n hg 0 dX6_added_42 rfl rfl ?_
    refine r_dup hg dX6_added_43 rfl ?_
    refine r_getI hg dX6_added_44 fl_X6_33 k_this rfl ?_
    refine r_iconst hg dX6_added_47 ci_1 ?_
    refine r_iadd hg dX6_added_48 ?_
    obtain ⟨I11, e12, h⟩ := q_b1_some h
    obtain rfl := Option.some.inj e12
    refine r_putI hg dX6_added_49 fl_X6_33 k_this rfl ⟨rfl, rfl⟩ ?_
    refine r_aload_n hg 0 dX6_added_52 rfl rfl ?_
    refine r_getI hg dX6_added_53 fl_X6_33 k_this rfl ?_
    refine r_iconst hg dX6_added_56 ci_1 ?_
    refine r_isub hg dX6_added_57 ?_
    exact r_ireturn hr dX6_added_58 ⟨Nat.zero_le _, Nat.zero_le _⟩ ⟨_, rfl, rfl⟩ (by cases h; rfl)
  · rw [if_neg c1] at h
    refine r_ldc hg dX6_added_9 kc_X6_37 ?_
    exact r_ireturn hr dX6_added_11 ⟨Nat.zero_le _, Nat.zero_le _⟩ ⟨_, rfl, rfl⟩ (by cases h; rfl)

def f_X6_become (this : Nat) (x1 : Nat) (I : qI) : Option (qI) :=
  q_b1 (q_cp I (x1 + 1) 16 (nI 0) (this + 1) 16 (nI 0) (nI 16)) fun I3 =>
  q_b1 (q_cp I3 (x1 + 2) 16 (nI 0) (this + 2) 16 (nI 0) (nI 16)) fun I12 =>
  q_b1 (q_cp I12 (x1 + 3) 16 (nI 0) (this + 3) 16 (nI 0) (nI 16)) fun I21 =>
  q_b1 (some (q_up I21 this 8 (I21 x1 8))) fun I28 =>
  some (I28)
set_option maxRecDepth 100000 in
set_option maxHeartbeats 4000000 in
theorem s_X6_become {l : Launch} {Γ : qC} (hΓ : q_gm Γ) {X : qX} (hX : q_Lay X) {this : Nat} {x1 : Nat} (k_this : q_kd X this = some (8, 9)) (k_x1 : q_kd X x1 = some (8, 9)) {I : qI} {z : qI} (h : f_X6_become this x1 I = some z) : q_Sem l Γ (q_rm 2 0 0) yX6_become cX6_become 2 none [.ref this, .ref x1] I X (none, z, X) := by
  refine q_met (by decide) (Nat.le_of_ble_eq_true rfl) (fun g hg hr => ?_)
  unfold f_X6_become at h
  show g 0 0 0 [(0, .ref this), (1, .ref x1)] [] I X
  refine r_aload_n hg 1 dX6_become_0 rfl rfl ?_
  have e1 := ly_6_0 hX k_x1
  refine r_getR hg dX6_become_1 fl_X6_11 k_x1 rfl e1.1 ?_
  refine r_iconst hg dX6_become_4 ci_0 ?_
  refine r_aload_n hg 0 dX6_become_5 rfl rfl ?_
  have e2 := ly_6_0 hX k_this
  refine r_getR hg dX6_become_6 fl_X6_11 k_this rfl e2.1 ?_
  refine r_iconst hg dX6_become_9 ci_0 ?_
  refine r_bipush hg dX6_become_10 cb_16 ?_
  obtain ⟨I3, e4, h⟩ := q_b1_some h
  obtain ⟨⟨e5, e6, e7⟩, e8, e9, rfl⟩ := q_cp_some e4
  refine r_copy hg dX6_become_12 cp_X6_38 e1.2 e2.2 e5 e6 e7 e8 e9 ⟨Nat.le_of_ble_eq_true rfl, Nat.le_of_ble_eq_true rfl⟩ ?_
  refine r_aload_n hg 1 dX6_become_15 rfl rfl ?_
  have e10 := ly_6_1 hX k_x1
  refine r_getR hg dX6_become_16 fl_X6_15 k_x1 rfl e10.1 ?_
  refine r_iconst hg dX6_become_19 ci_0 ?_
  refine r_aload_n hg 0 dX6_become_20 rfl rfl ?_
  have e11 := ly_6_1 hX k_this
  refine r_getR hg dX6_become_21 fl_X6_15 k_this rfl e11.1 ?_
  refine r_iconst hg dX6_become_24 ci_0 ?_
  refine r_bipush hg dX6_become_25 cb_16 ?_
  obtain ⟨I12, e13, h⟩ := q_b1_some h
  obtain ⟨⟨e14, e15, e16⟩, e17, e18, rfl⟩ := q_cp_some e13
  refine r_copy hg dX6_become_27 cp_X6_38 e10.2 e11.2 e14 e15 e16 e17 e18 ⟨Nat.le_of_ble_eq_true rfl, Nat.le_of_ble_eq_true rfl⟩ ?_
  refine r_aload_n hg 1 dX6_become_30 rfl rfl ?_
  have e19 := ly_6_2 hX k_x1
  refine r_getR hg dX6_become_31 fl_X6_18 k_x1 rfl e19.1 ?_
  refine r_iconst hg dX6_become_34 ci_0 ?_
  refine r_aload_n hg 0 dX6_become_35 rfl rfl ?_
  have e20 := ly_6_2 hX k_this
  refine r_getR hg dX6_become_36 fl_X6_18 k_this rfl e20.1 ?_
  refine r_iconst hg dX6_become_39 ci_0 ?_
  refine r_bipush hg dX6_become_40 cb_16 ?_
  obtain ⟨I21, e22, h⟩ := q_b1_some h
  obtain ⟨⟨e23, e24, e25⟩, e26, e27, rfl⟩ := q_cp_some e22
  refine r_copy hg dX6_become_42 cp_X6_38 e19.2 e20.2 e23 e24 e25 e26 e27 ⟨Nat.le_of_ble_eq_true rfl, Nat.le_of_ble_eq_true rfl⟩ ?_
  refine r_aload_n hg 0 dX6_become_45 rfl rfl ?_
  refine r_aload_n hg 1 dX6_become_46 rfl rfl ?_
  refine r_getI hg dX6_become_47 fl_X6_33 k_x1 rfl ?_
  obtain ⟨I28, e29, h⟩ := q_b1_some h
  obtain rfl := Option.some.inj e29
  refine r_putI hg dX6_become_50 fl_X6_33 k_this rfl ⟨rfl, rfl⟩ ?_
  exact r_return hr dX6_become_53 ⟨Nat.zero_le _, Nat.zero_le _⟩ rfl (by cases h; rfl)

def b_X7_counting_62 (this : Nat) (x1 : Int32) (x2 : Int32) (I : qI) (k5 : Int32 → Int32 → Option (Int32)) (x3 : Int32) (x4 : Int32) : Option (Int32) :=
  k5 x3 (x4 + (nI 1))
set_option maxRecDepth 100000 in
set_option maxHeartbeats 4000000 in
theorem p_X7_counting_62 {l : Launch} {Γ : qC} {g : qG} {z : Int32} {this : Nat} {x1 : Int32} {x2 : Int32} {X : qX} {I : qI} (hΓ : q_gm Γ) (hg : q_Ok l Γ RX7 cX7_counting 5 (q_rm 2 0 0) "counting" (some .int) g) (hr : q_Rt cX7_counting (some .int) (q_rm 2 0 0) (some (.int z), I, X) g) (hX : q_Lay X) (k_this : q_kd X this = some (9, 6)) {k5 : Int32 → Int32 → Option (Int32)} (hk5 : ∀ (x3 : Int32) (x4 : Int32), k5 x3 x4 = some z → g 0 0 5 [(0, .ref this), (1, .int x1), (2, .int x2), (3, .int x3), (4, .int x4)] [] I X) (x3 : Int32) (x4 : Int32) (h : b_X7_counting_62 this x1 x2 I k5 x3 x4 = some z) : g 0 0 62 [(0, .ref this), (1, .int x1), (2, .int x2), (3, .int x3), (4, .int x4)] [] I X := by
  unfold b_X7_counting_62 at h
  refine r_iinc hg 4 (v := (x4 + (nI 1))) (L' := [(4, .int (x4 + (nI 1))), (0, .ref this), (1, .int x1), (2, .int x2), (3, .int x3)]) dX7_counting_62 rfl (by rw [ci_1]) (by decide) rfl ?_
  refine r_goto hg 5 dX7_counting_65 (by decide) ?_
  refine r_sub hg [1, 2, 3, 4, 0] rfl ?_
  exact hk5 _ _ h
def b_X7_counting_59 (this : Nat) (x1 : Int32) (x2 : Int32) (I : qI) (k5 : Int32 → Int32 → Option (Int32)) (x4 : Int32) : Option (Int32) :=
  b_X7_counting_62 this x1 x2 I k5 x4 x4
set_option maxRecDepth 100000 in
set_option maxHeartbeats 4000000 in
theorem p_X7_counting_59 {l : Launch} {Γ : qC} {g : qG} {z : Int32} {this : Nat} {x1 : Int32} {x2 : Int32} {X : qX} {I : qI} (hΓ : q_gm Γ) (hg : q_Ok l Γ RX7 cX7_counting 5 (q_rm 2 0 0) "counting" (some .int) g) (hr : q_Rt cX7_counting (some .int) (q_rm 2 0 0) (some (.int z), I, X) g) (hX : q_Lay X) (k_this : q_kd X this = some (9, 6)) {k5 : Int32 → Int32 → Option (Int32)} (hk5 : ∀ (x3 : Int32) (x4 : Int32), k5 x3 x4 = some z → g 0 0 5 [(0, .ref this), (1, .int x1), (2, .int x2), (3, .int x3), (4, .int x4)] [] I X) (x4 : Int32) (h : b_X7_counting_59 this x1 x2 I k5 x4 = some z) : g 0 0 59 [(0, .ref this), (1, .int x1), (2, .int x2), (4, .int x4)] [] I X := by
  unfold b_X7_counting_59 at h
  refine r_iload hg 3 dX7_counting_59 rfl ?_
  refine r_istore_n hg (L' := [(3, .int x4), (0, .ref this), (1, .int x1), (2, .int x2), (4, .int x4)]) dX7_counting_61 rfl (by decide) rfl ?_
  refine r_sub hg [1, 2, 3, 0, 4] rfl ?_
  exact p_X7_counting_62 hΓ hg hr hX k_this hk5 _ _ h
def b_X7_counting_5 (this : Nat) (x1 : Int32) (x2 : Int32) (I : qI) (k5 : Int32 → Int32 → Option (Int32)) (x3 : Int32) (x4 : Int32) : Option (Int32) :=
  if (I this 5) ≤ x4 then
    some (x3)
  else
    q_b1 (q_rd I (this + 1) 12 x4) fun v3 =>
    if v3 = x1 then
      q_b1 (q_rd I (this + 2) 12 x4) fun v7 =>
      if v7 ≤ x2 then
        if x3 < 0 then
          b_X7_counting_59 this x1 x2 I k5 x4
        else
          q_b1 (q_rd I (this + 2) 12 x4) fun v12 =>
          q_b1 (q_rd I (this + 2) 12 x3) fun v15 =>
          if v12 < v15 then
            b_X7_counting_62 this x1 x2 I k5 x3 x4
          else
            b_X7_counting_59 this x1 x2 I k5 x4
      else
        b_X7_counting_62 this x1 x2 I k5 x3 x4
    else
      b_X7_counting_62 this x1 x2 I k5 x3 x4
set_option maxRecDepth 100000 in
set_option maxHeartbeats 4000000 in
theorem p_X7_counting_5 {l : Launch} {Γ : qC} {g : qG} {z : Int32} {this : Nat} {x1 : Int32} {x2 : Int32} {X : qX} {I : qI} (hΓ : q_gm Γ) (hg : q_Ok l Γ RX7 cX7_counting 5 (q_rm 2 0 0) "counting" (some .int) g) (hr : q_Rt cX7_counting (some .int) (q_rm 2 0 0) (some (.int z), I, X) g) (hX : q_Lay X) (k_this : q_kd X this = some (9, 6)) {k5 : Int32 → Int32 → Option (Int32)} (hk5 : ∀ (x3 : Int32) (x4 : Int32), k5 x3 x4 = some z → g 0 0 5 [(0, .ref this), (1, .int x1), (2, .int x2), (3, .int x3), (4, .int x4)] [] I X) (x3 : Int32) (x4 : Int32) (h : b_X7_counting_5 this x1 x2 I k5 x3 x4 = some z) : g 0 0 5 [(0, .ref this), (1, .int x1), (2, .int x2), (3, .int x3), (4, .int x4)] [] I X := by
  unfold b_X7_counting_5 at h
  refine r_iload hg 4 dX7_counting_5 rfl ?_
  refine r_aload_n hg 0 dX7_counting_7 rfl rfl ?_
  refine r_getI hg dX7_counting_8 fl_X7_31 k_this rfl ?_
  refine r_icmp_ge hg 68 dX7_counting_11 (by decide) (fun c1 => ?_) (fun c1 => ?_)
  · rw [if_pos c1] at h
    refine r_iload_n hg 3 dX7_counting_68 rfl rfl ?_
    exact r_ireturn hr dX7_counting_69 ⟨Nat.zero_le _, Nat.zero_le _⟩ ⟨_, rfl, rfl⟩ (by cases h; rfl)
  · rw [if_neg c1] at h
    refine r_aload_n hg 0 dX7_counting_14 rfl rfl ?_
    have e2 := ly_7_0 hX k_this
    refine r_getR hg dX7_counting_15 fl_X7_11 k_this rfl e2.1 ?_
    refine r_iload hg 4 dX7_counting_18 rfl ?_
    obtain ⟨v3, e4, h⟩ := q_b1_some h
    refine r_iald hg dX7_counting_20 e2.2 e4 ?_
    refine r_iload_n hg 1 dX7_counting_21 rfl rfl ?_
    refine r_icmp_ne hg 62 dX7_counting_22 (by decide) (fun c5 => ?_) (fun c5 => ?_)
    · rw [if_neg c5] at h
      exact p_X7_counting_62 hΓ hg hr hX k_this hk5 _ _ h
    · rw [if_pos (Classical.not_not.mp c5)] at h
      refine r_aload_n hg 0 dX7_counting_25 rfl rfl ?_
      have e6 := ly_7_1 hX k_this
      refine r_getR hg dX7_counting_26 fl_X7_15 k_this rfl e6.1 ?_
      refine r_iload hg 4 dX7_counting_29 rfl ?_
      obtain ⟨v7, e8, h⟩ := q_b1_some h
      refine r_iald hg dX7_counting_31 e6.2 e8 ?_
      refine r_iload_n hg 2 dX7_counting_32 rfl rfl ?_
      refine r_icmp_le hg 39 dX7_counting_33 (by decide) (fun c9 => ?_) (fun c9 => ?_)
      · rw [if_pos c9] at h
        refine r_iload_n hg 3 dX7_counting_39 rfl rfl ?_
        refine r_if_lt hg 59 dX7_counting_40 (by decide) (fun c10 => ?_) (fun c10 => ?_)
        · rw [if_pos c10] at h
          refine r_sub hg [0, 1, 2, 4] rfl ?_
          exact p_X7_counting_59 hΓ hg hr hX k_this hk5 _ h
        · rw [if_neg c10] at h
          refine r_aload_n hg 0 dX7_counting_43 rfl rfl ?_
          have e11 := ly_7_1 hX k_this
          refine r_getR hg dX7_counting_44 fl_X7_15 k_this rfl e11.1 ?_
          refine r_iload hg 4 dX7_counting_47 rfl ?_
          obtain ⟨v12, e13, h⟩ := q_b1_some h
          refine r_iald hg dX7_counting_49 e11.2 e13 ?_
          refine r_aload_n hg 0 dX7_counting_50 rfl rfl ?_
          have e14 := ly_7_1 hX k_this
          refine r_getR hg dX7_counting_51 fl_X7_15 k_this rfl e14.1 ?_
          refine r_iload_n hg 3 dX7_counting_54 rfl rfl ?_
          obtain ⟨v15, e16, h⟩ := q_b1_some h
          refine r_iald hg dX7_counting_55 e14.2 e16 ?_
          refine r_icmp_lt hg 62 dX7_counting_56 (by decide) (fun c17 => ?_) (fun c17 => ?_)
          · rw [if_pos c17] at h
            exact p_X7_counting_62 hΓ hg hr hX k_this hk5 _ _ h
          · rw [if_neg c17] at h
            refine r_sub hg [0, 1, 2, 4] rfl ?_
            exact p_X7_counting_59 hΓ hg hr hX k_this hk5 _ h
      · rw [if_neg c9] at h
        refine r_goto hg 62 dX7_counting_36 (by decide) ?_
        exact p_X7_counting_62 hΓ hg hr hX k_this hk5 _ _ h
theorem pl_X7_counting_5 {l : Launch} {Γ : qC} {g : qG} {z : Int32} {this : Nat} {x1 : Int32} {x2 : Int32} {X : qX} {I : qI} (hΓ : q_gm Γ) (hg : q_Ok l Γ RX7 cX7_counting 5 (q_rm 2 0 0) "counting" (some .int) g) (hr : q_Rt cX7_counting (some .int) (q_rm 2 0 0) (some (.int z), I, X) g) (hX : q_Lay X) (k_this : q_kd X this = some (9, 6)) : ∀ (n : Nat) (x3 : Int32) (x4 : Int32), q_fix (fun _ _ => none) (b_X7_counting_5 this x1 x2 I) n x3 x4 = some z → g 0 0 5 [(0, .ref this), (1, .int x1), (2, .int x2), (3, .int x3), (4, .int x4)] [] I X := by
  intro n
  induction n with
  | zero =>
    intro x3 x4 h
    cases (show (none : Option (Int32)) = some z from h)
  | succ n ih =>
    intro x3 x4 h
    exact p_X7_counting_5 hΓ hg hr hX k_this ih _ _ h
def f_X7_counting (this : Nat) (x1 : Int32) (x2 : Int32) (I : qI) : Option (Int32) :=
  q_fix (fun _ _ => none) (b_X7_counting_5 this x1 x2 I) q_fu (-1) (nI 0)
set_option maxRecDepth 100000 in
set_option maxHeartbeats 4000000 in
theorem s_X7_counting {l : Launch} {Γ : qC} (hΓ : q_gm Γ) {X : qX} (hX : q_Lay X) {this : Nat} {x1 : Int32} {x2 : Int32} (k_this : q_kd X this = some (9, 6)) {I : qI} {z : Int32} (h : f_X7_counting this x1 x2 I = some z) : q_Sem l Γ (q_rm 2 0 0) yX7_counting cX7_counting 5 (some .int) [.ref this, .int x1, .int x2] I X (some (.int z), I, X) := by
  refine q_met (by decide) (Nat.le_of_ble_eq_true rfl) (fun g hg hr => ?_)
  unfold f_X7_counting at h
  show g 0 0 0 [(0, .ref this), (1, .int x1), (2, .int x2)] [] I X
  refine r_iconst hg dX7_counting_0 ci_m1 ?_
  refine r_istore_n hg (L' := [(3, .int (-1)), (0, .ref this), (1, .int x1), (2, .int x2)]) dX7_counting_1 rfl (by decide) rfl ?_
  refine r_iconst hg dX7_counting_2 ci_0 ?_
  refine r_istore hg (L' := [(4, .int (nI 0)), (3, .int (-1)), (0, .ref this), (1, .int x1), (2, .int x2)]) dX7_counting_3 (by decide) rfl ?_
  refine r_sub hg [2, 3, 4, 1, 0] rfl ?_
  exact pl_X7_counting_5 hΓ hg hr hX k_this _ _ _ h

def f_X7_has (this : Nat) (x1 : Int32) (I : qI) : Option (Int32) :=
  if x1 < 0 then
    some ((nI 0))
  else
    if (I this 5) ≤ x1 then
      some ((nI 0))
    else
      some ((nI 1))
set_option maxRecDepth 100000 in
set_option maxHeartbeats 4000000 in
theorem s_X7_has {l : Launch} {Γ : qC} (hΓ : q_gm Γ) {X : qX} (hX : q_Lay X) {this : Nat} {x1 : Int32} (k_this : q_kd X this = some (9, 6)) {I : qI} {z : Int32} (h : f_X7_has this x1 I = some z) : q_Sem l Γ (q_rm 2 0 0) yX7_has cX7_has 2 (some .boolean) [.ref this, .int x1] I X (some (.int z), I, X) := by
  refine q_met (by decide) (Nat.le_of_ble_eq_true rfl) (fun g hg hr => ?_)
  unfold f_X7_has at h
  show g 0 0 0 [(0, .ref this), (1, .int x1)] [] I X
  refine r_iload_n hg 1 dX7_has_0 rfl rfl ?_
  refine r_if_lt hg 16 dX7_has_1 (by decide) (fun c1 => ?_) (fun c1 => ?_)
  · rw [if_pos c1] at h
    refine r_iconst hg dX7_has_16 ci_0 ?_
    exact r_ireturn hr dX7_has_17 ⟨Nat.zero_le _, Nat.zero_le _⟩ ⟨_, rfl, bz_0.1⟩ (by cases h; rfl)
  · rw [if_neg c1] at h
    refine r_iload_n hg 1 dX7_has_4 rfl rfl ?_
    refine r_aload_n hg 0 dX7_has_5 rfl rfl ?_
    refine r_getI hg dX7_has_6 fl_X7_31 k_this rfl ?_
    refine r_icmp_ge hg 16 dX7_has_9 (by decide) (fun c2 => ?_) (fun c2 => ?_)
    · rw [if_pos c2] at h
      refine r_iconst hg dX7_has_16 ci_0 ?_
      exact r_ireturn hr dX7_has_17 ⟨Nat.zero_le _, Nat.zero_le _⟩ ⟨_, rfl, bz_0.1⟩ (by cases h; rfl)
    · rw [if_neg c2] at h
      refine r_iconst hg dX7_has_12 ci_1 ?_
      refine r_goto hg 17 dX7_has_13 (by decide) ?_
      exact r_ireturn hr dX7_has_17 ⟨Nat.zero_le _, Nat.zero_le _⟩ ⟨_, rfl, bz_1.1⟩ (by cases h; rfl)

def f_X7_joined (x0 : Int32) (x1 : Int32) (x2 : Int32) : Option (Int32) :=
  if x0 = (nI 38) then
    if x1 = 0 then
      some ((nI 0))
    else
      if x2 = 0 then
        some ((nI 0))
      else
        some ((nI 1))
  else
  if x0 = (nI 42) then
    some ((x1 * x2))
  else
  if x0 = (nI 43) then
    some ((x1 + x2))
  else
  if x0 = (nI 45) then
    some ((x1 - x2))
  else
  if x0 = (nI 60) then
    if x2 ≤ x1 then
      some ((nI 0))
    else
      some ((nI 1))
  else
  if x0 = (nI 61) then
    if x1 = x2 then
      some ((nI 1))
    else
      some ((nI 0))
  else
  if x0 = (nI 62) then
    if x1 ≤ x2 then
      some ((nI 0))
    else
      some ((nI 1))
  else
  if x0 = (nI 124) then
    if x1 = 0 then
      if x2 = 0 then
        some ((nI 0))
      else
        some ((nI 1))
    else
      some ((nI 1))
  else
  if x2 = 0 then
    some ((nI 0))
  else
    if x2 = 0 then none else
    some ((x1 / x2))
set_option maxRecDepth 100000 in
set_option maxHeartbeats 4000000 in
theorem s_X7_joined {l : Launch} {Γ : qC} (hΓ : q_gm Γ) {X : qX} (hX : q_Lay X) {x0 : Int32} {x1 : Int32} {x2 : Int32} {I : qI} {z : Int32} (h : f_X7_joined x0 x1 x2 = some z) : q_Sem l Γ (q_rm 2 0 0) yX7_joined cX7_joined 3 (some .int) [.int x0, .int x1, .int x2] I X (some (.int z), I, X) := by
  refine q_met (by decide) (Nat.le_of_ble_eq_true rfl) (fun g hg hr => ?_)
  unfold f_X7_joined at h
  show g 0 0 0 [(0, .int x0), (1, .int x1), (2, .int x2)] [] I X
  refine r_iload_n hg 0 dX7_joined_0 rfl rfl ?_
  by_cases c1 : x0 = (nI 38)
  · rw [if_pos c1] at h
    refine r_lookup hg 90 dX7_joined_1 (by decide +kernel) (by rw [c1] <;> decide +kernel) (by decide) ?_
    refine r_iload_n hg 1 dX7_joined_90 rfl rfl ?_
    refine r_if_eq hg 102 dX7_joined_91 (by decide) (fun c2 => ?_) (fun c2 => ?_)
    · rw [if_pos c2] at h
      refine r_iconst hg dX7_joined_102 ci_0 ?_
      exact r_ireturn hr dX7_joined_103 ⟨Nat.zero_le _, Nat.zero_le _⟩ ⟨_, rfl, rfl⟩ (by cases h; rfl)
    · rw [if_neg c2] at h
      refine r_iload_n hg 2 dX7_joined_94 rfl rfl ?_
      refine r_if_eq hg 102 dX7_joined_95 (by decide) (fun c3 => ?_) (fun c3 => ?_)
      · rw [if_pos c3] at h
        refine r_iconst hg dX7_joined_102 ci_0 ?_
        exact r_ireturn hr dX7_joined_103 ⟨Nat.zero_le _, Nat.zero_le _⟩ ⟨_, rfl, rfl⟩ (by cases h; rfl)
      · rw [if_neg c3] at h
        refine r_iconst hg dX7_joined_98 ci_1 ?_
        refine r_goto hg 103 dX7_joined_99 (by decide) ?_
        exact r_ireturn hr dX7_joined_103 ⟨Nat.zero_le _, Nat.zero_le _⟩ ⟨_, rfl, rfl⟩ (by cases h; rfl)
  rw [if_neg c1] at h
  by_cases c4 : x0 = (nI 42)
  · rw [if_pos c4] at h
    refine r_lookup hg 145 dX7_joined_1 (by decide +kernel) (by rw [c4] <;> decide +kernel) (by decide) ?_
    refine r_iload_n hg 1 dX7_joined_145 rfl rfl ?_
    refine r_iload_n hg 2 dX7_joined_146 rfl rfl ?_
    refine r_imul hg dX7_joined_147 ?_
    exact r_ireturn hr dX7_joined_148 ⟨Nat.zero_le _, Nat.zero_le _⟩ ⟨_, rfl, rfl⟩ (by cases h; rfl)
  rw [if_neg c4] at h
  by_cases c5 : x0 = (nI 43)
  · rw [if_pos c5] at h
    refine r_lookup hg 137 dX7_joined_1 (by decide +kernel) (by rw [c5] <;> decide +kernel) (by decide) ?_
    refine r_iload_n hg 1 dX7_joined_137 rfl rfl ?_
    refine r_iload_n hg 2 dX7_joined_138 rfl rfl ?_
    refine r_iadd hg dX7_joined_139 ?_
    exact r_ireturn hr dX7_joined_140 ⟨Nat.zero_le _, Nat.zero_le _⟩ ⟨_, rfl, rfl⟩ (by cases h; rfl)
  rw [if_neg c5] at h
  by_cases c6 : x0 = (nI 45)
  · rw [if_pos c6] at h
    refine r_lookup hg 141 dX7_joined_1 (by decide +kernel) (by rw [c6] <;> decide +kernel) (by decide) ?_
    refine r_iload_n hg 1 dX7_joined_141 rfl rfl ?_
    refine r_iload_n hg 2 dX7_joined_142 rfl rfl ?_
    refine r_isub hg dX7_joined_143 ?_
    exact r_ireturn hr dX7_joined_144 ⟨Nat.zero_le _, Nat.zero_le _⟩ ⟨_, rfl, rfl⟩ (by cases h; rfl)
  rw [if_neg c6] at h
  by_cases c7 : x0 = (nI 60)
  · rw [if_pos c7] at h
    refine r_lookup hg 104 dX7_joined_1 (by decide +kernel) (by rw [c7] <;> decide +kernel) (by decide) ?_
    refine r_iload_n hg 1 dX7_joined_104 rfl rfl ?_
    refine r_iload_n hg 2 dX7_joined_105 rfl rfl ?_
    refine r_icmp_ge hg 113 dX7_joined_106 (by decide) (fun c8 => ?_) (fun c8 => ?_)
    · rw [if_pos c8] at h
      refine r_iconst hg dX7_joined_113 ci_0 ?_
      exact r_ireturn hr dX7_joined_114 ⟨Nat.zero_le _, Nat.zero_le _⟩ ⟨_, rfl, rfl⟩ (by cases h; rfl)
    · rw [if_neg c8] at h
      refine r_iconst hg dX7_joined_109 ci_1 ?_
      refine r_goto hg 114 dX7_joined_110 (by decide) ?_
      exact r_ireturn hr dX7_joined_114 ⟨Nat.zero_le _, Nat.zero_le _⟩ ⟨_, rfl, rfl⟩ (by cases h; rfl)
  rw [if_neg c7] at h
  by_cases c9 : x0 = (nI 61)
  · rw [if_pos c9] at h
    refine r_lookup hg 115 dX7_joined_1 (by decide +kernel) (by rw [c9] <;> decide +kernel) (by decide) ?_
    refine r_iload_n hg 1 dX7_joined_115 rfl rfl ?_
    refine r_iload_n hg 2 dX7_joined_116 rfl rfl ?_
    refine r_icmp_ne hg 124 dX7_joined_117 (by decide) (fun c10 => ?_) (fun c10 => ?_)
    · rw [if_neg c10] at h
      refine r_iconst hg dX7_joined_124 ci_0 ?_
      exact r_ireturn hr dX7_joined_125 ⟨Nat.zero_le _, Nat.zero_le _⟩ ⟨_, rfl, rfl⟩ (by cases h; rfl)
    · rw [if_pos (Classical.not_not.mp c10)] at h
      refine r_iconst hg dX7_joined_120 ci_1 ?_
      refine r_goto hg 125 dX7_joined_121 (by decide) ?_
      exact r_ireturn hr dX7_joined_125 ⟨Nat.zero_le _, Nat.zero_le _⟩ ⟨_, rfl, rfl⟩ (by cases h; rfl)
  rw [if_neg c9] at h
  by_cases c11 : x0 = (nI 62)
  · rw [if_pos c11] at h
    refine r_lookup hg 126 dX7_joined_1 (by decide +kernel) (by rw [c11] <;> decide +kernel) (by decide) ?_
    refine r_iload_n hg 1 dX7_joined_126 rfl rfl ?_
    refine r_iload_n hg 2 dX7_joined_127 rfl rfl ?_
    refine r_icmp_le hg 135 dX7_joined_128 (by decide) (fun c12 => ?_) (fun c12 => ?_)
    · rw [if_pos c12] at h
      refine r_iconst hg dX7_joined_135 ci_0 ?_
      exact r_ireturn hr dX7_joined_136 ⟨Nat.zero_le _, Nat.zero_le _⟩ ⟨_, rfl, rfl⟩ (by cases h; rfl)
    · rw [if_neg c12] at h
      refine r_iconst hg dX7_joined_131 ci_1 ?_
      refine r_goto hg 136 dX7_joined_132 (by decide) ?_
      exact r_ireturn hr dX7_joined_136 ⟨Nat.zero_le _, Nat.zero_le _⟩ ⟨_, rfl, rfl⟩ (by cases h; rfl)
  rw [if_neg c11] at h
  by_cases c13 : x0 = (nI 124)
  · rw [if_pos c13] at h
    refine r_lookup hg 76 dX7_joined_1 (by decide +kernel) (by rw [c13] <;> decide +kernel) (by decide) ?_
    refine r_iload_n hg 1 dX7_joined_76 rfl rfl ?_
    refine r_if_ne hg 84 dX7_joined_77 (by decide) (fun c14 => ?_) (fun c14 => ?_)
    · rw [if_neg c14] at h
      refine r_iconst hg dX7_joined_84 ci_1 ?_
      refine r_goto hg 89 dX7_joined_85 (by decide) ?_
      exact r_ireturn hr dX7_joined_89 ⟨Nat.zero_le _, Nat.zero_le _⟩ ⟨_, rfl, rfl⟩ (by cases h; rfl)
    · rw [if_pos (Classical.not_not.mp c14)] at h
      refine r_iload_n hg 2 dX7_joined_80 rfl rfl ?_
      refine r_if_eq hg 88 dX7_joined_81 (by decide) (fun c15 => ?_) (fun c15 => ?_)
      · rw [if_pos c15] at h
        refine r_iconst hg dX7_joined_88 ci_0 ?_
        exact r_ireturn hr dX7_joined_89 ⟨Nat.zero_le _, Nat.zero_le _⟩ ⟨_, rfl, rfl⟩ (by cases h; rfl)
      · rw [if_neg c15] at h
        refine r_iconst hg dX7_joined_84 ci_1 ?_
        refine r_goto hg 89 dX7_joined_85 (by decide) ?_
        exact r_ireturn hr dX7_joined_89 ⟨Nat.zero_le _, Nat.zero_le _⟩ ⟨_, rfl, rfl⟩ (by cases h; rfl)
  rw [if_neg c13] at h
  refine r_lookup hg 149 dX7_joined_1 (by decide +kernel) (off := 148) ?_ (by decide) ?_
  · show Op.lookupswitch.offset [(38, 89), (42, 144), (43, 136), (45, 140), (60, 103), (61, 114), (62, 125), (124, 75)] 148 _ = _
    rw [lv_osw c1 (by decide +kernel), lv_osw c4 (by decide +kernel), lv_osw c5 (by decide +kernel), lv_osw c6 (by decide +kernel), lv_osw c7 (by decide +kernel), lv_osw c9 (by decide +kernel), lv_osw c11 (by decide +kernel), lv_osw c13 (by decide +kernel)]
    rfl
  refine r_iload_n hg 2 dX7_joined_149 rfl rfl ?_
  refine r_if_ne hg 157 dX7_joined_150 (by decide) (fun c16 => ?_) (fun c16 => ?_)
  · rw [if_neg c16] at h
    refine r_iload_n hg 1 dX7_joined_157 rfl rfl ?_
    refine r_iload_n hg 2 dX7_joined_158 rfl rfl ?_
    by_cases c17 : x2 = 0
    · rw [if_pos c17] at h; cases h
    rw [if_neg c17] at h
    refine r_idiv hg dX7_joined_159 c17 ?_
    exact r_ireturn hr dX7_joined_160 ⟨Nat.zero_le _, Nat.zero_le _⟩ ⟨_, rfl, rfl⟩ (by cases h; rfl)
  · rw [if_pos (Classical.not_not.mp c16)] at h
    refine r_iconst hg dX7_joined_153 ci_0 ?_
    refine r_goto hg 160 dX7_joined_154 (by decide) ?_
    exact r_ireturn hr dX7_joined_160 ⟨Nat.zero_le _, Nat.zero_le _⟩ ⟨_, rfl, rfl⟩ (by cases h; rfl)

def f_X7_named (x0 : Int32) (x1 : Int32) (x2 : Int32) (x3 : Int32) : Option (Int32) :=
  if x0 = 0 then
    some (x1)
  else
    if x0 = (nI 1) then
      some (x2)
    else
      some (x3)
set_option maxRecDepth 100000 in
set_option maxHeartbeats 4000000 in
theorem s_X7_named {l : Launch} {Γ : qC} (hΓ : q_gm Γ) {X : qX} (hX : q_Lay X) {x0 : Int32} {x1 : Int32} {x2 : Int32} {x3 : Int32} {I : qI} {z : Int32} (h : f_X7_named x0 x1 x2 x3 = some z) : q_Sem l Γ (q_rm 2 0 0) yX7_named cX7_named 4 (some .int) [.int x0, .int x1, .int x2, .int x3] I X (some (.int z), I, X) := by
  refine q_met (by decide) (Nat.le_of_ble_eq_true rfl) (fun g hg hr => ?_)
  unfold f_X7_named at h
  show g 0 0 0 [(0, .int x0), (1, .int x1), (2, .int x2), (3, .int x3)] [] I X
  refine r_iload_n hg 0 dX7_named_0 rfl rfl ?_
  refine r_if_ne hg 6 dX7_named_1 (by decide) (fun c1 => ?_) (fun c1 => ?_)
  · rw [if_neg c1] at h
    refine r_iload_n hg 0 dX7_named_6 rfl rfl ?_
    refine r_iconst hg dX7_named_7 ci_1 ?_
    refine r_icmp_ne hg 15 dX7_named_8 (by decide) (fun c2 => ?_) (fun c2 => ?_)
    · rw [if_neg c2] at h
      refine r_iload_n hg 3 dX7_named_15 rfl rfl ?_
      exact r_ireturn hr dX7_named_16 ⟨Nat.zero_le _, Nat.zero_le _⟩ ⟨_, rfl, rfl⟩ (by cases h; rfl)
    · rw [if_pos (Classical.not_not.mp c2)] at h
      refine r_iload_n hg 2 dX7_named_11 rfl rfl ?_
      refine r_goto hg 16 dX7_named_12 (by decide) ?_
      exact r_ireturn hr dX7_named_16 ⟨Nat.zero_le _, Nat.zero_le _⟩ ⟨_, rfl, rfl⟩ (by cases h; rfl)
  · rw [if_pos (Classical.not_not.mp c1)] at h
    refine r_iload_n hg 1 dX7_named_4 rfl rfl ?_
    exact r_ireturn hr dX7_named_5 ⟨Nat.zero_le _, Nat.zero_le _⟩ ⟨_, rfl, rfl⟩ (by cases h; rfl)

def f_X7_row (this : Nat) (x1 : Int32) : Option (Option Nat) :=
  if x1 = (nI 0) then
    some ((some (this + 1)))
  else
  if x1 = (nI 1) then
    some ((some (this + 2)))
  else
  if x1 = (nI 2) then
    some ((some (this + 3)))
  else
  some (none)
set_option maxRecDepth 100000 in
set_option maxHeartbeats 4000000 in
theorem s_X7_row {l : Launch} {Γ : qC} (hΓ : q_gm Γ) {X : qX} (hX : q_Lay X) {this : Nat} {x1 : Int32} (k_this : q_kd X this = some (9, 6)) {I : qI} {z : Option Nat} (h : f_X7_row this x1 = some z) : q_Sem l Γ (q_rm 2 0 0) yX7_row cX7_row 2 (some (.array .int)) [.ref this, .int x1] I X (some (va_rf z), I, X) := by
  refine q_met (by decide) (Nat.le_of_ble_eq_true rfl) (fun g hg hr => ?_)
  unfold f_X7_row at h
  show g 0 0 0 [(0, .ref this), (1, .int x1)] [] I X
  refine r_iload_n hg 1 dX7_row_0 rfl rfl ?_
  by_cases c1 : x1 = (nI 0)
  · rw [if_pos c1] at h
    refine r_tab hg 28 dX7_row_1 rfl (by rw [c1] <;> decide +kernel) (by decide) ?_
    refine r_aload_n hg 0 dX7_row_28 rfl rfl ?_
    have e2 := ly_7_0 hX k_this
    refine r_getR hg dX7_row_29 fl_X7_11 k_this rfl e2.1 ?_
    exact r_areturn hr (r := (some (this + 1))) dX7_row_32 ⟨Nat.zero_le _, Nat.zero_le _⟩ ⟨_, rfl, Or.inr ⟨_, rfl⟩⟩ (by cases h; rfl)
  rw [if_neg c1] at h
  by_cases c3 : x1 = (nI 1)
  · rw [if_pos c3] at h
    refine r_tab hg 33 dX7_row_1 rfl (by rw [c3] <;> decide +kernel) (by decide) ?_
    refine r_aload_n hg 0 dX7_row_33 rfl rfl ?_
    have e4 := ly_7_1 hX k_this
    refine r_getR hg dX7_row_34 fl_X7_15 k_this rfl e4.1 ?_
    exact r_areturn hr (r := (some (this + 2))) dX7_row_37 ⟨Nat.zero_le _, Nat.zero_le _⟩ ⟨_, rfl, Or.inr ⟨_, rfl⟩⟩ (by cases h; rfl)
  rw [if_neg c3] at h
  by_cases c5 : x1 = (nI 2)
  · rw [if_pos c5] at h
    refine r_tab hg 38 dX7_row_1 rfl (by rw [c5] <;> decide +kernel) (by decide) ?_
    refine r_aload_n hg 0 dX7_row_38 rfl rfl ?_
    have e6 := ly_7_2 hX k_this
    refine r_getR hg dX7_row_39 fl_X7_18 k_this rfl e6.1 ?_
    exact r_areturn hr (r := (some (this + 3))) dX7_row_42 ⟨Nat.zero_le _, Nat.zero_le _⟩ ⟨_, rfl, Or.inr ⟨_, rfl⟩⟩ (by cases h; rfl)
  rw [if_neg c5] at h
  refine r_tab hg 43 dX7_row_1 rfl (q_tab_d (fun k hk ho => ?_)) (by decide) ?_
  · have hk : k < 3 := hk
    rcases (show k = 0 ∨ k = 1 ∨ k = 2 by omega) with rfl | rfl | rfl
    · exact lv_neT c1 (by decide +kernel)
    · exact lv_neT c3 (by decide +kernel)
    · exact lv_neT c5 (by decide +kernel)
  refine r_null hg dX7_row_43 ?_
  exact r_areturn hr (r := none) dX7_row_44 ⟨Nat.zero_le _, Nat.zero_le _⟩ ⟨_, rfl, Or.inr ⟨_, rfl⟩⟩ (by cases h; rfl)

def f_X7_unwritten (x0 : Int32) (x1 : Int32) : Option (Int32) :=
  if x0 = (nI 0) then
    some (x1)
  else
  if x0 = (nI 1) then
    some ((nI 9999))
  else
  if x0 = (nI 3) then
    some ((nI 100))
  else
  if x0 = (nI 6) then
    some ((nI 0))
  else
  some ((nI 1))
set_option maxRecDepth 100000 in
set_option maxHeartbeats 4000000 in
theorem s_X7_unwritten {l : Launch} {Γ : qC} (hΓ : q_gm Γ) {X : qX} (hX : q_Lay X) {x0 : Int32} {x1 : Int32} {I : qI} {z : Int32} (h : f_X7_unwritten x0 x1 = some z) : q_Sem l Γ (q_rm 2 0 0) yX7_unwritten cX7_unwritten 2 (some .int) [.int x0, .int x1] I X (some (.int z), I, X) := by
  refine q_met (by decide) (Nat.le_of_ble_eq_true rfl) (fun g hg hr => ?_)
  unfold f_X7_unwritten at h
  show g 0 0 0 [(0, .int x0), (1, .int x1)] [] I X
  refine r_iload_n hg 0 dX7_unwritten_0 rfl rfl ?_
  by_cases c1 : x0 = (nI 0)
  · rw [if_pos c1] at h
    refine r_tab hg 44 dX7_unwritten_1 rfl (by rw [c1] <;> decide +kernel) (by decide) ?_
    refine r_iload_n hg 1 dX7_unwritten_44 rfl rfl ?_
    exact r_ireturn hr dX7_unwritten_45 ⟨Nat.zero_le _, Nat.zero_le _⟩ ⟨_, rfl, rfl⟩ (by cases h; rfl)
  rw [if_neg c1] at h
  by_cases c2 : x0 = (nI 1)
  · rw [if_pos c2] at h
    refine r_tab hg 46 dX7_unwritten_1 rfl (by rw [c2] <;> decide +kernel) (by decide) ?_
    refine r_sipush hg dX7_unwritten_46 cs_9999 ?_
    exact r_ireturn hr dX7_unwritten_49 ⟨Nat.zero_le _, Nat.zero_le _⟩ ⟨_, rfl, rfl⟩ (by cases h; rfl)
  rw [if_neg c2] at h
  by_cases c3 : x0 = (nI 3)
  · rw [if_pos c3] at h
    refine r_tab hg 50 dX7_unwritten_1 rfl (by rw [c3] <;> decide +kernel) (by decide) ?_
    refine r_bipush hg dX7_unwritten_50 cb_100 ?_
    exact r_ireturn hr dX7_unwritten_52 ⟨Nat.zero_le _, Nat.zero_le _⟩ ⟨_, rfl, rfl⟩ (by cases h; rfl)
  rw [if_neg c3] at h
  by_cases c4 : x0 = (nI 6)
  · rw [if_pos c4] at h
    refine r_tab hg 53 dX7_unwritten_1 rfl (by rw [c4] <;> decide +kernel) (by decide) ?_
    refine r_iconst hg dX7_unwritten_53 ci_0 ?_
    exact r_ireturn hr dX7_unwritten_54 ⟨Nat.zero_le _, Nat.zero_le _⟩ ⟨_, rfl, rfl⟩ (by cases h; rfl)
  rw [if_neg c4] at h
  refine r_tab hg 55 dX7_unwritten_1 rfl (q_tab_d (fun k hk ho => ?_)) (by decide) ?_
  · have hk : k < 7 := hk
    rcases (show k = 0 ∨ k = 1 ∨ k = 2 ∨ k = 3 ∨ k = 4 ∨ k = 5 ∨ k = 6 by omega) with rfl | rfl | rfl | rfl | rfl | rfl | rfl
    · exact lv_neT c1 (by decide +kernel)
    · exact lv_neT c2 (by decide +kernel)
    · exact absurd rfl ho
    · exact lv_neT c3 (by decide +kernel)
    · exact absurd rfl ho
    · exact absurd rfl ho
    · exact lv_neT c4 (by decide +kernel)
  refine r_iconst hg dX7_unwritten_55 ci_1 ?_
  exact r_ireturn hr dX7_unwritten_56 ⟨Nat.zero_le _, Nat.zero_le _⟩ ⟨_, rfl, rfl⟩ (by cases h; rfl)

def f_X8_added (this : Nat) (x1 : Int32) (x2 : Int32) (x3 : Int32) (x4 : Int32) (I : qI) : Option (Int32 × qI) :=
  if (I this 4) < (nI 6) then
    q_b1 (q_wr I (this + 1) 6 (I this 4) x1) fun I3 =>
    q_b1 (q_wr I3 (this + 2) 6 (I3 this 4) x2) fun I6 =>
    q_b1 (q_wr I6 (this + 3) 6 (I6 this 4) x3) fun I9 =>
    q_b1 (q_wr I9 (this + 4) 6 (I9 this 4) x4) fun I12 =>
    q_b1 (some (q_up I12 this 4 ((I12 this 4) + (nI 1)))) fun I14 =>
    some (((I14 this 4) - (nI 1)), I14)
  else
    some ((-1000000003), I)
set_option maxRecDepth 100000 in
set_option maxHeartbeats 4000000 in
theorem s_X8_added {l : Launch} {Γ : qC} (hΓ : q_gm Γ) {X : qX} (hX : q_Lay X) {this : Nat} {x1 : Int32} {x2 : Int32} {x3 : Int32} {x4 : Int32} (k_this : q_kd X this = some (10, 5)) {I : qI} {z : Int32 × qI} (h : f_X8_added this x1 x2 x3 x4 I = some z) : q_Sem l Γ (q_rm 2 0 0) yX8_added cX8_added 5 (some .int) [.ref this, .int x1, .int x2, .int x3, .int x4] I X (some (.int z.1), z.2, X) := by
  refine q_met (by decide) (Nat.le_of_ble_eq_true rfl) (fun g hg hr => ?_)
  unfold f_X8_added at h
  show g 0 0 0 [(0, .ref this), (1, .int x1), (2, .int x2), (3, .int x3), (4, .int x4)] [] I X
  refine r_aload_n hg 0 dX8_added_0 rfl rfl ?_
  refine r_getI hg dX8_added_1 fl_X8_24 k_this rfl ?_
  refine r_bipush hg dX8_added_4 cb_6 ?_
  refine r_icmp_lt hg 12 dX8_added_6 (by decide) (fun c1 => ?_) (fun c1 => ?_)
  · rw [if_pos c1] at h
    refine r_aload_n hg 0 dX8_added_12 rfl rfl ?_
    have e2 := ly_8_0 hX k_this
    refine r_getR hg dX8_added_13 fl_X8_11 k_this rfl e2.1 ?_
    refine r_aload_n hg 0 dX8_added_16 rfl rfl ?_
    refine r_getI hg dX8_added_17 fl_X8_24 k_this rfl ?_
    refine r_iload_n hg 1 dX8_added_20 rfl rfl ?_
    obtain ⟨I3, e4, h⟩ := q_b1_some h
    refine r_iast hg dX8_added_21 e2.2 e4 ?_
    refine r_aload_n hg 0 dX8_added_22 rfl rfl ?_
    have e5 := ly_8_1 hX k_this
    refine r_getR hg dX8_added_23 fl_X8_15 k_this rfl e5.1 ?_
    refine r_aload_n hg 0 dX8_added_26 rfl rfl ?_
    refine r_getI hg dX8_added_27 fl_X8_24 k_this rfl ?_
    refine r_iload_n hg 2 dX8_added_30 rfl rfl ?_
    obtain ⟨I6, e7, h⟩ := q_b1_some h
    refine r_iast hg dX8_added_31 e5.2 e7 ?_
    refine r_aload_n hg 0 dX8_added_32 rfl rfl ?_
    have e8 := ly_8_2 hX k_this
    refine r_getR hg dX8_added_33 fl_X8_18 k_this rfl e8.1 ?_
    refine r_aload_n hg 0 dX8_added_36 rfl rfl ?_
    refine r_getI hg dX8_added_37 fl_X8_24 k_this rfl ?_
    refine r_iload_n hg 3 dX8_added_40 rfl rfl ?_
    obtain ⟨I9, e10, h⟩ := q_b1_some h
    refine r_iast hg dX8_added_41 e8.2 e10 ?_
    refine r_aload_n hg 0 dX8_added_42 rfl rfl ?_
    have e11 := ly_8_3 hX k_this
    refine r_getR hg dX8_added_43 fl_X8_21 k_this rfl e11.1 ?_
    refine r_aload_n hg 0 dX8_added_46 rfl rfl ?_
    refine r_getI hg dX8_added_47 fl_X8_24 k_this rfl ?_
    refine r_iload hg 4 dX8_added_50 rfl ?_
    obtain ⟨I12, e13, h⟩ := q_b1_some h
    refine r_iast hg dX8_added_52 e11.2 e13 ?_
    refine r_aload_n hg 0 dX8_added_53 rfl rfl ?_
    refine r_dup hg dX8_added_54 rfl ?_
    refine r_getI hg dX8_added_55 fl_X8_24 k_this rfl ?_
    refine r_iconst hg dX8_added_58 ci_1 ?_
    refine r_iadd hg dX8_added_59 ?_
    obtain ⟨I14, e15, h⟩ := q_b1_some h
    obtain rfl := Option.some.inj e15
    refine r_putI hg dX8_added_60 fl_X8_24 k_this rfl ⟨rfl, rfl⟩ ?_
    refine r_aload_n hg 0 dX8_added_63 rfl rfl ?_
    refine r_getI hg dX8_added_64 fl_X8_24 k_this rfl ?_
    refine r_iconst hg dX8_added_67 ci_1 ?_
    refine r_isub hg dX8_added_68 ?_
    exact r_ireturn hr dX8_added_69 ⟨Nat.zero_le _, Nat.zero_le _⟩ ⟨_, rfl, rfl⟩ (by cases h; rfl)
  · rw [if_neg c1] at h
    refine r_ldc hg dX8_added_9 kc_X8_28 ?_
    exact r_ireturn hr dX8_added_11 ⟨Nat.zero_le _, Nat.zero_le _⟩ ⟨_, rfl, rfl⟩ (by cases h; rfl)

def f_X8_become (this : Nat) (x1 : Nat) (I : qI) : Option (qI) :=
  q_b1 (q_cp I (x1 + 1) 6 (nI 0) (this + 1) 6 (nI 0) (nI 6)) fun I3 =>
  q_b1 (q_cp I3 (x1 + 2) 6 (nI 0) (this + 2) 6 (nI 0) (nI 6)) fun I12 =>
  q_b1 (q_cp I12 (x1 + 3) 6 (nI 0) (this + 3) 6 (nI 0) (nI 6)) fun I21 =>
  q_b1 (q_cp I21 (x1 + 4) 6 (nI 0) (this + 4) 6 (nI 0) (nI 6)) fun I30 =>
  q_b1 (some (q_up I30 this 4 (I30 x1 4))) fun I37 =>
  some (I37)
set_option maxRecDepth 100000 in
set_option maxHeartbeats 4000000 in
theorem s_X8_become {l : Launch} {Γ : qC} (hΓ : q_gm Γ) {X : qX} (hX : q_Lay X) {this : Nat} {x1 : Nat} (k_this : q_kd X this = some (10, 5)) (k_x1 : q_kd X x1 = some (10, 5)) {I : qI} {z : qI} (h : f_X8_become this x1 I = some z) : q_Sem l Γ (q_rm 2 0 0) yX8_become cX8_become 2 none [.ref this, .ref x1] I X (none, z, X) := by
  refine q_met (by decide) (Nat.le_of_ble_eq_true rfl) (fun g hg hr => ?_)
  unfold f_X8_become at h
  show g 0 0 0 [(0, .ref this), (1, .ref x1)] [] I X
  refine r_aload_n hg 1 dX8_become_0 rfl rfl ?_
  have e1 := ly_8_0 hX k_x1
  refine r_getR hg dX8_become_1 fl_X8_11 k_x1 rfl e1.1 ?_
  refine r_iconst hg dX8_become_4 ci_0 ?_
  refine r_aload_n hg 0 dX8_become_5 rfl rfl ?_
  have e2 := ly_8_0 hX k_this
  refine r_getR hg dX8_become_6 fl_X8_11 k_this rfl e2.1 ?_
  refine r_iconst hg dX8_become_9 ci_0 ?_
  refine r_bipush hg dX8_become_10 cb_6 ?_
  obtain ⟨I3, e4, h⟩ := q_b1_some h
  obtain ⟨⟨e5, e6, e7⟩, e8, e9, rfl⟩ := q_cp_some e4
  refine r_copy hg dX8_become_12 cp_X8_29 e1.2 e2.2 e5 e6 e7 e8 e9 ⟨Nat.le_of_ble_eq_true rfl, Nat.le_of_ble_eq_true rfl⟩ ?_
  refine r_aload_n hg 1 dX8_become_15 rfl rfl ?_
  have e10 := ly_8_1 hX k_x1
  refine r_getR hg dX8_become_16 fl_X8_15 k_x1 rfl e10.1 ?_
  refine r_iconst hg dX8_become_19 ci_0 ?_
  refine r_aload_n hg 0 dX8_become_20 rfl rfl ?_
  have e11 := ly_8_1 hX k_this
  refine r_getR hg dX8_become_21 fl_X8_15 k_this rfl e11.1 ?_
  refine r_iconst hg dX8_become_24 ci_0 ?_
  refine r_bipush hg dX8_become_25 cb_6 ?_
  obtain ⟨I12, e13, h⟩ := q_b1_some h
  obtain ⟨⟨e14, e15, e16⟩, e17, e18, rfl⟩ := q_cp_some e13
  refine r_copy hg dX8_become_27 cp_X8_29 e10.2 e11.2 e14 e15 e16 e17 e18 ⟨Nat.le_of_ble_eq_true rfl, Nat.le_of_ble_eq_true rfl⟩ ?_
  refine r_aload_n hg 1 dX8_become_30 rfl rfl ?_
  have e19 := ly_8_2 hX k_x1
  refine r_getR hg dX8_become_31 fl_X8_18 k_x1 rfl e19.1 ?_
  refine r_iconst hg dX8_become_34 ci_0 ?_
  refine r_aload_n hg 0 dX8_become_35 rfl rfl ?_
  have e20 := ly_8_2 hX k_this
  refine r_getR hg dX8_become_36 fl_X8_18 k_this rfl e20.1 ?_
  refine r_iconst hg dX8_become_39 ci_0 ?_
  refine r_bipush hg dX8_become_40 cb_6 ?_
  obtain ⟨I21, e22, h⟩ := q_b1_some h
  obtain ⟨⟨e23, e24, e25⟩, e26, e27, rfl⟩ := q_cp_some e22
  refine r_copy hg dX8_become_42 cp_X8_29 e19.2 e20.2 e23 e24 e25 e26 e27 ⟨Nat.le_of_ble_eq_true rfl, Nat.le_of_ble_eq_true rfl⟩ ?_
  refine r_aload_n hg 1 dX8_become_45 rfl rfl ?_
  have e28 := ly_8_3 hX k_x1
  refine r_getR hg dX8_become_46 fl_X8_21 k_x1 rfl e28.1 ?_
  refine r_iconst hg dX8_become_49 ci_0 ?_
  refine r_aload_n hg 0 dX8_become_50 rfl rfl ?_
  have e29 := ly_8_3 hX k_this
  refine r_getR hg dX8_become_51 fl_X8_21 k_this rfl e29.1 ?_
  refine r_iconst hg dX8_become_54 ci_0 ?_
  refine r_bipush hg dX8_become_55 cb_6 ?_
  obtain ⟨I30, e31, h⟩ := q_b1_some h
  obtain ⟨⟨e32, e33, e34⟩, e35, e36, rfl⟩ := q_cp_some e31
  refine r_copy hg dX8_become_57 cp_X8_29 e28.2 e29.2 e32 e33 e34 e35 e36 ⟨Nat.le_of_ble_eq_true rfl, Nat.le_of_ble_eq_true rfl⟩ ?_
  refine r_aload_n hg 0 dX8_become_60 rfl rfl ?_
  refine r_aload_n hg 1 dX8_become_61 rfl rfl ?_
  refine r_getI hg dX8_become_62 fl_X8_24 k_x1 rfl ?_
  obtain ⟨I37, e38, h⟩ := q_b1_some h
  obtain rfl := Option.some.inj e38
  refine r_putI hg dX8_become_65 fl_X8_24 k_this rfl ⟨rfl, rfl⟩ ?_
  exact r_return hr dX8_become_68 ⟨Nat.zero_le _, Nat.zero_le _⟩ rfl (by cases h; rfl)

def b_X8_firstCompany_2 (this : Nat) (I : qI) (k2 : Int32 → Option (Int32)) (x1 : Int32) : Option (Int32) :=
  if (I this 4) ≤ x1 then
    some ((-1))
  else
    q_b1 (q_rd I (this + 1) 6 x1) fun v3 =>
    if v3 = 0 then
      some (x1)
    else
      k2 (x1 + (nI 1))
set_option maxRecDepth 100000 in
set_option maxHeartbeats 4000000 in
theorem p_X8_firstCompany_2 {l : Launch} {Γ : qC} {g : qG} {z : Int32} {this : Nat} {X : qX} {I : qI} (hΓ : q_gm Γ) (hg : q_Ok l Γ RX8 cX8_firstCompany 2 (q_rm 2 0 0) "firstCompany" (some .int) g) (hr : q_Rt cX8_firstCompany (some .int) (q_rm 2 0 0) (some (.int z), I, X) g) (hX : q_Lay X) (k_this : q_kd X this = some (10, 5)) {k2 : Int32 → Option (Int32)} (hk2 : ∀ (x1 : Int32), k2 x1 = some z → g 0 0 2 [(0, .ref this), (1, .int x1)] [] I X) (x1 : Int32) (h : b_X8_firstCompany_2 this I k2 x1 = some z) : g 0 0 2 [(0, .ref this), (1, .int x1)] [] I X := by
  unfold b_X8_firstCompany_2 at h
  refine r_iload_n hg 1 dX8_firstCompany_2 rfl rfl ?_
  refine r_aload_n hg 0 dX8_firstCompany_3 rfl rfl ?_
  refine r_getI hg dX8_firstCompany_4 fl_X8_24 k_this rfl ?_
  refine r_icmp_ge hg 27 dX8_firstCompany_7 (by decide) (fun c1 => ?_) (fun c1 => ?_)
  · rw [if_pos c1] at h
    refine r_iconst hg dX8_firstCompany_27 ci_m1 ?_
    exact r_ireturn hr dX8_firstCompany_28 ⟨Nat.zero_le _, Nat.zero_le _⟩ ⟨_, rfl, rfl⟩ (by cases h; rfl)
  · rw [if_neg c1] at h
    refine r_aload_n hg 0 dX8_firstCompany_10 rfl rfl ?_
    have e2 := ly_8_0 hX k_this
    refine r_getR hg dX8_firstCompany_11 fl_X8_11 k_this rfl e2.1 ?_
    refine r_iload_n hg 1 dX8_firstCompany_14 rfl rfl ?_
    obtain ⟨v3, e4, h⟩ := q_b1_some h
    refine r_iald hg dX8_firstCompany_15 e2.2 e4 ?_
    refine r_if_ne hg 21 dX8_firstCompany_16 (by decide) (fun c5 => ?_) (fun c5 => ?_)
    · rw [if_neg c5] at h
      refine r_iinc hg 1 (v := (x1 + (nI 1))) (L' := [(1, .int (x1 + (nI 1))), (0, .ref this)]) dX8_firstCompany_21 rfl (by rw [ci_1]) (by decide) rfl ?_
      refine r_goto hg 2 dX8_firstCompany_24 (by decide) ?_
      refine r_sub hg [1, 0] rfl ?_
      exact hk2 _ h
    · rw [if_pos (Classical.not_not.mp c5)] at h
      refine r_iload_n hg 1 dX8_firstCompany_19 rfl rfl ?_
      exact r_ireturn hr dX8_firstCompany_20 ⟨Nat.zero_le _, Nat.zero_le _⟩ ⟨_, rfl, rfl⟩ (by cases h; rfl)
theorem pl_X8_firstCompany_2 {l : Launch} {Γ : qC} {g : qG} {z : Int32} {this : Nat} {X : qX} {I : qI} (hΓ : q_gm Γ) (hg : q_Ok l Γ RX8 cX8_firstCompany 2 (q_rm 2 0 0) "firstCompany" (some .int) g) (hr : q_Rt cX8_firstCompany (some .int) (q_rm 2 0 0) (some (.int z), I, X) g) (hX : q_Lay X) (k_this : q_kd X this = some (10, 5)) : ∀ (n : Nat) (x1 : Int32), q_fix (fun _ => none) (b_X8_firstCompany_2 this I) n x1 = some z → g 0 0 2 [(0, .ref this), (1, .int x1)] [] I X := by
  intro n
  induction n with
  | zero =>
    intro x1 h
    cases (show (none : Option (Int32)) = some z from h)
  | succ n ih =>
    intro x1 h
    exact p_X8_firstCompany_2 hΓ hg hr hX k_this ih _ h
def f_X8_firstCompany (this : Nat) (I : qI) : Option (Int32) :=
  q_fix (fun _ => none) (b_X8_firstCompany_2 this I) q_fu (nI 0)
set_option maxRecDepth 100000 in
set_option maxHeartbeats 4000000 in
theorem s_X8_firstCompany {l : Launch} {Γ : qC} (hΓ : q_gm Γ) {X : qX} (hX : q_Lay X) {this : Nat} (k_this : q_kd X this = some (10, 5)) {I : qI} {z : Int32} (h : f_X8_firstCompany this I = some z) : q_Sem l Γ (q_rm 2 0 0) yX8_firstCompany cX8_firstCompany 2 (some .int) [.ref this] I X (some (.int z), I, X) := by
  refine q_met (by decide) (Nat.le_of_ble_eq_true rfl) (fun g hg hr => ?_)
  unfold f_X8_firstCompany at h
  show g 0 0 0 [(0, .ref this)] [] I X
  refine r_iconst hg dX8_firstCompany_0 ci_0 ?_
  refine r_istore_n hg (L' := [(1, .int (nI 0)), (0, .ref this)]) dX8_firstCompany_1 rfl (by decide) rfl ?_
  refine r_sub hg [1, 0] rfl ?_
  exact pl_X8_firstCompany_2 hΓ hg hr hX k_this _ _ h

def f_X8_has (this : Nat) (x1 : Int32) (I : qI) : Option (Int32) :=
  if x1 < 0 then
    some ((nI 0))
  else
    if (I this 4) ≤ x1 then
      some ((nI 0))
    else
      some ((nI 1))
set_option maxRecDepth 100000 in
set_option maxHeartbeats 4000000 in
theorem s_X8_has {l : Launch} {Γ : qC} (hΓ : q_gm Γ) {X : qX} (hX : q_Lay X) {this : Nat} {x1 : Int32} (k_this : q_kd X this = some (10, 5)) {I : qI} {z : Int32} (h : f_X8_has this x1 I = some z) : q_Sem l Γ (q_rm 2 0 0) yX8_has cX8_has 2 (some .boolean) [.ref this, .int x1] I X (some (.int z), I, X) := by
  refine q_met (by decide) (Nat.le_of_ble_eq_true rfl) (fun g hg hr => ?_)
  unfold f_X8_has at h
  show g 0 0 0 [(0, .ref this), (1, .int x1)] [] I X
  refine r_iload_n hg 1 dX8_has_0 rfl rfl ?_
  refine r_if_lt hg 16 dX8_has_1 (by decide) (fun c1 => ?_) (fun c1 => ?_)
  · rw [if_pos c1] at h
    refine r_iconst hg dX8_has_16 ci_0 ?_
    exact r_ireturn hr dX8_has_17 ⟨Nat.zero_le _, Nat.zero_le _⟩ ⟨_, rfl, bz_0.1⟩ (by cases h; rfl)
  · rw [if_neg c1] at h
    refine r_iload_n hg 1 dX8_has_4 rfl rfl ?_
    refine r_aload_n hg 0 dX8_has_5 rfl rfl ?_
    refine r_getI hg dX8_has_6 fl_X8_24 k_this rfl ?_
    refine r_icmp_ge hg 16 dX8_has_9 (by decide) (fun c2 => ?_) (fun c2 => ?_)
    · rw [if_pos c2] at h
      refine r_iconst hg dX8_has_16 ci_0 ?_
      exact r_ireturn hr dX8_has_17 ⟨Nat.zero_le _, Nat.zero_le _⟩ ⟨_, rfl, bz_0.1⟩ (by cases h; rfl)
    · rw [if_neg c2] at h
      refine r_iconst hg dX8_has_12 ci_1 ?_
      refine r_goto hg 17 dX8_has_13 (by decide) ?_
      exact r_ireturn hr dX8_has_17 ⟨Nat.zero_le _, Nat.zero_le _⟩ ⟨_, rfl, bz_1.1⟩ (by cases h; rfl)

def b_X8_leastPrice_43 (this : Nat) (x1 : Int32) (I : qI) (k4 : Int32 → Int32 → Option (Int32)) (x2 : Int32) (x3 : Int32) : Option (Int32) :=
  k4 x2 (x3 + (nI 1))
set_option maxRecDepth 100000 in
set_option maxHeartbeats 4000000 in
theorem p_X8_leastPrice_43 {l : Launch} {Γ : qC} {g : qG} {z : Int32} {this : Nat} {x1 : Int32} {X : qX} {I : qI} (hΓ : q_gm Γ) (hg : q_Ok l Γ RX8 cX8_leastPrice 4 (q_rm 2 0 0) "leastPrice" (some .int) g) (hr : q_Rt cX8_leastPrice (some .int) (q_rm 2 0 0) (some (.int z), I, X) g) (hX : q_Lay X) (k_this : q_kd X this = some (10, 5)) {k4 : Int32 → Int32 → Option (Int32)} (hk4 : ∀ (x2 : Int32) (x3 : Int32), k4 x2 x3 = some z → g 0 0 4 [(0, .ref this), (1, .int x1), (2, .int x2), (3, .int x3)] [] I X) (x2 : Int32) (x3 : Int32) (h : b_X8_leastPrice_43 this x1 I k4 x2 x3 = some z) : g 0 0 43 [(0, .ref this), (1, .int x1), (2, .int x2), (3, .int x3)] [] I X := by
  unfold b_X8_leastPrice_43 at h
  refine r_iinc hg 3 (v := (x3 + (nI 1))) (L' := [(3, .int (x3 + (nI 1))), (0, .ref this), (1, .int x1), (2, .int x2)]) dX8_leastPrice_43 rfl (by rw [ci_1]) (by decide) rfl ?_
  refine r_goto hg 4 dX8_leastPrice_46 (by decide) ?_
  refine r_sub hg [1, 2, 3, 0] rfl ?_
  exact hk4 _ _ h
def b_X8_leastPrice_36 (this : Nat) (x1 : Int32) (I : qI) (k4 : Int32 → Int32 → Option (Int32)) (x3 : Int32) : Option (Int32) :=
  q_b1 (q_rd I (this + 2) 6 x3) fun v2 =>
  b_X8_leastPrice_43 this x1 I k4 v2 x3
set_option maxRecDepth 100000 in
set_option maxHeartbeats 4000000 in
theorem p_X8_leastPrice_36 {l : Launch} {Γ : qC} {g : qG} {z : Int32} {this : Nat} {x1 : Int32} {X : qX} {I : qI} (hΓ : q_gm Γ) (hg : q_Ok l Γ RX8 cX8_leastPrice 4 (q_rm 2 0 0) "leastPrice" (some .int) g) (hr : q_Rt cX8_leastPrice (some .int) (q_rm 2 0 0) (some (.int z), I, X) g) (hX : q_Lay X) (k_this : q_kd X this = some (10, 5)) {k4 : Int32 → Int32 → Option (Int32)} (hk4 : ∀ (x2 : Int32) (x3 : Int32), k4 x2 x3 = some z → g 0 0 4 [(0, .ref this), (1, .int x1), (2, .int x2), (3, .int x3)] [] I X) (x3 : Int32) (h : b_X8_leastPrice_36 this x1 I k4 x3 = some z) : g 0 0 36 [(0, .ref this), (1, .int x1), (3, .int x3)] [] I X := by
  unfold b_X8_leastPrice_36 at h
  refine r_aload_n hg 0 dX8_leastPrice_36 rfl rfl ?_
  have e1 := ly_8_1 hX k_this
  refine r_getR hg dX8_leastPrice_37 fl_X8_15 k_this rfl e1.1 ?_
  refine r_iload_n hg 2 dX8_leastPrice_40 rfl rfl ?_
  obtain ⟨v2, e3, h⟩ := q_b1_some h
  refine r_iald hg dX8_leastPrice_41 e1.2 e3 ?_
  refine r_istore_n hg (L' := [(2, .int v2), (0, .ref this), (1, .int x1), (3, .int x3)]) dX8_leastPrice_42 rfl (by decide) rfl ?_
  refine r_sub hg [1, 2, 0, 3] rfl ?_
  exact p_X8_leastPrice_43 hΓ hg hr hX k_this hk4 _ _ h
def b_X8_leastPrice_4 (this : Nat) (x1 : Int32) (I : qI) (k4 : Int32 → Int32 → Option (Int32)) (x2 : Int32) (x3 : Int32) : Option (Int32) :=
  if (I this 4) ≤ x3 then
    some (x2)
  else
    q_b1 (q_rd I (this + 1) 6 x3) fun v3 =>
    if v3 = x1 then
      if x2 = 0 then
        b_X8_leastPrice_36 this x1 I k4 x3
      else
        q_b1 (q_rd I (this + 2) 6 x3) fun v8 =>
        if x2 ≤ v8 then
          b_X8_leastPrice_43 this x1 I k4 x2 x3
        else
          b_X8_leastPrice_36 this x1 I k4 x3
    else
      b_X8_leastPrice_43 this x1 I k4 x2 x3
set_option maxRecDepth 100000 in
set_option maxHeartbeats 4000000 in
theorem p_X8_leastPrice_4 {l : Launch} {Γ : qC} {g : qG} {z : Int32} {this : Nat} {x1 : Int32} {X : qX} {I : qI} (hΓ : q_gm Γ) (hg : q_Ok l Γ RX8 cX8_leastPrice 4 (q_rm 2 0 0) "leastPrice" (some .int) g) (hr : q_Rt cX8_leastPrice (some .int) (q_rm 2 0 0) (some (.int z), I, X) g) (hX : q_Lay X) (k_this : q_kd X this = some (10, 5)) {k4 : Int32 → Int32 → Option (Int32)} (hk4 : ∀ (x2 : Int32) (x3 : Int32), k4 x2 x3 = some z → g 0 0 4 [(0, .ref this), (1, .int x1), (2, .int x2), (3, .int x3)] [] I X) (x2 : Int32) (x3 : Int32) (h : b_X8_leastPrice_4 this x1 I k4 x2 x3 = some z) : g 0 0 4 [(0, .ref this), (1, .int x1), (2, .int x2), (3, .int x3)] [] I X := by
  unfold b_X8_leastPrice_4 at h
  refine r_iload_n hg 3 dX8_leastPrice_4 rfl rfl ?_
  refine r_aload_n hg 0 dX8_leastPrice_5 rfl rfl ?_
  refine r_getI hg dX8_leastPrice_6 fl_X8_24 k_this rfl ?_
  refine r_icmp_ge hg 49 dX8_leastPrice_9 (by decide) (fun c1 => ?_) (fun c1 => ?_)
  · rw [if_pos c1] at h
    refine r_iload_n hg 2 dX8_leastPrice_49 rfl rfl ?_
    exact r_ireturn hr dX8_leastPrice_50 ⟨Nat.zero_le _, Nat.zero_le _⟩ ⟨_, rfl, rfl⟩ (by cases h; rfl)
  · rw [if_neg c1] at h
    refine r_aload_n hg 0 dX8_leastPrice_12 rfl rfl ?_
    have e2 := ly_8_0 hX k_this
    refine r_getR hg dX8_leastPrice_13 fl_X8_11 k_this rfl e2.1 ?_
    refine r_iload_n hg 3 dX8_leastPrice_16 rfl rfl ?_
    obtain ⟨v3, e4, h⟩ := q_b1_some h
    refine r_iald hg dX8_leastPrice_17 e2.2 e4 ?_
    refine r_iload_n hg 1 dX8_leastPrice_18 rfl rfl ?_
    refine r_icmp_ne hg 43 dX8_leastPrice_19 (by decide) (fun c5 => ?_) (fun c5 => ?_)
    · rw [if_neg c5] at h
      exact p_X8_leastPrice_43 hΓ hg hr hX k_this hk4 _ _ h
    · rw [if_pos (Classical.not_not.mp c5)] at h
      refine r_iload_n hg 2 dX8_leastPrice_22 rfl rfl ?_
      refine r_if_eq hg 36 dX8_leastPrice_23 (by decide) (fun c6 => ?_) (fun c6 => ?_)
      · rw [if_pos c6] at h
        refine r_sub hg [0, 1, 3] rfl ?_
        exact p_X8_leastPrice_36 hΓ hg hr hX k_this hk4 _ h
      · rw [if_neg c6] at h
        refine r_aload_n hg 0 dX8_leastPrice_26 rfl rfl ?_
        have e7 := ly_8_1 hX k_this
        refine r_getR hg dX8_leastPrice_27 fl_X8_15 k_this rfl e7.1 ?_
        refine r_iload_n hg 3 dX8_leastPrice_30 rfl rfl ?_
        obtain ⟨v8, e9, h⟩ := q_b1_some h
        refine r_iald hg dX8_leastPrice_31 e7.2 e9 ?_
        refine r_iload_n hg 2 dX8_leastPrice_32 rfl rfl ?_
        refine r_icmp_ge hg 43 dX8_leastPrice_33 (by decide) (fun c10 => ?_) (fun c10 => ?_)
        · rw [if_pos c10] at h
          exact p_X8_leastPrice_43 hΓ hg hr hX k_this hk4 _ _ h
        · rw [if_neg c10] at h
          refine r_sub hg [0, 1, 3] rfl ?_
          exact p_X8_leastPrice_36 hΓ hg hr hX k_this hk4 _ h
theorem pl_X8_leastPrice_4 {l : Launch} {Γ : qC} {g : qG} {z : Int32} {this : Nat} {x1 : Int32} {X : qX} {I : qI} (hΓ : q_gm Γ) (hg : q_Ok l Γ RX8 cX8_leastPrice 4 (q_rm 2 0 0) "leastPrice" (some .int) g) (hr : q_Rt cX8_leastPrice (some .int) (q_rm 2 0 0) (some (.int z), I, X) g) (hX : q_Lay X) (k_this : q_kd X this = some (10, 5)) : ∀ (n : Nat) (x2 : Int32) (x3 : Int32), q_fix (fun _ _ => none) (b_X8_leastPrice_4 this x1 I) n x2 x3 = some z → g 0 0 4 [(0, .ref this), (1, .int x1), (2, .int x2), (3, .int x3)] [] I X := by
  intro n
  induction n with
  | zero =>
    intro x2 x3 h
    cases (show (none : Option (Int32)) = some z from h)
  | succ n ih =>
    intro x2 x3 h
    exact p_X8_leastPrice_4 hΓ hg hr hX k_this ih _ _ h
def f_X8_leastPrice (this : Nat) (x1 : Int32) (I : qI) : Option (Int32) :=
  q_fix (fun _ _ => none) (b_X8_leastPrice_4 this x1 I) q_fu (nI 0) (nI 0)
set_option maxRecDepth 100000 in
set_option maxHeartbeats 4000000 in
theorem s_X8_leastPrice {l : Launch} {Γ : qC} (hΓ : q_gm Γ) {X : qX} (hX : q_Lay X) {this : Nat} {x1 : Int32} (k_this : q_kd X this = some (10, 5)) {I : qI} {z : Int32} (h : f_X8_leastPrice this x1 I = some z) : q_Sem l Γ (q_rm 2 0 0) yX8_leastPrice cX8_leastPrice 4 (some .int) [.ref this, .int x1] I X (some (.int z), I, X) := by
  refine q_met (by decide) (Nat.le_of_ble_eq_true rfl) (fun g hg hr => ?_)
  unfold f_X8_leastPrice at h
  show g 0 0 0 [(0, .ref this), (1, .int x1)] [] I X
  refine r_iconst hg dX8_leastPrice_0 ci_0 ?_
  refine r_istore_n hg (L' := [(2, .int (nI 0)), (0, .ref this), (1, .int x1)]) dX8_leastPrice_1 rfl (by decide) rfl ?_
  refine r_iconst hg dX8_leastPrice_2 ci_0 ?_
  refine r_istore_n hg (L' := [(3, .int (nI 0)), (2, .int (nI 0)), (0, .ref this), (1, .int x1)]) dX8_leastPrice_3 rfl (by decide) rfl ?_
  refine r_sub hg [2, 3, 1, 0] rfl ?_
  exact pl_X8_leastPrice_4 hΓ hg hr hX k_this _ _ _ h

def f_X8_row (this : Nat) (x1 : Int32) : Option (Option Nat) :=
  if x1 = (nI 0) then
    some ((some (this + 1)))
  else
  if x1 = (nI 1) then
    some ((some (this + 2)))
  else
  if x1 = (nI 2) then
    some ((some (this + 3)))
  else
  if x1 = (nI 3) then
    some ((some (this + 4)))
  else
  some (none)
set_option maxRecDepth 100000 in
set_option maxHeartbeats 4000000 in
theorem s_X8_row {l : Launch} {Γ : qC} (hΓ : q_gm Γ) {X : qX} (hX : q_Lay X) {this : Nat} {x1 : Int32} (k_this : q_kd X this = some (10, 5)) {I : qI} {z : Option Nat} (h : f_X8_row this x1 = some z) : q_Sem l Γ (q_rm 2 0 0) yX8_row cX8_row 2 (some (.array .int)) [.ref this, .int x1] I X (some (va_rf z), I, X) := by
  refine q_met (by decide) (Nat.le_of_ble_eq_true rfl) (fun g hg hr => ?_)
  unfold f_X8_row at h
  show g 0 0 0 [(0, .ref this), (1, .int x1)] [] I X
  refine r_iload_n hg 1 dX8_row_0 rfl rfl ?_
  by_cases c1 : x1 = (nI 0)
  · rw [if_pos c1] at h
    refine r_tab hg 32 dX8_row_1 rfl (by rw [c1] <;> decide +kernel) (by decide) ?_
    refine r_aload_n hg 0 dX8_row_32 rfl rfl ?_
    have e2 := ly_8_0 hX k_this
    refine r_getR hg dX8_row_33 fl_X8_11 k_this rfl e2.1 ?_
    exact r_areturn hr (r := (some (this + 1))) dX8_row_36 ⟨Nat.zero_le _, Nat.zero_le _⟩ ⟨_, rfl, Or.inr ⟨_, rfl⟩⟩ (by cases h; rfl)
  rw [if_neg c1] at h
  by_cases c3 : x1 = (nI 1)
  · rw [if_pos c3] at h
    refine r_tab hg 37 dX8_row_1 rfl (by rw [c3] <;> decide +kernel) (by decide) ?_
    refine r_aload_n hg 0 dX8_row_37 rfl rfl ?_
    have e4 := ly_8_1 hX k_this
    refine r_getR hg dX8_row_38 fl_X8_15 k_this rfl e4.1 ?_
    exact r_areturn hr (r := (some (this + 2))) dX8_row_41 ⟨Nat.zero_le _, Nat.zero_le _⟩ ⟨_, rfl, Or.inr ⟨_, rfl⟩⟩ (by cases h; rfl)
  rw [if_neg c3] at h
  by_cases c5 : x1 = (nI 2)
  · rw [if_pos c5] at h
    refine r_tab hg 42 dX8_row_1 rfl (by rw [c5] <;> decide +kernel) (by decide) ?_
    refine r_aload_n hg 0 dX8_row_42 rfl rfl ?_
    have e6 := ly_8_2 hX k_this
    refine r_getR hg dX8_row_43 fl_X8_18 k_this rfl e6.1 ?_
    exact r_areturn hr (r := (some (this + 3))) dX8_row_46 ⟨Nat.zero_le _, Nat.zero_le _⟩ ⟨_, rfl, Or.inr ⟨_, rfl⟩⟩ (by cases h; rfl)
  rw [if_neg c5] at h
  by_cases c7 : x1 = (nI 3)
  · rw [if_pos c7] at h
    refine r_tab hg 47 dX8_row_1 rfl (by rw [c7] <;> decide +kernel) (by decide) ?_
    refine r_aload_n hg 0 dX8_row_47 rfl rfl ?_
    have e8 := ly_8_3 hX k_this
    refine r_getR hg dX8_row_48 fl_X8_21 k_this rfl e8.1 ?_
    exact r_areturn hr (r := (some (this + 4))) dX8_row_51 ⟨Nat.zero_le _, Nat.zero_le _⟩ ⟨_, rfl, Or.inr ⟨_, rfl⟩⟩ (by cases h; rfl)
  rw [if_neg c7] at h
  refine r_tab hg 52 dX8_row_1 rfl (q_tab_d (fun k hk ho => ?_)) (by decide) ?_
  · have hk : k < 4 := hk
    rcases (show k = 0 ∨ k = 1 ∨ k = 2 ∨ k = 3 by omega) with rfl | rfl | rfl | rfl
    · exact lv_neT c1 (by decide +kernel)
    · exact lv_neT c3 (by decide +kernel)
    · exact lv_neT c5 (by decide +kernel)
    · exact lv_neT c7 (by decide +kernel)
  refine r_null hg dX8_row_52 ?_
  exact r_areturn hr (r := none) dX8_row_53 ⟨Nat.zero_le _, Nat.zero_le _⟩ ⟨_, rfl, Or.inr ⟨_, rfl⟩⟩ (by cases h; rfl)

def b_X0_open_17 (this : Nat) (x1 : Int32) (x2 : Int32) (x3 : Int32) (k17 : Int32 → qI → Option (qI)) (x4 : Int32) (I : qI) : Option (qI) :=
  if (nI 30) ≤ x4 then
    some (I)
  else
    q_b1 (f_X0_start x1) fun v3 =>
    q_b1 (q_wr I (this + 3) 240 (v3 + x4) (nI 0)) fun I5 =>
    k17 (x4 + (nI 1)) I5
set_option maxRecDepth 100000 in
set_option maxHeartbeats 4000000 in
theorem p_X0_open_17 {l : Launch} {Γ : qC} {g : qG} {z : qI} {this : Nat} {x1 : Int32} {x2 : Int32} {x3 : Int32} {X : qX} (hΓ : q_gm Γ) (hg : q_Ok l Γ RX0 cX0_open 5 (q_rm 3 0 0) "open" none g) (hr : q_Rt cX0_open none (q_rm 3 0 0) (none, z, X) g) (hX : q_Lay X) (k_this : q_kd X this = some (2, 3)) {k17 : Int32 → qI → Option (qI)} (hk17 : ∀ (x4 : Int32) (I : qI), k17 x4 I = some z → g 0 0 17 [(0, .ref this), (1, .int x1), (4, .int x4)] [] I X) (x4 : Int32) (I : qI) (h : b_X0_open_17 this x1 x2 x3 k17 x4 I = some z) : g 0 0 17 [(0, .ref this), (1, .int x1), (4, .int x4)] [] I X := by
  unfold b_X0_open_17 at h
  refine r_iload hg 2 dX0_open_17 rfl ?_
  refine r_bipush hg dX0_open_19 cb_30 ?_
  refine r_icmp_ge hg 43 dX0_open_21 (by decide) (fun c1 => ?_) (fun c1 => ?_)
  · rw [if_pos c1] at h
    exact r_return hr dX0_open_43 ⟨Nat.zero_le _, Nat.zero_le _⟩ rfl (by cases h; rfl)
  · rw [if_neg c1] at h
    refine r_aload_n hg 0 dX0_open_24 rfl rfl ?_
    have e2 := ly_0_2 hX k_this
    refine r_getR hg dX0_open_25 fl_X0_20 k_this rfl e2.1 ?_
    refine r_iload_n hg 1 dX0_open_28 rfl rfl ?_
    obtain ⟨v3, e4, h⟩ := q_b1_some h
    refine r_cS1i hg dX0_open_29 mt_X0_start ⟨ml_X0_23, mst_X0_start⟩ (s_X0_start hΓ hX e4) (q_room (Nat.le_of_ble_eq_true rfl) (Nat.le_of_ble_eq_true rfl)) ⟨Nat.zero_le _, Nat.zero_le _⟩ (Nat.le_of_ble_eq_true rfl) ?_
    refine r_iload hg 2 dX0_open_32 rfl ?_
    refine r_iadd hg dX0_open_34 ?_
    refine r_iconst hg dX0_open_35 ci_0 ?_
    obtain ⟨I5, e6, h⟩ := q_b1_some h
    refine r_iast hg dX0_open_36 e2.2 e6 ?_
    refine r_iinc hg 2 (v := (x4 + (nI 1))) (L' := [(4, .int (x4 + (nI 1))), (0, .ref this), (1, .int x1)]) dX0_open_37 rfl (by rw [ci_1]) (by decide) rfl ?_
    refine r_goto hg 17 dX0_open_40 (by decide) ?_
    refine r_sub hg [1, 2, 0] rfl ?_
    exact hk17 _ _ h
theorem pl_X0_open_17 {l : Launch} {Γ : qC} {g : qG} {z : qI} {this : Nat} {x1 : Int32} {x2 : Int32} {x3 : Int32} {X : qX} (hΓ : q_gm Γ) (hg : q_Ok l Γ RX0 cX0_open 5 (q_rm 3 0 0) "open" none g) (hr : q_Rt cX0_open none (q_rm 3 0 0) (none, z, X) g) (hX : q_Lay X) (k_this : q_kd X this = some (2, 3)) : ∀ (n : Nat) (x4 : Int32) (I : qI), q_fix (fun _ _ => none) (b_X0_open_17 this x1 x2 x3) n x4 I = some z → g 0 0 17 [(0, .ref this), (1, .int x1), (4, .int x4)] [] I X := by
  intro n
  induction n with
  | zero =>
    intro x4 I h
    cases (show (none : Option (qI)) = some z from h)
  | succ n ih =>
    intro x4 I h
    exact p_X0_open_17 hΓ hg hr hX k_this ih _ _ h
def f_X0_open (this : Nat) (x1 : Int32) (x2 : Int32) (x3 : Int32) (I : qI) : Option (qI) :=
  q_b1 (q_wr I (this + 1) 8 x1 x2) fun I2 =>
  q_b1 (q_wr I2 (this + 2) 8 x1 x3) fun I5 =>
  q_fix (fun _ _ => none) (b_X0_open_17 this x1 x2 x3) q_fu (nI 0) I5
set_option maxRecDepth 100000 in
set_option maxHeartbeats 4000000 in
theorem s_X0_open {l : Launch} {Γ : qC} (hΓ : q_gm Γ) {X : qX} (hX : q_Lay X) {this : Nat} {x1 : Int32} {x2 : Int32} {x3 : Int32} (k_this : q_kd X this = some (2, 3)) {I : qI} {z : qI} (h : f_X0_open this x1 x2 x3 I = some z) : q_Sem l Γ (q_rm 3 0 0) yX0_open cX0_open 5 none [.ref this, .int x1, .int x2, .int x3] I X (none, z, X) := by
  refine q_met (by decide) (Nat.le_of_ble_eq_true rfl) (fun g hg hr => ?_)
  unfold f_X0_open at h
  show g 0 0 0 [(0, .ref this), (1, .int x1), (2, .int x2), (3, .int x3)] [] I X
  refine r_aload_n hg 0 dX0_open_0 rfl rfl ?_
  have e1 := ly_0_0 hX k_this
  refine r_getR hg dX0_open_1 fl_X0_11 k_this rfl e1.1 ?_
  refine r_iload_n hg 1 dX0_open_4 rfl rfl ?_
  refine r_iload_n hg 2 dX0_open_5 rfl rfl ?_
  obtain ⟨I2, e3, h⟩ := q_b1_some h
  refine r_iast hg dX0_open_6 e1.2 e3 ?_
  refine r_aload_n hg 0 dX0_open_7 rfl rfl ?_
  have e4 := ly_0_1 hX k_this
  refine r_getR hg dX0_open_8 fl_X0_17 k_this rfl e4.1 ?_
  refine r_iload_n hg 1 dX0_open_11 rfl rfl ?_
  refine r_iload_n hg 3 dX0_open_12 rfl rfl ?_
  obtain ⟨I5, e6, h⟩ := q_b1_some h
  refine r_iast hg dX0_open_13 e4.2 e6 ?_
  refine r_iconst hg dX0_open_14 ci_0 ?_
  refine r_istore hg (L' := [(4, .int (nI 0)), (0, .ref this), (1, .int x1), (2, .int x2), (3, .int x3)]) dX0_open_15 (by decide) rfl ?_
  refine r_sub hg [1, 2, 0] rfl ?_
  exact pl_X0_open_17 hΓ hg hr hX k_this _ _ _ h

def b_X0_placeOf_41 (this : Nat) (x1 : Int32) (x2 : Int32) (I : qI) (k41 : Int32 → Int32 → Option (Int32)) (x3 : Int32) (x4 : Int32) : Option (Int32) :=
  if x4 < 0 then
    some ((-1))
  else
    q_b1 (f_X0_start x1) fun v3 =>
    q_b1 (q_rd I (this + 3) 240 (v3 + x4)) fun v5 =>
    if v5 = x3 then
      k41 x3 (x4 + (-1))
    else
      q_b1 (f_X0_start x1) fun v8 =>
      some ((v8 + x4))
set_option maxRecDepth 100000 in
set_option maxHeartbeats 4000000 in
theorem p_X0_placeOf_41 {l : Launch} {Γ : qC} {g : qG} {z : Int32} {this : Nat} {x1 : Int32} {x2 : Int32} {X : qX} {I : qI} (hΓ : q_gm Γ) (hg : q_Ok l Γ RX0 cX0_placeOf 5 (q_rm 3 0 0) "placeOf" (some .int) g) (hr : q_Rt cX0_placeOf (some .int) (q_rm 3 0 0) (some (.int z), I, X) g) (hX : q_Lay X) (k_this : q_kd X this = some (2, 3)) {k41 : Int32 → Int32 → Option (Int32)} (hk41 : ∀ (x3 : Int32) (x4 : Int32), k41 x3 x4 = some z → g 0 0 41 [(0, .ref this), (1, .int x1), (3, .int x3), (4, .int x4)] [] I X) (x3 : Int32) (x4 : Int32) (h : b_X0_placeOf_41 this x1 x2 I k41 x3 x4 = some z) : g 0 0 41 [(0, .ref this), (1, .int x1), (3, .int x3), (4, .int x4)] [] I X := by
  unfold b_X0_placeOf_41 at h
  refine r_iload hg 3 dX0_placeOf_41 rfl ?_
  refine r_if_lt hg 76 dX0_placeOf_43 (by decide) (fun c1 => ?_) (fun c1 => ?_)
  · rw [if_pos c1] at h
    refine r_iconst hg dX0_placeOf_76 ci_m1 ?_
    exact r_ireturn hr dX0_placeOf_77 ⟨Nat.zero_le _, Nat.zero_le _⟩ ⟨_, rfl, rfl⟩ (by cases h; rfl)
  · rw [if_neg c1] at h
    refine r_aload_n hg 0 dX0_placeOf_46 rfl rfl ?_
    have e2 := ly_0_2 hX k_this
    refine r_getR hg dX0_placeOf_47 fl_X0_20 k_this rfl e2.1 ?_
    refine r_iload_n hg 1 dX0_placeOf_50 rfl rfl ?_
    obtain ⟨v3, e4, h⟩ := q_b1_some h
    refine r_cS1i hg dX0_placeOf_51 mt_X0_start ⟨ml_X0_23, mst_X0_start⟩ (s_X0_start hΓ hX e4) (q_room (Nat.le_of_ble_eq_true rfl) (Nat.le_of_ble_eq_true rfl)) ⟨Nat.zero_le _, Nat.zero_le _⟩ (Nat.le_of_ble_eq_true rfl) ?_
    refine r_iload hg 3 dX0_placeOf_54 rfl ?_
    refine r_iadd hg dX0_placeOf_56 ?_
    obtain ⟨v5, e6, h⟩ := q_b1_some h
    refine r_iald hg dX0_placeOf_57 e2.2 e6 ?_
    refine r_iload_n hg 2 dX0_placeOf_58 rfl rfl ?_
    refine r_icmp_eq hg 70 dX0_placeOf_59 (by decide) (fun c7 => ?_) (fun c7 => ?_)
    · rw [if_pos c7] at h
      refine r_iinc hg 3 (v := (x4 + (-1))) (L' := [(4, .int (x4 + (-1))), (0, .ref this), (1, .int x1), (3, .int x3)]) dX0_placeOf_70 rfl (by rw [ci_m1]) (by decide) rfl ?_
      refine r_goto hg 41 dX0_placeOf_73 (by decide) ?_
      refine r_sub hg [1, 2, 3, 0] rfl ?_
      exact hk41 _ _ h
    · rw [if_neg c7] at h
      refine r_iload_n hg 1 dX0_placeOf_62 rfl rfl ?_
      obtain ⟨v8, e9, h⟩ := q_b1_some h
      refine r_cS1i hg dX0_placeOf_63 mt_X0_start ⟨ml_X0_23, mst_X0_start⟩ (s_X0_start hΓ hX e9) (q_room (Nat.le_of_ble_eq_true rfl) (Nat.le_of_ble_eq_true rfl)) ⟨Nat.zero_le _, Nat.zero_le _⟩ (Nat.le_of_ble_eq_true rfl) ?_
      refine r_iload hg 3 dX0_placeOf_66 rfl ?_
      refine r_iadd hg dX0_placeOf_68 ?_
      exact r_ireturn hr dX0_placeOf_69 ⟨Nat.zero_le _, Nat.zero_le _⟩ ⟨_, rfl, rfl⟩ (by cases h; rfl)
theorem pl_X0_placeOf_41 {l : Launch} {Γ : qC} {g : qG} {z : Int32} {this : Nat} {x1 : Int32} {x2 : Int32} {X : qX} {I : qI} (hΓ : q_gm Γ) (hg : q_Ok l Γ RX0 cX0_placeOf 5 (q_rm 3 0 0) "placeOf" (some .int) g) (hr : q_Rt cX0_placeOf (some .int) (q_rm 3 0 0) (some (.int z), I, X) g) (hX : q_Lay X) (k_this : q_kd X this = some (2, 3)) : ∀ (n : Nat) (x3 : Int32) (x4 : Int32), q_fix (fun _ _ => none) (b_X0_placeOf_41 this x1 x2 I) n x3 x4 = some z → g 0 0 41 [(0, .ref this), (1, .int x1), (3, .int x3), (4, .int x4)] [] I X := by
  intro n
  induction n with
  | zero =>
    intro x3 x4 h
    cases (show (none : Option (Int32)) = some z from h)
  | succ n ih =>
    intro x3 x4 h
    exact p_X0_placeOf_41 hΓ hg hr hX k_this ih _ _ h
def b_X0_placeOf_37 (this : Nat) (x1 : Int32) (x2 : Int32) (I : qI) (s0 : Int32) : Option (Int32) :=
  q_fix (fun _ _ => none) (b_X0_placeOf_41 this x1 x2 I) q_fu s0 x2
set_option maxRecDepth 100000 in
set_option maxHeartbeats 4000000 in
theorem p_X0_placeOf_37 {l : Launch} {Γ : qC} {g : qG} {z : Int32} {this : Nat} {x1 : Int32} {x2 : Int32} {X : qX} {I : qI} (hΓ : q_gm Γ) (hg : q_Ok l Γ RX0 cX0_placeOf 5 (q_rm 3 0 0) "placeOf" (some .int) g) (hr : q_Rt cX0_placeOf (some .int) (q_rm 3 0 0) (some (.int z), I, X) g) (hX : q_Lay X) (k_this : q_kd X this = some (2, 3)) (s0 : Int32) (h : b_X0_placeOf_37 this x1 x2 I s0 = some z) : g 0 0 37 [(0, .ref this), (1, .int x1), (2, .int x2)] [.int s0] I X := by
  unfold b_X0_placeOf_37 at h
  refine r_istore_n hg (L' := [(3, .int s0), (0, .ref this), (1, .int x1), (2, .int x2)]) dX0_placeOf_37 rfl (by decide) rfl ?_
  refine r_iload_n hg 3 dX0_placeOf_38 rfl rfl ?_
  refine r_istore hg (L' := [(4, .int x2), (3, .int s0), (0, .ref this), (1, .int x1), (2, .int x2)]) dX0_placeOf_39 (by decide) rfl ?_
  refine r_sub hg [2, 3, 1, 0] rfl ?_
  exact pl_X0_placeOf_41 hΓ hg hr hX k_this _ _ _ h
def f_X0_placeOf (this : Nat) (x1 : Int32) (x2 : Int32) (I : qI) : Option (Int32) :=
  q_b1 (f_X0_isMissing this x1 I) fun v1 =>
  if v1 = 0 then
    q_b1 (f_X0_hasWeek this x1 x2 I) fun v4 =>
    if v4 = 0 then
      some ((-1))
    else
      q_b1 (q_rd I (this + 1) 8 x1) fun v8 =>
      if v8 = (nI 1) then
        b_X0_placeOf_37 this x1 x2 I (-32768)
      else
        b_X0_placeOf_37 this x1 x2 I (-2147483648)
  else
    some ((-1))
set_option maxRecDepth 100000 in
set_option maxHeartbeats 4000000 in
theorem s_X0_placeOf {l : Launch} {Γ : qC} (hΓ : q_gm Γ) {X : qX} (hX : q_Lay X) {this : Nat} {x1 : Int32} {x2 : Int32} (k_this : q_kd X this = some (2, 3)) {I : qI} {z : Int32} (h : f_X0_placeOf this x1 x2 I = some z) : q_Sem l Γ (q_rm 3 0 0) yX0_placeOf cX0_placeOf 5 (some .int) [.ref this, .int x1, .int x2] I X (some (.int z), I, X) := by
  refine q_met (by decide) (Nat.le_of_ble_eq_true rfl) (fun g hg hr => ?_)
  unfold f_X0_placeOf at h
  show g 0 0 0 [(0, .ref this), (1, .int x1), (2, .int x2)] [] I X
  refine r_aload_n hg 0 dX0_placeOf_0 rfl rfl ?_
  refine r_iload_n hg 1 dX0_placeOf_1 rfl rfl ?_
  obtain ⟨v1, e2, h⟩ := q_b1_some h
  refine r_cV1i hg dX0_placeOf_2 mt_X0_isMissing ml_X0_27 mv_X0_isMissing k_this (s_X0_isMissing hΓ hX k_this e2) (q_room (Nat.le_of_ble_eq_true rfl) (Nat.le_of_ble_eq_true rfl)) ⟨Nat.zero_le _, Nat.zero_le _⟩ (Nat.le_of_ble_eq_true rfl) ?_
  refine r_if_ne hg 17 dX0_placeOf_5 (by decide) (fun c3 => ?_) (fun c3 => ?_)
  · rw [if_neg c3] at h
    refine r_iconst hg dX0_placeOf_17 ci_m1 ?_
    exact r_ireturn hr dX0_placeOf_18 ⟨Nat.zero_le _, Nat.zero_le _⟩ ⟨_, rfl, rfl⟩ (by cases h; rfl)
  · rw [if_pos (Classical.not_not.mp c3)] at h
    refine r_aload_n hg 0 dX0_placeOf_8 rfl rfl ?_
    refine r_iload_n hg 1 dX0_placeOf_9 rfl rfl ?_
    refine r_iload_n hg 2 dX0_placeOf_10 rfl rfl ?_
    obtain ⟨v4, e5, h⟩ := q_b1_some h
    refine r_cV2i hg dX0_placeOf_11 mt_X0_hasWeek ml_X0_31 mv_X0_hasWeek k_this (s_X0_hasWeek hΓ hX k_this e5) (q_room (Nat.le_of_ble_eq_true rfl) (Nat.le_of_ble_eq_true rfl)) ⟨Nat.zero_le _, Nat.zero_le _⟩ (Nat.le_of_ble_eq_true rfl) ?_
    refine r_if_ne hg 19 dX0_placeOf_14 (by decide) (fun c6 => ?_) (fun c6 => ?_)
    · rw [if_neg c6] at h
      refine r_aload_n hg 0 dX0_placeOf_19 rfl rfl ?_
      have e7 := ly_0_0 hX k_this
      refine r_getR hg dX0_placeOf_20 fl_X0_11 k_this rfl e7.1 ?_
      refine r_iload_n hg 1 dX0_placeOf_23 rfl rfl ?_
      obtain ⟨v8, e9, h⟩ := q_b1_some h
      refine r_iald hg dX0_placeOf_24 e7.2 e9 ?_
      refine r_iconst hg dX0_placeOf_25 ci_1 ?_
      refine r_icmp_ne hg 35 dX0_placeOf_26 (by decide) (fun c10 => ?_) (fun c10 => ?_)
      · rw [if_neg c10] at h
        refine r_ldc hg dX0_placeOf_35 kc_X0_37 ?_
        exact p_X0_placeOf_37 hΓ hg hr hX k_this _ h
      · rw [if_pos (Classical.not_not.mp c10)] at h
        refine r_sipush hg dX0_placeOf_29 cs_m32768 ?_
        refine r_goto hg 37 dX0_placeOf_32 (by decide) ?_
        exact p_X0_placeOf_37 hΓ hg hr hX k_this _ h
    · rw [if_pos (Classical.not_not.mp c6)] at h
      refine r_iconst hg dX0_placeOf_17 ci_m1 ?_
      exact r_ireturn hr dX0_placeOf_18 ⟨Nat.zero_le _, Nat.zero_le _⟩ ⟨_, rfl, rfl⟩ (by cases h; rfl)

def b_X0_set_26 (this : Nat) (x1 : Int32) (x2 : Int32) (x3 : Int32) (s1 : Int32) (s2 : Int32) (I : qI) : Option (qI) :=
  q_b1 (q_wr I (this + 3) 240 s1 s2) fun I2 =>
  some (I2)
set_option maxRecDepth 100000 in
set_option maxHeartbeats 4000000 in
theorem p_X0_set_26 {l : Launch} {Γ : qC} {g : qG} {z : qI} {this : Nat} {x1 : Int32} {x2 : Int32} {x3 : Int32} {X : qX} (hΓ : q_gm Γ) (hg : q_Ok l Γ RX0 cX0_set 4 (q_rm 3 0 0) "set" none g) (hr : q_Rt cX0_set none (q_rm 3 0 0) (none, z, X) g) (hX : q_Lay X) (k_this : q_kd X this = some (2, 3)) (s1 : Int32) (s2 : Int32) (I : qI) (h : b_X0_set_26 this x1 x2 x3 s1 s2 I = some z) : g 0 0 26 [] [.int s2, .int s1, .ref (this + 3)] I X := by
  unfold b_X0_set_26 at h
  have e1 := ly_0_2 hX k_this
  obtain ⟨I2, e3, h⟩ := q_b1_some h
  refine r_iast hg dX0_set_26 e1.2 e3 ?_
  exact r_return hr dX0_set_27 ⟨Nat.zero_le _, Nat.zero_le _⟩ rfl (by cases h; rfl)
def f_X0_set (this : Nat) (x1 : Int32) (x2 : Int32) (x3 : Int32) (I : qI) : Option (qI) :=
  q_b1 (f_X0_start x1) fun v2 =>
  q_b1 (q_rd I (this + 1) 8 x1) fun v5 =>
  if v5 = (nI 1) then
    b_X0_set_26 this x1 x2 x3 (v2 + x2) x3.toInt16.toInt32 I
  else
    b_X0_set_26 this x1 x2 x3 (v2 + x2) x3 I
set_option maxRecDepth 100000 in
set_option maxHeartbeats 4000000 in
theorem s_X0_set {l : Launch} {Γ : qC} (hΓ : q_gm Γ) {X : qX} (hX : q_Lay X) {this : Nat} {x1 : Int32} {x2 : Int32} {x3 : Int32} (k_this : q_kd X this = some (2, 3)) {I : qI} {z : qI} (h : f_X0_set this x1 x2 x3 I = some z) : q_Sem l Γ (q_rm 3 0 0) yX0_set cX0_set 4 none [.ref this, .int x1, .int x2, .int x3] I X (none, z, X) := by
  refine q_met (by decide) (Nat.le_of_ble_eq_true rfl) (fun g hg hr => ?_)
  unfold f_X0_set at h
  show g 0 0 0 [(0, .ref this), (1, .int x1), (2, .int x2), (3, .int x3)] [] I X
  refine r_aload_n hg 0 dX0_set_0 rfl rfl ?_
  have e1 := ly_0_2 hX k_this
  refine r_getR hg dX0_set_1 fl_X0_20 k_this rfl e1.1 ?_
  refine r_iload_n hg 1 dX0_set_4 rfl rfl ?_
  obtain ⟨v2, e3, h⟩ := q_b1_some h
  refine r_cS1i hg dX0_set_5 mt_X0_start ⟨ml_X0_23, mst_X0_start⟩ (s_X0_start hΓ hX e3) (q_room (Nat.le_of_ble_eq_true rfl) (Nat.le_of_ble_eq_true rfl)) ⟨Nat.zero_le _, Nat.zero_le _⟩ (Nat.le_of_ble_eq_true rfl) ?_
  refine r_iload_n hg 2 dX0_set_8 rfl rfl ?_
  refine r_iadd hg dX0_set_9 ?_
  refine r_aload_n hg 0 dX0_set_10 rfl rfl ?_
  have e4 := ly_0_0 hX k_this
  refine r_getR hg dX0_set_11 fl_X0_11 k_this rfl e4.1 ?_
  refine r_iload_n hg 1 dX0_set_14 rfl rfl ?_
  obtain ⟨v5, e6, h⟩ := q_b1_some h
  refine r_iald hg dX0_set_15 e4.2 e6 ?_
  refine r_iconst hg dX0_set_16 ci_1 ?_
  refine r_icmp_ne hg 25 dX0_set_17 (by decide) (fun c7 => ?_) (fun c7 => ?_)
  · rw [if_neg c7] at h
    refine r_iload_n hg 3 dX0_set_25 rfl rfl ?_
    refine r_sub hg [] rfl ?_
    exact p_X0_set_26 hΓ hg hr hX k_this _ _ _ h
  · rw [if_pos (Classical.not_not.mp c7)] at h
    refine r_iload_n hg 3 dX0_set_20 rfl rfl ?_
    refine r_i2s hg dX0_set_21 ?_
    refine r_goto hg 26 dX0_set_22 (by decide) ?_
    refine r_sub hg [] rfl ?_
    exact p_X0_set_26 hΓ hg hr hX k_this _ _ _ h

def b_X1_become_40 (this : Nat) (x1 : Nat) (X : qX) (k2 : Int32 → qI → Option (qI)) (x2 : Int32) (I : qI) : Option (qI) :=
  k2 (x2 + (nI 1)) I
set_option maxRecDepth 100000 in
set_option maxHeartbeats 4000000 in
theorem p_X1_become_40 {l : Launch} {Γ : qC} {g : qG} {z : qI} {this : Nat} {x1 : Nat} {X : qX} (hΓ : q_gm Γ) (hg : q_Ok l Γ RX1 cX1_become 5 (q_rm 3 0 0) "become" none g) (hr : q_Rt cX1_become none (q_rm 3 0 0) (none, z, X) g) (hX : q_Lay X) (k_this : q_kd X this = some (3, 9)) (k_x1 : q_kd X x1 = some (3, 9)) {k2 : Int32 → qI → Option (qI)} (hk2 : ∀ (x2 : Int32) (I : qI), k2 x2 I = some z → g 0 0 2 [(0, .ref this), (1, .ref x1), (2, .int x2)] [] I X) (x2 : Int32) (I : qI) (h : b_X1_become_40 this x1 X k2 x2 I = some z) : g 0 0 40 [(0, .ref this), (1, .ref x1), (2, .int x2)] [] I X := by
  unfold b_X1_become_40 at h
  refine r_iinc hg 2 (v := (x2 + (nI 1))) (L' := [(2, .int (x2 + (nI 1))), (0, .ref this), (1, .ref x1)]) dX1_become_40 rfl (by rw [ci_1]) (by decide) rfl ?_
  refine r_goto hg 2 dX1_become_43 (by decide) ?_
  refine r_sub hg [1, 2, 0] rfl ?_
  exact hk2 _ _ h
def b_X1_become_2 (this : Nat) (x1 : Nat) (X : qX) (k2 : Int32 → qI → Option (qI)) (x2 : Int32) (I : qI) : Option (qI) :=
  if (nI 7) < x2 then
    q_b1 (some (q_up I this 8 (I x1 8))) fun I2 =>
    some (I2)
  else
    q_b1 (f_X1_row this x2) fun r4 =>
    q_b1 (f_X1_row x1 x2) fun r6 =>
    q_on r4 (
      b_X1_become_40 this x1 X k2 x2 I
    ) fun a9 =>
    q_on r6 (
      b_X1_become_40 this x1 X k2 x2 I
    ) fun a11 =>
    q_b2 (q_arr X (some a11)) fun a12 n13 =>
    q_b2 (q_arr X (some a9)) fun a17 n18 =>
    q_b1 (q_cp I a12 n13 (nI 0) a17 n18 (nI 0) (nI 60)) fun I22 =>
    b_X1_become_40 this x1 X k2 x2 I22
set_option maxRecDepth 100000 in
set_option maxHeartbeats 4000000 in
theorem p_X1_become_2 {l : Launch} {Γ : qC} {g : qG} {z : qI} {this : Nat} {x1 : Nat} {X : qX} (hΓ : q_gm Γ) (hg : q_Ok l Γ RX1 cX1_become 5 (q_rm 3 0 0) "become" none g) (hr : q_Rt cX1_become none (q_rm 3 0 0) (none, z, X) g) (hX : q_Lay X) (k_this : q_kd X this = some (3, 9)) (k_x1 : q_kd X x1 = some (3, 9)) {k2 : Int32 → qI → Option (qI)} (hk2 : ∀ (x2 : Int32) (I : qI), k2 x2 I = some z → g 0 0 2 [(0, .ref this), (1, .ref x1), (2, .int x2)] [] I X) (x2 : Int32) (I : qI) (h : b_X1_become_2 this x1 X k2 x2 I = some z) : g 0 0 2 [(0, .ref this), (1, .ref x1), (2, .int x2)] [] I X := by
  unfold b_X1_become_2 at h
  refine r_iload_n hg 2 dX1_become_2 rfl rfl ?_
  refine r_bipush hg dX1_become_3 cb_7 ?_
  refine r_icmp_gt hg 46 dX1_become_5 (by decide) (fun c1 => ?_) (fun c1 => ?_)
  · rw [if_pos c1] at h
    refine r_aload_n hg 0 dX1_become_46 rfl rfl ?_
    refine r_aload_n hg 1 dX1_become_47 rfl rfl ?_
    refine r_getI hg dX1_become_48 fl_X1_36 k_x1 rfl ?_
    obtain ⟨I2, e3, h⟩ := q_b1_some h
    obtain rfl := Option.some.inj e3
    refine r_putI hg dX1_become_51 fl_X1_36 k_this rfl ⟨rfl, rfl⟩ ?_
    exact r_return hr dX1_become_54 ⟨Nat.zero_le _, Nat.zero_le _⟩ rfl (by cases h; rfl)
  · rw [if_neg c1] at h
    refine r_aload_n hg 0 dX1_become_8 rfl rfl ?_
    refine r_iload_n hg 2 dX1_become_9 rfl rfl ?_
    obtain ⟨r4, e5, h⟩ := q_b1_some h
    refine r_cV1q hg dX1_become_10 mt_X1_row ml_X1_45 mv_X1_row k_this (s_X1_row hΓ hX k_this e5) (q_room (Nat.le_of_ble_eq_true rfl) (Nat.le_of_ble_eq_true rfl)) ⟨Nat.zero_le _, Nat.zero_le _⟩ (Nat.le_of_ble_eq_true rfl) ?_
    refine r_astoreq_n hg (L' := [(3, va_rf r4), (0, .ref this), (1, .ref x1), (2, .int x2)]) dX1_become_13 rfl (by decide) rfl ?_
    refine r_aload_n hg 2 dX1_become_14 rfl rfl ?_
    refine r_iload_n hg 3 dX1_become_15 rfl rfl ?_
    obtain ⟨r6, e7, h⟩ := q_b1_some h
    refine r_cV1q hg dX1_become_16 mt_X1_row ml_X1_45 mv_X1_row k_x1 (s_X1_row hΓ hX k_x1 e7) (q_room (Nat.le_of_ble_eq_true rfl) (Nat.le_of_ble_eq_true rfl)) ⟨Nat.zero_le _, Nat.zero_le _⟩ (Nat.le_of_ble_eq_true rfl) ?_
    refine r_astoreq hg (L' := [(4, va_rf r6), (3, va_rf r4), (0, .ref this), (1, .ref x1), (2, .int x2)]) dX1_become_19 (by decide) (by simp [List.filter, q_cat_rf]) ?_
    refine r_aloadq_n hg 1 dX1_become_21 rfl rfl ?_
    refine r_ifnull hg 40 dX1_become_22 (by decide) (fun e8 => ?_) (fun a9 e8 => ?_)
    · subst e8
      simp only [q_on] at h
      refine r_sub hg [2, 3, 4] rfl ?_
      exact p_X1_become_40 hΓ hg hr hX k_this k_x1 hk2 _ _ h
    · subst e8
      simp only [q_on] at h
      refine r_aloadq hg 0 dX1_become_25 rfl ?_
      refine r_ifnull hg 40 dX1_become_27 (by decide) (fun e10 => ?_) (fun a11 e10 => ?_)
      · subst e10
        simp only [q_on] at h
        refine r_sub hg [2, 3, 4] rfl ?_
        exact p_X1_become_40 hΓ hg hr hX k_this k_x1 hk2 _ _ h
      · subst e10
        simp only [q_on] at h
        refine r_aloadq hg 0 dX1_become_30 rfl ?_
        refine r_iconst hg dX1_become_32 ci_0 ?_
        refine r_aloadq_n hg 1 dX1_become_33 rfl rfl ?_
        refine r_iconst hg dX1_become_34 ci_0 ?_
        refine r_bipush hg dX1_become_35 cb_60 ?_
        replace h := q_b2_some h
        obtain ⟨a12, n13, e14, h⟩ := h
        obtain ⟨e16, k15⟩ := q_arr_some e14
        obtain rfl := Option.some.inj e16
        replace h := q_b2_some h
        obtain ⟨a17, n18, e19, h⟩ := h
        obtain ⟨e21, k20⟩ := q_arr_some e19
        obtain rfl := Option.some.inj e21
        obtain ⟨I22, e23, h⟩ := q_b1_some h
        obtain ⟨⟨e24, e25, e26⟩, e27, e28, rfl⟩ := q_cp_some e23
        refine r_copy hg dX1_become_37 cp_X1_49 k15 k20 e24 e25 e26 e27 e28 ⟨Nat.le_of_ble_eq_true rfl, Nat.le_of_ble_eq_true rfl⟩ ?_
        refine r_sub hg [2, 3, 4] rfl ?_
        exact p_X1_become_40 hΓ hg hr hX k_this k_x1 hk2 _ _ h
theorem pl_X1_become_2 {l : Launch} {Γ : qC} {g : qG} {z : qI} {this : Nat} {x1 : Nat} {X : qX} (hΓ : q_gm Γ) (hg : q_Ok l Γ RX1 cX1_become 5 (q_rm 3 0 0) "become" none g) (hr : q_Rt cX1_become none (q_rm 3 0 0) (none, z, X) g) (hX : q_Lay X) (k_this : q_kd X this = some (3, 9)) (k_x1 : q_kd X x1 = some (3, 9)) : ∀ (n : Nat) (x2 : Int32) (I : qI), q_fix (fun _ _ => none) (b_X1_become_2 this x1 X) n x2 I = some z → g 0 0 2 [(0, .ref this), (1, .ref x1), (2, .int x2)] [] I X := by
  intro n
  induction n with
  | zero =>
    intro x2 I h
    cases (show (none : Option (qI)) = some z from h)
  | succ n ih =>
    intro x2 I h
    exact p_X1_become_2 hΓ hg hr hX k_this k_x1 ih _ _ h
def f_X1_become (this : Nat) (x1 : Nat) (X : qX) (I : qI) : Option (qI) :=
  q_fix (fun _ _ => none) (b_X1_become_2 this x1 X) q_fu (nI 0) I
set_option maxRecDepth 100000 in
set_option maxHeartbeats 4000000 in
theorem s_X1_become {l : Launch} {Γ : qC} (hΓ : q_gm Γ) {X : qX} (hX : q_Lay X) {this : Nat} {x1 : Nat} (k_this : q_kd X this = some (3, 9)) (k_x1 : q_kd X x1 = some (3, 9)) {I : qI} {z : qI} (h : f_X1_become this x1 X I = some z) : q_Sem l Γ (q_rm 3 0 0) yX1_become cX1_become 5 none [.ref this, .ref x1] I X (none, z, X) := by
  refine q_met (by decide) (Nat.le_of_ble_eq_true rfl) (fun g hg hr => ?_)
  unfold f_X1_become at h
  show g 0 0 0 [(0, .ref this), (1, .ref x1)] [] I X
  refine r_iconst hg dX1_become_0 ci_0 ?_
  refine r_istore_n hg (L' := [(2, .int (nI 0)), (0, .ref this), (1, .ref x1)]) dX1_become_1 rfl (by decide) rfl ?_
  refine r_sub hg [1, 2, 0] rfl ?_
  exact pl_X1_become_2 hΓ hg hr hX k_this k_x1 _ _ _ h

def b_X1_taken_89 (this : Nat) (x1 : Int32) (x2 : Int32) (x3 : Int32) (x4 : Int32) (k6 : Int32 → Int32 → qI → Option (Int32 × qI)) (x5 : Int32) (x6 : Int32) (I : qI) : Option (Int32 × qI) :=
  k6 x5 (x6 + (nI 1)) I
set_option maxRecDepth 100000 in
set_option maxHeartbeats 4000000 in
theorem p_X1_taken_89 {l : Launch} {Γ : qC} {g : qG} {z : Int32 × qI} {this : Nat} {x1 : Int32} {x2 : Int32} {x3 : Int32} {x4 : Int32} {X : qX} (hΓ : q_gm Γ) (hg : q_Ok l Γ RX1 cX1_taken 8 (q_rm 3 0 0) "taken" (some .int) g) (hr : q_Rt cX1_taken (some .int) (q_rm 3 0 0) (some (.int z.1), z.2, X) g) (hX : q_Lay X) (k_this : q_kd X this = some (3, 9)) {k6 : Int32 → Int32 → qI → Option (Int32 × qI)} (hk6 : ∀ (x5 : Int32) (x6 : Int32) (I : qI), k6 x5 x6 I = some z → g 0 0 6 [(0, .ref this), (1, .int x1), (2, .int x2), (3, .int x3), (4, .int x4), (5, .int x5), (6, .int x6)] [] I X) (x5 : Int32) (x6 : Int32) (I : qI) (h : b_X1_taken_89 this x1 x2 x3 x4 k6 x5 x6 I = some z) : g 0 0 89 [(0, .ref this), (1, .int x1), (2, .int x2), (3, .int x3), (4, .int x4), (5, .int x5), (6, .int x6)] [] I X := by
  unfold b_X1_taken_89 at h
  refine r_iinc hg 6 (v := (x6 + (nI 1))) (L' := [(6, .int (x6 + (nI 1))), (0, .ref this), (1, .int x1), (2, .int x2), (3, .int x3), (4, .int x4), (5, .int x5)]) dX1_taken_89 rfl (by rw [ci_1]) (by decide) rfl ?_
  refine r_goto hg 6 dX1_taken_92 (by decide) ?_
  refine r_sub hg [1, 2, 3, 4, 5, 6, 0] rfl ?_
  exact hk6 _ _ _ h
def b_X1_taken_6 (this : Nat) (x1 : Int32) (x2 : Int32) (x3 : Int32) (x4 : Int32) (k6 : Int32 → Int32 → qI → Option (Int32 × qI)) (x5 : Int32) (x6 : Int32) (I : qI) : Option (Int32 × qI) :=
  if (I this 8) ≤ x6 then
    some (x5, I)
  else
    q_b1 (q_rd I (this + 2) 60 x6) fun v3 =>
    if v3 = x1 then
      q_b1 (q_rd I (this + 6) 60 x6) fun v7 =>
      if v7 = 0 then
        q_b1 (q_rd I (this + 1) 60 x6) fun v11 =>
        q_b1 (f_X1_isUnder v11 x2 I) fun v13 =>
        if v13 = 0 then
          b_X1_taken_89 this x1 x2 x3 x4 k6 x5 x6 I
        else
          q_b1 (q_rd I (this + 3) 60 x6) fun v17 =>
          if x4 = 0 then
            b_X1_taken_89 this x1 x2 x3 x4 k6 (x5 + (q_min v17 (x3 - x5))) x6 I
          else
            q_b1 (f_X1_settle this x6 (q_min v17 (x3 - x5)) I) fun I20 =>
            b_X1_taken_89 this x1 x2 x3 x4 k6 (x5 + (q_min v17 (x3 - x5))) x6 I20
      else
        b_X1_taken_89 this x1 x2 x3 x4 k6 x5 x6 I
    else
      b_X1_taken_89 this x1 x2 x3 x4 k6 x5 x6 I
set_option maxRecDepth 100000 in
set_option maxHeartbeats 4000000 in
theorem p_X1_taken_6 {l : Launch} {Γ : qC} {g : qG} {z : Int32 × qI} {this : Nat} {x1 : Int32} {x2 : Int32} {x3 : Int32} {x4 : Int32} {X : qX} (hΓ : q_gm Γ) (hg : q_Ok l Γ RX1 cX1_taken 8 (q_rm 3 0 0) "taken" (some .int) g) (hr : q_Rt cX1_taken (some .int) (q_rm 3 0 0) (some (.int z.1), z.2, X) g) (hX : q_Lay X) (k_this : q_kd X this = some (3, 9)) {k6 : Int32 → Int32 → qI → Option (Int32 × qI)} (hk6 : ∀ (x5 : Int32) (x6 : Int32) (I : qI), k6 x5 x6 I = some z → g 0 0 6 [(0, .ref this), (1, .int x1), (2, .int x2), (3, .int x3), (4, .int x4), (5, .int x5), (6, .int x6)] [] I X) (x5 : Int32) (x6 : Int32) (I : qI) (h : b_X1_taken_6 this x1 x2 x3 x4 k6 x5 x6 I = some z) : g 0 0 6 [(0, .ref this), (1, .int x1), (2, .int x2), (3, .int x3), (4, .int x4), (5, .int x5), (6, .int x6)] [] I X := by
  unfold b_X1_taken_6 at h
  refine r_iload hg 6 dX1_taken_6 rfl ?_
  refine r_aload_n hg 0 dX1_taken_8 rfl rfl ?_
  refine r_getI hg dX1_taken_9 fl_X1_36 k_this rfl ?_
  refine r_icmp_ge hg 95 dX1_taken_12 (by decide) (fun c1 => ?_) (fun c1 => ?_)
  · rw [if_pos c1] at h
    refine r_iload hg 5 dX1_taken_95 rfl ?_
    exact r_ireturn hr dX1_taken_97 ⟨Nat.zero_le _, Nat.zero_le _⟩ ⟨_, rfl, rfl⟩ (by cases h; rfl)
  · rw [if_neg c1] at h
    refine r_aload_n hg 0 dX1_taken_15 rfl rfl ?_
    have e2 := ly_1_1 hX k_this
    refine r_getR hg dX1_taken_16 fl_X1_15 k_this rfl e2.1 ?_
    refine r_iload hg 6 dX1_taken_19 rfl ?_
    obtain ⟨v3, e4, h⟩ := q_b1_some h
    refine r_iald hg dX1_taken_21 e2.2 e4 ?_
    refine r_iload_n hg 1 dX1_taken_22 rfl rfl ?_
    refine r_icmp_ne hg 89 dX1_taken_23 (by decide) (fun c5 => ?_) (fun c5 => ?_)
    · rw [if_neg c5] at h
      exact p_X1_taken_89 hΓ hg hr hX k_this hk6 _ _ _ h
    · rw [if_pos (Classical.not_not.mp c5)] at h
      refine r_aload_n hg 0 dX1_taken_26 rfl rfl ?_
      have e6 := ly_1_5 hX k_this
      refine r_getR hg dX1_taken_27 fl_X1_27 k_this rfl e6.1 ?_
      refine r_iload hg 6 dX1_taken_30 rfl ?_
      obtain ⟨v7, e8, h⟩ := q_b1_some h
      refine r_iald hg dX1_taken_32 e6.2 e8 ?_
      refine r_if_ne hg 89 dX1_taken_33 (by decide) (fun c9 => ?_) (fun c9 => ?_)
      · rw [if_neg c9] at h
        exact p_X1_taken_89 hΓ hg hr hX k_this hk6 _ _ _ h
      · rw [if_pos (Classical.not_not.mp c9)] at h
        refine r_aload_n hg 0 dX1_taken_36 rfl rfl ?_
        have e10 := ly_1_0 hX k_this
        refine r_getR hg dX1_taken_37 fl_X1_11 k_this rfl e10.1 ?_
        refine r_iload hg 6 dX1_taken_40 rfl ?_
        obtain ⟨v11, e12, h⟩ := q_b1_some h
        refine r_iald hg dX1_taken_42 e10.2 e12 ?_
        refine r_iload_n hg 2 dX1_taken_43 rfl rfl ?_
        obtain ⟨v13, e14, h⟩ := q_b1_some h
        refine r_cS2i hg dX1_taken_44 mt_X1_isUnder ⟨ml_X1_55, mst_X1_isUnder⟩ (s_X1_isUnder hΓ hX e14) (q_room (Nat.le_of_ble_eq_true rfl) (Nat.le_of_ble_eq_true rfl)) ⟨Nat.zero_le _, Nat.zero_le _⟩ (Nat.le_of_ble_eq_true rfl) ?_
        refine r_if_ne hg 53 dX1_taken_47 (by decide) (fun c15 => ?_) (fun c15 => ?_)
        · rw [if_neg c15] at h
          refine r_aload_n hg 0 dX1_taken_53 rfl rfl ?_
          have e16 := ly_1_2 hX k_this
          refine r_getR hg dX1_taken_54 fl_X1_18 k_this rfl e16.1 ?_
          refine r_iload hg 6 dX1_taken_57 rfl ?_
          obtain ⟨v17, e18, h⟩ := q_b1_some h
          refine r_iald hg dX1_taken_59 e16.2 e18 ?_
          refine r_iload_n hg 3 dX1_taken_60 rfl rfl ?_
          refine r_iload hg 5 dX1_taken_61 rfl ?_
          refine r_isub hg dX1_taken_63 ?_
          refine r_minq hg dX1_taken_64 mm_X1_59 ⟨Nat.le_of_ble_eq_true rfl, Nat.le_of_ble_eq_true rfl⟩ ⟨Nat.zero_le _, Nat.zero_le _⟩ ?_
          refine r_istore hg (L' := [(7, .int (q_min v17 (x3 - x5))), (0, .ref this), (1, .int x1), (2, .int x2), (3, .int x3), (4, .int x4), (5, .int x5), (6, .int x6)]) dX1_taken_67 (by decide) rfl ?_
          refine r_iload hg 6 dX1_taken_69 rfl ?_
          refine r_iload hg 0 dX1_taken_71 rfl ?_
          refine r_iadd hg dX1_taken_73 ?_
          refine r_istore hg (L' := [(5, .int (x5 + (q_min v17 (x3 - x5)))), (7, .int (q_min v17 (x3 - x5))), (0, .ref this), (1, .int x1), (2, .int x2), (3, .int x3), (4, .int x4), (6, .int x6)]) dX1_taken_74 (by decide) rfl ?_
          refine r_iload hg 6 dX1_taken_76 rfl ?_
          refine r_if_eq hg 89 dX1_taken_78 (by decide) (fun c19 => ?_) (fun c19 => ?_)
          · rw [if_pos c19] at h
            refine r_sub hg [2, 3, 4, 5, 6, 0, 7] rfl ?_
            exact p_X1_taken_89 hΓ hg hr hX k_this hk6 _ _ _ h
          · rw [if_neg c19] at h
            refine r_aload_n hg 2 dX1_taken_81 rfl rfl ?_
            refine r_iload hg 7 dX1_taken_82 rfl ?_
            refine r_iload hg 1 dX1_taken_84 rfl ?_
            obtain ⟨I20, e21, h⟩ := q_b1_some h
            refine r_cV2v hg dX1_taken_86 mt_X1_settle ml_X1_65 mv_X1_settle k_this (s_X1_settle hΓ hX k_this e21) (q_room (Nat.le_of_ble_eq_true rfl) (Nat.le_of_ble_eq_true rfl)) ⟨Nat.zero_le _, Nat.zero_le _⟩ (Nat.le_of_ble_eq_true rfl) ?_
            refine r_sub hg [2, 3, 4, 5, 6, 0, 7] rfl ?_
            exact p_X1_taken_89 hΓ hg hr hX k_this hk6 _ _ _ h
        · rw [if_pos (Classical.not_not.mp c15)] at h
          refine r_goto hg 89 dX1_taken_50 (by decide) ?_
          exact p_X1_taken_89 hΓ hg hr hX k_this hk6 _ _ _ h
theorem pl_X1_taken_6 {l : Launch} {Γ : qC} {g : qG} {z : Int32 × qI} {this : Nat} {x1 : Int32} {x2 : Int32} {x3 : Int32} {x4 : Int32} {X : qX} (hΓ : q_gm Γ) (hg : q_Ok l Γ RX1 cX1_taken 8 (q_rm 3 0 0) "taken" (some .int) g) (hr : q_Rt cX1_taken (some .int) (q_rm 3 0 0) (some (.int z.1), z.2, X) g) (hX : q_Lay X) (k_this : q_kd X this = some (3, 9)) : ∀ (n : Nat) (x5 : Int32) (x6 : Int32) (I : qI), q_fix (fun _ _ _ => none) (b_X1_taken_6 this x1 x2 x3 x4) n x5 x6 I = some z → g 0 0 6 [(0, .ref this), (1, .int x1), (2, .int x2), (3, .int x3), (4, .int x4), (5, .int x5), (6, .int x6)] [] I X := by
  intro n
  induction n with
  | zero =>
    intro x5 x6 I h
    cases (show (none : Option (Int32 × qI)) = some z from h)
  | succ n ih =>
    intro x5 x6 I h
    exact p_X1_taken_6 hΓ hg hr hX k_this ih _ _ _ h
def f_X1_taken (this : Nat) (x1 : Int32) (x2 : Int32) (x3 : Int32) (x4 : Int32) (I : qI) : Option (Int32 × qI) :=
  q_fix (fun _ _ _ => none) (b_X1_taken_6 this x1 x2 x3 x4) q_fu (nI 0) (nI 0) I
set_option maxRecDepth 100000 in
set_option maxHeartbeats 4000000 in
theorem s_X1_taken {l : Launch} {Γ : qC} (hΓ : q_gm Γ) {X : qX} (hX : q_Lay X) {this : Nat} {x1 : Int32} {x2 : Int32} {x3 : Int32} {x4 : Int32} (k_this : q_kd X this = some (3, 9)) {I : qI} {z : Int32 × qI} (h : f_X1_taken this x1 x2 x3 x4 I = some z) : q_Sem l Γ (q_rm 3 0 0) yX1_taken cX1_taken 8 (some .int) [.ref this, .int x1, .int x2, .int x3, .int x4] I X (some (.int z.1), z.2, X) := by
  refine q_met (by decide) (Nat.le_of_ble_eq_true rfl) (fun g hg hr => ?_)
  unfold f_X1_taken at h
  show g 0 0 0 [(0, .ref this), (1, .int x1), (2, .int x2), (3, .int x3), (4, .int x4)] [] I X
  refine r_iconst hg dX1_taken_0 ci_0 ?_
  refine r_istore hg (L' := [(5, .int (nI 0)), (0, .ref this), (1, .int x1), (2, .int x2), (3, .int x3), (4, .int x4)]) dX1_taken_1 (by decide) rfl ?_
  refine r_iconst hg dX1_taken_3 ci_0 ?_
  refine r_istore hg (L' := [(6, .int (nI 0)), (5, .int (nI 0)), (0, .ref this), (1, .int x1), (2, .int x2), (3, .int x3), (4, .int x4)]) dX1_taken_4 (by decide) rfl ?_
  refine r_sub hg [2, 3, 4, 5, 6, 1, 0] rfl ?_
  exact pl_X1_taken_6 hΓ hg hr hX k_this _ _ _ _ h

def b_X2_become_40 (this : Nat) (x1 : Nat) (X : qX) (k2 : Int32 → qI → Option (qI)) (x2 : Int32) (I : qI) : Option (qI) :=
  k2 (x2 + (nI 1)) I
set_option maxRecDepth 100000 in
set_option maxHeartbeats 4000000 in
theorem p_X2_become_40 {l : Launch} {Γ : qC} {g : qG} {z : qI} {this : Nat} {x1 : Nat} {X : qX} (hΓ : q_gm Γ) (hg : q_Ok l Γ RX2 cX2_become 5 (q_rm 3 0 0) "become" none g) (hr : q_Rt cX2_become none (q_rm 3 0 0) (none, z, X) g) (hX : q_Lay X) (k_this : q_kd X this = some (4, 15)) (k_x1 : q_kd X x1 = some (4, 15)) {k2 : Int32 → qI → Option (qI)} (hk2 : ∀ (x2 : Int32) (I : qI), k2 x2 I = some z → g 0 0 2 [(0, .ref this), (1, .ref x1), (2, .int x2)] [] I X) (x2 : Int32) (I : qI) (h : b_X2_become_40 this x1 X k2 x2 I = some z) : g 0 0 40 [(0, .ref this), (1, .ref x1), (2, .int x2)] [] I X := by
  unfold b_X2_become_40 at h
  refine r_iinc hg 2 (v := (x2 + (nI 1))) (L' := [(2, .int (x2 + (nI 1))), (0, .ref this), (1, .ref x1)]) dX2_become_40 rfl (by rw [ci_1]) (by decide) rfl ?_
  refine r_goto hg 2 dX2_become_43 (by decide) ?_
  refine r_sub hg [1, 2, 0] rfl ?_
  exact hk2 _ _ h
def b_X2_become_2 (this : Nat) (x1 : Nat) (X : qX) (k2 : Int32 → qI → Option (qI)) (x2 : Int32) (I : qI) : Option (qI) :=
  if (nI 13) < x2 then
    q_b1 (q_cp I (x1 + 13) 72 (nI 0) (this + 13) 72 (nI 0) (nI 72)) fun I5 =>
    q_b1 (q_cp I5 (x1 + 14) 72 (nI 0) (this + 14) 72 (nI 0) (nI 72)) fun I15 =>
    q_b1 (some (q_up I15 this 14 (I15 x1 14))) fun I22 =>
    some (I22)
  else
    q_b1 (f_X2_row this x2) fun r24 =>
    q_b1 (f_X2_row x1 x2) fun r26 =>
    q_on r24 (
      b_X2_become_40 this x1 X k2 x2 I
    ) fun a29 =>
    q_on r26 (
      b_X2_become_40 this x1 X k2 x2 I
    ) fun a31 =>
    q_b2 (q_arr X (some a31)) fun a32 n33 =>
    q_b2 (q_arr X (some a29)) fun a37 n38 =>
    q_b1 (q_cp I a32 n33 (nI 0) a37 n38 (nI 0) (nI 12)) fun I42 =>
    b_X2_become_40 this x1 X k2 x2 I42
set_option maxRecDepth 100000 in
set_option maxHeartbeats 4000000 in
theorem p_X2_become_2 {l : Launch} {Γ : qC} {g : qG} {z : qI} {this : Nat} {x1 : Nat} {X : qX} (hΓ : q_gm Γ) (hg : q_Ok l Γ RX2 cX2_become 5 (q_rm 3 0 0) "become" none g) (hr : q_Rt cX2_become none (q_rm 3 0 0) (none, z, X) g) (hX : q_Lay X) (k_this : q_kd X this = some (4, 15)) (k_x1 : q_kd X x1 = some (4, 15)) {k2 : Int32 → qI → Option (qI)} (hk2 : ∀ (x2 : Int32) (I : qI), k2 x2 I = some z → g 0 0 2 [(0, .ref this), (1, .ref x1), (2, .int x2)] [] I X) (x2 : Int32) (I : qI) (h : b_X2_become_2 this x1 X k2 x2 I = some z) : g 0 0 2 [(0, .ref this), (1, .ref x1), (2, .int x2)] [] I X := by
  unfold b_X2_become_2 at h
  refine r_iload_n hg 2 dX2_become_2 rfl rfl ?_
  refine r_bipush hg dX2_become_3 cb_13 ?_
  refine r_icmp_gt hg 46 dX2_become_5 (by decide) (fun c1 => ?_) (fun c1 => ?_)
  · rw [if_pos c1] at h
    refine r_aload_n hg 1 dX2_become_46 rfl rfl ?_
    have e2 := ly_2_12 hX k_x1
    refine r_getR hg dX2_become_47 fl_X2_50 k_x1 rfl e2.1 ?_
    refine r_iconst hg dX2_become_50 ci_0 ?_
    refine r_aload_n hg 0 dX2_become_51 rfl rfl ?_
    have e3 := ly_2_12 hX k_this
    refine r_getR hg dX2_become_52 fl_X2_50 k_this rfl e3.1 ?_
    refine r_iconst hg dX2_become_55 ci_0 ?_
    refine r_aload_n hg 0 dX2_become_56 rfl rfl ?_
    have e4 := ly_2_12 hX k_this
    refine r_getR hg dX2_become_57 fl_X2_50 k_this rfl e4.1 ?_
    refine r_alen hg dX2_become_60 e4.2 ?_
    obtain ⟨I5, e6, h⟩ := q_b1_some h
    obtain ⟨⟨e7, e8, e9⟩, e10, e11, rfl⟩ := q_cp_some e6
    refine r_copy hg dX2_become_61 cp_X2_71 e2.2 e3.2 e7 e8 e9 e10 e11 ⟨Nat.le_of_ble_eq_true rfl, Nat.le_of_ble_eq_true rfl⟩ ?_
    refine r_aload_n hg 1 dX2_become_64 rfl rfl ?_
    have e12 := ly_2_13 hX k_x1
    refine r_getR hg dX2_become_65 fl_X2_53 k_x1 rfl e12.1 ?_
    refine r_iconst hg dX2_become_68 ci_0 ?_
    refine r_aload_n hg 0 dX2_become_69 rfl rfl ?_
    have e13 := ly_2_13 hX k_this
    refine r_getR hg dX2_become_70 fl_X2_53 k_this rfl e13.1 ?_
    refine r_iconst hg dX2_become_73 ci_0 ?_
    refine r_aload_n hg 0 dX2_become_74 rfl rfl ?_
    have e14 := ly_2_13 hX k_this
    refine r_getR hg dX2_become_75 fl_X2_53 k_this rfl e14.1 ?_
    refine r_alen hg dX2_become_78 e14.2 ?_
    obtain ⟨I15, e16, h⟩ := q_b1_some h
    obtain ⟨⟨e17, e18, e19⟩, e20, e21, rfl⟩ := q_cp_some e16
    refine r_copy hg dX2_become_79 cp_X2_71 e12.2 e13.2 e17 e18 e19 e20 e21 ⟨Nat.le_of_ble_eq_true rfl, Nat.le_of_ble_eq_true rfl⟩ ?_
    refine r_aload_n hg 0 dX2_become_82 rfl rfl ?_
    refine r_aload_n hg 1 dX2_become_83 rfl rfl ?_
    refine r_getI hg dX2_become_84 fl_X2_56 k_x1 rfl ?_
    obtain ⟨I22, e23, h⟩ := q_b1_some h
    obtain rfl := Option.some.inj e23
    refine r_putI hg dX2_become_87 fl_X2_56 k_this rfl ⟨rfl, rfl⟩ ?_
    exact r_return hr dX2_become_90 ⟨Nat.zero_le _, Nat.zero_le _⟩ rfl (by cases h; rfl)
  · rw [if_neg c1] at h
    refine r_aload_n hg 0 dX2_become_8 rfl rfl ?_
    refine r_iload_n hg 2 dX2_become_9 rfl rfl ?_
    obtain ⟨r24, e25, h⟩ := q_b1_some h
    refine r_cV1q hg dX2_become_10 mt_X2_row ml_X2_67 mv_X2_row k_this (s_X2_row hΓ hX k_this e25) (q_room (Nat.le_of_ble_eq_true rfl) (Nat.le_of_ble_eq_true rfl)) ⟨Nat.zero_le _, Nat.zero_le _⟩ (Nat.le_of_ble_eq_true rfl) ?_
    refine r_astoreq_n hg (L' := [(3, va_rf r24), (0, .ref this), (1, .ref x1), (2, .int x2)]) dX2_become_13 rfl (by decide) rfl ?_
    refine r_aload_n hg 2 dX2_become_14 rfl rfl ?_
    refine r_iload_n hg 3 dX2_become_15 rfl rfl ?_
    obtain ⟨r26, e27, h⟩ := q_b1_some h
    refine r_cV1q hg dX2_become_16 mt_X2_row ml_X2_67 mv_X2_row k_x1 (s_X2_row hΓ hX k_x1 e27) (q_room (Nat.le_of_ble_eq_true rfl) (Nat.le_of_ble_eq_true rfl)) ⟨Nat.zero_le _, Nat.zero_le _⟩ (Nat.le_of_ble_eq_true rfl) ?_
    refine r_astoreq hg (L' := [(4, va_rf r26), (3, va_rf r24), (0, .ref this), (1, .ref x1), (2, .int x2)]) dX2_become_19 (by decide) (by simp [List.filter, q_cat_rf]) ?_
    refine r_aloadq_n hg 1 dX2_become_21 rfl rfl ?_
    refine r_ifnull hg 40 dX2_become_22 (by decide) (fun e28 => ?_) (fun a29 e28 => ?_)
    · subst e28
      simp only [q_on] at h
      refine r_sub hg [2, 3, 4] rfl ?_
      exact p_X2_become_40 hΓ hg hr hX k_this k_x1 hk2 _ _ h
    · subst e28
      simp only [q_on] at h
      refine r_aloadq hg 0 dX2_become_25 rfl ?_
      refine r_ifnull hg 40 dX2_become_27 (by decide) (fun e30 => ?_) (fun a31 e30 => ?_)
      · subst e30
        simp only [q_on] at h
        refine r_sub hg [2, 3, 4] rfl ?_
        exact p_X2_become_40 hΓ hg hr hX k_this k_x1 hk2 _ _ h
      · subst e30
        simp only [q_on] at h
        refine r_aloadq hg 0 dX2_become_30 rfl ?_
        refine r_iconst hg dX2_become_32 ci_0 ?_
        refine r_aloadq_n hg 1 dX2_become_33 rfl rfl ?_
        refine r_iconst hg dX2_become_34 ci_0 ?_
        refine r_bipush hg dX2_become_35 cb_12 ?_
        replace h := q_b2_some h
        obtain ⟨a32, n33, e34, h⟩ := h
        obtain ⟨e36, k35⟩ := q_arr_some e34
        obtain rfl := Option.some.inj e36
        replace h := q_b2_some h
        obtain ⟨a37, n38, e39, h⟩ := h
        obtain ⟨e41, k40⟩ := q_arr_some e39
        obtain rfl := Option.some.inj e41
        obtain ⟨I42, e43, h⟩ := q_b1_some h
        obtain ⟨⟨e44, e45, e46⟩, e47, e48, rfl⟩ := q_cp_some e43
        refine r_copy hg dX2_become_37 cp_X2_71 k35 k40 e44 e45 e46 e47 e48 ⟨Nat.le_of_ble_eq_true rfl, Nat.le_of_ble_eq_true rfl⟩ ?_
        refine r_sub hg [2, 3, 4] rfl ?_
        exact p_X2_become_40 hΓ hg hr hX k_this k_x1 hk2 _ _ h
theorem pl_X2_become_2 {l : Launch} {Γ : qC} {g : qG} {z : qI} {this : Nat} {x1 : Nat} {X : qX} (hΓ : q_gm Γ) (hg : q_Ok l Γ RX2 cX2_become 5 (q_rm 3 0 0) "become" none g) (hr : q_Rt cX2_become none (q_rm 3 0 0) (none, z, X) g) (hX : q_Lay X) (k_this : q_kd X this = some (4, 15)) (k_x1 : q_kd X x1 = some (4, 15)) : ∀ (n : Nat) (x2 : Int32) (I : qI), q_fix (fun _ _ => none) (b_X2_become_2 this x1 X) n x2 I = some z → g 0 0 2 [(0, .ref this), (1, .ref x1), (2, .int x2)] [] I X := by
  intro n
  induction n with
  | zero =>
    intro x2 I h
    cases (show (none : Option (qI)) = some z from h)
  | succ n ih =>
    intro x2 I h
    exact p_X2_become_2 hΓ hg hr hX k_this k_x1 ih _ _ h
def f_X2_become (this : Nat) (x1 : Nat) (X : qX) (I : qI) : Option (qI) :=
  q_fix (fun _ _ => none) (b_X2_become_2 this x1 X) q_fu (nI 0) I
set_option maxRecDepth 100000 in
set_option maxHeartbeats 4000000 in
theorem s_X2_become {l : Launch} {Γ : qC} (hΓ : q_gm Γ) {X : qX} (hX : q_Lay X) {this : Nat} {x1 : Nat} (k_this : q_kd X this = some (4, 15)) (k_x1 : q_kd X x1 = some (4, 15)) {I : qI} {z : qI} (h : f_X2_become this x1 X I = some z) : q_Sem l Γ (q_rm 3 0 0) yX2_become cX2_become 5 none [.ref this, .ref x1] I X (none, z, X) := by
  refine q_met (by decide) (Nat.le_of_ble_eq_true rfl) (fun g hg hr => ?_)
  unfold f_X2_become at h
  show g 0 0 0 [(0, .ref this), (1, .ref x1)] [] I X
  refine r_iconst hg dX2_become_0 ci_0 ?_
  refine r_istore_n hg (L' := [(2, .int (nI 0)), (0, .ref this), (1, .ref x1)]) dX2_become_1 rfl (by decide) rfl ?_
  refine r_sub hg [1, 2, 0] rfl ?_
  exact pl_X2_become_2 hΓ hg hr hX k_this k_x1 _ _ _ h

def f_X2_getChecks (this : Nat) (x1 : Int32) (x2 : Int32) (I : qI) : Option (qI) :=
  q_b1 (q_rd I (this + 6) 12 x1) fun v3 =>
  q_b1 (q_wr I (this + 6) 12 x1 (q_min (nI 99999) (v3 + x2))) fun I5 =>
  some (I5)
set_option maxRecDepth 100000 in
set_option maxHeartbeats 4000000 in
theorem s_X2_getChecks {l : Launch} {Γ : qC} (hΓ : q_gm Γ) {X : qX} (hX : q_Lay X) {this : Nat} {x1 : Int32} {x2 : Int32} (k_this : q_kd X this = some (4, 15)) {I : qI} {z : qI} (h : f_X2_getChecks this x1 x2 I = some z) : q_Sem l Γ (q_rm 3 0 0) yX2_getChecks cX2_getChecks 3 none [.ref this, .int x1, .int x2] I X (none, z, X) := by
  refine q_met (by decide) (Nat.le_of_ble_eq_true rfl) (fun g hg hr => ?_)
  unfold f_X2_getChecks at h
  show g 0 0 0 [(0, .ref this), (1, .int x1), (2, .int x2)] [] I X
  refine r_aload_n hg 0 dX2_getChecks_0 rfl rfl ?_
  have e1 := ly_2_5 hX k_this
  refine r_getR hg dX2_getChecks_1 fl_X2_27 k_this rfl e1.1 ?_
  refine r_iload_n hg 1 dX2_getChecks_4 rfl rfl ?_
  refine r_ldc hg dX2_getChecks_5 kc_X2_81 ?_
  refine r_aload_n hg 0 dX2_getChecks_7 rfl rfl ?_
  have e2 := ly_2_5 hX k_this
  refine r_getR hg dX2_getChecks_8 fl_X2_27 k_this rfl e2.1 ?_
  refine r_iload_n hg 1 dX2_getChecks_11 rfl rfl ?_
  obtain ⟨v3, e4, h⟩ := q_b1_some h
  refine r_iald hg dX2_getChecks_12 e2.2 e4 ?_
  refine r_iload_n hg 2 dX2_getChecks_13 rfl rfl ?_
  refine r_iadd hg dX2_getChecks_14 ?_
  refine r_minq hg dX2_getChecks_15 mm_X2_82 ⟨Nat.le_of_ble_eq_true rfl, Nat.le_of_ble_eq_true rfl⟩ ⟨Nat.zero_le _, Nat.zero_le _⟩ ?_
  obtain ⟨I5, e6, h⟩ := q_b1_some h
  refine r_iast hg dX2_getChecks_18 e1.2 e6 ?_
  exact r_return hr dX2_getChecks_19 ⟨Nat.zero_le _, Nat.zero_le _⟩ rfl (by cases h; rfl)

def f_X2_getCoin (this : Nat) (x1 : Int32) (x2 : Int32) (I : qI) : Option (qI) :=
  q_b1 (q_rd I (this + 5) 12 x1) fun v3 =>
  q_b1 (q_wr I (this + 5) 12 x1 (q_min (nI 99999) (v3 + x2))) fun I5 =>
  some (I5)
set_option maxRecDepth 100000 in
set_option maxHeartbeats 4000000 in
theorem s_X2_getCoin {l : Launch} {Γ : qC} (hΓ : q_gm Γ) {X : qX} (hX : q_Lay X) {this : Nat} {x1 : Int32} {x2 : Int32} (k_this : q_kd X this = some (4, 15)) {I : qI} {z : qI} (h : f_X2_getCoin this x1 x2 I = some z) : q_Sem l Γ (q_rm 3 0 0) yX2_getCoin cX2_getCoin 3 none [.ref this, .int x1, .int x2] I X (none, z, X) := by
  refine q_met (by decide) (Nat.le_of_ble_eq_true rfl) (fun g hg hr => ?_)
  unfold f_X2_getCoin at h
  show g 0 0 0 [(0, .ref this), (1, .int x1), (2, .int x2)] [] I X
  refine r_aload_n hg 0 dX2_getCoin_0 rfl rfl ?_
  have e1 := ly_2_4 hX k_this
  refine r_getR hg dX2_getCoin_1 fl_X2_24 k_this rfl e1.1 ?_
  refine r_iload_n hg 1 dX2_getCoin_4 rfl rfl ?_
  refine r_ldc hg dX2_getCoin_5 kc_X2_81 ?_
  refine r_aload_n hg 0 dX2_getCoin_7 rfl rfl ?_
  have e2 := ly_2_4 hX k_this
  refine r_getR hg dX2_getCoin_8 fl_X2_24 k_this rfl e2.1 ?_
  refine r_iload_n hg 1 dX2_getCoin_11 rfl rfl ?_
  obtain ⟨v3, e4, h⟩ := q_b1_some h
  refine r_iald hg dX2_getCoin_12 e2.2 e4 ?_
  refine r_iload_n hg 2 dX2_getCoin_13 rfl rfl ?_
  refine r_iadd hg dX2_getCoin_14 ?_
  refine r_minq hg dX2_getCoin_15 mm_X2_82 ⟨Nat.le_of_ble_eq_true rfl, Nat.le_of_ble_eq_true rfl⟩ ⟨Nat.zero_le _, Nat.zero_le _⟩ ?_
  obtain ⟨I5, e6, h⟩ := q_b1_some h
  refine r_iast hg dX2_getCoin_18 e1.2 e6 ?_
  exact r_return hr dX2_getCoin_19 ⟨Nat.zero_le _, Nat.zero_le _⟩ rfl (by cases h; rfl)

def b_X2_inPit_33 (this : Nat) (x1 : Int32) (I : qI) (k4 : Int32 → Int32 → Option (Int32)) (x2 : Int32) (x3 : Int32) : Option (Int32) :=
  k4 x2 (x3 + (nI 1))
set_option maxRecDepth 100000 in
set_option maxHeartbeats 4000000 in
theorem p_X2_inPit_33 {l : Launch} {Γ : qC} {g : qG} {z : Int32} {this : Nat} {x1 : Int32} {X : qX} {I : qI} (hΓ : q_gm Γ) (hg : q_Ok l Γ RX2 cX2_inPit 4 (q_rm 3 0 0) "inPit" (some .int) g) (hr : q_Rt cX2_inPit (some .int) (q_rm 3 0 0) (some (.int z), I, X) g) (hX : q_Lay X) (k_this : q_kd X this = some (4, 15)) {k4 : Int32 → Int32 → Option (Int32)} (hk4 : ∀ (x2 : Int32) (x3 : Int32), k4 x2 x3 = some z → g 0 0 4 [(0, .ref this), (1, .int x1), (2, .int x2), (3, .int x3)] [] I X) (x2 : Int32) (x3 : Int32) (h : b_X2_inPit_33 this x1 I k4 x2 x3 = some z) : g 0 0 33 [(0, .ref this), (1, .int x1), (2, .int x2), (3, .int x3)] [] I X := by
  unfold b_X2_inPit_33 at h
  refine r_iinc hg 3 (v := (x3 + (nI 1))) (L' := [(3, .int (x3 + (nI 1))), (0, .ref this), (1, .int x1), (2, .int x2)]) dX2_inPit_33 rfl (by rw [ci_1]) (by decide) rfl ?_
  refine r_goto hg 4 dX2_inPit_36 (by decide) ?_
  refine r_sub hg [1, 2, 3, 0] rfl ?_
  exact hk4 _ _ h
def b_X2_inPit_4 (this : Nat) (x1 : Int32) (I : qI) (k4 : Int32 → Int32 → Option (Int32)) (x2 : Int32) (x3 : Int32) : Option (Int32) :=
  if (I this 14) ≤ x3 then
    some (x2)
  else
    q_b1 (q_rd I (this + 1) 12 x3) fun v3 =>
    if v3 = x1 then
      q_b1 (f_X2_isGone this x3 I) fun v6 =>
      if v6 = 0 then
        b_X2_inPit_33 this x1 I k4 (x2 + (nI 1)) x3
      else
        b_X2_inPit_33 this x1 I k4 x2 x3
    else
      b_X2_inPit_33 this x1 I k4 x2 x3
set_option maxRecDepth 100000 in
set_option maxHeartbeats 4000000 in
theorem p_X2_inPit_4 {l : Launch} {Γ : qC} {g : qG} {z : Int32} {this : Nat} {x1 : Int32} {X : qX} {I : qI} (hΓ : q_gm Γ) (hg : q_Ok l Γ RX2 cX2_inPit 4 (q_rm 3 0 0) "inPit" (some .int) g) (hr : q_Rt cX2_inPit (some .int) (q_rm 3 0 0) (some (.int z), I, X) g) (hX : q_Lay X) (k_this : q_kd X this = some (4, 15)) {k4 : Int32 → Int32 → Option (Int32)} (hk4 : ∀ (x2 : Int32) (x3 : Int32), k4 x2 x3 = some z → g 0 0 4 [(0, .ref this), (1, .int x1), (2, .int x2), (3, .int x3)] [] I X) (x2 : Int32) (x3 : Int32) (h : b_X2_inPit_4 this x1 I k4 x2 x3 = some z) : g 0 0 4 [(0, .ref this), (1, .int x1), (2, .int x2), (3, .int x3)] [] I X := by
  unfold b_X2_inPit_4 at h
  refine r_iload_n hg 3 dX2_inPit_4 rfl rfl ?_
  refine r_aload_n hg 0 dX2_inPit_5 rfl rfl ?_
  refine r_getI hg dX2_inPit_6 fl_X2_56 k_this rfl ?_
  refine r_icmp_ge hg 39 dX2_inPit_9 (by decide) (fun c1 => ?_) (fun c1 => ?_)
  · rw [if_pos c1] at h
    refine r_iload_n hg 2 dX2_inPit_39 rfl rfl ?_
    exact r_ireturn hr dX2_inPit_40 ⟨Nat.zero_le _, Nat.zero_le _⟩ ⟨_, rfl, rfl⟩ (by cases h; rfl)
  · rw [if_neg c1] at h
    refine r_aload_n hg 0 dX2_inPit_12 rfl rfl ?_
    have e2 := ly_2_0 hX k_this
    refine r_getR hg dX2_inPit_13 fl_X2_11 k_this rfl e2.1 ?_
    refine r_iload_n hg 3 dX2_inPit_16 rfl rfl ?_
    obtain ⟨v3, e4, h⟩ := q_b1_some h
    refine r_iald hg dX2_inPit_17 e2.2 e4 ?_
    refine r_iload_n hg 1 dX2_inPit_18 rfl rfl ?_
    refine r_icmp_ne hg 33 dX2_inPit_19 (by decide) (fun c5 => ?_) (fun c5 => ?_)
    · rw [if_neg c5] at h
      exact p_X2_inPit_33 hΓ hg hr hX k_this hk4 _ _ h
    · rw [if_pos (Classical.not_not.mp c5)] at h
      refine r_aload_n hg 0 dX2_inPit_22 rfl rfl ?_
      refine r_iload_n hg 3 dX2_inPit_23 rfl rfl ?_
      obtain ⟨v6, e7, h⟩ := q_b1_some h
      refine r_cV1i hg dX2_inPit_24 mt_X2_isGone ml_X2_77 mv_X2_isGone k_this (s_X2_isGone hΓ hX k_this e7) (q_room (Nat.le_of_ble_eq_true rfl) (Nat.le_of_ble_eq_true rfl)) ⟨Nat.zero_le _, Nat.zero_le _⟩ (Nat.le_of_ble_eq_true rfl) ?_
      refine r_if_ne hg 33 dX2_inPit_27 (by decide) (fun c8 => ?_) (fun c8 => ?_)
      · rw [if_neg c8] at h
        exact p_X2_inPit_33 hΓ hg hr hX k_this hk4 _ _ h
      · rw [if_pos (Classical.not_not.mp c8)] at h
        refine r_iinc hg 2 (v := (x2 + (nI 1))) (L' := [(2, .int (x2 + (nI 1))), (0, .ref this), (1, .int x1), (3, .int x3)]) dX2_inPit_30 rfl (by rw [ci_1]) (by decide) rfl ?_
        refine r_sub hg [1, 2, 0, 3] rfl ?_
        exact p_X2_inPit_33 hΓ hg hr hX k_this hk4 _ _ h
theorem pl_X2_inPit_4 {l : Launch} {Γ : qC} {g : qG} {z : Int32} {this : Nat} {x1 : Int32} {X : qX} {I : qI} (hΓ : q_gm Γ) (hg : q_Ok l Γ RX2 cX2_inPit 4 (q_rm 3 0 0) "inPit" (some .int) g) (hr : q_Rt cX2_inPit (some .int) (q_rm 3 0 0) (some (.int z), I, X) g) (hX : q_Lay X) (k_this : q_kd X this = some (4, 15)) : ∀ (n : Nat) (x2 : Int32) (x3 : Int32), q_fix (fun _ _ => none) (b_X2_inPit_4 this x1 I) n x2 x3 = some z → g 0 0 4 [(0, .ref this), (1, .int x1), (2, .int x2), (3, .int x3)] [] I X := by
  intro n
  induction n with
  | zero =>
    intro x2 x3 h
    cases (show (none : Option (Int32)) = some z from h)
  | succ n ih =>
    intro x2 x3 h
    exact p_X2_inPit_4 hΓ hg hr hX k_this ih _ _ h
def f_X2_inPit (this : Nat) (x1 : Int32) (I : qI) : Option (Int32) :=
  q_fix (fun _ _ => none) (b_X2_inPit_4 this x1 I) q_fu (nI 0) (nI 0)
set_option maxRecDepth 100000 in
set_option maxHeartbeats 4000000 in
theorem s_X2_inPit {l : Launch} {Γ : qC} (hΓ : q_gm Γ) {X : qX} (hX : q_Lay X) {this : Nat} {x1 : Int32} (k_this : q_kd X this = some (4, 15)) {I : qI} {z : Int32} (h : f_X2_inPit this x1 I = some z) : q_Sem l Γ (q_rm 3 0 0) yX2_inPit cX2_inPit 4 (some .int) [.ref this, .int x1] I X (some (.int z), I, X) := by
  refine q_met (by decide) (Nat.le_of_ble_eq_true rfl) (fun g hg hr => ?_)
  unfold f_X2_inPit at h
  show g 0 0 0 [(0, .ref this), (1, .int x1)] [] I X
  refine r_iconst hg dX2_inPit_0 ci_0 ?_
  refine r_istore_n hg (L' := [(2, .int (nI 0)), (0, .ref this), (1, .int x1)]) dX2_inPit_1 rfl (by decide) rfl ?_
  refine r_iconst hg dX2_inPit_2 ci_0 ?_
  refine r_istore_n hg (L' := [(3, .int (nI 0)), (2, .int (nI 0)), (0, .ref this), (1, .int x1)]) dX2_inPit_3 rfl (by decide) rfl ?_
  refine r_sub hg [2, 3, 1, 0] rfl ?_
  exact pl_X2_inPit_4 hΓ hg hr hX k_this _ _ _ h

def b_X5_goOn_278 (this : Nat) (I : qI) : Option (qI) :=
  q_b1 (some (q_up I this 3 (nI 4))) fun I1 =>
  some (I1)
set_option maxRecDepth 100000 in
set_option maxHeartbeats 4000000 in
theorem p_X5_goOn_278 {l : Launch} {Γ : qC} {g : qG} {z : qI} {this : Nat} {X : qX} (hΓ : q_gm Γ) (hg : q_Ok l Γ RX5 cX5_goOn 2 (q_rm 3 0 0) "goOn" none g) (hr : q_Rt cX5_goOn none (q_rm 3 0 0) (none, z, X) g) (hX : q_Lay X) (k_this : q_kd X this = some (7, 9)) (I : qI) (h : b_X5_goOn_278 this I = some z) : g 0 0 278 [(0, .ref this)] [] I X := by
  unfold b_X5_goOn_278 at h
  refine r_aload_n hg 0 dX5_goOn_278 rfl rfl ?_
  refine r_iconst hg dX5_goOn_279 ci_4 ?_
  obtain ⟨I1, e2, h⟩ := q_b1_some h
  obtain rfl := Option.some.inj e2
  refine r_putI hg dX5_goOn_280 fl_X5_32 k_this rfl ⟨rfl, rfl⟩ ?_
  exact r_return hr dX5_goOn_283 ⟨Nat.zero_le _, Nat.zero_le _⟩ rfl (by cases h; rfl)
def b_X5_goOn_254 (this : Nat) (x1 : Int32) (I : qI) : Option (qI) :=
  if (I this 4) = x1 then
    if (I this 3) = (nI 1) then
      b_X5_goOn_278 this I
    else
      if (I this 3) = (nI 2) then
        b_X5_goOn_278 this I
      else
        some (I)
  else
    some (I)
set_option maxRecDepth 100000 in
set_option maxHeartbeats 4000000 in
theorem p_X5_goOn_254 {l : Launch} {Γ : qC} {g : qG} {z : qI} {this : Nat} {X : qX} (hΓ : q_gm Γ) (hg : q_Ok l Γ RX5 cX5_goOn 2 (q_rm 3 0 0) "goOn" none g) (hr : q_Rt cX5_goOn none (q_rm 3 0 0) (none, z, X) g) (hX : q_Lay X) (k_this : q_kd X this = some (7, 9)) (x1 : Int32) (I : qI) (h : b_X5_goOn_254 this x1 I = some z) : g 0 0 254 [(0, .ref this), (1, .int x1)] [] I X := by
  unfold b_X5_goOn_254 at h
  refine r_aload_n hg 0 dX5_goOn_254 rfl rfl ?_
  refine r_getI hg dX5_goOn_255 fl_X5_48 k_this rfl ?_
  refine r_iload_n hg 1 dX5_goOn_258 rfl rfl ?_
  refine r_icmp_ne hg 283 dX5_goOn_259 (by decide) (fun c1 => ?_) (fun c1 => ?_)
  · rw [if_neg c1] at h
    exact r_return hr dX5_goOn_283 ⟨Nat.zero_le _, Nat.zero_le _⟩ rfl (by cases h; rfl)
  · rw [if_pos (Classical.not_not.mp c1)] at h
    refine r_aload_n hg 0 dX5_goOn_262 rfl rfl ?_
    refine r_getI hg dX5_goOn_263 fl_X5_32 k_this rfl ?_
    refine r_iconst hg dX5_goOn_266 ci_1 ?_
    refine r_icmp_eq hg 278 dX5_goOn_267 (by decide) (fun c2 => ?_) (fun c2 => ?_)
    · rw [if_pos c2] at h
      refine r_sub hg [0] rfl ?_
      exact p_X5_goOn_278 hΓ hg hr hX k_this _ h
    · rw [if_neg c2] at h
      refine r_aload_n hg 0 dX5_goOn_270 rfl rfl ?_
      refine r_getI hg dX5_goOn_271 fl_X5_32 k_this rfl ?_
      refine r_iconst hg dX5_goOn_274 ci_2 ?_
      refine r_icmp_ne hg 283 dX5_goOn_275 (by decide) (fun c3 => ?_) (fun c3 => ?_)
      · rw [if_neg c3] at h
        exact r_return hr dX5_goOn_283 ⟨Nat.zero_le _, Nat.zero_le _⟩ rfl (by cases h; rfl)
      · rw [if_pos (Classical.not_not.mp c3)] at h
        refine r_sub hg [0] rfl ?_
        exact p_X5_goOn_278 hΓ hg hr hX k_this _ h
def b_X5_goOn_233 (this : Nat) (x1 : Int32) (s1 : Int32) (I : qI) : Option (qI) :=
  q_b1 (some (q_up I this 3 s1)) fun I1 =>
  b_X5_goOn_254 this x1 I1
set_option maxRecDepth 100000 in
set_option maxHeartbeats 4000000 in
theorem p_X5_goOn_233 {l : Launch} {Γ : qC} {g : qG} {z : qI} {this : Nat} {X : qX} (hΓ : q_gm Γ) (hg : q_Ok l Γ RX5 cX5_goOn 2 (q_rm 3 0 0) "goOn" none g) (hr : q_Rt cX5_goOn none (q_rm 3 0 0) (none, z, X) g) (hX : q_Lay X) (k_this : q_kd X this = some (7, 9)) (x1 : Int32) (s1 : Int32) (I : qI) (h : b_X5_goOn_233 this x1 s1 I = some z) : g 0 0 233 [(0, .ref this), (1, .int x1)] [.int s1, .ref this] I X := by
  unfold b_X5_goOn_233 at h
  obtain ⟨I1, e2, h⟩ := q_b1_some h
  obtain rfl := Option.some.inj e2
  refine r_putI hg dX5_goOn_233 fl_X5_32 k_this rfl ⟨rfl, rfl⟩ ?_
  refine r_goto hg 254 dX5_goOn_236 (by decide) ?_
  exact p_X5_goOn_254 hΓ hg hr hX k_this _ _ h
def b_X5_goOn_214 (this : Nat) (x1 : Int32) (I : qI) : Option (qI) :=
  if ((I this 5) - (I this 4)) ≤ (nI 4) then
    b_X5_goOn_233 this x1 (nI 2) I
  else
    b_X5_goOn_233 this x1 (nI 4) I
set_option maxRecDepth 100000 in
set_option maxHeartbeats 4000000 in
theorem p_X5_goOn_214 {l : Launch} {Γ : qC} {g : qG} {z : qI} {this : Nat} {X : qX} (hΓ : q_gm Γ) (hg : q_Ok l Γ RX5 cX5_goOn 2 (q_rm 3 0 0) "goOn" none g) (hr : q_Rt cX5_goOn none (q_rm 3 0 0) (none, z, X) g) (hX : q_Lay X) (k_this : q_kd X this = some (7, 9)) (x1 : Int32) (I : qI) (h : b_X5_goOn_214 this x1 I = some z) : g 0 0 214 [(0, .ref this), (1, .int x1)] [] I X := by
  unfold b_X5_goOn_214 at h
  refine r_aload_n hg 0 dX5_goOn_214 rfl rfl ?_
  refine r_aload_n hg 0 dX5_goOn_215 rfl rfl ?_
  refine r_getI hg dX5_goOn_216 fl_X5_35 k_this rfl ?_
  refine r_aload_n hg 0 dX5_goOn_219 rfl rfl ?_
  refine r_getI hg dX5_goOn_220 fl_X5_48 k_this rfl ?_
  refine r_isub hg dX5_goOn_223 ?_
  refine r_iconst hg dX5_goOn_224 ci_4 ?_
  refine r_icmp_le hg 232 dX5_goOn_225 (by decide) (fun c1 => ?_) (fun c1 => ?_)
  · rw [if_pos c1] at h
    refine r_iconst hg dX5_goOn_232 ci_2 ?_
    exact p_X5_goOn_233 hΓ hg hr hX k_this _ _ _ h
  · rw [if_neg c1] at h
    refine r_iconst hg dX5_goOn_228 ci_4 ?_
    refine r_goto hg 233 dX5_goOn_229 (by decide) ?_
    exact p_X5_goOn_233 hΓ hg hr hX k_this _ _ _ h
def b_X5_goOn_175 (this : Nat) (k175 : Int32 → qI → Option (qI)) (x1 : Int32) (I : qI) : Option (qI) :=
  if (I this 6) ≤ (I this 5) then
    b_X5_goOn_214 this x1 I
  else
    q_b1 (q_rd I (this + 1) 96 (I this 5)) fun v3 =>
    q_b1 (f_X5_isDigit v3) fun v5 =>
    if v5 = 0 then
      b_X5_goOn_214 this x1 I
    else
      q_b1 (some (q_up I this 5 ((I this 5) + (nI 1)))) fun I8 =>
      k175 x1 I8
set_option maxRecDepth 100000 in
set_option maxHeartbeats 4000000 in
theorem p_X5_goOn_175 {l : Launch} {Γ : qC} {g : qG} {z : qI} {this : Nat} {X : qX} (hΓ : q_gm Γ) (hg : q_Ok l Γ RX5 cX5_goOn 2 (q_rm 3 0 0) "goOn" none g) (hr : q_Rt cX5_goOn none (q_rm 3 0 0) (none, z, X) g) (hX : q_Lay X) (k_this : q_kd X this = some (7, 9)) {k175 : Int32 → qI → Option (qI)} (hk175 : ∀ (x1 : Int32) (I : qI), k175 x1 I = some z → g 0 0 175 [(0, .ref this), (1, .int x1)] [] I X) (x1 : Int32) (I : qI) (h : b_X5_goOn_175 this k175 x1 I = some z) : g 0 0 175 [(0, .ref this), (1, .int x1)] [] I X := by
  unfold b_X5_goOn_175 at h
  refine r_aload_n hg 0 dX5_goOn_175 rfl rfl ?_
  refine r_getI hg dX5_goOn_176 fl_X5_35 k_this rfl ?_
  refine r_aload_n hg 0 dX5_goOn_179 rfl rfl ?_
  refine r_getI hg dX5_goOn_180 fl_X5_16 k_this rfl ?_
  refine r_icmp_ge hg 214 dX5_goOn_183 (by decide) (fun c1 => ?_) (fun c1 => ?_)
  · rw [if_pos c1] at h
    exact p_X5_goOn_214 hΓ hg hr hX k_this _ _ h
  · rw [if_neg c1] at h
    refine r_aload_n hg 0 dX5_goOn_186 rfl rfl ?_
    have e2 := ly_5_0 hX k_this
    refine r_getR hg dX5_goOn_187 fl_X5_9 k_this rfl e2.1 ?_
    refine r_aload_n hg 0 dX5_goOn_190 rfl rfl ?_
    refine r_getI hg dX5_goOn_191 fl_X5_35 k_this rfl ?_
    obtain ⟨v3, e4, h⟩ := q_b1_some h
    refine r_iald hg dX5_goOn_194 e2.2 e4 ?_
    obtain ⟨v5, e6, h⟩ := q_b1_some h
    refine r_cS1i hg dX5_goOn_195 mt_X5_isDigit ⟨ml_X5_59, mst_X5_isDigit⟩ (s_X5_isDigit hΓ hX e6) (q_room (Nat.le_of_ble_eq_true rfl) (Nat.le_of_ble_eq_true rfl)) ⟨Nat.zero_le _, Nat.zero_le _⟩ (Nat.le_of_ble_eq_true rfl) ?_
    refine r_if_eq hg 214 dX5_goOn_198 (by decide) (fun c7 => ?_) (fun c7 => ?_)
    · rw [if_pos c7] at h
      exact p_X5_goOn_214 hΓ hg hr hX k_this _ _ h
    · rw [if_neg c7] at h
      refine r_aload_n hg 0 dX5_goOn_201 rfl rfl ?_
      refine r_dup hg dX5_goOn_202 rfl ?_
      refine r_getI hg dX5_goOn_203 fl_X5_35 k_this rfl ?_
      refine r_iconst hg dX5_goOn_206 ci_1 ?_
      refine r_iadd hg dX5_goOn_207 ?_
      obtain ⟨I8, e9, h⟩ := q_b1_some h
      obtain rfl := Option.some.inj e9
      refine r_putI hg dX5_goOn_208 fl_X5_35 k_this rfl ⟨rfl, rfl⟩ ?_
      refine r_goto hg 175 dX5_goOn_211 (by decide) ?_
      exact hk175 _ _ h
theorem pl_X5_goOn_175 {l : Launch} {Γ : qC} {g : qG} {z : qI} {this : Nat} {X : qX} (hΓ : q_gm Γ) (hg : q_Ok l Γ RX5 cX5_goOn 2 (q_rm 3 0 0) "goOn" none g) (hr : q_Rt cX5_goOn none (q_rm 3 0 0) (none, z, X) g) (hX : q_Lay X) (k_this : q_kd X this = some (7, 9)) : ∀ (n : Nat) (x1 : Int32) (I : qI), q_fix (fun _ _ => none) (b_X5_goOn_175 this) n x1 I = some z → g 0 0 175 [(0, .ref this), (1, .int x1)] [] I X := by
  intro n
  induction n with
  | zero =>
    intro x1 I h
    cases (show (none : Option (qI)) = some z from h)
  | succ n ih =>
    intro x1 I h
    exact p_X5_goOn_175 hΓ hg hr hX k_this ih _ _ h
def b_X5_goOn_152 (this : Nat) (x1 : Int32) (I : qI) : Option (qI) :=
  q_b1 (some (q_up I this 3 (nI 1))) fun I1 =>
  b_X5_goOn_254 this x1 I1
set_option maxRecDepth 100000 in
set_option maxHeartbeats 4000000 in
theorem p_X5_goOn_152 {l : Launch} {Γ : qC} {g : qG} {z : qI} {this : Nat} {X : qX} (hΓ : q_gm Γ) (hg : q_Ok l Γ RX5 cX5_goOn 2 (q_rm 3 0 0) "goOn" none g) (hr : q_Rt cX5_goOn none (q_rm 3 0 0) (none, z, X) g) (hX : q_Lay X) (k_this : q_kd X this = some (7, 9)) (x1 : Int32) (I : qI) (h : b_X5_goOn_152 this x1 I = some z) : g 0 0 152 [(0, .ref this), (1, .int x1)] [] I X := by
  unfold b_X5_goOn_152 at h
  refine r_aload_n hg 0 dX5_goOn_152 rfl rfl ?_
  refine r_iconst hg dX5_goOn_153 ci_1 ?_
  obtain ⟨I1, e2, h⟩ := q_b1_some h
  obtain rfl := Option.some.inj e2
  refine r_putI hg dX5_goOn_154 fl_X5_32 k_this rfl ⟨rfl, rfl⟩ ?_
  refine r_goto hg 254 dX5_goOn_157 (by decide) ?_
  exact p_X5_goOn_254 hΓ hg hr hX k_this _ _ h
def b_X5_goOn_113 (this : Nat) (k113 : Int32 → qI → Option (qI)) (x1 : Int32) (I : qI) : Option (qI) :=
  if (I this 6) ≤ (I this 5) then
    b_X5_goOn_152 this x1 I
  else
    q_b1 (q_rd I (this + 1) 96 (I this 5)) fun v3 =>
    q_b1 (f_X5_isLetter v3) fun v5 =>
    if v5 = 0 then
      b_X5_goOn_152 this x1 I
    else
      q_b1 (some (q_up I this 5 ((I this 5) + (nI 1)))) fun I8 =>
      k113 x1 I8
set_option maxRecDepth 100000 in
set_option maxHeartbeats 4000000 in
theorem p_X5_goOn_113 {l : Launch} {Γ : qC} {g : qG} {z : qI} {this : Nat} {X : qX} (hΓ : q_gm Γ) (hg : q_Ok l Γ RX5 cX5_goOn 2 (q_rm 3 0 0) "goOn" none g) (hr : q_Rt cX5_goOn none (q_rm 3 0 0) (none, z, X) g) (hX : q_Lay X) (k_this : q_kd X this = some (7, 9)) {k113 : Int32 → qI → Option (qI)} (hk113 : ∀ (x1 : Int32) (I : qI), k113 x1 I = some z → g 0 0 113 [(0, .ref this), (1, .int x1)] [] I X) (x1 : Int32) (I : qI) (h : b_X5_goOn_113 this k113 x1 I = some z) : g 0 0 113 [(0, .ref this), (1, .int x1)] [] I X := by
  unfold b_X5_goOn_113 at h
  refine r_aload_n hg 0 dX5_goOn_113 rfl rfl ?_
  refine r_getI hg dX5_goOn_114 fl_X5_35 k_this rfl ?_
  refine r_aload_n hg 0 dX5_goOn_117 rfl rfl ?_
  refine r_getI hg dX5_goOn_118 fl_X5_16 k_this rfl ?_
  refine r_icmp_ge hg 152 dX5_goOn_121 (by decide) (fun c1 => ?_) (fun c1 => ?_)
  · rw [if_pos c1] at h
    exact p_X5_goOn_152 hΓ hg hr hX k_this _ _ h
  · rw [if_neg c1] at h
    refine r_aload_n hg 0 dX5_goOn_124 rfl rfl ?_
    have e2 := ly_5_0 hX k_this
    refine r_getR hg dX5_goOn_125 fl_X5_9 k_this rfl e2.1 ?_
    refine r_aload_n hg 0 dX5_goOn_128 rfl rfl ?_
    refine r_getI hg dX5_goOn_129 fl_X5_35 k_this rfl ?_
    obtain ⟨v3, e4, h⟩ := q_b1_some h
    refine r_iald hg dX5_goOn_132 e2.2 e4 ?_
    obtain ⟨v5, e6, h⟩ := q_b1_some h
    refine r_cS1i hg dX5_goOn_133 mt_X5_isLetter ⟨ml_X5_55, mst_X5_isLetter⟩ (s_X5_isLetter hΓ hX e6) (q_room (Nat.le_of_ble_eq_true rfl) (Nat.le_of_ble_eq_true rfl)) ⟨Nat.zero_le _, Nat.zero_le _⟩ (Nat.le_of_ble_eq_true rfl) ?_
    refine r_if_eq hg 152 dX5_goOn_136 (by decide) (fun c7 => ?_) (fun c7 => ?_)
    · rw [if_pos c7] at h
      exact p_X5_goOn_152 hΓ hg hr hX k_this _ _ h
    · rw [if_neg c7] at h
      refine r_aload_n hg 0 dX5_goOn_139 rfl rfl ?_
      refine r_dup hg dX5_goOn_140 rfl ?_
      refine r_getI hg dX5_goOn_141 fl_X5_35 k_this rfl ?_
      refine r_iconst hg dX5_goOn_144 ci_1 ?_
      refine r_iadd hg dX5_goOn_145 ?_
      obtain ⟨I8, e9, h⟩ := q_b1_some h
      obtain rfl := Option.some.inj e9
      refine r_putI hg dX5_goOn_146 fl_X5_35 k_this rfl ⟨rfl, rfl⟩ ?_
      refine r_goto hg 113 dX5_goOn_149 (by decide) ?_
      exact hk113 _ _ h
theorem pl_X5_goOn_113 {l : Launch} {Γ : qC} {g : qG} {z : qI} {this : Nat} {X : qX} (hΓ : q_gm Γ) (hg : q_Ok l Γ RX5 cX5_goOn 2 (q_rm 3 0 0) "goOn" none g) (hr : q_Rt cX5_goOn none (q_rm 3 0 0) (none, z, X) g) (hX : q_Lay X) (k_this : q_kd X this = some (7, 9)) : ∀ (n : Nat) (x1 : Int32) (I : qI), q_fix (fun _ _ => none) (b_X5_goOn_113 this) n x1 I = some z → g 0 0 113 [(0, .ref this), (1, .int x1)] [] I X := by
  intro n
  induction n with
  | zero =>
    intro x1 I h
    cases (show (none : Option (qI)) = some z from h)
  | succ n ih =>
    intro x1 I h
    exact p_X5_goOn_113 hΓ hg hr hX k_this ih _ _ h
def b_X5_goOn_71 (this : Nat) (x1 : Int32) (I : qI) : Option (qI) :=
  q_b1 (some (q_up I this 5 (I this 4))) fun I1 =>
  if (I1 this 4) < (I1 this 6) then
    q_b1 (q_rd I1 (this + 1) 96 (I1 this 4)) fun v5 =>
    q_b1 (f_X5_isLetter v5) fun v7 =>
    if v7 = 0 then
      q_b1 (q_rd I1 (this + 1) 96 (I1 this 4)) fun v11 =>
      q_b1 (f_X5_isDigit v11) fun v13 =>
      if v13 = 0 then
        q_b1 (some (q_up I1 this 5 ((I1 this 4) + (nI 1)))) fun I16 =>
        q_b1 (some (q_up I16 this 3 (nI 3))) fun I18 =>
        b_X5_goOn_254 this x1 I18
      else
        q_fix (fun _ _ => none) (b_X5_goOn_175 this) q_fu x1 I1
    else
      q_fix (fun _ _ => none) (b_X5_goOn_113 this) q_fu x1 I1
  else
    q_b1 (some (q_up I1 this 3 (nI 0))) fun I20 =>
    b_X5_goOn_254 this x1 I20
set_option maxRecDepth 100000 in
set_option maxHeartbeats 4000000 in
theorem p_X5_goOn_71 {l : Launch} {Γ : qC} {g : qG} {z : qI} {this : Nat} {X : qX} (hΓ : q_gm Γ) (hg : q_Ok l Γ RX5 cX5_goOn 2 (q_rm 3 0 0) "goOn" none g) (hr : q_Rt cX5_goOn none (q_rm 3 0 0) (none, z, X) g) (hX : q_Lay X) (k_this : q_kd X this = some (7, 9)) (x1 : Int32) (I : qI) (h : b_X5_goOn_71 this x1 I = some z) : g 0 0 71 [(0, .ref this), (1, .int x1)] [] I X := by
  unfold b_X5_goOn_71 at h
  refine r_aload_n hg 0 dX5_goOn_71 rfl rfl ?_
  refine r_aload_n hg 0 dX5_goOn_72 rfl rfl ?_
  refine r_getI hg dX5_goOn_73 fl_X5_48 k_this rfl ?_
  obtain ⟨I1, e2, h⟩ := q_b1_some h
  obtain rfl := Option.some.inj e2
  refine r_putI hg dX5_goOn_76 fl_X5_35 k_this rfl ⟨rfl, rfl⟩ ?_
  refine r_aload_n hg 0 dX5_goOn_79 rfl rfl ?_
  refine r_getI hg dX5_goOn_80 fl_X5_48 k_this rfl ?_
  refine r_aload_n hg 0 dX5_goOn_83 rfl rfl ?_
  refine r_getI hg dX5_goOn_84 fl_X5_16 k_this rfl ?_
  refine r_icmp_lt hg 98 dX5_goOn_87 (by decide) (fun c3 => ?_) (fun c3 => ?_)
  · rw [if_pos c3] at h
    refine r_aload_n hg 0 dX5_goOn_98 rfl rfl ?_
    have e4 := ly_5_0 hX k_this
    refine r_getR hg dX5_goOn_99 fl_X5_9 k_this rfl e4.1 ?_
    refine r_aload_n hg 0 dX5_goOn_102 rfl rfl ?_
    refine r_getI hg dX5_goOn_103 fl_X5_48 k_this rfl ?_
    obtain ⟨v5, e6, h⟩ := q_b1_some h
    refine r_iald hg dX5_goOn_106 e4.2 e6 ?_
    obtain ⟨v7, e8, h⟩ := q_b1_some h
    refine r_cS1i hg dX5_goOn_107 mt_X5_isLetter ⟨ml_X5_55, mst_X5_isLetter⟩ (s_X5_isLetter hΓ hX e8) (q_room (Nat.le_of_ble_eq_true rfl) (Nat.le_of_ble_eq_true rfl)) ⟨Nat.zero_le _, Nat.zero_le _⟩ (Nat.le_of_ble_eq_true rfl) ?_
    refine r_if_eq hg 160 dX5_goOn_110 (by decide) (fun c9 => ?_) (fun c9 => ?_)
    · rw [if_pos c9] at h
      refine r_aload_n hg 0 dX5_goOn_160 rfl rfl ?_
      have e10 := ly_5_0 hX k_this
      refine r_getR hg dX5_goOn_161 fl_X5_9 k_this rfl e10.1 ?_
      refine r_aload_n hg 0 dX5_goOn_164 rfl rfl ?_
      refine r_getI hg dX5_goOn_165 fl_X5_48 k_this rfl ?_
      obtain ⟨v11, e12, h⟩ := q_b1_some h
      refine r_iald hg dX5_goOn_168 e10.2 e12 ?_
      obtain ⟨v13, e14, h⟩ := q_b1_some h
      refine r_cS1i hg dX5_goOn_169 mt_X5_isDigit ⟨ml_X5_59, mst_X5_isDigit⟩ (s_X5_isDigit hΓ hX e14) (q_room (Nat.le_of_ble_eq_true rfl) (Nat.le_of_ble_eq_true rfl)) ⟨Nat.zero_le _, Nat.zero_le _⟩ (Nat.le_of_ble_eq_true rfl) ?_
      refine r_if_eq hg 239 dX5_goOn_172 (by decide) (fun c15 => ?_) (fun c15 => ?_)
      · rw [if_pos c15] at h
        refine r_aload_n hg 0 dX5_goOn_239 rfl rfl ?_
        refine r_aload_n hg 0 dX5_goOn_240 rfl rfl ?_
        refine r_getI hg dX5_goOn_241 fl_X5_48 k_this rfl ?_
        refine r_iconst hg dX5_goOn_244 ci_1 ?_
        refine r_iadd hg dX5_goOn_245 ?_
        obtain ⟨I16, e17, h⟩ := q_b1_some h
        obtain rfl := Option.some.inj e17
        refine r_putI hg dX5_goOn_246 fl_X5_35 k_this rfl ⟨rfl, rfl⟩ ?_
        refine r_aload_n hg 0 dX5_goOn_249 rfl rfl ?_
        refine r_iconst hg dX5_goOn_250 ci_3 ?_
        obtain ⟨I18, e19, h⟩ := q_b1_some h
        obtain rfl := Option.some.inj e19
        refine r_putI hg dX5_goOn_251 fl_X5_32 k_this rfl ⟨rfl, rfl⟩ ?_
        exact p_X5_goOn_254 hΓ hg hr hX k_this _ _ h
      · rw [if_neg c15] at h
        exact pl_X5_goOn_175 hΓ hg hr hX k_this _ _ _ h
    · rw [if_neg c9] at h
      exact pl_X5_goOn_113 hΓ hg hr hX k_this _ _ _ h
  · rw [if_neg c3] at h
    refine r_aload_n hg 0 dX5_goOn_90 rfl rfl ?_
    refine r_iconst hg dX5_goOn_91 ci_0 ?_
    obtain ⟨I20, e21, h⟩ := q_b1_some h
    obtain rfl := Option.some.inj e21
    refine r_putI hg dX5_goOn_92 fl_X5_32 k_this rfl ⟨rfl, rfl⟩ ?_
    refine r_goto hg 254 dX5_goOn_95 (by decide) ?_
    exact p_X5_goOn_254 hΓ hg hr hX k_this _ _ h
def b_X5_goOn_33 (this : Nat) (k33 : Int32 → qI → Option (qI)) (x1 : Int32) (I : qI) : Option (qI) :=
  if (I this 6) ≤ (I this 4) then
    b_X5_goOn_71 this x1 I
  else
    q_b1 (q_rd I (this + 1) 96 (I this 4)) fun v3 =>
    if v3 = (nI 32) then
      q_b1 (some (q_up I this 4 ((I this 4) + (nI 1)))) fun I6 =>
      k33 x1 I6
    else
      b_X5_goOn_71 this x1 I
set_option maxRecDepth 100000 in
set_option maxHeartbeats 4000000 in
theorem p_X5_goOn_33 {l : Launch} {Γ : qC} {g : qG} {z : qI} {this : Nat} {X : qX} (hΓ : q_gm Γ) (hg : q_Ok l Γ RX5 cX5_goOn 2 (q_rm 3 0 0) "goOn" none g) (hr : q_Rt cX5_goOn none (q_rm 3 0 0) (none, z, X) g) (hX : q_Lay X) (k_this : q_kd X this = some (7, 9)) {k33 : Int32 → qI → Option (qI)} (hk33 : ∀ (x1 : Int32) (I : qI), k33 x1 I = some z → g 0 0 33 [(0, .ref this), (1, .int x1)] [] I X) (x1 : Int32) (I : qI) (h : b_X5_goOn_33 this k33 x1 I = some z) : g 0 0 33 [(0, .ref this), (1, .int x1)] [] I X := by
  unfold b_X5_goOn_33 at h
  refine r_aload_n hg 0 dX5_goOn_33 rfl rfl ?_
  refine r_getI hg dX5_goOn_34 fl_X5_48 k_this rfl ?_
  refine r_aload_n hg 0 dX5_goOn_37 rfl rfl ?_
  refine r_getI hg dX5_goOn_38 fl_X5_16 k_this rfl ?_
  refine r_icmp_ge hg 71 dX5_goOn_41 (by decide) (fun c1 => ?_) (fun c1 => ?_)
  · rw [if_pos c1] at h
    exact p_X5_goOn_71 hΓ hg hr hX k_this _ _ h
  · rw [if_neg c1] at h
    refine r_aload_n hg 0 dX5_goOn_44 rfl rfl ?_
    have e2 := ly_5_0 hX k_this
    refine r_getR hg dX5_goOn_45 fl_X5_9 k_this rfl e2.1 ?_
    refine r_aload_n hg 0 dX5_goOn_48 rfl rfl ?_
    refine r_getI hg dX5_goOn_49 fl_X5_48 k_this rfl ?_
    obtain ⟨v3, e4, h⟩ := q_b1_some h
    refine r_iald hg dX5_goOn_52 e2.2 e4 ?_
    refine r_bipush hg dX5_goOn_53 cb_32 ?_
    refine r_icmp_ne hg 71 dX5_goOn_55 (by decide) (fun c5 => ?_) (fun c5 => ?_)
    · rw [if_neg c5] at h
      exact p_X5_goOn_71 hΓ hg hr hX k_this _ _ h
    · rw [if_pos (Classical.not_not.mp c5)] at h
      refine r_aload_n hg 0 dX5_goOn_58 rfl rfl ?_
      refine r_dup hg dX5_goOn_59 rfl ?_
      refine r_getI hg dX5_goOn_60 fl_X5_48 k_this rfl ?_
      refine r_iconst hg dX5_goOn_63 ci_1 ?_
      refine r_iadd hg dX5_goOn_64 ?_
      obtain ⟨I6, e7, h⟩ := q_b1_some h
      obtain rfl := Option.some.inj e7
      refine r_putI hg dX5_goOn_65 fl_X5_48 k_this rfl ⟨rfl, rfl⟩ ?_
      refine r_goto hg 33 dX5_goOn_68 (by decide) ?_
      exact hk33 _ _ h
theorem pl_X5_goOn_33 {l : Launch} {Γ : qC} {g : qG} {z : qI} {this : Nat} {X : qX} (hΓ : q_gm Γ) (hg : q_Ok l Γ RX5 cX5_goOn 2 (q_rm 3 0 0) "goOn" none g) (hr : q_Rt cX5_goOn none (q_rm 3 0 0) (none, z, X) g) (hX : q_Lay X) (k_this : q_kd X this = some (7, 9)) : ∀ (n : Nat) (x1 : Int32) (I : qI), q_fix (fun _ _ => none) (b_X5_goOn_33 this) n x1 I = some z → g 0 0 33 [(0, .ref this), (1, .int x1)] [] I X := by
  intro n
  induction n with
  | zero =>
    intro x1 I h
    cases (show (none : Option (qI)) = some z from h)
  | succ n ih =>
    intro x1 I h
    exact p_X5_goOn_33 hΓ hg hr hX k_this ih _ _ h
def b_X5_goOn_24 (this : Nat) (s0 : Int32) (I : qI) : Option (qI) :=
  q_b1 (some (q_up I this 4 (I this 5))) fun I1 =>
  q_fix (fun _ _ => none) (b_X5_goOn_33 this) q_fu s0 I1
set_option maxRecDepth 100000 in
set_option maxHeartbeats 4000000 in
theorem p_X5_goOn_24 {l : Launch} {Γ : qC} {g : qG} {z : qI} {this : Nat} {X : qX} (hΓ : q_gm Γ) (hg : q_Ok l Γ RX5 cX5_goOn 2 (q_rm 3 0 0) "goOn" none g) (hr : q_Rt cX5_goOn none (q_rm 3 0 0) (none, z, X) g) (hX : q_Lay X) (k_this : q_kd X this = some (7, 9)) (s0 : Int32) (I : qI) (h : b_X5_goOn_24 this s0 I = some z) : g 0 0 24 [(0, .ref this)] [.int s0] I X := by
  unfold b_X5_goOn_24 at h
  refine r_istore_n hg (L' := [(1, .int s0), (0, .ref this)]) dX5_goOn_24 rfl (by decide) rfl ?_
  refine r_aload_n hg 1 dX5_goOn_25 rfl rfl ?_
  refine r_aload_n hg 1 dX5_goOn_26 rfl rfl ?_
  refine r_getI hg dX5_goOn_27 fl_X5_35 k_this rfl ?_
  obtain ⟨I1, e2, h⟩ := q_b1_some h
  obtain rfl := Option.some.inj e2
  refine r_putI hg dX5_goOn_30 fl_X5_48 k_this rfl ⟨rfl, rfl⟩ ?_
  refine r_sub hg [1, 0] rfl ?_
  exact pl_X5_goOn_33 hΓ hg hr hX k_this _ _ _ h
def b_X5_goOn_16 (this : Nat) (I : qI) : Option (qI) :=
  b_X5_goOn_24 this (I this 5) I
set_option maxRecDepth 100000 in
set_option maxHeartbeats 4000000 in
theorem p_X5_goOn_16 {l : Launch} {Γ : qC} {g : qG} {z : qI} {this : Nat} {X : qX} (hΓ : q_gm Γ) (hg : q_Ok l Γ RX5 cX5_goOn 2 (q_rm 3 0 0) "goOn" none g) (hr : q_Rt cX5_goOn none (q_rm 3 0 0) (none, z, X) g) (hX : q_Lay X) (k_this : q_kd X this = some (7, 9)) (I : qI) (h : b_X5_goOn_16 this I = some z) : g 0 0 16 [(0, .ref this)] [] I X := by
  unfold b_X5_goOn_16 at h
  refine r_aload_n hg 0 dX5_goOn_16 rfl rfl ?_
  refine r_getI hg dX5_goOn_17 fl_X5_35 k_this rfl ?_
  refine r_goto hg 24 dX5_goOn_20 (by decide) ?_
  exact p_X5_goOn_24 hΓ hg hr hX k_this _ _ h
def f_X5_goOn (this : Nat) (I : qI) : Option (qI) :=
  if (I this 3) = (nI 1) then
    b_X5_goOn_16 this I
  else
    if (I this 3) = (nI 2) then
      b_X5_goOn_16 this I
    else
      b_X5_goOn_24 this (-1) I
set_option maxRecDepth 100000 in
set_option maxHeartbeats 4000000 in
theorem s_X5_goOn {l : Launch} {Γ : qC} (hΓ : q_gm Γ) {X : qX} (hX : q_Lay X) {this : Nat} (k_this : q_kd X this = some (7, 9)) {I : qI} {z : qI} (h : f_X5_goOn this I = some z) : q_Sem l Γ (q_rm 3 0 0) yX5_goOn cX5_goOn 2 none [.ref this] I X (none, z, X) := by
  refine q_met (by decide) (Nat.le_of_ble_eq_true rfl) (fun g hg hr => ?_)
  unfold f_X5_goOn at h
  show g 0 0 0 [(0, .ref this)] [] I X
  refine r_aload_n hg 0 dX5_goOn_0 rfl rfl ?_
  refine r_getI hg dX5_goOn_1 fl_X5_32 k_this rfl ?_
  refine r_iconst hg dX5_goOn_4 ci_1 ?_
  refine r_icmp_eq hg 16 dX5_goOn_5 (by decide) (fun c1 => ?_) (fun c1 => ?_)
  · rw [if_pos c1] at h
    exact p_X5_goOn_16 hΓ hg hr hX k_this _ h
  · rw [if_neg c1] at h
    refine r_aload_n hg 0 dX5_goOn_8 rfl rfl ?_
    refine r_getI hg dX5_goOn_9 fl_X5_32 k_this rfl ?_
    refine r_iconst hg dX5_goOn_12 ci_2 ?_
    refine r_icmp_ne hg 23 dX5_goOn_13 (by decide) (fun c2 => ?_) (fun c2 => ?_)
    · rw [if_neg c2] at h
      refine r_iconst hg dX5_goOn_23 ci_m1 ?_
      exact p_X5_goOn_24 hΓ hg hr hX k_this _ _ h
    · rw [if_pos (Classical.not_not.mp c2)] at h
      exact p_X5_goOn_16 hΓ hg hr hX k_this _ h

def f_X5_joinsAt (this : Nat) (x1 : Int32) (I : qI) : Option (Int32) :=
  if x1 = (nI 0) then
    q_b1 (f_X5_isSign this (nI 124) I) fun v2 =>
    q_b1 (q_bz v2) fun _ =>
    some (v2)
  else
  if x1 = (nI 1) then
    q_b1 (f_X5_isSign this (nI 38) I) fun v8 =>
    q_b1 (q_bz v8) fun _ =>
    some (v8)
  else
  if x1 = (nI 2) then
    q_b1 (f_X5_isSign this (nI 60) I) fun v14 =>
    if v14 = 0 then
      q_b1 (f_X5_isSign this (nI 61) I) fun v17 =>
      if v17 = 0 then
        q_b1 (f_X5_isSign this (nI 62) I) fun v20 =>
        if v20 = 0 then
          some ((nI 0))
        else
          some ((nI 1))
      else
        some ((nI 1))
    else
      some ((nI 1))
  else
  if x1 = (nI 3) then
    q_b1 (f_X5_isSign this (nI 43) I) fun v24 =>
    if v24 = 0 then
      q_b1 (f_X5_isSign this (nI 45) I) fun v27 =>
      if v27 = 0 then
        some ((nI 0))
      else
        some ((nI 1))
    else
      some ((nI 1))
  else
  q_b1 (f_X5_isSign this (nI 42) I) fun v30 =>
  if v30 = 0 then
    q_b1 (f_X5_isSign this (nI 47) I) fun v33 =>
    if v33 = 0 then
      some ((nI 0))
    else
      some ((nI 1))
  else
    some ((nI 1))
set_option maxRecDepth 100000 in
set_option maxHeartbeats 4000000 in
theorem s_X5_joinsAt {l : Launch} {Γ : qC} (hΓ : q_gm Γ) {X : qX} (hX : q_Lay X) {this : Nat} {x1 : Int32} (k_this : q_kd X this = some (7, 9)) {I : qI} {z : Int32} (h : f_X5_joinsAt this x1 I = some z) : q_Sem l Γ (q_rm 3 0 0) yX5_joinsAt cX5_joinsAt 2 (some .boolean) [.ref this, .int x1] I X (some (.int z), I, X) := by
  refine q_met (by decide) (Nat.le_of_ble_eq_true rfl) (fun g hg hr => ?_)
  unfold f_X5_joinsAt at h
  show g 0 0 0 [(0, .ref this), (1, .int x1)] [] I X
  refine r_iload_n hg 1 dX5_joinsAt_0 rfl rfl ?_
  by_cases c1 : x1 = (nI 0)
  · rw [if_pos c1] at h
    refine r_tab hg 32 dX5_joinsAt_1 rfl (by rw [c1] <;> decide +kernel) (by decide) ?_
    refine r_aload_n hg 0 dX5_joinsAt_32 rfl rfl ?_
    refine r_bipush hg dX5_joinsAt_33 cb_124 ?_
    obtain ⟨v2, e3, h⟩ := q_b1_some h
    refine r_cV1i hg dX5_joinsAt_35 mt_X5_isSign ml_X5_119 mv_X5_isSign k_this (s_X5_isSign hΓ hX k_this e3) (q_room (Nat.le_of_ble_eq_true rfl) (Nat.le_of_ble_eq_true rfl)) ⟨Nat.zero_le _, Nat.zero_le _⟩ (Nat.le_of_ble_eq_true rfl) ?_
    obtain ⟨u6, e4, h⟩ := q_b1_some h
    obtain ⟨rfl, e5⟩ := q_bz_some e4
    exact r_ireturn hr dX5_joinsAt_38 ⟨Nat.zero_le _, Nat.zero_le _⟩ ⟨_, rfl, (q_bz_n e5).1⟩ (by cases h; rfl)
  rw [if_neg c1] at h
  by_cases c7 : x1 = (nI 1)
  · rw [if_pos c7] at h
    refine r_tab hg 39 dX5_joinsAt_1 rfl (by rw [c7] <;> decide +kernel) (by decide) ?_
    refine r_aload_n hg 0 dX5_joinsAt_39 rfl rfl ?_
    refine r_bipush hg dX5_joinsAt_40 cb_38 ?_
    obtain ⟨v8, e9, h⟩ := q_b1_some h
    refine r_cV1i hg dX5_joinsAt_42 mt_X5_isSign ml_X5_119 mv_X5_isSign k_this (s_X5_isSign hΓ hX k_this e9) (q_room (Nat.le_of_ble_eq_true rfl) (Nat.le_of_ble_eq_true rfl)) ⟨Nat.zero_le _, Nat.zero_le _⟩ (Nat.le_of_ble_eq_true rfl) ?_
    obtain ⟨u12, e10, h⟩ := q_b1_some h
    obtain ⟨rfl, e11⟩ := q_bz_some e10
    exact r_ireturn hr dX5_joinsAt_45 ⟨Nat.zero_le _, Nat.zero_le _⟩ ⟨_, rfl, (q_bz_n e11).1⟩ (by cases h; rfl)
  rw [if_neg c7] at h
  by_cases c13 : x1 = (nI 2)
  · rw [if_pos c13] at h
    refine r_tab hg 46 dX5_joinsAt_1 rfl (by rw [c13] <;> decide +kernel) (by decide) ?_
    refine r_aload_n hg 0 dX5_joinsAt_46 rfl rfl ?_
    refine r_bipush hg dX5_joinsAt_47 cb_60 ?_
    obtain ⟨v14, e15, h⟩ := q_b1_some h
    refine r_cV1i hg dX5_joinsAt_49 mt_X5_isSign ml_X5_119 mv_X5_isSign k_this (s_X5_isSign hΓ hX k_this e15) (q_room (Nat.le_of_ble_eq_true rfl) (Nat.le_of_ble_eq_true rfl)) ⟨Nat.zero_le _, Nat.zero_le _⟩ (Nat.le_of_ble_eq_true rfl) ?_
    refine r_if_ne hg 73 dX5_joinsAt_52 (by decide) (fun c16 => ?_) (fun c16 => ?_)
    · rw [if_neg c16] at h
      refine r_iconst hg dX5_joinsAt_73 ci_1 ?_
      refine r_goto hg 78 dX5_joinsAt_74 (by decide) ?_
      exact r_ireturn hr dX5_joinsAt_78 ⟨Nat.zero_le _, Nat.zero_le _⟩ ⟨_, rfl, bz_1.1⟩ (by cases h; rfl)
    · rw [if_pos (Classical.not_not.mp c16)] at h
      refine r_aload_n hg 0 dX5_joinsAt_55 rfl rfl ?_
      refine r_bipush hg dX5_joinsAt_56 cb_61 ?_
      obtain ⟨v17, e18, h⟩ := q_b1_some h
      refine r_cV1i hg dX5_joinsAt_58 mt_X5_isSign ml_X5_119 mv_X5_isSign k_this (s_X5_isSign hΓ hX k_this e18) (q_room (Nat.le_of_ble_eq_true rfl) (Nat.le_of_ble_eq_true rfl)) ⟨Nat.zero_le _, Nat.zero_le _⟩ (Nat.le_of_ble_eq_true rfl) ?_
      refine r_if_ne hg 73 dX5_joinsAt_61 (by decide) (fun c19 => ?_) (fun c19 => ?_)
      · rw [if_neg c19] at h
        refine r_iconst hg dX5_joinsAt_73 ci_1 ?_
        refine r_goto hg 78 dX5_joinsAt_74 (by decide) ?_
        exact r_ireturn hr dX5_joinsAt_78 ⟨Nat.zero_le _, Nat.zero_le _⟩ ⟨_, rfl, bz_1.1⟩ (by cases h; rfl)
      · rw [if_pos (Classical.not_not.mp c19)] at h
        refine r_aload_n hg 0 dX5_joinsAt_64 rfl rfl ?_
        refine r_bipush hg dX5_joinsAt_65 cb_62 ?_
        obtain ⟨v20, e21, h⟩ := q_b1_some h
        refine r_cV1i hg dX5_joinsAt_67 mt_X5_isSign ml_X5_119 mv_X5_isSign k_this (s_X5_isSign hΓ hX k_this e21) (q_room (Nat.le_of_ble_eq_true rfl) (Nat.le_of_ble_eq_true rfl)) ⟨Nat.zero_le _, Nat.zero_le _⟩ (Nat.le_of_ble_eq_true rfl) ?_
        refine r_if_eq hg 77 dX5_joinsAt_70 (by decide) (fun c22 => ?_) (fun c22 => ?_)
        · rw [if_pos c22] at h
          refine r_iconst hg dX5_joinsAt_77 ci_0 ?_
          exact r_ireturn hr dX5_joinsAt_78 ⟨Nat.zero_le _, Nat.zero_le _⟩ ⟨_, rfl, bz_0.1⟩ (by cases h; rfl)
        · rw [if_neg c22] at h
          refine r_iconst hg dX5_joinsAt_73 ci_1 ?_
          refine r_goto hg 78 dX5_joinsAt_74 (by decide) ?_
          exact r_ireturn hr dX5_joinsAt_78 ⟨Nat.zero_le _, Nat.zero_le _⟩ ⟨_, rfl, bz_1.1⟩ (by cases h; rfl)
  rw [if_neg c13] at h
  by_cases c23 : x1 = (nI 3)
  · rw [if_pos c23] at h
    refine r_tab hg 79 dX5_joinsAt_1 rfl (by rw [c23] <;> decide +kernel) (by decide) ?_
    refine r_aload_n hg 0 dX5_joinsAt_79 rfl rfl ?_
    refine r_bipush hg dX5_joinsAt_80 cb_43 ?_
    obtain ⟨v24, e25, h⟩ := q_b1_some h
    refine r_cV1i hg dX5_joinsAt_82 mt_X5_isSign ml_X5_119 mv_X5_isSign k_this (s_X5_isSign hΓ hX k_this e25) (q_room (Nat.le_of_ble_eq_true rfl) (Nat.le_of_ble_eq_true rfl)) ⟨Nat.zero_le _, Nat.zero_le _⟩ (Nat.le_of_ble_eq_true rfl) ?_
    refine r_if_ne hg 97 dX5_joinsAt_85 (by decide) (fun c26 => ?_) (fun c26 => ?_)
    · rw [if_neg c26] at h
      refine r_iconst hg dX5_joinsAt_97 ci_1 ?_
      refine r_goto hg 102 dX5_joinsAt_98 (by decide) ?_
      exact r_ireturn hr dX5_joinsAt_102 ⟨Nat.zero_le _, Nat.zero_le _⟩ ⟨_, rfl, bz_1.1⟩ (by cases h; rfl)
    · rw [if_pos (Classical.not_not.mp c26)] at h
      refine r_aload_n hg 0 dX5_joinsAt_88 rfl rfl ?_
      refine r_bipush hg dX5_joinsAt_89 cb_45 ?_
      obtain ⟨v27, e28, h⟩ := q_b1_some h
      refine r_cV1i hg dX5_joinsAt_91 mt_X5_isSign ml_X5_119 mv_X5_isSign k_this (s_X5_isSign hΓ hX k_this e28) (q_room (Nat.le_of_ble_eq_true rfl) (Nat.le_of_ble_eq_true rfl)) ⟨Nat.zero_le _, Nat.zero_le _⟩ (Nat.le_of_ble_eq_true rfl) ?_
      refine r_if_eq hg 101 dX5_joinsAt_94 (by decide) (fun c29 => ?_) (fun c29 => ?_)
      · rw [if_pos c29] at h
        refine r_iconst hg dX5_joinsAt_101 ci_0 ?_
        exact r_ireturn hr dX5_joinsAt_102 ⟨Nat.zero_le _, Nat.zero_le _⟩ ⟨_, rfl, bz_0.1⟩ (by cases h; rfl)
      · rw [if_neg c29] at h
        refine r_iconst hg dX5_joinsAt_97 ci_1 ?_
        refine r_goto hg 102 dX5_joinsAt_98 (by decide) ?_
        exact r_ireturn hr dX5_joinsAt_102 ⟨Nat.zero_le _, Nat.zero_le _⟩ ⟨_, rfl, bz_1.1⟩ (by cases h; rfl)
  rw [if_neg c23] at h
  refine r_tab hg 103 dX5_joinsAt_1 rfl (q_tab_d (fun k hk ho => ?_)) (by decide) ?_
  · have hk : k < 4 := hk
    rcases (show k = 0 ∨ k = 1 ∨ k = 2 ∨ k = 3 by omega) with rfl | rfl | rfl | rfl
    · exact lv_neT c1 (by decide +kernel)
    · exact lv_neT c7 (by decide +kernel)
    · exact lv_neT c13 (by decide +kernel)
    · exact lv_neT c23 (by decide +kernel)
  refine r_aload_n hg 0 dX5_joinsAt_103 rfl rfl ?_
  refine r_bipush hg dX5_joinsAt_104 cb_42 ?_
  obtain ⟨v30, e31, h⟩ := q_b1_some h
  refine r_cV1i hg dX5_joinsAt_106 mt_X5_isSign ml_X5_119 mv_X5_isSign k_this (s_X5_isSign hΓ hX k_this e31) (q_room (Nat.le_of_ble_eq_true rfl) (Nat.le_of_ble_eq_true rfl)) ⟨Nat.zero_le _, Nat.zero_le _⟩ (Nat.le_of_ble_eq_true rfl) ?_
  refine r_if_ne hg 121 dX5_joinsAt_109 (by decide) (fun c32 => ?_) (fun c32 => ?_)
  · rw [if_neg c32] at h
    refine r_iconst hg dX5_joinsAt_121 ci_1 ?_
    refine r_goto hg 126 dX5_joinsAt_122 (by decide) ?_
    exact r_ireturn hr dX5_joinsAt_126 ⟨Nat.zero_le _, Nat.zero_le _⟩ ⟨_, rfl, bz_1.1⟩ (by cases h; rfl)
  · rw [if_pos (Classical.not_not.mp c32)] at h
    refine r_aload_n hg 0 dX5_joinsAt_112 rfl rfl ?_
    refine r_bipush hg dX5_joinsAt_113 cb_47 ?_
    obtain ⟨v33, e34, h⟩ := q_b1_some h
    refine r_cV1i hg dX5_joinsAt_115 mt_X5_isSign ml_X5_119 mv_X5_isSign k_this (s_X5_isSign hΓ hX k_this e34) (q_room (Nat.le_of_ble_eq_true rfl) (Nat.le_of_ble_eq_true rfl)) ⟨Nat.zero_le _, Nat.zero_le _⟩ (Nat.le_of_ble_eq_true rfl) ?_
    refine r_if_eq hg 125 dX5_joinsAt_118 (by decide) (fun c35 => ?_) (fun c35 => ?_)
    · rw [if_pos c35] at h
      refine r_iconst hg dX5_joinsAt_125 ci_0 ?_
      exact r_ireturn hr dX5_joinsAt_126 ⟨Nat.zero_le _, Nat.zero_le _⟩ ⟨_, rfl, bz_0.1⟩ (by cases h; rfl)
    · rw [if_neg c35] at h
      refine r_iconst hg dX5_joinsAt_121 ci_1 ?_
      refine r_goto hg 126 dX5_joinsAt_122 (by decide) ?_
      exact r_ireturn hr dX5_joinsAt_126 ⟨Nat.zero_le _, Nat.zero_le _⟩ ⟨_, rfl, bz_1.1⟩ (by cases h; rfl)

def f_X7_held (x0 : Int32) (x1 : Int32) : Option (Int32) :=
  if x0 = (nI 0) then
    some ((q_max (nI 0) (q_min (nI 9999) x1)))
  else
  if x0 = (nI 1) then
    some ((q_max (nI 0) (q_min (nI 9999) x1)))
  else
  if x0 = (nI 2) then
    some ((q_max (nI 1) (q_min (nI 99) x1)))
  else
  if x0 = (nI 3) then
    some ((q_max (nI 0) (q_min (nI 100) x1)))
  else
  some (x1)
set_option maxRecDepth 100000 in
set_option maxHeartbeats 4000000 in
theorem s_X7_held {l : Launch} {Γ : qC} (hΓ : q_gm Γ) {X : qX} (hX : q_Lay X) {x0 : Int32} {x1 : Int32} {I : qI} {z : Int32} (h : f_X7_held x0 x1 = some z) : q_Sem l Γ (q_rm 3 0 0) yX7_held cX7_held 2 (some .int) [.int x0, .int x1] I X (some (.int z), I, X) := by
  refine q_met (by decide) (Nat.le_of_ble_eq_true rfl) (fun g hg hr => ?_)
  unfold f_X7_held at h
  show g 0 0 0 [(0, .int x0), (1, .int x1)] [] I X
  refine r_iload_n hg 0 dX7_held_0 rfl rfl ?_
  by_cases c1 : x0 = (nI 0)
  · rw [if_pos c1] at h
    refine r_tab hg 32 dX7_held_1 rfl (by rw [c1] <;> decide +kernel) (by decide) ?_
    refine r_iconst hg dX7_held_32 ci_0 ?_
    refine r_sipush hg dX7_held_33 cs_9999 ?_
    refine r_iload_n hg 1 dX7_held_36 rfl rfl ?_
    refine r_minq hg dX7_held_37 mm_X7_56 ⟨Nat.le_of_ble_eq_true rfl, Nat.le_of_ble_eq_true rfl⟩ ⟨Nat.zero_le _, Nat.zero_le _⟩ ?_
    refine r_maxq hg dX7_held_40 mm_X7_61 ⟨Nat.le_of_ble_eq_true rfl, Nat.le_of_ble_eq_true rfl⟩ ⟨Nat.zero_le _, Nat.zero_le _⟩ ?_
    exact r_ireturn hr dX7_held_43 ⟨Nat.zero_le _, Nat.zero_le _⟩ ⟨_, rfl, rfl⟩ (by cases h; rfl)
  rw [if_neg c1] at h
  by_cases c2 : x0 = (nI 1)
  · rw [if_pos c2] at h
    refine r_tab hg 32 dX7_held_1 rfl (by rw [c2] <;> decide +kernel) (by decide) ?_
    refine r_iconst hg dX7_held_32 ci_0 ?_
    refine r_sipush hg dX7_held_33 cs_9999 ?_
    refine r_iload_n hg 1 dX7_held_36 rfl rfl ?_
    refine r_minq hg dX7_held_37 mm_X7_56 ⟨Nat.le_of_ble_eq_true rfl, Nat.le_of_ble_eq_true rfl⟩ ⟨Nat.zero_le _, Nat.zero_le _⟩ ?_
    refine r_maxq hg dX7_held_40 mm_X7_61 ⟨Nat.le_of_ble_eq_true rfl, Nat.le_of_ble_eq_true rfl⟩ ⟨Nat.zero_le _, Nat.zero_le _⟩ ?_
    exact r_ireturn hr dX7_held_43 ⟨Nat.zero_le _, Nat.zero_le _⟩ ⟨_, rfl, rfl⟩ (by cases h; rfl)
  rw [if_neg c2] at h
  by_cases c3 : x0 = (nI 2)
  · rw [if_pos c3] at h
    refine r_tab hg 44 dX7_held_1 rfl (by rw [c3] <;> decide +kernel) (by decide) ?_
    refine r_iconst hg dX7_held_44 ci_1 ?_
    refine r_bipush hg dX7_held_45 cb_99 ?_
    refine r_iload_n hg 1 dX7_held_47 rfl rfl ?_
    refine r_minq hg dX7_held_48 mm_X7_56 ⟨Nat.le_of_ble_eq_true rfl, Nat.le_of_ble_eq_true rfl⟩ ⟨Nat.zero_le _, Nat.zero_le _⟩ ?_
    refine r_maxq hg dX7_held_51 mm_X7_61 ⟨Nat.le_of_ble_eq_true rfl, Nat.le_of_ble_eq_true rfl⟩ ⟨Nat.zero_le _, Nat.zero_le _⟩ ?_
    exact r_ireturn hr dX7_held_54 ⟨Nat.zero_le _, Nat.zero_le _⟩ ⟨_, rfl, rfl⟩ (by cases h; rfl)
  rw [if_neg c3] at h
  by_cases c4 : x0 = (nI 3)
  · rw [if_pos c4] at h
    refine r_tab hg 55 dX7_held_1 rfl (by rw [c4] <;> decide +kernel) (by decide) ?_
    refine r_iconst hg dX7_held_55 ci_0 ?_
    refine r_bipush hg dX7_held_56 cb_100 ?_
    refine r_iload_n hg 1 dX7_held_58 rfl rfl ?_
    refine r_minq hg dX7_held_59 mm_X7_56 ⟨Nat.le_of_ble_eq_true rfl, Nat.le_of_ble_eq_true rfl⟩ ⟨Nat.zero_le _, Nat.zero_le _⟩ ?_
    refine r_maxq hg dX7_held_62 mm_X7_61 ⟨Nat.le_of_ble_eq_true rfl, Nat.le_of_ble_eq_true rfl⟩ ⟨Nat.zero_le _, Nat.zero_le _⟩ ?_
    exact r_ireturn hr dX7_held_65 ⟨Nat.zero_le _, Nat.zero_le _⟩ ⟨_, rfl, rfl⟩ (by cases h; rfl)
  rw [if_neg c4] at h
  refine r_tab hg 66 dX7_held_1 rfl (q_tab_d (fun k hk ho => ?_)) (by decide) ?_
  · have hk : k < 4 := hk
    rcases (show k = 0 ∨ k = 1 ∨ k = 2 ∨ k = 3 by omega) with rfl | rfl | rfl | rfl
    · exact lv_neT c1 (by decide +kernel)
    · exact lv_neT c2 (by decide +kernel)
    · exact lv_neT c3 (by decide +kernel)
    · exact lv_neT c4 (by decide +kernel)
  refine r_iload_n hg 1 dX7_held_66 rfl rfl ?_
  exact r_ireturn hr dX7_held_67 ⟨Nat.zero_le _, Nat.zero_le _⟩ ⟨_, rfl, rfl⟩ (by cases h; rfl)

def b_X7_value_176 (this : Nat) (x1 : Int32) (x2 : Int32) (x3 : Int32) (x4 : Int32) (X : qX) (k21 : Option Nat → Int32 → Int32 → qI → Option (Int32 × qI)) (x5 : Nat) (n_x5 : Nat) (x6 : Int32) (x7 : Int32) (I : qI) : Option (Int32 × qI) :=
  k21 (some x5) x6 (x7 + (nI 1)) I
set_option maxRecDepth 100000 in
set_option maxHeartbeats 4000000 in
theorem p_X7_value_176 {l : Launch} {Γ : qC} {g : qG} {z : Int32 × qI} {this : Nat} {x1 : Int32} {x2 : Int32} {x3 : Int32} {x4 : Int32} {X : qX} (hΓ : q_gm Γ) (hg : q_Ok l Γ RX7 cX7_value 9 (q_rm 3 0 0) "value" (some .int) g) (hr : q_Rt cX7_value (some .int) (q_rm 3 0 0) (some (.int z.1), z.2, X) g) (hX : q_Lay X) (k_this : q_kd X this = some (9, 6)) {k21 : Option Nat → Int32 → Int32 → qI → Option (Int32 × qI)} (hk21 : ∀ (x5 : Option Nat) (x6 : Int32) (x7 : Int32) (I : qI), k21 x5 x6 x7 I = some z → g 0 0 21 [(0, .ref this), (2, .int x2), (3, .int x3), (4, .int x4), (5, va_rf x5), (6, .int x6), (7, .int x7)] [] I X) (x5 : Nat) (n_x5 : Nat) (x6 : Int32) (x7 : Int32) (I : qI) (k_x5 : q_kd X x5 = some (0, n_x5)) (h : b_X7_value_176 this x1 x2 x3 x4 X k21 x5 n_x5 x6 x7 I = some z) : g 0 0 176 [(0, .ref this), (2, .int x2), (3, .int x3), (4, .int x4), (5, .ref x5), (6, .int x6), (7, .int x7)] [] I X := by
  unfold b_X7_value_176 at h
  refine r_iinc hg 6 (v := (x7 + (nI 1))) (L' := [(7, .int (x7 + (nI 1))), (0, .ref this), (2, .int x2), (3, .int x3), (4, .int x4), (5, .ref x5), (6, .int x6)]) dX7_value_176 rfl (by rw [ci_1]) (by decide) rfl ?_
  refine r_goto hg 21 dX7_value_179 (by decide) ?_
  refine r_sub hg [1, 2, 3, 4, 5, 6, 0] rfl ?_
  exact hk21 _ _ _ _ h
def b_X7_value_131 (this : Nat) (x1 : Int32) (x2 : Int32) (x3 : Int32) (x4 : Int32) (X : qX) (k21 : Option Nat → Int32 → Int32 → qI → Option (Int32 × qI)) (x5 : Nat) (n_x5 : Nat) (x6 : Int32) (x7 : Int32) (x8 : Int32) (I : qI) : Option (Int32 × qI) :=
  if 0 ≤ x8 then
    b_X7_value_176 this x1 x2 x3 x4 X k21 x5 n_x5 x6 x7 I
  else
    if x6 ≤ (nI 1) then
      b_X7_value_176 this x1 x2 x3 x4 X k21 x5 n_x5 x6 x7 I
    else
      q_b1 (q_rd I (this + 5) 96 ((x6 + (-1)) - (nI 1))) fun v5 =>
      q_b1 (q_rd I (this + 5) 96 (x6 + (-1))) fun v8 =>
      q_b1 (f_X7_joined (-x8) v5 v8) fun v10 =>
      q_b1 (q_wr I (this + 5) 96 ((x6 + (-1)) - (nI 1)) v10) fun I12 =>
      b_X7_value_176 this x1 x2 x3 x4 X k21 x5 n_x5 (x6 + (-1)) x7 I12
set_option maxRecDepth 100000 in
set_option maxHeartbeats 4000000 in
theorem p_X7_value_131 {l : Launch} {Γ : qC} {g : qG} {z : Int32 × qI} {this : Nat} {x1 : Int32} {x2 : Int32} {x3 : Int32} {x4 : Int32} {X : qX} (hΓ : q_gm Γ) (hg : q_Ok l Γ RX7 cX7_value 9 (q_rm 3 0 0) "value" (some .int) g) (hr : q_Rt cX7_value (some .int) (q_rm 3 0 0) (some (.int z.1), z.2, X) g) (hX : q_Lay X) (k_this : q_kd X this = some (9, 6)) {k21 : Option Nat → Int32 → Int32 → qI → Option (Int32 × qI)} (hk21 : ∀ (x5 : Option Nat) (x6 : Int32) (x7 : Int32) (I : qI), k21 x5 x6 x7 I = some z → g 0 0 21 [(0, .ref this), (2, .int x2), (3, .int x3), (4, .int x4), (5, va_rf x5), (6, .int x6), (7, .int x7)] [] I X) (x5 : Nat) (n_x5 : Nat) (x6 : Int32) (x7 : Int32) (x8 : Int32) (I : qI) (k_x5 : q_kd X x5 = some (0, n_x5)) (h : b_X7_value_131 this x1 x2 x3 x4 X k21 x5 n_x5 x6 x7 x8 I = some z) : g 0 0 131 [(0, .ref this), (2, .int x2), (3, .int x3), (4, .int x4), (5, .ref x5), (6, .int x6), (7, .int x7), (8, .int x8)] [] I X := by
  unfold b_X7_value_131 at h
  refine r_iload hg 7 dX7_value_131 rfl ?_
  refine r_if_ge hg 176 dX7_value_133 (by decide) (fun c1 => ?_) (fun c1 => ?_)
  · rw [if_pos c1] at h
    refine r_sub hg [0, 1, 2, 3, 4, 5, 6] rfl ?_
    exact p_X7_value_176 hΓ hg hr hX k_this hk21 _ _ _ _ _ k_x5 h
  · rw [if_neg c1] at h
    refine r_iload hg 5 dX7_value_136 rfl ?_
    refine r_iconst hg dX7_value_138 ci_1 ?_
    refine r_icmp_le hg 176 dX7_value_139 (by decide) (fun c2 => ?_) (fun c2 => ?_)
    · rw [if_pos c2] at h
      refine r_sub hg [0, 1, 2, 3, 4, 5, 6] rfl ?_
      exact p_X7_value_176 hΓ hg hr hX k_this hk21 _ _ _ _ _ k_x5 h
    · rw [if_neg c2] at h
      refine r_iinc hg 5 (v := (x6 + (-1))) (L' := [(6, .int (x6 + (-1))), (0, .ref this), (2, .int x2), (3, .int x3), (4, .int x4), (5, .ref x5), (7, .int x7), (8, .int x8)]) dX7_value_142 rfl (by rw [ci_m1]) (by decide) rfl ?_
      refine r_aload_n hg 1 dX7_value_145 rfl rfl ?_
      have e3 := ly_7_4 hX k_this
      refine r_getR hg dX7_value_146 fl_X7_28 k_this rfl e3.1 ?_
      refine r_iload hg 0 dX7_value_149 rfl ?_
      refine r_iconst hg dX7_value_151 ci_1 ?_
      refine r_isub hg dX7_value_152 ?_
      refine r_iload hg 7 dX7_value_153 rfl ?_
      refine r_ineg hg dX7_value_155 ?_
      refine r_aload_n hg 1 dX7_value_156 rfl rfl ?_
      have e4 := ly_7_4 hX k_this
      refine r_getR hg dX7_value_157 fl_X7_28 k_this rfl e4.1 ?_
      refine r_iload hg 0 dX7_value_160 rfl ?_
      refine r_iconst hg dX7_value_162 ci_1 ?_
      refine r_isub hg dX7_value_163 ?_
      obtain ⟨v5, e6, h⟩ := q_b1_some h
      refine r_iald hg dX7_value_164 e4.2 e6 ?_
      refine r_aload_n hg 1 dX7_value_165 rfl rfl ?_
      have e7 := ly_7_4 hX k_this
      refine r_getR hg dX7_value_166 fl_X7_28 k_this rfl e7.1 ?_
      refine r_iload hg 0 dX7_value_169 rfl ?_
      obtain ⟨v8, e9, h⟩ := q_b1_some h
      refine r_iald hg dX7_value_171 e7.2 e9 ?_
      obtain ⟨v10, e11, h⟩ := q_b1_some h
      refine r_cS3i hg dX7_value_172 mt_X7_joined ⟨ml_X7_67, mst_X7_joined⟩ (s_X7_joined hΓ hX e11) (q_room (Nat.le_of_ble_eq_true rfl) (Nat.le_of_ble_eq_true rfl)) ⟨Nat.zero_le _, Nat.zero_le _⟩ (Nat.le_of_ble_eq_true rfl) ?_
      obtain ⟨I12, e13, h⟩ := q_b1_some h
      refine r_iast hg dX7_value_175 e3.2 e13 ?_
      refine r_sub hg [1, 2, 3, 4, 5, 0, 6] rfl ?_
      exact p_X7_value_176 hΓ hg hr hX k_this hk21 _ _ _ _ _ k_x5 h
def b_X7_value_127 (this : Nat) (x1 : Int32) (x2 : Int32) (x3 : Int32) (x4 : Int32) (X : qX) (k21 : Option Nat → Int32 → Int32 → qI → Option (Int32 × qI)) (x5 : Nat) (n_x5 : Nat) (x6 : Int32) (x7 : Int32) (s1 : Int32) (s2 : Int32) (I : qI) : Option (Int32 × qI) :=
  q_b1 (q_wr I (this + 5) 96 s1 s2) fun I2 =>
  b_X7_value_176 this x1 x2 x3 x4 X k21 x5 n_x5 x6 x7 I2
set_option maxRecDepth 100000 in
set_option maxHeartbeats 4000000 in
theorem p_X7_value_127 {l : Launch} {Γ : qC} {g : qG} {z : Int32 × qI} {this : Nat} {x1 : Int32} {x2 : Int32} {x3 : Int32} {x4 : Int32} {X : qX} (hΓ : q_gm Γ) (hg : q_Ok l Γ RX7 cX7_value 9 (q_rm 3 0 0) "value" (some .int) g) (hr : q_Rt cX7_value (some .int) (q_rm 3 0 0) (some (.int z.1), z.2, X) g) (hX : q_Lay X) (k_this : q_kd X this = some (9, 6)) {k21 : Option Nat → Int32 → Int32 → qI → Option (Int32 × qI)} (hk21 : ∀ (x5 : Option Nat) (x6 : Int32) (x7 : Int32) (I : qI), k21 x5 x6 x7 I = some z → g 0 0 21 [(0, .ref this), (2, .int x2), (3, .int x3), (4, .int x4), (5, va_rf x5), (6, .int x6), (7, .int x7)] [] I X) (x5 : Nat) (n_x5 : Nat) (x6 : Int32) (x7 : Int32) (s1 : Int32) (s2 : Int32) (I : qI) (k_x5 : q_kd X x5 = some (0, n_x5)) (h : b_X7_value_127 this x1 x2 x3 x4 X k21 x5 n_x5 x6 x7 s1 s2 I = some z) : g 0 0 127 [(0, .ref this), (2, .int x2), (3, .int x3), (4, .int x4), (5, .ref x5), (6, .int x6), (7, .int x7)] [.int s2, .int s1, .ref (this + 5)] I X := by
  unfold b_X7_value_127 at h
  have e1 := ly_7_4 hX k_this
  obtain ⟨I2, e3, h⟩ := q_b1_some h
  refine r_iast hg dX7_value_127 e1.2 e3 ?_
  refine r_goto hg 176 dX7_value_128 (by decide) ?_
  exact p_X7_value_176 hΓ hg hr hX k_this hk21 _ _ _ _ _ k_x5 h
def b_X7_value_90 (this : Nat) (x1 : Int32) (x2 : Int32) (x3 : Int32) (x4 : Int32) (X : qX) (k21 : Option Nat → Int32 → Int32 → qI → Option (Int32 × qI)) (x5 : Nat) (n_x5 : Nat) (x6 : Int32) (x7 : Int32) (x8 : Int32) (I : qI) : Option (Int32 × qI) :=
  if x8 = (-33) then
    if x6 ≤ 0 then
      b_X7_value_131 this x1 x2 x3 x4 X k21 x5 n_x5 x6 x7 x8 I
    else
      q_b1 (q_rd I (this + 5) 96 (x6 - (nI 1))) fun v5 =>
      if v5 = 0 then
        b_X7_value_127 this x1 x2 x3 x4 X k21 x5 n_x5 x6 x7 (x6 - (nI 1)) (nI 1) I
      else
        b_X7_value_127 this x1 x2 x3 x4 X k21 x5 n_x5 x6 x7 (x6 - (nI 1)) (nI 0) I
  else
    b_X7_value_131 this x1 x2 x3 x4 X k21 x5 n_x5 x6 x7 x8 I
set_option maxRecDepth 100000 in
set_option maxHeartbeats 4000000 in
theorem p_X7_value_90 {l : Launch} {Γ : qC} {g : qG} {z : Int32 × qI} {this : Nat} {x1 : Int32} {x2 : Int32} {x3 : Int32} {x4 : Int32} {X : qX} (hΓ : q_gm Γ) (hg : q_Ok l Γ RX7 cX7_value 9 (q_rm 3 0 0) "value" (some .int) g) (hr : q_Rt cX7_value (some .int) (q_rm 3 0 0) (some (.int z.1), z.2, X) g) (hX : q_Lay X) (k_this : q_kd X this = some (9, 6)) {k21 : Option Nat → Int32 → Int32 → qI → Option (Int32 × qI)} (hk21 : ∀ (x5 : Option Nat) (x6 : Int32) (x7 : Int32) (I : qI), k21 x5 x6 x7 I = some z → g 0 0 21 [(0, .ref this), (2, .int x2), (3, .int x3), (4, .int x4), (5, va_rf x5), (6, .int x6), (7, .int x7)] [] I X) (x5 : Nat) (n_x5 : Nat) (x6 : Int32) (x7 : Int32) (x8 : Int32) (I : qI) (k_x5 : q_kd X x5 = some (0, n_x5)) (h : b_X7_value_90 this x1 x2 x3 x4 X k21 x5 n_x5 x6 x7 x8 I = some z) : g 0 0 90 [(0, .ref this), (2, .int x2), (3, .int x3), (4, .int x4), (5, .ref x5), (6, .int x6), (7, .int x7), (8, .int x8)] [] I X := by
  unfold b_X7_value_90 at h
  refine r_iload hg 7 dX7_value_90 rfl ?_
  refine r_bipush hg dX7_value_92 cb_m33 ?_
  refine r_icmp_ne hg 131 dX7_value_94 (by decide) (fun c1 => ?_) (fun c1 => ?_)
  · rw [if_neg c1] at h
    exact p_X7_value_131 hΓ hg hr hX k_this hk21 _ _ _ _ _ _ k_x5 h
  · rw [if_pos (Classical.not_not.mp c1)] at h
    refine r_iload hg 5 dX7_value_97 rfl ?_
    refine r_if_le hg 131 dX7_value_99 (by decide) (fun c2 => ?_) (fun c2 => ?_)
    · rw [if_pos c2] at h
      exact p_X7_value_131 hΓ hg hr hX k_this hk21 _ _ _ _ _ _ k_x5 h
    · rw [if_neg c2] at h
      refine r_aload_n hg 0 dX7_value_102 rfl rfl ?_
      have e3 := ly_7_4 hX k_this
      refine r_getR hg dX7_value_103 fl_X7_28 k_this rfl e3.1 ?_
      refine r_iload hg 5 dX7_value_106 rfl ?_
      refine r_iconst hg dX7_value_108 ci_1 ?_
      refine r_isub hg dX7_value_109 ?_
      refine r_aload_n hg 0 dX7_value_110 rfl rfl ?_
      have e4 := ly_7_4 hX k_this
      refine r_getR hg dX7_value_111 fl_X7_28 k_this rfl e4.1 ?_
      refine r_iload hg 5 dX7_value_114 rfl ?_
      refine r_iconst hg dX7_value_116 ci_1 ?_
      refine r_isub hg dX7_value_117 ?_
      obtain ⟨v5, e6, h⟩ := q_b1_some h
      refine r_iald hg dX7_value_118 e4.2 e6 ?_
      refine r_if_ne hg 126 dX7_value_119 (by decide) (fun c7 => ?_) (fun c7 => ?_)
      · rw [if_neg c7] at h
        refine r_iconst hg dX7_value_126 ci_0 ?_
        refine r_sub hg [0, 1, 2, 3, 4, 5, 6] rfl ?_
        exact p_X7_value_127 hΓ hg hr hX k_this hk21 _ _ _ _ _ _ _ k_x5 h
      · rw [if_pos (Classical.not_not.mp c7)] at h
        refine r_iconst hg dX7_value_122 ci_1 ?_
        refine r_goto hg 127 dX7_value_123 (by decide) ?_
        refine r_sub hg [0, 1, 2, 3, 4, 5, 6] rfl ?_
        exact p_X7_value_127 hΓ hg hr hX k_this hk21 _ _ _ _ _ _ _ k_x5 h
def b_X7_value_83 (this : Nat) (x1 : Int32) (x2 : Int32) (x3 : Int32) (x4 : Int32) (X : qX) (k21 : Option Nat → Int32 → Int32 → qI → Option (Int32 × qI)) (x5 : Nat) (n_x5 : Nat) (x6 : Int32) (x7 : Int32) (s1 : Int32) (s2 : Int32) (I : qI) : Option (Int32 × qI) :=
  q_b1 (q_wr I (this + 5) 96 s1 s2) fun I2 =>
  b_X7_value_176 this x1 x2 x3 x4 X k21 x5 n_x5 (x6 + (nI 1)) x7 I2
set_option maxRecDepth 100000 in
set_option maxHeartbeats 4000000 in
theorem p_X7_value_83 {l : Launch} {Γ : qC} {g : qG} {z : Int32 × qI} {this : Nat} {x1 : Int32} {x2 : Int32} {x3 : Int32} {x4 : Int32} {X : qX} (hΓ : q_gm Γ) (hg : q_Ok l Γ RX7 cX7_value 9 (q_rm 3 0 0) "value" (some .int) g) (hr : q_Rt cX7_value (some .int) (q_rm 3 0 0) (some (.int z.1), z.2, X) g) (hX : q_Lay X) (k_this : q_kd X this = some (9, 6)) {k21 : Option Nat → Int32 → Int32 → qI → Option (Int32 × qI)} (hk21 : ∀ (x5 : Option Nat) (x6 : Int32) (x7 : Int32) (I : qI), k21 x5 x6 x7 I = some z → g 0 0 21 [(0, .ref this), (2, .int x2), (3, .int x3), (4, .int x4), (5, va_rf x5), (6, .int x6), (7, .int x7)] [] I X) (x5 : Nat) (n_x5 : Nat) (x6 : Int32) (x7 : Int32) (s1 : Int32) (s2 : Int32) (I : qI) (k_x5 : q_kd X x5 = some (0, n_x5)) (h : b_X7_value_83 this x1 x2 x3 x4 X k21 x5 n_x5 x6 x7 s1 s2 I = some z) : g 0 0 83 [(0, .ref this), (2, .int x2), (3, .int x3), (4, .int x4), (5, .ref x5), (6, .int x6), (7, .int x7)] [.int s2, .int s1, .ref (this + 5)] I X := by
  unfold b_X7_value_83 at h
  have e1 := ly_7_4 hX k_this
  obtain ⟨I2, e3, h⟩ := q_b1_some h
  refine r_iast hg dX7_value_83 e1.2 e3 ?_
  refine r_iinc hg 5 (v := (x6 + (nI 1))) (L' := [(6, .int (x6 + (nI 1))), (0, .ref this), (2, .int x2), (3, .int x3), (4, .int x4), (5, .ref x5), (7, .int x7)]) dX7_value_84 rfl (by rw [ci_1]) (by decide) rfl ?_
  refine r_goto hg 176 dX7_value_87 (by decide) ?_
  refine r_sub hg [1, 2, 3, 4, 5, 0, 6] rfl ?_
  exact p_X7_value_176 hΓ hg hr hX k_this hk21 _ _ _ _ _ k_x5 h
def b_X7_value_21 (this : Nat) (x1 : Int32) (x2 : Int32) (x3 : Int32) (x4 : Int32) (X : qX) (k21 : Option Nat → Int32 → Int32 → qI → Option (Int32 × qI)) (x5 : Option Nat) (x6 : Int32) (x7 : Int32) (I : qI) : Option (Int32 × qI) :=
  q_b2 (q_arr X x5) fun a1 n2 =>
  if (nI n2) ≤ x7 then
    if x6 ≤ 0 then
      some ((nI 0), I)
    else
      q_b1 (q_rd I (this + 5) 96 (x6 - (nI 1))) fun v9 =>
      some (v9, I)
  else
    q_b1 (q_rd I a1 n2 x7) fun v11 =>
    if v11 < 0 then
      b_X7_value_90 this x1 x2 x3 x4 X k21 a1 n2 x6 x7 v11 I
    else
      if (nI 96) ≤ x6 then
        b_X7_value_90 this x1 x2 x3 x4 X k21 a1 n2 x6 x7 v11 I
      else
        if (nI 10000) ≤ v11 then
          q_b1 (f_X7_named (v11 - (nI 10000)) x2 x3 x4) fun v18 =>
          b_X7_value_83 this x1 x2 x3 x4 X k21 a1 n2 x6 x7 x6 v18 I
        else
          b_X7_value_83 this x1 x2 x3 x4 X k21 a1 n2 x6 x7 x6 v11 I
set_option maxRecDepth 100000 in
set_option maxHeartbeats 4000000 in
theorem p_X7_value_21 {l : Launch} {Γ : qC} {g : qG} {z : Int32 × qI} {this : Nat} {x1 : Int32} {x2 : Int32} {x3 : Int32} {x4 : Int32} {X : qX} (hΓ : q_gm Γ) (hg : q_Ok l Γ RX7 cX7_value 9 (q_rm 3 0 0) "value" (some .int) g) (hr : q_Rt cX7_value (some .int) (q_rm 3 0 0) (some (.int z.1), z.2, X) g) (hX : q_Lay X) (k_this : q_kd X this = some (9, 6)) {k21 : Option Nat → Int32 → Int32 → qI → Option (Int32 × qI)} (hk21 : ∀ (x5 : Option Nat) (x6 : Int32) (x7 : Int32) (I : qI), k21 x5 x6 x7 I = some z → g 0 0 21 [(0, .ref this), (2, .int x2), (3, .int x3), (4, .int x4), (5, va_rf x5), (6, .int x6), (7, .int x7)] [] I X) (x5 : Option Nat) (x6 : Int32) (x7 : Int32) (I : qI) (h : b_X7_value_21 this x1 x2 x3 x4 X k21 x5 x6 x7 I = some z) : g 0 0 21 [(0, .ref this), (2, .int x2), (3, .int x3), (4, .int x4), (5, va_rf x5), (6, .int x6), (7, .int x7)] [] I X := by
  unfold b_X7_value_21 at h
  refine r_iload hg 6 dX7_value_21 rfl ?_
  refine r_aloadq hg 4 dX7_value_23 rfl ?_
  replace h := q_b2_some h
  obtain ⟨a1, n2, e3, h⟩ := h
  obtain ⟨e5, k4⟩ := q_arr_some e3
  subst e5
  refine r_alen hg dX7_value_25 k4 ?_
  refine r_icmp_ge hg 182 dX7_value_26 (by decide) (fun c6 => ?_) (fun c6 => ?_)
  · rw [if_pos c6] at h
    refine r_iload hg 5 dX7_value_182 rfl ?_
    refine r_if_le hg 199 dX7_value_184 (by decide) (fun c7 => ?_) (fun c7 => ?_)
    · rw [if_pos c7] at h
      refine r_iconst hg dX7_value_199 ci_0 ?_
      exact r_ireturn hr dX7_value_200 ⟨Nat.zero_le _, Nat.zero_le _⟩ ⟨_, rfl, rfl⟩ (by cases h; rfl)
    · rw [if_neg c7] at h
      refine r_aload_n hg 0 dX7_value_187 rfl rfl ?_
      have e8 := ly_7_4 hX k_this
      refine r_getR hg dX7_value_188 fl_X7_28 k_this rfl e8.1 ?_
      refine r_iload hg 5 dX7_value_191 rfl ?_
      refine r_iconst hg dX7_value_193 ci_1 ?_
      refine r_isub hg dX7_value_194 ?_
      obtain ⟨v9, e10, h⟩ := q_b1_some h
      refine r_iald hg dX7_value_195 e8.2 e10 ?_
      refine r_goto hg 200 dX7_value_196 (by decide) ?_
      exact r_ireturn hr dX7_value_200 ⟨Nat.zero_le _, Nat.zero_le _⟩ ⟨_, rfl, rfl⟩ (by cases h; rfl)
  · rw [if_neg c6] at h
    refine r_aload hg 4 dX7_value_29 rfl ?_
    refine r_iload hg 6 dX7_value_31 rfl ?_
    obtain ⟨v11, e12, h⟩ := q_b1_some h
    refine r_iald hg dX7_value_33 k4 e12 ?_
    refine r_istore hg (L' := [(8, .int v11), (0, .ref this), (2, .int x2), (3, .int x3), (4, .int x4), (5, .ref a1), (6, .int x6), (7, .int x7)]) dX7_value_34 (by decide) rfl ?_
    refine r_iload hg 0 dX7_value_36 rfl ?_
    refine r_if_lt hg 90 dX7_value_38 (by decide) (fun c13 => ?_) (fun c13 => ?_)
    · rw [if_pos c13] at h
      refine r_sub hg [1, 2, 3, 4, 5, 6, 7, 0] rfl ?_
      exact p_X7_value_90 hΓ hg hr hX k_this hk21 _ _ _ _ _ _ k4 h
    · rw [if_neg c13] at h
      refine r_iload hg 6 dX7_value_41 rfl ?_
      refine r_aload_n hg 1 dX7_value_43 rfl rfl ?_
      have e14 := ly_7_4 hX k_this
      refine r_getR hg dX7_value_44 fl_X7_28 k_this rfl e14.1 ?_
      refine r_alen hg dX7_value_47 e14.2 ?_
      refine r_icmp_ge hg 90 dX7_value_48 (by decide) (fun c15 => ?_) (fun c15 => ?_)
      · rw [if_pos c15] at h
        refine r_sub hg [1, 2, 3, 4, 5, 6, 7, 0] rfl ?_
        exact p_X7_value_90 hΓ hg hr hX k_this hk21 _ _ _ _ _ _ k4 h
      · rw [if_neg c15] at h
        refine r_aload_n hg 1 dX7_value_51 rfl rfl ?_
        have e16 := ly_7_4 hX k_this
        refine r_getR hg dX7_value_52 fl_X7_28 k_this rfl e16.1 ?_
        refine r_iload hg 6 dX7_value_55 rfl ?_
        refine r_iload hg 0 dX7_value_57 rfl ?_
        refine r_sipush hg dX7_value_59 cs_10000 ?_
        refine r_icmp_ge hg 70 dX7_value_62 (by decide) (fun c17 => ?_) (fun c17 => ?_)
        · rw [if_pos c17] at h
          refine r_iload hg 0 dX7_value_70 rfl ?_
          refine r_sipush hg dX7_value_72 cs_10000 ?_
          refine r_isub hg dX7_value_75 ?_
          refine r_iload_n hg 2 dX7_value_76 rfl rfl ?_
          refine r_iload_n hg 3 dX7_value_77 rfl rfl ?_
          refine r_iload hg 4 dX7_value_78 rfl ?_
          obtain ⟨v18, e19, h⟩ := q_b1_some h
          refine r_cS4i hg dX7_value_80 mt_X7_named ⟨ml_X7_64, mst_X7_named⟩ (s_X7_named hΓ hX e19) (q_room (Nat.le_of_ble_eq_true rfl) (Nat.le_of_ble_eq_true rfl)) ⟨Nat.zero_le _, Nat.zero_le _⟩ (Nat.le_of_ble_eq_true rfl) ?_
          refine r_sub hg [1, 2, 3, 4, 5, 6, 7] rfl ?_
          exact p_X7_value_83 hΓ hg hr hX k_this hk21 _ _ _ _ _ _ _ k4 h
        · rw [if_neg c17] at h
          refine r_iload hg 0 dX7_value_65 rfl ?_
          refine r_goto hg 83 dX7_value_67 (by decide) ?_
          refine r_sub hg [1, 2, 3, 4, 5, 6, 7] rfl ?_
          exact p_X7_value_83 hΓ hg hr hX k_this hk21 _ _ _ _ _ _ _ k4 h
theorem pl_X7_value_21 {l : Launch} {Γ : qC} {g : qG} {z : Int32 × qI} {this : Nat} {x1 : Int32} {x2 : Int32} {x3 : Int32} {x4 : Int32} {X : qX} (hΓ : q_gm Γ) (hg : q_Ok l Γ RX7 cX7_value 9 (q_rm 3 0 0) "value" (some .int) g) (hr : q_Rt cX7_value (some .int) (q_rm 3 0 0) (some (.int z.1), z.2, X) g) (hX : q_Lay X) (k_this : q_kd X this = some (9, 6)) : ∀ (n : Nat) (x5 : Option Nat) (x6 : Int32) (x7 : Int32) (I : qI), q_fix (fun _ _ _ _ => none) (b_X7_value_21 this x1 x2 x3 x4 X) n x5 x6 x7 I = some z → g 0 0 21 [(0, .ref this), (2, .int x2), (3, .int x3), (4, .int x4), (5, va_rf x5), (6, .int x6), (7, .int x7)] [] I X := by
  intro n
  induction n with
  | zero =>
    intro x5 x6 x7 I h
    cases (show (none : Option (Int32 × qI)) = some z from h)
  | succ n ih =>
    intro x5 x6 x7 I h
    exact p_X7_value_21 hΓ hg hr hX k_this ih _ _ _ _ h
def f_X7_value (this : Nat) (x1 : Int32) (x2 : Int32) (x3 : Int32) (x4 : Int32) (X : qX) (I : qI) : Option (Int32 × qI) :=
  q_b1 (q_rdR X (this + 4) 12 x1) fun r2 =>
  q_on r2 (
    some ((nI 0), I)
  ) fun a7 =>
  q_fix (fun _ _ _ _ => none) (b_X7_value_21 this x1 x2 x3 x4 X) q_fu (some a7) (nI 0) (nI 0) I
set_option maxRecDepth 100000 in
set_option maxHeartbeats 4000000 in
theorem s_X7_value {l : Launch} {Γ : qC} (hΓ : q_gm Γ) {X : qX} (hX : q_Lay X) {this : Nat} {x1 : Int32} {x2 : Int32} {x3 : Int32} {x4 : Int32} (k_this : q_kd X this = some (9, 6)) {I : qI} {z : Int32 × qI} (h : f_X7_value this x1 x2 x3 x4 X I = some z) : q_Sem l Γ (q_rm 3 0 0) yX7_value cX7_value 9 (some .int) [.ref this, .int x1, .int x2, .int x3, .int x4] I X (some (.int z.1), z.2, X) := by
  refine q_met (by decide) (Nat.le_of_ble_eq_true rfl) (fun g hg hr => ?_)
  unfold f_X7_value at h
  show g 0 0 0 [(0, .ref this), (1, .int x1), (2, .int x2), (3, .int x3), (4, .int x4)] [] I X
  refine r_aload_n hg 0 dX7_value_0 rfl rfl ?_
  have e1 := ly_7_3 hX k_this
  refine r_getR hg dX7_value_1 fl_X7_22 k_this rfl e1.1 ?_
  refine r_iload_n hg 1 dX7_value_4 rfl rfl ?_
  obtain ⟨r2, e3, h⟩ := q_b1_some h
  obtain ⟨e4, e5⟩ := q_rdR_in e3
  refine r_aald hg dX7_value_5 e1.2 e4 ?_
  rw [e5]
  refine r_astoreq hg (L' := [(5, va_rf r2), (0, .ref this), (1, .int x1), (2, .int x2), (3, .int x3), (4, .int x4)]) dX7_value_6 (by decide) rfl ?_
  refine r_aloadq hg 0 dX7_value_8 rfl ?_
  refine r_ifnonnull hg 15 dX7_value_10 (by decide) (fun e6 => ?_) (fun a7 e6 => ?_)
  · subst e6
    simp only [q_on] at h
    refine r_iconst hg dX7_value_13 ci_0 ?_
    exact r_ireturn hr dX7_value_14 ⟨Nat.zero_le _, Nat.zero_le _⟩ ⟨_, rfl, rfl⟩ (by cases h; rfl)
  · subst e6
    simp only [q_on] at h
    refine r_iconst hg dX7_value_15 ci_0 ?_
    refine r_istore hg (L' := [(6, .int (nI 0)), (5, va_rf (some a7)), (0, .ref this), (1, .int x1), (2, .int x2), (3, .int x3), (4, .int x4)]) dX7_value_16 (by decide) (by simp [List.filter, q_cat_rf]) ?_
    refine r_iconst hg dX7_value_18 ci_0 ?_
    refine r_istore hg (L' := [(7, .int (nI 0)), (6, .int (nI 0)), (5, va_rf (some a7)), (0, .ref this), (1, .int x1), (2, .int x2), (3, .int x3), (4, .int x4)]) dX7_value_19 (by decide) rfl ?_
    refine r_sub hg [3, 5, 6, 7, 2, 1, 0] rfl ?_
    exact pl_X7_value_21 hΓ hg hr hX k_this _ _ _ _ _ h

def f_X8_loavesFor (this : Nat) (x1 : Int32) (x2 : Int32) (I : qI) : Option (Int32) :=
  if x2 ≤ 0 then
    some ((nI 0))
  else
    q_b1 (q_rd I (this + 2) 6 x1) fun v3 =>
    if 0 < v3 then
      q_b1 (q_rd I (this + 3) 6 x1) fun v7 =>
      q_b1 (q_rd I (this + 2) 6 x1) fun v10 =>
      if v10 = 0 then none else
      some ((q_min v7 (x2 / v10)))
    else
      some ((nI 0))
set_option maxRecDepth 100000 in
set_option maxHeartbeats 4000000 in
theorem s_X8_loavesFor {l : Launch} {Γ : qC} (hΓ : q_gm Γ) {X : qX} (hX : q_Lay X) {this : Nat} {x1 : Int32} {x2 : Int32} (k_this : q_kd X this = some (10, 5)) {I : qI} {z : Int32} (h : f_X8_loavesFor this x1 x2 I = some z) : q_Sem l Γ (q_rm 3 0 0) yX8_loavesFor cX8_loavesFor 3 (some .int) [.ref this, .int x1, .int x2] I X (some (.int z), I, X) := by
  refine q_met (by decide) (Nat.le_of_ble_eq_true rfl) (fun g hg hr => ?_)
  unfold f_X8_loavesFor at h
  show g 0 0 0 [(0, .ref this), (1, .int x1), (2, .int x2)] [] I X
  refine r_iload_n hg 2 dX8_loavesFor_0 rfl rfl ?_
  refine r_if_le hg 13 dX8_loavesFor_1 (by decide) (fun c1 => ?_) (fun c1 => ?_)
  · rw [if_pos c1] at h
    refine r_iconst hg dX8_loavesFor_13 ci_0 ?_
    exact r_ireturn hr dX8_loavesFor_14 ⟨Nat.zero_le _, Nat.zero_le _⟩ ⟨_, rfl, rfl⟩ (by cases h; rfl)
  · rw [if_neg c1] at h
    refine r_aload_n hg 0 dX8_loavesFor_4 rfl rfl ?_
    have e2 := ly_8_1 hX k_this
    refine r_getR hg dX8_loavesFor_5 fl_X8_15 k_this rfl e2.1 ?_
    refine r_iload_n hg 1 dX8_loavesFor_8 rfl rfl ?_
    obtain ⟨v3, e4, h⟩ := q_b1_some h
    refine r_iald hg dX8_loavesFor_9 e2.2 e4 ?_
    refine r_if_gt hg 15 dX8_loavesFor_10 (by decide) (fun c5 => ?_) (fun c5 => ?_)
    · rw [if_pos c5] at h
      refine r_aload_n hg 0 dX8_loavesFor_15 rfl rfl ?_
      have e6 := ly_8_2 hX k_this
      refine r_getR hg dX8_loavesFor_16 fl_X8_18 k_this rfl e6.1 ?_
      refine r_iload_n hg 1 dX8_loavesFor_19 rfl rfl ?_
      obtain ⟨v7, e8, h⟩ := q_b1_some h
      refine r_iald hg dX8_loavesFor_20 e6.2 e8 ?_
      refine r_iload_n hg 2 dX8_loavesFor_21 rfl rfl ?_
      refine r_aload_n hg 0 dX8_loavesFor_22 rfl rfl ?_
      have e9 := ly_8_1 hX k_this
      refine r_getR hg dX8_loavesFor_23 fl_X8_15 k_this rfl e9.1 ?_
      refine r_iload_n hg 1 dX8_loavesFor_26 rfl rfl ?_
      obtain ⟨v10, e11, h⟩ := q_b1_some h
      refine r_iald hg dX8_loavesFor_27 e9.2 e11 ?_
      by_cases c12 : v10 = 0
      · rw [if_pos c12] at h; cases h
      rw [if_neg c12] at h
      refine r_idiv hg dX8_loavesFor_28 c12 ?_
      refine r_minq hg dX8_loavesFor_29 mm_X8_35 ⟨Nat.le_of_ble_eq_true rfl, Nat.le_of_ble_eq_true rfl⟩ ⟨Nat.zero_le _, Nat.zero_le _⟩ ?_
      exact r_ireturn hr dX8_loavesFor_32 ⟨Nat.zero_le _, Nat.zero_le _⟩ ⟨_, rfl, rfl⟩ (by cases h; rfl)
    · rw [if_neg c5] at h
      refine r_iconst hg dX8_loavesFor_13 ci_0 ?_
      exact r_ireturn hr dX8_loavesFor_14 ⟨Nat.zero_le _, Nat.zero_le _⟩ ⟨_, rfl, rfl⟩ (by cases h; rfl)

def f_X8_loavesOfCompany (this : Nat) (x1 : Int32) (I : qI) : Option (Int32) :=
  q_b1 (f_X8_leastPrice this (nI 0) I) fun v1 =>
  if 0 < v1 then
    if v1 = 0 then none else
    some ((x1 / v1))
  else
    some ((nI 0))
set_option maxRecDepth 100000 in
set_option maxHeartbeats 4000000 in
theorem s_X8_loavesOfCompany {l : Launch} {Γ : qC} (hΓ : q_gm Γ) {X : qX} (hX : q_Lay X) {this : Nat} {x1 : Int32} (k_this : q_kd X this = some (10, 5)) {I : qI} {z : Int32} (h : f_X8_loavesOfCompany this x1 I = some z) : q_Sem l Γ (q_rm 3 0 0) yX8_loavesOfCompany cX8_loavesOfCompany 3 (some .int) [.ref this, .int x1] I X (some (.int z), I, X) := by
  refine q_met (by decide) (Nat.le_of_ble_eq_true rfl) (fun g hg hr => ?_)
  unfold f_X8_loavesOfCompany at h
  show g 0 0 0 [(0, .ref this), (1, .int x1)] [] I X
  refine r_aload_n hg 0 dX8_loavesOfCompany_0 rfl rfl ?_
  refine r_iconst hg dX8_loavesOfCompany_1 ci_0 ?_
  obtain ⟨v1, e2, h⟩ := q_b1_some h
  refine r_cV1i hg dX8_loavesOfCompany_2 mt_X8_leastPrice ml_X8_41 mv_X8_leastPrice k_this (s_X8_leastPrice hΓ hX k_this e2) (q_room (Nat.le_of_ble_eq_true rfl) (Nat.le_of_ble_eq_true rfl)) ⟨Nat.zero_le _, Nat.zero_le _⟩ (Nat.le_of_ble_eq_true rfl) ?_
  refine r_istore_n hg (L' := [(2, .int v1), (0, .ref this), (1, .int x1)]) dX8_loavesOfCompany_5 rfl (by decide) rfl ?_
  refine r_iload_n hg 0 dX8_loavesOfCompany_6 rfl rfl ?_
  refine r_if_gt hg 14 dX8_loavesOfCompany_7 (by decide) (fun c3 => ?_) (fun c3 => ?_)
  · rw [if_pos c3] at h
    refine r_iload_n hg 2 dX8_loavesOfCompany_14 rfl rfl ?_
    refine r_iload_n hg 0 dX8_loavesOfCompany_15 rfl rfl ?_
    by_cases c4 : v1 = 0
    · rw [if_pos c4] at h; cases h
    rw [if_neg c4] at h
    refine r_idiv hg dX8_loavesOfCompany_16 c4 ?_
    exact r_ireturn hr dX8_loavesOfCompany_17 ⟨Nat.zero_le _, Nat.zero_le _⟩ ⟨_, rfl, rfl⟩ (by cases h; rfl)
  · rw [if_neg c3] at h
    refine r_iconst hg dX8_loavesOfCompany_10 ci_0 ?_
    refine r_goto hg 17 dX8_loavesOfCompany_11 (by decide) ?_
    exact r_ireturn hr dX8_loavesOfCompany_17 ⟨Nat.zero_le _, Nat.zero_le _⟩ ⟨_, rfl, rfl⟩ (by cases h; rfl)

def b_X8_loavesOfTown_51 (this : Nat) (x1 : Int32) (I : qI) (k4 : Int32 → Int32 → Option (Int32)) (x2 : Int32) (x3 : Int32) : Option (Int32) :=
  k4 x2 (x3 + (nI 1))
set_option maxRecDepth 100000 in
set_option maxHeartbeats 4000000 in
theorem p_X8_loavesOfTown_51 {l : Launch} {Γ : qC} {g : qG} {z : Int32} {this : Nat} {x1 : Int32} {X : qX} {I : qI} (hΓ : q_gm Γ) (hg : q_Ok l Γ RX8 cX8_loavesOfTown 4 (q_rm 3 0 0) "loavesOfTown" (some .int) g) (hr : q_Rt cX8_loavesOfTown (some .int) (q_rm 3 0 0) (some (.int z), I, X) g) (hX : q_Lay X) (k_this : q_kd X this = some (10, 5)) {k4 : Int32 → Int32 → Option (Int32)} (hk4 : ∀ (x2 : Int32) (x3 : Int32), k4 x2 x3 = some z → g 0 0 4 [(0, .ref this), (1, .int x1), (2, .int x2), (3, .int x3)] [] I X) (x2 : Int32) (x3 : Int32) (h : b_X8_loavesOfTown_51 this x1 I k4 x2 x3 = some z) : g 0 0 51 [(0, .ref this), (1, .int x1), (2, .int x2), (3, .int x3)] [] I X := by
  unfold b_X8_loavesOfTown_51 at h
  refine r_iinc hg 3 (v := (x3 + (nI 1))) (L' := [(3, .int (x3 + (nI 1))), (0, .ref this), (1, .int x1), (2, .int x2)]) dX8_loavesOfTown_51 rfl (by rw [ci_1]) (by decide) rfl ?_
  refine r_goto hg 4 dX8_loavesOfTown_54 (by decide) ?_
  refine r_sub hg [1, 2, 3, 0] rfl ?_
  exact hk4 _ _ h
def b_X8_loavesOfTown_4 (this : Nat) (x1 : Int32) (I : qI) (k4 : Int32 → Int32 → Option (Int32)) (x2 : Int32) (x3 : Int32) : Option (Int32) :=
  if (I this 4) ≤ x3 then
    some (x2)
  else
    q_b1 (q_rd I (this + 1) 6 x3) fun v3 =>
    if v3 = (nI 1) then
      q_b1 (q_rd I (this + 2) 6 x3) fun v7 =>
      if v7 ≤ 0 then
        b_X8_loavesOfTown_51 this x1 I k4 x2 x3
      else
        q_b1 (q_rd I (this + 4) 6 x3) fun v11 =>
        q_b1 (q_rd I (this + 2) 6 x3) fun v14 =>
        if v14 = 0 then none else
        b_X8_loavesOfTown_51 this x1 I k4 (q_max x2 ((x1 - v11) / v14)) x3
    else
      b_X8_loavesOfTown_51 this x1 I k4 x2 x3
set_option maxRecDepth 100000 in
set_option maxHeartbeats 4000000 in
theorem p_X8_loavesOfTown_4 {l : Launch} {Γ : qC} {g : qG} {z : Int32} {this : Nat} {x1 : Int32} {X : qX} {I : qI} (hΓ : q_gm Γ) (hg : q_Ok l Γ RX8 cX8_loavesOfTown 4 (q_rm 3 0 0) "loavesOfTown" (some .int) g) (hr : q_Rt cX8_loavesOfTown (some .int) (q_rm 3 0 0) (some (.int z), I, X) g) (hX : q_Lay X) (k_this : q_kd X this = some (10, 5)) {k4 : Int32 → Int32 → Option (Int32)} (hk4 : ∀ (x2 : Int32) (x3 : Int32), k4 x2 x3 = some z → g 0 0 4 [(0, .ref this), (1, .int x1), (2, .int x2), (3, .int x3)] [] I X) (x2 : Int32) (x3 : Int32) (h : b_X8_loavesOfTown_4 this x1 I k4 x2 x3 = some z) : g 0 0 4 [(0, .ref this), (1, .int x1), (2, .int x2), (3, .int x3)] [] I X := by
  unfold b_X8_loavesOfTown_4 at h
  refine r_iload_n hg 3 dX8_loavesOfTown_4 rfl rfl ?_
  refine r_aload_n hg 0 dX8_loavesOfTown_5 rfl rfl ?_
  refine r_getI hg dX8_loavesOfTown_6 fl_X8_24 k_this rfl ?_
  refine r_icmp_ge hg 57 dX8_loavesOfTown_9 (by decide) (fun c1 => ?_) (fun c1 => ?_)
  · rw [if_pos c1] at h
    refine r_iload_n hg 2 dX8_loavesOfTown_57 rfl rfl ?_
    exact r_ireturn hr dX8_loavesOfTown_58 ⟨Nat.zero_le _, Nat.zero_le _⟩ ⟨_, rfl, rfl⟩ (by cases h; rfl)
  · rw [if_neg c1] at h
    refine r_aload_n hg 0 dX8_loavesOfTown_12 rfl rfl ?_
    have e2 := ly_8_0 hX k_this
    refine r_getR hg dX8_loavesOfTown_13 fl_X8_11 k_this rfl e2.1 ?_
    refine r_iload_n hg 3 dX8_loavesOfTown_16 rfl rfl ?_
    obtain ⟨v3, e4, h⟩ := q_b1_some h
    refine r_iald hg dX8_loavesOfTown_17 e2.2 e4 ?_
    refine r_iconst hg dX8_loavesOfTown_18 ci_1 ?_
    refine r_icmp_ne hg 51 dX8_loavesOfTown_19 (by decide) (fun c5 => ?_) (fun c5 => ?_)
    · rw [if_neg c5] at h
      exact p_X8_loavesOfTown_51 hΓ hg hr hX k_this hk4 _ _ h
    · rw [if_pos (Classical.not_not.mp c5)] at h
      refine r_aload_n hg 0 dX8_loavesOfTown_22 rfl rfl ?_
      have e6 := ly_8_1 hX k_this
      refine r_getR hg dX8_loavesOfTown_23 fl_X8_15 k_this rfl e6.1 ?_
      refine r_iload_n hg 3 dX8_loavesOfTown_26 rfl rfl ?_
      obtain ⟨v7, e8, h⟩ := q_b1_some h
      refine r_iald hg dX8_loavesOfTown_27 e6.2 e8 ?_
      refine r_if_le hg 51 dX8_loavesOfTown_28 (by decide) (fun c9 => ?_) (fun c9 => ?_)
      · rw [if_pos c9] at h
        exact p_X8_loavesOfTown_51 hΓ hg hr hX k_this hk4 _ _ h
      · rw [if_neg c9] at h
        refine r_iload_n hg 2 dX8_loavesOfTown_31 rfl rfl ?_
        refine r_iload_n hg 1 dX8_loavesOfTown_32 rfl rfl ?_
        refine r_aload_n hg 0 dX8_loavesOfTown_33 rfl rfl ?_
        have e10 := ly_8_3 hX k_this
        refine r_getR hg dX8_loavesOfTown_34 fl_X8_21 k_this rfl e10.1 ?_
        refine r_iload_n hg 3 dX8_loavesOfTown_37 rfl rfl ?_
        obtain ⟨v11, e12, h⟩ := q_b1_some h
        refine r_iald hg dX8_loavesOfTown_38 e10.2 e12 ?_
        refine r_isub hg dX8_loavesOfTown_39 ?_
        refine r_aload_n hg 0 dX8_loavesOfTown_40 rfl rfl ?_
        have e13 := ly_8_1 hX k_this
        refine r_getR hg dX8_loavesOfTown_41 fl_X8_15 k_this rfl e13.1 ?_
        refine r_iload_n hg 3 dX8_loavesOfTown_44 rfl rfl ?_
        obtain ⟨v14, e15, h⟩ := q_b1_some h
        refine r_iald hg dX8_loavesOfTown_45 e13.2 e15 ?_
        by_cases c16 : v14 = 0
        · rw [if_pos c16] at h; cases h
        rw [if_neg c16] at h
        refine r_idiv hg dX8_loavesOfTown_46 c16 ?_
        refine r_maxq hg dX8_loavesOfTown_47 mm_X8_45 ⟨Nat.le_of_ble_eq_true rfl, Nat.le_of_ble_eq_true rfl⟩ ⟨Nat.zero_le _, Nat.zero_le _⟩ ?_
        refine r_istore_n hg (L' := [(2, .int (q_max x2 ((x1 - v11) / v14))), (0, .ref this), (1, .int x1), (3, .int x3)]) dX8_loavesOfTown_50 rfl (by decide) rfl ?_
        refine r_sub hg [1, 2, 0, 3] rfl ?_
        exact p_X8_loavesOfTown_51 hΓ hg hr hX k_this hk4 _ _ h
theorem pl_X8_loavesOfTown_4 {l : Launch} {Γ : qC} {g : qG} {z : Int32} {this : Nat} {x1 : Int32} {X : qX} {I : qI} (hΓ : q_gm Γ) (hg : q_Ok l Γ RX8 cX8_loavesOfTown 4 (q_rm 3 0 0) "loavesOfTown" (some .int) g) (hr : q_Rt cX8_loavesOfTown (some .int) (q_rm 3 0 0) (some (.int z), I, X) g) (hX : q_Lay X) (k_this : q_kd X this = some (10, 5)) : ∀ (n : Nat) (x2 : Int32) (x3 : Int32), q_fix (fun _ _ => none) (b_X8_loavesOfTown_4 this x1 I) n x2 x3 = some z → g 0 0 4 [(0, .ref this), (1, .int x1), (2, .int x2), (3, .int x3)] [] I X := by
  intro n
  induction n with
  | zero =>
    intro x2 x3 h
    cases (show (none : Option (Int32)) = some z from h)
  | succ n ih =>
    intro x2 x3 h
    exact p_X8_loavesOfTown_4 hΓ hg hr hX k_this ih _ _ h
def f_X8_loavesOfTown (this : Nat) (x1 : Int32) (I : qI) : Option (Int32) :=
  q_fix (fun _ _ => none) (b_X8_loavesOfTown_4 this x1 I) q_fu (nI 0) (nI 0)
set_option maxRecDepth 100000 in
set_option maxHeartbeats 4000000 in
theorem s_X8_loavesOfTown {l : Launch} {Γ : qC} (hΓ : q_gm Γ) {X : qX} (hX : q_Lay X) {this : Nat} {x1 : Int32} (k_this : q_kd X this = some (10, 5)) {I : qI} {z : Int32} (h : f_X8_loavesOfTown this x1 I = some z) : q_Sem l Γ (q_rm 3 0 0) yX8_loavesOfTown cX8_loavesOfTown 4 (some .int) [.ref this, .int x1] I X (some (.int z), I, X) := by
  refine q_met (by decide) (Nat.le_of_ble_eq_true rfl) (fun g hg hr => ?_)
  unfold f_X8_loavesOfTown at h
  show g 0 0 0 [(0, .ref this), (1, .int x1)] [] I X
  refine r_iconst hg dX8_loavesOfTown_0 ci_0 ?_
  refine r_istore_n hg (L' := [(2, .int (nI 0)), (0, .ref this), (1, .int x1)]) dX8_loavesOfTown_1 rfl (by decide) rfl ?_
  refine r_iconst hg dX8_loavesOfTown_2 ci_0 ?_
  refine r_istore_n hg (L' := [(3, .int (nI 0)), (2, .int (nI 0)), (0, .ref this), (1, .int x1)]) dX8_loavesOfTown_3 rfl (by decide) rfl ?_
  refine r_sub hg [2, 3, 1, 0] rfl ?_
  exact pl_X8_loavesOfTown_4 hΓ hg hr hX k_this _ _ _ h

def f_X10_isBarred (x0 : Nat) (x1 : Int32) (x2 : Int32) (X : qX) (I : qI) : Option (Int32 × qI) :=
  q_b1 (f_X10_m x2) fun v1 =>
  q_b1 (f_X10_p x2) fun v3 =>
  q_b1 (f_X10_t x2) fun v5 =>
  q_b2 (f_X7_value x0 x1 v1 v3 v5 X I) fun v7 I8 =>
  if v7 = 0 then
    some ((nI 0), I8)
  else
    some ((nI 1), I8)
set_option maxRecDepth 100000 in
set_option maxHeartbeats 4000000 in
theorem s_X10_isBarred {l : Launch} {Γ : qC} (hΓ : q_gm Γ) {X : qX} (hX : q_Lay X) {x0 : Nat} {x1 : Int32} {x2 : Int32} (k_x0 : q_kd X x0 = some (9, 6)) {I : qI} {z : Int32 × qI} (h : f_X10_isBarred x0 x1 x2 X I = some z) : q_Sem l Γ (q_rm 4 0 0) yX10_isBarred cX10_isBarred 3 (some .boolean) [.ref x0, .int x1, .int x2] I X (some (.int z.1), z.2, X) := by
  refine q_met (by decide) (Nat.le_of_ble_eq_true rfl) (fun g hg hr => ?_)
  unfold f_X10_isBarred at h
  show g 0 0 0 [(0, .ref x0), (1, .int x1), (2, .int x2)] [] I X
  refine r_aload_n hg 0 dX10_isBarred_0 rfl rfl ?_
  refine r_iload_n hg 1 dX10_isBarred_1 rfl rfl ?_
  refine r_iload_n hg 2 dX10_isBarred_2 rfl rfl ?_
  obtain ⟨v1, e2, h⟩ := q_b1_some h
  refine r_cS1i hg dX10_isBarred_3 mt_X10_m ⟨ml_X10_21, mst_X10_m⟩ (s_X10_m hΓ hX e2) (q_room (Nat.le_of_ble_eq_true rfl) (Nat.le_of_ble_eq_true rfl)) ⟨Nat.zero_le _, Nat.zero_le _⟩ (Nat.le_of_ble_eq_true rfl) ?_
  refine r_iload_n hg 2 dX10_isBarred_6 rfl rfl ?_
  obtain ⟨v3, e4, h⟩ := q_b1_some h
  refine r_cS1i hg dX10_isBarred_7 mt_X10_p ⟨ml_X10_25, mst_X10_p⟩ (s_X10_p hΓ hX e4) (q_room (Nat.le_of_ble_eq_true rfl) (Nat.le_of_ble_eq_true rfl)) ⟨Nat.zero_le _, Nat.zero_le _⟩ (Nat.le_of_ble_eq_true rfl) ?_
  refine r_iload_n hg 2 dX10_isBarred_10 rfl rfl ?_
  obtain ⟨v5, e6, h⟩ := q_b1_some h
  refine r_cS1i hg dX10_isBarred_11 mt_X10_t ⟨ml_X10_28, mst_X10_t⟩ (s_X10_t hΓ hX e6) (q_room (Nat.le_of_ble_eq_true rfl) (Nat.le_of_ble_eq_true rfl)) ⟨Nat.zero_le _, Nat.zero_le _⟩ (Nat.le_of_ble_eq_true rfl) ?_
  obtain ⟨v7, I8, e9, h⟩ := q_b2_some h
  refine r_cV4i hg dX10_isBarred_14 mt_X7_value ml_X10_35 mv_X7_value k_x0 (s_X7_value hΓ hX k_x0 e9) (q_room (Nat.le_of_ble_eq_true rfl) (Nat.le_of_ble_eq_true rfl)) ⟨Nat.zero_le _, Nat.zero_le _⟩ (Nat.le_of_ble_eq_true rfl) ?_
  refine r_if_eq hg 24 dX10_isBarred_17 (by decide) (fun c10 => ?_) (fun c10 => ?_)
  · rw [if_pos c10] at h
    refine r_iconst hg dX10_isBarred_24 ci_0 ?_
    exact r_ireturn hr dX10_isBarred_25 ⟨Nat.zero_le _, Nat.zero_le _⟩ ⟨_, rfl, bz_0.1⟩ (by cases h; rfl)
  · rw [if_neg c10] at h
    refine r_iconst hg dX10_isBarred_20 ci_1 ?_
    refine r_goto hg 25 dX10_isBarred_21 (by decide) ?_
    exact r_ireturn hr dX10_isBarred_25 ⟨Nat.zero_le _, Nat.zero_le _⟩ ⟨_, rfl, bz_1.1⟩ (by cases h; rfl)

def f_X5_operand (this : Nat) (x1 : Int32) (I : qI) : Option (Int32 × qI) :=
  if 0 ≤ x1 then
    q_b1 (f_X5_emit this x1 I) fun I2 =>
    q_b1 (some (q_up I2 this 8 ((I2 this 8) + (nI 1)))) fun I4 =>
    q_b1 (f_X5_goOn this I4) fun I6 =>
    some ((nI 1), I6)
  else
    some ((nI 0), I)
set_option maxRecDepth 100000 in
set_option maxHeartbeats 4000000 in
theorem s_X5_operand {l : Launch} {Γ : qC} (hΓ : q_gm Γ) {X : qX} (hX : q_Lay X) {this : Nat} {x1 : Int32} (k_this : q_kd X this = some (7, 9)) {I : qI} {z : Int32 × qI} (h : f_X5_operand this x1 I = some z) : q_Sem l Γ (q_rm 4 0 0) yX5_operand cX5_operand 2 (some .boolean) [.ref this, .int x1] I X (some (.int z.1), z.2, X) := by
  refine q_met (by decide) (Nat.le_of_ble_eq_true rfl) (fun g hg hr => ?_)
  unfold f_X5_operand at h
  show g 0 0 0 [(0, .ref this), (1, .int x1)] [] I X
  refine r_iload_n hg 1 dX5_operand_0 rfl rfl ?_
  refine r_if_ge hg 6 dX5_operand_1 (by decide) (fun c1 => ?_) (fun c1 => ?_)
  · rw [if_pos c1] at h
    refine r_aload_n hg 0 dX5_operand_6 rfl rfl ?_
    refine r_iload_n hg 1 dX5_operand_7 rfl rfl ?_
    obtain ⟨I2, e3, h⟩ := q_b1_some h
    refine r_cV1v hg dX5_operand_8 mt_X5_emit ml_X5_115 mv_X5_emit k_this (s_X5_emit hΓ hX k_this e3) (q_room (Nat.le_of_ble_eq_true rfl) (Nat.le_of_ble_eq_true rfl)) ⟨Nat.zero_le _, Nat.zero_le _⟩ (Nat.le_of_ble_eq_true rfl) ?_
    refine r_aload_n hg 0 dX5_operand_11 rfl rfl ?_
    refine r_dup hg dX5_operand_12 rfl ?_
    refine r_getI hg dX5_operand_13 fl_X5_29 k_this rfl ?_
    refine r_iconst hg dX5_operand_16 ci_1 ?_
    refine r_iadd hg dX5_operand_17 ?_
    obtain ⟨I4, e5, h⟩ := q_b1_some h
    obtain rfl := Option.some.inj e5
    refine r_putI hg dX5_operand_18 fl_X5_29 k_this rfl ⟨rfl, rfl⟩ ?_
    refine r_aload_n hg 0 dX5_operand_21 rfl rfl ?_
    obtain ⟨I6, e7, h⟩ := q_b1_some h
    refine r_cV0v hg dX5_operand_22 mt_X5_goOn ml_X5_38 mv_X5_goOn k_this (s_X5_goOn hΓ hX k_this e7) (q_room (Nat.le_of_ble_eq_true rfl) (Nat.le_of_ble_eq_true rfl)) ⟨Nat.zero_le _, Nat.zero_le _⟩ (Nat.le_of_ble_eq_true rfl) ?_
    refine r_iconst hg dX5_operand_25 ci_1 ?_
    exact r_ireturn hr dX5_operand_26 ⟨Nat.zero_le _, Nat.zero_le _⟩ ⟨_, rfl, bz_1.1⟩ (by cases h; rfl)
  · rw [if_neg c1] at h
    refine r_iconst hg dX5_operand_4 ci_0 ?_
    exact r_ireturn hr dX5_operand_5 ⟨Nat.zero_le _, Nat.zero_le _⟩ ⟨_, rfl, bz_0.1⟩ (by cases h; rfl)

def b_X7_given_33 (this : Nat) (x1 : Int32) (x2 : Int32) (x3 : Int32) (x4 : Int32) (x5 : Int32) (X : qX) (s1 : Int32) (I : qI) : Option (Int32 × qI) :=
  q_b1 (f_X7_held x1 s1) fun v1 =>
  some (v1, I)
set_option maxRecDepth 100000 in
set_option maxHeartbeats 4000000 in
theorem p_X7_given_33 {l : Launch} {Γ : qC} {g : qG} {z : Int32 × qI} {this : Nat} {x1 : Int32} {x2 : Int32} {x3 : Int32} {x4 : Int32} {x5 : Int32} {X : qX} (hΓ : q_gm Γ) (hg : q_Ok l Γ RX7 cX7_given 7 (q_rm 4 0 0) "given" (some .int) g) (hr : q_Rt cX7_given (some .int) (q_rm 4 0 0) (some (.int z.1), z.2, X) g) (hX : q_Lay X) (k_this : q_kd X this = some (9, 6)) (s1 : Int32) (I : qI) (h : b_X7_given_33 this x1 x2 x3 x4 x5 X s1 I = some z) : g 0 0 33 [] [.int s1, .int x1] I X := by
  unfold b_X7_given_33 at h
  obtain ⟨v1, e2, h⟩ := q_b1_some h
  refine r_cS2i hg dX7_given_33 mt_X7_held ⟨ml_X7_53, mst_X7_held⟩ (s_X7_held hΓ hX e2) (q_room (Nat.le_of_ble_eq_true rfl) (Nat.le_of_ble_eq_true rfl)) ⟨Nat.zero_le _, Nat.zero_le _⟩ (Nat.le_of_ble_eq_true rfl) ?_
  exact r_ireturn hr dX7_given_36 ⟨Nat.zero_le _, Nat.zero_le _⟩ ⟨_, rfl, rfl⟩ (by cases h; rfl)
def f_X7_given (this : Nat) (x1 : Int32) (x2 : Int32) (x3 : Int32) (x4 : Int32) (x5 : Int32) (X : qX) (I : qI) : Option (Int32 × qI) :=
  q_b1 (f_X7_counting this x1 x2 I) fun v1 =>
  if 0 ≤ v1 then
    q_b2 (f_X7_value this v1 x3 x4 x5 X I) fun v4 I5 =>
    b_X7_given_33 this x1 x2 x3 x4 x5 X v4 I5
  else
    q_b1 (f_X7_unwritten x1 x3) fun v7 =>
    b_X7_given_33 this x1 x2 x3 x4 x5 X v7 I
set_option maxRecDepth 100000 in
set_option maxHeartbeats 4000000 in
theorem s_X7_given {l : Launch} {Γ : qC} (hΓ : q_gm Γ) {X : qX} (hX : q_Lay X) {this : Nat} {x1 : Int32} {x2 : Int32} {x3 : Int32} {x4 : Int32} {x5 : Int32} (k_this : q_kd X this = some (9, 6)) {I : qI} {z : Int32 × qI} (h : f_X7_given this x1 x2 x3 x4 x5 X I = some z) : q_Sem l Γ (q_rm 4 0 0) yX7_given cX7_given 7 (some .int) [.ref this, .int x1, .int x2, .int x3, .int x4, .int x5] I X (some (.int z.1), z.2, X) := by
  refine q_met (by decide) (Nat.le_of_ble_eq_true rfl) (fun g hg hr => ?_)
  unfold f_X7_given at h
  show g 0 0 0 [(0, .ref this), (1, .int x1), (2, .int x2), (3, .int x3), (4, .int x4), (5, .int x5)] [] I X
  refine r_aload_n hg 0 dX7_given_0 rfl rfl ?_
  refine r_iload_n hg 1 dX7_given_1 rfl rfl ?_
  refine r_iload_n hg 2 dX7_given_2 rfl rfl ?_
  obtain ⟨v1, e2, h⟩ := q_b1_some h
  refine r_cV2i hg dX7_given_3 mt_X7_counting ml_X7_42 mv_X7_counting k_this (s_X7_counting hΓ hX k_this e2) (q_room (Nat.le_of_ble_eq_true rfl) (Nat.le_of_ble_eq_true rfl)) ⟨Nat.zero_le _, Nat.zero_le _⟩ (Nat.le_of_ble_eq_true rfl) ?_
  refine r_istore hg (L' := [(6, .int v1), (0, .ref this), (1, .int x1), (2, .int x2), (3, .int x3), (4, .int x4), (5, .int x5)]) dX7_given_6 (by decide) rfl ?_
  refine r_iload_n hg 2 dX7_given_8 rfl rfl ?_
  refine r_iload hg 0 dX7_given_9 rfl ?_
  refine r_if_ge hg 22 dX7_given_11 (by decide) (fun c3 => ?_) (fun c3 => ?_)
  · rw [if_pos c3] at h
    refine r_aload_n hg 1 dX7_given_22 rfl rfl ?_
    refine r_iload hg 0 dX7_given_23 rfl ?_
    refine r_iload_n hg 4 dX7_given_25 rfl rfl ?_
    refine r_iload hg 5 dX7_given_26 rfl ?_
    refine r_iload hg 6 dX7_given_28 rfl ?_
    obtain ⟨v4, I5, e6, h⟩ := q_b2_some h
    refine r_cV4i hg dX7_given_30 mt_X7_value ml_X7_49 mv_X7_value k_this (s_X7_value hΓ hX k_this e6) (q_room (Nat.le_of_ble_eq_true rfl) (Nat.le_of_ble_eq_true rfl)) ⟨Nat.zero_le _, Nat.zero_le _⟩ (Nat.le_of_ble_eq_true rfl) ?_
    refine r_sub hg [] rfl ?_
    exact p_X7_given_33 hΓ hg hr hX k_this _ _ h
  · rw [if_neg c3] at h
    refine r_iload_n hg 2 dX7_given_14 rfl rfl ?_
    refine r_iload_n hg 4 dX7_given_15 rfl rfl ?_
    obtain ⟨v7, e8, h⟩ := q_b1_some h
    refine r_cS2i hg dX7_given_16 mt_X7_unwritten ⟨ml_X7_46, mst_X7_unwritten⟩ (s_X7_unwritten hΓ hX e8) (q_room (Nat.le_of_ble_eq_true rfl) (Nat.le_of_ble_eq_true rfl)) ⟨Nat.zero_le _, Nat.zero_le _⟩ (Nat.le_of_ble_eq_true rfl) ?_
    refine r_goto hg 33 dX7_given_19 (by decide) ?_
    refine r_sub hg [] rfl ?_
    exact p_X7_given_33 hΓ hg hr hX k_this _ _ h

def f_X10_isOpen (this : Nat) (x1 : Nat) (x2 : Int32) (x3 : Int32) (X : qX) (I : qI) : Option (Int32 × qI) :=
  q_b1 (q_rd I (this + 1) 48 x3) fun v2 =>
  if v2 = 0 then
    some ((nI 0), I)
  else
    q_b1 (f_X10_m x3) fun v5 =>
    q_b1 (f_X10_p x3) fun v7 =>
    q_b1 (f_X10_t x3) fun v9 =>
    q_b2 (f_X7_given x1 (nI 6) x2 v5 v7 v9 X I) fun v11 I12 =>
    if v11 = 0 then
      some ((nI 1), I12)
    else
      some ((nI 0), I12)
set_option maxRecDepth 100000 in
set_option maxHeartbeats 4000000 in
theorem s_X10_isOpen {l : Launch} {Γ : qC} (hΓ : q_gm Γ) {X : qX} (hX : q_Lay X) {this : Nat} {x1 : Nat} {x2 : Int32} {x3 : Int32} (k_this : q_kd X this = some (12, 1)) (k_x1 : q_kd X x1 = some (9, 6)) {I : qI} {z : Int32 × qI} (h : f_X10_isOpen this x1 x2 x3 X I = some z) : q_Sem l Γ (q_rm 5 0 0) yX10_isOpen cX10_isOpen 4 (some .boolean) [.ref this, .ref x1, .int x2, .int x3] I X (some (.int z.1), z.2, X) := by
  refine q_met (by decide) (Nat.le_of_ble_eq_true rfl) (fun g hg hr => ?_)
  unfold f_X10_isOpen at h
  show g 0 0 0 [(0, .ref this), (1, .ref x1), (2, .int x2), (3, .int x3)] [] I X
  refine r_aload_n hg 0 dX10_isOpen_0 rfl rfl ?_
  have e1 := ly_10_0 hX k_this
  refine r_getR hg dX10_isOpen_1 fl_X10_9 k_this rfl e1.1 ?_
  refine r_iload_n hg 3 dX10_isOpen_4 rfl rfl ?_
  obtain ⟨v2, e3, h⟩ := q_b1_some h
  refine r_iald hg dX10_isOpen_5 e1.2 e3 ?_
  refine r_if_eq hg 35 dX10_isOpen_6 (by decide) (fun c4 => ?_) (fun c4 => ?_)
  · rw [if_pos c4] at h
    refine r_iconst hg dX10_isOpen_35 ci_0 ?_
    exact r_ireturn hr dX10_isOpen_36 ⟨Nat.zero_le _, Nat.zero_le _⟩ ⟨_, rfl, bz_0.1⟩ (by cases h; rfl)
  · rw [if_neg c4] at h
    refine r_aload_n hg 1 dX10_isOpen_9 rfl rfl ?_
    refine r_bipush hg dX10_isOpen_10 cb_6 ?_
    refine r_iload_n hg 2 dX10_isOpen_12 rfl rfl ?_
    refine r_iload_n hg 3 dX10_isOpen_13 rfl rfl ?_
    obtain ⟨v5, e6, h⟩ := q_b1_some h
    refine r_cS1i hg dX10_isOpen_14 mt_X10_m ⟨ml_X10_21, mst_X10_m⟩ (s_X10_m hΓ hX e6) (q_room (Nat.le_of_ble_eq_true rfl) (Nat.le_of_ble_eq_true rfl)) ⟨Nat.zero_le _, Nat.zero_le _⟩ (Nat.le_of_ble_eq_true rfl) ?_
    refine r_iload_n hg 3 dX10_isOpen_17 rfl rfl ?_
    obtain ⟨v7, e8, h⟩ := q_b1_some h
    refine r_cS1i hg dX10_isOpen_18 mt_X10_p ⟨ml_X10_25, mst_X10_p⟩ (s_X10_p hΓ hX e8) (q_room (Nat.le_of_ble_eq_true rfl) (Nat.le_of_ble_eq_true rfl)) ⟨Nat.zero_le _, Nat.zero_le _⟩ (Nat.le_of_ble_eq_true rfl) ?_
    refine r_iload_n hg 3 dX10_isOpen_21 rfl rfl ?_
    obtain ⟨v9, e10, h⟩ := q_b1_some h
    refine r_cS1i hg dX10_isOpen_22 mt_X10_t ⟨ml_X10_28, mst_X10_t⟩ (s_X10_t hΓ hX e10) (q_room (Nat.le_of_ble_eq_true rfl) (Nat.le_of_ble_eq_true rfl)) ⟨Nat.zero_le _, Nat.zero_le _⟩ (Nat.le_of_ble_eq_true rfl) ?_
    obtain ⟨v11, I12, e13, h⟩ := q_b2_some h
    refine r_cV5i hg dX10_isOpen_25 mt_X7_given ml_X10_31 mv_X7_given k_x1 (s_X7_given hΓ hX k_x1 e13) (q_room (Nat.le_of_ble_eq_true rfl) (Nat.le_of_ble_eq_true rfl)) ⟨Nat.zero_le _, Nat.zero_le _⟩ (Nat.le_of_ble_eq_true rfl) ?_
    refine r_if_ne hg 35 dX10_isOpen_28 (by decide) (fun c14 => ?_) (fun c14 => ?_)
    · rw [if_neg c14] at h
      refine r_iconst hg dX10_isOpen_35 ci_0 ?_
      exact r_ireturn hr dX10_isOpen_36 ⟨Nat.zero_le _, Nat.zero_le _⟩ ⟨_, rfl, bz_0.1⟩ (by cases h; rfl)
    · rw [if_pos (Classical.not_not.mp c14)] at h
      refine r_iconst hg dX10_isOpen_31 ci_1 ?_
      refine r_goto hg 36 dX10_isOpen_32 (by decide) ?_
      exact r_ireturn hr dX10_isOpen_36 ⟨Nat.zero_le _, Nat.zero_le _⟩ ⟨_, rfl, bz_1.1⟩ (by cases h; rfl)

def b_X10_othersBarred_35 (this : Nat) (x1 : Nat) (x2 : Int32) (X : qX) (k5 : Int32 → Int32 → qI → Option (Int32 × qI)) (x3 : Int32) (x4 : Int32) (I : qI) : Option (Int32 × qI) :=
  k5 x3 (x4 + (nI 1)) I
set_option maxRecDepth 100000 in
set_option maxHeartbeats 4000000 in
theorem p_X10_othersBarred_35 {l : Launch} {Γ : qC} {g : qG} {z : Int32 × qI} {this : Nat} {x1 : Nat} {x2 : Int32} {X : qX} (hΓ : q_gm Γ) (hg : q_Ok l Γ RX10 cX10_othersBarred 5 (q_rm 5 0 0) "othersBarred" (some .int) g) (hr : q_Rt cX10_othersBarred (some .int) (q_rm 5 0 0) (some (.int z.1), z.2, X) g) (hX : q_Lay X) (k_this : q_kd X this = some (12, 1)) (k_x1 : q_kd X x1 = some (9, 6)) {k5 : Int32 → Int32 → qI → Option (Int32 × qI)} (hk5 : ∀ (x3 : Int32) (x4 : Int32) (I : qI), k5 x3 x4 I = some z → g 0 0 5 [(0, .ref this), (1, .ref x1), (2, .int x2), (3, .int x3), (4, .int x4)] [] I X) (x3 : Int32) (x4 : Int32) (I : qI) (h : b_X10_othersBarred_35 this x1 x2 X k5 x3 x4 I = some z) : g 0 0 35 [(0, .ref this), (1, .ref x1), (2, .int x2), (3, .int x3), (4, .int x4)] [] I X := by
  unfold b_X10_othersBarred_35 at h
  refine r_iinc hg 4 (v := (x4 + (nI 1))) (L' := [(4, .int (x4 + (nI 1))), (0, .ref this), (1, .ref x1), (2, .int x2), (3, .int x3)]) dX10_othersBarred_35 rfl (by rw [ci_1]) (by decide) rfl ?_
  refine r_goto hg 5 dX10_othersBarred_38 (by decide) ?_
  refine r_sub hg [1, 2, 3, 4, 0] rfl ?_
  exact hk5 _ _ _ h
def b_X10_othersBarred_5 (this : Nat) (x1 : Nat) (x2 : Int32) (X : qX) (k5 : Int32 → Int32 → qI → Option (Int32 × qI)) (x3 : Int32) (x4 : Int32) (I : qI) : Option (Int32 × qI) :=
  if (nI 48) ≤ x4 then
    some (x3, I)
  else
    q_b1 (q_rd I (this + 1) 48 x4) fun v3 =>
    if v3 = 0 then
      q_b2 (f_X10_isBarred x1 x2 x4 X I) fun v6 I7 =>
      if v6 = 0 then
        b_X10_othersBarred_35 this x1 x2 X k5 x3 x4 I7
      else
        b_X10_othersBarred_35 this x1 x2 X k5 (x3 + (nI 1)) x4 I7
    else
      b_X10_othersBarred_35 this x1 x2 X k5 x3 x4 I
set_option maxRecDepth 100000 in
set_option maxHeartbeats 4000000 in
theorem p_X10_othersBarred_5 {l : Launch} {Γ : qC} {g : qG} {z : Int32 × qI} {this : Nat} {x1 : Nat} {x2 : Int32} {X : qX} (hΓ : q_gm Γ) (hg : q_Ok l Γ RX10 cX10_othersBarred 5 (q_rm 5 0 0) "othersBarred" (some .int) g) (hr : q_Rt cX10_othersBarred (some .int) (q_rm 5 0 0) (some (.int z.1), z.2, X) g) (hX : q_Lay X) (k_this : q_kd X this = some (12, 1)) (k_x1 : q_kd X x1 = some (9, 6)) {k5 : Int32 → Int32 → qI → Option (Int32 × qI)} (hk5 : ∀ (x3 : Int32) (x4 : Int32) (I : qI), k5 x3 x4 I = some z → g 0 0 5 [(0, .ref this), (1, .ref x1), (2, .int x2), (3, .int x3), (4, .int x4)] [] I X) (x3 : Int32) (x4 : Int32) (I : qI) (h : b_X10_othersBarred_5 this x1 x2 X k5 x3 x4 I = some z) : g 0 0 5 [(0, .ref this), (1, .ref x1), (2, .int x2), (3, .int x3), (4, .int x4)] [] I X := by
  unfold b_X10_othersBarred_5 at h
  refine r_iload hg 4 dX10_othersBarred_5 rfl ?_
  refine r_bipush hg dX10_othersBarred_7 cb_48 ?_
  refine r_icmp_ge hg 41 dX10_othersBarred_9 (by decide) (fun c1 => ?_) (fun c1 => ?_)
  · rw [if_pos c1] at h
    refine r_iload_n hg 3 dX10_othersBarred_41 rfl rfl ?_
    exact r_ireturn hr dX10_othersBarred_42 ⟨Nat.zero_le _, Nat.zero_le _⟩ ⟨_, rfl, rfl⟩ (by cases h; rfl)
  · rw [if_neg c1] at h
    refine r_aload_n hg 0 dX10_othersBarred_12 rfl rfl ?_
    have e2 := ly_10_0 hX k_this
    refine r_getR hg dX10_othersBarred_13 fl_X10_9 k_this rfl e2.1 ?_
    refine r_iload hg 4 dX10_othersBarred_16 rfl ?_
    obtain ⟨v3, e4, h⟩ := q_b1_some h
    refine r_iald hg dX10_othersBarred_18 e2.2 e4 ?_
    refine r_if_ne hg 35 dX10_othersBarred_19 (by decide) (fun c5 => ?_) (fun c5 => ?_)
    · rw [if_neg c5] at h
      exact p_X10_othersBarred_35 hΓ hg hr hX k_this k_x1 hk5 _ _ _ h
    · rw [if_pos (Classical.not_not.mp c5)] at h
      refine r_aload_n hg 1 dX10_othersBarred_22 rfl rfl ?_
      refine r_iload_n hg 2 dX10_othersBarred_23 rfl rfl ?_
      refine r_iload hg 4 dX10_othersBarred_24 rfl ?_
      obtain ⟨v6, I7, e8, h⟩ := q_b2_some h
      refine r_cS3i hg dX10_othersBarred_26 mt_X10_isBarred ⟨ml_X10_43, mst_X10_isBarred⟩ (s_X10_isBarred hΓ hX k_x1 e8) (q_room (Nat.le_of_ble_eq_true rfl) (Nat.le_of_ble_eq_true rfl)) ⟨Nat.zero_le _, Nat.zero_le _⟩ (Nat.le_of_ble_eq_true rfl) ?_
      refine r_if_eq hg 35 dX10_othersBarred_29 (by decide) (fun c9 => ?_) (fun c9 => ?_)
      · rw [if_pos c9] at h
        exact p_X10_othersBarred_35 hΓ hg hr hX k_this k_x1 hk5 _ _ _ h
      · rw [if_neg c9] at h
        refine r_iinc hg 3 (v := (x3 + (nI 1))) (L' := [(3, .int (x3 + (nI 1))), (0, .ref this), (1, .ref x1), (2, .int x2), (4, .int x4)]) dX10_othersBarred_32 rfl (by rw [ci_1]) (by decide) rfl ?_
        refine r_sub hg [1, 2, 3, 0, 4] rfl ?_
        exact p_X10_othersBarred_35 hΓ hg hr hX k_this k_x1 hk5 _ _ _ h
theorem pl_X10_othersBarred_5 {l : Launch} {Γ : qC} {g : qG} {z : Int32 × qI} {this : Nat} {x1 : Nat} {x2 : Int32} {X : qX} (hΓ : q_gm Γ) (hg : q_Ok l Γ RX10 cX10_othersBarred 5 (q_rm 5 0 0) "othersBarred" (some .int) g) (hr : q_Rt cX10_othersBarred (some .int) (q_rm 5 0 0) (some (.int z.1), z.2, X) g) (hX : q_Lay X) (k_this : q_kd X this = some (12, 1)) (k_x1 : q_kd X x1 = some (9, 6)) : ∀ (n : Nat) (x3 : Int32) (x4 : Int32) (I : qI), q_fix (fun _ _ _ => none) (b_X10_othersBarred_5 this x1 x2 X) n x3 x4 I = some z → g 0 0 5 [(0, .ref this), (1, .ref x1), (2, .int x2), (3, .int x3), (4, .int x4)] [] I X := by
  intro n
  induction n with
  | zero =>
    intro x3 x4 I h
    cases (show (none : Option (Int32 × qI)) = some z from h)
  | succ n ih =>
    intro x3 x4 I h
    exact p_X10_othersBarred_5 hΓ hg hr hX k_this k_x1 ih _ _ _ h
def f_X10_othersBarred (this : Nat) (x1 : Nat) (x2 : Int32) (X : qX) (I : qI) : Option (Int32 × qI) :=
  q_fix (fun _ _ _ => none) (b_X10_othersBarred_5 this x1 x2 X) q_fu (nI 0) (nI 0) I
set_option maxRecDepth 100000 in
set_option maxHeartbeats 4000000 in
theorem s_X10_othersBarred {l : Launch} {Γ : qC} (hΓ : q_gm Γ) {X : qX} (hX : q_Lay X) {this : Nat} {x1 : Nat} {x2 : Int32} (k_this : q_kd X this = some (12, 1)) (k_x1 : q_kd X x1 = some (9, 6)) {I : qI} {z : Int32 × qI} (h : f_X10_othersBarred this x1 x2 X I = some z) : q_Sem l Γ (q_rm 5 0 0) yX10_othersBarred cX10_othersBarred 5 (some .int) [.ref this, .ref x1, .int x2] I X (some (.int z.1), z.2, X) := by
  refine q_met (by decide) (Nat.le_of_ble_eq_true rfl) (fun g hg hr => ?_)
  unfold f_X10_othersBarred at h
  show g 0 0 0 [(0, .ref this), (1, .ref x1), (2, .int x2)] [] I X
  refine r_iconst hg dX10_othersBarred_0 ci_0 ?_
  refine r_istore_n hg (L' := [(3, .int (nI 0)), (0, .ref this), (1, .ref x1), (2, .int x2)]) dX10_othersBarred_1 rfl (by decide) rfl ?_
  refine r_iconst hg dX10_othersBarred_2 ci_0 ?_
  refine r_istore hg (L' := [(4, .int (nI 0)), (3, .int (nI 0)), (0, .ref this), (1, .ref x1), (2, .int x2)]) dX10_othersBarred_3 (by decide) rfl ?_
  refine r_sub hg [2, 3, 4, 1, 0] rfl ?_
  exact pl_X10_othersBarred_5 hΓ hg hr hX k_this k_x1 _ _ _ _ h

def b_X10_open_26 (this : Nat) (x1 : Nat) (x2 : Int32) (X : qX) (k5 : Int32 → Int32 → qI → Option (Int32 × qI)) (x3 : Int32) (x4 : Int32) (I : qI) : Option (Int32 × qI) :=
  k5 x3 (x4 + (nI 1)) I
set_option maxRecDepth 100000 in
set_option maxHeartbeats 4000000 in
theorem p_X10_open_26 {l : Launch} {Γ : qC} {g : qG} {z : Int32 × qI} {this : Nat} {x1 : Nat} {x2 : Int32} {X : qX} (hΓ : q_gm Γ) (hg : q_Ok l Γ RX10 cX10_open 5 (q_rm 6 0 0) "open" (some .int) g) (hr : q_Rt cX10_open (some .int) (q_rm 6 0 0) (some (.int z.1), z.2, X) g) (hX : q_Lay X) (k_this : q_kd X this = some (12, 1)) (k_x1 : q_kd X x1 = some (9, 6)) {k5 : Int32 → Int32 → qI → Option (Int32 × qI)} (hk5 : ∀ (x3 : Int32) (x4 : Int32) (I : qI), k5 x3 x4 I = some z → g 0 0 5 [(0, .ref this), (1, .ref x1), (2, .int x2), (3, .int x3), (4, .int x4)] [] I X) (x3 : Int32) (x4 : Int32) (I : qI) (h : b_X10_open_26 this x1 x2 X k5 x3 x4 I = some z) : g 0 0 26 [(0, .ref this), (1, .ref x1), (2, .int x2), (3, .int x3), (4, .int x4)] [] I X := by
  unfold b_X10_open_26 at h
  refine r_iinc hg 4 (v := (x4 + (nI 1))) (L' := [(4, .int (x4 + (nI 1))), (0, .ref this), (1, .ref x1), (2, .int x2), (3, .int x3)]) dX10_open_26 rfl (by rw [ci_1]) (by decide) rfl ?_
  refine r_goto hg 5 dX10_open_29 (by decide) ?_
  refine r_sub hg [1, 2, 3, 4, 0] rfl ?_
  exact hk5 _ _ _ h
def b_X10_open_5 (this : Nat) (x1 : Nat) (x2 : Int32) (X : qX) (k5 : Int32 → Int32 → qI → Option (Int32 × qI)) (x3 : Int32) (x4 : Int32) (I : qI) : Option (Int32 × qI) :=
  if (nI 48) ≤ x4 then
    some (x3, I)
  else
    q_b2 (f_X10_isOpen this x1 x2 x4 X I) fun v2 I3 =>
    if v2 = 0 then
      b_X10_open_26 this x1 x2 X k5 x3 x4 I3
    else
      b_X10_open_26 this x1 x2 X k5 (x3 + (nI 1)) x4 I3
set_option maxRecDepth 100000 in
set_option maxHeartbeats 4000000 in
theorem p_X10_open_5 {l : Launch} {Γ : qC} {g : qG} {z : Int32 × qI} {this : Nat} {x1 : Nat} {x2 : Int32} {X : qX} (hΓ : q_gm Γ) (hg : q_Ok l Γ RX10 cX10_open 5 (q_rm 6 0 0) "open" (some .int) g) (hr : q_Rt cX10_open (some .int) (q_rm 6 0 0) (some (.int z.1), z.2, X) g) (hX : q_Lay X) (k_this : q_kd X this = some (12, 1)) (k_x1 : q_kd X x1 = some (9, 6)) {k5 : Int32 → Int32 → qI → Option (Int32 × qI)} (hk5 : ∀ (x3 : Int32) (x4 : Int32) (I : qI), k5 x3 x4 I = some z → g 0 0 5 [(0, .ref this), (1, .ref x1), (2, .int x2), (3, .int x3), (4, .int x4)] [] I X) (x3 : Int32) (x4 : Int32) (I : qI) (h : b_X10_open_5 this x1 x2 X k5 x3 x4 I = some z) : g 0 0 5 [(0, .ref this), (1, .ref x1), (2, .int x2), (3, .int x3), (4, .int x4)] [] I X := by
  unfold b_X10_open_5 at h
  refine r_iload hg 4 dX10_open_5 rfl ?_
  refine r_bipush hg dX10_open_7 cb_48 ?_
  refine r_icmp_ge hg 32 dX10_open_9 (by decide) (fun c1 => ?_) (fun c1 => ?_)
  · rw [if_pos c1] at h
    refine r_iload_n hg 3 dX10_open_32 rfl rfl ?_
    exact r_ireturn hr dX10_open_33 ⟨Nat.zero_le _, Nat.zero_le _⟩ ⟨_, rfl, rfl⟩ (by cases h; rfl)
  · rw [if_neg c1] at h
    refine r_aload_n hg 0 dX10_open_12 rfl rfl ?_
    refine r_aload_n hg 1 dX10_open_13 rfl rfl ?_
    refine r_iload_n hg 2 dX10_open_14 rfl rfl ?_
    refine r_iload hg 4 dX10_open_15 rfl ?_
    obtain ⟨v2, I3, e4, h⟩ := q_b2_some h
    refine r_cV3i hg dX10_open_17 mt_X10_isOpen ml_X10_39 mv_X10_isOpen k_this (s_X10_isOpen hΓ hX k_this k_x1 e4) (q_room (Nat.le_of_ble_eq_true rfl) (Nat.le_of_ble_eq_true rfl)) ⟨Nat.zero_le _, Nat.zero_le _⟩ (Nat.le_of_ble_eq_true rfl) ?_
    refine r_if_eq hg 26 dX10_open_20 (by decide) (fun c5 => ?_) (fun c5 => ?_)
    · rw [if_pos c5] at h
      exact p_X10_open_26 hΓ hg hr hX k_this k_x1 hk5 _ _ _ h
    · rw [if_neg c5] at h
      refine r_iinc hg 3 (v := (x3 + (nI 1))) (L' := [(3, .int (x3 + (nI 1))), (0, .ref this), (1, .ref x1), (2, .int x2), (4, .int x4)]) dX10_open_23 rfl (by rw [ci_1]) (by decide) rfl ?_
      refine r_sub hg [1, 2, 3, 0, 4] rfl ?_
      exact p_X10_open_26 hΓ hg hr hX k_this k_x1 hk5 _ _ _ h
theorem pl_X10_open_5 {l : Launch} {Γ : qC} {g : qG} {z : Int32 × qI} {this : Nat} {x1 : Nat} {x2 : Int32} {X : qX} (hΓ : q_gm Γ) (hg : q_Ok l Γ RX10 cX10_open 5 (q_rm 6 0 0) "open" (some .int) g) (hr : q_Rt cX10_open (some .int) (q_rm 6 0 0) (some (.int z.1), z.2, X) g) (hX : q_Lay X) (k_this : q_kd X this = some (12, 1)) (k_x1 : q_kd X x1 = some (9, 6)) : ∀ (n : Nat) (x3 : Int32) (x4 : Int32) (I : qI), q_fix (fun _ _ _ => none) (b_X10_open_5 this x1 x2 X) n x3 x4 I = some z → g 0 0 5 [(0, .ref this), (1, .ref x1), (2, .int x2), (3, .int x3), (4, .int x4)] [] I X := by
  intro n
  induction n with
  | zero =>
    intro x3 x4 I h
    cases (show (none : Option (Int32 × qI)) = some z from h)
  | succ n ih =>
    intro x3 x4 I h
    exact p_X10_open_5 hΓ hg hr hX k_this k_x1 ih _ _ _ h
def f_X10_open (this : Nat) (x1 : Nat) (x2 : Int32) (X : qX) (I : qI) : Option (Int32 × qI) :=
  q_fix (fun _ _ _ => none) (b_X10_open_5 this x1 x2 X) q_fu (nI 0) (nI 0) I
set_option maxRecDepth 100000 in
set_option maxHeartbeats 4000000 in
theorem s_X10_open {l : Launch} {Γ : qC} (hΓ : q_gm Γ) {X : qX} (hX : q_Lay X) {this : Nat} {x1 : Nat} {x2 : Int32} (k_this : q_kd X this = some (12, 1)) (k_x1 : q_kd X x1 = some (9, 6)) {I : qI} {z : Int32 × qI} (h : f_X10_open this x1 x2 X I = some z) : q_Sem l Γ (q_rm 6 0 0) yX10_open cX10_open 5 (some .int) [.ref this, .ref x1, .int x2] I X (some (.int z.1), z.2, X) := by
  refine q_met (by decide) (Nat.le_of_ble_eq_true rfl) (fun g hg hr => ?_)
  unfold f_X10_open at h
  show g 0 0 0 [(0, .ref this), (1, .ref x1), (2, .int x2)] [] I X
  refine r_iconst hg dX10_open_0 ci_0 ?_
  refine r_istore_n hg (L' := [(3, .int (nI 0)), (0, .ref this), (1, .ref x1), (2, .int x2)]) dX10_open_1 rfl (by decide) rfl ?_
  refine r_iconst hg dX10_open_2 ci_0 ?_
  refine r_istore hg (L' := [(4, .int (nI 0)), (3, .int (nI 0)), (0, .ref this), (1, .ref x1), (2, .int x2)]) dX10_open_3 (by decide) rfl ?_
  refine r_sub hg [2, 3, 4, 1, 0] rfl ?_
  exact pl_X10_open_5 hΓ hg hr hX k_this k_x1 _ _ _ _ h

def b_X10_openBarred_37 (this : Nat) (x1 : Nat) (x2 : Int32) (x3 : Int32) (X : qX) (k6 : Int32 → Int32 → qI → Option (Int32 × qI)) (x4 : Int32) (x5 : Int32) (I : qI) : Option (Int32 × qI) :=
  k6 x4 (x5 + (nI 1)) I
set_option maxRecDepth 100000 in
set_option maxHeartbeats 4000000 in
theorem p_X10_openBarred_37 {l : Launch} {Γ : qC} {g : qG} {z : Int32 × qI} {this : Nat} {x1 : Nat} {x2 : Int32} {x3 : Int32} {X : qX} (hΓ : q_gm Γ) (hg : q_Ok l Γ RX10 cX10_openBarred 6 (q_rm 6 0 0) "openBarred" (some .int) g) (hr : q_Rt cX10_openBarred (some .int) (q_rm 6 0 0) (some (.int z.1), z.2, X) g) (hX : q_Lay X) (k_this : q_kd X this = some (12, 1)) (k_x1 : q_kd X x1 = some (9, 6)) {k6 : Int32 → Int32 → qI → Option (Int32 × qI)} (hk6 : ∀ (x4 : Int32) (x5 : Int32) (I : qI), k6 x4 x5 I = some z → g 0 0 6 [(0, .ref this), (1, .ref x1), (2, .int x2), (3, .int x3), (4, .int x4), (5, .int x5)] [] I X) (x4 : Int32) (x5 : Int32) (I : qI) (h : b_X10_openBarred_37 this x1 x2 x3 X k6 x4 x5 I = some z) : g 0 0 37 [(0, .ref this), (1, .ref x1), (2, .int x2), (3, .int x3), (4, .int x4), (5, .int x5)] [] I X := by
  unfold b_X10_openBarred_37 at h
  refine r_iinc hg 5 (v := (x5 + (nI 1))) (L' := [(5, .int (x5 + (nI 1))), (0, .ref this), (1, .ref x1), (2, .int x2), (3, .int x3), (4, .int x4)]) dX10_openBarred_37 rfl (by rw [ci_1]) (by decide) rfl ?_
  refine r_goto hg 6 dX10_openBarred_40 (by decide) ?_
  refine r_sub hg [1, 2, 3, 4, 5, 0] rfl ?_
  exact hk6 _ _ _ h
def b_X10_openBarred_6 (this : Nat) (x1 : Nat) (x2 : Int32) (x3 : Int32) (X : qX) (k6 : Int32 → Int32 → qI → Option (Int32 × qI)) (x4 : Int32) (x5 : Int32) (I : qI) : Option (Int32 × qI) :=
  if (nI 48) ≤ x5 then
    some (x4, I)
  else
    q_b2 (f_X10_isOpen this x1 x2 x5 X I) fun v2 I3 =>
    if v2 = 0 then
      b_X10_openBarred_37 this x1 x2 x3 X k6 x4 x5 I3
    else
      q_b2 (f_X10_isBarred x1 x3 x5 X I3) fun v6 I7 =>
      if v6 = 0 then
        b_X10_openBarred_37 this x1 x2 x3 X k6 x4 x5 I7
      else
        b_X10_openBarred_37 this x1 x2 x3 X k6 (x4 + (nI 1)) x5 I7
set_option maxRecDepth 100000 in
set_option maxHeartbeats 4000000 in
theorem p_X10_openBarred_6 {l : Launch} {Γ : qC} {g : qG} {z : Int32 × qI} {this : Nat} {x1 : Nat} {x2 : Int32} {x3 : Int32} {X : qX} (hΓ : q_gm Γ) (hg : q_Ok l Γ RX10 cX10_openBarred 6 (q_rm 6 0 0) "openBarred" (some .int) g) (hr : q_Rt cX10_openBarred (some .int) (q_rm 6 0 0) (some (.int z.1), z.2, X) g) (hX : q_Lay X) (k_this : q_kd X this = some (12, 1)) (k_x1 : q_kd X x1 = some (9, 6)) {k6 : Int32 → Int32 → qI → Option (Int32 × qI)} (hk6 : ∀ (x4 : Int32) (x5 : Int32) (I : qI), k6 x4 x5 I = some z → g 0 0 6 [(0, .ref this), (1, .ref x1), (2, .int x2), (3, .int x3), (4, .int x4), (5, .int x5)] [] I X) (x4 : Int32) (x5 : Int32) (I : qI) (h : b_X10_openBarred_6 this x1 x2 x3 X k6 x4 x5 I = some z) : g 0 0 6 [(0, .ref this), (1, .ref x1), (2, .int x2), (3, .int x3), (4, .int x4), (5, .int x5)] [] I X := by
  unfold b_X10_openBarred_6 at h
  refine r_iload hg 5 dX10_openBarred_6 rfl ?_
  refine r_bipush hg dX10_openBarred_8 cb_48 ?_
  refine r_icmp_ge hg 43 dX10_openBarred_10 (by decide) (fun c1 => ?_) (fun c1 => ?_)
  · rw [if_pos c1] at h
    refine r_iload hg 4 dX10_openBarred_43 rfl ?_
    exact r_ireturn hr dX10_openBarred_45 ⟨Nat.zero_le _, Nat.zero_le _⟩ ⟨_, rfl, rfl⟩ (by cases h; rfl)
  · rw [if_neg c1] at h
    refine r_aload_n hg 0 dX10_openBarred_13 rfl rfl ?_
    refine r_aload_n hg 1 dX10_openBarred_14 rfl rfl ?_
    refine r_iload_n hg 2 dX10_openBarred_15 rfl rfl ?_
    refine r_iload hg 5 dX10_openBarred_16 rfl ?_
    obtain ⟨v2, I3, e4, h⟩ := q_b2_some h
    refine r_cV3i hg dX10_openBarred_18 mt_X10_isOpen ml_X10_39 mv_X10_isOpen k_this (s_X10_isOpen hΓ hX k_this k_x1 e4) (q_room (Nat.le_of_ble_eq_true rfl) (Nat.le_of_ble_eq_true rfl)) ⟨Nat.zero_le _, Nat.zero_le _⟩ (Nat.le_of_ble_eq_true rfl) ?_
    refine r_if_eq hg 37 dX10_openBarred_21 (by decide) (fun c5 => ?_) (fun c5 => ?_)
    · rw [if_pos c5] at h
      exact p_X10_openBarred_37 hΓ hg hr hX k_this k_x1 hk6 _ _ _ h
    · rw [if_neg c5] at h
      refine r_aload_n hg 1 dX10_openBarred_24 rfl rfl ?_
      refine r_iload_n hg 3 dX10_openBarred_25 rfl rfl ?_
      refine r_iload hg 5 dX10_openBarred_26 rfl ?_
      obtain ⟨v6, I7, e8, h⟩ := q_b2_some h
      refine r_cS3i hg dX10_openBarred_28 mt_X10_isBarred ⟨ml_X10_43, mst_X10_isBarred⟩ (s_X10_isBarred hΓ hX k_x1 e8) (q_room (Nat.le_of_ble_eq_true rfl) (Nat.le_of_ble_eq_true rfl)) ⟨Nat.zero_le _, Nat.zero_le _⟩ (Nat.le_of_ble_eq_true rfl) ?_
      refine r_if_eq hg 37 dX10_openBarred_31 (by decide) (fun c9 => ?_) (fun c9 => ?_)
      · rw [if_pos c9] at h
        exact p_X10_openBarred_37 hΓ hg hr hX k_this k_x1 hk6 _ _ _ h
      · rw [if_neg c9] at h
        refine r_iinc hg 4 (v := (x4 + (nI 1))) (L' := [(4, .int (x4 + (nI 1))), (0, .ref this), (1, .ref x1), (2, .int x2), (3, .int x3), (5, .int x5)]) dX10_openBarred_34 rfl (by rw [ci_1]) (by decide) rfl ?_
        refine r_sub hg [1, 2, 3, 4, 0, 5] rfl ?_
        exact p_X10_openBarred_37 hΓ hg hr hX k_this k_x1 hk6 _ _ _ h
theorem pl_X10_openBarred_6 {l : Launch} {Γ : qC} {g : qG} {z : Int32 × qI} {this : Nat} {x1 : Nat} {x2 : Int32} {x3 : Int32} {X : qX} (hΓ : q_gm Γ) (hg : q_Ok l Γ RX10 cX10_openBarred 6 (q_rm 6 0 0) "openBarred" (some .int) g) (hr : q_Rt cX10_openBarred (some .int) (q_rm 6 0 0) (some (.int z.1), z.2, X) g) (hX : q_Lay X) (k_this : q_kd X this = some (12, 1)) (k_x1 : q_kd X x1 = some (9, 6)) : ∀ (n : Nat) (x4 : Int32) (x5 : Int32) (I : qI), q_fix (fun _ _ _ => none) (b_X10_openBarred_6 this x1 x2 x3 X) n x4 x5 I = some z → g 0 0 6 [(0, .ref this), (1, .ref x1), (2, .int x2), (3, .int x3), (4, .int x4), (5, .int x5)] [] I X := by
  intro n
  induction n with
  | zero =>
    intro x4 x5 I h
    cases (show (none : Option (Int32 × qI)) = some z from h)
  | succ n ih =>
    intro x4 x5 I h
    exact p_X10_openBarred_6 hΓ hg hr hX k_this k_x1 ih _ _ _ h
def f_X10_openBarred (this : Nat) (x1 : Nat) (x2 : Int32) (x3 : Int32) (X : qX) (I : qI) : Option (Int32 × qI) :=
  q_fix (fun _ _ _ => none) (b_X10_openBarred_6 this x1 x2 x3 X) q_fu (nI 0) (nI 0) I
set_option maxRecDepth 100000 in
set_option maxHeartbeats 4000000 in
theorem s_X10_openBarred {l : Launch} {Γ : qC} (hΓ : q_gm Γ) {X : qX} (hX : q_Lay X) {this : Nat} {x1 : Nat} {x2 : Int32} {x3 : Int32} (k_this : q_kd X this = some (12, 1)) (k_x1 : q_kd X x1 = some (9, 6)) {I : qI} {z : Int32 × qI} (h : f_X10_openBarred this x1 x2 x3 X I = some z) : q_Sem l Γ (q_rm 6 0 0) yX10_openBarred cX10_openBarred 6 (some .int) [.ref this, .ref x1, .int x2, .int x3] I X (some (.int z.1), z.2, X) := by
  refine q_met (by decide) (Nat.le_of_ble_eq_true rfl) (fun g hg hr => ?_)
  unfold f_X10_openBarred at h
  show g 0 0 0 [(0, .ref this), (1, .ref x1), (2, .int x2), (3, .int x3)] [] I X
  refine r_iconst hg dX10_openBarred_0 ci_0 ?_
  refine r_istore hg (L' := [(4, .int (nI 0)), (0, .ref this), (1, .ref x1), (2, .int x2), (3, .int x3)]) dX10_openBarred_1 (by decide) rfl ?_
  refine r_iconst hg dX10_openBarred_3 ci_0 ?_
  refine r_istore hg (L' := [(5, .int (nI 0)), (4, .int (nI 0)), (0, .ref this), (1, .ref x1), (2, .int x2), (3, .int x3)]) dX10_openBarred_4 (by decide) rfl ?_
  refine r_sub hg [2, 3, 4, 5, 1, 0] rfl ?_
  exact pl_X10_openBarred_6 hΓ hg hr hX k_this k_x1 _ _ _ _ h

def b_X10_openWay_60 (this : Nat) (x1 : Nat) (x2 : Int32) (x3 : Int32) (X : qX) (k6 : Int32 → Int32 → qI → Option (Int32 × qI)) (x4 : Int32) (x5 : Int32) (I : qI) : Option (Int32 × qI) :=
  k6 x4 (x5 + (nI 1)) I
set_option maxRecDepth 100000 in
set_option maxHeartbeats 4000000 in
theorem p_X10_openWay_60 {l : Launch} {Γ : qC} {g : qG} {z : Int32 × qI} {this : Nat} {x1 : Nat} {x2 : Int32} {x3 : Int32} {X : qX} (hΓ : q_gm Γ) (hg : q_Ok l Γ RX10 cX10_openWay 6 (q_rm 6 0 0) "openWay" (some .int) g) (hr : q_Rt cX10_openWay (some .int) (q_rm 6 0 0) (some (.int z.1), z.2, X) g) (hX : q_Lay X) (k_this : q_kd X this = some (12, 1)) (k_x1 : q_kd X x1 = some (9, 6)) {k6 : Int32 → Int32 → qI → Option (Int32 × qI)} (hk6 : ∀ (x4 : Int32) (x5 : Int32) (I : qI), k6 x4 x5 I = some z → g 0 0 6 [(0, .ref this), (1, .ref x1), (2, .int x2), (3, .int x3), (4, .int x4), (5, .int x5)] [] I X) (x4 : Int32) (x5 : Int32) (I : qI) (h : b_X10_openWay_60 this x1 x2 x3 X k6 x4 x5 I = some z) : g 0 0 60 [(0, .ref this), (1, .ref x1), (2, .int x2), (3, .int x3), (4, .int x4), (5, .int x5)] [] I X := by
  unfold b_X10_openWay_60 at h
  refine r_iinc hg 5 (v := (x5 + (nI 1))) (L' := [(5, .int (x5 + (nI 1))), (0, .ref this), (1, .ref x1), (2, .int x2), (3, .int x3), (4, .int x4)]) dX10_openWay_60 rfl (by rw [ci_1]) (by decide) rfl ?_
  refine r_goto hg 6 dX10_openWay_63 (by decide) ?_
  refine r_sub hg [1, 2, 3, 4, 5, 0] rfl ?_
  exact hk6 _ _ _ h
def b_X10_openWay_6 (this : Nat) (x1 : Nat) (x2 : Int32) (x3 : Int32) (X : qX) (k6 : Int32 → Int32 → qI → Option (Int32 × qI)) (x4 : Int32) (x5 : Int32) (I : qI) : Option (Int32 × qI) :=
  if (nI 48) ≤ x5 then
    some ((-1), I)
  else
    q_b2 (f_X10_isOpen this x1 x2 x5 X I) fun v2 I3 =>
    if v2 = 0 then
      b_X10_openWay_60 this x1 x2 x3 X k6 x4 x5 I3
    else
      if x4 = x3 then
        q_b1 (f_X10_m x5) fun v7 =>
        q_b1 (f_X10_p x5) fun v9 =>
        q_b1 (f_X10_t x5) fun v11 =>
        some (((((nI 100) * v7) + ((nI 10) * v9)) + v11), I3)
      else
        b_X10_openWay_60 this x1 x2 x3 X k6 (x4 + (nI 1)) x5 I3
set_option maxRecDepth 100000 in
set_option maxHeartbeats 4000000 in
theorem p_X10_openWay_6 {l : Launch} {Γ : qC} {g : qG} {z : Int32 × qI} {this : Nat} {x1 : Nat} {x2 : Int32} {x3 : Int32} {X : qX} (hΓ : q_gm Γ) (hg : q_Ok l Γ RX10 cX10_openWay 6 (q_rm 6 0 0) "openWay" (some .int) g) (hr : q_Rt cX10_openWay (some .int) (q_rm 6 0 0) (some (.int z.1), z.2, X) g) (hX : q_Lay X) (k_this : q_kd X this = some (12, 1)) (k_x1 : q_kd X x1 = some (9, 6)) {k6 : Int32 → Int32 → qI → Option (Int32 × qI)} (hk6 : ∀ (x4 : Int32) (x5 : Int32) (I : qI), k6 x4 x5 I = some z → g 0 0 6 [(0, .ref this), (1, .ref x1), (2, .int x2), (3, .int x3), (4, .int x4), (5, .int x5)] [] I X) (x4 : Int32) (x5 : Int32) (I : qI) (h : b_X10_openWay_6 this x1 x2 x3 X k6 x4 x5 I = some z) : g 0 0 6 [(0, .ref this), (1, .ref x1), (2, .int x2), (3, .int x3), (4, .int x4), (5, .int x5)] [] I X := by
  unfold b_X10_openWay_6 at h
  refine r_iload hg 5 dX10_openWay_6 rfl ?_
  refine r_bipush hg dX10_openWay_8 cb_48 ?_
  refine r_icmp_ge hg 66 dX10_openWay_10 (by decide) (fun c1 => ?_) (fun c1 => ?_)
  · rw [if_pos c1] at h
    refine r_iconst hg dX10_openWay_66 ci_m1 ?_
    exact r_ireturn hr dX10_openWay_67 ⟨Nat.zero_le _, Nat.zero_le _⟩ ⟨_, rfl, rfl⟩ (by cases h; rfl)
  · rw [if_neg c1] at h
    refine r_aload_n hg 0 dX10_openWay_13 rfl rfl ?_
    refine r_aload_n hg 1 dX10_openWay_14 rfl rfl ?_
    refine r_iload_n hg 2 dX10_openWay_15 rfl rfl ?_
    refine r_iload hg 5 dX10_openWay_16 rfl ?_
    obtain ⟨v2, I3, e4, h⟩ := q_b2_some h
    refine r_cV3i hg dX10_openWay_18 mt_X10_isOpen ml_X10_39 mv_X10_isOpen k_this (s_X10_isOpen hΓ hX k_this k_x1 e4) (q_room (Nat.le_of_ble_eq_true rfl) (Nat.le_of_ble_eq_true rfl)) ⟨Nat.zero_le _, Nat.zero_le _⟩ (Nat.le_of_ble_eq_true rfl) ?_
    refine r_if_ne hg 27 dX10_openWay_21 (by decide) (fun c5 => ?_) (fun c5 => ?_)
    · rw [if_neg c5] at h
      refine r_iload hg 4 dX10_openWay_27 rfl ?_
      refine r_iload_n hg 3 dX10_openWay_29 rfl rfl ?_
      refine r_icmp_ne hg 57 dX10_openWay_30 (by decide) (fun c6 => ?_) (fun c6 => ?_)
      · rw [if_neg c6] at h
        refine r_iinc hg 4 (v := (x4 + (nI 1))) (L' := [(4, .int (x4 + (nI 1))), (0, .ref this), (1, .ref x1), (2, .int x2), (3, .int x3), (5, .int x5)]) dX10_openWay_57 rfl (by rw [ci_1]) (by decide) rfl ?_
        refine r_sub hg [1, 2, 3, 4, 0, 5] rfl ?_
        exact p_X10_openWay_60 hΓ hg hr hX k_this k_x1 hk6 _ _ _ h
      · rw [if_pos (Classical.not_not.mp c6)] at h
        refine r_bipush hg dX10_openWay_33 cb_100 ?_
        refine r_iload hg 5 dX10_openWay_35 rfl ?_
        obtain ⟨v7, e8, h⟩ := q_b1_some h
        refine r_cS1i hg dX10_openWay_37 mt_X10_m ⟨ml_X10_21, mst_X10_m⟩ (s_X10_m hΓ hX e8) (q_room (Nat.le_of_ble_eq_true rfl) (Nat.le_of_ble_eq_true rfl)) ⟨Nat.zero_le _, Nat.zero_le _⟩ (Nat.le_of_ble_eq_true rfl) ?_
        refine r_imul hg dX10_openWay_40 ?_
        refine r_bipush hg dX10_openWay_41 cb_10 ?_
        refine r_iload hg 5 dX10_openWay_43 rfl ?_
        obtain ⟨v9, e10, h⟩ := q_b1_some h
        refine r_cS1i hg dX10_openWay_45 mt_X10_p ⟨ml_X10_25, mst_X10_p⟩ (s_X10_p hΓ hX e10) (q_room (Nat.le_of_ble_eq_true rfl) (Nat.le_of_ble_eq_true rfl)) ⟨Nat.zero_le _, Nat.zero_le _⟩ (Nat.le_of_ble_eq_true rfl) ?_
        refine r_imul hg dX10_openWay_48 ?_
        refine r_iadd hg dX10_openWay_49 ?_
        refine r_iload hg 5 dX10_openWay_50 rfl ?_
        obtain ⟨v11, e12, h⟩ := q_b1_some h
        refine r_cS1i hg dX10_openWay_52 mt_X10_t ⟨ml_X10_28, mst_X10_t⟩ (s_X10_t hΓ hX e12) (q_room (Nat.le_of_ble_eq_true rfl) (Nat.le_of_ble_eq_true rfl)) ⟨Nat.zero_le _, Nat.zero_le _⟩ (Nat.le_of_ble_eq_true rfl) ?_
        refine r_iadd hg dX10_openWay_55 ?_
        exact r_ireturn hr dX10_openWay_56 ⟨Nat.zero_le _, Nat.zero_le _⟩ ⟨_, rfl, rfl⟩ (by cases h; rfl)
    · rw [if_pos (Classical.not_not.mp c5)] at h
      refine r_goto hg 60 dX10_openWay_24 (by decide) ?_
      exact p_X10_openWay_60 hΓ hg hr hX k_this k_x1 hk6 _ _ _ h
theorem pl_X10_openWay_6 {l : Launch} {Γ : qC} {g : qG} {z : Int32 × qI} {this : Nat} {x1 : Nat} {x2 : Int32} {x3 : Int32} {X : qX} (hΓ : q_gm Γ) (hg : q_Ok l Γ RX10 cX10_openWay 6 (q_rm 6 0 0) "openWay" (some .int) g) (hr : q_Rt cX10_openWay (some .int) (q_rm 6 0 0) (some (.int z.1), z.2, X) g) (hX : q_Lay X) (k_this : q_kd X this = some (12, 1)) (k_x1 : q_kd X x1 = some (9, 6)) : ∀ (n : Nat) (x4 : Int32) (x5 : Int32) (I : qI), q_fix (fun _ _ _ => none) (b_X10_openWay_6 this x1 x2 x3 X) n x4 x5 I = some z → g 0 0 6 [(0, .ref this), (1, .ref x1), (2, .int x2), (3, .int x3), (4, .int x4), (5, .int x5)] [] I X := by
  intro n
  induction n with
  | zero =>
    intro x4 x5 I h
    cases (show (none : Option (Int32 × qI)) = some z from h)
  | succ n ih =>
    intro x4 x5 I h
    exact p_X10_openWay_6 hΓ hg hr hX k_this k_x1 ih _ _ _ h
def f_X10_openWay (this : Nat) (x1 : Nat) (x2 : Int32) (x3 : Int32) (X : qX) (I : qI) : Option (Int32 × qI) :=
  q_fix (fun _ _ _ => none) (b_X10_openWay_6 this x1 x2 x3 X) q_fu (nI 0) (nI 0) I
set_option maxRecDepth 100000 in
set_option maxHeartbeats 4000000 in
theorem s_X10_openWay {l : Launch} {Γ : qC} (hΓ : q_gm Γ) {X : qX} (hX : q_Lay X) {this : Nat} {x1 : Nat} {x2 : Int32} {x3 : Int32} (k_this : q_kd X this = some (12, 1)) (k_x1 : q_kd X x1 = some (9, 6)) {I : qI} {z : Int32 × qI} (h : f_X10_openWay this x1 x2 x3 X I = some z) : q_Sem l Γ (q_rm 6 0 0) yX10_openWay cX10_openWay 6 (some .int) [.ref this, .ref x1, .int x2, .int x3] I X (some (.int z.1), z.2, X) := by
  refine q_met (by decide) (Nat.le_of_ble_eq_true rfl) (fun g hg hr => ?_)
  unfold f_X10_openWay at h
  show g 0 0 0 [(0, .ref this), (1, .ref x1), (2, .int x2), (3, .int x3)] [] I X
  refine r_iconst hg dX10_openWay_0 ci_0 ?_
  refine r_istore hg (L' := [(4, .int (nI 0)), (0, .ref this), (1, .ref x1), (2, .int x2), (3, .int x3)]) dX10_openWay_1 (by decide) rfl ?_
  refine r_iconst hg dX10_openWay_3 ci_0 ?_
  refine r_istore hg (L' := [(5, .int (nI 0)), (4, .int (nI 0)), (0, .ref this), (1, .ref x1), (2, .int x2), (3, .int x3)]) dX10_openWay_4 (by decide) rfl ?_
  refine r_sub hg [2, 3, 4, 5, 1, 0] rfl ?_
  exact pl_X10_openWay_6 hΓ hg hr hX k_this k_x1 _ _ _ _ h

def b_X4_putNext_187 (this : Nat) (x1 : Int32) (x2 : Int32) (x3 : Int32) (x4 : Int32) (x5 : Int32) (F_X4_putNext : Nat → Int32 → Int32 → Int32 → Int32 → Int32 → qI → Option (Int32 × qI)) (k33 : Int32 → qI → Option (Int32 × qI)) (x6 : Int32) (I : qI) : Option (Int32 × qI) :=
  k33 (x6 + (nI 1)) I
set_option maxRecDepth 100000 in
set_option maxHeartbeats 4000000 in
theorem p_X4_putNext_187 {l : Launch} {Γ : qC} {g : qG} {z : Int32 × qI} {this : Nat} {x1 : Int32} {x2 : Int32} {x3 : Int32} {x4 : Int32} {x5 : Int32} {d : Nat} {F_X4_putNext : Nat → Int32 → Int32 → Int32 → Int32 → Int32 → qI → Option (Int32 × qI)} {X : qX} (hΓ : q_gm Γ) (hg : q_Ok l Γ RX4 cX4_putNext 9 (q_rm (3 + (d + 1)) 0 0) "putNext" (some .boolean) g) (hr : q_Rt cX4_putNext (some .boolean) (q_rm (3 + (d + 1)) 0 0) (some (.int z.1), z.2, X) g) (hX : q_Lay X) (k_this : q_kd X this = some (6, 10)) (ih_X4_putNext : ∀ {X : qX} (_ : q_Lay X) {this : Nat} {x1 : Int32} {x2 : Int32} {x3 : Int32} {x4 : Int32} {x5 : Int32} (k_this : q_kd X this = some (6, 10)) {I : qI} {z : Int32 × qI}, F_X4_putNext this x1 x2 x3 x4 x5 I = some z → q_Sem l Γ (q_rm (3 + d) 0 0) yX4_putNext cX4_putNext 9 (some .boolean) [.ref this, .int x1, .int x2, .int x3, .int x4, .int x5] I X (some (.int z.1), z.2, X)) {k33 : Int32 → qI → Option (Int32 × qI)} (hk33 : ∀ (x6 : Int32) (I : qI), k33 x6 I = some z → g 0 0 33 [(0, .ref this), (1, .int x1), (2, .int x2), (3, .int x3), (4, .int x4), (5, .int x5), (6, .int x6)] [] I X) (x6 : Int32) (I : qI) (h : b_X4_putNext_187 this x1 x2 x3 x4 x5 F_X4_putNext k33 x6 I = some z) : g 0 0 187 [(0, .ref this), (1, .int x1), (2, .int x2), (3, .int x3), (4, .int x4), (5, .int x5), (6, .int x6)] [] I X := by
  unfold b_X4_putNext_187 at h
  refine r_iinc hg 6 (v := (x6 + (nI 1))) (L' := [(6, .int (x6 + (nI 1))), (0, .ref this), (1, .int x1), (2, .int x2), (3, .int x3), (4, .int x4), (5, .int x5)]) dX4_putNext_187 rfl (by rw [ci_1]) (by decide) rfl ?_
  refine r_goto hg 33 dX4_putNext_190 (by decide) ?_
  refine r_sub hg [1, 2, 3, 4, 5, 6, 0] rfl ?_
  exact hk33 _ _ h
def b_X4_putNext_33 (this : Nat) (x1 : Int32) (x2 : Int32) (x3 : Int32) (x4 : Int32) (x5 : Int32) (F_X4_putNext : Nat → Int32 → Int32 → Int32 → Int32 → Int32 → qI → Option (Int32 × qI)) (k33 : Int32 → qI → Option (Int32 × qI)) (x6 : Int32) (I : qI) : Option (Int32 × qI) :=
  if (I this 9) ≤ x6 then
    some ((nI 1), I)
  else
    if ((x1 >>> (x6 &&& 31)) &&& (nI 1)) = 0 then
      q_b1 (q_rd I (this + 3) 8 x6) fun v4 =>
      if (v4 &&& (x1 ^^^ (-1))) = 0 then
        if 0 < (I this 8) then
          q_b1 (some (q_up I this 8 ((I this 8) - (nI 1)))) fun I8 =>
          q_b1 (q_rd I8 (this + 1) 8 x6) fun v11 =>
          q_b1 (f_X4_weeksTill (v11 - x4) x5) fun v13 =>
          if (x3 + v13) ≤ (nI 999) then
            q_b1 (q_wr I8 (this + 4) 8 x2 x6) fun I17 =>
            q_b1 (q_wr I17 (this + 5) 8 x2 (x3 + v13)) fun I20 =>
            q_b1 (q_rd I20 (this + 1) 8 x6) fun v23 =>
            q_b1 (q_rd I20 (this + 2) 8 x6) fun v26 =>
            q_b2 (F_X4_putNext this (x1 ||| ((nI 1) <<< (x6 &&& 31))) (x2 + (nI 1)) (x3 + v13) ((x4 + (v13 * x5)) - v23) (x5 + v26) I20) fun v28 I29 =>
            if v28 = 0 then
              some ((nI 0), I29)
            else
              b_X4_putNext_187 this x1 x2 x3 x4 x5 F_X4_putNext k33 x6 I29
          else
            b_X4_putNext_187 this x1 x2 x3 x4 x5 F_X4_putNext k33 x6 I8
        else
          some ((nI 0), I)
      else
        b_X4_putNext_187 this x1 x2 x3 x4 x5 F_X4_putNext k33 x6 I
    else
      b_X4_putNext_187 this x1 x2 x3 x4 x5 F_X4_putNext k33 x6 I
set_option maxRecDepth 100000 in
set_option maxHeartbeats 4000000 in
theorem p_X4_putNext_33 {l : Launch} {Γ : qC} {g : qG} {z : Int32 × qI} {this : Nat} {x1 : Int32} {x2 : Int32} {x3 : Int32} {x4 : Int32} {x5 : Int32} {d : Nat} {F_X4_putNext : Nat → Int32 → Int32 → Int32 → Int32 → Int32 → qI → Option (Int32 × qI)} {X : qX} (hΓ : q_gm Γ) (hg : q_Ok l Γ RX4 cX4_putNext 9 (q_rm (3 + (d + 1)) 0 0) "putNext" (some .boolean) g) (hr : q_Rt cX4_putNext (some .boolean) (q_rm (3 + (d + 1)) 0 0) (some (.int z.1), z.2, X) g) (hX : q_Lay X) (k_this : q_kd X this = some (6, 10)) (ih_X4_putNext : ∀ {X : qX} (_ : q_Lay X) {this : Nat} {x1 : Int32} {x2 : Int32} {x3 : Int32} {x4 : Int32} {x5 : Int32} (k_this : q_kd X this = some (6, 10)) {I : qI} {z : Int32 × qI}, F_X4_putNext this x1 x2 x3 x4 x5 I = some z → q_Sem l Γ (q_rm (3 + d) 0 0) yX4_putNext cX4_putNext 9 (some .boolean) [.ref this, .int x1, .int x2, .int x3, .int x4, .int x5] I X (some (.int z.1), z.2, X)) {k33 : Int32 → qI → Option (Int32 × qI)} (hk33 : ∀ (x6 : Int32) (I : qI), k33 x6 I = some z → g 0 0 33 [(0, .ref this), (1, .int x1), (2, .int x2), (3, .int x3), (4, .int x4), (5, .int x5), (6, .int x6)] [] I X) (x6 : Int32) (I : qI) (h : b_X4_putNext_33 this x1 x2 x3 x4 x5 F_X4_putNext k33 x6 I = some z) : g 0 0 33 [(0, .ref this), (1, .int x1), (2, .int x2), (3, .int x3), (4, .int x4), (5, .int x5), (6, .int x6)] [] I X := by
  unfold b_X4_putNext_33 at h
  refine r_iload hg 6 dX4_putNext_33 rfl ?_
  refine r_aload_n hg 0 dX4_putNext_35 rfl rfl ?_
  refine r_getI hg dX4_putNext_36 fl_X4_33 k_this rfl ?_
  refine r_icmp_ge hg 193 dX4_putNext_39 (by decide) (fun c1 => ?_) (fun c1 => ?_)
  · rw [if_pos c1] at h
    refine r_iconst hg dX4_putNext_193 ci_1 ?_
    exact r_ireturn hr dX4_putNext_194 ⟨Nat.zero_le _, Nat.zero_le _⟩ ⟨_, rfl, bz_1.1⟩ (by cases h; rfl)
  · rw [if_neg c1] at h
    refine r_iload_n hg 1 dX4_putNext_42 rfl rfl ?_
    refine r_iload hg 6 dX4_putNext_43 rfl ?_
    refine r_ishr hg dX4_putNext_45 ?_
    refine r_iconst hg dX4_putNext_46 ci_1 ?_
    refine r_iand hg dX4_putNext_47 ?_
    refine r_if_ne hg 187 dX4_putNext_48 (by decide) (fun c2 => ?_) (fun c2 => ?_)
    · rw [if_neg c2] at h
      exact p_X4_putNext_187 hΓ hg hr hX k_this ih_X4_putNext hk33 _ _ h
    · rw [if_pos (Classical.not_not.mp c2)] at h
      refine r_aload_n hg 0 dX4_putNext_51 rfl rfl ?_
      have e3 := ly_4_2 hX k_this
      refine r_getR hg dX4_putNext_52 fl_X4_18 k_this rfl e3.1 ?_
      refine r_iload hg 6 dX4_putNext_55 rfl ?_
      obtain ⟨v4, e5, h⟩ := q_b1_some h
      refine r_iald hg dX4_putNext_57 e3.2 e5 ?_
      refine r_iload_n hg 1 dX4_putNext_58 rfl rfl ?_
      refine r_iconst hg dX4_putNext_59 ci_m1 ?_
      refine r_ixor hg dX4_putNext_60 ?_
      refine r_iand hg dX4_putNext_61 ?_
      refine r_if_eq hg 68 dX4_putNext_62 (by decide) (fun c6 => ?_) (fun c6 => ?_)
      · rw [if_pos c6] at h
        refine r_aload_n hg 0 dX4_putNext_68 rfl rfl ?_
        refine r_getI hg dX4_putNext_69 fl_X4_47 k_this rfl ?_
        refine r_if_gt hg 77 dX4_putNext_72 (by decide) (fun c7 => ?_) (fun c7 => ?_)
        · rw [if_pos c7] at h
          refine r_aload_n hg 0 dX4_putNext_77 rfl rfl ?_
          refine r_dup hg dX4_putNext_78 rfl ?_
          refine r_getI hg dX4_putNext_79 fl_X4_47 k_this rfl ?_
          refine r_iconst hg dX4_putNext_82 ci_1 ?_
          refine r_isub hg dX4_putNext_83 ?_
          obtain ⟨I8, e9, h⟩ := q_b1_some h
          obtain rfl := Option.some.inj e9
          refine r_putI hg dX4_putNext_84 fl_X4_47 k_this rfl ⟨rfl, rfl⟩ ?_
          refine r_aload_n hg 0 dX4_putNext_87 rfl rfl ?_
          have e10 := ly_4_0 hX k_this
          refine r_getR hg dX4_putNext_88 fl_X4_11 k_this rfl e10.1 ?_
          refine r_iload hg 6 dX4_putNext_91 rfl ?_
          obtain ⟨v11, e12, h⟩ := q_b1_some h
          refine r_iald hg dX4_putNext_93 e10.2 e12 ?_
          refine r_iload hg 4 dX4_putNext_94 rfl ?_
          refine r_isub hg dX4_putNext_96 ?_
          refine r_iload hg 5 dX4_putNext_97 rfl ?_
          obtain ⟨v13, e14, h⟩ := q_b1_some h
          refine r_cS2i hg dX4_putNext_99 mt_X4_weeksTill ⟨ml_X4_60, mst_X4_weeksTill⟩ (s_X4_weeksTill hΓ hX e14) (q_room (by omega) (Nat.le_of_ble_eq_true rfl)) ⟨Nat.zero_le _, Nat.zero_le _⟩ (Nat.le_of_ble_eq_true rfl) ?_
          refine r_istore hg (L' := [(7, .int v13), (0, .ref this), (1, .int x1), (2, .int x2), (3, .int x3), (4, .int x4), (5, .int x5), (6, .int x6)]) dX4_putNext_102 (by decide) rfl ?_
          refine r_iload_n hg 4 dX4_putNext_104 rfl rfl ?_
          refine r_iload hg 0 dX4_putNext_105 rfl ?_
          refine r_iadd hg dX4_putNext_107 ?_
          refine r_sipush hg dX4_putNext_108 cs_999 ?_
          refine r_icmp_le hg 117 dX4_putNext_111 (by decide) (fun c15 => ?_) (fun c15 => ?_)
          · rw [if_pos c15] at h
            refine r_aload_n hg 1 dX4_putNext_117 rfl rfl ?_
            have e16 := ly_4_3 hX k_this
            refine r_getR hg dX4_putNext_118 fl_X4_21 k_this rfl e16.1 ?_
            refine r_iload_n hg 3 dX4_putNext_121 rfl rfl ?_
            refine r_iload hg 7 dX4_putNext_122 rfl ?_
            obtain ⟨I17, e18, h⟩ := q_b1_some h
            refine r_iast hg dX4_putNext_124 e16.2 e18 ?_
            refine r_aload_n hg 1 dX4_putNext_125 rfl rfl ?_
            have e19 := ly_4_4 hX k_this
            refine r_getR hg dX4_putNext_126 fl_X4_24 k_this rfl e19.1 ?_
            refine r_iload_n hg 3 dX4_putNext_129 rfl rfl ?_
            refine r_iload_n hg 4 dX4_putNext_130 rfl rfl ?_
            refine r_iload hg 0 dX4_putNext_131 rfl ?_
            refine r_iadd hg dX4_putNext_133 ?_
            obtain ⟨I20, e21, h⟩ := q_b1_some h
            refine r_iast hg dX4_putNext_134 e19.2 e21 ?_
            refine r_iload hg 5 dX4_putNext_135 rfl ?_
            refine r_iload hg 0 dX4_putNext_137 rfl ?_
            refine r_iload hg 6 dX4_putNext_139 rfl ?_
            refine r_imul hg dX4_putNext_141 ?_
            refine r_iadd hg dX4_putNext_142 ?_
            refine r_aload_n hg 1 dX4_putNext_143 rfl rfl ?_
            have e22 := ly_4_0 hX k_this
            refine r_getR hg dX4_putNext_144 fl_X4_11 k_this rfl e22.1 ?_
            refine r_iload hg 7 dX4_putNext_147 rfl ?_
            obtain ⟨v23, e24, h⟩ := q_b1_some h
            refine r_iald hg dX4_putNext_149 e22.2 e24 ?_
            refine r_isub hg dX4_putNext_150 ?_
            refine r_istore hg (L' := [(8, .int ((x4 + (v13 * x5)) - v23)), (7, .int v13), (0, .ref this), (1, .int x1), (2, .int x2), (3, .int x3), (4, .int x4), (5, .int x5), (6, .int x6)]) dX4_putNext_151 (by decide) rfl ?_
            refine r_aload_n hg 2 dX4_putNext_153 rfl rfl ?_
            refine r_iload_n hg 3 dX4_putNext_154 rfl rfl ?_
            refine r_iconst hg dX4_putNext_155 ci_1 ?_
            refine r_iload hg 8 dX4_putNext_156 rfl ?_
            refine r_ishl hg dX4_putNext_158 ?_
            refine r_ior hg dX4_putNext_159 ?_
            refine r_iload_n hg 4 dX4_putNext_160 rfl rfl ?_
            refine r_iconst hg dX4_putNext_161 ci_1 ?_
            refine r_iadd hg dX4_putNext_162 ?_
            refine r_iload_n hg 5 dX4_putNext_163 rfl rfl ?_
            refine r_iload hg 1 dX4_putNext_164 rfl ?_
            refine r_iadd hg dX4_putNext_166 ?_
            refine r_iload hg 0 dX4_putNext_167 rfl ?_
            refine r_iload hg 7 dX4_putNext_169 rfl ?_
            refine r_aload_n hg 2 dX4_putNext_171 rfl rfl ?_
            have e25 := ly_4_1 hX k_this
            refine r_getR hg dX4_putNext_172 fl_X4_15 k_this rfl e25.1 ?_
            refine r_iload hg 8 dX4_putNext_175 rfl ?_
            obtain ⟨v26, e27, h⟩ := q_b1_some h
            refine r_iald hg dX4_putNext_177 e25.2 e27 ?_
            refine r_iadd hg dX4_putNext_178 ?_
            obtain ⟨v28, I29, e30, h⟩ := q_b2_some h
            refine r_cV5i hg dX4_putNext_179 mt_X4_putNext ml_X4_50 mv_X4_putNext k_this (ih_X4_putNext hX k_this e30) (q_room (by omega) (Nat.le_of_ble_eq_true rfl)) ⟨Nat.zero_le _, Nat.zero_le _⟩ (Nat.le_of_ble_eq_true rfl) ?_
            refine r_if_ne hg 187 dX4_putNext_182 (by decide) (fun c31 => ?_) (fun c31 => ?_)
            · rw [if_neg c31] at h
              refine r_sub hg [2, 3, 4, 5, 6, 7, 8] rfl ?_
              exact p_X4_putNext_187 hΓ hg hr hX k_this ih_X4_putNext hk33 _ _ h
            · rw [if_pos (Classical.not_not.mp c31)] at h
              refine r_iconst hg dX4_putNext_185 ci_0 ?_
              exact r_ireturn hr dX4_putNext_186 ⟨Nat.zero_le _, Nat.zero_le _⟩ ⟨_, rfl, bz_0.1⟩ (by cases h; rfl)
          · rw [if_neg c15] at h
            refine r_goto hg 187 dX4_putNext_114 (by decide) ?_
            refine r_sub hg [1, 2, 3, 4, 5, 6, 7] rfl ?_
            exact p_X4_putNext_187 hΓ hg hr hX k_this ih_X4_putNext hk33 _ _ h
        · rw [if_neg c7] at h
          refine r_iconst hg dX4_putNext_75 ci_0 ?_
          exact r_ireturn hr dX4_putNext_76 ⟨Nat.zero_le _, Nat.zero_le _⟩ ⟨_, rfl, bz_0.1⟩ (by cases h; rfl)
      · rw [if_neg c6] at h
        refine r_goto hg 187 dX4_putNext_65 (by decide) ?_
        exact p_X4_putNext_187 hΓ hg hr hX k_this ih_X4_putNext hk33 _ _ h
theorem pl_X4_putNext_33 {l : Launch} {Γ : qC} {g : qG} {z : Int32 × qI} {this : Nat} {x1 : Int32} {x2 : Int32} {x3 : Int32} {x4 : Int32} {x5 : Int32} {d : Nat} {F_X4_putNext : Nat → Int32 → Int32 → Int32 → Int32 → Int32 → qI → Option (Int32 × qI)} {X : qX} (hΓ : q_gm Γ) (hg : q_Ok l Γ RX4 cX4_putNext 9 (q_rm (3 + (d + 1)) 0 0) "putNext" (some .boolean) g) (hr : q_Rt cX4_putNext (some .boolean) (q_rm (3 + (d + 1)) 0 0) (some (.int z.1), z.2, X) g) (hX : q_Lay X) (k_this : q_kd X this = some (6, 10)) (ih_X4_putNext : ∀ {X : qX} (_ : q_Lay X) {this : Nat} {x1 : Int32} {x2 : Int32} {x3 : Int32} {x4 : Int32} {x5 : Int32} (k_this : q_kd X this = some (6, 10)) {I : qI} {z : Int32 × qI}, F_X4_putNext this x1 x2 x3 x4 x5 I = some z → q_Sem l Γ (q_rm (3 + d) 0 0) yX4_putNext cX4_putNext 9 (some .boolean) [.ref this, .int x1, .int x2, .int x3, .int x4, .int x5] I X (some (.int z.1), z.2, X)) : ∀ (n : Nat) (x6 : Int32) (I : qI), q_fix (fun _ _ => none) (b_X4_putNext_33 this x1 x2 x3 x4 x5 F_X4_putNext) n x6 I = some z → g 0 0 33 [(0, .ref this), (1, .int x1), (2, .int x2), (3, .int x3), (4, .int x4), (5, .int x5), (6, .int x6)] [] I X := by
  intro n
  induction n with
  | zero =>
    intro x6 I h
    cases (show (none : Option (Int32 × qI)) = some z from h)
  | succ n ih =>
    intro x6 I h
    exact p_X4_putNext_33 hΓ hg hr hX k_this ih_X4_putNext ih _ _ h
def b_X4_putNext_23 (this : Nat) (x1 : Int32) (x2 : Int32) (x3 : Int32) (x4 : Int32) (x5 : Int32) (F_X4_putNext : Nat → Int32 → Int32 → Int32 → Int32 → Int32 → qI → Option (Int32 × qI)) (I : qI) : Option (Int32 × qI) :=
  q_b1 (f_X4_keepOrder this x3 I) fun I1 =>
  some ((nI 1), I1)
set_option maxRecDepth 100000 in
set_option maxHeartbeats 4000000 in
theorem p_X4_putNext_23 {l : Launch} {Γ : qC} {g : qG} {z : Int32 × qI} {this : Nat} {x1 : Int32} {x2 : Int32} {x3 : Int32} {x4 : Int32} {x5 : Int32} {d : Nat} {F_X4_putNext : Nat → Int32 → Int32 → Int32 → Int32 → Int32 → qI → Option (Int32 × qI)} {X : qX} (hΓ : q_gm Γ) (hg : q_Ok l Γ RX4 cX4_putNext 9 (q_rm (3 + (d + 1)) 0 0) "putNext" (some .boolean) g) (hr : q_Rt cX4_putNext (some .boolean) (q_rm (3 + (d + 1)) 0 0) (some (.int z.1), z.2, X) g) (hX : q_Lay X) (k_this : q_kd X this = some (6, 10)) (ih_X4_putNext : ∀ {X : qX} (_ : q_Lay X) {this : Nat} {x1 : Int32} {x2 : Int32} {x3 : Int32} {x4 : Int32} {x5 : Int32} (k_this : q_kd X this = some (6, 10)) {I : qI} {z : Int32 × qI}, F_X4_putNext this x1 x2 x3 x4 x5 I = some z → q_Sem l Γ (q_rm (3 + d) 0 0) yX4_putNext cX4_putNext 9 (some .boolean) [.ref this, .int x1, .int x2, .int x3, .int x4, .int x5] I X (some (.int z.1), z.2, X)) (I : qI) (h : b_X4_putNext_23 this x1 x2 x3 x4 x5 F_X4_putNext I = some z) : g 0 0 23 [(0, .ref this), (3, .int x3)] [] I X := by
  unfold b_X4_putNext_23 at h
  refine r_aload_n hg 0 dX4_putNext_23 rfl rfl ?_
  refine r_iload_n hg 1 dX4_putNext_24 rfl rfl ?_
  obtain ⟨I1, e2, h⟩ := q_b1_some h
  refine r_cV1v hg dX4_putNext_25 mt_X4_keepOrder ml_X4_56 mv_X4_keepOrder k_this (s_X4_keepOrder hΓ hX k_this e2) (q_room (by omega) (Nat.le_of_ble_eq_true rfl)) ⟨Nat.zero_le _, Nat.zero_le _⟩ (Nat.le_of_ble_eq_true rfl) ?_
  refine r_iconst hg dX4_putNext_28 ci_1 ?_
  exact r_ireturn hr dX4_putNext_29 ⟨Nat.zero_le _, Nat.zero_le _⟩ ⟨_, rfl, bz_1.1⟩ (by cases h; rfl)
def B_X4_putNext (F_X4_putNext : Nat → Int32 → Int32 → Int32 → Int32 → Int32 → qI → Option (Int32 × qI)) (this : Nat) (x1 : Int32) (x2 : Int32) (x3 : Int32) (x4 : Int32) (x5 : Int32) (I : qI) : Option (Int32 × qI) :=
  if x2 < (I this 9) then
    q_fix (fun _ _ => none) (b_X4_putNext_33 this x1 x2 x3 x4 x5 F_X4_putNext) q_fu (nI 0) I
  else
    if (I this 7) < 0 then
      b_X4_putNext_23 this x1 x2 x3 x4 x5 F_X4_putNext I
    else
      if (I this 7) ≤ x3 then
        some ((nI 1), I)
      else
        b_X4_putNext_23 this x1 x2 x3 x4 x5 F_X4_putNext I
set_option maxRecDepth 100000 in
set_option maxHeartbeats 4000000 in
theorem t_X4_putNext {l : Launch} {Γ : qC} {d : Nat} {F_X4_putNext : Nat → Int32 → Int32 → Int32 → Int32 → Int32 → qI → Option (Int32 × qI)} (hΓ : q_gm Γ) (ih_X4_putNext : ∀ {X : qX} (_ : q_Lay X) {this : Nat} {x1 : Int32} {x2 : Int32} {x3 : Int32} {x4 : Int32} {x5 : Int32} (k_this : q_kd X this = some (6, 10)) {I : qI} {z : Int32 × qI}, F_X4_putNext this x1 x2 x3 x4 x5 I = some z → q_Sem l Γ (q_rm (3 + d) 0 0) yX4_putNext cX4_putNext 9 (some .boolean) [.ref this, .int x1, .int x2, .int x3, .int x4, .int x5] I X (some (.int z.1), z.2, X)) {X : qX} (hX : q_Lay X) {this : Nat} {x1 : Int32} {x2 : Int32} {x3 : Int32} {x4 : Int32} {x5 : Int32} (k_this : q_kd X this = some (6, 10)) {I : qI} {z : Int32 × qI} (h : B_X4_putNext F_X4_putNext this x1 x2 x3 x4 x5 I = some z) : q_Sem l Γ (q_rm (3 + (d + 1)) 0 0) yX4_putNext cX4_putNext 9 (some .boolean) [.ref this, .int x1, .int x2, .int x3, .int x4, .int x5] I X (some (.int z.1), z.2, X) := by
  refine q_met (by decide) (Nat.le_of_ble_eq_true rfl) (fun g hg hr => ?_)
  unfold B_X4_putNext at h
  show g 0 0 0 [(0, .ref this), (1, .int x1), (2, .int x2), (3, .int x3), (4, .int x4), (5, .int x5)] [] I X
  refine r_iload_n hg 2 dX4_putNext_0 rfl rfl ?_
  refine r_aload_n hg 0 dX4_putNext_1 rfl rfl ?_
  refine r_getI hg dX4_putNext_2 fl_X4_33 k_this rfl ?_
  refine r_icmp_lt hg 30 dX4_putNext_5 (by decide) (fun c1 => ?_) (fun c1 => ?_)
  · rw [if_pos c1] at h
    refine r_iconst hg dX4_putNext_30 ci_0 ?_
    refine r_istore hg (L' := [(6, .int (nI 0)), (0, .ref this), (1, .int x1), (2, .int x2), (3, .int x3), (4, .int x4), (5, .int x5)]) dX4_putNext_31 (by decide) rfl ?_
    refine r_sub hg [1, 2, 3, 4, 5, 6, 0] rfl ?_
    exact pl_X4_putNext_33 hΓ hg hr hX k_this ih_X4_putNext _ _ _ h
  · rw [if_neg c1] at h
    refine r_aload_n hg 0 dX4_putNext_8 rfl rfl ?_
    refine r_getI hg dX4_putNext_9 fl_X4_44 k_this rfl ?_
    refine r_if_lt hg 23 dX4_putNext_12 (by decide) (fun c2 => ?_) (fun c2 => ?_)
    · rw [if_pos c2] at h
      refine r_sub hg [0, 3] rfl ?_
      exact p_X4_putNext_23 hΓ hg hr hX k_this ih_X4_putNext _ h
    · rw [if_neg c2] at h
      refine r_iload_n hg 3 dX4_putNext_15 rfl rfl ?_
      refine r_aload_n hg 0 dX4_putNext_16 rfl rfl ?_
      refine r_getI hg dX4_putNext_17 fl_X4_44 k_this rfl ?_
      refine r_icmp_ge hg 28 dX4_putNext_20 (by decide) (fun c3 => ?_) (fun c3 => ?_)
      · rw [if_pos c3] at h
        refine r_iconst hg dX4_putNext_28 ci_1 ?_
        exact r_ireturn hr dX4_putNext_29 ⟨Nat.zero_le _, Nat.zero_le _⟩ ⟨_, rfl, bz_1.1⟩ (by cases h; rfl)
      · rw [if_neg c3] at h
        refine r_sub hg [0, 3] rfl ?_
        exact p_X4_putNext_23 hΓ hg hr hX k_this ih_X4_putNext _ h

def G_X4_putNext : Nat → (Nat → Int32 → Int32 → Int32 → Int32 → Int32 → qI → Option (Int32 × qI)) := q_fix (fun _ _ _ _ _ _ _ => none) (fun F => (B_X4_putNext F))
def f_X4_putNext (d : Nat) : Nat → Int32 → Int32 → Int32 → Int32 → Int32 → qI → Option (Int32 × qI) := (G_X4_putNext d)
theorem sg_X4_putNext {l : Launch} {Γ : qC} (hΓ : q_gm Γ) : ∀ d : Nat, (∀ {X : qX} (_ : q_Lay X) {this : Nat} {x1 : Int32} {x2 : Int32} {x3 : Int32} {x4 : Int32} {x5 : Int32} (k_this : q_kd X this = some (6, 10)) {I : qI} {z : Int32 × qI}, f_X4_putNext d this x1 x2 x3 x4 x5 I = some z → q_Sem l Γ (q_rm (3 + d) 0 0) yX4_putNext cX4_putNext 9 (some .boolean) [.ref this, .int x1, .int x2, .int x3, .int x4, .int x5] I X (some (.int z.1), z.2, X)) := by
  intro d
  induction d with
  | zero =>
    skip
    · intros; rename_i h; cases (show (none : Option (Int32 × qI)) = some _ from h)
  | succ d ih =>
    have ih0 := @ih
    skip
    · intro X hX this x1 x2 x3 x4 x5 k_this I z h
      exact t_X4_putNext hΓ ih0 hX k_this h
theorem s_X4_putNext {l : Launch} {Γ : qC} (hΓ : q_gm Γ) {d : Nat} {X : qX} (hX : q_Lay X) {this : Nat} {x1 : Int32} {x2 : Int32} {x3 : Int32} {x4 : Int32} {x5 : Int32} (k_this : q_kd X this = some (6, 10)) {I : qI} {z : Int32 × qI} (h : f_X4_putNext d this x1 x2 x3 x4 x5 I = some z) : q_Sem l Γ (q_rm (3 + d) 0 0) yX4_putNext cX4_putNext 9 (some .boolean) [.ref this, .int x1, .int x2, .int x3, .int x4, .int x5] I X (some (.int z.1), z.2, X) := (sg_X4_putNext hΓ d) hX k_this h

def b_X6_goRound_50 (this : Nat) (x1 : Int32) (x2 : Int32) (x3 : Int32) (F_X6_goRound : Nat → Int32 → Int32 → Int32 → qI → Option (qI)) (k50 : Int32 → qI → Option (qI)) (x4 : Int32) (I : qI) : Option (qI) :=
  if (nI 4) ≤ x4 then
    some (I)
  else
    q_b1 (q_wr I (this + 6) 7 x1 x4) fun I3 =>
    q_b1 (q_rd I3 (this + 4) 28 ((x1 * (nI 4)) + x4)) fun v6 =>
    q_b1 (F_X6_goRound this (x1 + (nI 1)) x2 (x3 ||| v6) I3) fun I8 =>
    k50 (x4 + (nI 1)) I8
set_option maxRecDepth 100000 in
set_option maxHeartbeats 4000000 in
theorem p_X6_goRound_50 {l : Launch} {Γ : qC} {g : qG} {z : qI} {this : Nat} {x1 : Int32} {x2 : Int32} {x3 : Int32} {d : Nat} {F_X6_goRound : Nat → Int32 → Int32 → Int32 → qI → Option (qI)} {X : qX} (hΓ : q_gm Γ) (hg : q_Ok l Γ RX6 cX6_goRound 5 (q_rm (3 + (d + 1)) 0 0) "goRound" none g) (hr : q_Rt cX6_goRound none (q_rm (3 + (d + 1)) 0 0) (none, z, X) g) (hX : q_Lay X) (k_this : q_kd X this = some (8, 9)) (ih_X6_goRound : ∀ {X : qX} (_ : q_Lay X) {this : Nat} {x1 : Int32} {x2 : Int32} {x3 : Int32} (k_this : q_kd X this = some (8, 9)) {I : qI} {z : qI}, F_X6_goRound this x1 x2 x3 I = some z → q_Sem l Γ (q_rm (3 + d) 0 0) yX6_goRound cX6_goRound 5 none [.ref this, .int x1, .int x2, .int x3] I X (none, z, X)) {k50 : Int32 → qI → Option (qI)} (hk50 : ∀ (x4 : Int32) (I : qI), k50 x4 I = some z → g 0 0 50 [(0, .ref this), (1, .int x1), (2, .int x2), (3, .int x3), (4, .int x4)] [] I X) (x4 : Int32) (I : qI) (h : b_X6_goRound_50 this x1 x2 x3 F_X6_goRound k50 x4 I = some z) : g 0 0 50 [(0, .ref this), (1, .int x1), (2, .int x2), (3, .int x3), (4, .int x4)] [] I X := by
  unfold b_X6_goRound_50 at h
  refine r_iload hg 4 dX6_goRound_50 rfl ?_
  refine r_iconst hg dX6_goRound_52 ci_4 ?_
  refine r_icmp_ge hg 91 dX6_goRound_53 (by decide) (fun c1 => ?_) (fun c1 => ?_)
  · rw [if_pos c1] at h
    exact r_return hr dX6_goRound_91 ⟨Nat.zero_le _, Nat.zero_le _⟩ rfl (by cases h; rfl)
  · rw [if_neg c1] at h
    refine r_aload_n hg 0 dX6_goRound_56 rfl rfl ?_
    have e2 := ly_6_5 hX k_this
    refine r_getR hg dX6_goRound_57 fl_X6_27 k_this rfl e2.1 ?_
    refine r_iload_n hg 1 dX6_goRound_60 rfl rfl ?_
    refine r_iload hg 4 dX6_goRound_61 rfl ?_
    obtain ⟨I3, e4, h⟩ := q_b1_some h
    refine r_iast hg dX6_goRound_63 e2.2 e4 ?_
    refine r_aload_n hg 0 dX6_goRound_64 rfl rfl ?_
    refine r_iload_n hg 1 dX6_goRound_65 rfl rfl ?_
    refine r_iconst hg dX6_goRound_66 ci_1 ?_
    refine r_iadd hg dX6_goRound_67 ?_
    refine r_iload_n hg 2 dX6_goRound_68 rfl rfl ?_
    refine r_iload_n hg 3 dX6_goRound_69 rfl rfl ?_
    refine r_aload_n hg 0 dX6_goRound_70 rfl rfl ?_
    have e5 := ly_6_3 hX k_this
    refine r_getR hg dX6_goRound_71 fl_X6_21 k_this rfl e5.1 ?_
    refine r_iload_n hg 1 dX6_goRound_74 rfl rfl ?_
    refine r_iconst hg dX6_goRound_75 ci_4 ?_
    refine r_imul hg dX6_goRound_76 ?_
    refine r_iload hg 4 dX6_goRound_77 rfl ?_
    refine r_iadd hg dX6_goRound_79 ?_
    obtain ⟨v6, e7, h⟩ := q_b1_some h
    refine r_iald hg dX6_goRound_80 e5.2 e7 ?_
    refine r_ior hg dX6_goRound_81 ?_
    obtain ⟨I8, e9, h⟩ := q_b1_some h
    refine r_cV3v hg dX6_goRound_82 mt_X6_goRound ml_X6_47 mv_X6_goRound k_this (ih_X6_goRound hX k_this e9) (q_room (by omega) (Nat.le_of_ble_eq_true rfl)) ⟨Nat.zero_le _, Nat.zero_le _⟩ (Nat.le_of_ble_eq_true rfl) ?_
    refine r_iinc hg 4 (v := (x4 + (nI 1))) (L' := [(4, .int (x4 + (nI 1))), (0, .ref this), (1, .int x1), (2, .int x2), (3, .int x3)]) dX6_goRound_85 rfl (by rw [ci_1]) (by decide) rfl ?_
    refine r_goto hg 50 dX6_goRound_88 (by decide) ?_
    refine r_sub hg [1, 2, 3, 4, 0] rfl ?_
    exact hk50 _ _ h
theorem pl_X6_goRound_50 {l : Launch} {Γ : qC} {g : qG} {z : qI} {this : Nat} {x1 : Int32} {x2 : Int32} {x3 : Int32} {d : Nat} {F_X6_goRound : Nat → Int32 → Int32 → Int32 → qI → Option (qI)} {X : qX} (hΓ : q_gm Γ) (hg : q_Ok l Γ RX6 cX6_goRound 5 (q_rm (3 + (d + 1)) 0 0) "goRound" none g) (hr : q_Rt cX6_goRound none (q_rm (3 + (d + 1)) 0 0) (none, z, X) g) (hX : q_Lay X) (k_this : q_kd X this = some (8, 9)) (ih_X6_goRound : ∀ {X : qX} (_ : q_Lay X) {this : Nat} {x1 : Int32} {x2 : Int32} {x3 : Int32} (k_this : q_kd X this = some (8, 9)) {I : qI} {z : qI}, F_X6_goRound this x1 x2 x3 I = some z → q_Sem l Γ (q_rm (3 + d) 0 0) yX6_goRound cX6_goRound 5 none [.ref this, .int x1, .int x2, .int x3] I X (none, z, X)) : ∀ (n : Nat) (x4 : Int32) (I : qI), q_fix (fun _ _ => none) (b_X6_goRound_50 this x1 x2 x3 F_X6_goRound) n x4 I = some z → g 0 0 50 [(0, .ref this), (1, .int x1), (2, .int x2), (3, .int x3), (4, .int x4)] [] I X := by
  intro n
  induction n with
  | zero =>
    intro x4 I h
    cases (show (none : Option (qI)) = some z from h)
  | succ n ih =>
    intro x4 I h
    exact p_X6_goRound_50 hΓ hg hr hX k_this ih_X6_goRound ih _ _ h
def B_X6_goRound (F_X6_goRound : Nat → Int32 → Int32 → Int32 → qI → Option (qI)) (this : Nat) (x1 : Int32) (x2 : Int32) (x3 : Int32) (I : qI) : Option (qI) :=
  q_b1 (q_rd I (this + 5) 8 x1) fun v2 =>
  q_b1 (f_J6_bitCount_0f7a4 (x3 ||| v2)) fun v4 =>
  if (I this 7) < v4 then
    if x1 < x2 then
      q_fix (fun _ _ => none) (b_X6_goRound_50 this x1 x2 x3 F_X6_goRound) q_fu (nI 0) I
    else
      q_b1 (f_J6_bitCount_0f7a4 x3) fun v8 =>
      q_b1 (some (q_up I this 7 v8)) fun I10 =>
      q_b1 (q_cp I10 (this + 6) 7 (nI 0) (this + 7) 7 (nI 0) x2) fun I14 =>
      some (I14)
  else
    some (I)
set_option maxRecDepth 100000 in
set_option maxHeartbeats 4000000 in
theorem t_X6_goRound {l : Launch} {Γ : qC} {d : Nat} {F_X6_goRound : Nat → Int32 → Int32 → Int32 → qI → Option (qI)} (hΓ : q_gm Γ) (ih_X6_goRound : ∀ {X : qX} (_ : q_Lay X) {this : Nat} {x1 : Int32} {x2 : Int32} {x3 : Int32} (k_this : q_kd X this = some (8, 9)) {I : qI} {z : qI}, F_X6_goRound this x1 x2 x3 I = some z → q_Sem l Γ (q_rm (3 + d) 0 0) yX6_goRound cX6_goRound 5 none [.ref this, .int x1, .int x2, .int x3] I X (none, z, X)) {X : qX} (hX : q_Lay X) {this : Nat} {x1 : Int32} {x2 : Int32} {x3 : Int32} (k_this : q_kd X this = some (8, 9)) {I : qI} {z : qI} (h : B_X6_goRound F_X6_goRound this x1 x2 x3 I = some z) : q_Sem l Γ (q_rm (3 + (d + 1)) 0 0) yX6_goRound cX6_goRound 5 none [.ref this, .int x1, .int x2, .int x3] I X (none, z, X) := by
  refine q_met (by decide) (Nat.le_of_ble_eq_true rfl) (fun g hg hr => ?_)
  unfold B_X6_goRound at h
  show g 0 0 0 [(0, .ref this), (1, .int x1), (2, .int x2), (3, .int x3)] [] I X
  refine r_iload_n hg 3 dX6_goRound_0 rfl rfl ?_
  refine r_aload_n hg 0 dX6_goRound_1 rfl rfl ?_
  have e1 := ly_6_4 hX k_this
  refine r_getR hg dX6_goRound_2 fl_X6_24 k_this rfl e1.1 ?_
  refine r_iload_n hg 1 dX6_goRound_5 rfl rfl ?_
  obtain ⟨v2, e3, h⟩ := q_b1_some h
  refine r_iald hg dX6_goRound_6 e1.2 e3 ?_
  refine r_ior hg dX6_goRound_7 ?_
  obtain ⟨v4, e5, h⟩ := q_b1_some h
  refine r_cS1i hg dX6_goRound_8 mt_J6_bitCount_0f7a4 ⟨ml_X6_51, mst_J6_bitCount_0f7a4⟩ (s_J6_bitCount_0f7a4 hΓ hX e5) (q_room (by omega) (Nat.le_of_ble_eq_true rfl)) ⟨Nat.zero_le _, Nat.zero_le _⟩ (Nat.le_of_ble_eq_true rfl) ?_
  refine r_aload_n hg 0 dX6_goRound_11 rfl rfl ?_
  refine r_getI hg dX6_goRound_12 fl_X6_44 k_this rfl ?_
  refine r_icmp_gt hg 19 dX6_goRound_15 (by decide) (fun c6 => ?_) (fun c6 => ?_)
  · rw [if_pos c6] at h
    refine r_iload_n hg 1 dX6_goRound_19 rfl rfl ?_
    refine r_iload_n hg 2 dX6_goRound_20 rfl rfl ?_
    refine r_icmp_lt hg 47 dX6_goRound_21 (by decide) (fun c7 => ?_) (fun c7 => ?_)
    · rw [if_pos c7] at h
      refine r_iconst hg dX6_goRound_47 ci_0 ?_
      refine r_istore hg (L' := [(4, .int (nI 0)), (0, .ref this), (1, .int x1), (2, .int x2), (3, .int x3)]) dX6_goRound_48 (by decide) rfl ?_
      refine r_sub hg [1, 2, 3, 4, 0] rfl ?_
      exact pl_X6_goRound_50 hΓ hg hr hX k_this ih_X6_goRound _ _ _ h
    · rw [if_neg c7] at h
      refine r_aload_n hg 0 dX6_goRound_24 rfl rfl ?_
      refine r_iload_n hg 3 dX6_goRound_25 rfl rfl ?_
      obtain ⟨v8, e9, h⟩ := q_b1_some h
      refine r_cS1i hg dX6_goRound_26 mt_J6_bitCount_0f7a4 ⟨ml_X6_51, mst_J6_bitCount_0f7a4⟩ (s_J6_bitCount_0f7a4 hΓ hX e9) (q_room (by omega) (Nat.le_of_ble_eq_true rfl)) ⟨Nat.zero_le _, Nat.zero_le _⟩ (Nat.le_of_ble_eq_true rfl) ?_
      obtain ⟨I10, e11, h⟩ := q_b1_some h
      obtain rfl := Option.some.inj e11
      refine r_putI hg dX6_goRound_29 fl_X6_44 k_this rfl ⟨rfl, rfl⟩ ?_
      refine r_aload_n hg 0 dX6_goRound_32 rfl rfl ?_
      have e12 := ly_6_5 hX k_this
      refine r_getR hg dX6_goRound_33 fl_X6_27 k_this rfl e12.1 ?_
      refine r_iconst hg dX6_goRound_36 ci_0 ?_
      refine r_aload_n hg 0 dX6_goRound_37 rfl rfl ?_
      have e13 := ly_6_6 hX k_this
      refine r_getR hg dX6_goRound_38 fl_X6_30 k_this rfl e13.1 ?_
      refine r_iconst hg dX6_goRound_41 ci_0 ?_
      refine r_iload_n hg 2 dX6_goRound_42 rfl rfl ?_
      obtain ⟨I14, e15, h⟩ := q_b1_some h
      obtain ⟨⟨e16, e17, e18⟩, e19, e20, rfl⟩ := q_cp_some e15
      refine r_copy hg dX6_goRound_43 cp_X6_38 e12.2 e13.2 e16 e17 e18 e19 e20 ⟨Nat.le_of_ble_eq_true rfl, Nat.le_of_ble_eq_true rfl⟩ ?_
      exact r_return hr dX6_goRound_46 ⟨Nat.zero_le _, Nat.zero_le _⟩ rfl (by cases h; rfl)
  · rw [if_neg c6] at h
    exact r_return hr dX6_goRound_18 ⟨Nat.zero_le _, Nat.zero_le _⟩ rfl (by cases h; rfl)

def G_X6_goRound : Nat → (Nat → Int32 → Int32 → Int32 → qI → Option (qI)) := q_fix (fun _ _ _ _ _ => none) (fun F => (B_X6_goRound F))
def f_X6_goRound (d : Nat) : Nat → Int32 → Int32 → Int32 → qI → Option (qI) := (G_X6_goRound d)
theorem sg_X6_goRound {l : Launch} {Γ : qC} (hΓ : q_gm Γ) : ∀ d : Nat, (∀ {X : qX} (_ : q_Lay X) {this : Nat} {x1 : Int32} {x2 : Int32} {x3 : Int32} (k_this : q_kd X this = some (8, 9)) {I : qI} {z : qI}, f_X6_goRound d this x1 x2 x3 I = some z → q_Sem l Γ (q_rm (3 + d) 0 0) yX6_goRound cX6_goRound 5 none [.ref this, .int x1, .int x2, .int x3] I X (none, z, X)) := by
  intro d
  induction d with
  | zero =>
    skip
    · intros; rename_i h; cases (show (none : Option (qI)) = some _ from h)
  | succ d ih =>
    have ih0 := @ih
    skip
    · intro X hX this x1 x2 x3 k_this I z h
      exact t_X6_goRound hΓ ih0 hX k_this h
theorem s_X6_goRound {l : Launch} {Γ : qC} (hΓ : q_gm Γ) {d : Nat} {X : qX} (hX : q_Lay X) {this : Nat} {x1 : Int32} {x2 : Int32} {x3 : Int32} (k_this : q_kd X this = some (8, 9)) {I : qI} {z : qI} (h : f_X6_goRound d this x1 x2 x3 I = some z) : q_Sem l Γ (q_rm (3 + d) 0 0) yX6_goRound cX6_goRound 5 none [.ref this, .int x1, .int x2, .int x3] I X (none, z, X) := (sg_X6_goRound hΓ d) hX k_this h

def f_X4_found (this : Nat) (x1 : Int32) (x2 : Int32) (x3 : Int32) (I : qI) : Option (Int32 × qI) :=
  q_b1 (some (q_up I this 7 (-1))) fun I1 =>
  q_b1 (some (q_up I1 this 8 x3)) fun I3 =>
  q_b2 (f_X4_putNext q_rd0 this (nI 0) (nI 0) (nI 0) x1 x2 I3) fun v5 I6 =>
  if v5 = 0 then
    some ((-1000000004), I6)
  else
    if 0 ≤ (I6 this 7) then
      some ((I6 this 7), I6)
    else
      some ((-1000000002), I6)
set_option maxRecDepth 100000 in
set_option maxHeartbeats 4000000 in
theorem s_X4_found {l : Launch} {Γ : qC} (hΓ : q_gm Γ) {X : qX} (hX : q_Lay X) {this : Nat} {x1 : Int32} {x2 : Int32} {x3 : Int32} (k_this : q_kd X this = some (6, 10)) {I : qI} {z : Int32 × qI} (h : f_X4_found this x1 x2 x3 I = some z) : q_Sem l Γ (q_rm 124 0 0) yX4_found cX4_found 4 (some .int) [.ref this, .int x1, .int x2, .int x3] I X (some (.int z.1), z.2, X) := by
  refine q_met (by decide) (Nat.le_of_ble_eq_true rfl) (fun g hg hr => ?_)
  unfold f_X4_found at h
  show g 0 0 0 [(0, .ref this), (1, .int x1), (2, .int x2), (3, .int x3)] [] I X
  refine r_aload_n hg 0 dX4_found_0 rfl rfl ?_
  refine r_iconst hg dX4_found_1 ci_m1 ?_
  obtain ⟨I1, e2, h⟩ := q_b1_some h
  obtain rfl := Option.some.inj e2
  refine r_putI hg dX4_found_2 fl_X4_44 k_this rfl ⟨rfl, rfl⟩ ?_
  refine r_aload_n hg 0 dX4_found_5 rfl rfl ?_
  refine r_iload_n hg 3 dX4_found_6 rfl rfl ?_
  obtain ⟨I3, e4, h⟩ := q_b1_some h
  obtain rfl := Option.some.inj e4
  refine r_putI hg dX4_found_7 fl_X4_47 k_this rfl ⟨rfl, rfl⟩ ?_
  refine r_aload_n hg 0 dX4_found_10 rfl rfl ?_
  refine r_iconst hg dX4_found_11 ci_0 ?_
  refine r_iconst hg dX4_found_12 ci_0 ?_
  refine r_iconst hg dX4_found_13 ci_0 ?_
  refine r_iload_n hg 1 dX4_found_14 rfl rfl ?_
  refine r_iload_n hg 2 dX4_found_15 rfl rfl ?_
  obtain ⟨v5, I6, e7, h⟩ := q_b2_some h
  refine r_cV5i hg dX4_found_16 mt_X4_putNext ml_X4_50 mv_X4_putNext k_this (s_X4_putNext hΓ hX k_this e7) (q_room (Nat.le_of_ble_eq_true rfl) (Nat.le_of_ble_eq_true rfl)) ⟨Nat.zero_le _, Nat.zero_le _⟩ (Nat.le_of_ble_eq_true rfl) ?_
  refine r_if_ne hg 25 dX4_found_19 (by decide) (fun c8 => ?_) (fun c8 => ?_)
  · rw [if_neg c8] at h
    refine r_aload_n hg 0 dX4_found_25 rfl rfl ?_
    refine r_getI hg dX4_found_26 fl_X4_44 k_this rfl ?_
    refine r_if_ge hg 37 dX4_found_29 (by decide) (fun c9 => ?_) (fun c9 => ?_)
    · rw [if_pos c9] at h
      refine r_aload_n hg 0 dX4_found_37 rfl rfl ?_
      refine r_getI hg dX4_found_38 fl_X4_44 k_this rfl ?_
      exact r_ireturn hr dX4_found_41 ⟨Nat.zero_le _, Nat.zero_le _⟩ ⟨_, rfl, rfl⟩ (by cases h; rfl)
    · rw [if_neg c9] at h
      refine r_ldc hg dX4_found_32 kc_X4_55 ?_
      refine r_goto hg 41 dX4_found_34 (by decide) ?_
      exact r_ireturn hr dX4_found_41 ⟨Nat.zero_le _, Nat.zero_le _⟩ ⟨_, rfl, rfl⟩ (by cases h; rfl)
  · rw [if_pos (Classical.not_not.mp c8)] at h
    refine r_ldc hg dX4_found_22 kc_X4_54 ?_
    exact r_ireturn hr dX4_found_24 ⟨Nat.zero_le _, Nat.zero_le _⟩ ⟨_, rfl, rfl⟩ (by cases h; rfl)

def b_X6_bestOf_115 (this : Nat) (x1 : Int32) (k95 : Int32 → qI → Option (Int32 × qI)) (k115 : Int32 → Int32 → qI → Option (Int32 × qI)) (x2 : Int32) (x3 : Int32) (I : qI) : Option (Int32 × qI) :=
  if (nI 4) ≤ x3 then
    k95 (x2 + (-1)) I
  else
    q_b1 (q_rd I (this + 5) 8 x2) fun v3 =>
    q_b1 (q_rd I (this + 4) 28 ((x2 * (nI 4)) + x3)) fun v6 =>
    q_b1 (q_wr I (this + 5) 8 x2 (v3 ||| v6)) fun I8 =>
    k115 x2 (x3 + (nI 1)) I8
set_option maxRecDepth 100000 in
set_option maxHeartbeats 4000000 in
theorem p_X6_bestOf_115 {l : Launch} {Γ : qC} {g : qG} {z : Int32 × qI} {this : Nat} {x1 : Int32} {X : qX} (hΓ : q_gm Γ) (hg : q_Ok l Γ RX6 cX6_bestOf 4 (q_rm 124 0 0) "bestOf" (some .int) g) (hr : q_Rt cX6_bestOf (some .int) (q_rm 124 0 0) (some (.int z.1), z.2, X) g) (hX : q_Lay X) (k_this : q_kd X this = some (8, 9)) {k95 : Int32 → qI → Option (Int32 × qI)} (hk95 : ∀ (x2 : Int32) (I : qI), k95 x2 I = some z → g 0 0 95 [(0, .ref this), (1, .int x1), (2, .int x2)] [] I X) {k115 : Int32 → Int32 → qI → Option (Int32 × qI)} (hk115 : ∀ (x2 : Int32) (x3 : Int32) (I : qI), k115 x2 x3 I = some z → g 0 0 115 [(0, .ref this), (1, .int x1), (2, .int x2), (3, .int x3)] [] I X) (x2 : Int32) (x3 : Int32) (I : qI) (h : b_X6_bestOf_115 this x1 k95 k115 x2 x3 I = some z) : g 0 0 115 [(0, .ref this), (1, .int x1), (2, .int x2), (3, .int x3)] [] I X := by
  unfold b_X6_bestOf_115 at h
  refine r_iload_n hg 3 dX6_bestOf_115 rfl rfl ?_
  refine r_iconst hg dX6_bestOf_116 ci_4 ?_
  refine r_icmp_ge hg 145 dX6_bestOf_117 (by decide) (fun c1 => ?_) (fun c1 => ?_)
  · rw [if_pos c1] at h
    refine r_iinc hg 2 (v := (x2 + (-1))) (L' := [(2, .int (x2 + (-1))), (0, .ref this), (1, .int x1), (3, .int x3)]) dX6_bestOf_145 rfl (by rw [ci_m1]) (by decide) rfl ?_
    refine r_goto hg 95 dX6_bestOf_148 (by decide) ?_
    refine r_sub hg [1, 2, 0] rfl ?_
    exact hk95 _ _ h
  · rw [if_neg c1] at h
    refine r_aload_n hg 0 dX6_bestOf_120 rfl rfl ?_
    have e2 := ly_6_4 hX k_this
    refine r_getR hg dX6_bestOf_121 fl_X6_24 k_this rfl e2.1 ?_
    refine r_iload_n hg 2 dX6_bestOf_124 rfl rfl ?_
    refine r_dup2 hg dX6_bestOf_125 rfl rfl ?_
    obtain ⟨v3, e4, h⟩ := q_b1_some h
    refine r_iald hg dX6_bestOf_126 e2.2 e4 ?_
    refine r_aload_n hg 0 dX6_bestOf_127 rfl rfl ?_
    have e5 := ly_6_3 hX k_this
    refine r_getR hg dX6_bestOf_128 fl_X6_21 k_this rfl e5.1 ?_
    refine r_iload_n hg 2 dX6_bestOf_131 rfl rfl ?_
    refine r_iconst hg dX6_bestOf_132 ci_4 ?_
    refine r_imul hg dX6_bestOf_133 ?_
    refine r_iload_n hg 3 dX6_bestOf_134 rfl rfl ?_
    refine r_iadd hg dX6_bestOf_135 ?_
    obtain ⟨v6, e7, h⟩ := q_b1_some h
    refine r_iald hg dX6_bestOf_136 e5.2 e7 ?_
    refine r_ior hg dX6_bestOf_137 ?_
    obtain ⟨I8, e9, h⟩ := q_b1_some h
    refine r_iast hg dX6_bestOf_138 e2.2 e9 ?_
    refine r_iinc hg 3 (v := (x3 + (nI 1))) (L' := [(3, .int (x3 + (nI 1))), (0, .ref this), (1, .int x1), (2, .int x2)]) dX6_bestOf_139 rfl (by rw [ci_1]) (by decide) rfl ?_
    refine r_goto hg 115 dX6_bestOf_142 (by decide) ?_
    refine r_sub hg [1, 2, 3, 0] rfl ?_
    exact hk115 _ _ _ h
theorem pl_X6_bestOf_115 {l : Launch} {Γ : qC} {g : qG} {z : Int32 × qI} {this : Nat} {x1 : Int32} {X : qX} (hΓ : q_gm Γ) (hg : q_Ok l Γ RX6 cX6_bestOf 4 (q_rm 124 0 0) "bestOf" (some .int) g) (hr : q_Rt cX6_bestOf (some .int) (q_rm 124 0 0) (some (.int z.1), z.2, X) g) (hX : q_Lay X) (k_this : q_kd X this = some (8, 9)) {k95 : Int32 → qI → Option (Int32 × qI)} (hk95 : ∀ (x2 : Int32) (I : qI), k95 x2 I = some z → g 0 0 95 [(0, .ref this), (1, .int x1), (2, .int x2)] [] I X) : ∀ (n : Nat) (x2 : Int32) (x3 : Int32) (I : qI), q_fix (fun _ _ _ => none) (b_X6_bestOf_115 this x1 k95) n x2 x3 I = some z → g 0 0 115 [(0, .ref this), (1, .int x1), (2, .int x2), (3, .int x3)] [] I X := by
  intro n
  induction n with
  | zero =>
    intro x2 x3 I h
    cases (show (none : Option (Int32 × qI)) = some z from h)
  | succ n ih =>
    intro x2 x3 I h
    exact p_X6_bestOf_115 hΓ hg hr hX k_this hk95 ih _ _ _ h
def b_X6_bestOf_95 (this : Nat) (x1 : Int32) (k95 : Int32 → qI → Option (Int32 × qI)) (x2 : Int32) (I : qI) : Option (Int32 × qI) :=
  if x2 < 0 then
    q_b1 (some (q_up I this 7 (-1))) fun I2 =>
    q_b1 (f_X6_goRound q_rd0 this (nI 0) x1 (nI 0) I2) fun I4 =>
    some ((I4 this 7), I4)
  else
    q_b1 (q_rd I (this + 5) 8 (x2 + (nI 1))) fun v8 =>
    q_b1 (q_wr I (this + 5) 8 x2 v8) fun I10 =>
    q_fix (fun _ _ _ => none) (b_X6_bestOf_115 this x1 k95) q_fu x2 (nI 0) I10
set_option maxRecDepth 100000 in
set_option maxHeartbeats 4000000 in
theorem p_X6_bestOf_95 {l : Launch} {Γ : qC} {g : qG} {z : Int32 × qI} {this : Nat} {x1 : Int32} {X : qX} (hΓ : q_gm Γ) (hg : q_Ok l Γ RX6 cX6_bestOf 4 (q_rm 124 0 0) "bestOf" (some .int) g) (hr : q_Rt cX6_bestOf (some .int) (q_rm 124 0 0) (some (.int z.1), z.2, X) g) (hX : q_Lay X) (k_this : q_kd X this = some (8, 9)) {k95 : Int32 → qI → Option (Int32 × qI)} (hk95 : ∀ (x2 : Int32) (I : qI), k95 x2 I = some z → g 0 0 95 [(0, .ref this), (1, .int x1), (2, .int x2)] [] I X) (x2 : Int32) (I : qI) (h : b_X6_bestOf_95 this x1 k95 x2 I = some z) : g 0 0 95 [(0, .ref this), (1, .int x1), (2, .int x2)] [] I X := by
  unfold b_X6_bestOf_95 at h
  refine r_iload_n hg 2 dX6_bestOf_95 rfl rfl ?_
  refine r_if_lt hg 151 dX6_bestOf_96 (by decide) (fun c1 => ?_) (fun c1 => ?_)
  · rw [if_pos c1] at h
    refine r_aload_n hg 0 dX6_bestOf_151 rfl rfl ?_
    refine r_iconst hg dX6_bestOf_152 ci_m1 ?_
    obtain ⟨I2, e3, h⟩ := q_b1_some h
    obtain rfl := Option.some.inj e3
    refine r_putI hg dX6_bestOf_153 fl_X6_44 k_this rfl ⟨rfl, rfl⟩ ?_
    refine r_aload_n hg 0 dX6_bestOf_156 rfl rfl ?_
    refine r_iconst hg dX6_bestOf_157 ci_0 ?_
    refine r_iload_n hg 1 dX6_bestOf_158 rfl rfl ?_
    refine r_iconst hg dX6_bestOf_159 ci_0 ?_
    obtain ⟨I4, e5, h⟩ := q_b1_some h
    refine r_cV3v hg dX6_bestOf_160 mt_X6_goRound ml_X6_47 mv_X6_goRound k_this (s_X6_goRound hΓ hX k_this e5) (q_room (Nat.le_of_ble_eq_true rfl) (Nat.le_of_ble_eq_true rfl)) ⟨Nat.zero_le _, Nat.zero_le _⟩ (Nat.le_of_ble_eq_true rfl) ?_
    refine r_aload_n hg 0 dX6_bestOf_163 rfl rfl ?_
    refine r_getI hg dX6_bestOf_164 fl_X6_44 k_this rfl ?_
    exact r_ireturn hr dX6_bestOf_167 ⟨Nat.zero_le _, Nat.zero_le _⟩ ⟨_, rfl, rfl⟩ (by cases h; rfl)
  · rw [if_neg c1] at h
    refine r_aload_n hg 0 dX6_bestOf_99 rfl rfl ?_
    have e6 := ly_6_4 hX k_this
    refine r_getR hg dX6_bestOf_100 fl_X6_24 k_this rfl e6.1 ?_
    refine r_iload_n hg 2 dX6_bestOf_103 rfl rfl ?_
    refine r_aload_n hg 0 dX6_bestOf_104 rfl rfl ?_
    have e7 := ly_6_4 hX k_this
    refine r_getR hg dX6_bestOf_105 fl_X6_24 k_this rfl e7.1 ?_
    refine r_iload_n hg 2 dX6_bestOf_108 rfl rfl ?_
    refine r_iconst hg dX6_bestOf_109 ci_1 ?_
    refine r_iadd hg dX6_bestOf_110 ?_
    obtain ⟨v8, e9, h⟩ := q_b1_some h
    refine r_iald hg dX6_bestOf_111 e7.2 e9 ?_
    obtain ⟨I10, e11, h⟩ := q_b1_some h
    refine r_iast hg dX6_bestOf_112 e6.2 e11 ?_
    refine r_iconst hg dX6_bestOf_113 ci_0 ?_
    refine r_istore_n hg (L' := [(3, .int (nI 0)), (0, .ref this), (1, .int x1), (2, .int x2)]) dX6_bestOf_114 rfl (by decide) rfl ?_
    refine r_sub hg [1, 2, 3, 0] rfl ?_
    exact pl_X6_bestOf_115 hΓ hg hr hX k_this hk95 _ _ _ _ h
theorem pl_X6_bestOf_95 {l : Launch} {Γ : qC} {g : qG} {z : Int32 × qI} {this : Nat} {x1 : Int32} {X : qX} (hΓ : q_gm Γ) (hg : q_Ok l Γ RX6 cX6_bestOf 4 (q_rm 124 0 0) "bestOf" (some .int) g) (hr : q_Rt cX6_bestOf (some .int) (q_rm 124 0 0) (some (.int z.1), z.2, X) g) (hX : q_Lay X) (k_this : q_kd X this = some (8, 9)) : ∀ (n : Nat) (x2 : Int32) (I : qI), q_fix (fun _ _ => none) (b_X6_bestOf_95 this x1) n x2 I = some z → g 0 0 95 [(0, .ref this), (1, .int x1), (2, .int x2)] [] I X := by
  intro n
  induction n with
  | zero =>
    intro x2 I h
    cases (show (none : Option (Int32 × qI)) = some z from h)
  | succ n ih =>
    intro x2 I h
    exact p_X6_bestOf_95 hΓ hg hr hX k_this ih _ _ h
def b_X6_bestOf_41 (this : Nat) (x1 : Int32) (k26 : Int32 → qI → Option (Int32 × qI)) (k41 : Int32 → Int32 → qI → Option (Int32 × qI)) (x2 : Int32) (x3 : Int32) (I : qI) : Option (Int32 × qI) :=
  q_b1 (q_rd I (this + 3) 16 x2) fun v2 =>
  if v2 < x3 then
    k26 (x2 + (nI 1)) I
  else
    q_b1 (q_rd I (this + 1) 16 x2) fun v7 =>
    q_b1 (q_rd I (this + 4) 28 ((x3 * (nI 4)) + v7)) fun v9 =>
    q_b1 (q_wr I (this + 4) 28 ((x3 * (nI 4)) + v7) (v9 ||| ((nI 1) <<< (x2 &&& 31)))) fun I11 =>
    k41 x2 (x3 + (nI 1)) I11
set_option maxRecDepth 100000 in
set_option maxHeartbeats 4000000 in
theorem p_X6_bestOf_41 {l : Launch} {Γ : qC} {g : qG} {z : Int32 × qI} {this : Nat} {x1 : Int32} {X : qX} (hΓ : q_gm Γ) (hg : q_Ok l Γ RX6 cX6_bestOf 4 (q_rm 124 0 0) "bestOf" (some .int) g) (hr : q_Rt cX6_bestOf (some .int) (q_rm 124 0 0) (some (.int z.1), z.2, X) g) (hX : q_Lay X) (k_this : q_kd X this = some (8, 9)) {k26 : Int32 → qI → Option (Int32 × qI)} (hk26 : ∀ (x2 : Int32) (I : qI), k26 x2 I = some z → g 0 0 26 [(0, .ref this), (1, .int x1), (2, .int x2)] [] I X) {k41 : Int32 → Int32 → qI → Option (Int32 × qI)} (hk41 : ∀ (x2 : Int32) (x3 : Int32) (I : qI), k41 x2 x3 I = some z → g 0 0 41 [(0, .ref this), (1, .int x1), (2, .int x2), (3, .int x3)] [] I X) (x2 : Int32) (x3 : Int32) (I : qI) (h : b_X6_bestOf_41 this x1 k26 k41 x2 x3 I = some z) : g 0 0 41 [(0, .ref this), (1, .int x1), (2, .int x2), (3, .int x3)] [] I X := by
  unfold b_X6_bestOf_41 at h
  refine r_iload_n hg 3 dX6_bestOf_41 rfl rfl ?_
  refine r_aload_n hg 0 dX6_bestOf_42 rfl rfl ?_
  have e1 := ly_6_2 hX k_this
  refine r_getR hg dX6_bestOf_43 fl_X6_18 k_this rfl e1.1 ?_
  refine r_iload_n hg 2 dX6_bestOf_46 rfl rfl ?_
  obtain ⟨v2, e3, h⟩ := q_b1_some h
  refine r_iald hg dX6_bestOf_47 e1.2 e3 ?_
  refine r_icmp_gt hg 78 dX6_bestOf_48 (by decide) (fun c4 => ?_) (fun c4 => ?_)
  · rw [if_pos c4] at h
    refine r_iinc hg 2 (v := (x2 + (nI 1))) (L' := [(2, .int (x2 + (nI 1))), (0, .ref this), (1, .int x1), (3, .int x3)]) dX6_bestOf_78 rfl (by rw [ci_1]) (by decide) rfl ?_
    refine r_goto hg 26 dX6_bestOf_81 (by decide) ?_
    refine r_sub hg [1, 2, 0] rfl ?_
    exact hk26 _ _ h
  · rw [if_neg c4] at h
    refine r_aload_n hg 0 dX6_bestOf_51 rfl rfl ?_
    have e5 := ly_6_3 hX k_this
    refine r_getR hg dX6_bestOf_52 fl_X6_21 k_this rfl e5.1 ?_
    refine r_iload_n hg 3 dX6_bestOf_55 rfl rfl ?_
    refine r_iconst hg dX6_bestOf_56 ci_4 ?_
    refine r_imul hg dX6_bestOf_57 ?_
    refine r_aload_n hg 0 dX6_bestOf_58 rfl rfl ?_
    have e6 := ly_6_0 hX k_this
    refine r_getR hg dX6_bestOf_59 fl_X6_11 k_this rfl e6.1 ?_
    refine r_iload_n hg 2 dX6_bestOf_62 rfl rfl ?_
    obtain ⟨v7, e8, h⟩ := q_b1_some h
    refine r_iald hg dX6_bestOf_63 e6.2 e8 ?_
    refine r_iadd hg dX6_bestOf_64 ?_
    refine r_dup2 hg dX6_bestOf_65 rfl rfl ?_
    obtain ⟨v9, e10, h⟩ := q_b1_some h
    refine r_iald hg dX6_bestOf_66 e5.2 e10 ?_
    refine r_iconst hg dX6_bestOf_67 ci_1 ?_
    refine r_iload_n hg 2 dX6_bestOf_68 rfl rfl ?_
    refine r_ishl hg dX6_bestOf_69 ?_
    refine r_ior hg dX6_bestOf_70 ?_
    obtain ⟨I11, e12, h⟩ := q_b1_some h
    refine r_iast hg dX6_bestOf_71 e5.2 e12 ?_
    refine r_iinc hg 3 (v := (x3 + (nI 1))) (L' := [(3, .int (x3 + (nI 1))), (0, .ref this), (1, .int x1), (2, .int x2)]) dX6_bestOf_72 rfl (by rw [ci_1]) (by decide) rfl ?_
    refine r_goto hg 41 dX6_bestOf_75 (by decide) ?_
    refine r_sub hg [1, 2, 3, 0] rfl ?_
    exact hk41 _ _ _ h
theorem pl_X6_bestOf_41 {l : Launch} {Γ : qC} {g : qG} {z : Int32 × qI} {this : Nat} {x1 : Int32} {X : qX} (hΓ : q_gm Γ) (hg : q_Ok l Γ RX6 cX6_bestOf 4 (q_rm 124 0 0) "bestOf" (some .int) g) (hr : q_Rt cX6_bestOf (some .int) (q_rm 124 0 0) (some (.int z.1), z.2, X) g) (hX : q_Lay X) (k_this : q_kd X this = some (8, 9)) {k26 : Int32 → qI → Option (Int32 × qI)} (hk26 : ∀ (x2 : Int32) (I : qI), k26 x2 I = some z → g 0 0 26 [(0, .ref this), (1, .int x1), (2, .int x2)] [] I X) : ∀ (n : Nat) (x2 : Int32) (x3 : Int32) (I : qI), q_fix (fun _ _ _ => none) (b_X6_bestOf_41 this x1 k26) n x2 x3 I = some z → g 0 0 41 [(0, .ref this), (1, .int x1), (2, .int x2), (3, .int x3)] [] I X := by
  intro n
  induction n with
  | zero =>
    intro x2 x3 I h
    cases (show (none : Option (Int32 × qI)) = some z from h)
  | succ n ih =>
    intro x2 x3 I h
    exact p_X6_bestOf_41 hΓ hg hr hX k_this hk26 ih _ _ _ h
def b_X6_bestOf_26 (this : Nat) (x1 : Int32) (k26 : Int32 → qI → Option (Int32 × qI)) (x2 : Int32) (I : qI) : Option (Int32 × qI) :=
  if (I this 8) ≤ x2 then
    q_b1 (q_wr I (this + 5) 8 x1 (nI 0)) fun I3 =>
    q_fix (fun _ _ => none) (b_X6_bestOf_95 this x1) q_fu (x1 - (nI 1)) I3
  else
    q_b1 (q_rd I (this + 2) 16 x2) fun v6 =>
    q_fix (fun _ _ _ => none) (b_X6_bestOf_41 this x1 k26) q_fu x2 v6 I
set_option maxRecDepth 100000 in
set_option maxHeartbeats 4000000 in
theorem p_X6_bestOf_26 {l : Launch} {Γ : qC} {g : qG} {z : Int32 × qI} {this : Nat} {x1 : Int32} {X : qX} (hΓ : q_gm Γ) (hg : q_Ok l Γ RX6 cX6_bestOf 4 (q_rm 124 0 0) "bestOf" (some .int) g) (hr : q_Rt cX6_bestOf (some .int) (q_rm 124 0 0) (some (.int z.1), z.2, X) g) (hX : q_Lay X) (k_this : q_kd X this = some (8, 9)) {k26 : Int32 → qI → Option (Int32 × qI)} (hk26 : ∀ (x2 : Int32) (I : qI), k26 x2 I = some z → g 0 0 26 [(0, .ref this), (1, .int x1), (2, .int x2)] [] I X) (x2 : Int32) (I : qI) (h : b_X6_bestOf_26 this x1 k26 x2 I = some z) : g 0 0 26 [(0, .ref this), (1, .int x1), (2, .int x2)] [] I X := by
  unfold b_X6_bestOf_26 at h
  refine r_iload_n hg 2 dX6_bestOf_26 rfl rfl ?_
  refine r_aload_n hg 0 dX6_bestOf_27 rfl rfl ?_
  refine r_getI hg dX6_bestOf_28 fl_X6_33 k_this rfl ?_
  refine r_icmp_ge hg 84 dX6_bestOf_31 (by decide) (fun c1 => ?_) (fun c1 => ?_)
  · rw [if_pos c1] at h
    refine r_aload_n hg 0 dX6_bestOf_84 rfl rfl ?_
    have e2 := ly_6_4 hX k_this
    refine r_getR hg dX6_bestOf_85 fl_X6_24 k_this rfl e2.1 ?_
    refine r_iload_n hg 1 dX6_bestOf_88 rfl rfl ?_
    refine r_iconst hg dX6_bestOf_89 ci_0 ?_
    obtain ⟨I3, e4, h⟩ := q_b1_some h
    refine r_iast hg dX6_bestOf_90 e2.2 e4 ?_
    refine r_iload_n hg 1 dX6_bestOf_91 rfl rfl ?_
    refine r_iconst hg dX6_bestOf_92 ci_1 ?_
    refine r_isub hg dX6_bestOf_93 ?_
    refine r_istore_n hg (L' := [(2, .int (x1 - (nI 1))), (0, .ref this), (1, .int x1)]) dX6_bestOf_94 rfl (by decide) rfl ?_
    refine r_sub hg [1, 2, 0] rfl ?_
    exact pl_X6_bestOf_95 hΓ hg hr hX k_this _ _ _ h
  · rw [if_neg c1] at h
    refine r_aload_n hg 0 dX6_bestOf_34 rfl rfl ?_
    have e5 := ly_6_1 hX k_this
    refine r_getR hg dX6_bestOf_35 fl_X6_15 k_this rfl e5.1 ?_
    refine r_iload_n hg 2 dX6_bestOf_38 rfl rfl ?_
    obtain ⟨v6, e7, h⟩ := q_b1_some h
    refine r_iald hg dX6_bestOf_39 e5.2 e7 ?_
    refine r_istore_n hg (L' := [(3, .int v6), (0, .ref this), (1, .int x1), (2, .int x2)]) dX6_bestOf_40 rfl (by decide) rfl ?_
    refine r_sub hg [1, 2, 3, 0] rfl ?_
    exact pl_X6_bestOf_41 hΓ hg hr hX k_this hk26 _ _ _ _ h
theorem pl_X6_bestOf_26 {l : Launch} {Γ : qC} {g : qG} {z : Int32 × qI} {this : Nat} {x1 : Int32} {X : qX} (hΓ : q_gm Γ) (hg : q_Ok l Γ RX6 cX6_bestOf 4 (q_rm 124 0 0) "bestOf" (some .int) g) (hr : q_Rt cX6_bestOf (some .int) (q_rm 124 0 0) (some (.int z.1), z.2, X) g) (hX : q_Lay X) (k_this : q_kd X this = some (8, 9)) : ∀ (n : Nat) (x2 : Int32) (I : qI), q_fix (fun _ _ => none) (b_X6_bestOf_26 this x1) n x2 I = some z → g 0 0 26 [(0, .ref this), (1, .int x1), (2, .int x2)] [] I X := by
  intro n
  induction n with
  | zero =>
    intro x2 I h
    cases (show (none : Option (Int32 × qI)) = some z from h)
  | succ n ih =>
    intro x2 I h
    exact p_X6_bestOf_26 hΓ hg hr hX k_this ih _ _ h
def b_X6_bestOf_2 (this : Nat) (x1 : Int32) (k2 : Int32 → qI → Option (Int32 × qI)) (x2 : Int32) (I : qI) : Option (Int32 × qI) :=
  if (nI 28) ≤ x2 then
    q_fix (fun _ _ => none) (b_X6_bestOf_26 this x1) q_fu (nI 0) I
  else
    q_b1 (q_wr I (this + 4) 28 x2 (nI 0)) fun I4 =>
    k2 (x2 + (nI 1)) I4
set_option maxRecDepth 100000 in
set_option maxHeartbeats 4000000 in
theorem p_X6_bestOf_2 {l : Launch} {Γ : qC} {g : qG} {z : Int32 × qI} {this : Nat} {x1 : Int32} {X : qX} (hΓ : q_gm Γ) (hg : q_Ok l Γ RX6 cX6_bestOf 4 (q_rm 124 0 0) "bestOf" (some .int) g) (hr : q_Rt cX6_bestOf (some .int) (q_rm 124 0 0) (some (.int z.1), z.2, X) g) (hX : q_Lay X) (k_this : q_kd X this = some (8, 9)) {k2 : Int32 → qI → Option (Int32 × qI)} (hk2 : ∀ (x2 : Int32) (I : qI), k2 x2 I = some z → g 0 0 2 [(0, .ref this), (1, .int x1), (2, .int x2)] [] I X) (x2 : Int32) (I : qI) (h : b_X6_bestOf_2 this x1 k2 x2 I = some z) : g 0 0 2 [(0, .ref this), (1, .int x1), (2, .int x2)] [] I X := by
  unfold b_X6_bestOf_2 at h
  refine r_iload_n hg 2 dX6_bestOf_2 rfl rfl ?_
  refine r_aload_n hg 0 dX6_bestOf_3 rfl rfl ?_
  have e1 := ly_6_3 hX k_this
  refine r_getR hg dX6_bestOf_4 fl_X6_21 k_this rfl e1.1 ?_
  refine r_alen hg dX6_bestOf_7 e1.2 ?_
  refine r_icmp_ge hg 24 dX6_bestOf_8 (by decide) (fun c2 => ?_) (fun c2 => ?_)
  · rw [if_pos c2] at h
    refine r_iconst hg dX6_bestOf_24 ci_0 ?_
    refine r_istore_n hg (L' := [(2, .int (nI 0)), (0, .ref this), (1, .int x1)]) dX6_bestOf_25 rfl (by decide) rfl ?_
    refine r_sub hg [1, 2, 0] rfl ?_
    exact pl_X6_bestOf_26 hΓ hg hr hX k_this _ _ _ h
  · rw [if_neg c2] at h
    refine r_aload_n hg 0 dX6_bestOf_11 rfl rfl ?_
    have e3 := ly_6_3 hX k_this
    refine r_getR hg dX6_bestOf_12 fl_X6_21 k_this rfl e3.1 ?_
    refine r_iload_n hg 2 dX6_bestOf_15 rfl rfl ?_
    refine r_iconst hg dX6_bestOf_16 ci_0 ?_
    obtain ⟨I4, e5, h⟩ := q_b1_some h
    refine r_iast hg dX6_bestOf_17 e3.2 e5 ?_
    refine r_iinc hg 2 (v := (x2 + (nI 1))) (L' := [(2, .int (x2 + (nI 1))), (0, .ref this), (1, .int x1)]) dX6_bestOf_18 rfl (by rw [ci_1]) (by decide) rfl ?_
    refine r_goto hg 2 dX6_bestOf_21 (by decide) ?_
    refine r_sub hg [1, 2, 0] rfl ?_
    exact hk2 _ _ h
theorem pl_X6_bestOf_2 {l : Launch} {Γ : qC} {g : qG} {z : Int32 × qI} {this : Nat} {x1 : Int32} {X : qX} (hΓ : q_gm Γ) (hg : q_Ok l Γ RX6 cX6_bestOf 4 (q_rm 124 0 0) "bestOf" (some .int) g) (hr : q_Rt cX6_bestOf (some .int) (q_rm 124 0 0) (some (.int z.1), z.2, X) g) (hX : q_Lay X) (k_this : q_kd X this = some (8, 9)) : ∀ (n : Nat) (x2 : Int32) (I : qI), q_fix (fun _ _ => none) (b_X6_bestOf_2 this x1) n x2 I = some z → g 0 0 2 [(0, .ref this), (1, .int x1), (2, .int x2)] [] I X := by
  intro n
  induction n with
  | zero =>
    intro x2 I h
    cases (show (none : Option (Int32 × qI)) = some z from h)
  | succ n ih =>
    intro x2 I h
    exact p_X6_bestOf_2 hΓ hg hr hX k_this ih _ _ h
def f_X6_bestOf (this : Nat) (x1 : Int32) (I : qI) : Option (Int32 × qI) :=
  q_fix (fun _ _ => none) (b_X6_bestOf_2 this x1) q_fu (nI 0) I
set_option maxRecDepth 100000 in
set_option maxHeartbeats 4000000 in
theorem s_X6_bestOf {l : Launch} {Γ : qC} (hΓ : q_gm Γ) {X : qX} (hX : q_Lay X) {this : Nat} {x1 : Int32} (k_this : q_kd X this = some (8, 9)) {I : qI} {z : Int32 × qI} (h : f_X6_bestOf this x1 I = some z) : q_Sem l Γ (q_rm 124 0 0) yX6_bestOf cX6_bestOf 4 (some .int) [.ref this, .int x1] I X (some (.int z.1), z.2, X) := by
  refine q_met (by decide) (Nat.le_of_ble_eq_true rfl) (fun g hg hr => ?_)
  unfold f_X6_bestOf at h
  show g 0 0 0 [(0, .ref this), (1, .int x1)] [] I X
  refine r_iconst hg dX6_bestOf_0 ci_0 ?_
  refine r_istore_n hg (L' := [(2, .int (nI 0)), (0, .ref this), (1, .int x1)]) dX6_bestOf_1 rfl (by decide) rfl ?_
  refine r_sub hg [1, 2, 0] rfl ?_
  exact pl_X6_bestOf_2 hΓ hg hr hX k_this _ _ _ h
