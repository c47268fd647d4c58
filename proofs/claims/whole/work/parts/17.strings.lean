theorem dJ0_coder_7d493_0 : q_at cJ0_coder_7d493 0 (.getstatic 38) 3 3 := ⟨by decide +kernel, rfl⟩
theorem dJ0_coder_7d493_3 : q_at cJ0_coder_7d493 3 (.ifCond .eq 10) 3 6 := ⟨by decide +kernel, rfl⟩
theorem dJ0_coder_7d493_6 : q_at cJ0_coder_7d493 6 (.aload_n 0) 1 7 := ⟨by decide +kernel, rfl⟩
theorem dJ0_coder_7d493_7 : q_at cJ0_coder_7d493 7 (.getfield 15) 3 10 := ⟨by decide +kernel, rfl⟩
theorem dJ0_coder_7d493_10 : q_at cJ0_coder_7d493 10 (.goto 4) 3 13 := ⟨by decide +kernel, rfl⟩
theorem dJ0_coder_7d493_13 : q_at cJ0_coder_7d493 13 (.iconst 1) 1 14 := ⟨by decide +kernel, rfl⟩
theorem dJ0_coder_7d493_14 : q_at cJ0_coder_7d493 14 (.ireturn) 1 15 := ⟨by decide +kernel, rfl⟩
theorem dJ0_isLatin1_aae02_0 : q_at cJ0_isLatin1_aae02 0 (.getstatic 38) 3 3 := ⟨by decide +kernel, rfl⟩
theorem dJ0_isLatin1_aae02_3 : q_at cJ0_isLatin1_aae02 3 (.ifCond .eq 14) 3 6 := ⟨by decide +kernel, rfl⟩
theorem dJ0_isLatin1_aae02_6 : q_at cJ0_isLatin1_aae02 6 (.aload_n 0) 1 7 := ⟨by decide +kernel, rfl⟩
theorem dJ0_isLatin1_aae02_7 : q_at cJ0_isLatin1_aae02 7 (.getfield 15) 3 10 := ⟨by decide +kernel, rfl⟩
theorem dJ0_isLatin1_aae02_10 : q_at cJ0_isLatin1_aae02 10 (.ifCond .ne 7) 3 13 := ⟨by decide +kernel, rfl⟩
theorem dJ0_isLatin1_aae02_13 : q_at cJ0_isLatin1_aae02 13 (.iconst 1) 1 14 := ⟨by decide +kernel, rfl⟩
theorem dJ0_isLatin1_aae02_14 : q_at cJ0_isLatin1_aae02 14 (.goto 4) 3 17 := ⟨by decide +kernel, rfl⟩
theorem dJ0_isLatin1_aae02_17 : q_at cJ0_isLatin1_aae02 17 (.iconst 0) 1 18 := ⟨by decide +kernel, rfl⟩
theorem dJ0_isLatin1_aae02_18 : q_at cJ0_isLatin1_aae02 18 (.ireturn) 1 19 := ⟨by decide +kernel, rfl⟩
theorem dJ1_canEncode_9a6ad_0 : q_at cJ1_canEncode_9a6ad 0 (.iload_n 0) 1 1 := ⟨by decide +kernel, rfl⟩
theorem dJ1_canEncode_9a6ad_1 : q_at cJ1_canEncode_9a6ad 1 (.ifCond .lt 14) 3 4 := ⟨by decide +kernel, rfl⟩
theorem dJ1_canEncode_9a6ad_4 : q_at cJ1_canEncode_9a6ad 4 (.iload_n 0) 1 5 := ⟨by decide +kernel, rfl⟩
theorem dJ1_canEncode_9a6ad_5 : q_at cJ1_canEncode_9a6ad 5 (.sipush 255) 3 8 := ⟨by decide +kernel, rfl⟩
theorem dJ1_canEncode_9a6ad_8 : q_at cJ1_canEncode_9a6ad 8 (.if_icmp .gt 7) 3 11 := ⟨by decide +kernel, rfl⟩
theorem dJ1_canEncode_9a6ad_11 : q_at cJ1_canEncode_9a6ad 11 (.iconst 1) 1 12 := ⟨by decide +kernel, rfl⟩
theorem dJ1_canEncode_9a6ad_12 : q_at cJ1_canEncode_9a6ad 12 (.goto 4) 3 15 := ⟨by decide +kernel, rfl⟩
theorem dJ1_canEncode_9a6ad_15 : q_at cJ1_canEncode_9a6ad 15 (.iconst 0) 1 16 := ⟨by decide +kernel, rfl⟩
theorem dJ1_canEncode_9a6ad_16 : q_at cJ1_canEncode_9a6ad 16 (.ireturn) 1 17 := ⟨by decide +kernel, rfl⟩
theorem dJ1_indexOfChar_4cfef_0 : q_at cJ1_indexOfChar_4cfef 0 (.iload_n 1) 1 1 := ⟨by decide +kernel, rfl⟩
theorem dJ1_indexOfChar_4cfef_1 : q_at cJ1_indexOfChar_4cfef 1 (.i2b) 1 2 := ⟨by decide +kernel, rfl⟩
theorem dJ1_indexOfChar_4cfef_2 : q_at cJ1_indexOfChar_4cfef 2 (.istore 4) 2 4 := ⟨by decide +kernel, rfl⟩
theorem dJ1_indexOfChar_4cfef_4 : q_at cJ1_indexOfChar_4cfef 4 (.iload_n 2) 1 5 := ⟨by decide +kernel, rfl⟩
theorem dJ1_indexOfChar_4cfef_5 : q_at cJ1_indexOfChar_4cfef 5 (.istore 5) 2 7 := ⟨by decide +kernel, rfl⟩
theorem dJ1_indexOfChar_4cfef_7 : q_at cJ1_indexOfChar_4cfef 7 (.iload 5) 2 9 := ⟨by decide +kernel, rfl⟩
theorem dJ1_indexOfChar_4cfef_9 : q_at cJ1_indexOfChar_4cfef 9 (.iload_n 3) 1 10 := ⟨by decide +kernel, rfl⟩
theorem dJ1_indexOfChar_4cfef_10 : q_at cJ1_indexOfChar_4cfef 10 (.if_icmp .ge 21) 3 13 := ⟨by decide +kernel, rfl⟩
theorem dJ1_indexOfChar_4cfef_13 : q_at cJ1_indexOfChar_4cfef 13 (.aload_n 0) 1 14 := ⟨by decide +kernel, rfl⟩
theorem dJ1_indexOfChar_4cfef_14 : q_at cJ1_indexOfChar_4cfef 14 (.iload 5) 2 16 := ⟨by decide +kernel, rfl⟩
theorem dJ1_indexOfChar_4cfef_16 : q_at cJ1_indexOfChar_4cfef 16 (.baload) 1 17 := ⟨by decide +kernel, rfl⟩
theorem dJ1_indexOfChar_4cfef_17 : q_at cJ1_indexOfChar_4cfef 17 (.iload 4) 2 19 := ⟨by decide +kernel, rfl⟩
theorem dJ1_indexOfChar_4cfef_19 : q_at cJ1_indexOfChar_4cfef 19 (.if_icmp .ne 6) 3 22 := ⟨by decide +kernel, rfl⟩
theorem dJ1_indexOfChar_4cfef_22 : q_at cJ1_indexOfChar_4cfef 22 (.iload 5) 2 24 := ⟨by decide +kernel, rfl⟩
theorem dJ1_indexOfChar_4cfef_24 : q_at cJ1_indexOfChar_4cfef 24 (.ireturn) 1 25 := ⟨by decide +kernel, rfl⟩
theorem dJ1_indexOfChar_4cfef_25 : q_at cJ1_indexOfChar_4cfef 25 (.iinc 5 1) 3 28 := ⟨by decide +kernel, rfl⟩
theorem dJ1_indexOfChar_4cfef_28 : q_at cJ1_indexOfChar_4cfef 28 (.goto (-21)) 3 31 := ⟨by decide +kernel, rfl⟩
theorem dJ1_indexOfChar_4cfef_31 : q_at cJ1_indexOfChar_4cfef 31 (.iconst (-1)) 1 32 := ⟨by decide +kernel, rfl⟩
theorem dJ1_indexOfChar_4cfef_32 : q_at cJ1_indexOfChar_4cfef 32 (.ireturn) 1 33 := ⟨by decide +kernel, rfl⟩
theorem dJ3_checkIndex_8e157_0 : q_at cJ3_checkIndex_8e157 0 (.iload_n 0) 1 1 := ⟨by decide +kernel, rfl⟩
theorem dJ3_checkIndex_8e157_1 : q_at cJ3_checkIndex_8e157 1 (.ifCond .lt 8) 3 4 := ⟨by decide +kernel, rfl⟩
theorem dJ3_checkIndex_8e157_4 : q_at cJ3_checkIndex_8e157 4 (.iload_n 0) 1 5 := ⟨by decide +kernel, rfl⟩
theorem dJ3_checkIndex_8e157_5 : q_at cJ3_checkIndex_8e157 5 (.iload_n 1) 1 6 := ⟨by decide +kernel, rfl⟩
theorem dJ3_checkIndex_8e157_6 : q_at cJ3_checkIndex_8e157 6 (.if_icmp .lt 10) 3 9 := ⟨by decide +kernel, rfl⟩
theorem dJ3_checkIndex_8e157_9 : q_at cJ3_checkIndex_8e157 9 (.aload_n 2) 1 10 := ⟨by decide +kernel, rfl⟩
theorem dJ3_checkIndex_8e157_10 : q_at cJ3_checkIndex_8e157 10 (.iload_n 0) 1 11 := ⟨by decide +kernel, rfl⟩
theorem dJ3_checkIndex_8e157_11 : q_at cJ3_checkIndex_8e157 11 (.iload_n 1) 1 12 := ⟨by decide +kernel, rfl⟩
theorem dJ3_checkIndex_8e157_12 : q_at cJ3_checkIndex_8e157 12 (.invokestatic 95) 3 15 := ⟨by decide +kernel, rfl⟩
theorem dJ3_checkIndex_8e157_16 : q_at cJ3_checkIndex_8e157 16 (.iload_n 0) 1 17 := ⟨by decide +kernel, rfl⟩
theorem dJ3_checkIndex_8e157_17 : q_at cJ3_checkIndex_8e157 17 (.ireturn) 1 18 := ⟨by decide +kernel, rfl⟩
theorem dX5_names_0 : q_at cX5_names 0 (.iload_n 0) 1 1 := ⟨by decide +kernel, rfl⟩
theorem dX5_names_1 : q_at cX5_names 1 (.tableswitch 57 0 5 #[39, 42, 45, 48, 51, 54]) 39 40 := ⟨by decide +kernel, rfl⟩
theorem dX5_names_40 : q_at cX5_names 40 (.ldc 94) 2 42 := ⟨by decide +kernel, rfl⟩
theorem dX5_names_42 : q_at cX5_names 42 (.areturn) 1 43 := ⟨by decide +kernel, rfl⟩
theorem dX5_names_43 : q_at cX5_names 43 (.ldc 96) 2 45 := ⟨by decide +kernel, rfl⟩
theorem dX5_names_45 : q_at cX5_names 45 (.areturn) 1 46 := ⟨by decide +kernel, rfl⟩
theorem dX5_names_46 : q_at cX5_names 46 (.ldc 98) 2 48 := ⟨by decide +kernel, rfl⟩
theorem dX5_names_48 : q_at cX5_names 48 (.areturn) 1 49 := ⟨by decide +kernel, rfl⟩
theorem dX5_names_49 : q_at cX5_names 49 (.ldc 100) 2 51 := ⟨by decide +kernel, rfl⟩
theorem dX5_names_51 : q_at cX5_names 51 (.areturn) 1 52 := ⟨by decide +kernel, rfl⟩
theorem dX5_names_52 : q_at cX5_names 52 (.ldc 102) 2 54 := ⟨by decide +kernel, rfl⟩
theorem dX5_names_54 : q_at cX5_names 54 (.areturn) 1 55 := ⟨by decide +kernel, rfl⟩
theorem dX5_names_55 : q_at cX5_names 55 (.ldc 104) 2 57 := ⟨by decide +kernel, rfl⟩
theorem dX5_names_57 : q_at cX5_names 57 (.areturn) 1 58 := ⟨by decide +kernel, rfl⟩
theorem dX5_names_58 : q_at cX5_names 58 (.ldc 106) 2 60 := ⟨by decide +kernel, rfl⟩
theorem dX5_names_60 : q_at cX5_names 60 (.areturn) 1 61 := ⟨by decide +kernel, rfl⟩
theorem dX5_word_0 : q_at cX5_word 0 (.iload_n 0) 1 1 := ⟨by decide +kernel, rfl⟩
theorem dX5_word_1 : q_at cX5_word 1 (.tableswitch 57 0 5 #[39, 42, 45, 48, 51, 54]) 39 40 := ⟨by decide +kernel, rfl⟩
theorem dX5_word_40 : q_at cX5_word 40 (.ldc 80) 2 42 := ⟨by decide +kernel, rfl⟩
theorem dX5_word_42 : q_at cX5_word 42 (.areturn) 1 43 := ⟨by decide +kernel, rfl⟩
theorem dX5_word_43 : q_at cX5_word 43 (.ldc 82) 2 45 := ⟨by decide +kernel, rfl⟩
theorem dX5_word_45 : q_at cX5_word 45 (.areturn) 1 46 := ⟨by decide +kernel, rfl⟩
theorem dX5_word_46 : q_at cX5_word 46 (.ldc 84) 2 48 := ⟨by decide +kernel, rfl⟩
theorem dX5_word_48 : q_at cX5_word 48 (.areturn) 1 49 := ⟨by decide +kernel, rfl⟩
theorem dX5_word_49 : q_at cX5_word 49 (.ldc 86) 2 51 := ⟨by decide +kernel, rfl⟩
theorem dX5_word_51 : q_at cX5_word 51 (.areturn) 1 52 := ⟨by decide +kernel, rfl⟩
theorem dX5_word_52 : q_at cX5_word 52 (.ldc 88) 2 54 := ⟨by decide +kernel, rfl⟩
theorem dX5_word_54 : q_at cX5_word 54 (.areturn) 1 55 := ⟨by decide +kernel, rfl⟩
theorem dX5_word_55 : q_at cX5_word 55 (.ldc 90) 2 57 := ⟨by decide +kernel, rfl⟩
theorem dX5_word_57 : q_at cX5_word 57 (.areturn) 1 58 := ⟨by decide +kernel, rfl⟩
theorem dX5_word_58 : q_at cX5_word 58 (.ldc 92) 2 60 := ⟨by decide +kernel, rfl⟩
theorem dX5_word_60 : q_at cX5_word 60 (.areturn) 1 61 := ⟨by decide +kernel, rfl⟩
theorem dJ0_checkIndex_df160_0 : q_at cJ0_checkIndex_df160 0 (.iload_n 0) 1 1 := ⟨by decide +kernel, rfl⟩
theorem dJ0_checkIndex_df160_1 : q_at cJ0_checkIndex_df160 1 (.iload_n 1) 1 2 := ⟨by decide +kernel, rfl⟩
theorem dJ0_checkIndex_df160_2 : q_at cJ0_checkIndex_df160 2 (.getstatic 1053) 3 5 := ⟨by decide +kernel, rfl⟩
theorem dJ0_checkIndex_df160_5 : q_at cJ0_checkIndex_df160 5 (.invokestatic 1059) 3 8 := ⟨by decide +kernel, rfl⟩
theorem dJ0_checkIndex_df160_8 : q_at cJ0_checkIndex_df160 8 (.pop) 1 9 := ⟨by decide +kernel, rfl⟩
theorem dJ0_checkIndex_df160_9 : q_at cJ0_checkIndex_df160 9 (.return_) 1 10 := ⟨by decide +kernel, rfl⟩
theorem dJ0_length_8abf5_0 : q_at cJ0_length_8abf5 0 (.aload_n 0) 1 1 := ⟨by decide +kernel, rfl⟩
theorem dJ0_length_8abf5_1 : q_at cJ0_length_8abf5 1 (.getfield 9) 3 4 := ⟨by decide +kernel, rfl⟩
theorem dJ0_length_8abf5_4 : q_at cJ0_length_8abf5 4 (.arraylength) 1 5 := ⟨by decide +kernel, rfl⟩
theorem dJ0_length_8abf5_5 : q_at cJ0_length_8abf5 5 (.aload_n 0) 1 6 := ⟨by decide +kernel, rfl⟩
theorem dJ0_length_8abf5_6 : q_at cJ0_length_8abf5 6 (.invokevirtual 335) 3 9 := ⟨by decide +kernel, rfl⟩
theorem dJ0_length_8abf5_9 : q_at cJ0_length_8abf5 9 (.ishr) 1 10 := ⟨by decide +kernel, rfl⟩
theorem dJ0_length_8abf5_10 : q_at cJ0_length_8abf5 10 (.ireturn) 1 11 := ⟨by decide +kernel, rfl⟩
theorem dJ1_indexOf_4cfef_0 : q_at cJ1_indexOf_4cfef 0 (.iload_n 1) 1 1 := ⟨by decide +kernel, rfl⟩
theorem dJ1_indexOf_4cfef_1 : q_at cJ1_indexOf_4cfef 1 (.invokestatic 88) 3 4 := ⟨by decide +kernel, rfl⟩
theorem dJ1_indexOf_4cfef_4 : q_at cJ1_indexOf_4cfef 4 (.ifCond .ne 5) 3 7 := ⟨by decide +kernel, rfl⟩
theorem dJ1_indexOf_4cfef_7 : q_at cJ1_indexOf_4cfef 7 (.iconst (-1)) 1 8 := ⟨by decide +kernel, rfl⟩
theorem dJ1_indexOf_4cfef_8 : q_at cJ1_indexOf_4cfef 8 (.ireturn) 1 9 := ⟨by decide +kernel, rfl⟩
theorem dJ1_indexOf_4cfef_9 : q_at cJ1_indexOf_4cfef 9 (.iload_n 2) 1 10 := ⟨by decide +kernel, rfl⟩
theorem dJ1_indexOf_4cfef_10 : q_at cJ1_indexOf_4cfef 10 (.iconst 0) 1 11 := ⟨by decide +kernel, rfl⟩
theorem dJ1_indexOf_4cfef_11 : q_at cJ1_indexOf_4cfef 11 (.invokestatic 92) 3 14 := ⟨by decide +kernel, rfl⟩
theorem dJ1_indexOf_4cfef_14 : q_at cJ1_indexOf_4cfef 14 (.istore_n 2) 1 15 := ⟨by decide +kernel, rfl⟩
theorem dJ1_indexOf_4cfef_15 : q_at cJ1_indexOf_4cfef 15 (.iload_n 3) 1 16 := ⟨by decide +kernel, rfl⟩
theorem dJ1_indexOf_4cfef_16 : q_at cJ1_indexOf_4cfef 16 (.aload_n 0) 1 17 := ⟨by decide +kernel, rfl⟩
theorem dJ1_indexOf_4cfef_17 : q_at cJ1_indexOf_4cfef 17 (.arraylength) 1 18 := ⟨by decide +kernel, rfl⟩
theorem dJ1_indexOf_4cfef_18 : q_at cJ1_indexOf_4cfef 18 (.invokestatic 38) 3 21 := ⟨by decide +kernel, rfl⟩
theorem dJ1_indexOf_4cfef_21 : q_at cJ1_indexOf_4cfef 21 (.istore_n 3) 1 22 := ⟨by decide +kernel, rfl⟩
theorem dJ1_indexOf_4cfef_22 : q_at cJ1_indexOf_4cfef 22 (.iload_n 2) 1 23 := ⟨by decide +kernel, rfl⟩
theorem dJ1_indexOf_4cfef_23 : q_at cJ1_indexOf_4cfef 23 (.iload_n 3) 1 24 := ⟨by decide +kernel, rfl⟩
theorem dJ1_indexOf_4cfef_24 : q_at cJ1_indexOf_4cfef 24 (.if_icmp .lt 5) 3 27 := ⟨by decide +kernel, rfl⟩
theorem dJ1_indexOf_4cfef_27 : q_at cJ1_indexOf_4cfef 27 (.iconst (-1)) 1 28 := ⟨by decide +kernel, rfl⟩
theorem dJ1_indexOf_4cfef_28 : q_at cJ1_indexOf_4cfef 28 (.ireturn) 1 29 := ⟨by decide +kernel, rfl⟩
theorem dJ1_indexOf_4cfef_29 : q_at cJ1_indexOf_4cfef 29 (.aload_n 0) 1 30 := ⟨by decide +kernel, rfl⟩
theorem dJ1_indexOf_4cfef_30 : q_at cJ1_indexOf_4cfef 30 (.iload_n 1) 1 31 := ⟨by decide +kernel, rfl⟩
theorem dJ1_indexOf_4cfef_31 : q_at cJ1_indexOf_4cfef 31 (.iload_n 2) 1 32 := ⟨by decide +kernel, rfl⟩
theorem dJ1_indexOf_4cfef_32 : q_at cJ1_indexOf_4cfef 32 (.iload_n 3) 1 33 := ⟨by decide +kernel, rfl⟩
theorem dJ1_indexOf_4cfef_33 : q_at cJ1_indexOf_4cfef 33 (.invokestatic 95) 3 36 := ⟨by decide +kernel, rfl⟩
theorem dJ1_indexOf_4cfef_36 : q_at cJ1_indexOf_4cfef 36 (.ireturn) 1 37 := ⟨by decide +kernel, rfl⟩
theorem dJ1_charAt_3b067_0 : q_at cJ1_charAt_3b067 0 (.iload_n 1) 1 1 := ⟨by decide +kernel, rfl⟩
theorem dJ1_charAt_3b067_1 : q_at cJ1_charAt_3b067 1 (.aload_n 0) 1 2 := ⟨by decide +kernel, rfl⟩
theorem dJ1_charAt_3b067_2 : q_at cJ1_charAt_3b067 2 (.arraylength) 1 3 := ⟨by decide +kernel, rfl⟩
theorem dJ1_charAt_3b067_3 : q_at cJ1_charAt_3b067 3 (.invokestatic 9) 3 6 := ⟨by decide +kernel, rfl⟩
theorem dJ1_charAt_3b067_6 : q_at cJ1_charAt_3b067 6 (.aload_n 0) 1 7 := ⟨by decide +kernel, rfl⟩
theorem dJ1_charAt_3b067_7 : q_at cJ1_charAt_3b067 7 (.iload_n 1) 1 8 := ⟨by decide +kernel, rfl⟩
theorem dJ1_charAt_3b067_8 : q_at cJ1_charAt_3b067 8 (.baload) 1 9 := ⟨by decide +kernel, rfl⟩
theorem dJ1_charAt_3b067_9 : q_at cJ1_charAt_3b067 9 (.sipush 255) 3 12 := ⟨by decide +kernel, rfl⟩
theorem dJ1_charAt_3b067_12 : q_at cJ1_charAt_3b067 12 (.iand) 1 13 := ⟨by decide +kernel, rfl⟩
theorem dJ1_charAt_3b067_13 : q_at cJ1_charAt_3b067 13 (.i2c) 1 14 := ⟨by decide +kernel, rfl⟩
theorem dJ1_charAt_3b067_14 : q_at cJ1_charAt_3b067 14 (.ireturn) 1 15 := ⟨by decide +kernel, rfl⟩
theorem dJ0_charAt_5068e_0 : q_at cJ0_charAt_5068e 0 (.aload_n 0) 1 1 := ⟨by decide +kernel, rfl⟩
theorem dJ0_charAt_5068e_1 : q_at cJ0_charAt_5068e 1 (.invokevirtual 492) 3 4 := ⟨by decide +kernel, rfl⟩
theorem dJ0_charAt_5068e_4 : q_at cJ0_charAt_5068e 4 (.ifCond .eq 12) 3 7 := ⟨by decide +kernel, rfl⟩
theorem dJ0_charAt_5068e_7 : q_at cJ0_charAt_5068e 7 (.aload_n 0) 1 8 := ⟨by decide +kernel, rfl⟩
theorem dJ0_charAt_5068e_8 : q_at cJ0_charAt_5068e 8 (.getfield 9) 3 11 := ⟨by decide +kernel, rfl⟩
theorem dJ0_charAt_5068e_11 : q_at cJ0_charAt_5068e 11 (.iload_n 1) 1 12 := ⟨by decide +kernel, rfl⟩
theorem dJ0_charAt_5068e_12 : q_at cJ0_charAt_5068e 12 (.invokestatic 495) 3 15 := ⟨by decide +kernel, rfl⟩
theorem dJ0_charAt_5068e_15 : q_at cJ0_charAt_5068e 15 (.ireturn) 1 16 := ⟨by decide +kernel, rfl⟩
theorem dJ0_charAt_5068e_16 : q_at cJ0_charAt_5068e 16 (.aload_n 0) 1 17 := ⟨by decide +kernel, rfl⟩
theorem dJ0_charAt_5068e_17 : q_at cJ0_charAt_5068e 17 (.getfield 9) 3 20 := ⟨by decide +kernel, rfl⟩
theorem dJ0_charAt_5068e_20 : q_at cJ0_charAt_5068e 20 (.iload_n 1) 1 21 := ⟨by decide +kernel, rfl⟩
theorem dJ0_charAt_5068e_21 : q_at cJ0_charAt_5068e 21 (.invokestatic 498) 3 24 := ⟨by decide +kernel, rfl⟩
theorem dJ0_indexOf_7cf53_0 : q_at cJ0_indexOf_7cf53 0 (.aload_n 0) 1 1 := ⟨by decide +kernel, rfl⟩
theorem dJ0_indexOf_7cf53_1 : q_at cJ0_indexOf_7cf53 1 (.invokevirtual 492) 3 4 := ⟨by decide +kernel, rfl⟩
theorem dJ0_indexOf_7cf53_4 : q_at cJ0_indexOf_7cf53 4 (.ifCond .eq 19) 3 7 := ⟨by decide +kernel, rfl⟩
theorem dJ0_indexOf_7cf53_7 : q_at cJ0_indexOf_7cf53 7 (.aload_n 0) 1 8 := ⟨by decide +kernel, rfl⟩
theorem dJ0_indexOf_7cf53_8 : q_at cJ0_indexOf_7cf53 8 (.getfield 9) 3 11 := ⟨by decide +kernel, rfl⟩
theorem dJ0_indexOf_7cf53_11 : q_at cJ0_indexOf_7cf53 11 (.iload_n 1) 1 12 := ⟨by decide +kernel, rfl⟩
theorem dJ0_indexOf_7cf53_12 : q_at cJ0_indexOf_7cf53 12 (.iload_n 2) 1 13 := ⟨by decide +kernel, rfl⟩
theorem dJ0_indexOf_7cf53_13 : q_at cJ0_indexOf_7cf53 13 (.aload_n 0) 1 14 := ⟨by decide +kernel, rfl⟩
theorem dJ0_indexOf_7cf53_14 : q_at cJ0_indexOf_7cf53 14 (.invokevirtual 505) 3 17 := ⟨by decide +kernel, rfl⟩
theorem dJ0_indexOf_7cf53_17 : q_at cJ0_indexOf_7cf53 17 (.invokestatic 637) 3 20 := ⟨by decide +kernel, rfl⟩
theorem dJ0_indexOf_7cf53_20 : q_at cJ0_indexOf_7cf53 20 (.goto 16) 3 23 := ⟨by decide +kernel, rfl⟩
theorem dJ0_indexOf_7cf53_23 : q_at cJ0_indexOf_7cf53 23 (.aload_n 0) 1 24 := ⟨by decide +kernel, rfl⟩
theorem dJ0_indexOf_7cf53_24 : q_at cJ0_indexOf_7cf53 24 (.getfield 9) 3 27 := ⟨by decide +kernel, rfl⟩
theorem dJ0_indexOf_7cf53_27 : q_at cJ0_indexOf_7cf53 27 (.iload_n 1) 1 28 := ⟨by decide +kernel, rfl⟩
theorem dJ0_indexOf_7cf53_28 : q_at cJ0_indexOf_7cf53 28 (.iload_n 2) 1 29 := ⟨by decide +kernel, rfl⟩
theorem dJ0_indexOf_7cf53_29 : q_at cJ0_indexOf_7cf53 29 (.aload_n 0) 1 30 := ⟨by decide +kernel, rfl⟩
theorem dJ0_indexOf_7cf53_30 : q_at cJ0_indexOf_7cf53 30 (.invokevirtual 505) 3 33 := ⟨by decide +kernel, rfl⟩
theorem dJ0_indexOf_7cf53_33 : q_at cJ0_indexOf_7cf53 33 (.invokestatic 640) 3 36 := ⟨by decide +kernel, rfl⟩
theorem dJ0_indexOf_7cf53_36 : q_at cJ0_indexOf_7cf53 36 (.ireturn) 1 37 := ⟨by decide +kernel, rfl⟩
theorem dX5_isWord_0 : q_at cX5_isWord 0 (.aload_n 1) 1 1 := ⟨by decide +kernel, rfl⟩
theorem dX5_isWord_1 : q_at cX5_isWord 1 (.invokevirtual 72) 3 4 := ⟨by decide +kernel, rfl⟩
theorem dX5_isWord_4 : q_at cX5_isWord 4 (.aload_n 0) 1 5 := ⟨by decide +kernel, rfl⟩
theorem dX5_isWord_5 : q_at cX5_isWord 5 (.getfield 35) 3 8 := ⟨by decide +kernel, rfl⟩
theorem dX5_isWord_8 : q_at cX5_isWord 8 (.aload_n 0) 1 9 := ⟨by decide +kernel, rfl⟩
theorem dX5_isWord_9 : q_at cX5_isWord 9 (.getfield 48) 3 12 := ⟨by decide +kernel, rfl⟩
theorem dX5_isWord_12 : q_at cX5_isWord 12 (.isub) 1 13 := ⟨by decide +kernel, rfl⟩
theorem dX5_isWord_13 : q_at cX5_isWord 13 (.if_icmp .eq 5) 3 16 := ⟨by decide +kernel, rfl⟩
theorem dX5_isWord_16 : q_at cX5_isWord 16 (.iconst 0) 1 17 := ⟨by decide +kernel, rfl⟩
theorem dX5_isWord_17 : q_at cX5_isWord 17 (.ireturn) 1 18 := ⟨by decide +kernel, rfl⟩
theorem dX5_isWord_18 : q_at cX5_isWord 18 (.iconst 0) 1 19 := ⟨by decide +kernel, rfl⟩
theorem dX5_isWord_19 : q_at cX5_isWord 19 (.istore_n 2) 1 20 := ⟨by decide +kernel, rfl⟩
theorem dX5_isWord_20 : q_at cX5_isWord 20 (.iload_n 2) 1 21 := ⟨by decide +kernel, rfl⟩
theorem dX5_isWord_21 : q_at cX5_isWord 21 (.aload_n 1) 1 22 := ⟨by decide +kernel, rfl⟩
theorem dX5_isWord_22 : q_at cX5_isWord 22 (.invokevirtual 72) 3 25 := ⟨by decide +kernel, rfl⟩
theorem dX5_isWord_25 : q_at cX5_isWord 25 (.if_icmp .ge 30) 3 28 := ⟨by decide +kernel, rfl⟩
theorem dX5_isWord_28 : q_at cX5_isWord 28 (.aload_n 0) 1 29 := ⟨by decide +kernel, rfl⟩
theorem dX5_isWord_29 : q_at cX5_isWord 29 (.getfield 9) 3 32 := ⟨by decide +kernel, rfl⟩
theorem dX5_isWord_32 : q_at cX5_isWord 32 (.aload_n 0) 1 33 := ⟨by decide +kernel, rfl⟩
theorem dX5_isWord_33 : q_at cX5_isWord 33 (.getfield 48) 3 36 := ⟨by decide +kernel, rfl⟩
theorem dX5_isWord_36 : q_at cX5_isWord 36 (.iload_n 2) 1 37 := ⟨by decide +kernel, rfl⟩
theorem dX5_isWord_37 : q_at cX5_isWord 37 (.iadd) 1 38 := ⟨by decide +kernel, rfl⟩
theorem dX5_isWord_38 : q_at cX5_isWord 38 (.iaload) 1 39 := ⟨by decide +kernel, rfl⟩
theorem dX5_isWord_39 : q_at cX5_isWord 39 (.aload_n 1) 1 40 := ⟨by decide +kernel, rfl⟩
theorem dX5_isWord_40 : q_at cX5_isWord 40 (.iload_n 2) 1 41 := ⟨by decide +kernel, rfl⟩
theorem dX5_isWord_41 : q_at cX5_isWord 41 (.invokevirtual 76) 3 44 := ⟨by decide +kernel, rfl⟩
theorem dX5_isWord_44 : q_at cX5_isWord 44 (.if_icmp .eq 5) 3 47 := ⟨by decide +kernel, rfl⟩
theorem dX5_isWord_47 : q_at cX5_isWord 47 (.iconst 0) 1 48 := ⟨by decide +kernel, rfl⟩
theorem dX5_isWord_48 : q_at cX5_isWord 48 (.ireturn) 1 49 := ⟨by decide +kernel, rfl⟩
theorem dX5_isWord_49 : q_at cX5_isWord 49 (.iinc 2 1) 3 52 := ⟨by decide +kernel, rfl⟩
theorem dX5_isWord_52 : q_at cX5_isWord 52 (.goto (-32)) 3 55 := ⟨by decide +kernel, rfl⟩
theorem dX5_isWord_55 : q_at cX5_isWord 55 (.iconst 1) 1 56 := ⟨by decide +kernel, rfl⟩
theorem dX5_isWord_56 : q_at cX5_isWord 56 (.ireturn) 1 57 := ⟨by decide +kernel, rfl⟩
theorem dJ0_indexOf_0f7a4_0 : q_at cJ0_indexOf_0f7a4 0 (.aload_n 0) 1 1 := ⟨by decide +kernel, rfl⟩
theorem dJ0_indexOf_0f7a4_1 : q_at cJ0_indexOf_0f7a4 1 (.iload_n 1) 1 2 := ⟨by decide +kernel, rfl⟩
theorem dJ0_indexOf_0f7a4_2 : q_at cJ0_indexOf_0f7a4 2 (.iconst 0) 1 3 := ⟨by decide +kernel, rfl⟩
theorem dJ0_indexOf_0f7a4_3 : q_at cJ0_indexOf_0f7a4 3 (.invokevirtual 633) 3 6 := ⟨by decide +kernel, rfl⟩
theorem dJ0_indexOf_0f7a4_6 : q_at cJ0_indexOf_0f7a4 6 (.ireturn) 1 7 := ⟨by decide +kernel, rfl⟩
theorem dX5_keyHere_0 : q_at cX5_keyHere 0 (.aload_n 0) 1 1 := ⟨by decide +kernel, rfl⟩
theorem dX5_keyHere_1 : q_at cX5_keyHere 1 (.getfield 32) 3 4 := ⟨by decide +kernel, rfl⟩
theorem dX5_keyHere_4 : q_at cX5_keyHere 4 (.iconst 1) 1 5 := ⟨by decide +kernel, rfl⟩
theorem dX5_keyHere_5 : q_at cX5_keyHere 5 (.if_icmp .eq 5) 3 8 := ⟨by decide +kernel, rfl⟩
theorem dX5_keyHere_8 : q_at cX5_keyHere 8 (.iconst (-1)) 1 9 := ⟨by decide +kernel, rfl⟩
theorem dX5_keyHere_9 : q_at cX5_keyHere 9 (.ireturn) 1 10 := ⟨by decide +kernel, rfl⟩
theorem dX5_keyHere_10 : q_at cX5_keyHere 10 (.iconst 0) 1 11 := ⟨by decide +kernel, rfl⟩
theorem dX5_keyHere_11 : q_at cX5_keyHere 11 (.istore_n 1) 1 12 := ⟨by decide +kernel, rfl⟩
theorem dX5_keyHere_12 : q_at cX5_keyHere 12 (.iload_n 1) 1 13 := ⟨by decide +kernel, rfl⟩
theorem dX5_keyHere_13 : q_at cX5_keyHere 13 (.bipush 6) 2 15 := ⟨by decide +kernel, rfl⟩
theorem dX5_keyHere_15 : q_at cX5_keyHere 15 (.if_icmp .gt 22) 3 18 := ⟨by decide +kernel, rfl⟩
theorem dX5_keyHere_18 : q_at cX5_keyHere 18 (.aload_n 0) 1 19 := ⟨by decide +kernel, rfl⟩
theorem dX5_keyHere_19 : q_at cX5_keyHere 19 (.iload_n 1) 1 20 := ⟨by decide +kernel, rfl⟩
theorem dX5_keyHere_20 : q_at cX5_keyHere 20 (.invokestatic 64) 3 23 := ⟨by decide +kernel, rfl⟩
theorem dX5_keyHere_23 : q_at cX5_keyHere 23 (.invokevirtual 68) 3 26 := ⟨by decide +kernel, rfl⟩
theorem dX5_keyHere_26 : q_at cX5_keyHere 26 (.ifCond .eq 5) 3 29 := ⟨by decide +kernel, rfl⟩
theorem dX5_keyHere_29 : q_at cX5_keyHere 29 (.iload_n 1) 1 30 := ⟨by decide +kernel, rfl⟩
theorem dX5_keyHere_30 : q_at cX5_keyHere 30 (.ireturn) 1 31 := ⟨by decide +kernel, rfl⟩
theorem dX5_keyHere_31 : q_at cX5_keyHere 31 (.iinc 1 1) 3 34 := ⟨by decide +kernel, rfl⟩
theorem dX5_keyHere_34 : q_at cX5_keyHere 34 (.goto (-22)) 3 37 := ⟨by decide +kernel, rfl⟩
theorem dX5_keyHere_37 : q_at cX5_keyHere 37 (.iconst (-1)) 1 38 := ⟨by decide +kernel, rfl⟩
theorem dX5_keyHere_38 : q_at cX5_keyHere 38 (.ireturn) 1 39 := ⟨by decide +kernel, rfl⟩
theorem dX5_name_0 : q_at cX5_name 0 (.aload_n 0) 1 1 := ⟨by decide +kernel, rfl⟩
theorem dX5_name_1 : q_at cX5_name 1 (.getfield 35) 3 4 := ⟨by decide +kernel, rfl⟩
theorem dX5_name_4 : q_at cX5_name 4 (.aload_n 0) 1 5 := ⟨by decide +kernel, rfl⟩
theorem dX5_name_5 : q_at cX5_name 5 (.getfield 48) 3 8 := ⟨by decide +kernel, rfl⟩
theorem dX5_name_8 : q_at cX5_name 8 (.isub) 1 9 := ⟨by decide +kernel, rfl⟩
theorem dX5_name_9 : q_at cX5_name 9 (.iconst 1) 1 10 := ⟨by decide +kernel, rfl⟩
theorem dX5_name_10 : q_at cX5_name 10 (.if_icmp .ne 26) 3 13 := ⟨by decide +kernel, rfl⟩
theorem dX5_name_13 : q_at cX5_name 13 (.aload_n 0) 1 14 := ⟨by decide +kernel, rfl⟩
theorem dX5_name_14 : q_at cX5_name 14 (.getfield 45) 3 17 := ⟨by decide +kernel, rfl⟩
theorem dX5_name_17 : q_at cX5_name 17 (.invokestatic 131) 3 20 := ⟨by decide +kernel, rfl⟩
theorem dX5_name_20 : q_at cX5_name 20 (.aload_n 0) 1 21 := ⟨by decide +kernel, rfl⟩
theorem dX5_name_21 : q_at cX5_name 21 (.getfield 9) 3 24 := ⟨by decide +kernel, rfl⟩
theorem dX5_name_24 : q_at cX5_name 24 (.aload_n 0) 1 25 := ⟨by decide +kernel, rfl⟩
theorem dX5_name_25 : q_at cX5_name 25 (.getfield 48) 3 28 := ⟨by decide +kernel, rfl⟩
theorem dX5_name_28 : q_at cX5_name 28 (.iaload) 1 29 := ⟨by decide +kernel, rfl⟩
theorem dX5_name_29 : q_at cX5_name 29 (.i2c) 1 30 := ⟨by decide +kernel, rfl⟩
theorem dX5_name_30 : q_at cX5_name 30 (.invokevirtual 134) 3 33 := ⟨by decide +kernel, rfl⟩
theorem dX5_name_33 : q_at cX5_name 33 (.goto 4) 3 36 := ⟨by decide +kernel, rfl⟩
theorem dX5_name_36 : q_at cX5_name 36 (.iconst (-1)) 1 37 := ⟨by decide +kernel, rfl⟩
theorem dX5_name_37 : q_at cX5_name 37 (.istore_n 1) 1 38 := ⟨by decide +kernel, rfl⟩
theorem dX5_name_38 : q_at cX5_name 38 (.iload_n 1) 1 39 := ⟨by decide +kernel, rfl⟩
theorem dX5_name_39 : q_at cX5_name 39 (.ifCond .ge 7) 3 42 := ⟨by decide +kernel, rfl⟩
theorem dX5_name_42 : q_at cX5_name 42 (.iconst (-1)) 1 43 := ⟨by decide +kernel, rfl⟩
theorem dX5_name_43 : q_at cX5_name 43 (.goto 8) 3 46 := ⟨by decide +kernel, rfl⟩
theorem dX5_name_46 : q_at cX5_name 46 (.sipush 10000) 3 49 := ⟨by decide +kernel, rfl⟩
theorem dX5_name_49 : q_at cX5_name 49 (.iload_n 1) 1 50 := ⟨by decide +kernel, rfl⟩
theorem dX5_name_50 : q_at cX5_name 50 (.iadd) 1 51 := ⟨by decide +kernel, rfl⟩
theorem dX5_name_51 : q_at cX5_name 51 (.ireturn) 1 52 := ⟨by decide +kernel, rfl⟩
theorem dX5_expression_0 : q_at cX5_expression 0 (.iload_n 1) 1 1 := ⟨by decide +kernel, rfl⟩
theorem dX5_expression_1 : q_at cX5_expression 1 (.iconst 5) 1 2 := ⟨by decide +kernel, rfl⟩
theorem dX5_expression_2 : q_at cX5_expression 2 (.if_icmp .lt 10) 3 5 := ⟨by decide +kernel, rfl⟩
theorem dX5_expression_5 : q_at cX5_expression 5 (.aload_n 0) 1 6 := ⟨by decide +kernel, rfl⟩
theorem dX5_expression_6 : q_at cX5_expression 6 (.iload_n 2) 1 7 := ⟨by decide +kernel, rfl⟩
theorem dX5_expression_7 : q_at cX5_expression 7 (.iload_n 3) 1 8 := ⟨by decide +kernel, rfl⟩
theorem dX5_expression_8 : q_at cX5_expression 8 (.invokevirtual 108) 3 11 := ⟨by decide +kernel, rfl⟩
theorem dX5_expression_11 : q_at cX5_expression 11 (.ireturn) 1 12 := ⟨by decide +kernel, rfl⟩
theorem dX5_expression_12 : q_at cX5_expression 12 (.aload_n 0) 1 13 := ⟨by decide +kernel, rfl⟩
theorem dX5_expression_13 : q_at cX5_expression 13 (.iload_n 1) 1 14 := ⟨by decide +kernel, rfl⟩
theorem dX5_expression_14 : q_at cX5_expression 14 (.iconst 1) 1 15 := ⟨by decide +kernel, rfl⟩
theorem dX5_expression_15 : q_at cX5_expression 15 (.iadd) 1 16 := ⟨by decide +kernel, rfl⟩
theorem dX5_expression_16 : q_at cX5_expression 16 (.iload_n 2) 1 17 := ⟨by decide +kernel, rfl⟩
theorem dX5_expression_17 : q_at cX5_expression 17 (.iload_n 3) 1 18 := ⟨by decide +kernel, rfl⟩
theorem dX5_expression_18 : q_at cX5_expression 18 (.invokevirtual 51) 3 21 := ⟨by decide +kernel, rfl⟩
theorem dX5_expression_21 : q_at cX5_expression 21 (.ifCond .ne 5) 3 24 := ⟨by decide +kernel, rfl⟩
theorem dX5_expression_24 : q_at cX5_expression 24 (.iconst 0) 1 25 := ⟨by decide +kernel, rfl⟩
theorem dX5_expression_25 : q_at cX5_expression 25 (.ireturn) 1 26 := ⟨by decide +kernel, rfl⟩
theorem dX5_expression_26 : q_at cX5_expression 26 (.iload_n 1) 1 27 := ⟨by decide +kernel, rfl⟩
theorem dX5_expression_27 : q_at cX5_expression 27 (.iconst 2) 1 28 := ⟨by decide +kernel, rfl⟩
theorem dX5_expression_28 : q_at cX5_expression 28 (.if_icmp .ne 7) 3 31 := ⟨by decide +kernel, rfl⟩
theorem dX5_expression_31 : q_at cX5_expression 31 (.iconst 1) 1 32 := ⟨by decide +kernel, rfl⟩
theorem dX5_expression_32 : q_at cX5_expression 32 (.goto 5) 3 35 := ⟨by decide +kernel, rfl⟩
theorem dX5_expression_35 : q_at cX5_expression 35 (.bipush 96) 2 37 := ⟨by decide +kernel, rfl⟩
theorem dX5_expression_37 : q_at cX5_expression 37 (.istore 4) 2 39 := ⟨by decide +kernel, rfl⟩
theorem dX5_expression_39 : q_at cX5_expression 39 (.iconst 0) 1 40 := ⟨by decide +kernel, rfl⟩
theorem dX5_expression_40 : q_at cX5_expression 40 (.istore 5) 2 42 := ⟨by decide +kernel, rfl⟩
theorem dX5_expression_42 : q_at cX5_expression 42 (.iload 5) 2 44 := ⟨by decide +kernel, rfl⟩
theorem dX5_expression_44 : q_at cX5_expression 44 (.iload 4) 2 46 := ⟨by decide +kernel, rfl⟩
theorem dX5_expression_46 : q_at cX5_expression 46 (.if_icmp .ge 53) 3 49 := ⟨by decide +kernel, rfl⟩
theorem dX5_expression_49 : q_at cX5_expression 49 (.aload_n 0) 1 50 := ⟨by decide +kernel, rfl⟩
theorem dX5_expression_50 : q_at cX5_expression 50 (.iload_n 1) 1 51 := ⟨by decide +kernel, rfl⟩
theorem dX5_expression_51 : q_at cX5_expression 51 (.invokevirtual 112) 3 54 := ⟨by decide +kernel, rfl⟩
theorem dX5_expression_54 : q_at cX5_expression 54 (.ifCond .eq 45) 3 57 := ⟨by decide +kernel, rfl⟩
theorem dX5_expression_57 : q_at cX5_expression 57 (.aload_n 0) 1 58 := ⟨by decide +kernel, rfl⟩
theorem dX5_expression_58 : q_at cX5_expression 58 (.getfield 9) 3 61 := ⟨by decide +kernel, rfl⟩
theorem dX5_expression_61 : q_at cX5_expression 61 (.aload_n 0) 1 62 := ⟨by decide +kernel, rfl⟩
theorem dX5_expression_62 : q_at cX5_expression 62 (.getfield 48) 3 65 := ⟨by decide +kernel, rfl⟩
theorem dX5_expression_65 : q_at cX5_expression 65 (.iaload) 1 66 := ⟨by decide +kernel, rfl⟩
theorem dX5_expression_66 : q_at cX5_expression 66 (.istore 6) 2 68 := ⟨by decide +kernel, rfl⟩
theorem dX5_expression_68 : q_at cX5_expression 68 (.aload_n 0) 1 69 := ⟨by decide +kernel, rfl⟩
theorem dX5_expression_69 : q_at cX5_expression 69 (.invokevirtual 38) 3 72 := ⟨by decide +kernel, rfl⟩
theorem dX5_expression_72 : q_at cX5_expression 72 (.aload_n 0) 1 73 := ⟨by decide +kernel, rfl⟩
theorem dX5_expression_73 : q_at cX5_expression 73 (.iload_n 1) 1 74 := ⟨by decide +kernel, rfl⟩
theorem dX5_expression_74 : q_at cX5_expression 74 (.iconst 1) 1 75 := ⟨by decide +kernel, rfl⟩
theorem dX5_expression_75 : q_at cX5_expression 75 (.iadd) 1 76 := ⟨by decide +kernel, rfl⟩
theorem dX5_expression_76 : q_at cX5_expression 76 (.iload_n 2) 1 77 := ⟨by decide +kernel, rfl⟩
theorem dX5_expression_77 : q_at cX5_expression 77 (.iload_n 3) 1 78 := ⟨by decide +kernel, rfl⟩
theorem dX5_expression_78 : q_at cX5_expression 78 (.invokevirtual 51) 3 81 := ⟨by decide +kernel, rfl⟩
theorem dX5_expression_81 : q_at cX5_expression 81 (.ifCond .ne 5) 3 84 := ⟨by decide +kernel, rfl⟩
theorem dX5_expression_84 : q_at cX5_expression 84 (.iconst 0) 1 85 := ⟨by decide +kernel, rfl⟩
theorem dX5_expression_85 : q_at cX5_expression 85 (.ireturn) 1 86 := ⟨by decide +kernel, rfl⟩
theorem dX5_expression_86 : q_at cX5_expression 86 (.aload_n 0) 1 87 := ⟨by decide +kernel, rfl⟩
theorem dX5_expression_87 : q_at cX5_expression 87 (.iload 6) 2 89 := ⟨by decide +kernel, rfl⟩
theorem dX5_expression_89 : q_at cX5_expression 89 (.ineg) 1 90 := ⟨by decide +kernel, rfl⟩
theorem dX5_expression_90 : q_at cX5_expression 90 (.invokevirtual 115) 3 93 := ⟨by decide +kernel, rfl⟩
theorem dX5_expression_93 : q_at cX5_expression 93 (.iinc 5 1) 3 96 := ⟨by decide +kernel, rfl⟩
theorem dX5_expression_96 : q_at cX5_expression 96 (.goto (-54)) 3 99 := ⟨by decide +kernel, rfl⟩
theorem dX5_expression_99 : q_at cX5_expression 99 (.iconst 1) 1 100 := ⟨by decide +kernel, rfl⟩
theorem dX5_expression_100 : q_at cX5_expression 100 (.ireturn) 1 101 := ⟨by decide +kernel, rfl⟩
theorem dX5_part_0 : q_at cX5_part 0 (.aload_n 0) 1 1 := ⟨by decide +kernel, rfl⟩
theorem dX5_part_1 : q_at cX5_part 1 (.getfield 32) 3 4 := ⟨by decide +kernel, rfl⟩
theorem dX5_part_4 : q_at cX5_part 4 (.iconst 2) 1 5 := ⟨by decide +kernel, rfl⟩
theorem dX5_part_5 : q_at cX5_part 5 (.if_icmp .ne 12) 3 8 := ⟨by decide +kernel, rfl⟩
theorem dX5_part_8 : q_at cX5_part 8 (.aload_n 0) 1 9 := ⟨by decide +kernel, rfl⟩
theorem dX5_part_9 : q_at cX5_part 9 (.aload_n 0) 1 10 := ⟨by decide +kernel, rfl⟩
theorem dX5_part_10 : q_at cX5_part 10 (.invokevirtual 122) 3 13 := ⟨by decide +kernel, rfl⟩
theorem dX5_part_13 : q_at cX5_part 13 (.invokevirtual 125) 3 16 := ⟨by decide +kernel, rfl⟩
theorem dX5_part_16 : q_at cX5_part 16 (.ireturn) 1 17 := ⟨by decide +kernel, rfl⟩
theorem dX5_part_17 : q_at cX5_part 17 (.aload_n 0) 1 18 := ⟨by decide +kernel, rfl⟩
theorem dX5_part_18 : q_at cX5_part 18 (.getfield 32) 3 21 := ⟨by decide +kernel, rfl⟩
theorem dX5_part_21 : q_at cX5_part 21 (.iconst 1) 1 22 := ⟨by decide +kernel, rfl⟩
theorem dX5_part_22 : q_at cX5_part 22 (.if_icmp .ne 12) 3 25 := ⟨by decide +kernel, rfl⟩
theorem dX5_part_25 : q_at cX5_part 25 (.aload_n 0) 1 26 := ⟨by decide +kernel, rfl⟩
theorem dX5_part_26 : q_at cX5_part 26 (.aload_n 0) 1 27 := ⟨by decide +kernel, rfl⟩
theorem dX5_part_27 : q_at cX5_part 27 (.invokevirtual 128) 3 30 := ⟨by decide +kernel, rfl⟩
theorem dX5_part_30 : q_at cX5_part 30 (.invokevirtual 125) 3 33 := ⟨by decide +kernel, rfl⟩
theorem dX5_part_33 : q_at cX5_part 33 (.ireturn) 1 34 := ⟨by decide +kernel, rfl⟩
theorem dX5_part_34 : q_at cX5_part 34 (.aload_n 0) 1 35 := ⟨by decide +kernel, rfl⟩
theorem dX5_part_35 : q_at cX5_part 35 (.bipush 33) 2 37 := ⟨by decide +kernel, rfl⟩
theorem dX5_part_37 : q_at cX5_part 37 (.invokevirtual 119) 3 40 := ⟨by decide +kernel, rfl⟩
theorem dX5_part_40 : q_at cX5_part 40 (.ifCond .eq 34) 3 43 := ⟨by decide +kernel, rfl⟩
theorem dX5_part_43 : q_at cX5_part 43 (.iload_n 2) 1 44 := ⟨by decide +kernel, rfl⟩
theorem dX5_part_44 : q_at cX5_part 44 (.bipush 8) 2 46 := ⟨by decide +kernel, rfl⟩
theorem dX5_part_46 : q_at cX5_part 46 (.if_icmp .ge 28) 3 49 := ⟨by decide +kernel, rfl⟩
theorem dX5_part_49 : q_at cX5_part 49 (.aload_n 0) 1 50 := ⟨by decide +kernel, rfl⟩
theorem dX5_part_50 : q_at cX5_part 50 (.invokevirtual 38) 3 53 := ⟨by decide +kernel, rfl⟩
theorem dX5_part_53 : q_at cX5_part 53 (.aload_n 0) 1 54 := ⟨by decide +kernel, rfl⟩
theorem dX5_part_54 : q_at cX5_part 54 (.iload_n 1) 1 55 := ⟨by decide +kernel, rfl⟩
theorem dX5_part_55 : q_at cX5_part 55 (.iload_n 2) 1 56 := ⟨by decide +kernel, rfl⟩
theorem dX5_part_56 : q_at cX5_part 56 (.iconst 1) 1 57 := ⟨by decide +kernel, rfl⟩
theorem dX5_part_57 : q_at cX5_part 57 (.iadd) 1 58 := ⟨by decide +kernel, rfl⟩
theorem dX5_part_58 : q_at cX5_part 58 (.invokevirtual 108) 3 61 := ⟨by decide +kernel, rfl⟩
theorem dX5_part_61 : q_at cX5_part 61 (.ifCond .ne 5) 3 64 := ⟨by decide +kernel, rfl⟩
theorem dX5_part_64 : q_at cX5_part 64 (.iconst 0) 1 65 := ⟨by decide +kernel, rfl⟩
theorem dX5_part_65 : q_at cX5_part 65 (.ireturn) 1 66 := ⟨by decide +kernel, rfl⟩
theorem dX5_part_66 : q_at cX5_part 66 (.aload_n 0) 1 67 := ⟨by decide +kernel, rfl⟩
theorem dX5_part_67 : q_at cX5_part 67 (.bipush (-33)) 2 69 := ⟨by decide +kernel, rfl⟩
theorem dX5_part_69 : q_at cX5_part 69 (.invokevirtual 115) 3 72 := ⟨by decide +kernel, rfl⟩
theorem dX5_part_72 : q_at cX5_part 72 (.iconst 1) 1 73 := ⟨by decide +kernel, rfl⟩
theorem dX5_part_73 : q_at cX5_part 73 (.ireturn) 1 74 := ⟨by decide +kernel, rfl⟩
theorem dX5_part_74 : q_at cX5_part 74 (.aload_n 0) 1 75 := ⟨by decide +kernel, rfl⟩
theorem dX5_part_75 : q_at cX5_part 75 (.bipush 40) 2 77 := ⟨by decide +kernel, rfl⟩
theorem dX5_part_77 : q_at cX5_part 77 (.invokevirtual 119) 3 80 := ⟨by decide +kernel, rfl⟩
theorem dX5_part_80 : q_at cX5_part 80 (.ifCond .eq 9) 3 83 := ⟨by decide +kernel, rfl⟩
theorem dX5_part_83 : q_at cX5_part 83 (.iload_n 1) 1 84 := ⟨by decide +kernel, rfl⟩
theorem dX5_part_84 : q_at cX5_part 84 (.bipush 8) 2 86 := ⟨by decide +kernel, rfl⟩
theorem dX5_part_86 : q_at cX5_part 86 (.if_icmp .lt 5) 3 89 := ⟨by decide +kernel, rfl⟩
theorem dX5_part_89 : q_at cX5_part 89 (.iconst 0) 1 90 := ⟨by decide +kernel, rfl⟩
theorem dX5_part_90 : q_at cX5_part 90 (.ireturn) 1 91 := ⟨by decide +kernel, rfl⟩
theorem dX5_part_91 : q_at cX5_part 91 (.aload_n 0) 1 92 := ⟨by decide +kernel, rfl⟩
theorem dX5_part_92 : q_at cX5_part 92 (.invokevirtual 38) 3 95 := ⟨by decide +kernel, rfl⟩
theorem dX5_part_95 : q_at cX5_part 95 (.aload_n 0) 1 96 := ⟨by decide +kernel, rfl⟩
theorem dX5_part_96 : q_at cX5_part 96 (.iconst 0) 1 97 := ⟨by decide +kernel, rfl⟩
theorem dX5_part_97 : q_at cX5_part 97 (.iload_n 1) 1 98 := ⟨by decide +kernel, rfl⟩
theorem dX5_part_98 : q_at cX5_part 98 (.iconst 1) 1 99 := ⟨by decide +kernel, rfl⟩
theorem dX5_part_99 : q_at cX5_part 99 (.iadd) 1 100 := ⟨by decide +kernel, rfl⟩
theorem dX5_part_100 : q_at cX5_part 100 (.iload_n 2) 1 101 := ⟨by decide +kernel, rfl⟩
theorem dX5_part_101 : q_at cX5_part 101 (.invokevirtual 51) 3 104 := ⟨by decide +kernel, rfl⟩
theorem dX5_part_104 : q_at cX5_part 104 (.ifCond .eq 12) 3 107 := ⟨by decide +kernel, rfl⟩
theorem dX5_part_107 : q_at cX5_part 107 (.aload_n 0) 1 108 := ⟨by decide +kernel, rfl⟩
theorem dX5_part_108 : q_at cX5_part 108 (.bipush 41) 2 110 := ⟨by decide +kernel, rfl⟩
theorem dX5_part_110 : q_at cX5_part 110 (.invokevirtual 119) 3 113 := ⟨by decide +kernel, rfl⟩
theorem dX5_part_113 : q_at cX5_part 113 (.ifCond .ne 5) 3 116 := ⟨by decide +kernel, rfl⟩
theorem dX5_part_116 : q_at cX5_part 116 (.iconst 0) 1 117 := ⟨by decide +kernel, rfl⟩
theorem dX5_part_117 : q_at cX5_part 117 (.ireturn) 1 118 := ⟨by decide +kernel, rfl⟩
theorem dX5_part_118 : q_at cX5_part 118 (.aload_n 0) 1 119 := ⟨by decide +kernel, rfl⟩
theorem dX5_part_119 : q_at cX5_part 119 (.invokevirtual 38) 3 122 := ⟨by decide +kernel, rfl⟩
theorem dX5_part_122 : q_at cX5_part 122 (.iconst 1) 1 123 := ⟨by decide +kernel, rfl⟩
theorem dX5_part_123 : q_at cX5_part 123 (.ireturn) 1 124 := ⟨by decide +kernel, rfl⟩
theorem dX5_firstFault_0 : q_at cX5_firstFault 0 (.aload_n 0) 1 1 := ⟨by decide +kernel, rfl⟩
theorem dX5_firstFault_1 : q_at cX5_firstFault 1 (.iconst 0) 1 2 := ⟨by decide +kernel, rfl⟩
theorem dX5_firstFault_2 : q_at cX5_firstFault 2 (.putfield 20) 3 5 := ⟨by decide +kernel, rfl⟩
theorem dX5_firstFault_5 : q_at cX5_firstFault 5 (.aload_n 0) 1 6 := ⟨by decide +kernel, rfl⟩
theorem dX5_firstFault_6 : q_at cX5_firstFault 6 (.iconst 0) 1 7 := ⟨by decide +kernel, rfl⟩
theorem dX5_firstFault_7 : q_at cX5_firstFault 7 (.putfield 29) 3 10 := ⟨by decide +kernel, rfl⟩
theorem dX5_firstFault_10 : q_at cX5_firstFault 10 (.aload_n 0) 1 11 := ⟨by decide +kernel, rfl⟩
theorem dX5_firstFault_11 : q_at cX5_firstFault 11 (.iconst 0) 1 12 := ⟨by decide +kernel, rfl⟩
theorem dX5_firstFault_12 : q_at cX5_firstFault 12 (.putfield 32) 3 15 := ⟨by decide +kernel, rfl⟩
theorem dX5_firstFault_15 : q_at cX5_firstFault 15 (.aload_n 0) 1 16 := ⟨by decide +kernel, rfl⟩
theorem dX5_firstFault_16 : q_at cX5_firstFault 16 (.iconst 0) 1 17 := ⟨by decide +kernel, rfl⟩
theorem dX5_firstFault_17 : q_at cX5_firstFault 17 (.putfield 35) 3 20 := ⟨by decide +kernel, rfl⟩
theorem dX5_firstFault_20 : q_at cX5_firstFault 20 (.aload_n 0) 1 21 := ⟨by decide +kernel, rfl⟩
theorem dX5_firstFault_21 : q_at cX5_firstFault 21 (.invokevirtual 38) 3 24 := ⟨by decide +kernel, rfl⟩
theorem dX5_firstFault_24 : q_at cX5_firstFault 24 (.aload_n 0) 1 25 := ⟨by decide +kernel, rfl⟩
theorem dX5_firstFault_25 : q_at cX5_firstFault 25 (.aload_n 0) 1 26 := ⟨by decide +kernel, rfl⟩
theorem dX5_firstFault_26 : q_at cX5_firstFault 26 (.invokevirtual 41) 3 29 := ⟨by decide +kernel, rfl⟩
theorem dX5_firstFault_29 : q_at cX5_firstFault 29 (.putfield 45) 3 32 := ⟨by decide +kernel, rfl⟩
theorem dX5_firstFault_32 : q_at cX5_firstFault 32 (.aload_n 0) 1 33 := ⟨by decide +kernel, rfl⟩
theorem dX5_firstFault_33 : q_at cX5_firstFault 33 (.getfield 45) 3 36 := ⟨by decide +kernel, rfl⟩
theorem dX5_firstFault_36 : q_at cX5_firstFault 36 (.ifCond .ge 8) 3 39 := ⟨by decide +kernel, rfl⟩
theorem dX5_firstFault_39 : q_at cX5_firstFault 39 (.aload_n 0) 1 40 := ⟨by decide +kernel, rfl⟩
theorem dX5_firstFault_40 : q_at cX5_firstFault 40 (.getfield 48) 3 43 := ⟨by decide +kernel, rfl⟩
theorem dX5_firstFault_43 : q_at cX5_firstFault 43 (.ireturn) 1 44 := ⟨by decide +kernel, rfl⟩
theorem dX5_firstFault_44 : q_at cX5_firstFault 44 (.aload_n 0) 1 45 := ⟨by decide +kernel, rfl⟩
theorem dX5_firstFault_45 : q_at cX5_firstFault 45 (.invokevirtual 38) 3 48 := ⟨by decide +kernel, rfl⟩
theorem dX5_firstFault_48 : q_at cX5_firstFault 48 (.aload_n 0) 1 49 := ⟨by decide +kernel, rfl⟩
theorem dX5_firstFault_49 : q_at cX5_firstFault 49 (.iconst 0) 1 50 := ⟨by decide +kernel, rfl⟩
theorem dX5_firstFault_50 : q_at cX5_firstFault 50 (.iconst 0) 1 51 := ⟨by decide +kernel, rfl⟩
theorem dX5_firstFault_51 : q_at cX5_firstFault 51 (.iconst 0) 1 52 := ⟨by decide +kernel, rfl⟩
theorem dX5_firstFault_52 : q_at cX5_firstFault 52 (.invokevirtual 51) 3 55 := ⟨by decide +kernel, rfl⟩
theorem dX5_firstFault_55 : q_at cX5_firstFault 55 (.ifCond .ne 8) 3 58 := ⟨by decide +kernel, rfl⟩
theorem dX5_firstFault_58 : q_at cX5_firstFault 58 (.aload_n 0) 1 59 := ⟨by decide +kernel, rfl⟩
theorem dX5_firstFault_59 : q_at cX5_firstFault 59 (.getfield 48) 3 62 := ⟨by decide +kernel, rfl⟩
theorem dX5_firstFault_62 : q_at cX5_firstFault 62 (.ireturn) 1 63 := ⟨by decide +kernel, rfl⟩
theorem dX5_firstFault_63 : q_at cX5_firstFault 63 (.aload_n 0) 1 64 := ⟨by decide +kernel, rfl⟩
theorem dX5_firstFault_64 : q_at cX5_firstFault 64 (.getfield 32) 3 67 := ⟨by decide +kernel, rfl⟩
theorem dX5_firstFault_67 : q_at cX5_firstFault 67 (.ifCond .ne 7) 3 70 := ⟨by decide +kernel, rfl⟩
theorem dX5_firstFault_70 : q_at cX5_firstFault 70 (.iconst (-1)) 1 71 := ⟨by decide +kernel, rfl⟩
theorem dX5_firstFault_71 : q_at cX5_firstFault 71 (.goto 7) 3 74 := ⟨by decide +kernel, rfl⟩
theorem dX5_firstFault_74 : q_at cX5_firstFault 74 (.aload_n 0) 1 75 := ⟨by decide +kernel, rfl⟩
theorem dX5_firstFault_75 : q_at cX5_firstFault 75 (.getfield 48) 3 78 := ⟨by decide +kernel, rfl⟩
theorem dX5_firstFault_78 : q_at cX5_firstFault 78 (.ireturn) 1 79 := ⟨by decide +kernel, rfl⟩
def f_J0_coder_7d493 (this : Nat) : Option (Int32) :=
  if (nI 1) = 0 then
    q_b1 (q_nar .byte (nI 1)) fun _ =>
    some ((nI 1))
  else
    q_b1 (q_nar .byte (nI 0)) fun _ =>
    some ((nI 0))
set_option maxRecDepth 100000 in
set_option maxHeartbeats 4000000 in
theorem s_J0_coder_7d493 {l : Launch} {Γ : qC} (hΓ : q_gm Γ) {X : qX} (hX : q_Lay X) {this : Nat} (k_this : this < 14) {I : qI} {z : Int32} (h : f_J0_coder_7d493 this = some z) : q_Sem l Γ (q_rm 2 0 0) yJ0_coder_7d493 cJ0_coder_7d493 1 (some .byte) [.ref (this + 4)] I X (some (.int z), I, X) := by
  refine q_met (by decide) (Nat.le_of_ble_eq_true rfl) (fun g hg hr => ?_)
  unfold f_J0_coder_7d493 at h
  show g 0 0 0 [(0, .ref (this + 4))] [] I X
  refine r_getsC hg dJ0_coder_7d493_0 fs_J0_38 ?_
  refine r_if_eq hg 13 dJ0_coder_7d493_3 (by decide) (fun c1 => ?_) (fun c1 => ?_)
  · rw [if_pos c1] at h
    refine r_iconst hg dJ0_coder_7d493_13 ci_1 ?_
    obtain ⟨u4, e2, h⟩ := q_b1_some h
    obtain ⟨rfl, e3⟩ := q_nar_some e2
    exact r_ireturn hr dJ0_coder_7d493_14 ⟨Nat.zero_le _, Nat.zero_le _⟩ ⟨_, rfl, e3⟩ (by cases h; rfl)
  · rw [if_neg c1] at h
    refine r_aload_n hg 0 dJ0_coder_7d493_6 rfl rfl ?_
    refine r_strC hg dJ0_coder_7d493_7 k_this fs_J0_15 ?_
    refine r_goto hg 14 dJ0_coder_7d493_10 (by decide) ?_
    obtain ⟨u7, e5, h⟩ := q_b1_some h
    obtain ⟨rfl, e6⟩ := q_nar_some e5
    exact r_ireturn hr dJ0_coder_7d493_14 ⟨Nat.zero_le _, Nat.zero_le _⟩ ⟨_, rfl, e6⟩ (by cases h; rfl)

def f_J0_isLatin1_aae02 (this : Nat) : Option (Int32) :=
  if (nI 1) = 0 then
    some ((nI 0))
  else
    if (nI 0) = 0 then
      some ((nI 1))
    else
      some ((nI 0))
set_option maxRecDepth 100000 in
set_option maxHeartbeats 4000000 in
theorem s_J0_isLatin1_aae02 {l : Launch} {Γ : qC} (hΓ : q_gm Γ) {X : qX} (hX : q_Lay X) {this : Nat} (k_this : this < 14) {I : qI} {z : Int32} (h : f_J0_isLatin1_aae02 this = some z) : q_Sem l Γ (q_rm 2 0 0) yJ0_isLatin1_aae02 cJ0_isLatin1_aae02 1 (some .boolean) [.ref (this + 4)] I X (some (.int z), I, X) := by
  refine q_met (by decide) (Nat.le_of_ble_eq_true rfl) (fun g hg hr => ?_)
  unfold f_J0_isLatin1_aae02 at h
  show g 0 0 0 [(0, .ref (this + 4))] [] I X
  refine r_getsC hg dJ0_isLatin1_aae02_0 fs_J0_38 ?_
  refine r_if_eq hg 17 dJ0_isLatin1_aae02_3 (by decide) (fun c1 => ?_) (fun c1 => ?_)
  · rw [if_pos c1] at h
    refine r_iconst hg dJ0_isLatin1_aae02_17 ci_0 ?_
    exact r_ireturn hr dJ0_isLatin1_aae02_18 ⟨Nat.zero_le _, Nat.zero_le _⟩ ⟨_, rfl, bz_0.1⟩ (by cases h; rfl)
  · rw [if_neg c1] at h
    refine r_aload_n hg 0 dJ0_isLatin1_aae02_6 rfl rfl ?_
    refine r_strC hg dJ0_isLatin1_aae02_7 k_this fs_J0_15 ?_
    refine r_if_ne hg 17 dJ0_isLatin1_aae02_10 (by decide) (fun c2 => ?_) (fun c2 => ?_)
    · rw [if_neg c2] at h
      refine r_iconst hg dJ0_isLatin1_aae02_17 ci_0 ?_
      exact r_ireturn hr dJ0_isLatin1_aae02_18 ⟨Nat.zero_le _, Nat.zero_le _⟩ ⟨_, rfl, bz_0.1⟩ (by cases h; rfl)
    · rw [if_pos (Classical.not_not.mp c2)] at h
      refine r_iconst hg dJ0_isLatin1_aae02_13 ci_1 ?_
      refine r_goto hg 18 dJ0_isLatin1_aae02_14 (by decide) ?_
      exact r_ireturn hr dJ0_isLatin1_aae02_18 ⟨Nat.zero_le _, Nat.zero_le _⟩ ⟨_, rfl, bz_1.1⟩ (by cases h; rfl)

def f_J1_canEncode_9a6ad (x0 : Int32) : Option (Int32) :=
  if x0 < 0 then
    some ((nI 0))
  else
    if (nI 255) < x0 then
      some ((nI 0))
    else
      some ((nI 1))
set_option maxRecDepth 100000 in
set_option maxHeartbeats 4000000 in
theorem s_J1_canEncode_9a6ad {l : Launch} {Γ : qC} (hΓ : q_gm Γ) {X : qX} (hX : q_Lay X) {x0 : Int32} {I : qI} {z : Int32} (h : f_J1_canEncode_9a6ad x0 = some z) : q_Sem l Γ (q_rm 2 0 0) yJ1_canEncode_9a6ad cJ1_canEncode_9a6ad 1 (some .boolean) [.int x0] I X (some (.int z), I, X) := by
  refine q_met (by decide) (Nat.le_of_ble_eq_true rfl) (fun g hg hr => ?_)
  unfold f_J1_canEncode_9a6ad at h
  show g 0 0 0 [(0, .int x0)] [] I X
  refine r_iload_n hg 0 dJ1_canEncode_9a6ad_0 rfl rfl ?_
  refine r_if_lt hg 15 dJ1_canEncode_9a6ad_1 (by decide) (fun c1 => ?_) (fun c1 => ?_)
  · rw [if_pos c1] at h
    refine r_iconst hg dJ1_canEncode_9a6ad_15 ci_0 ?_
    exact r_ireturn hr dJ1_canEncode_9a6ad_16 ⟨Nat.zero_le _, Nat.zero_le _⟩ ⟨_, rfl, bz_0.1⟩ (by cases h; rfl)
  · rw [if_neg c1] at h
    refine r_iload_n hg 0 dJ1_canEncode_9a6ad_4 rfl rfl ?_
    refine r_sipush hg dJ1_canEncode_9a6ad_5 cs_255 ?_
    refine r_icmp_gt hg 15 dJ1_canEncode_9a6ad_8 (by decide) (fun c2 => ?_) (fun c2 => ?_)
    · rw [if_pos c2] at h
      refine r_iconst hg dJ1_canEncode_9a6ad_15 ci_0 ?_
      exact r_ireturn hr dJ1_canEncode_9a6ad_16 ⟨Nat.zero_le _, Nat.zero_le _⟩ ⟨_, rfl, bz_0.1⟩ (by cases h; rfl)
    · rw [if_neg c2] at h
      refine r_iconst hg dJ1_canEncode_9a6ad_11 ci_1 ?_
      refine r_goto hg 16 dJ1_canEncode_9a6ad_12 (by decide) ?_
      exact r_ireturn hr dJ1_canEncode_9a6ad_16 ⟨Nat.zero_le _, Nat.zero_le _⟩ ⟨_, rfl, bz_1.1⟩ (by cases h; rfl)

def b_J1_indexOfChar_4cfef_7 (x0 : Nat) (x1 : Int32) (x2 : Int32) (x3 : Int32) (k7 : Int32 → Int32 → Option (Int32)) (x4 : Int32) (x5 : Int32) : Option (Int32) :=
  if x3 ≤ x5 then
    some ((-1))
  else
    q_b1 (q_rdO (q_sch x0) (q_slen.getD x0 0) x5) fun v2 =>
    if v2 = x4 then
      some (x5)
    else
      k7 x4 (x5 + (nI 1))
set_option maxRecDepth 100000 in
set_option maxHeartbeats 4000000 in
theorem p_J1_indexOfChar_4cfef_7 {l : Launch} {Γ : qC} {g : qG} {z : Int32} {x0 : Nat} {x1 : Int32} {x2 : Int32} {x3 : Int32} {X : qX} {I : qI} (hΓ : q_gm Γ) (hg : q_Ok l Γ RJ1 cJ1_indexOfChar_4cfef 6 (q_rm 2 0 0) "indexOfChar" (some .int) g) (hr : q_Rt cJ1_indexOfChar_4cfef (some .int) (q_rm 2 0 0) (some (.int z), I, X) g) (hX : q_Lay X) (k_x0 : x0 < 14) {k7 : Int32 → Int32 → Option (Int32)} (hk7 : ∀ (x4 : Int32) (x5 : Int32), k7 x4 x5 = some z → g 0 0 7 [(0, .ref (x0 + 18)), (3, .int x3), (4, .int x4), (5, .int x5)] [] I X) (x4 : Int32) (x5 : Int32) (h : b_J1_indexOfChar_4cfef_7 x0 x1 x2 x3 k7 x4 x5 = some z) : g 0 0 7 [(0, .ref (x0 + 18)), (3, .int x3), (4, .int x4), (5, .int x5)] [] I X := by
  unfold b_J1_indexOfChar_4cfef_7 at h
  refine r_iload hg 3 dJ1_indexOfChar_4cfef_7 rfl ?_
  refine r_iload_n hg 1 dJ1_indexOfChar_4cfef_9 rfl rfl ?_
  refine r_icmp_ge hg 31 dJ1_indexOfChar_4cfef_10 (by decide) (fun c1 => ?_) (fun c1 => ?_)
  · rw [if_pos c1] at h
    refine r_iconst hg dJ1_indexOfChar_4cfef_31 ci_m1 ?_
    exact r_ireturn hr dJ1_indexOfChar_4cfef_32 ⟨Nat.zero_le _, Nat.zero_le _⟩ ⟨_, rfl, rfl⟩ (by cases h; rfl)
  · rw [if_neg c1] at h
    refine r_aload_n hg 0 dJ1_indexOfChar_4cfef_13 rfl rfl ?_
    refine r_iload hg 3 dJ1_indexOfChar_4cfef_14 rfl ?_
    obtain ⟨v2, e3, h⟩ := q_b1_some h
    refine r_bald hg dJ1_indexOfChar_4cfef_16 k_x0 e3 ?_
    refine r_iload hg 2 dJ1_indexOfChar_4cfef_17 rfl ?_
    refine r_icmp_ne hg 25 dJ1_indexOfChar_4cfef_19 (by decide) (fun c4 => ?_) (fun c4 => ?_)
    · rw [if_neg c4] at h
      refine r_iinc hg 3 (v := (x5 + (nI 1))) (L' := [(5, .int (x5 + (nI 1))), (0, .ref (x0 + 18)), (3, .int x3), (4, .int x4)]) dJ1_indexOfChar_4cfef_25 rfl (by rw [ci_1]) (by decide) rfl ?_
      refine r_goto hg 7 dJ1_indexOfChar_4cfef_28 (by decide) ?_
      refine r_sub hg [1, 2, 3, 0] rfl ?_
      exact hk7 _ _ h
    · rw [if_pos (Classical.not_not.mp c4)] at h
      refine r_iload hg 3 dJ1_indexOfChar_4cfef_22 rfl ?_
      exact r_ireturn hr dJ1_indexOfChar_4cfef_24 ⟨Nat.zero_le _, Nat.zero_le _⟩ ⟨_, rfl, rfl⟩ (by cases h; rfl)
theorem pl_J1_indexOfChar_4cfef_7 {l : Launch} {Γ : qC} {g : qG} {z : Int32} {x0 : Nat} {x1 : Int32} {x2 : Int32} {x3 : Int32} {X : qX} {I : qI} (hΓ : q_gm Γ) (hg : q_Ok l Γ RJ1 cJ1_indexOfChar_4cfef 6 (q_rm 2 0 0) "indexOfChar" (some .int) g) (hr : q_Rt cJ1_indexOfChar_4cfef (some .int) (q_rm 2 0 0) (some (.int z), I, X) g) (hX : q_Lay X) (k_x0 : x0 < 14) : ∀ (n : Nat) (x4 : Int32) (x5 : Int32), q_fix (fun _ _ => none) (b_J1_indexOfChar_4cfef_7 x0 x1 x2 x3) n x4 x5 = some z → g 0 0 7 [(0, .ref (x0 + 18)), (3, .int x3), (4, .int x4), (5, .int x5)] [] I X := by
  intro n
  induction n with
  | zero =>
    intro x4 x5 h
    cases (show (none : Option (Int32)) = some z from h)
  | succ n ih =>
    intro x4 x5 h
    exact p_J1_indexOfChar_4cfef_7 hΓ hg hr hX k_x0 ih _ _ h
def f_J1_indexOfChar_4cfef (x0 : Nat) (x1 : Int32) (x2 : Int32) (x3 : Int32) : Option (Int32) :=
  q_fix (fun _ _ => none) (b_J1_indexOfChar_4cfef_7 x0 x1 x2 x3) q_fu x1.toInt8.toInt32 x2
set_option maxRecDepth 100000 in
set_option maxHeartbeats 4000000 in
theorem s_J1_indexOfChar_4cfef {l : Launch} {Γ : qC} (hΓ : q_gm Γ) {X : qX} (hX : q_Lay X) {x0 : Nat} {x1 : Int32} {x2 : Int32} {x3 : Int32} (k_x0 : x0 < 14) {I : qI} {z : Int32} (h : f_J1_indexOfChar_4cfef x0 x1 x2 x3 = some z) : q_Sem l Γ (q_rm 2 0 0) yJ1_indexOfChar_4cfef cJ1_indexOfChar_4cfef 6 (some .int) [.ref (x0 + 18), .int x1, .int x2, .int x3] I X (some (.int z), I, X) := by
  refine q_met (by decide) (Nat.le_of_ble_eq_true rfl) (fun g hg hr => ?_)
  unfold f_J1_indexOfChar_4cfef at h
  show g 0 0 0 [(0, .ref (x0 + 18)), (1, .int x1), (2, .int x2), (3, .int x3)] [] I X
  refine r_iload_n hg 1 dJ1_indexOfChar_4cfef_0 rfl rfl ?_
  refine r_i2b hg dJ1_indexOfChar_4cfef_1 ?_
  refine r_istore hg (L' := [(4, .int x1.toInt8.toInt32), (0, .ref (x0 + 18)), (1, .int x1), (2, .int x2), (3, .int x3)]) dJ1_indexOfChar_4cfef_2 (by decide) rfl ?_
  refine r_iload_n hg 3 dJ1_indexOfChar_4cfef_4 rfl rfl ?_
  refine r_istore hg (L' := [(5, .int x2), (4, .int x1.toInt8.toInt32), (0, .ref (x0 + 18)), (1, .int x1), (2, .int x2), (3, .int x3)]) dJ1_indexOfChar_4cfef_5 (by decide) rfl ?_
  refine r_sub hg [2, 5, 1, 0] rfl ?_
  exact pl_J1_indexOfChar_4cfef_7 hΓ hg hr hX k_x0 _ _ _ h

def b_J3_checkIndex_8e157_9 (x0 : Int32) (x1 : Int32) (x2 : Option Nat) : Option (Int32) :=
  none
set_option maxRecDepth 100000 in
set_option maxHeartbeats 4000000 in
theorem p_J3_checkIndex_8e157_9 {l : Launch} {Γ : qC} {g : qG} {z : Int32} {x0 : Int32} {x1 : Int32} {x2 : Option Nat} {X : qX} {I : qI} (hΓ : q_gm Γ) (hg : q_Ok l Γ RJ3 cJ3_checkIndex_8e157 3 (q_rm 2 0 0) "checkIndex" (some .int) g) (hr : q_Rt cJ3_checkIndex_8e157 (some .int) (q_rm 2 0 0) (some (.int z), I, X) g) (hX : q_Lay X) (h : b_J3_checkIndex_8e157_9 x0 x1 x2 = some z) : g 0 0 9 [(0, .int x0), (1, .int x1), (2, va_rf x2)] [] I X := by
  unfold b_J3_checkIndex_8e157_9 at h
  refine r_aloadq_n hg 2 dJ3_checkIndex_8e157_9 rfl rfl ?_
  refine r_iload_n hg 0 dJ3_checkIndex_8e157_10 rfl rfl ?_
  refine r_iload_n hg 1 dJ3_checkIndex_8e157_11 rfl rfl ?_
  cases h
def f_J3_checkIndex_8e157 (x0 : Int32) (x1 : Int32) (x2 : Option Nat) : Option (Int32) :=
  if x0 < 0 then
    b_J3_checkIndex_8e157_9 x0 x1 x2 
  else
    if x0 < x1 then
      some (x0)
    else
      b_J3_checkIndex_8e157_9 x0 x1 x2 
set_option maxRecDepth 100000 in
set_option maxHeartbeats 4000000 in
theorem s_J3_checkIndex_8e157 {l : Launch} {Γ : qC} (hΓ : q_gm Γ) {X : qX} (hX : q_Lay X) {x0 : Int32} {x1 : Int32} {x2 : Option Nat} {I : qI} {z : Int32} (h : f_J3_checkIndex_8e157 x0 x1 x2 = some z) : q_Sem l Γ (q_rm 2 0 0) yJ3_checkIndex_8e157 cJ3_checkIndex_8e157 3 (some .int) [.int x0, .int x1, va_rf x2] I X (some (.int z), I, X) := by
  refine q_met (by decide) (by cases x2 <;> exact Nat.le_of_ble_eq_true rfl) (fun g hg hr => ?_)
  unfold f_J3_checkIndex_8e157 at h
  have eL : lv_args 0 [.int x0, .int x1, va_rf x2] = [(0, .int x0), (1, .int x1), (2, va_rf x2)] := by cases x2 <;> rfl
  rw [eL]
  refine r_iload_n hg 0 dJ3_checkIndex_8e157_0 rfl rfl ?_
  refine r_if_lt hg 9 dJ3_checkIndex_8e157_1 (by decide) (fun c1 => ?_) (fun c1 => ?_)
  · rw [if_pos c1] at h
    exact p_J3_checkIndex_8e157_9 hΓ hg hr hX  h
  · rw [if_neg c1] at h
    refine r_iload_n hg 0 dJ3_checkIndex_8e157_4 rfl rfl ?_
    refine r_iload_n hg 1 dJ3_checkIndex_8e157_5 rfl rfl ?_
    refine r_icmp_lt hg 16 dJ3_checkIndex_8e157_6 (by decide) (fun c2 => ?_) (fun c2 => ?_)
    · rw [if_pos c2] at h
      refine r_iload_n hg 0 dJ3_checkIndex_8e157_16 rfl rfl ?_
      exact r_ireturn hr dJ3_checkIndex_8e157_17 ⟨Nat.zero_le _, Nat.zero_le _⟩ ⟨_, rfl, rfl⟩ (by cases h; rfl)
    · rw [if_neg c2] at h
      exact p_J3_checkIndex_8e157_9 hΓ hg hr hX  h

def f_X5_names (x0 : Int32) : Option (Nat) :=
  if x0 = (nI 0) then
    some (7)
  else
  if x0 = (nI 1) then
    some (8)
  else
  if x0 = (nI 2) then
    some (9)
  else
  if x0 = (nI 3) then
    some (10)
  else
  if x0 = (nI 4) then
    some (11)
  else
  if x0 = (nI 5) then
    some (12)
  else
  some (13)
set_option maxRecDepth 100000 in
set_option maxHeartbeats 4000000 in
theorem s_X5_names {l : Launch} {Γ : qC} (hΓ : q_gm Γ) {X : qX} (hX : q_Lay X) {x0 : Int32} {I : qI} {z : Nat} (h : f_X5_names x0 = some z) : q_Sem l Γ (q_rm 2 0 0) yX5_names cX5_names 1 (some (.object "java/lang/String")) [.int x0] I X (some (.ref (z + 4)), I, X) := by
  refine q_met (by decide) (Nat.le_of_ble_eq_true rfl) (fun g hg hr => ?_)
  unfold f_X5_names at h
  show g 0 0 0 [(0, .int x0)] [] I X
  refine r_iload_n hg 0 dX5_names_0 rfl rfl ?_
  by_cases c1 : x0 = (nI 0)
  · rw [if_pos c1] at h
    refine r_tab hg 40 dX5_names_1 rfl (by rw [c1] <;> decide +kernel) (by decide) ?_
    refine r_ldcS hg (i := 7) dX5_names_40 rfl rfl ?_
    exact r_areturn hr (r := (some (7 + 4))) dX5_names_42 ⟨Nat.zero_le _, Nat.zero_le _⟩ ⟨_, rfl, Or.inl ⟨_, rfl⟩⟩ (by cases h; rfl)
  rw [if_neg c1] at h
  by_cases c2 : x0 = (nI 1)
  · rw [if_pos c2] at h
    refine r_tab hg 43 dX5_names_1 rfl (by rw [c2] <;> decide +kernel) (by decide) ?_
    refine r_ldcS hg (i := 8) dX5_names_43 rfl rfl ?_
    exact r_areturn hr (r := (some (8 + 4))) dX5_names_45 ⟨Nat.zero_le _, Nat.zero_le _⟩ ⟨_, rfl, Or.inl ⟨_, rfl⟩⟩ (by cases h; rfl)
  rw [if_neg c2] at h
  by_cases c3 : x0 = (nI 2)
  · rw [if_pos c3] at h
    refine r_tab hg 46 dX5_names_1 rfl (by rw [c3] <;> decide +kernel) (by decide) ?_
    refine r_ldcS hg (i := 9) dX5_names_46 rfl rfl ?_
    exact r_areturn hr (r := (some (9 + 4))) dX5_names_48 ⟨Nat.zero_le _, Nat.zero_le _⟩ ⟨_, rfl, Or.inl ⟨_, rfl⟩⟩ (by cases h; rfl)
  rw [if_neg c3] at h
  by_cases c4 : x0 = (nI 3)
  · rw [if_pos c4] at h
    refine r_tab hg 49 dX5_names_1 rfl (by rw [c4] <;> decide +kernel) (by decide) ?_
    refine r_ldcS hg (i := 10) dX5_names_49 rfl rfl ?_
    exact r_areturn hr (r := (some (10 + 4))) dX5_names_51 ⟨Nat.zero_le _, Nat.zero_le _⟩ ⟨_, rfl, Or.inl ⟨_, rfl⟩⟩ (by cases h; rfl)
  rw [if_neg c4] at h
  by_cases c5 : x0 = (nI 4)
  · rw [if_pos c5] at h
    refine r_tab hg 52 dX5_names_1 rfl (by rw [c5] <;> decide +kernel) (by decide) ?_
    refine r_ldcS hg (i := 11) dX5_names_52 rfl rfl ?_
    exact r_areturn hr (r := (some (11 + 4))) dX5_names_54 ⟨Nat.zero_le _, Nat.zero_le _⟩ ⟨_, rfl, Or.inl ⟨_, rfl⟩⟩ (by cases h; rfl)
  rw [if_neg c5] at h
  by_cases c6 : x0 = (nI 5)
  · rw [if_pos c6] at h
    refine r_tab hg 55 dX5_names_1 rfl (by rw [c6] <;> decide +kernel) (by decide) ?_
    refine r_ldcS hg (i := 12) dX5_names_55 rfl rfl ?_
    exact r_areturn hr (r := (some (12 + 4))) dX5_names_57 ⟨Nat.zero_le _, Nat.zero_le _⟩ ⟨_, rfl, Or.inl ⟨_, rfl⟩⟩ (by cases h; rfl)
  rw [if_neg c6] at h
  refine r_tab hg 58 dX5_names_1 rfl (q_tab_d (fun k hk ho => ?_)) (by decide) ?_
  · have hk : k < 6 := hk
    rcases (show k = 0 ∨ k = 1 ∨ k = 2 ∨ k = 3 ∨ k = 4 ∨ k = 5 by omega) with rfl | rfl | rfl | rfl | rfl | rfl
    · exact lv_neT c1 (by decide +kernel)
    · exact lv_neT c2 (by decide +kernel)
    · exact lv_neT c3 (by decide +kernel)
    · exact lv_neT c4 (by decide +kernel)
    · exact lv_neT c5 (by decide +kernel)
    · exact lv_neT c6 (by decide +kernel)
  refine r_ldcS hg (i := 13) dX5_names_58 rfl rfl ?_
  exact r_areturn hr (r := (some (13 + 4))) dX5_names_60 ⟨Nat.zero_le _, Nat.zero_le _⟩ ⟨_, rfl, Or.inl ⟨_, rfl⟩⟩ (by cases h; rfl)

def f_X5_word (x0 : Int32) : Option (Nat) :=
  if x0 = (nI 0) then
    some (0)
  else
  if x0 = (nI 1) then
    some (1)
  else
  if x0 = (nI 2) then
    some (2)
  else
  if x0 = (nI 3) then
    some (3)
  else
  if x0 = (nI 4) then
    some (4)
  else
  if x0 = (nI 5) then
    some (5)
  else
  some (6)
set_option maxRecDepth 100000 in
set_option maxHeartbeats 4000000 in
theorem s_X5_word {l : Launch} {Γ : qC} (hΓ : q_gm Γ) {X : qX} (hX : q_Lay X) {x0 : Int32} {I : qI} {z : Nat} (h : f_X5_word x0 = some z) : q_Sem l Γ (q_rm 2 0 0) yX5_word cX5_word 1 (some (.object "java/lang/String")) [.int x0] I X (some (.ref (z + 4)), I, X) := by
  refine q_met (by decide) (Nat.le_of_ble_eq_true rfl) (fun g hg hr => ?_)
  unfold f_X5_word at h
  show g 0 0 0 [(0, .int x0)] [] I X
  refine r_iload_n hg 0 dX5_word_0 rfl rfl ?_
  by_cases c1 : x0 = (nI 0)
  · rw [if_pos c1] at h
    refine r_tab hg 40 dX5_word_1 rfl (by rw [c1] <;> decide +kernel) (by decide) ?_
    refine r_ldcS hg (i := 0) dX5_word_40 rfl rfl ?_
    exact r_areturn hr (r := (some (0 + 4))) dX5_word_42 ⟨Nat.zero_le _, Nat.zero_le _⟩ ⟨_, rfl, Or.inl ⟨_, rfl⟩⟩ (by cases h; rfl)
  rw [if_neg c1] at h
  by_cases c2 : x0 = (nI 1)
  · rw [if_pos c2] at h
    refine r_tab hg 43 dX5_word_1 rfl (by rw [c2] <;> decide +kernel) (by decide) ?_
    refine r_ldcS hg (i := 1) dX5_word_43 rfl rfl ?_
    exact r_areturn hr (r := (some (1 + 4))) dX5_word_45 ⟨Nat.zero_le _, Nat.zero_le _⟩ ⟨_, rfl, Or.inl ⟨_, rfl⟩⟩ (by cases h; rfl)
  rw [if_neg c2] at h
  by_cases c3 : x0 = (nI 2)
  · rw [if_pos c3] at h
    refine r_tab hg 46 dX5_word_1 rfl (by rw [c3] <;> decide +kernel) (by decide) ?_
    refine r_ldcS hg (i := 2) dX5_word_46 rfl rfl ?_
    exact r_areturn hr (r := (some (2 + 4))) dX5_word_48 ⟨Nat.zero_le _, Nat.zero_le _⟩ ⟨_, rfl, Or.inl ⟨_, rfl⟩⟩ (by cases h; rfl)
  rw [if_neg c3] at h
  by_cases c4 : x0 = (nI 3)
  · rw [if_pos c4] at h
    refine r_tab hg 49 dX5_word_1 rfl (by rw [c4] <;> decide +kernel) (by decide) ?_
    refine r_ldcS hg (i := 3) dX5_word_49 rfl rfl ?_
    exact r_areturn hr (r := (some (3 + 4))) dX5_word_51 ⟨Nat.zero_le _, Nat.zero_le _⟩ ⟨_, rfl, Or.inl ⟨_, rfl⟩⟩ (by cases h; rfl)
  rw [if_neg c4] at h
  by_cases c5 : x0 = (nI 4)
  · rw [if_pos c5] at h
    refine r_tab hg 52 dX5_word_1 rfl (by rw [c5] <;> decide +kernel) (by decide) ?_
    refine r_ldcS hg (i := 4) dX5_word_52 rfl rfl ?_
    exact r_areturn hr (r := (some (4 + 4))) dX5_word_54 ⟨Nat.zero_le _, Nat.zero_le _⟩ ⟨_, rfl, Or.inl ⟨_, rfl⟩⟩ (by cases h; rfl)
  rw [if_neg c5] at h
  by_cases c6 : x0 = (nI 5)
  · rw [if_pos c6] at h
    refine r_tab hg 55 dX5_word_1 rfl (by rw [c6] <;> decide +kernel) (by decide) ?_
    refine r_ldcS hg (i := 5) dX5_word_55 rfl rfl ?_
    exact r_areturn hr (r := (some (5 + 4))) dX5_word_57 ⟨Nat.zero_le _, Nat.zero_le _⟩ ⟨_, rfl, Or.inl ⟨_, rfl⟩⟩ (by cases h; rfl)
  rw [if_neg c6] at h
  refine r_tab hg 58 dX5_word_1 rfl (q_tab_d (fun k hk ho => ?_)) (by decide) ?_
  · have hk : k < 6 := hk
    rcases (show k = 0 ∨ k = 1 ∨ k = 2 ∨ k = 3 ∨ k = 4 ∨ k = 5 by omega) with rfl | rfl | rfl | rfl | rfl | rfl
    · exact lv_neT c1 (by decide +kernel)
    · exact lv_neT c2 (by decide +kernel)
    · exact lv_neT c3 (by decide +kernel)
    · exact lv_neT c4 (by decide +kernel)
    · exact lv_neT c5 (by decide +kernel)
    · exact lv_neT c6 (by decide +kernel)
  refine r_ldcS hg (i := 6) dX5_word_58 rfl rfl ?_
  exact r_areturn hr (r := (some (6 + 4))) dX5_word_60 ⟨Nat.zero_le _, Nat.zero_le _⟩ ⟨_, rfl, Or.inl ⟨_, rfl⟩⟩ (by cases h; rfl)

def f_J0_checkIndex_df160 (x0 : Int32) (x1 : Int32) : Option (Unit) :=
  q_b1 (f_J3_checkIndex_8e157 x0 x1 none) fun v2 =>
  some ()
set_option maxRecDepth 100000 in
set_option maxHeartbeats 4000000 in
theorem s_J0_checkIndex_df160 {l : Launch} {Γ : qC} (hΓ : q_gm Γ) {X : qX} (hX : q_Lay X) {x0 : Int32} {x1 : Int32} {I : qI} {z : Unit} (h : f_J0_checkIndex_df160 x0 x1 = some z) : q_Sem l Γ (q_rm 3 0 0) yJ0_checkIndex_df160 cJ0_checkIndex_df160 2 none [.int x0, .int x1] I X (none, I, X) := by
  refine q_met (by decide) (Nat.le_of_ble_eq_true rfl) (fun g hg hr => ?_)
  unfold f_J0_checkIndex_df160 at h
  show g 0 0 0 [(0, .int x0), (1, .int x1)] [] I X
  refine r_iload_n hg 0 dJ0_checkIndex_df160_0 rfl rfl ?_
  refine r_iload_n hg 1 dJ0_checkIndex_df160_1 rfl rfl ?_
  refine r_getsF hg dJ0_checkIndex_df160_2 fs_J0_1053 (fun r1 => ?_)
  obtain ⟨v2, e3, h⟩ := q_b1_some h
  refine r_cS3i hg dJ0_checkIndex_df160_5 mt_J3_checkIndex_8e157 ⟨ml_J0_1059, mst_J3_checkIndex_8e157⟩ (s_J3_checkIndex_8e157 (x2 := r1) hΓ hX e3) (q_room (Nat.le_of_ble_eq_true rfl) (Nat.le_of_ble_eq_true rfl)) ⟨Nat.zero_le _, Nat.zero_le _⟩ (Nat.le_of_ble_eq_true rfl) ?_
  refine r_pop hg dJ0_checkIndex_df160_8 rfl ?_
  exact r_return hr dJ0_checkIndex_df160_9 ⟨Nat.zero_le _, Nat.zero_le _⟩ rfl (by cases h; rfl)

def f_J0_length_8abf5 (this : Nat) : Option (Int32) :=
  q_b1 (f_J0_coder_7d493 this) fun v1 =>
  some (((nI (q_slen.getD this 0)) >>> (v1 &&& 31)))
set_option maxRecDepth 100000 in
set_option maxHeartbeats 4000000 in
theorem s_J0_length_8abf5 {l : Launch} {Γ : qC} (hΓ : q_gm Γ) {X : qX} (hX : q_Lay X) {this : Nat} (k_this : this < 14) {I : qI} {z : Int32} (h : f_J0_length_8abf5 this = some z) : q_Sem l Γ (q_rm 3 0 0) yJ0_length_8abf5 cJ0_length_8abf5 1 (some .int) [.ref (this + 4)] I X (some (.int z), I, X) := by
  refine q_met (by decide) (Nat.le_of_ble_eq_true rfl) (fun g hg hr => ?_)
  unfold f_J0_length_8abf5 at h
  show g 0 0 0 [(0, .ref (this + 4))] [] I X
  refine r_aload_n hg 0 dJ0_length_8abf5_0 rfl rfl ?_
  refine r_strV hg dJ0_length_8abf5_1 k_this fs_J0_9 ?_
  refine r_alenB hg dJ0_length_8abf5_4 k_this ?_
  refine r_aload_n hg 0 dJ0_length_8abf5_5 rfl rfl ?_
  obtain ⟨v1, e2, h⟩ := q_b1_some h
  refine r_cT0i hg dJ0_length_8abf5_6 mt_J0_coder_7d493 ml_J0_335 mvT_J0_coder_7d493 k_this (s_J0_coder_7d493 hΓ hX k_this e2) (q_room (Nat.le_of_ble_eq_true rfl) (Nat.le_of_ble_eq_true rfl)) ⟨Nat.zero_le _, Nat.zero_le _⟩ (Nat.le_of_ble_eq_true rfl) ?_
  refine r_ishr hg dJ0_length_8abf5_9 ?_
  exact r_ireturn hr dJ0_length_8abf5_10 ⟨Nat.zero_le _, Nat.zero_le _⟩ ⟨_, rfl, rfl⟩ (by cases h; rfl)

def f_J1_indexOf_4cfef (x0 : Nat) (x1 : Int32) (x2 : Int32) (x3 : Int32) : Option (Int32) :=
  q_b1 (f_J1_canEncode_9a6ad x1) fun v1 =>
  if v1 = 0 then
    some ((-1))
  else
    if (q_max x2 (nI 0)) < (q_min x3 (nI (q_slen.getD x0 0))) then
      q_b1 (f_J1_indexOfChar_4cfef x0 x1 (q_max x2 (nI 0)) (q_min x3 (nI (q_slen.getD x0 0)))) fun v5 =>
      some (v5)
    else
      some ((-1))
set_option maxRecDepth 100000 in
set_option maxHeartbeats 4000000 in
theorem s_J1_indexOf_4cfef {l : Launch} {Γ : qC} (hΓ : q_gm Γ) {X : qX} (hX : q_Lay X) {x0 : Nat} {x1 : Int32} {x2 : Int32} {x3 : Int32} (k_x0 : x0 < 14) {I : qI} {z : Int32} (h : f_J1_indexOf_4cfef x0 x1 x2 x3 = some z) : q_Sem l Γ (q_rm 3 0 0) yJ1_indexOf_4cfef cJ1_indexOf_4cfef 4 (some .int) [.ref (x0 + 18), .int x1, .int x2, .int x3] I X (some (.int z), I, X) := by
  refine q_met (by decide) (Nat.le_of_ble_eq_true rfl) (fun g hg hr => ?_)
  unfold f_J1_indexOf_4cfef at h
  show g 0 0 0 [(0, .ref (x0 + 18)), (1, .int x1), (2, .int x2), (3, .int x3)] [] I X
  refine r_iload_n hg 1 dJ1_indexOf_4cfef_0 rfl rfl ?_
  obtain ⟨v1, e2, h⟩ := q_b1_some h
  refine r_cS1i hg dJ1_indexOf_4cfef_1 mt_J1_canEncode_9a6ad ⟨ml_J1_88, mst_J1_canEncode_9a6ad⟩ (s_J1_canEncode_9a6ad hΓ hX e2) (q_room (Nat.le_of_ble_eq_true rfl) (Nat.le_of_ble_eq_true rfl)) ⟨Nat.zero_le _, Nat.zero_le _⟩ (Nat.le_of_ble_eq_true rfl) ?_
  refine r_if_ne hg 9 dJ1_indexOf_4cfef_4 (by decide) (fun c3 => ?_) (fun c3 => ?_)
  · rw [if_neg c3] at h
    refine r_iload_n hg 2 dJ1_indexOf_4cfef_9 rfl rfl ?_
    refine r_iconst hg dJ1_indexOf_4cfef_10 ci_0 ?_
    refine r_maxq hg dJ1_indexOf_4cfef_11 mm_J1_92 ⟨Nat.le_of_ble_eq_true rfl, Nat.le_of_ble_eq_true rfl⟩ ⟨Nat.zero_le _, Nat.zero_le _⟩ ?_
    refine r_istore_n hg (L' := [(2, .int (q_max x2 (nI 0))), (0, .ref (x0 + 18)), (1, .int x1), (3, .int x3)]) dJ1_indexOf_4cfef_14 rfl (by decide) rfl ?_
    refine r_iload_n hg 3 dJ1_indexOf_4cfef_15 rfl rfl ?_
    refine r_aload_n hg 1 dJ1_indexOf_4cfef_16 rfl rfl ?_
    refine r_alenB hg dJ1_indexOf_4cfef_17 k_x0 ?_
    refine r_minq hg dJ1_indexOf_4cfef_18 mm_J1_38 ⟨Nat.le_of_ble_eq_true rfl, Nat.le_of_ble_eq_true rfl⟩ ⟨Nat.zero_le _, Nat.zero_le _⟩ ?_
    refine r_istore_n hg (L' := [(3, .int (q_min x3 (nI (q_slen.getD x0 0)))), (2, .int (q_max x2 (nI 0))), (0, .ref (x0 + 18)), (1, .int x1)]) dJ1_indexOf_4cfef_21 rfl (by decide) rfl ?_
    refine r_iload_n hg 1 dJ1_indexOf_4cfef_22 rfl rfl ?_
    refine r_iload_n hg 0 dJ1_indexOf_4cfef_23 rfl rfl ?_
    refine r_icmp_lt hg 29 dJ1_indexOf_4cfef_24 (by decide) (fun c4 => ?_) (fun c4 => ?_)
    · rw [if_pos c4] at h
      refine r_aload_n hg 2 dJ1_indexOf_4cfef_29 rfl rfl ?_
      refine r_iload_n hg 3 dJ1_indexOf_4cfef_30 rfl rfl ?_
      refine r_iload_n hg 1 dJ1_indexOf_4cfef_31 rfl rfl ?_
      refine r_iload_n hg 0 dJ1_indexOf_4cfef_32 rfl rfl ?_
      obtain ⟨v5, e6, h⟩ := q_b1_some h
      refine r_cS4i hg dJ1_indexOf_4cfef_33 mt_J1_indexOfChar_4cfef ⟨ml_J1_95, mst_J1_indexOfChar_4cfef⟩ (s_J1_indexOfChar_4cfef hΓ hX k_x0 e6) (q_room (Nat.le_of_ble_eq_true rfl) (Nat.le_of_ble_eq_true rfl)) ⟨Nat.zero_le _, Nat.zero_le _⟩ (Nat.le_of_ble_eq_true rfl) ?_
      exact r_ireturn hr dJ1_indexOf_4cfef_36 ⟨Nat.zero_le _, Nat.zero_le _⟩ ⟨_, rfl, rfl⟩ (by cases h; rfl)
    · rw [if_neg c4] at h
      refine r_iconst hg dJ1_indexOf_4cfef_27 ci_m1 ?_
      exact r_ireturn hr dJ1_indexOf_4cfef_28 ⟨Nat.zero_le _, Nat.zero_le _⟩ ⟨_, rfl, rfl⟩ (by cases h; rfl)
  · rw [if_pos (Classical.not_not.mp c3)] at h
    refine r_iconst hg dJ1_indexOf_4cfef_7 ci_m1 ?_
    exact r_ireturn hr dJ1_indexOf_4cfef_8 ⟨Nat.zero_le _, Nat.zero_le _⟩ ⟨_, rfl, rfl⟩ (by cases h; rfl)

def f_J1_charAt_3b067 (x0 : Nat) (x1 : Int32) : Option (Int32) :=
  q_b1 (f_J0_checkIndex_df160 x1 (nI (q_slen.getD x0 0))) fun _ =>
  q_b1 (q_rdO (q_sch x0) (q_slen.getD x0 0) x1) fun v3 =>
  q_b1 (q_nar .char (((v3 &&& (nI 255)).toUInt32 % 65536).toInt32)) fun _ =>
  some (((v3 &&& (nI 255)).toUInt32 % 65536).toInt32)
set_option maxRecDepth 100000 in
set_option maxHeartbeats 4000000 in
theorem s_J1_charAt_3b067 {l : Launch} {Γ : qC} (hΓ : q_gm Γ) {X : qX} (hX : q_Lay X) {x0 : Nat} {x1 : Int32} (k_x0 : x0 < 14) {I : qI} {z : Int32} (h : f_J1_charAt_3b067 x0 x1 = some z) : q_Sem l Γ (q_rm 4 0 0) yJ1_charAt_3b067 cJ1_charAt_3b067 2 (some .char) [.ref (x0 + 18), .int x1] I X (some (.int z), I, X) := by
  refine q_met (by decide) (Nat.le_of_ble_eq_true rfl) (fun g hg hr => ?_)
  unfold f_J1_charAt_3b067 at h
  show g 0 0 0 [(0, .ref (x0 + 18)), (1, .int x1)] [] I X
  refine r_iload_n hg 1 dJ1_charAt_3b067_0 rfl rfl ?_
  refine r_aload_n hg 0 dJ1_charAt_3b067_1 rfl rfl ?_
  refine r_alenB hg dJ1_charAt_3b067_2 k_x0 ?_
  obtain ⟨u2, e1, h⟩ := q_b1_some h
  refine r_cS2v hg dJ1_charAt_3b067_3 mt_J0_checkIndex_df160 ⟨ml_J1_9, mst_J0_checkIndex_df160⟩ (s_J0_checkIndex_df160 hΓ hX e1) (q_room (Nat.le_of_ble_eq_true rfl) (Nat.le_of_ble_eq_true rfl)) ⟨Nat.zero_le _, Nat.zero_le _⟩ (Nat.le_of_ble_eq_true rfl) ?_
  refine r_aload_n hg 0 dJ1_charAt_3b067_6 rfl rfl ?_
  refine r_iload_n hg 1 dJ1_charAt_3b067_7 rfl rfl ?_
  obtain ⟨v3, e4, h⟩ := q_b1_some h
  refine r_bald hg dJ1_charAt_3b067_8 k_x0 e4 ?_
  refine r_sipush hg dJ1_charAt_3b067_9 cs_255 ?_
  refine r_iand hg dJ1_charAt_3b067_12 ?_
  refine r_i2c hg dJ1_charAt_3b067_13 ?_
  obtain ⟨u7, e5, h⟩ := q_b1_some h
  obtain ⟨rfl, e6⟩ := q_nar_some e5
  exact r_ireturn hr dJ1_charAt_3b067_14 ⟨Nat.zero_le _, Nat.zero_le _⟩ ⟨_, rfl, e6⟩ (by cases h; rfl)

def f_J0_charAt_5068e (this : Nat) (x1 : Int32) : Option (Int32) :=
  q_b1 (f_J0_isLatin1_aae02 this) fun v1 =>
  if v1 = 0 then
    none
  else
    q_b1 (f_J1_charAt_3b067 this x1) fun v4 =>
    q_b1 (q_nar .char v4) fun _ =>
    some (v4)
set_option maxRecDepth 100000 in
set_option maxHeartbeats 4000000 in
theorem s_J0_charAt_5068e {l : Launch} {Γ : qC} (hΓ : q_gm Γ) {X : qX} (hX : q_Lay X) {this : Nat} {x1 : Int32} (k_this : this < 14) {I : qI} {z : Int32} (h : f_J0_charAt_5068e this x1 = some z) : q_Sem l Γ (q_rm 6 0 0) yJ0_charAt_5068e cJ0_charAt_5068e 2 (some .char) [.ref (this + 4), .int x1] I X (some (.int z), I, X) := by
  refine q_met (by decide) (Nat.le_of_ble_eq_true rfl) (fun g hg hr => ?_)
  unfold f_J0_charAt_5068e at h
  show g 0 0 0 [(0, .ref (this + 4)), (1, .int x1)] [] I X
  refine r_aload_n hg 0 dJ0_charAt_5068e_0 rfl rfl ?_
  obtain ⟨v1, e2, h⟩ := q_b1_some h
  refine r_cT0i hg dJ0_charAt_5068e_1 mt_J0_isLatin1_aae02 ml_J0_492 mvT_J0_isLatin1_aae02 k_this (s_J0_isLatin1_aae02 hΓ hX k_this e2) (q_room (Nat.le_of_ble_eq_true rfl) (Nat.le_of_ble_eq_true rfl)) ⟨Nat.zero_le _, Nat.zero_le _⟩ (Nat.le_of_ble_eq_true rfl) ?_
  refine r_if_eq hg 16 dJ0_charAt_5068e_4 (by decide) (fun c3 => ?_) (fun c3 => ?_)
  · rw [if_pos c3] at h
    refine r_aload_n hg 0 dJ0_charAt_5068e_16 rfl rfl ?_
    refine r_strV hg dJ0_charAt_5068e_17 k_this fs_J0_9 ?_
    refine r_iload_n hg 1 dJ0_charAt_5068e_20 rfl rfl ?_
    cases h
  · rw [if_neg c3] at h
    refine r_aload_n hg 0 dJ0_charAt_5068e_7 rfl rfl ?_
    refine r_strV hg dJ0_charAt_5068e_8 k_this fs_J0_9 ?_
    refine r_iload_n hg 1 dJ0_charAt_5068e_11 rfl rfl ?_
    obtain ⟨v4, e5, h⟩ := q_b1_some h
    refine r_cS2i hg dJ0_charAt_5068e_12 mt_J1_charAt_3b067 ⟨ml_J0_495, mst_J1_charAt_3b067⟩ (s_J1_charAt_3b067 hΓ hX k_this e5) (q_room (Nat.le_of_ble_eq_true rfl) (Nat.le_of_ble_eq_true rfl)) ⟨Nat.zero_le _, Nat.zero_le _⟩ (Nat.le_of_ble_eq_true rfl) ?_
    obtain ⟨u8, e6, h⟩ := q_b1_some h
    obtain ⟨rfl, e7⟩ := q_nar_some e6
    exact r_ireturn hr dJ0_charAt_5068e_15 ⟨Nat.zero_le _, Nat.zero_le _⟩ ⟨_, rfl, e7⟩ (by cases h; rfl)

def f_J0_indexOf_7cf53 (this : Nat) (x1 : Int32) (x2 : Int32) : Option (Int32) :=
  q_b1 (f_J0_isLatin1_aae02 this) fun v1 =>
  if v1 = 0 then
    q_b1 (f_J0_length_8abf5 this) fun v4 =>
    none
  else
    q_b1 (f_J0_length_8abf5 this) fun v6 =>
    q_b1 (f_J1_indexOf_4cfef this x1 x2 v6) fun v8 =>
    some (v8)
set_option maxRecDepth 100000 in
set_option maxHeartbeats 4000000 in
theorem s_J0_indexOf_7cf53 {l : Launch} {Γ : qC} (hΓ : q_gm Γ) {X : qX} (hX : q_Lay X) {this : Nat} {x1 : Int32} {x2 : Int32} (k_this : this < 14) {I : qI} {z : Int32} (h : f_J0_indexOf_7cf53 this x1 x2 = some z) : q_Sem l Γ (q_rm 7 0 0) yJ0_indexOf_7cf53 cJ0_indexOf_7cf53 3 (some .int) [.ref (this + 4), .int x1, .int x2] I X (some (.int z), I, X) := by
  refine q_met (by decide) (Nat.le_of_ble_eq_true rfl) (fun g hg hr => ?_)
  unfold f_J0_indexOf_7cf53 at h
  show g 0 0 0 [(0, .ref (this + 4)), (1, .int x1), (2, .int x2)] [] I X
  refine r_aload_n hg 0 dJ0_indexOf_7cf53_0 rfl rfl ?_
  obtain ⟨v1, e2, h⟩ := q_b1_some h
  refine r_cT0i hg dJ0_indexOf_7cf53_1 mt_J0_isLatin1_aae02 ml_J0_492 mvT_J0_isLatin1_aae02 k_this (s_J0_isLatin1_aae02 hΓ hX k_this e2) (q_room (Nat.le_of_ble_eq_true rfl) (Nat.le_of_ble_eq_true rfl)) ⟨Nat.zero_le _, Nat.zero_le _⟩ (Nat.le_of_ble_eq_true rfl) ?_
  refine r_if_eq hg 23 dJ0_indexOf_7cf53_4 (by decide) (fun c3 => ?_) (fun c3 => ?_)
  · rw [if_pos c3] at h
    refine r_aload_n hg 0 dJ0_indexOf_7cf53_23 rfl rfl ?_
    refine r_strV hg dJ0_indexOf_7cf53_24 k_this fs_J0_9 ?_
    refine r_iload_n hg 1 dJ0_indexOf_7cf53_27 rfl rfl ?_
    refine r_iload_n hg 2 dJ0_indexOf_7cf53_28 rfl rfl ?_
    refine r_aload_n hg 0 dJ0_indexOf_7cf53_29 rfl rfl ?_
    obtain ⟨v4, e5, h⟩ := q_b1_some h
    refine r_cT0i hg dJ0_indexOf_7cf53_30 mt_J0_length_8abf5 ml_J0_505 mvT_J0_length_8abf5 k_this (s_J0_length_8abf5 hΓ hX k_this e5) (q_room (Nat.le_of_ble_eq_true rfl) (Nat.le_of_ble_eq_true rfl)) ⟨Nat.zero_le _, Nat.zero_le _⟩ (Nat.le_of_ble_eq_true rfl) ?_
    cases h
  · rw [if_neg c3] at h
    refine r_aload_n hg 0 dJ0_indexOf_7cf53_7 rfl rfl ?_
    refine r_strV hg dJ0_indexOf_7cf53_8 k_this fs_J0_9 ?_
    refine r_iload_n hg 1 dJ0_indexOf_7cf53_11 rfl rfl ?_
    refine r_iload_n hg 2 dJ0_indexOf_7cf53_12 rfl rfl ?_
    refine r_aload_n hg 0 dJ0_indexOf_7cf53_13 rfl rfl ?_
    obtain ⟨v6, e7, h⟩ := q_b1_some h
    refine r_cT0i hg dJ0_indexOf_7cf53_14 mt_J0_length_8abf5 ml_J0_505 mvT_J0_length_8abf5 k_this (s_J0_length_8abf5 hΓ hX k_this e7) (q_room (Nat.le_of_ble_eq_true rfl) (Nat.le_of_ble_eq_true rfl)) ⟨Nat.zero_le _, Nat.zero_le _⟩ (Nat.le_of_ble_eq_true rfl) ?_
    obtain ⟨v8, e9, h⟩ := q_b1_some h
    refine r_cS4i hg dJ0_indexOf_7cf53_17 mt_J1_indexOf_4cfef ⟨ml_J0_637, mst_J1_indexOf_4cfef⟩ (s_J1_indexOf_4cfef hΓ hX k_this e9) (q_room (Nat.le_of_ble_eq_true rfl) (Nat.le_of_ble_eq_true rfl)) ⟨Nat.zero_le _, Nat.zero_le _⟩ (Nat.le_of_ble_eq_true rfl) ?_
    refine r_goto hg 36 dJ0_indexOf_7cf53_20 (by decide) ?_
    exact r_ireturn hr dJ0_indexOf_7cf53_36 ⟨Nat.zero_le _, Nat.zero_le _⟩ ⟨_, rfl, rfl⟩ (by cases h; rfl)

def b_X5_isWord_20 (this : Nat) (x1 : Nat) (I : qI) (k20 : Int32 → Option (Int32)) (x2 : Int32) : Option (Int32) :=
  q_b1 (f_J0_length_8abf5 x1) fun v1 =>
  if v1 ≤ x2 then
    some ((nI 1))
  else
    q_b1 (q_rd I (this + 1) 96 ((I this 4) + x2)) fun v5 =>
    q_b1 (f_J0_charAt_5068e x1 x2) fun v7 =>
    if v5 = v7 then
      k20 (x2 + (nI 1))
    else
      some ((nI 0))
set_option maxRecDepth 100000 in
set_option maxHeartbeats 4000000 in
theorem p_X5_isWord_20 {l : Launch} {Γ : qC} {g : qG} {z : Int32} {this : Nat} {x1 : Nat} {X : qX} {I : qI} (hΓ : q_gm Γ) (hg : q_Ok l Γ RX5 cX5_isWord 3 (q_rm 7 0 0) "isWord" (some .boolean) g) (hr : q_Rt cX5_isWord (some .boolean) (q_rm 7 0 0) (some (.int z), I, X) g) (hX : q_Lay X) (k_this : q_kd X this = some (7, 9)) (k_x1 : x1 < 14) {k20 : Int32 → Option (Int32)} (hk20 : ∀ (x2 : Int32), k20 x2 = some z → g 0 0 20 [(0, .ref this), (1, .ref (x1 + 4)), (2, .int x2)] [] I X) (x2 : Int32) (h : b_X5_isWord_20 this x1 I k20 x2 = some z) : g 0 0 20 [(0, .ref this), (1, .ref (x1 + 4)), (2, .int x2)] [] I X := by
  unfold b_X5_isWord_20 at h
  refine r_iload_n hg 2 dX5_isWord_20 rfl rfl ?_
  refine r_aload_n hg 1 dX5_isWord_21 rfl rfl ?_
  obtain ⟨v1, e2, h⟩ := q_b1_some h
  refine r_cT0i hg dX5_isWord_22 mt_J0_length_8abf5 ml_X5_72 mvT_J0_length_8abf5 k_x1 (s_J0_length_8abf5 hΓ hX k_x1 e2) (q_room (Nat.le_of_ble_eq_true rfl) (Nat.le_of_ble_eq_true rfl)) ⟨Nat.zero_le _, Nat.zero_le _⟩ (Nat.le_of_ble_eq_true rfl) ?_
  refine r_icmp_ge hg 55 dX5_isWord_25 (by decide) (fun c3 => ?_) (fun c3 => ?_)
  · rw [if_pos c3] at h
    refine r_iconst hg dX5_isWord_55 ci_1 ?_
    exact r_ireturn hr dX5_isWord_56 ⟨Nat.zero_le _, Nat.zero_le _⟩ ⟨_, rfl, bz_1.1⟩ (by cases h; rfl)
  · rw [if_neg c3] at h
    refine r_aload_n hg 0 dX5_isWord_28 rfl rfl ?_
    have e4 := ly_5_0 hX k_this
    refine r_getR hg dX5_isWord_29 fl_X5_9 k_this rfl e4.1 ?_
    refine r_aload_n hg 0 dX5_isWord_32 rfl rfl ?_
    refine r_getI hg dX5_isWord_33 fl_X5_48 k_this rfl ?_
    refine r_iload_n hg 2 dX5_isWord_36 rfl rfl ?_
    refine r_iadd hg dX5_isWord_37 ?_
    obtain ⟨v5, e6, h⟩ := q_b1_some h
    refine r_iald hg dX5_isWord_38 e4.2 e6 ?_
    refine r_aload_n hg 1 dX5_isWord_39 rfl rfl ?_
    refine r_iload_n hg 2 dX5_isWord_40 rfl rfl ?_
    obtain ⟨v7, e8, h⟩ := q_b1_some h
    refine r_cT1i hg dX5_isWord_41 mt_J0_charAt_5068e ml_X5_76 mvT_J0_charAt_5068e k_x1 (s_J0_charAt_5068e hΓ hX k_x1 e8) (q_room (Nat.le_of_ble_eq_true rfl) (Nat.le_of_ble_eq_true rfl)) ⟨Nat.zero_le _, Nat.zero_le _⟩ (Nat.le_of_ble_eq_true rfl) ?_
    refine r_icmp_eq hg 49 dX5_isWord_44 (by decide) (fun c9 => ?_) (fun c9 => ?_)
    · rw [if_pos c9] at h
      refine r_iinc hg 2 (v := (x2 + (nI 1))) (L' := [(2, .int (x2 + (nI 1))), (0, .ref this), (1, .ref (x1 + 4))]) dX5_isWord_49 rfl (by rw [ci_1]) (by decide) rfl ?_
      refine r_goto hg 20 dX5_isWord_52 (by decide) ?_
      refine r_sub hg [1, 2, 0] rfl ?_
      exact hk20 _ h
    · rw [if_neg c9] at h
      refine r_iconst hg dX5_isWord_47 ci_0 ?_
      exact r_ireturn hr dX5_isWord_48 ⟨Nat.zero_le _, Nat.zero_le _⟩ ⟨_, rfl, bz_0.1⟩ (by cases h; rfl)
theorem pl_X5_isWord_20 {l : Launch} {Γ : qC} {g : qG} {z : Int32} {this : Nat} {x1 : Nat} {X : qX} {I : qI} (hΓ : q_gm Γ) (hg : q_Ok l Γ RX5 cX5_isWord 3 (q_rm 7 0 0) "isWord" (some .boolean) g) (hr : q_Rt cX5_isWord (some .boolean) (q_rm 7 0 0) (some (.int z), I, X) g) (hX : q_Lay X) (k_this : q_kd X this = some (7, 9)) (k_x1 : x1 < 14) : ∀ (n : Nat) (x2 : Int32), q_fix (fun _ => none) (b_X5_isWord_20 this x1 I) n x2 = some z → g 0 0 20 [(0, .ref this), (1, .ref (x1 + 4)), (2, .int x2)] [] I X := by
  intro n
  induction n with
  | zero =>
    intro x2 h
    cases (show (none : Option (Int32)) = some z from h)
  | succ n ih =>
    intro x2 h
    exact p_X5_isWord_20 hΓ hg hr hX k_this k_x1 ih _ h
def f_X5_isWord (this : Nat) (x1 : Nat) (I : qI) : Option (Int32) :=
  q_b1 (f_J0_length_8abf5 x1) fun v1 =>
  if v1 = ((I this 5) - (I this 4)) then
    q_fix (fun _ => none) (b_X5_isWord_20 this x1 I) q_fu (nI 0)
  else
    some ((nI 0))
set_option maxRecDepth 100000 in
set_option maxHeartbeats 4000000 in
theorem s_X5_isWord {l : Launch} {Γ : qC} (hΓ : q_gm Γ) {X : qX} (hX : q_Lay X) {this : Nat} {x1 : Nat} (k_this : q_kd X this = some (7, 9)) (k_x1 : x1 < 14) {I : qI} {z : Int32} (h : f_X5_isWord this x1 I = some z) : q_Sem l Γ (q_rm 7 0 0) yX5_isWord cX5_isWord 3 (some .boolean) [.ref this, .ref (x1 + 4)] I X (some (.int z), I, X) := by
  refine q_met (by decide) (Nat.le_of_ble_eq_true rfl) (fun g hg hr => ?_)
  unfold f_X5_isWord at h
  show g 0 0 0 [(0, .ref this), (1, .ref (x1 + 4))] [] I X
  refine r_aload_n hg 1 dX5_isWord_0 rfl rfl ?_
  obtain ⟨v1, e2, h⟩ := q_b1_some h
  refine r_cT0i hg dX5_isWord_1 mt_J0_length_8abf5 ml_X5_72 mvT_J0_length_8abf5 k_x1 (s_J0_length_8abf5 hΓ hX k_x1 e2) (q_room (Nat.le_of_ble_eq_true rfl) (Nat.le_of_ble_eq_true rfl)) ⟨Nat.zero_le _, Nat.zero_le _⟩ (Nat.le_of_ble_eq_true rfl) ?_
  refine r_aload_n hg 0 dX5_isWord_4 rfl rfl ?_
  refine r_getI hg dX5_isWord_5 fl_X5_35 k_this rfl ?_
  refine r_aload_n hg 0 dX5_isWord_8 rfl rfl ?_
  refine r_getI hg dX5_isWord_9 fl_X5_48 k_this rfl ?_
  refine r_isub hg dX5_isWord_12 ?_
  refine r_icmp_eq hg 18 dX5_isWord_13 (by decide) (fun c3 => ?_) (fun c3 => ?_)
  · rw [if_pos c3] at h
    refine r_iconst hg dX5_isWord_18 ci_0 ?_
    refine r_istore_n hg (L' := [(2, .int (nI 0)), (0, .ref this), (1, .ref (x1 + 4))]) dX5_isWord_19 rfl (by decide) rfl ?_
    refine r_sub hg [1, 2, 0] rfl ?_
    exact pl_X5_isWord_20 hΓ hg hr hX k_this k_x1 _ _ h
  · rw [if_neg c3] at h
    refine r_iconst hg dX5_isWord_16 ci_0 ?_
    exact r_ireturn hr dX5_isWord_17 ⟨Nat.zero_le _, Nat.zero_le _⟩ ⟨_, rfl, bz_0.1⟩ (by cases h; rfl)

def f_J0_indexOf_0f7a4 (this : Nat) (x1 : Int32) : Option (Int32) :=
  q_b1 (f_J0_indexOf_7cf53 this x1 (nI 0)) fun v1 =>
  some (v1)
set_option maxRecDepth 100000 in
set_option maxHeartbeats 4000000 in
theorem s_J0_indexOf_0f7a4 {l : Launch} {Γ : qC} (hΓ : q_gm Γ) {X : qX} (hX : q_Lay X) {this : Nat} {x1 : Int32} (k_this : this < 14) {I : qI} {z : Int32} (h : f_J0_indexOf_0f7a4 this x1 = some z) : q_Sem l Γ (q_rm 8 0 0) yJ0_indexOf_0f7a4 cJ0_indexOf_0f7a4 2 (some .int) [.ref (this + 4), .int x1] I X (some (.int z), I, X) := by
  refine q_met (by decide) (Nat.le_of_ble_eq_true rfl) (fun g hg hr => ?_)
  unfold f_J0_indexOf_0f7a4 at h
  show g 0 0 0 [(0, .ref (this + 4)), (1, .int x1)] [] I X
  refine r_aload_n hg 0 dJ0_indexOf_0f7a4_0 rfl rfl ?_
  refine r_iload_n hg 1 dJ0_indexOf_0f7a4_1 rfl rfl ?_
  refine r_iconst hg dJ0_indexOf_0f7a4_2 ci_0 ?_
  obtain ⟨v1, e2, h⟩ := q_b1_some h
  refine r_cT2i hg dJ0_indexOf_0f7a4_3 mt_J0_indexOf_7cf53 ml_J0_633 mvT_J0_indexOf_7cf53 k_this (s_J0_indexOf_7cf53 hΓ hX k_this e2) (q_room (Nat.le_of_ble_eq_true rfl) (Nat.le_of_ble_eq_true rfl)) ⟨Nat.zero_le _, Nat.zero_le _⟩ (Nat.le_of_ble_eq_true rfl) ?_
  exact r_ireturn hr dJ0_indexOf_0f7a4_6 ⟨Nat.zero_le _, Nat.zero_le _⟩ ⟨_, rfl, rfl⟩ (by cases h; rfl)

def b_X5_keyHere_12 (this : Nat) (I : qI) (k12 : Int32 → Option (Int32)) (x1 : Int32) : Option (Int32) :=
  if (nI 6) < x1 then
    some ((-1))
  else
    q_b1 (f_X5_word x1) fun v2 =>
    if 14 ≤ v2 then none else
    q_b1 (f_X5_isWord this v2 I) fun v5 =>
    if v5 = 0 then
      k12 (x1 + (nI 1))
    else
      some (x1)
set_option maxRecDepth 100000 in
set_option maxHeartbeats 4000000 in
theorem p_X5_keyHere_12 {l : Launch} {Γ : qC} {g : qG} {z : Int32} {this : Nat} {X : qX} {I : qI} (hΓ : q_gm Γ) (hg : q_Ok l Γ RX5 cX5_keyHere 2 (q_rm 8 0 0) "keyHere" (some .int) g) (hr : q_Rt cX5_keyHere (some .int) (q_rm 8 0 0) (some (.int z), I, X) g) (hX : q_Lay X) (k_this : q_kd X this = some (7, 9)) {k12 : Int32 → Option (Int32)} (hk12 : ∀ (x1 : Int32), k12 x1 = some z → g 0 0 12 [(0, .ref this), (1, .int x1)] [] I X) (x1 : Int32) (h : b_X5_keyHere_12 this I k12 x1 = some z) : g 0 0 12 [(0, .ref this), (1, .int x1)] [] I X := by
  unfold b_X5_keyHere_12 at h
  refine r_iload_n hg 1 dX5_keyHere_12 rfl rfl ?_
  refine r_bipush hg dX5_keyHere_13 cb_6 ?_
  refine r_icmp_gt hg 37 dX5_keyHere_15 (by decide) (fun c1 => ?_) (fun c1 => ?_)
  · rw [if_pos c1] at h
    refine r_iconst hg dX5_keyHere_37 ci_m1 ?_
    exact r_ireturn hr dX5_keyHere_38 ⟨Nat.zero_le _, Nat.zero_le _⟩ ⟨_, rfl, rfl⟩ (by cases h; rfl)
  · rw [if_neg c1] at h
    refine r_aload_n hg 0 dX5_keyHere_18 rfl rfl ?_
    refine r_iload_n hg 1 dX5_keyHere_19 rfl rfl ?_
    obtain ⟨v2, e3, h⟩ := q_b1_some h
    refine r_cS1q (r := some (v2 + 4)) hg dX5_keyHere_20 mt_X5_word ⟨ml_X5_64, mst_X5_word⟩ (s_X5_word hΓ hX e3) (q_room (Nat.le_of_ble_eq_true rfl) (Nat.le_of_ble_eq_true rfl)) ⟨Nat.zero_le _, Nat.zero_le _⟩ (Nat.le_of_ble_eq_true rfl) ?_
    by_cases c4 : 14 ≤ v2
    · rw [if_pos c4] at h; cases h
    rw [if_neg c4] at h
    obtain ⟨v5, e6, h⟩ := q_b1_some h
    refine r_cV1i hg dX5_keyHere_23 mt_X5_isWord ml_X5_68 mv_X5_isWord k_this (s_X5_isWord hΓ hX k_this (Nat.lt_of_not_le c4) e6) (q_room (Nat.le_of_ble_eq_true rfl) (Nat.le_of_ble_eq_true rfl)) ⟨Nat.zero_le _, Nat.zero_le _⟩ (Nat.le_of_ble_eq_true rfl) ?_
    refine r_if_eq hg 31 dX5_keyHere_26 (by decide) (fun c7 => ?_) (fun c7 => ?_)
    · rw [if_pos c7] at h
      refine r_iinc hg 1 (v := (x1 + (nI 1))) (L' := [(1, .int (x1 + (nI 1))), (0, .ref this)]) dX5_keyHere_31 rfl (by rw [ci_1]) (by decide) rfl ?_
      refine r_goto hg 12 dX5_keyHere_34 (by decide) ?_
      refine r_sub hg [1, 0] rfl ?_
      exact hk12 _ h
    · rw [if_neg c7] at h
      refine r_iload_n hg 1 dX5_keyHere_29 rfl rfl ?_
      exact r_ireturn hr dX5_keyHere_30 ⟨Nat.zero_le _, Nat.zero_le _⟩ ⟨_, rfl, rfl⟩ (by cases h; rfl)
theorem pl_X5_keyHere_12 {l : Launch} {Γ : qC} {g : qG} {z : Int32} {this : Nat} {X : qX} {I : qI} (hΓ : q_gm Γ) (hg : q_Ok l Γ RX5 cX5_keyHere 2 (q_rm 8 0 0) "keyHere" (some .int) g) (hr : q_Rt cX5_keyHere (some .int) (q_rm 8 0 0) (some (.int z), I, X) g) (hX : q_Lay X) (k_this : q_kd X this = some (7, 9)) : ∀ (n : Nat) (x1 : Int32), q_fix (fun _ => none) (b_X5_keyHere_12 this I) n x1 = some z → g 0 0 12 [(0, .ref this), (1, .int x1)] [] I X := by
  intro n
  induction n with
  | zero =>
    intro x1 h
    cases (show (none : Option (Int32)) = some z from h)
  | succ n ih =>
    intro x1 h
    exact p_X5_keyHere_12 hΓ hg hr hX k_this ih _ h
def f_X5_keyHere (this : Nat) (I : qI) : Option (Int32) :=
  if (I this 3) = (nI 1) then
    q_fix (fun _ => none) (b_X5_keyHere_12 this I) q_fu (nI 0)
  else
    some ((-1))
set_option maxRecDepth 100000 in
set_option maxHeartbeats 4000000 in
theorem s_X5_keyHere {l : Launch} {Γ : qC} (hΓ : q_gm Γ) {X : qX} (hX : q_Lay X) {this : Nat} (k_this : q_kd X this = some (7, 9)) {I : qI} {z : Int32} (h : f_X5_keyHere this I = some z) : q_Sem l Γ (q_rm 8 0 0) yX5_keyHere cX5_keyHere 2 (some .int) [.ref this] I X (some (.int z), I, X) := by
  refine q_met (by decide) (Nat.le_of_ble_eq_true rfl) (fun g hg hr => ?_)
  unfold f_X5_keyHere at h
  show g 0 0 0 [(0, .ref this)] [] I X
  refine r_aload_n hg 0 dX5_keyHere_0 rfl rfl ?_
  refine r_getI hg dX5_keyHere_1 fl_X5_32 k_this rfl ?_
  refine r_iconst hg dX5_keyHere_4 ci_1 ?_
  refine r_icmp_eq hg 10 dX5_keyHere_5 (by decide) (fun c1 => ?_) (fun c1 => ?_)
  · rw [if_pos c1] at h
    refine r_iconst hg dX5_keyHere_10 ci_0 ?_
    refine r_istore_n hg (L' := [(1, .int (nI 0)), (0, .ref this)]) dX5_keyHere_11 rfl (by decide) rfl ?_
    refine r_sub hg [1, 0] rfl ?_
    exact pl_X5_keyHere_12 hΓ hg hr hX k_this _ _ h
  · rw [if_neg c1] at h
    refine r_iconst hg dX5_keyHere_8 ci_m1 ?_
    exact r_ireturn hr dX5_keyHere_9 ⟨Nat.zero_le _, Nat.zero_le _⟩ ⟨_, rfl, rfl⟩ (by cases h; rfl)

def b_X5_name_37 (this : Nat) (I : qI) (s0 : Int32) : Option (Int32) :=
  if 0 ≤ s0 then
    some (((nI 10000) + s0))
  else
    some ((-1))
set_option maxRecDepth 100000 in
set_option maxHeartbeats 4000000 in
theorem p_X5_name_37 {l : Launch} {Γ : qC} {g : qG} {z : Int32} {this : Nat} {X : qX} {I : qI} (hΓ : q_gm Γ) (hg : q_Ok l Γ RX5 cX5_name 2 (q_rm 9 0 0) "name" (some .int) g) (hr : q_Rt cX5_name (some .int) (q_rm 9 0 0) (some (.int z), I, X) g) (hX : q_Lay X) (k_this : q_kd X this = some (7, 9)) (s0 : Int32) (h : b_X5_name_37 this I s0 = some z) : g 0 0 37 [] [.int s0] I X := by
  unfold b_X5_name_37 at h
  refine r_istore_n hg (L' := [(1, .int s0)]) dX5_name_37 rfl (by decide) rfl ?_
  refine r_iload_n hg 0 dX5_name_38 rfl rfl ?_
  refine r_if_ge hg 46 dX5_name_39 (by decide) (fun c1 => ?_) (fun c1 => ?_)
  · rw [if_pos c1] at h
    refine r_sipush hg dX5_name_46 cs_10000 ?_
    refine r_iload_n hg 0 dX5_name_49 rfl rfl ?_
    refine r_iadd hg dX5_name_50 ?_
    exact r_ireturn hr dX5_name_51 ⟨Nat.zero_le _, Nat.zero_le _⟩ ⟨_, rfl, rfl⟩ (by cases h; rfl)
  · rw [if_neg c1] at h
    refine r_iconst hg dX5_name_42 ci_m1 ?_
    refine r_goto hg 51 dX5_name_43 (by decide) ?_
    exact r_ireturn hr dX5_name_51 ⟨Nat.zero_le _, Nat.zero_le _⟩ ⟨_, rfl, rfl⟩ (by cases h; rfl)
def f_X5_name (this : Nat) (I : qI) : Option (Int32) :=
  if ((I this 5) - (I this 4)) = (nI 1) then
    q_b1 (f_X5_names (I this 7)) fun v2 =>
    if 14 ≤ v2 then none else
    q_b1 (q_rd I (this + 1) 96 (I this 4)) fun v6 =>
    q_b1 (f_J0_indexOf_0f7a4 v2 ((v6.toUInt32 % 65536).toInt32)) fun v8 =>
    b_X5_name_37 this I v8
  else
    b_X5_name_37 this I (-1)
set_option maxRecDepth 100000 in
set_option maxHeartbeats 4000000 in
theorem s_X5_name {l : Launch} {Γ : qC} (hΓ : q_gm Γ) {X : qX} (hX : q_Lay X) {this : Nat} (k_this : q_kd X this = some (7, 9)) {I : qI} {z : Int32} (h : f_X5_name this I = some z) : q_Sem l Γ (q_rm 9 0 0) yX5_name cX5_name 2 (some .int) [.ref this] I X (some (.int z), I, X) := by
  refine q_met (by decide) (Nat.le_of_ble_eq_true rfl) (fun g hg hr => ?_)
  unfold f_X5_name at h
  show g 0 0 0 [(0, .ref this)] [] I X
  refine r_aload_n hg 0 dX5_name_0 rfl rfl ?_
  refine r_getI hg dX5_name_1 fl_X5_35 k_this rfl ?_
  refine r_aload_n hg 0 dX5_name_4 rfl rfl ?_
  refine r_getI hg dX5_name_5 fl_X5_48 k_this rfl ?_
  refine r_isub hg dX5_name_8 ?_
  refine r_iconst hg dX5_name_9 ci_1 ?_
  refine r_icmp_ne hg 36 dX5_name_10 (by decide) (fun c1 => ?_) (fun c1 => ?_)
  · rw [if_neg c1] at h
    refine r_iconst hg dX5_name_36 ci_m1 ?_
    refine r_sub hg [] rfl ?_
    exact p_X5_name_37 hΓ hg hr hX k_this _ h
  · rw [if_pos (Classical.not_not.mp c1)] at h
    refine r_aload_n hg 0 dX5_name_13 rfl rfl ?_
    refine r_getI hg dX5_name_14 fl_X5_45 k_this rfl ?_
    obtain ⟨v2, e3, h⟩ := q_b1_some h
    refine r_cS1q (r := some (v2 + 4)) hg dX5_name_17 mt_X5_names ⟨ml_X5_131, mst_X5_names⟩ (s_X5_names hΓ hX e3) (q_room (Nat.le_of_ble_eq_true rfl) (Nat.le_of_ble_eq_true rfl)) ⟨Nat.zero_le _, Nat.zero_le _⟩ (Nat.le_of_ble_eq_true rfl) ?_
    by_cases c4 : 14 ≤ v2
    · rw [if_pos c4] at h; cases h
    rw [if_neg c4] at h
    refine r_aload_n hg 0 dX5_name_20 rfl rfl ?_
    have e5 := ly_5_0 hX k_this
    refine r_getR hg dX5_name_21 fl_X5_9 k_this rfl e5.1 ?_
    refine r_aload_n hg 0 dX5_name_24 rfl rfl ?_
    refine r_getI hg dX5_name_25 fl_X5_48 k_this rfl ?_
    obtain ⟨v6, e7, h⟩ := q_b1_some h
    refine r_iald hg dX5_name_28 e5.2 e7 ?_
    refine r_i2c hg dX5_name_29 ?_
    obtain ⟨v8, e9, h⟩ := q_b1_some h
    refine r_cT1i hg dX5_name_30 mt_J0_indexOf_0f7a4 ml_X5_134 mvT_J0_indexOf_0f7a4 (Nat.lt_of_not_le c4) (s_J0_indexOf_0f7a4 hΓ hX (Nat.lt_of_not_le c4) e9) (q_room (Nat.le_of_ble_eq_true rfl) (Nat.le_of_ble_eq_true rfl)) ⟨Nat.zero_le _, Nat.zero_le _⟩ (Nat.le_of_ble_eq_true rfl) ?_
    refine r_goto hg 37 dX5_name_33 (by decide) ?_
    refine r_sub hg [] rfl ?_
    exact p_X5_name_37 hΓ hg hr hX k_this _ h

def b_X5_expression_42 (this : Nat) (x1 : Int32) (x2 : Int32) (x3 : Int32) (F_X5_expression : Nat → Int32 → Int32 → Int32 → qI → Option (Int32 × qI)) (F_X5_part : Nat → Int32 → Int32 → qI → Option (Int32 × qI)) (k42 : Int32 → Int32 → qI → Option (Int32 × qI)) (x4 : Int32) (x5 : Int32) (I : qI) : Option (Int32 × qI) :=
  if x4 ≤ x5 then
    some ((nI 1), I)
  else
    q_b1 (f_X5_joinsAt this x1 I) fun v2 =>
    if v2 = 0 then
      some ((nI 1), I)
    else
      q_b1 (q_rd I (this + 1) 96 (I this 4)) fun v6 =>
      q_b1 (f_X5_goOn this I) fun I8 =>
      q_b2 (F_X5_expression this (x1 + (nI 1)) x2 x3 I8) fun v10 I11 =>
      if v10 = 0 then
        some ((nI 0), I11)
      else
        q_b1 (f_X5_emit this (-v6) I11) fun I14 =>
        k42 x4 (x5 + (nI 1)) I14
set_option maxRecDepth 100000 in
set_option maxHeartbeats 4000000 in
theorem p_X5_expression_42 {l : Launch} {Γ : qC} {g : qG} {z : Int32 × qI} {this : Nat} {x1 : Int32} {x2 : Int32} {x3 : Int32} {d : Nat} {F_X5_expression : Nat → Int32 → Int32 → Int32 → qI → Option (Int32 × qI)} {F_X5_part : Nat → Int32 → Int32 → qI → Option (Int32 × qI)} {X : qX} (hΓ : q_gm Γ) (hg : q_Ok l Γ RX5 cX5_expression 7 (q_rm (10 + (d + 1)) 0 0) "expression" (some .boolean) g) (hr : q_Rt cX5_expression (some .boolean) (q_rm (10 + (d + 1)) 0 0) (some (.int z.1), z.2, X) g) (hX : q_Lay X) (k_this : q_kd X this = some (7, 9)) (ih_X5_expression : ∀ {X : qX} (_ : q_Lay X) {this : Nat} {x1 : Int32} {x2 : Int32} {x3 : Int32} (k_this : q_kd X this = some (7, 9)) {I : qI} {z : Int32 × qI}, F_X5_expression this x1 x2 x3 I = some z → q_Sem l Γ (q_rm (10 + d) 0 0) yX5_expression cX5_expression 7 (some .boolean) [.ref this, .int x1, .int x2, .int x3] I X (some (.int z.1), z.2, X)) (ih_X5_part : ∀ {X : qX} (_ : q_Lay X) {this : Nat} {x1 : Int32} {x2 : Int32} (k_this : q_kd X this = some (7, 9)) {I : qI} {z : Int32 × qI}, F_X5_part this x1 x2 I = some z → q_Sem l Γ (q_rm (10 + d) 0 0) yX5_part cX5_part 3 (some .boolean) [.ref this, .int x1, .int x2] I X (some (.int z.1), z.2, X)) {k42 : Int32 → Int32 → qI → Option (Int32 × qI)} (hk42 : ∀ (x4 : Int32) (x5 : Int32) (I : qI), k42 x4 x5 I = some z → g 0 0 42 [(0, .ref this), (1, .int x1), (2, .int x2), (3, .int x3), (4, .int x4), (5, .int x5)] [] I X) (x4 : Int32) (x5 : Int32) (I : qI) (h : b_X5_expression_42 this x1 x2 x3 F_X5_expression F_X5_part k42 x4 x5 I = some z) : g 0 0 42 [(0, .ref this), (1, .int x1), (2, .int x2), (3, .int x3), (4, .int x4), (5, .int x5)] [] I X := by
  unfold b_X5_expression_42 at h
  refine r_iload hg 5 dX5_expression_42 rfl ?_
  refine r_iload hg 4 dX5_expression_44 rfl ?_
  refine r_icmp_ge hg 99 dX5_expression_46 (by decide) (fun c1 => ?_) (fun c1 => ?_)
  · rw [if_pos c1] at h
    refine r_iconst hg dX5_expression_99 ci_1 ?_
    exact r_ireturn hr dX5_expression_100 ⟨Nat.zero_le _, Nat.zero_le _⟩ ⟨_, rfl, bz_1.1⟩ (by cases h; rfl)
  · rw [if_neg c1] at h
    refine r_aload_n hg 0 dX5_expression_49 rfl rfl ?_
    refine r_iload_n hg 1 dX5_expression_50 rfl rfl ?_
    obtain ⟨v2, e3, h⟩ := q_b1_some h
    refine r_cV1i hg dX5_expression_51 mt_X5_joinsAt ml_X5_112 mv_X5_joinsAt k_this (s_X5_joinsAt hΓ hX k_this e3) (q_room (by omega) (Nat.le_of_ble_eq_true rfl)) ⟨Nat.zero_le _, Nat.zero_le _⟩ (Nat.le_of_ble_eq_true rfl) ?_
    refine r_if_eq hg 99 dX5_expression_54 (by decide) (fun c4 => ?_) (fun c4 => ?_)
    · rw [if_pos c4] at h
      refine r_iconst hg dX5_expression_99 ci_1 ?_
      exact r_ireturn hr dX5_expression_100 ⟨Nat.zero_le _, Nat.zero_le _⟩ ⟨_, rfl, bz_1.1⟩ (by cases h; rfl)
    · rw [if_neg c4] at h
      refine r_aload_n hg 0 dX5_expression_57 rfl rfl ?_
      have e5 := ly_5_0 hX k_this
      refine r_getR hg dX5_expression_58 fl_X5_9 k_this rfl e5.1 ?_
      refine r_aload_n hg 0 dX5_expression_61 rfl rfl ?_
      refine r_getI hg dX5_expression_62 fl_X5_48 k_this rfl ?_
      obtain ⟨v6, e7, h⟩ := q_b1_some h
      refine r_iald hg dX5_expression_65 e5.2 e7 ?_
      refine r_istore hg (L' := [(6, .int v6), (0, .ref this), (1, .int x1), (2, .int x2), (3, .int x3), (4, .int x4), (5, .int x5)]) dX5_expression_66 (by decide) rfl ?_
      refine r_aload_n hg 1 dX5_expression_68 rfl rfl ?_
      obtain ⟨I8, e9, h⟩ := q_b1_some h
      refine r_cV0v hg dX5_expression_69 mt_X5_goOn ml_X5_38 mv_X5_goOn k_this (s_X5_goOn hΓ hX k_this e9) (q_room (by omega) (Nat.le_of_ble_eq_true rfl)) ⟨Nat.zero_le _, Nat.zero_le _⟩ (Nat.le_of_ble_eq_true rfl) ?_
      refine r_aload_n hg 1 dX5_expression_72 rfl rfl ?_
      refine r_iload_n hg 2 dX5_expression_73 rfl rfl ?_
      refine r_iconst hg dX5_expression_74 ci_1 ?_
      refine r_iadd hg dX5_expression_75 ?_
      refine r_iload_n hg 3 dX5_expression_76 rfl rfl ?_
      refine r_iload_n hg 4 dX5_expression_77 rfl rfl ?_
      obtain ⟨v10, I11, e12, h⟩ := q_b2_some h
      refine r_cV3i hg dX5_expression_78 mt_X5_expression ml_X5_51 mv_X5_expression k_this (ih_X5_expression hX k_this e12) (q_room (by omega) (Nat.le_of_ble_eq_true rfl)) ⟨Nat.zero_le _, Nat.zero_le _⟩ (Nat.le_of_ble_eq_true rfl) ?_
      refine r_if_ne hg 86 dX5_expression_81 (by decide) (fun c13 => ?_) (fun c13 => ?_)
      · rw [if_neg c13] at h
        refine r_aload_n hg 1 dX5_expression_86 rfl rfl ?_
        refine r_iload hg 0 dX5_expression_87 rfl ?_
        refine r_ineg hg dX5_expression_89 ?_
        obtain ⟨I14, e15, h⟩ := q_b1_some h
        refine r_cV1v hg dX5_expression_90 mt_X5_emit ml_X5_115 mv_X5_emit k_this (s_X5_emit hΓ hX k_this e15) (q_room (by omega) (Nat.le_of_ble_eq_true rfl)) ⟨Nat.zero_le _, Nat.zero_le _⟩ (Nat.le_of_ble_eq_true rfl) ?_
        refine r_iinc hg 6 (v := (x5 + (nI 1))) (L' := [(5, .int (x5 + (nI 1))), (6, .int v6), (0, .ref this), (1, .int x1), (2, .int x2), (3, .int x3), (4, .int x4)]) dX5_expression_93 rfl (by rw [ci_1]) (by decide) rfl ?_
        refine r_goto hg 42 dX5_expression_96 (by decide) ?_
        refine r_sub hg [2, 3, 4, 5, 6, 0] rfl ?_
        exact hk42 _ _ _ h
      · rw [if_pos (Classical.not_not.mp c13)] at h
        refine r_iconst hg dX5_expression_84 ci_0 ?_
        exact r_ireturn hr dX5_expression_85 ⟨Nat.zero_le _, Nat.zero_le _⟩ ⟨_, rfl, bz_0.1⟩ (by cases h; rfl)
theorem pl_X5_expression_42 {l : Launch} {Γ : qC} {g : qG} {z : Int32 × qI} {this : Nat} {x1 : Int32} {x2 : Int32} {x3 : Int32} {d : Nat} {F_X5_expression : Nat → Int32 → Int32 → Int32 → qI → Option (Int32 × qI)} {F_X5_part : Nat → Int32 → Int32 → qI → Option (Int32 × qI)} {X : qX} (hΓ : q_gm Γ) (hg : q_Ok l Γ RX5 cX5_expression 7 (q_rm (10 + (d + 1)) 0 0) "expression" (some .boolean) g) (hr : q_Rt cX5_expression (some .boolean) (q_rm (10 + (d + 1)) 0 0) (some (.int z.1), z.2, X) g) (hX : q_Lay X) (k_this : q_kd X this = some (7, 9)) (ih_X5_expression : ∀ {X : qX} (_ : q_Lay X) {this : Nat} {x1 : Int32} {x2 : Int32} {x3 : Int32} (k_this : q_kd X this = some (7, 9)) {I : qI} {z : Int32 × qI}, F_X5_expression this x1 x2 x3 I = some z → q_Sem l Γ (q_rm (10 + d) 0 0) yX5_expression cX5_expression 7 (some .boolean) [.ref this, .int x1, .int x2, .int x3] I X (some (.int z.1), z.2, X)) (ih_X5_part : ∀ {X : qX} (_ : q_Lay X) {this : Nat} {x1 : Int32} {x2 : Int32} (k_this : q_kd X this = some (7, 9)) {I : qI} {z : Int32 × qI}, F_X5_part this x1 x2 I = some z → q_Sem l Γ (q_rm (10 + d) 0 0) yX5_part cX5_part 3 (some .boolean) [.ref this, .int x1, .int x2] I X (some (.int z.1), z.2, X)) : ∀ (n : Nat) (x4 : Int32) (x5 : Int32) (I : qI), q_fix (fun _ _ _ => none) (b_X5_expression_42 this x1 x2 x3 F_X5_expression F_X5_part) n x4 x5 I = some z → g 0 0 42 [(0, .ref this), (1, .int x1), (2, .int x2), (3, .int x3), (4, .int x4), (5, .int x5)] [] I X := by
  intro n
  induction n with
  | zero =>
    intro x4 x5 I h
    cases (show (none : Option (Int32 × qI)) = some z from h)
  | succ n ih =>
    intro x4 x5 I h
    exact p_X5_expression_42 hΓ hg hr hX k_this ih_X5_expression ih_X5_part ih _ _ _ h
def b_X5_expression_37 (this : Nat) (x1 : Int32) (x2 : Int32) (x3 : Int32) (F_X5_expression : Nat → Int32 → Int32 → Int32 → qI → Option (Int32 × qI)) (F_X5_part : Nat → Int32 → Int32 → qI → Option (Int32 × qI)) (s0 : Int32) (I : qI) : Option (Int32 × qI) :=
  q_fix (fun _ _ _ => none) (b_X5_expression_42 this x1 x2 x3 F_X5_expression F_X5_part) q_fu s0 (nI 0) I
set_option maxRecDepth 100000 in
set_option maxHeartbeats 4000000 in
theorem p_X5_expression_37 {l : Launch} {Γ : qC} {g : qG} {z : Int32 × qI} {this : Nat} {x1 : Int32} {x2 : Int32} {x3 : Int32} {d : Nat} {F_X5_expression : Nat → Int32 → Int32 → Int32 → qI → Option (Int32 × qI)} {F_X5_part : Nat → Int32 → Int32 → qI → Option (Int32 × qI)} {X : qX} (hΓ : q_gm Γ) (hg : q_Ok l Γ RX5 cX5_expression 7 (q_rm (10 + (d + 1)) 0 0) "expression" (some .boolean) g) (hr : q_Rt cX5_expression (some .boolean) (q_rm (10 + (d + 1)) 0 0) (some (.int z.1), z.2, X) g) (hX : q_Lay X) (k_this : q_kd X this = some (7, 9)) (ih_X5_expression : ∀ {X : qX} (_ : q_Lay X) {this : Nat} {x1 : Int32} {x2 : Int32} {x3 : Int32} (k_this : q_kd X this = some (7, 9)) {I : qI} {z : Int32 × qI}, F_X5_expression this x1 x2 x3 I = some z → q_Sem l Γ (q_rm (10 + d) 0 0) yX5_expression cX5_expression 7 (some .boolean) [.ref this, .int x1, .int x2, .int x3] I X (some (.int z.1), z.2, X)) (ih_X5_part : ∀ {X : qX} (_ : q_Lay X) {this : Nat} {x1 : Int32} {x2 : Int32} (k_this : q_kd X this = some (7, 9)) {I : qI} {z : Int32 × qI}, F_X5_part this x1 x2 I = some z → q_Sem l Γ (q_rm (10 + d) 0 0) yX5_part cX5_part 3 (some .boolean) [.ref this, .int x1, .int x2] I X (some (.int z.1), z.2, X)) (s0 : Int32) (I : qI) (h : b_X5_expression_37 this x1 x2 x3 F_X5_expression F_X5_part s0 I = some z) : g 0 0 37 [(0, .ref this), (1, .int x1), (2, .int x2), (3, .int x3)] [.int s0] I X := by
  unfold b_X5_expression_37 at h
  refine r_istore hg (L' := [(4, .int s0), (0, .ref this), (1, .int x1), (2, .int x2), (3, .int x3)]) dX5_expression_37 (by decide) rfl ?_
  refine r_iconst hg dX5_expression_39 ci_0 ?_
  refine r_istore hg (L' := [(5, .int (nI 0)), (4, .int s0), (0, .ref this), (1, .int x1), (2, .int x2), (3, .int x3)]) dX5_expression_40 (by decide) rfl ?_
  refine r_sub hg [2, 3, 4, 5, 1, 0] rfl ?_
  exact pl_X5_expression_42 hΓ hg hr hX k_this ih_X5_expression ih_X5_part _ _ _ _ h
def B_X5_expression (F_X5_expression : Nat → Int32 → Int32 → Int32 → qI → Option (Int32 × qI)) (F_X5_part : Nat → Int32 → Int32 → qI → Option (Int32 × qI)) (this : Nat) (x1 : Int32) (x2 : Int32) (x3 : Int32) (I : qI) : Option (Int32 × qI) :=
  if x1 < (nI 5) then
    q_b2 (F_X5_expression this (x1 + (nI 1)) x2 x3 I) fun v2 I3 =>
    if v2 = 0 then
      some ((nI 0), I3)
    else
      if x1 = (nI 2) then
        b_X5_expression_37 this x1 x2 x3 F_X5_expression F_X5_part (nI 1) I3
      else
        b_X5_expression_37 this x1 x2 x3 F_X5_expression F_X5_part (nI 96) I3
  else
    q_b2 (F_X5_part this x2 x3 I) fun v7 I8 =>
    q_b1 (q_bz v7) fun _ =>
    some (v7, I8)
set_option maxRecDepth 100000 in
set_option maxHeartbeats 4000000 in
theorem t_X5_expression {l : Launch} {Γ : qC} {d : Nat} {F_X5_expression : Nat → Int32 → Int32 → Int32 → qI → Option (Int32 × qI)} {F_X5_part : Nat → Int32 → Int32 → qI → Option (Int32 × qI)} (hΓ : q_gm Γ) (ih_X5_expression : ∀ {X : qX} (_ : q_Lay X) {this : Nat} {x1 : Int32} {x2 : Int32} {x3 : Int32} (k_this : q_kd X this = some (7, 9)) {I : qI} {z : Int32 × qI}, F_X5_expression this x1 x2 x3 I = some z → q_Sem l Γ (q_rm (10 + d) 0 0) yX5_expression cX5_expression 7 (some .boolean) [.ref this, .int x1, .int x2, .int x3] I X (some (.int z.1), z.2, X)) (ih_X5_part : ∀ {X : qX} (_ : q_Lay X) {this : Nat} {x1 : Int32} {x2 : Int32} (k_this : q_kd X this = some (7, 9)) {I : qI} {z : Int32 × qI}, F_X5_part this x1 x2 I = some z → q_Sem l Γ (q_rm (10 + d) 0 0) yX5_part cX5_part 3 (some .boolean) [.ref this, .int x1, .int x2] I X (some (.int z.1), z.2, X)) {X : qX} (hX : q_Lay X) {this : Nat} {x1 : Int32} {x2 : Int32} {x3 : Int32} (k_this : q_kd X this = some (7, 9)) {I : qI} {z : Int32 × qI} (h : B_X5_expression F_X5_expression F_X5_part this x1 x2 x3 I = some z) : q_Sem l Γ (q_rm (10 + (d + 1)) 0 0) yX5_expression cX5_expression 7 (some .boolean) [.ref this, .int x1, .int x2, .int x3] I X (some (.int z.1), z.2, X) := by
  refine q_met (by decide) (Nat.le_of_ble_eq_true rfl) (fun g hg hr => ?_)
  unfold B_X5_expression at h
  show g 0 0 0 [(0, .ref this), (1, .int x1), (2, .int x2), (3, .int x3)] [] I X
  refine r_iload_n hg 1 dX5_expression_0 rfl rfl ?_
  refine r_iconst hg dX5_expression_1 ci_5 ?_
  refine r_icmp_lt hg 12 dX5_expression_2 (by decide) (fun c1 => ?_) (fun c1 => ?_)
  · rw [if_pos c1] at h
    refine r_aload_n hg 0 dX5_expression_12 rfl rfl ?_
    refine r_iload_n hg 1 dX5_expression_13 rfl rfl ?_
    refine r_iconst hg dX5_expression_14 ci_1 ?_
    refine r_iadd hg dX5_expression_15 ?_
    refine r_iload_n hg 2 dX5_expression_16 rfl rfl ?_
    refine r_iload_n hg 3 dX5_expression_17 rfl rfl ?_
    obtain ⟨v2, I3, e4, h⟩ := q_b2_some h
    refine r_cV3i hg dX5_expression_18 mt_X5_expression ml_X5_51 mv_X5_expression k_this (ih_X5_expression hX k_this e4) (q_room (by omega) (Nat.le_of_ble_eq_true rfl)) ⟨Nat.zero_le _, Nat.zero_le _⟩ (Nat.le_of_ble_eq_true rfl) ?_
    refine r_if_ne hg 26 dX5_expression_21 (by decide) (fun c5 => ?_) (fun c5 => ?_)
    · rw [if_neg c5] at h
      refine r_iload_n hg 1 dX5_expression_26 rfl rfl ?_
      refine r_iconst hg dX5_expression_27 ci_2 ?_
      refine r_icmp_ne hg 35 dX5_expression_28 (by decide) (fun c6 => ?_) (fun c6 => ?_)
      · rw [if_neg c6] at h
        refine r_bipush hg dX5_expression_35 cb_96 ?_
        exact p_X5_expression_37 hΓ hg hr hX k_this ih_X5_expression ih_X5_part _ _ h
      · rw [if_pos (Classical.not_not.mp c6)] at h
        refine r_iconst hg dX5_expression_31 ci_1 ?_
        refine r_goto hg 37 dX5_expression_32 (by decide) ?_
        exact p_X5_expression_37 hΓ hg hr hX k_this ih_X5_expression ih_X5_part _ _ h
    · rw [if_pos (Classical.not_not.mp c5)] at h
      refine r_iconst hg dX5_expression_24 ci_0 ?_
      exact r_ireturn hr dX5_expression_25 ⟨Nat.zero_le _, Nat.zero_le _⟩ ⟨_, rfl, bz_0.1⟩ (by cases h; rfl)
  · rw [if_neg c1] at h
    refine r_aload_n hg 0 dX5_expression_5 rfl rfl ?_
    refine r_iload_n hg 2 dX5_expression_6 rfl rfl ?_
    refine r_iload_n hg 3 dX5_expression_7 rfl rfl ?_
    obtain ⟨v7, I8, e9, h⟩ := q_b2_some h
    refine r_cV2i hg dX5_expression_8 mt_X5_part ml_X5_108 mv_X5_part k_this (ih_X5_part hX k_this e9) (q_room (by omega) (Nat.le_of_ble_eq_true rfl)) ⟨Nat.zero_le _, Nat.zero_le _⟩ (Nat.le_of_ble_eq_true rfl) ?_
    obtain ⟨u12, e10, h⟩ := q_b1_some h
    obtain ⟨rfl, e11⟩ := q_bz_some e10
    exact r_ireturn hr dX5_expression_11 ⟨Nat.zero_le _, Nat.zero_le _⟩ ⟨_, rfl, (q_bz_n e11).1⟩ (by cases h; rfl)

def b_X5_part_74 (this : Nat) (x1 : Int32) (x2 : Int32) (F_X5_expression : Nat → Int32 → Int32 → Int32 → qI → Option (Int32 × qI)) (F_X5_part : Nat → Int32 → Int32 → qI → Option (Int32 × qI)) (I : qI) : Option (Int32 × qI) :=
  q_b1 (f_X5_isSign this (nI 40) I) fun v1 =>
  if v1 = 0 then
    some ((nI 0), I)
  else
    if x1 < (nI 8) then
      q_b1 (f_X5_goOn this I) fun I5 =>
      q_b2 (F_X5_expression this (nI 0) (x1 + (nI 1)) x2 I5) fun v7 I8 =>
      if v7 = 0 then
        some ((nI 0), I8)
      else
        q_b1 (f_X5_isSign this (nI 41) I8) fun v11 =>
        if v11 = 0 then
          some ((nI 0), I8)
        else
          q_b1 (f_X5_goOn this I8) fun I14 =>
          some ((nI 1), I14)
    else
      some ((nI 0), I)
set_option maxRecDepth 100000 in
set_option maxHeartbeats 4000000 in
theorem p_X5_part_74 {l : Launch} {Γ : qC} {g : qG} {z : Int32 × qI} {this : Nat} {x1 : Int32} {x2 : Int32} {d : Nat} {F_X5_expression : Nat → Int32 → Int32 → Int32 → qI → Option (Int32 × qI)} {F_X5_part : Nat → Int32 → Int32 → qI → Option (Int32 × qI)} {X : qX} (hΓ : q_gm Γ) (hg : q_Ok l Γ RX5 cX5_part 3 (q_rm (10 + (d + 1)) 0 0) "part" (some .boolean) g) (hr : q_Rt cX5_part (some .boolean) (q_rm (10 + (d + 1)) 0 0) (some (.int z.1), z.2, X) g) (hX : q_Lay X) (k_this : q_kd X this = some (7, 9)) (ih_X5_expression : ∀ {X : qX} (_ : q_Lay X) {this : Nat} {x1 : Int32} {x2 : Int32} {x3 : Int32} (k_this : q_kd X this = some (7, 9)) {I : qI} {z : Int32 × qI}, F_X5_expression this x1 x2 x3 I = some z → q_Sem l Γ (q_rm (10 + d) 0 0) yX5_expression cX5_expression 7 (some .boolean) [.ref this, .int x1, .int x2, .int x3] I X (some (.int z.1), z.2, X)) (ih_X5_part : ∀ {X : qX} (_ : q_Lay X) {this : Nat} {x1 : Int32} {x2 : Int32} (k_this : q_kd X this = some (7, 9)) {I : qI} {z : Int32 × qI}, F_X5_part this x1 x2 I = some z → q_Sem l Γ (q_rm (10 + d) 0 0) yX5_part cX5_part 3 (some .boolean) [.ref this, .int x1, .int x2] I X (some (.int z.1), z.2, X)) (I : qI) (h : b_X5_part_74 this x1 x2 F_X5_expression F_X5_part I = some z) : g 0 0 74 [(0, .ref this), (1, .int x1), (2, .int x2)] [] I X := by
  unfold b_X5_part_74 at h
  refine r_aload_n hg 0 dX5_part_74 rfl rfl ?_
  refine r_bipush hg dX5_part_75 cb_40 ?_
  obtain ⟨v1, e2, h⟩ := q_b1_some h
  refine r_cV1i hg dX5_part_77 mt_X5_isSign ml_X5_119 mv_X5_isSign k_this (s_X5_isSign hΓ hX k_this e2) (q_room (by omega) (Nat.le_of_ble_eq_true rfl)) ⟨Nat.zero_le _, Nat.zero_le _⟩ (Nat.le_of_ble_eq_true rfl) ?_
  refine r_if_eq hg 89 dX5_part_80 (by decide) (fun c3 => ?_) (fun c3 => ?_)
  · rw [if_pos c3] at h
    refine r_iconst hg dX5_part_89 ci_0 ?_
    exact r_ireturn hr dX5_part_90 ⟨Nat.zero_le _, Nat.zero_le _⟩ ⟨_, rfl, bz_0.1⟩ (by cases h; rfl)
  · rw [if_neg c3] at h
    refine r_iload_n hg 1 dX5_part_83 rfl rfl ?_
    refine r_bipush hg dX5_part_84 cb_8 ?_
    refine r_icmp_lt hg 91 dX5_part_86 (by decide) (fun c4 => ?_) (fun c4 => ?_)
    · rw [if_pos c4] at h
      refine r_aload_n hg 0 dX5_part_91 rfl rfl ?_
      obtain ⟨I5, e6, h⟩ := q_b1_some h
      refine r_cV0v hg dX5_part_92 mt_X5_goOn ml_X5_38 mv_X5_goOn k_this (s_X5_goOn hΓ hX k_this e6) (q_room (by omega) (Nat.le_of_ble_eq_true rfl)) ⟨Nat.zero_le _, Nat.zero_le _⟩ (Nat.le_of_ble_eq_true rfl) ?_
      refine r_aload_n hg 0 dX5_part_95 rfl rfl ?_
      refine r_iconst hg dX5_part_96 ci_0 ?_
      refine r_iload_n hg 1 dX5_part_97 rfl rfl ?_
      refine r_iconst hg dX5_part_98 ci_1 ?_
      refine r_iadd hg dX5_part_99 ?_
      refine r_iload_n hg 2 dX5_part_100 rfl rfl ?_
      obtain ⟨v7, I8, e9, h⟩ := q_b2_some h
      refine r_cV3i hg dX5_part_101 mt_X5_expression ml_X5_51 mv_X5_expression k_this (ih_X5_expression hX k_this e9) (q_room (by omega) (Nat.le_of_ble_eq_true rfl)) ⟨Nat.zero_le _, Nat.zero_le _⟩ (Nat.le_of_ble_eq_true rfl) ?_
      refine r_if_eq hg 116 dX5_part_104 (by decide) (fun c10 => ?_) (fun c10 => ?_)
      · rw [if_pos c10] at h
        refine r_iconst hg dX5_part_116 ci_0 ?_
        exact r_ireturn hr dX5_part_117 ⟨Nat.zero_le _, Nat.zero_le _⟩ ⟨_, rfl, bz_0.1⟩ (by cases h; rfl)
      · rw [if_neg c10] at h
        refine r_aload_n hg 0 dX5_part_107 rfl rfl ?_
        refine r_bipush hg dX5_part_108 cb_41 ?_
        obtain ⟨v11, e12, h⟩ := q_b1_some h
        refine r_cV1i hg dX5_part_110 mt_X5_isSign ml_X5_119 mv_X5_isSign k_this (s_X5_isSign hΓ hX k_this e12) (q_room (by omega) (Nat.le_of_ble_eq_true rfl)) ⟨Nat.zero_le _, Nat.zero_le _⟩ (Nat.le_of_ble_eq_true rfl) ?_
        refine r_if_ne hg 118 dX5_part_113 (by decide) (fun c13 => ?_) (fun c13 => ?_)
        · rw [if_neg c13] at h
          refine r_aload_n hg 0 dX5_part_118 rfl rfl ?_
          obtain ⟨I14, e15, h⟩ := q_b1_some h
          refine r_cV0v hg dX5_part_119 mt_X5_goOn ml_X5_38 mv_X5_goOn k_this (s_X5_goOn hΓ hX k_this e15) (q_room (by omega) (Nat.le_of_ble_eq_true rfl)) ⟨Nat.zero_le _, Nat.zero_le _⟩ (Nat.le_of_ble_eq_true rfl) ?_
          refine r_iconst hg dX5_part_122 ci_1 ?_
          exact r_ireturn hr dX5_part_123 ⟨Nat.zero_le _, Nat.zero_le _⟩ ⟨_, rfl, bz_1.1⟩ (by cases h; rfl)
        · rw [if_pos (Classical.not_not.mp c13)] at h
          refine r_iconst hg dX5_part_116 ci_0 ?_
          exact r_ireturn hr dX5_part_117 ⟨Nat.zero_le _, Nat.zero_le _⟩ ⟨_, rfl, bz_0.1⟩ (by cases h; rfl)
    · rw [if_neg c4] at h
      refine r_iconst hg dX5_part_89 ci_0 ?_
      exact r_ireturn hr dX5_part_90 ⟨Nat.zero_le _, Nat.zero_le _⟩ ⟨_, rfl, bz_0.1⟩ (by cases h; rfl)
def B_X5_part (F_X5_expression : Nat → Int32 → Int32 → Int32 → qI → Option (Int32 × qI)) (F_X5_part : Nat → Int32 → Int32 → qI → Option (Int32 × qI)) (this : Nat) (x1 : Int32) (x2 : Int32) (I : qI) : Option (Int32 × qI) :=
  if (I this 3) = (nI 2) then
    q_b1 (f_X5_number this I) fun v23 =>
    q_b2 (f_X5_operand this v23 I) fun v25 I26 =>
    q_b1 (q_bz v25) fun _ =>
    some (v25, I26)
  else
    if (I this 3) = (nI 1) then
      q_b1 (f_X5_name this I) fun v15 =>
      q_b2 (f_X5_operand this v15 I) fun v17 I18 =>
      q_b1 (q_bz v17) fun _ =>
      some (v17, I18)
    else
      q_b1 (f_X5_isSign this (nI 33) I) fun v3 =>
      if v3 = 0 then
        b_X5_part_74 this x1 x2 F_X5_expression F_X5_part I
      else
        if (nI 8) ≤ x2 then
          b_X5_part_74 this x1 x2 F_X5_expression F_X5_part I
        else
          q_b1 (f_X5_goOn this I) fun I7 =>
          q_b2 (F_X5_part this x1 (x2 + (nI 1)) I7) fun v9 I10 =>
          if v9 = 0 then
            some ((nI 0), I10)
          else
            q_b1 (f_X5_emit this (-33) I10) fun I13 =>
            some ((nI 1), I13)
set_option maxRecDepth 100000 in
set_option maxHeartbeats 4000000 in
theorem t_X5_part {l : Launch} {Γ : qC} {d : Nat} {F_X5_expression : Nat → Int32 → Int32 → Int32 → qI → Option (Int32 × qI)} {F_X5_part : Nat → Int32 → Int32 → qI → Option (Int32 × qI)} (hΓ : q_gm Γ) (ih_X5_expression : ∀ {X : qX} (_ : q_Lay X) {this : Nat} {x1 : Int32} {x2 : Int32} {x3 : Int32} (k_this : q_kd X this = some (7, 9)) {I : qI} {z : Int32 × qI}, F_X5_expression this x1 x2 x3 I = some z → q_Sem l Γ (q_rm (10 + d) 0 0) yX5_expression cX5_expression 7 (some .boolean) [.ref this, .int x1, .int x2, .int x3] I X (some (.int z.1), z.2, X)) (ih_X5_part : ∀ {X : qX} (_ : q_Lay X) {this : Nat} {x1 : Int32} {x2 : Int32} (k_this : q_kd X this = some (7, 9)) {I : qI} {z : Int32 × qI}, F_X5_part this x1 x2 I = some z → q_Sem l Γ (q_rm (10 + d) 0 0) yX5_part cX5_part 3 (some .boolean) [.ref this, .int x1, .int x2] I X (some (.int z.1), z.2, X)) {X : qX} (hX : q_Lay X) {this : Nat} {x1 : Int32} {x2 : Int32} (k_this : q_kd X this = some (7, 9)) {I : qI} {z : Int32 × qI} (h : B_X5_part F_X5_expression F_X5_part this x1 x2 I = some z) : q_Sem l Γ (q_rm (10 + (d + 1)) 0 0) yX5_part cX5_part 3 (some .boolean) [.ref this, .int x1, .int x2] I X (some (.int z.1), z.2, X) := by
  refine q_met (by decide) (Nat.le_of_ble_eq_true rfl) (fun g hg hr => ?_)
  unfold B_X5_part at h
  show g 0 0 0 [(0, .ref this), (1, .int x1), (2, .int x2)] [] I X
  refine r_aload_n hg 0 dX5_part_0 rfl rfl ?_
  refine r_getI hg dX5_part_1 fl_X5_32 k_this rfl ?_
  refine r_iconst hg dX5_part_4 ci_2 ?_
  refine r_icmp_ne hg 17 dX5_part_5 (by decide) (fun c1 => ?_) (fun c1 => ?_)
  · rw [if_neg c1] at h
    refine r_aload_n hg 0 dX5_part_17 rfl rfl ?_
    refine r_getI hg dX5_part_18 fl_X5_32 k_this rfl ?_
    refine r_iconst hg dX5_part_21 ci_1 ?_
    refine r_icmp_ne hg 34 dX5_part_22 (by decide) (fun c2 => ?_) (fun c2 => ?_)
    · rw [if_neg c2] at h
      refine r_aload_n hg 0 dX5_part_34 rfl rfl ?_
      refine r_bipush hg dX5_part_35 cb_33 ?_
      obtain ⟨v3, e4, h⟩ := q_b1_some h
      refine r_cV1i hg dX5_part_37 mt_X5_isSign ml_X5_119 mv_X5_isSign k_this (s_X5_isSign hΓ hX k_this e4) (q_room (by omega) (Nat.le_of_ble_eq_true rfl)) ⟨Nat.zero_le _, Nat.zero_le _⟩ (Nat.le_of_ble_eq_true rfl) ?_
      refine r_if_eq hg 74 dX5_part_40 (by decide) (fun c5 => ?_) (fun c5 => ?_)
      · rw [if_pos c5] at h
        exact p_X5_part_74 hΓ hg hr hX k_this ih_X5_expression ih_X5_part _ h
      · rw [if_neg c5] at h
        refine r_iload_n hg 2 dX5_part_43 rfl rfl ?_
        refine r_bipush hg dX5_part_44 cb_8 ?_
        refine r_icmp_ge hg 74 dX5_part_46 (by decide) (fun c6 => ?_) (fun c6 => ?_)
        · rw [if_pos c6] at h
          exact p_X5_part_74 hΓ hg hr hX k_this ih_X5_expression ih_X5_part _ h
        · rw [if_neg c6] at h
          refine r_aload_n hg 0 dX5_part_49 rfl rfl ?_
          obtain ⟨I7, e8, h⟩ := q_b1_some h
          refine r_cV0v hg dX5_part_50 mt_X5_goOn ml_X5_38 mv_X5_goOn k_this (s_X5_goOn hΓ hX k_this e8) (q_room (by omega) (Nat.le_of_ble_eq_true rfl)) ⟨Nat.zero_le _, Nat.zero_le _⟩ (Nat.le_of_ble_eq_true rfl) ?_
          refine r_aload_n hg 0 dX5_part_53 rfl rfl ?_
          refine r_iload_n hg 1 dX5_part_54 rfl rfl ?_
          refine r_iload_n hg 2 dX5_part_55 rfl rfl ?_
          refine r_iconst hg dX5_part_56 ci_1 ?_
          refine r_iadd hg dX5_part_57 ?_
          obtain ⟨v9, I10, e11, h⟩ := q_b2_some h
          refine r_cV2i hg dX5_part_58 mt_X5_part ml_X5_108 mv_X5_part k_this (ih_X5_part hX k_this e11) (q_room (by omega) (Nat.le_of_ble_eq_true rfl)) ⟨Nat.zero_le _, Nat.zero_le _⟩ (Nat.le_of_ble_eq_true rfl) ?_
          refine r_if_ne hg 66 dX5_part_61 (by decide) (fun c12 => ?_) (fun c12 => ?_)
          · rw [if_neg c12] at h
            refine r_aload_n hg 0 dX5_part_66 rfl rfl ?_
            refine r_bipush hg dX5_part_67 cb_m33 ?_
            obtain ⟨I13, e14, h⟩ := q_b1_some h
            refine r_cV1v hg dX5_part_69 mt_X5_emit ml_X5_115 mv_X5_emit k_this (s_X5_emit hΓ hX k_this e14) (q_room (by omega) (Nat.le_of_ble_eq_true rfl)) ⟨Nat.zero_le _, Nat.zero_le _⟩ (Nat.le_of_ble_eq_true rfl) ?_
            refine r_iconst hg dX5_part_72 ci_1 ?_
            exact r_ireturn hr dX5_part_73 ⟨Nat.zero_le _, Nat.zero_le _⟩ ⟨_, rfl, bz_1.1⟩ (by cases h; rfl)
          · rw [if_pos (Classical.not_not.mp c12)] at h
            refine r_iconst hg dX5_part_64 ci_0 ?_
            exact r_ireturn hr dX5_part_65 ⟨Nat.zero_le _, Nat.zero_le _⟩ ⟨_, rfl, bz_0.1⟩ (by cases h; rfl)
    · rw [if_pos (Classical.not_not.mp c2)] at h
      refine r_aload_n hg 0 dX5_part_25 rfl rfl ?_
      refine r_aload_n hg 0 dX5_part_26 rfl rfl ?_
      obtain ⟨v15, e16, h⟩ := q_b1_some h
      refine r_cV0i hg dX5_part_27 mt_X5_name ml_X5_128 mv_X5_name k_this (s_X5_name hΓ hX k_this e16) (q_room (by omega) (Nat.le_of_ble_eq_true rfl)) ⟨Nat.zero_le _, Nat.zero_le _⟩ (Nat.le_of_ble_eq_true rfl) ?_
      obtain ⟨v17, I18, e19, h⟩ := q_b2_some h
      refine r_cV1i hg dX5_part_30 mt_X5_operand ml_X5_125 mv_X5_operand k_this (s_X5_operand hΓ hX k_this e19) (q_room (by omega) (Nat.le_of_ble_eq_true rfl)) ⟨Nat.zero_le _, Nat.zero_le _⟩ (Nat.le_of_ble_eq_true rfl) ?_
      obtain ⟨u22, e20, h⟩ := q_b1_some h
      obtain ⟨rfl, e21⟩ := q_bz_some e20
      exact r_ireturn hr dX5_part_33 ⟨Nat.zero_le _, Nat.zero_le _⟩ ⟨_, rfl, (q_bz_n e21).1⟩ (by cases h; rfl)
  · rw [if_pos (Classical.not_not.mp c1)] at h
    refine r_aload_n hg 0 dX5_part_8 rfl rfl ?_
    refine r_aload_n hg 0 dX5_part_9 rfl rfl ?_
    obtain ⟨v23, e24, h⟩ := q_b1_some h
    refine r_cV0i hg dX5_part_10 mt_X5_number ml_X5_122 mv_X5_number k_this (s_X5_number hΓ hX k_this e24) (q_room (by omega) (Nat.le_of_ble_eq_true rfl)) ⟨Nat.zero_le _, Nat.zero_le _⟩ (Nat.le_of_ble_eq_true rfl) ?_
    obtain ⟨v25, I26, e27, h⟩ := q_b2_some h
    refine r_cV1i hg dX5_part_13 mt_X5_operand ml_X5_125 mv_X5_operand k_this (s_X5_operand hΓ hX k_this e27) (q_room (by omega) (Nat.le_of_ble_eq_true rfl)) ⟨Nat.zero_le _, Nat.zero_le _⟩ (Nat.le_of_ble_eq_true rfl) ?_
    obtain ⟨u30, e28, h⟩ := q_b1_some h
    obtain ⟨rfl, e29⟩ := q_bz_some e28
    exact r_ireturn hr dX5_part_16 ⟨Nat.zero_le _, Nat.zero_le _⟩ ⟨_, rfl, (q_bz_n e29).1⟩ (by cases h; rfl)

def G_X5_expression : Nat → (Nat → Int32 → Int32 → Int32 → qI → Option (Int32 × qI)) × (Nat → Int32 → Int32 → qI → Option (Int32 × qI)) := q_fix (fun _ _ _ _ _ => none, fun _ _ _ _ => none) (fun F => (B_X5_expression (F.1) (F.2), B_X5_part (F.1) (F.2)))
def f_X5_expression (d : Nat) : Nat → Int32 → Int32 → Int32 → qI → Option (Int32 × qI) := (G_X5_expression d).1
def f_X5_part (d : Nat) : Nat → Int32 → Int32 → qI → Option (Int32 × qI) := (G_X5_expression d).2
theorem sg_X5_expression {l : Launch} {Γ : qC} (hΓ : q_gm Γ) : ∀ d : Nat, (∀ {X : qX} (_ : q_Lay X) {this : Nat} {x1 : Int32} {x2 : Int32} {x3 : Int32} (k_this : q_kd X this = some (7, 9)) {I : qI} {z : Int32 × qI}, f_X5_expression d this x1 x2 x3 I = some z → q_Sem l Γ (q_rm (10 + d) 0 0) yX5_expression cX5_expression 7 (some .boolean) [.ref this, .int x1, .int x2, .int x3] I X (some (.int z.1), z.2, X)) ∧ (∀ {X : qX} (_ : q_Lay X) {this : Nat} {x1 : Int32} {x2 : Int32} (k_this : q_kd X this = some (7, 9)) {I : qI} {z : Int32 × qI}, f_X5_part d this x1 x2 I = some z → q_Sem l Γ (q_rm (10 + d) 0 0) yX5_part cX5_part 3 (some .boolean) [.ref this, .int x1, .int x2] I X (some (.int z.1), z.2, X)) := by
  intro d
  induction d with
  | zero =>
    refine ⟨?_, ?_⟩
    · intros; rename_i h; cases (show (none : Option (Int32 × qI)) = some _ from h)
    · intros; rename_i h; cases (show (none : Option (Int32 × qI)) = some _ from h)
  | succ d ih =>
    obtain ⟨ih0, ih1⟩ := ih
    refine ⟨?_, ?_⟩
    · intro X hX this x1 x2 x3 k_this I z h
      exact t_X5_expression hΓ ih0 ih1 hX k_this h
    · intro X hX this x1 x2 k_this I z h
      exact t_X5_part hΓ ih0 ih1 hX k_this h
theorem s_X5_expression {l : Launch} {Γ : qC} (hΓ : q_gm Γ) {d : Nat} {X : qX} (hX : q_Lay X) {this : Nat} {x1 : Int32} {x2 : Int32} {x3 : Int32} (k_this : q_kd X this = some (7, 9)) {I : qI} {z : Int32 × qI} (h : f_X5_expression d this x1 x2 x3 I = some z) : q_Sem l Γ (q_rm (10 + d) 0 0) yX5_expression cX5_expression 7 (some .boolean) [.ref this, .int x1, .int x2, .int x3] I X (some (.int z.1), z.2, X) := (sg_X5_expression hΓ d).1 hX k_this h
theorem s_X5_part {l : Launch} {Γ : qC} (hΓ : q_gm Γ) {d : Nat} {X : qX} (hX : q_Lay X) {this : Nat} {x1 : Int32} {x2 : Int32} (k_this : q_kd X this = some (7, 9)) {I : qI} {z : Int32 × qI} (h : f_X5_part d this x1 x2 I = some z) : q_Sem l Γ (q_rm (10 + d) 0 0) yX5_part cX5_part 3 (some .boolean) [.ref this, .int x1, .int x2] I X (some (.int z.1), z.2, X) := (sg_X5_expression hΓ d).2 hX k_this h

def f_X5_firstFault (this : Nat) (I : qI) : Option (Int32 × qI) :=
  q_b1 (some (q_up I this 2 (nI 0))) fun I1 =>
  q_b1 (some (q_up I1 this 8 (nI 0))) fun I3 =>
  q_b1 (some (q_up I3 this 3 (nI 0))) fun I5 =>
  q_b1 (some (q_up I5 this 5 (nI 0))) fun I7 =>
  q_b1 (f_X5_goOn this I7) fun I9 =>
  q_b1 (f_X5_keyHere this I9) fun v11 =>
  q_b1 (some (q_up I9 this 7 v11)) fun I13 =>
  if 0 ≤ (I13 this 7) then
    q_b1 (f_X5_goOn this I13) fun I16 =>
    q_b2 (f_X5_expression q_rd0 this (nI 0) (nI 0) (nI 0) I16) fun v18 I19 =>
    if v18 = 0 then
      some ((I19 this 4), I19)
    else
      if (I19 this 3) = 0 then
        some ((-1), I19)
      else
        some ((I19 this 4), I19)
  else
    some ((I13 this 4), I13)
set_option maxRecDepth 100000 in
set_option maxHeartbeats 4000000 in
theorem s_X5_firstFault {l : Launch} {Γ : qC} (hΓ : q_gm Γ) {X : qX} (hX : q_Lay X) {this : Nat} (k_this : q_kd X this = some (7, 9)) {I : qI} {z : Int32 × qI} (h : f_X5_firstFault this I = some z) : q_Sem l Γ (q_rm 131 0 0) yX5_firstFault cX5_firstFault 1 (some .int) [.ref this] I X (some (.int z.1), z.2, X) := by
  refine q_met (by decide) (Nat.le_of_ble_eq_true rfl) (fun g hg hr => ?_)
  unfold f_X5_firstFault at h
  show g 0 0 0 [(0, .ref this)] [] I X
  refine r_aload_n hg 0 dX5_firstFault_0 rfl rfl ?_
  refine r_iconst hg dX5_firstFault_1 ci_0 ?_
  obtain ⟨I1, e2, h⟩ := q_b1_some h
  obtain rfl := Option.some.inj e2
  refine r_putI hg dX5_firstFault_2 fl_X5_20 k_this rfl ⟨rfl, rfl⟩ ?_
  refine r_aload_n hg 0 dX5_firstFault_5 rfl rfl ?_
  refine r_iconst hg dX5_firstFault_6 ci_0 ?_
  obtain ⟨I3, e4, h⟩ := q_b1_some h
  obtain rfl := Option.some.inj e4
  refine r_putI hg dX5_firstFault_7 fl_X5_29 k_this rfl ⟨rfl, rfl⟩ ?_
  refine r_aload_n hg 0 dX5_firstFault_10 rfl rfl ?_
  refine r_iconst hg dX5_firstFault_11 ci_0 ?_
  obtain ⟨I5, e6, h⟩ := q_b1_some h
  obtain rfl := Option.some.inj e6
  refine r_putI hg dX5_firstFault_12 fl_X5_32 k_this rfl ⟨rfl, rfl⟩ ?_
  refine r_aload_n hg 0 dX5_firstFault_15 rfl rfl ?_
  refine r_iconst hg dX5_firstFault_16 ci_0 ?_
  obtain ⟨I7, e8, h⟩ := q_b1_some h
  obtain rfl := Option.some.inj e8
  refine r_putI hg dX5_firstFault_17 fl_X5_35 k_this rfl ⟨rfl, rfl⟩ ?_
  refine r_aload_n hg 0 dX5_firstFault_20 rfl rfl ?_
  obtain ⟨I9, e10, h⟩ := q_b1_some h
  refine r_cV0v hg dX5_firstFault_21 mt_X5_goOn ml_X5_38 mv_X5_goOn k_this (s_X5_goOn hΓ hX k_this e10) (q_room (Nat.le_of_ble_eq_true rfl) (Nat.le_of_ble_eq_true rfl)) ⟨Nat.zero_le _, Nat.zero_le _⟩ (Nat.le_of_ble_eq_true rfl) ?_
  refine r_aload_n hg 0 dX5_firstFault_24 rfl rfl ?_
  refine r_aload_n hg 0 dX5_firstFault_25 rfl rfl ?_
  obtain ⟨v11, e12, h⟩ := q_b1_some h
  refine r_cV0i hg dX5_firstFault_26 mt_X5_keyHere ml_X5_41 mv_X5_keyHere k_this (s_X5_keyHere hΓ hX k_this e12) (q_room (Nat.le_of_ble_eq_true rfl) (Nat.le_of_ble_eq_true rfl)) ⟨Nat.zero_le _, Nat.zero_le _⟩ (Nat.le_of_ble_eq_true rfl) ?_
  obtain ⟨I13, e14, h⟩ := q_b1_some h
  obtain rfl := Option.some.inj e14
  refine r_putI hg dX5_firstFault_29 fl_X5_45 k_this rfl ⟨rfl, rfl⟩ ?_
  refine r_aload_n hg 0 dX5_firstFault_32 rfl rfl ?_
  refine r_getI hg dX5_firstFault_33 fl_X5_45 k_this rfl ?_
  refine r_if_ge hg 44 dX5_firstFault_36 (by decide) (fun c15 => ?_) (fun c15 => ?_)
  · rw [if_pos c15] at h
    refine r_aload_n hg 0 dX5_firstFault_44 rfl rfl ?_
    obtain ⟨I16, e17, h⟩ := q_b1_some h
    refine r_cV0v hg dX5_firstFault_45 mt_X5_goOn ml_X5_38 mv_X5_goOn k_this (s_X5_goOn hΓ hX k_this e17) (q_room (Nat.le_of_ble_eq_true rfl) (Nat.le_of_ble_eq_true rfl)) ⟨Nat.zero_le _, Nat.zero_le _⟩ (Nat.le_of_ble_eq_true rfl) ?_
    refine r_aload_n hg 0 dX5_firstFault_48 rfl rfl ?_
    refine r_iconst hg dX5_firstFault_49 ci_0 ?_
    refine r_iconst hg dX5_firstFault_50 ci_0 ?_
    refine r_iconst hg dX5_firstFault_51 ci_0 ?_
    obtain ⟨v18, I19, e20, h⟩ := q_b2_some h
    refine r_cV3i hg dX5_firstFault_52 mt_X5_expression ml_X5_51 mv_X5_expression k_this (s_X5_expression hΓ hX k_this e20) (q_room (Nat.le_of_ble_eq_true rfl) (Nat.le_of_ble_eq_true rfl)) ⟨Nat.zero_le _, Nat.zero_le _⟩ (Nat.le_of_ble_eq_true rfl) ?_
    refine r_if_ne hg 63 dX5_firstFault_55 (by decide) (fun c21 => ?_) (fun c21 => ?_)
    · rw [if_neg c21] at h
      refine r_aload_n hg 0 dX5_firstFault_63 rfl rfl ?_
      refine r_getI hg dX5_firstFault_64 fl_X5_32 k_this rfl ?_
      refine r_if_ne hg 74 dX5_firstFault_67 (by decide) (fun c22 => ?_) (fun c22 => ?_)
      · rw [if_neg c22] at h
        refine r_aload_n hg 0 dX5_firstFault_74 rfl rfl ?_
        refine r_getI hg dX5_firstFault_75 fl_X5_48 k_this rfl ?_
        exact r_ireturn hr dX5_firstFault_78 ⟨Nat.zero_le _, Nat.zero_le _⟩ ⟨_, rfl, rfl⟩ (by cases h; rfl)
      · rw [if_pos (Classical.not_not.mp c22)] at h
        refine r_iconst hg dX5_firstFault_70 ci_m1 ?_
        refine r_goto hg 78 dX5_firstFault_71 (by decide) ?_
        exact r_ireturn hr dX5_firstFault_78 ⟨Nat.zero_le _, Nat.zero_le _⟩ ⟨_, rfl, rfl⟩ (by cases h; rfl)
    · rw [if_pos (Classical.not_not.mp c21)] at h
      refine r_aload_n hg 0 dX5_firstFault_58 rfl rfl ?_
      refine r_getI hg dX5_firstFault_59 fl_X5_48 k_this rfl ?_
      exact r_ireturn hr dX5_firstFault_62 ⟨Nat.zero_le _, Nat.zero_le _⟩ ⟨_, rfl, rfl⟩ (by cases h; rfl)
  · rw [if_neg c15] at h
    refine r_aload_n hg 0 dX5_firstFault_39 rfl rfl ?_
    refine r_getI hg dX5_firstFault_40 fl_X5_48 k_this rfl ?_
    exact r_ireturn hr dX5_firstFault_43 ⟨Nat.zero_le _, Nat.zero_le _⟩ ⟨_, rfl, rfl⟩ (by cases h; rfl)
