theorem dX12_dug_0 : q_at cX12_dug 0 (.iload_n 1) 1 1 := ⟨by decide +kernel, rfl⟩
theorem dX12_dug_1 : q_at cX12_dug 1 (.invokestatic 78) 3 4 := ⟨by decide +kernel, rfl⟩
theorem dX12_dug_4 : q_at cX12_dug 4 (.ifCond .eq 15) 3 7 := ⟨by decide +kernel, rfl⟩
theorem dX12_dug_7 : q_at cX12_dug 7 (.iload_n 2) 1 8 := ⟨by decide +kernel, rfl⟩
theorem dX12_dug_8 : q_at cX12_dug 8 (.i2l) 1 9 := ⟨by decide +kernel, rfl⟩
theorem dX12_dug_9 : q_at cX12_dug 9 (.lconst 0) 1 10 := ⟨by decide +kernel, rfl⟩
theorem dX12_dug_10 : q_at cX12_dug 10 (.ldc2_w 91) 3 13 := ⟨by decide +kernel, rfl⟩
theorem dX12_dug_13 : q_at cX12_dug 13 (.invokestatic 64) 3 16 := ⟨by decide +kernel, rfl⟩
theorem dX12_dug_16 : q_at cX12_dug 16 (.ifCond .ne 6) 3 19 := ⟨by decide +kernel, rfl⟩
theorem dX12_dug_19 : q_at cX12_dug 19 (.ldc 90) 2 21 := ⟨by decide +kernel, rfl⟩
theorem dX12_dug_21 : q_at cX12_dug 21 (.ireturn) 1 22 := ⟨by decide +kernel, rfl⟩
theorem dX12_dug_22 : q_at cX12_dug 22 (.iload_n 2) 1 23 := ⟨by decide +kernel, rfl⟩
theorem dX12_dug_23 : q_at cX12_dug 23 (.iconst 5) 1 24 := ⟨by decide +kernel, rfl⟩
theorem dX12_dug_24 : q_at cX12_dug 24 (.if_icmp .ge 17) 3 27 := ⟨by decide +kernel, rfl⟩
theorem dX12_dug_27 : q_at cX12_dug 27 (.aload_n 0) 1 28 := ⟨by decide +kernel, rfl⟩
theorem dX12_dug_28 : q_at cX12_dug 28 (.getfield 7) 3 31 := ⟨by decide +kernel, rfl⟩
theorem dX12_dug_31 : q_at cX12_dug 31 (.bipush 10) 2 33 := ⟨by decide +kernel, rfl⟩
theorem dX12_dug_33 : q_at cX12_dug 33 (.iconst 5) 1 34 := ⟨by decide +kernel, rfl⟩
theorem dX12_dug_34 : q_at cX12_dug 34 (.iload_n 1) 1 35 := ⟨by decide +kernel, rfl⟩
theorem dX12_dug_35 : q_at cX12_dug 35 (.imul) 1 36 := ⟨by decide +kernel, rfl⟩
theorem dX12_dug_36 : q_at cX12_dug 36 (.iadd) 1 37 := ⟨by decide +kernel, rfl⟩
theorem dX12_dug_37 : q_at cX12_dug 37 (.iload_n 2) 1 38 := ⟨by decide +kernel, rfl⟩
theorem dX12_dug_38 : q_at cX12_dug 38 (.iadd) 1 39 := ⟨by decide +kernel, rfl⟩
theorem dX12_dug_39 : q_at cX12_dug 39 (.iaload) 1 40 := ⟨by decide +kernel, rfl⟩
theorem dX12_dug_40 : q_at cX12_dug 40 (.ireturn) 1 41 := ⟨by decide +kernel, rfl⟩
theorem dX12_dug_41 : q_at cX12_dug 41 (.iconst 0) 1 42 := ⟨by decide +kernel, rfl⟩
theorem dX12_dug_42 : q_at cX12_dug 42 (.istore_n 3) 1 43 := ⟨by decide +kernel, rfl⟩
theorem dX12_dug_43 : q_at cX12_dug 43 (.iconst 0) 1 44 := ⟨by decide +kernel, rfl⟩
theorem dX12_dug_44 : q_at cX12_dug 44 (.istore 4) 2 46 := ⟨by decide +kernel, rfl⟩
theorem dX12_dug_46 : q_at cX12_dug 46 (.iload 4) 2 48 := ⟨by decide +kernel, rfl⟩
theorem dX12_dug_48 : q_at cX12_dug 48 (.aload_n 0) 1 49 := ⟨by decide +kernel, rfl⟩
theorem dX12_dug_49 : q_at cX12_dug 49 (.getfield 7) 3 52 := ⟨by decide +kernel, rfl⟩
theorem dX12_dug_52 : q_at cX12_dug 52 (.iconst 2) 1 53 := ⟨by decide +kernel, rfl⟩
theorem dX12_dug_53 : q_at cX12_dug 53 (.iaload) 1 54 := ⟨by decide +kernel, rfl⟩
theorem dX12_dug_54 : q_at cX12_dug 54 (.if_icmp .ge 41) 3 57 := ⟨by decide +kernel, rfl⟩
theorem dX12_dug_57 : q_at cX12_dug 57 (.iload_n 3) 1 58 := ⟨by decide +kernel, rfl⟩
theorem dX12_dug_58 : q_at cX12_dug 58 (.aload_n 0) 1 59 := ⟨by decide +kernel, rfl⟩
theorem dX12_dug_59 : q_at cX12_dug 59 (.getfield 7) 3 62 := ⟨by decide +kernel, rfl⟩
theorem dX12_dug_62 : q_at cX12_dug 62 (.aload_n 0) 1 63 := ⟨by decide +kernel, rfl⟩
theorem dX12_dug_63 : q_at cX12_dug 63 (.iload 4) 2 65 := ⟨by decide +kernel, rfl⟩
theorem dX12_dug_65 : q_at cX12_dug 65 (.invokevirtual 68) 3 68 := ⟨by decide +kernel, rfl⟩
theorem dX12_dug_68 : q_at cX12_dug 68 (.iaload) 1 69 := ⟨by decide +kernel, rfl⟩
theorem dX12_dug_69 : q_at cX12_dug 69 (.iload_n 1) 1 70 := ⟨by decide +kernel, rfl⟩
theorem dX12_dug_70 : q_at cX12_dug 70 (.if_icmp .ne 16) 3 73 := ⟨by decide +kernel, rfl⟩
theorem dX12_dug_73 : q_at cX12_dug 73 (.aload_n 0) 1 74 := ⟨by decide +kernel, rfl⟩
theorem dX12_dug_74 : q_at cX12_dug 74 (.iload 4) 2 76 := ⟨by decide +kernel, rfl⟩
theorem dX12_dug_76 : q_at cX12_dug 76 (.invokevirtual 93) 3 79 := ⟨by decide +kernel, rfl⟩
theorem dX12_dug_79 : q_at cX12_dug 79 (.ifCond .ne 7) 3 82 := ⟨by decide +kernel, rfl⟩
theorem dX12_dug_82 : q_at cX12_dug 82 (.iconst 1) 1 83 := ⟨by decide +kernel, rfl⟩
theorem dX12_dug_83 : q_at cX12_dug 83 (.goto 4) 3 86 := ⟨by decide +kernel, rfl⟩
theorem dX12_dug_86 : q_at cX12_dug 86 (.iconst 0) 1 87 := ⟨by decide +kernel, rfl⟩
theorem dX12_dug_87 : q_at cX12_dug 87 (.iadd) 1 88 := ⟨by decide +kernel, rfl⟩
theorem dX12_dug_88 : q_at cX12_dug 88 (.istore_n 3) 1 89 := ⟨by decide +kernel, rfl⟩
theorem dX12_dug_89 : q_at cX12_dug 89 (.iinc 4 1) 3 92 := ⟨by decide +kernel, rfl⟩
theorem dX12_dug_92 : q_at cX12_dug 92 (.goto (-46)) 3 95 := ⟨by decide +kernel, rfl⟩
theorem dX12_dug_95 : q_at cX12_dug 95 (.iload_n 3) 1 96 := ⟨by decide +kernel, rfl⟩
theorem dX12_dug_96 : q_at cX12_dug 96 (.ireturn) 1 97 := ⟨by decide +kernel, rfl⟩
theorem dX12_fineOf_0 : q_at cX12_fineOf 0 (.aload_n 0) 1 1 := ⟨by decide +kernel, rfl⟩
theorem dX12_fineOf_1 : q_at cX12_fineOf 1 (.iconst 4) 1 2 := ⟨by decide +kernel, rfl⟩
theorem dX12_fineOf_2 : q_at cX12_fineOf 2 (.invokevirtual 313) 3 5 := ⟨by decide +kernel, rfl⟩
theorem dX12_fineOf_5 : q_at cX12_fineOf 5 (.istore_n 3) 1 6 := ⟨by decide +kernel, rfl⟩
theorem dX12_fineOf_6 : q_at cX12_fineOf 6 (.aload_n 0) 1 7 := ⟨by decide +kernel, rfl⟩
theorem dX12_fineOf_7 : q_at cX12_fineOf 7 (.getfield 31) 3 10 := ⟨by decide +kernel, rfl⟩
theorem dX12_fineOf_10 : q_at cX12_fineOf 10 (.bipush 97) 2 12 := ⟨by decide +kernel, rfl⟩
theorem dX12_fineOf_12 : q_at cX12_fineOf 12 (.iload_n 1) 1 13 := ⟨by decide +kernel, rfl⟩
theorem dX12_fineOf_13 : q_at cX12_fineOf 13 (.iastore) 1 14 := ⟨by decide +kernel, rfl⟩
theorem dX12_fineOf_14 : q_at cX12_fineOf 14 (.aload_n 0) 1 15 := ⟨by decide +kernel, rfl⟩
theorem dX12_fineOf_15 : q_at cX12_fineOf 15 (.getfield 31) 3 18 := ⟨by decide +kernel, rfl⟩
theorem dX12_fineOf_18 : q_at cX12_fineOf 18 (.bipush 98) 2 20 := ⟨by decide +kernel, rfl⟩
theorem dX12_fineOf_20 : q_at cX12_fineOf 20 (.iload_n 2) 1 21 := ⟨by decide +kernel, rfl⟩
theorem dX12_fineOf_21 : q_at cX12_fineOf 21 (.iastore) 1 22 := ⟨by decide +kernel, rfl⟩
theorem dX12_fineOf_22 : q_at cX12_fineOf 22 (.iload_n 3) 1 23 := ⟨by decide +kernel, rfl⟩
theorem dX12_fineOf_23 : q_at cX12_fineOf 23 (.ifCond .ge 7) 3 26 := ⟨by decide +kernel, rfl⟩
theorem dX12_fineOf_26 : q_at cX12_fineOf 26 (.iconst 1) 1 27 := ⟨by decide +kernel, rfl⟩
theorem dX12_fineOf_27 : q_at cX12_fineOf 27 (.goto 8) 3 30 := ⟨by decide +kernel, rfl⟩
theorem dX12_fineOf_30 : q_at cX12_fineOf 30 (.aload_n 0) 1 31 := ⟨by decide +kernel, rfl⟩
theorem dX12_fineOf_31 : q_at cX12_fineOf 31 (.iload_n 3) 1 32 := ⟨by decide +kernel, rfl⟩
theorem dX12_fineOf_32 : q_at cX12_fineOf 32 (.invokevirtual 322) 3 35 := ⟨by decide +kernel, rfl⟩
theorem dX12_fineOf_35 : q_at cX12_fineOf 35 (.ireturn) 1 36 := ⟨by decide +kernel, rfl⟩
theorem dX12_hear_0 : q_at cX12_hear 0 (.aload_n 0) 1 1 := ⟨by decide +kernel, rfl⟩
theorem dX12_hear_1 : q_at cX12_hear 1 (.iload_n 1) 1 2 := ⟨by decide +kernel, rfl⟩
theorem dX12_hear_2 : q_at cX12_hear 2 (.invokevirtual 110) 3 5 := ⟨by decide +kernel, rfl⟩
theorem dX12_hear_5 : q_at cX12_hear 5 (.ifCond .eq 11) 3 8 := ⟨by decide +kernel, rfl⟩
theorem dX12_hear_8 : q_at cX12_hear 8 (.aload_n 0) 1 9 := ⟨by decide +kernel, rfl⟩
theorem dX12_hear_9 : q_at cX12_hear 9 (.iload_n 2) 1 10 := ⟨by decide +kernel, rfl⟩
theorem dX12_hear_10 : q_at cX12_hear 10 (.invokevirtual 99) 3 13 := ⟨by decide +kernel, rfl⟩
theorem dX12_hear_13 : q_at cX12_hear 13 (.ifCond .ne 6) 3 16 := ⟨by decide +kernel, rfl⟩
theorem dX12_hear_16 : q_at cX12_hear 16 (.ldc 90) 2 18 := ⟨by decide +kernel, rfl⟩
theorem dX12_hear_18 : q_at cX12_hear 18 (.ireturn) 1 19 := ⟨by decide +kernel, rfl⟩
theorem dX12_hear_19 : q_at cX12_hear 19 (.aload_n 0) 1 20 := ⟨by decide +kernel, rfl⟩
theorem dX12_hear_20 : q_at cX12_hear 20 (.iload_n 1) 1 21 := ⟨by decide +kernel, rfl⟩
theorem dX12_hear_21 : q_at cX12_hear 21 (.iload_n 2) 1 22 := ⟨by decide +kernel, rfl⟩
theorem dX12_hear_22 : q_at cX12_hear 22 (.invokevirtual 121) 3 25 := ⟨by decide +kernel, rfl⟩
theorem dX12_hear_25 : q_at cX12_hear 25 (.iconst 1) 1 26 := ⟨by decide +kernel, rfl⟩
theorem dX12_hear_26 : q_at cX12_hear 26 (.ireturn) 1 27 := ⟨by decide +kernel, rfl⟩
theorem dX12_is_0 : q_at cX12_is 0 (.aload_n 0) 1 1 := ⟨by decide +kernel, rfl⟩
theorem dX12_is_1 : q_at cX12_is 1 (.iload_n 1) 1 2 := ⟨by decide +kernel, rfl⟩
theorem dX12_is_2 : q_at cX12_is 2 (.invokevirtual 110) 3 5 := ⟨by decide +kernel, rfl⟩
theorem dX12_is_5 : q_at cX12_is 5 (.ifCond .eq 15) 3 8 := ⟨by decide +kernel, rfl⟩
theorem dX12_is_8 : q_at cX12_is 8 (.iload_n 2) 1 9 := ⟨by decide +kernel, rfl⟩
theorem dX12_is_9 : q_at cX12_is 9 (.i2l) 1 10 := ⟨by decide +kernel, rfl⟩
theorem dX12_is_10 : q_at cX12_is 10 (.lconst 0) 1 11 := ⟨by decide +kernel, rfl⟩
theorem dX12_is_11 : q_at cX12_is 11 (.ldc2_w 113) 3 14 := ⟨by decide +kernel, rfl⟩
theorem dX12_is_14 : q_at cX12_is 14 (.invokestatic 64) 3 17 := ⟨by decide +kernel, rfl⟩
theorem dX12_is_17 : q_at cX12_is 17 (.ifCond .ne 6) 3 20 := ⟨by decide +kernel, rfl⟩
theorem dX12_is_20 : q_at cX12_is 20 (.ldc 90) 2 22 := ⟨by decide +kernel, rfl⟩
theorem dX12_is_22 : q_at cX12_is 22 (.ireturn) 1 23 := ⟨by decide +kernel, rfl⟩
theorem dX12_is_23 : q_at cX12_is 23 (.iload_n 2) 1 24 := ⟨by decide +kernel, rfl⟩
theorem dX12_is_24 : q_at cX12_is 24 (.bipush 10) 2 26 := ⟨by decide +kernel, rfl⟩
theorem dX12_is_26 : q_at cX12_is 26 (.if_icmp .ge 18) 3 29 := ⟨by decide +kernel, rfl⟩
theorem dX12_is_29 : q_at cX12_is 29 (.aload_n 0) 1 30 := ⟨by decide +kernel, rfl⟩
theorem dX12_is_30 : q_at cX12_is 30 (.getfield 7) 3 33 := ⟨by decide +kernel, rfl⟩
theorem dX12_is_33 : q_at cX12_is 33 (.aload_n 0) 1 34 := ⟨by decide +kernel, rfl⟩
theorem dX12_is_34 : q_at cX12_is 34 (.iload_n 1) 1 35 := ⟨by decide +kernel, rfl⟩
theorem dX12_is_35 : q_at cX12_is 35 (.invokevirtual 68) 3 38 := ⟨by decide +kernel, rfl⟩
theorem dX12_is_38 : q_at cX12_is 38 (.iload_n 2) 1 39 := ⟨by decide +kernel, rfl⟩
theorem dX12_is_39 : q_at cX12_is 39 (.iadd) 1 40 := ⟨by decide +kernel, rfl⟩
theorem dX12_is_40 : q_at cX12_is 40 (.iaload) 1 41 := ⟨by decide +kernel, rfl⟩
theorem dX12_is_41 : q_at cX12_is 41 (.goto 45) 3 44 := ⟨by decide +kernel, rfl⟩
theorem dX12_is_44 : q_at cX12_is 44 (.iload_n 2) 1 45 := ⟨by decide +kernel, rfl⟩
theorem dX12_is_45 : q_at cX12_is 45 (.bipush 10) 2 47 := ⟨by decide +kernel, rfl⟩
theorem dX12_is_47 : q_at cX12_is 47 (.if_icmp .ne 11) 3 50 := ⟨by decide +kernel, rfl⟩
theorem dX12_is_50 : q_at cX12_is 50 (.aload_n 0) 1 51 := ⟨by decide +kernel, rfl⟩
theorem dX12_is_51 : q_at cX12_is 51 (.iload_n 1) 1 52 := ⟨by decide +kernel, rfl⟩
theorem dX12_is_52 : q_at cX12_is 52 (.invokevirtual 115) 3 55 := ⟨by decide +kernel, rfl⟩
theorem dX12_is_55 : q_at cX12_is 55 (.goto 31) 3 58 := ⟨by decide +kernel, rfl⟩
theorem dX12_is_58 : q_at cX12_is 58 (.iload_n 2) 1 59 := ⟨by decide +kernel, rfl⟩
theorem dX12_is_59 : q_at cX12_is 59 (.bipush 11) 2 61 := ⟨by decide +kernel, rfl⟩
theorem dX12_is_61 : q_at cX12_is 61 (.if_icmp .ne 11) 3 64 := ⟨by decide +kernel, rfl⟩
theorem dX12_is_64 : q_at cX12_is 64 (.aload_n 0) 1 65 := ⟨by decide +kernel, rfl⟩
theorem dX12_is_65 : q_at cX12_is 65 (.iload_n 1) 1 66 := ⟨by decide +kernel, rfl⟩
theorem dX12_is_66 : q_at cX12_is 66 (.invokevirtual 118) 3 69 := ⟨by decide +kernel, rfl⟩
theorem dX12_is_69 : q_at cX12_is 69 (.goto 17) 3 72 := ⟨by decide +kernel, rfl⟩
theorem dX12_is_72 : q_at cX12_is 72 (.aload_n 0) 1 73 := ⟨by decide +kernel, rfl⟩
theorem dX12_is_73 : q_at cX12_is 73 (.getfield 7) 3 76 := ⟨by decide +kernel, rfl⟩
theorem dX12_is_76 : q_at cX12_is 76 (.aload_n 0) 1 77 := ⟨by decide +kernel, rfl⟩
theorem dX12_is_77 : q_at cX12_is 77 (.iload_n 1) 1 78 := ⟨by decide +kernel, rfl⟩
theorem dX12_is_78 : q_at cX12_is 78 (.invokevirtual 68) 3 81 := ⟨by decide +kernel, rfl⟩
theorem dX12_is_81 : q_at cX12_is 81 (.iload_n 2) 1 82 := ⟨by decide +kernel, rfl⟩
theorem dX12_is_82 : q_at cX12_is 82 (.iadd) 1 83 := ⟨by decide +kernel, rfl⟩
theorem dX12_is_83 : q_at cX12_is 83 (.iconst 2) 1 84 := ⟨by decide +kernel, rfl⟩
theorem dX12_is_84 : q_at cX12_is 84 (.isub) 1 85 := ⟨by decide +kernel, rfl⟩
theorem dX12_is_85 : q_at cX12_is 85 (.iaload) 1 86 := ⟨by decide +kernel, rfl⟩
theorem dX12_is_86 : q_at cX12_is 86 (.ireturn) 1 87 := ⟨by decide +kernel, rfl⟩
theorem dX12_keepOf_0 : q_at cX12_keepOf 0 (.aload_n 0) 1 1 := ⟨by decide +kernel, rfl⟩
theorem dX12_keepOf_1 : q_at cX12_keepOf 1 (.iconst 5) 1 2 := ⟨by decide +kernel, rfl⟩
theorem dX12_keepOf_2 : q_at cX12_keepOf 2 (.invokevirtual 313) 3 5 := ⟨by decide +kernel, rfl⟩
theorem dX12_keepOf_5 : q_at cX12_keepOf 5 (.istore_n 3) 1 6 := ⟨by decide +kernel, rfl⟩
theorem dX12_keepOf_6 : q_at cX12_keepOf 6 (.aload_n 0) 1 7 := ⟨by decide +kernel, rfl⟩
theorem dX12_keepOf_7 : q_at cX12_keepOf 7 (.getfield 31) 3 10 := ⟨by decide +kernel, rfl⟩
theorem dX12_keepOf_10 : q_at cX12_keepOf 10 (.bipush 98) 2 12 := ⟨by decide +kernel, rfl⟩
theorem dX12_keepOf_12 : q_at cX12_keepOf 12 (.iload_n 1) 1 13 := ⟨by decide +kernel, rfl⟩
theorem dX12_keepOf_13 : q_at cX12_keepOf 13 (.iastore) 1 14 := ⟨by decide +kernel, rfl⟩
theorem dX12_keepOf_14 : q_at cX12_keepOf 14 (.aload_n 0) 1 15 := ⟨by decide +kernel, rfl⟩
theorem dX12_keepOf_15 : q_at cX12_keepOf 15 (.getfield 31) 3 18 := ⟨by decide +kernel, rfl⟩
theorem dX12_keepOf_18 : q_at cX12_keepOf 18 (.bipush 100) 2 20 := ⟨by decide +kernel, rfl⟩
theorem dX12_keepOf_20 : q_at cX12_keepOf 20 (.iload_n 2) 1 21 := ⟨by decide +kernel, rfl⟩
theorem dX12_keepOf_21 : q_at cX12_keepOf 21 (.iastore) 1 22 := ⟨by decide +kernel, rfl⟩
theorem dX12_keepOf_22 : q_at cX12_keepOf 22 (.iload_n 3) 1 23 := ⟨by decide +kernel, rfl⟩
theorem dX12_keepOf_23 : q_at cX12_keepOf 23 (.ifCond .ge 7) 3 26 := ⟨by decide +kernel, rfl⟩
theorem dX12_keepOf_26 : q_at cX12_keepOf 26 (.iconst 1) 1 27 := ⟨by decide +kernel, rfl⟩
theorem dX12_keepOf_27 : q_at cX12_keepOf 27 (.goto 8) 3 30 := ⟨by decide +kernel, rfl⟩
theorem dX12_keepOf_30 : q_at cX12_keepOf 30 (.aload_n 0) 1 31 := ⟨by decide +kernel, rfl⟩
theorem dX12_keepOf_31 : q_at cX12_keepOf 31 (.iload_n 3) 1 32 := ⟨by decide +kernel, rfl⟩
theorem dX12_keepOf_32 : q_at cX12_keepOf 32 (.invokevirtual 322) 3 35 := ⟨by decide +kernel, rfl⟩
theorem dX12_keepOf_35 : q_at cX12_keepOf 35 (.ireturn) 1 36 := ⟨by decide +kernel, rfl⟩
theorem dX12_known_0 : q_at cX12_known 0 (.aload_n 0) 1 1 := ⟨by decide +kernel, rfl⟩
theorem dX12_known_1 : q_at cX12_known 1 (.iload_n 1) 1 2 := ⟨by decide +kernel, rfl⟩
theorem dX12_known_2 : q_at cX12_known 2 (.invokevirtual 110) 3 5 := ⟨by decide +kernel, rfl⟩
theorem dX12_known_5 : q_at cX12_known 5 (.ifCond .eq 21) 3 8 := ⟨by decide +kernel, rfl⟩
theorem dX12_known_8 : q_at cX12_known 8 (.aload_n 0) 1 9 := ⟨by decide +kernel, rfl⟩
theorem dX12_known_9 : q_at cX12_known 9 (.iload_n 2) 1 10 := ⟨by decide +kernel, rfl⟩
theorem dX12_known_10 : q_at cX12_known 10 (.invokevirtual 99) 3 13 := ⟨by decide +kernel, rfl⟩
theorem dX12_known_13 : q_at cX12_known 13 (.ifCond .eq 13) 3 16 := ⟨by decide +kernel, rfl⟩
theorem dX12_known_16 : q_at cX12_known 16 (.iload_n 3) 1 17 := ⟨by decide +kernel, rfl⟩
theorem dX12_known_17 : q_at cX12_known 17 (.i2l) 1 18 := ⟨by decide +kernel, rfl⟩
theorem dX12_known_18 : q_at cX12_known 18 (.lconst 0) 1 19 := ⟨by decide +kernel, rfl⟩
theorem dX12_known_19 : q_at cX12_known 19 (.lconst 1) 1 20 := ⟨by decide +kernel, rfl⟩
theorem dX12_known_20 : q_at cX12_known 20 (.invokestatic 64) 3 23 := ⟨by decide +kernel, rfl⟩
theorem dX12_known_23 : q_at cX12_known 23 (.ifCond .ne 6) 3 26 := ⟨by decide +kernel, rfl⟩
theorem dX12_known_26 : q_at cX12_known 26 (.ldc 90) 2 28 := ⟨by decide +kernel, rfl⟩
theorem dX12_known_28 : q_at cX12_known 28 (.ireturn) 1 29 := ⟨by decide +kernel, rfl⟩
theorem dX12_known_29 : q_at cX12_known 29 (.aload_n 0) 1 30 := ⟨by decide +kernel, rfl⟩
theorem dX12_known_30 : q_at cX12_known 30 (.getfield 7) 3 33 := ⟨by decide +kernel, rfl⟩
theorem dX12_known_33 : q_at cX12_known 33 (.aload_n 0) 1 34 := ⟨by decide +kernel, rfl⟩
theorem dX12_known_34 : q_at cX12_known 34 (.iload_n 1) 1 35 := ⟨by decide +kernel, rfl⟩
theorem dX12_known_35 : q_at cX12_known 35 (.invokevirtual 68) 3 38 := ⟨by decide +kernel, rfl⟩
theorem dX12_known_38 : q_at cX12_known 38 (.bipush 18) 2 40 := ⟨by decide +kernel, rfl⟩
theorem dX12_known_40 : q_at cX12_known 40 (.iadd) 1 41 := ⟨by decide +kernel, rfl⟩
theorem dX12_known_41 : q_at cX12_known 41 (.iload_n 2) 1 42 := ⟨by decide +kernel, rfl⟩
theorem dX12_known_42 : q_at cX12_known 42 (.iadd) 1 43 := ⟨by decide +kernel, rfl⟩
theorem dX12_known_43 : q_at cX12_known 43 (.iaload) 1 44 := ⟨by decide +kernel, rfl⟩
theorem dX12_known_44 : q_at cX12_known 44 (.istore 4) 2 46 := ⟨by decide +kernel, rfl⟩
theorem dX12_known_46 : q_at cX12_known 46 (.iload 4) 2 48 := ⟨by decide +kernel, rfl⟩
theorem dX12_known_48 : q_at cX12_known 48 (.ifCond .ge 8) 3 51 := ⟨by decide +kernel, rfl⟩
theorem dX12_known_51 : q_at cX12_known 51 (.ldc 61) 2 53 := ⟨by decide +kernel, rfl⟩
theorem dX12_known_53 : q_at cX12_known 53 (.goto 28) 3 56 := ⟨by decide +kernel, rfl⟩
theorem dX12_known_56 : q_at cX12_known 56 (.iload_n 3) 1 57 := ⟨by decide +kernel, rfl⟩
theorem dX12_known_57 : q_at cX12_known 57 (.iconst 1) 1 58 := ⟨by decide +kernel, rfl⟩
theorem dX12_known_58 : q_at cX12_known 58 (.if_icmp .ne 8) 3 61 := ⟨by decide +kernel, rfl⟩
theorem dX12_known_61 : q_at cX12_known 61 (.iload 4) 2 63 := ⟨by decide +kernel, rfl⟩
theorem dX12_known_63 : q_at cX12_known 63 (.goto 18) 3 66 := ⟨by decide +kernel, rfl⟩
theorem dX12_known_66 : q_at cX12_known 66 (.aload_n 0) 1 67 := ⟨by decide +kernel, rfl⟩
theorem dX12_known_67 : q_at cX12_known 67 (.getfield 7) 3 70 := ⟨by decide +kernel, rfl⟩
theorem dX12_known_70 : q_at cX12_known 70 (.aload_n 0) 1 71 := ⟨by decide +kernel, rfl⟩
theorem dX12_known_71 : q_at cX12_known 71 (.iload_n 1) 1 72 := ⟨by decide +kernel, rfl⟩
theorem dX12_known_72 : q_at cX12_known 72 (.invokevirtual 68) 3 75 := ⟨by decide +kernel, rfl⟩
theorem dX12_known_75 : q_at cX12_known 75 (.bipush 12) 2 77 := ⟨by decide +kernel, rfl⟩
theorem dX12_known_77 : q_at cX12_known 77 (.iadd) 1 78 := ⟨by decide +kernel, rfl⟩
theorem dX12_known_78 : q_at cX12_known 78 (.iload_n 2) 1 79 := ⟨by decide +kernel, rfl⟩
theorem dX12_known_79 : q_at cX12_known 79 (.iadd) 1 80 := ⟨by decide +kernel, rfl⟩
theorem dX12_known_80 : q_at cX12_known 80 (.iaload) 1 81 := ⟨by decide +kernel, rfl⟩
theorem dX12_known_81 : q_at cX12_known 81 (.ireturn) 1 82 := ⟨by decide +kernel, rfl⟩
theorem dX12_let_0 : q_at cX12_let 0 (.aload_n 0) 1 1 := ⟨by decide +kernel, rfl⟩
theorem dX12_let_1 : q_at cX12_let 1 (.iload_n 1) 1 2 := ⟨by decide +kernel, rfl⟩
theorem dX12_let_2 : q_at cX12_let 2 (.invokevirtual 353) 3 5 := ⟨by decide +kernel, rfl⟩
theorem dX12_let_5 : q_at cX12_let 5 (.ifCond .ne 6) 3 8 := ⟨by decide +kernel, rfl⟩
theorem dX12_let_8 : q_at cX12_let 8 (.ldc 90) 2 10 := ⟨by decide +kernel, rfl⟩
theorem dX12_let_10 : q_at cX12_let 10 (.ireturn) 1 11 := ⟨by decide +kernel, rfl⟩
theorem dX12_let_11 : q_at cX12_let 11 (.aload_n 0) 1 12 := ⟨by decide +kernel, rfl⟩
theorem dX12_let_12 : q_at cX12_let 12 (.iload_n 1) 1 13 := ⟨by decide +kernel, rfl⟩
theorem dX12_let_13 : q_at cX12_let 13 (.invokevirtual 75) 3 16 := ⟨by decide +kernel, rfl⟩
theorem dX12_let_16 : q_at cX12_let 16 (.istore_n 2) 1 17 := ⟨by decide +kernel, rfl⟩
theorem dX12_let_17 : q_at cX12_let 17 (.aload_n 0) 1 18 := ⟨by decide +kernel, rfl⟩
theorem dX12_let_18 : q_at cX12_let 18 (.getfield 7) 3 21 := ⟨by decide +kernel, rfl⟩
theorem dX12_let_21 : q_at cX12_let 21 (.iload_n 2) 1 22 := ⟨by decide +kernel, rfl⟩
theorem dX12_let_22 : q_at cX12_let 22 (.iaload) 1 23 := ⟨by decide +kernel, rfl⟩
theorem dX12_let_23 : q_at cX12_let 23 (.iconst 5) 1 24 := ⟨by decide +kernel, rfl⟩
theorem dX12_let_24 : q_at cX12_let 24 (.if_icmp .eq 17) 3 27 := ⟨by decide +kernel, rfl⟩
theorem dX12_let_27 : q_at cX12_let 27 (.aload_n 0) 1 28 := ⟨by decide +kernel, rfl⟩
theorem dX12_let_28 : q_at cX12_let 28 (.getfield 7) 3 31 := ⟨by decide +kernel, rfl⟩
theorem dX12_let_31 : q_at cX12_let 31 (.iload_n 2) 1 32 := ⟨by decide +kernel, rfl⟩
theorem dX12_let_32 : q_at cX12_let 32 (.iaload) 1 33 := ⟨by decide +kernel, rfl⟩
theorem dX12_let_33 : q_at cX12_let 33 (.iconst 4) 1 34 := ⟨by decide +kernel, rfl⟩
theorem dX12_let_34 : q_at cX12_let 34 (.if_icmp .eq 7) 3 37 := ⟨by decide +kernel, rfl⟩
theorem dX12_let_37 : q_at cX12_let 37 (.ldc_w 356) 3 40 := ⟨by decide +kernel, rfl⟩
theorem dX12_let_40 : q_at cX12_let 40 (.ireturn) 1 41 := ⟨by decide +kernel, rfl⟩
theorem dX12_let_41 : q_at cX12_let 41 (.aload_n 0) 1 42 := ⟨by decide +kernel, rfl⟩
theorem dX12_let_42 : q_at cX12_let 42 (.getfield 7) 3 45 := ⟨by decide +kernel, rfl⟩
theorem dX12_let_45 : q_at cX12_let 45 (.iload_n 2) 1 46 := ⟨by decide +kernel, rfl⟩
theorem dX12_let_46 : q_at cX12_let 46 (.iconst 5) 1 47 := ⟨by decide +kernel, rfl⟩
theorem dX12_let_47 : q_at cX12_let 47 (.iadd) 1 48 := ⟨by decide +kernel, rfl⟩
theorem dX12_let_48 : q_at cX12_let 48 (.iaload) 1 49 := ⟨by decide +kernel, rfl⟩
theorem dX12_let_49 : q_at cX12_let 49 (.ifCond .eq 7) 3 52 := ⟨by decide +kernel, rfl⟩
theorem dX12_let_52 : q_at cX12_let 52 (.ldc_w 346) 3 55 := ⟨by decide +kernel, rfl⟩
theorem dX12_let_55 : q_at cX12_let 55 (.ireturn) 1 56 := ⟨by decide +kernel, rfl⟩
theorem dX12_let_56 : q_at cX12_let 56 (.aload_n 0) 1 57 := ⟨by decide +kernel, rfl⟩
theorem dX12_let_57 : q_at cX12_let 57 (.getfield 7) 3 60 := ⟨by decide +kernel, rfl⟩
theorem dX12_let_60 : q_at cX12_let 60 (.iload_n 2) 1 61 := ⟨by decide +kernel, rfl⟩
theorem dX12_let_61 : q_at cX12_let 61 (.iconst 5) 1 62 := ⟨by decide +kernel, rfl⟩
theorem dX12_let_62 : q_at cX12_let 62 (.iadd) 1 63 := ⟨by decide +kernel, rfl⟩
theorem dX12_let_63 : q_at cX12_let 63 (.aload_n 0) 1 64 := ⟨by decide +kernel, rfl⟩
theorem dX12_let_64 : q_at cX12_let 64 (.getfield 7) 3 67 := ⟨by decide +kernel, rfl⟩
theorem dX12_let_67 : q_at cX12_let 67 (.iload_n 2) 1 68 := ⟨by decide +kernel, rfl⟩
theorem dX12_let_68 : q_at cX12_let 68 (.iaload) 1 69 := ⟨by decide +kernel, rfl⟩
theorem dX12_let_69 : q_at cX12_let 69 (.iconst 5) 1 70 := ⟨by decide +kernel, rfl⟩
theorem dX12_let_70 : q_at cX12_let 70 (.if_icmp .ne 7) 3 73 := ⟨by decide +kernel, rfl⟩
theorem dX12_let_73 : q_at cX12_let 73 (.iconst 1) 1 74 := ⟨by decide +kernel, rfl⟩
theorem dX12_let_74 : q_at cX12_let 74 (.goto 4) 3 77 := ⟨by decide +kernel, rfl⟩
theorem dX12_let_77 : q_at cX12_let 77 (.iconst 2) 1 78 := ⟨by decide +kernel, rfl⟩
theorem dX12_let_78 : q_at cX12_let 78 (.iastore) 1 79 := ⟨by decide +kernel, rfl⟩
theorem dX12_let_79 : q_at cX12_let 79 (.iconst 1) 1 80 := ⟨by decide +kernel, rfl⟩
theorem dX12_let_80 : q_at cX12_let 80 (.ireturn) 1 81 := ⟨by decide +kernel, rfl⟩
theorem dX12_loaves_0 : q_at cX12_loaves 0 (.iload_n 3) 1 1 := ⟨by decide +kernel, rfl⟩
theorem dX12_loaves_1 : q_at cX12_loaves 1 (.ifCond .ge 7) 3 4 := ⟨by decide +kernel, rfl⟩
theorem dX12_loaves_4 : q_at cX12_loaves 4 (.iconst 0) 1 5 := ⟨by decide +kernel, rfl⟩
theorem dX12_loaves_5 : q_at cX12_loaves 5 (.goto 17) 3 8 := ⟨by decide +kernel, rfl⟩
theorem dX12_loaves_8 : q_at cX12_loaves 8 (.iload_n 3) 1 9 := ⟨by decide +kernel, rfl⟩
theorem dX12_loaves_9 : q_at cX12_loaves 9 (.aload_n 0) 1 10 := ⟨by decide +kernel, rfl⟩
theorem dX12_loaves_10 : q_at cX12_loaves 10 (.getfield 7) 3 13 := ⟨by decide +kernel, rfl⟩
theorem dX12_loaves_13 : q_at cX12_loaves 13 (.aload_n 0) 1 14 := ⟨by decide +kernel, rfl⟩
theorem dX12_loaves_14 : q_at cX12_loaves 14 (.iload_n 2) 1 15 := ⟨by decide +kernel, rfl⟩
theorem dX12_loaves_15 : q_at cX12_loaves 15 (.invokevirtual 72) 3 18 := ⟨by decide +kernel, rfl⟩
theorem dX12_loaves_18 : q_at cX12_loaves 18 (.iconst 1) 1 19 := ⟨by decide +kernel, rfl⟩
theorem dX12_loaves_19 : q_at cX12_loaves 19 (.iadd) 1 20 := ⟨by decide +kernel, rfl⟩
theorem dX12_loaves_20 : q_at cX12_loaves 20 (.iaload) 1 21 := ⟨by decide +kernel, rfl⟩
theorem dX12_loaves_21 : q_at cX12_loaves 21 (.idiv) 1 22 := ⟨by decide +kernel, rfl⟩
theorem dX12_loaves_22 : q_at cX12_loaves 22 (.istore 4) 2 24 := ⟨by decide +kernel, rfl⟩
theorem dX12_loaves_24 : q_at cX12_loaves 24 (.iload 4) 2 26 := ⟨by decide +kernel, rfl⟩
theorem dX12_loaves_26 : q_at cX12_loaves 26 (.aload_n 0) 1 27 := ⟨by decide +kernel, rfl⟩
theorem dX12_loaves_27 : q_at cX12_loaves 27 (.iload_n 1) 1 28 := ⟨by decide +kernel, rfl⟩
theorem dX12_loaves_28 : q_at cX12_loaves 28 (.invokevirtual 135) 3 31 := ⟨by decide +kernel, rfl⟩
theorem dX12_loaves_31 : q_at cX12_loaves 31 (.invokestatic 138) 3 34 := ⟨by decide +kernel, rfl⟩
theorem dX12_loaves_34 : q_at cX12_loaves 34 (.aload_n 0) 1 35 := ⟨by decide +kernel, rfl⟩
theorem dX12_loaves_35 : q_at cX12_loaves 35 (.getfield 7) 3 38 := ⟨by decide +kernel, rfl⟩
theorem dX12_loaves_38 : q_at cX12_loaves 38 (.aload_n 0) 1 39 := ⟨by decide +kernel, rfl⟩
theorem dX12_loaves_39 : q_at cX12_loaves 39 (.iload_n 2) 1 40 := ⟨by decide +kernel, rfl⟩
theorem dX12_loaves_40 : q_at cX12_loaves 40 (.invokevirtual 72) 3 43 := ⟨by decide +kernel, rfl⟩
theorem dX12_loaves_43 : q_at cX12_loaves 43 (.iconst 2) 1 44 := ⟨by decide +kernel, rfl⟩
theorem dX12_loaves_44 : q_at cX12_loaves 44 (.iadd) 1 45 := ⟨by decide +kernel, rfl⟩
theorem dX12_loaves_45 : q_at cX12_loaves 45 (.iaload) 1 46 := ⟨by decide +kernel, rfl⟩
theorem dX12_loaves_46 : q_at cX12_loaves 46 (.invokestatic 138) 3 49 := ⟨by decide +kernel, rfl⟩
theorem dX12_loaves_49 : q_at cX12_loaves 49 (.ireturn) 1 50 := ⟨by decide +kernel, rfl⟩
theorem dX12_man_0 : q_at cX12_man 0 (.iload_n 1) 1 1 := ⟨by decide +kernel, rfl⟩
theorem dX12_man_1 : q_at cX12_man 1 (.invokestatic 78) 3 4 := ⟨by decide +kernel, rfl⟩
theorem dX12_man_4 : q_at cX12_man 4 (.ifCond .eq 27) 3 7 := ⟨by decide +kernel, rfl⟩
theorem dX12_man_7 : q_at cX12_man 7 (.iload_n 2) 1 8 := ⟨by decide +kernel, rfl⟩
theorem dX12_man_8 : q_at cX12_man 8 (.i2l) 1 9 := ⟨by decide +kernel, rfl⟩
theorem dX12_man_9 : q_at cX12_man 9 (.lconst 0) 1 10 := ⟨by decide +kernel, rfl⟩
theorem dX12_man_10 : q_at cX12_man 10 (.ldc2_w 104) 3 13 := ⟨by decide +kernel, rfl⟩
theorem dX12_man_13 : q_at cX12_man 13 (.invokestatic 64) 3 16 := ⟨by decide +kernel, rfl⟩
theorem dX12_man_16 : q_at cX12_man 16 (.ifCond .eq 15) 3 19 := ⟨by decide +kernel, rfl⟩
theorem dX12_man_19 : q_at cX12_man 19 (.iload_n 3) 1 20 := ⟨by decide +kernel, rfl⟩
theorem dX12_man_20 : q_at cX12_man 20 (.i2l) 1 21 := ⟨by decide +kernel, rfl⟩
theorem dX12_man_21 : q_at cX12_man 21 (.lconst 1) 1 22 := ⟨by decide +kernel, rfl⟩
theorem dX12_man_22 : q_at cX12_man 22 (.ldc2_w 104) 3 25 := ⟨by decide +kernel, rfl⟩
theorem dX12_man_25 : q_at cX12_man 25 (.invokestatic 64) 3 28 := ⟨by decide +kernel, rfl⟩
theorem dX12_man_28 : q_at cX12_man 28 (.ifCond .ne 6) 3 31 := ⟨by decide +kernel, rfl⟩
theorem dX12_man_31 : q_at cX12_man 31 (.ldc 90) 2 33 := ⟨by decide +kernel, rfl⟩
theorem dX12_man_33 : q_at cX12_man 33 (.ireturn) 1 34 := ⟨by decide +kernel, rfl⟩
theorem dX12_man_34 : q_at cX12_man 34 (.aload_n 0) 1 35 := ⟨by decide +kernel, rfl⟩
theorem dX12_man_35 : q_at cX12_man 35 (.getfield 7) 3 38 := ⟨by decide +kernel, rfl⟩
theorem dX12_man_38 : q_at cX12_man 38 (.iconst 2) 1 39 := ⟨by decide +kernel, rfl⟩
theorem dX12_man_39 : q_at cX12_man 39 (.iaload) 1 40 := ⟨by decide +kernel, rfl⟩
theorem dX12_man_40 : q_at cX12_man 40 (.bipush 12) 2 42 := ⟨by decide +kernel, rfl⟩
theorem dX12_man_42 : q_at cX12_man 42 (.if_icmp .eq 16) 3 45 := ⟨by decide +kernel, rfl⟩
theorem dX12_man_45 : q_at cX12_man 45 (.aload_n 0) 1 46 := ⟨by decide +kernel, rfl⟩
theorem dX12_man_46 : q_at cX12_man 46 (.getfield 7) 3 49 := ⟨by decide +kernel, rfl⟩
theorem dX12_man_49 : q_at cX12_man 49 (.iconst 3) 1 50 := ⟨by decide +kernel, rfl⟩
theorem dX12_man_50 : q_at cX12_man 50 (.iaload) 1 51 := ⟨by decide +kernel, rfl⟩
theorem dX12_man_51 : q_at cX12_man 51 (.iconst 2) 1 52 := ⟨by decide +kernel, rfl⟩
theorem dX12_man_52 : q_at cX12_man 52 (.iadd) 1 53 := ⟨by decide +kernel, rfl⟩
theorem dX12_man_53 : q_at cX12_man 53 (.bipush 60) 2 55 := ⟨by decide +kernel, rfl⟩
theorem dX12_man_55 : q_at cX12_man 55 (.if_icmp .le 6) 3 58 := ⟨by decide +kernel, rfl⟩
theorem dX12_man_58 : q_at cX12_man 58 (.ldc 98) 2 60 := ⟨by decide +kernel, rfl⟩
theorem dX12_man_60 : q_at cX12_man 60 (.ireturn) 1 61 := ⟨by decide +kernel, rfl⟩
theorem dX12_man_61 : q_at cX12_man 61 (.aload_n 0) 1 62 := ⟨by decide +kernel, rfl⟩
theorem dX12_man_62 : q_at cX12_man 62 (.getfield 7) 3 65 := ⟨by decide +kernel, rfl⟩
theorem dX12_man_65 : q_at cX12_man 65 (.iconst 2) 1 66 := ⟨by decide +kernel, rfl⟩
theorem dX12_man_66 : q_at cX12_man 66 (.iaload) 1 67 := ⟨by decide +kernel, rfl⟩
theorem dX12_man_67 : q_at cX12_man 67 (.istore 4) 2 69 := ⟨by decide +kernel, rfl⟩
theorem dX12_man_69 : q_at cX12_man 69 (.aload_n 0) 1 70 := ⟨by decide +kernel, rfl⟩
theorem dX12_man_70 : q_at cX12_man 70 (.iload 4) 2 72 := ⟨by decide +kernel, rfl⟩
theorem dX12_man_72 : q_at cX12_man 72 (.invokevirtual 68) 3 75 := ⟨by decide +kernel, rfl⟩
theorem dX12_man_75 : q_at cX12_man 75 (.istore 5) 2 77 := ⟨by decide +kernel, rfl⟩
theorem dX12_man_77 : q_at cX12_man 77 (.iconst 0) 1 78 := ⟨by decide +kernel, rfl⟩
theorem dX12_man_78 : q_at cX12_man 78 (.istore 6) 2 80 := ⟨by decide +kernel, rfl⟩
theorem dX12_man_80 : q_at cX12_man 80 (.iload 6) 2 82 := ⟨by decide +kernel, rfl⟩
theorem dX12_man_82 : q_at cX12_man 82 (.bipush 24) 2 84 := ⟨by decide +kernel, rfl⟩
theorem dX12_man_84 : q_at cX12_man 84 (.if_icmp .ge 31) 3 87 := ⟨by decide +kernel, rfl⟩
theorem dX12_man_87 : q_at cX12_man 87 (.aload_n 0) 1 88 := ⟨by decide +kernel, rfl⟩
theorem dX12_man_88 : q_at cX12_man 88 (.getfield 7) 3 91 := ⟨by decide +kernel, rfl⟩
theorem dX12_man_91 : q_at cX12_man 91 (.iload 5) 2 93 := ⟨by decide +kernel, rfl⟩
theorem dX12_man_93 : q_at cX12_man 93 (.iload 6) 2 95 := ⟨by decide +kernel, rfl⟩
theorem dX12_man_95 : q_at cX12_man 95 (.iadd) 1 96 := ⟨by decide +kernel, rfl⟩
theorem dX12_man_96 : q_at cX12_man 96 (.iload 6) 2 98 := ⟨by decide +kernel, rfl⟩
theorem dX12_man_98 : q_at cX12_man 98 (.bipush 18) 2 100 := ⟨by decide +kernel, rfl⟩
theorem dX12_man_100 : q_at cX12_man 100 (.if_icmp .lt 7) 3 103 := ⟨by decide +kernel, rfl⟩
theorem dX12_man_103 : q_at cX12_man 103 (.iconst (-1)) 1 104 := ⟨by decide +kernel, rfl⟩
theorem dX12_man_104 : q_at cX12_man 104 (.goto 4) 3 107 := ⟨by decide +kernel, rfl⟩
theorem dX12_man_107 : q_at cX12_man 107 (.iconst 0) 1 108 := ⟨by decide +kernel, rfl⟩
theorem dX12_man_108 : q_at cX12_man 108 (.iastore) 1 109 := ⟨by decide +kernel, rfl⟩
theorem dX12_man_109 : q_at cX12_man 109 (.iinc 6 1) 3 112 := ⟨by decide +kernel, rfl⟩
theorem dX12_man_112 : q_at cX12_man 112 (.goto (-32)) 3 115 := ⟨by decide +kernel, rfl⟩
theorem dX12_man_115 : q_at cX12_man 115 (.aload_n 0) 1 116 := ⟨by decide +kernel, rfl⟩
theorem dX12_man_116 : q_at cX12_man 116 (.getfield 7) 3 119 := ⟨by decide +kernel, rfl⟩
theorem dX12_man_119 : q_at cX12_man 119 (.iload 5) 2 121 := ⟨by decide +kernel, rfl⟩
theorem dX12_man_121 : q_at cX12_man 121 (.iload_n 1) 1 122 := ⟨by decide +kernel, rfl⟩
theorem dX12_man_122 : q_at cX12_man 122 (.iastore) 1 123 := ⟨by decide +kernel, rfl⟩
theorem dX12_man_123 : q_at cX12_man 123 (.aload_n 0) 1 124 := ⟨by decide +kernel, rfl⟩
theorem dX12_man_124 : q_at cX12_man 124 (.getfield 7) 3 127 := ⟨by decide +kernel, rfl⟩
theorem dX12_man_127 : q_at cX12_man 127 (.iload 5) 2 129 := ⟨by decide +kernel, rfl⟩
theorem dX12_man_129 : q_at cX12_man 129 (.iconst 1) 1 130 := ⟨by decide +kernel, rfl⟩
theorem dX12_man_130 : q_at cX12_man 130 (.iadd) 1 131 := ⟨by decide +kernel, rfl⟩
theorem dX12_man_131 : q_at cX12_man 131 (.iload_n 2) 1 132 := ⟨by decide +kernel, rfl⟩
theorem dX12_man_132 : q_at cX12_man 132 (.iastore) 1 133 := ⟨by decide +kernel, rfl⟩
theorem dX12_man_133 : q_at cX12_man 133 (.aload_n 0) 1 134 := ⟨by decide +kernel, rfl⟩
theorem dX12_man_134 : q_at cX12_man 134 (.getfield 7) 3 137 := ⟨by decide +kernel, rfl⟩
theorem dX12_man_137 : q_at cX12_man 137 (.iload 5) 2 139 := ⟨by decide +kernel, rfl⟩
theorem dX12_man_139 : q_at cX12_man 139 (.iconst 2) 1 140 := ⟨by decide +kernel, rfl⟩
theorem dX12_man_140 : q_at cX12_man 140 (.iadd) 1 141 := ⟨by decide +kernel, rfl⟩
theorem dX12_man_141 : q_at cX12_man 141 (.iload_n 3) 1 142 := ⟨by decide +kernel, rfl⟩
theorem dX12_man_142 : q_at cX12_man 142 (.iastore) 1 143 := ⟨by decide +kernel, rfl⟩
theorem dX12_man_143 : q_at cX12_man 143 (.aload_n 0) 1 144 := ⟨by decide +kernel, rfl⟩
theorem dX12_man_144 : q_at cX12_man 144 (.getfield 7) 3 147 := ⟨by decide +kernel, rfl⟩
theorem dX12_man_147 : q_at cX12_man 147 (.iload 5) 2 149 := ⟨by decide +kernel, rfl⟩
theorem dX12_man_149 : q_at cX12_man 149 (.bipush 10) 2 151 := ⟨by decide +kernel, rfl⟩
theorem dX12_man_151 : q_at cX12_man 151 (.iadd) 1 152 := ⟨by decide +kernel, rfl⟩
theorem dX12_man_152 : q_at cX12_man 152 (.aload_n 0) 1 153 := ⟨by decide +kernel, rfl⟩
theorem dX12_man_153 : q_at cX12_man 153 (.iconst 1) 1 154 := ⟨by decide +kernel, rfl⟩
theorem dX12_man_154 : q_at cX12_man 154 (.iload 4) 2 156 := ⟨by decide +kernel, rfl⟩
theorem dX12_man_156 : q_at cX12_man 156 (.iconst 0) 1 157 := ⟨by decide +kernel, rfl⟩
theorem dX12_man_157 : q_at cX12_man 157 (.iconst 0) 1 158 := ⟨by decide +kernel, rfl⟩
theorem dX12_man_158 : q_at cX12_man 158 (.invokevirtual 106) 3 161 := ⟨by decide +kernel, rfl⟩
theorem dX12_man_161 : q_at cX12_man 161 (.iastore) 1 162 := ⟨by decide +kernel, rfl⟩
theorem dX12_man_162 : q_at cX12_man 162 (.aload_n 0) 1 163 := ⟨by decide +kernel, rfl⟩
theorem dX12_man_163 : q_at cX12_man 163 (.getfield 7) 3 166 := ⟨by decide +kernel, rfl⟩
theorem dX12_man_166 : q_at cX12_man 166 (.iload 5) 2 168 := ⟨by decide +kernel, rfl⟩
theorem dX12_man_168 : q_at cX12_man 168 (.bipush 11) 2 170 := ⟨by decide +kernel, rfl⟩
theorem dX12_man_170 : q_at cX12_man 170 (.iadd) 1 171 := ⟨by decide +kernel, rfl⟩
theorem dX12_man_171 : q_at cX12_man 171 (.aload_n 0) 1 172 := ⟨by decide +kernel, rfl⟩
theorem dX12_man_172 : q_at cX12_man 172 (.bipush 6) 2 174 := ⟨by decide +kernel, rfl⟩
theorem dX12_man_174 : q_at cX12_man 174 (.iload 4) 2 176 := ⟨by decide +kernel, rfl⟩
theorem dX12_man_176 : q_at cX12_man 176 (.iconst 0) 1 177 := ⟨by decide +kernel, rfl⟩
theorem dX12_man_177 : q_at cX12_man 177 (.iconst 0) 1 178 := ⟨by decide +kernel, rfl⟩
theorem dX12_man_178 : q_at cX12_man 178 (.invokevirtual 106) 3 181 := ⟨by decide +kernel, rfl⟩
theorem dX12_man_181 : q_at cX12_man 181 (.iastore) 1 182 := ⟨by decide +kernel, rfl⟩
theorem dX12_man_182 : q_at cX12_man 182 (.aload_n 0) 1 183 := ⟨by decide +kernel, rfl⟩
theorem dX12_man_183 : q_at cX12_man 183 (.getfield 7) 3 186 := ⟨by decide +kernel, rfl⟩
theorem dX12_man_186 : q_at cX12_man 186 (.iconst 2) 1 187 := ⟨by decide +kernel, rfl⟩
theorem dX12_man_187 : q_at cX12_man 187 (.dup2) 1 188 := ⟨by decide +kernel, rfl⟩
theorem dX12_man_188 : q_at cX12_man 188 (.iaload) 1 189 := ⟨by decide +kernel, rfl⟩
theorem dX12_man_189 : q_at cX12_man 189 (.iconst 1) 1 190 := ⟨by decide +kernel, rfl⟩
theorem dX12_man_190 : q_at cX12_man 190 (.iadd) 1 191 := ⟨by decide +kernel, rfl⟩
theorem dX12_man_191 : q_at cX12_man 191 (.iastore) 1 192 := ⟨by decide +kernel, rfl⟩
theorem dX12_man_192 : q_at cX12_man 192 (.iload 4) 2 194 := ⟨by decide +kernel, rfl⟩
theorem dX12_man_194 : q_at cX12_man 194 (.ireturn) 1 195 := ⟨by decide +kernel, rfl⟩
theorem dX12_melt_0 : q_at cX12_melt 0 (.aload_n 0) 1 1 := ⟨by decide +kernel, rfl⟩
theorem dX12_melt_1 : q_at cX12_melt 1 (.iload_n 1) 1 2 := ⟨by decide +kernel, rfl⟩
theorem dX12_melt_2 : q_at cX12_melt 2 (.invokevirtual 353) 3 5 := ⟨by decide +kernel, rfl⟩
theorem dX12_melt_5 : q_at cX12_melt 5 (.ifCond .ne 6) 3 8 := ⟨by decide +kernel, rfl⟩
theorem dX12_melt_8 : q_at cX12_melt 8 (.ldc 90) 2 10 := ⟨by decide +kernel, rfl⟩
theorem dX12_melt_10 : q_at cX12_melt 10 (.ireturn) 1 11 := ⟨by decide +kernel, rfl⟩
theorem dX12_melt_11 : q_at cX12_melt 11 (.aload_n 0) 1 12 := ⟨by decide +kernel, rfl⟩
theorem dX12_melt_12 : q_at cX12_melt 12 (.iload_n 1) 1 13 := ⟨by decide +kernel, rfl⟩
theorem dX12_melt_13 : q_at cX12_melt 13 (.invokevirtual 75) 3 16 := ⟨by decide +kernel, rfl⟩
theorem dX12_melt_16 : q_at cX12_melt 16 (.istore_n 2) 1 17 := ⟨by decide +kernel, rfl⟩
theorem dX12_melt_17 : q_at cX12_melt 17 (.aload_n 0) 1 18 := ⟨by decide +kernel, rfl⟩
theorem dX12_melt_18 : q_at cX12_melt 18 (.getfield 7) 3 21 := ⟨by decide +kernel, rfl⟩
theorem dX12_melt_21 : q_at cX12_melt 21 (.iload_n 2) 1 22 := ⟨by decide +kernel, rfl⟩
theorem dX12_melt_22 : q_at cX12_melt 22 (.iaload) 1 23 := ⟨by decide +kernel, rfl⟩
theorem dX12_melt_23 : q_at cX12_melt 23 (.iconst 3) 1 24 := ⟨by decide +kernel, rfl⟩
theorem dX12_melt_24 : q_at cX12_melt 24 (.if_icmp .eq 7) 3 27 := ⟨by decide +kernel, rfl⟩
theorem dX12_melt_27 : q_at cX12_melt 27 (.ldc_w 356) 3 30 := ⟨by decide +kernel, rfl⟩
theorem dX12_melt_30 : q_at cX12_melt 30 (.ireturn) 1 31 := ⟨by decide +kernel, rfl⟩
theorem dX12_melt_31 : q_at cX12_melt 31 (.aload_n 0) 1 32 := ⟨by decide +kernel, rfl⟩
theorem dX12_melt_32 : q_at cX12_melt 32 (.getfield 7) 3 35 := ⟨by decide +kernel, rfl⟩
theorem dX12_melt_35 : q_at cX12_melt 35 (.iload_n 2) 1 36 := ⟨by decide +kernel, rfl⟩
theorem dX12_melt_36 : q_at cX12_melt 36 (.bipush 6) 2 38 := ⟨by decide +kernel, rfl⟩
theorem dX12_melt_38 : q_at cX12_melt 38 (.iadd) 1 39 := ⟨by decide +kernel, rfl⟩
theorem dX12_melt_39 : q_at cX12_melt 39 (.iaload) 1 40 := ⟨by decide +kernel, rfl⟩
theorem dX12_melt_40 : q_at cX12_melt 40 (.istore_n 3) 1 41 := ⟨by decide +kernel, rfl⟩
theorem dX12_melt_41 : q_at cX12_melt 41 (.iload_n 3) 1 42 := ⟨by decide +kernel, rfl⟩
theorem dX12_melt_42 : q_at cX12_melt 42 (.ifCond .ge 7) 3 45 := ⟨by decide +kernel, rfl⟩
theorem dX12_melt_45 : q_at cX12_melt 45 (.ldc_w 346) 3 48 := ⟨by decide +kernel, rfl⟩
theorem dX12_melt_48 : q_at cX12_melt 48 (.ireturn) 1 49 := ⟨by decide +kernel, rfl⟩
theorem dX12_melt_49 : q_at cX12_melt 49 (.aload_n 0) 1 50 := ⟨by decide +kernel, rfl⟩
theorem dX12_melt_50 : q_at cX12_melt 50 (.iload_n 3) 1 51 := ⟨by decide +kernel, rfl⟩
theorem dX12_melt_51 : q_at cX12_melt 51 (.iconst 5) 1 52 := ⟨by decide +kernel, rfl⟩
theorem dX12_melt_52 : q_at cX12_melt 52 (.aload_n 0) 1 53 := ⟨by decide +kernel, rfl⟩
theorem dX12_melt_53 : q_at cX12_melt 53 (.getfield 7) 3 56 := ⟨by decide +kernel, rfl⟩
theorem dX12_melt_56 : q_at cX12_melt 56 (.iload_n 2) 1 57 := ⟨by decide +kernel, rfl⟩
theorem dX12_melt_57 : q_at cX12_melt 57 (.iconst 2) 1 58 := ⟨by decide +kernel, rfl⟩
theorem dX12_melt_58 : q_at cX12_melt 58 (.iadd) 1 59 := ⟨by decide +kernel, rfl⟩
theorem dX12_melt_59 : q_at cX12_melt 59 (.iaload) 1 60 := ⟨by decide +kernel, rfl⟩
theorem dX12_melt_60 : q_at cX12_melt 60 (.invokevirtual 350) 3 63 := ⟨by decide +kernel, rfl⟩
theorem dX12_melt_63 : q_at cX12_melt 63 (.aload_n 0) 1 64 := ⟨by decide +kernel, rfl⟩
theorem dX12_melt_64 : q_at cX12_melt 64 (.getfield 7) 3 67 := ⟨by decide +kernel, rfl⟩
theorem dX12_melt_67 : q_at cX12_melt 67 (.iload_n 2) 1 68 := ⟨by decide +kernel, rfl⟩
theorem dX12_melt_68 : q_at cX12_melt 68 (.bipush 6) 2 70 := ⟨by decide +kernel, rfl⟩
theorem dX12_melt_70 : q_at cX12_melt 70 (.iadd) 1 71 := ⟨by decide +kernel, rfl⟩
theorem dX12_melt_71 : q_at cX12_melt 71 (.iconst (-1)) 1 72 := ⟨by decide +kernel, rfl⟩
theorem dX12_melt_72 : q_at cX12_melt 72 (.iastore) 1 73 := ⟨by decide +kernel, rfl⟩
theorem dX12_melt_73 : q_at cX12_melt 73 (.aload_n 0) 1 74 := ⟨by decide +kernel, rfl⟩
theorem dX12_melt_74 : q_at cX12_melt 74 (.getfield 7) 3 77 := ⟨by decide +kernel, rfl⟩
theorem dX12_melt_77 : q_at cX12_melt 77 (.aload_n 0) 1 78 := ⟨by decide +kernel, rfl⟩
theorem dX12_melt_78 : q_at cX12_melt 78 (.iload_n 3) 1 79 := ⟨by decide +kernel, rfl⟩
theorem dX12_melt_79 : q_at cX12_melt 79 (.invokevirtual 68) 3 82 := ⟨by decide +kernel, rfl⟩
theorem dX12_melt_82 : q_at cX12_melt 82 (.iconst 5) 1 83 := ⟨by decide +kernel, rfl⟩
theorem dX12_melt_83 : q_at cX12_melt 83 (.iadd) 1 84 := ⟨by decide +kernel, rfl⟩
theorem dX12_melt_84 : q_at cX12_melt 84 (.iaload) 1 85 := ⟨by decide +kernel, rfl⟩
theorem dX12_melt_85 : q_at cX12_melt 85 (.ireturn) 1 86 := ⟨by decide +kernel, rfl⟩
theorem dX12_menLast_0 : q_at cX12_menLast 0 (.iconst 0) 1 1 := ⟨by decide +kernel, rfl⟩
theorem dX12_menLast_1 : q_at cX12_menLast 1 (.istore_n 2) 1 2 := ⟨by decide +kernel, rfl⟩
theorem dX12_menLast_2 : q_at cX12_menLast 2 (.iconst 0) 1 3 := ⟨by decide +kernel, rfl⟩
theorem dX12_menLast_3 : q_at cX12_menLast 3 (.istore_n 3) 1 4 := ⟨by decide +kernel, rfl⟩
theorem dX12_menLast_4 : q_at cX12_menLast 4 (.iload_n 3) 1 5 := ⟨by decide +kernel, rfl⟩
theorem dX12_menLast_5 : q_at cX12_menLast 5 (.aload_n 0) 1 6 := ⟨by decide +kernel, rfl⟩
theorem dX12_menLast_6 : q_at cX12_menLast 6 (.getfield 7) 3 9 := ⟨by decide +kernel, rfl⟩
theorem dX12_menLast_9 : q_at cX12_menLast 9 (.iconst 1) 1 10 := ⟨by decide +kernel, rfl⟩
theorem dX12_menLast_10 : q_at cX12_menLast 10 (.iaload) 1 11 := ⟨by decide +kernel, rfl⟩
theorem dX12_menLast_11 : q_at cX12_menLast 11 (.if_icmp .ge 54) 3 14 := ⟨by decide +kernel, rfl⟩
theorem dX12_menLast_14 : q_at cX12_menLast 14 (.aload_n 0) 1 15 := ⟨by decide +kernel, rfl⟩
theorem dX12_menLast_15 : q_at cX12_menLast 15 (.iload_n 3) 1 16 := ⟨by decide +kernel, rfl⟩
theorem dX12_menLast_16 : q_at cX12_menLast 16 (.invokevirtual 132) 3 19 := ⟨by decide +kernel, rfl⟩
theorem dX12_menLast_19 : q_at cX12_menLast 19 (.ifCond .eq 38) 3 22 := ⟨by decide +kernel, rfl⟩
theorem dX12_menLast_22 : q_at cX12_menLast 22 (.iload_n 2) 1 23 := ⟨by decide +kernel, rfl⟩
theorem dX12_menLast_23 : q_at cX12_menLast 23 (.ifCond .eq 19) 3 26 := ⟨by decide +kernel, rfl⟩
theorem dX12_menLast_26 : q_at cX12_menLast 26 (.aload_n 0) 1 27 := ⟨by decide +kernel, rfl⟩
theorem dX12_menLast_27 : q_at cX12_menLast 27 (.getfield 7) 3 30 := ⟨by decide +kernel, rfl⟩
theorem dX12_menLast_30 : q_at cX12_menLast 30 (.aload_n 0) 1 31 := ⟨by decide +kernel, rfl⟩
theorem dX12_menLast_31 : q_at cX12_menLast 31 (.iload_n 3) 1 32 := ⟨by decide +kernel, rfl⟩
theorem dX12_menLast_32 : q_at cX12_menLast 32 (.invokevirtual 72) 3 35 := ⟨by decide +kernel, rfl⟩
theorem dX12_menLast_35 : q_at cX12_menLast 35 (.iconst 1) 1 36 := ⟨by decide +kernel, rfl⟩
theorem dX12_menLast_36 : q_at cX12_menLast 36 (.iadd) 1 37 := ⟨by decide +kernel, rfl⟩
theorem dX12_menLast_37 : q_at cX12_menLast 37 (.iaload) 1 38 := ⟨by decide +kernel, rfl⟩
theorem dX12_menLast_38 : q_at cX12_menLast 38 (.iload_n 2) 1 39 := ⟨by decide +kernel, rfl⟩
theorem dX12_menLast_39 : q_at cX12_menLast 39 (.if_icmp .ge 18) 3 42 := ⟨by decide +kernel, rfl⟩
theorem dX12_menLast_42 : q_at cX12_menLast 42 (.aload_n 0) 1 43 := ⟨by decide +kernel, rfl⟩
theorem dX12_menLast_43 : q_at cX12_menLast 43 (.getfield 7) 3 46 := ⟨by decide +kernel, rfl⟩
theorem dX12_menLast_46 : q_at cX12_menLast 46 (.aload_n 0) 1 47 := ⟨by decide +kernel, rfl⟩
theorem dX12_menLast_47 : q_at cX12_menLast 47 (.iload_n 3) 1 48 := ⟨by decide +kernel, rfl⟩
theorem dX12_menLast_48 : q_at cX12_menLast 48 (.invokevirtual 72) 3 51 := ⟨by decide +kernel, rfl⟩
theorem dX12_menLast_51 : q_at cX12_menLast 51 (.iconst 1) 1 52 := ⟨by decide +kernel, rfl⟩
theorem dX12_menLast_52 : q_at cX12_menLast 52 (.iadd) 1 53 := ⟨by decide +kernel, rfl⟩
theorem dX12_menLast_53 : q_at cX12_menLast 53 (.iaload) 1 54 := ⟨by decide +kernel, rfl⟩
theorem dX12_menLast_54 : q_at cX12_menLast 54 (.goto 4) 3 57 := ⟨by decide +kernel, rfl⟩
theorem dX12_menLast_57 : q_at cX12_menLast 57 (.iload_n 2) 1 58 := ⟨by decide +kernel, rfl⟩
theorem dX12_menLast_58 : q_at cX12_menLast 58 (.istore_n 2) 1 59 := ⟨by decide +kernel, rfl⟩
theorem dX12_menLast_59 : q_at cX12_menLast 59 (.iinc 3 1) 3 62 := ⟨by decide +kernel, rfl⟩
theorem dX12_menLast_62 : q_at cX12_menLast 62 (.goto (-58)) 3 65 := ⟨by decide +kernel, rfl⟩
theorem dX12_menLast_65 : q_at cX12_menLast 65 (.iconst (-1)) 1 66 := ⟨by decide +kernel, rfl⟩
theorem dX12_menLast_66 : q_at cX12_menLast 66 (.istore_n 3) 1 67 := ⟨by decide +kernel, rfl⟩
theorem dX12_menLast_67 : q_at cX12_menLast 67 (.iconst 0) 1 68 := ⟨by decide +kernel, rfl⟩
theorem dX12_menLast_68 : q_at cX12_menLast 68 (.istore 4) 2 70 := ⟨by decide +kernel, rfl⟩
theorem dX12_menLast_70 : q_at cX12_menLast 70 (.iload 4) 2 72 := ⟨by decide +kernel, rfl⟩
theorem dX12_menLast_72 : q_at cX12_menLast 72 (.aload_n 0) 1 73 := ⟨by decide +kernel, rfl⟩
theorem dX12_menLast_73 : q_at cX12_menLast 73 (.getfield 7) 3 76 := ⟨by decide +kernel, rfl⟩
theorem dX12_menLast_76 : q_at cX12_menLast 76 (.iconst 2) 1 77 := ⟨by decide +kernel, rfl⟩
theorem dX12_menLast_77 : q_at cX12_menLast 77 (.iaload) 1 78 := ⟨by decide +kernel, rfl⟩
theorem dX12_menLast_78 : q_at cX12_menLast 78 (.if_icmp .ge 99) 3 81 := ⟨by decide +kernel, rfl⟩
theorem dX12_menLast_81 : q_at cX12_menLast 81 (.aload_n 0) 1 82 := ⟨by decide +kernel, rfl⟩
theorem dX12_menLast_82 : q_at cX12_menLast 82 (.iload 4) 2 84 := ⟨by decide +kernel, rfl⟩
theorem dX12_menLast_84 : q_at cX12_menLast 84 (.invokevirtual 68) 3 87 := ⟨by decide +kernel, rfl⟩
theorem dX12_menLast_87 : q_at cX12_menLast 87 (.istore 5) 2 89 := ⟨by decide +kernel, rfl⟩
theorem dX12_menLast_89 : q_at cX12_menLast 89 (.aload_n 0) 1 90 := ⟨by decide +kernel, rfl⟩
theorem dX12_menLast_90 : q_at cX12_menLast 90 (.iload 4) 2 92 := ⟨by decide +kernel, rfl⟩
theorem dX12_menLast_92 : q_at cX12_menLast 92 (.invokevirtual 93) 3 95 := ⟨by decide +kernel, rfl⟩
theorem dX12_menLast_95 : q_at cX12_menLast 95 (.ifCond .ne 76) 3 98 := ⟨by decide +kernel, rfl⟩
theorem dX12_menLast_98 : q_at cX12_menLast 98 (.iload_n 1) 1 99 := ⟨by decide +kernel, rfl⟩
theorem dX12_menLast_99 : q_at cX12_menLast 99 (.aload_n 0) 1 100 := ⟨by decide +kernel, rfl⟩
theorem dX12_menLast_100 : q_at cX12_menLast 100 (.getfield 7) 3 103 := ⟨by decide +kernel, rfl⟩
theorem dX12_menLast_103 : q_at cX12_menLast 103 (.iload 5) 2 105 := ⟨by decide +kernel, rfl⟩
theorem dX12_menLast_105 : q_at cX12_menLast 105 (.iaload) 1 106 := ⟨by decide +kernel, rfl⟩
theorem dX12_menLast_106 : q_at cX12_menLast 106 (.ishr) 1 107 := ⟨by decide +kernel, rfl⟩
theorem dX12_menLast_107 : q_at cX12_menLast 107 (.iconst 1) 1 108 := ⟨by decide +kernel, rfl⟩
theorem dX12_menLast_108 : q_at cX12_menLast 108 (.iand) 1 109 := ⟨by decide +kernel, rfl⟩
theorem dX12_menLast_109 : q_at cX12_menLast 109 (.iconst 1) 1 110 := ⟨by decide +kernel, rfl⟩
theorem dX12_menLast_110 : q_at cX12_menLast 110 (.if_icmp .ne 61) 3 113 := ⟨by decide +kernel, rfl⟩
theorem dX12_menLast_113 : q_at cX12_menLast 113 (.aload_n 0) 1 114 := ⟨by decide +kernel, rfl⟩
theorem dX12_menLast_114 : q_at cX12_menLast 114 (.getfield 7) 3 117 := ⟨by decide +kernel, rfl⟩
theorem dX12_menLast_117 : q_at cX12_menLast 117 (.iload 5) 2 119 := ⟨by decide +kernel, rfl⟩
theorem dX12_menLast_119 : q_at cX12_menLast 119 (.iconst 3) 1 120 := ⟨by decide +kernel, rfl⟩
theorem dX12_menLast_120 : q_at cX12_menLast 120 (.iadd) 1 121 := ⟨by decide +kernel, rfl⟩
theorem dX12_menLast_121 : q_at cX12_menLast 121 (.iaload) 1 122 := ⟨by decide +kernel, rfl⟩
theorem dX12_menLast_122 : q_at cX12_menLast 122 (.iload_n 2) 1 123 := ⟨by decide +kernel, rfl⟩
theorem dX12_menLast_123 : q_at cX12_menLast 123 (.ifCond .ne 7) 3 126 := ⟨by decide +kernel, rfl⟩
theorem dX12_menLast_126 : q_at cX12_menLast 126 (.iconst 0) 1 127 := ⟨by decide +kernel, rfl⟩
theorem dX12_menLast_127 : q_at cX12_menLast 127 (.goto 14) 3 130 := ⟨by decide +kernel, rfl⟩
theorem dX12_menLast_130 : q_at cX12_menLast 130 (.aload_n 0) 1 131 := ⟨by decide +kernel, rfl⟩
theorem dX12_menLast_131 : q_at cX12_menLast 131 (.getfield 7) 3 134 := ⟨by decide +kernel, rfl⟩
theorem dX12_menLast_134 : q_at cX12_menLast 134 (.iload 5) 2 136 := ⟨by decide +kernel, rfl⟩
theorem dX12_menLast_136 : q_at cX12_menLast 136 (.iconst 4) 1 137 := ⟨by decide +kernel, rfl⟩
theorem dX12_menLast_137 : q_at cX12_menLast 137 (.iadd) 1 138 := ⟨by decide +kernel, rfl⟩
theorem dX12_menLast_138 : q_at cX12_menLast 138 (.iaload) 1 139 := ⟨by decide +kernel, rfl⟩
theorem dX12_menLast_139 : q_at cX12_menLast 139 (.iload_n 2) 1 140 := ⟨by decide +kernel, rfl⟩
theorem dX12_menLast_140 : q_at cX12_menLast 140 (.idiv) 1 141 := ⟨by decide +kernel, rfl⟩
theorem dX12_menLast_141 : q_at cX12_menLast 141 (.iadd) 1 142 := ⟨by decide +kernel, rfl⟩
theorem dX12_menLast_142 : q_at cX12_menLast 142 (.aload_n 0) 1 143 := ⟨by decide +kernel, rfl⟩
theorem dX12_menLast_143 : q_at cX12_menLast 143 (.getfield 7) 3 146 := ⟨by decide +kernel, rfl⟩
theorem dX12_menLast_146 : q_at cX12_menLast 146 (.iload 5) 2 148 := ⟨by decide +kernel, rfl⟩
theorem dX12_menLast_148 : q_at cX12_menLast 148 (.iconst 2) 1 149 := ⟨by decide +kernel, rfl⟩
theorem dX12_menLast_149 : q_at cX12_menLast 149 (.iadd) 1 150 := ⟨by decide +kernel, rfl⟩
theorem dX12_menLast_150 : q_at cX12_menLast 150 (.iaload) 1 151 := ⟨by decide +kernel, rfl⟩
theorem dX12_menLast_151 : q_at cX12_menLast 151 (.idiv) 1 152 := ⟨by decide +kernel, rfl⟩
theorem dX12_menLast_152 : q_at cX12_menLast 152 (.istore 6) 2 154 := ⟨by decide +kernel, rfl⟩
theorem dX12_menLast_154 : q_at cX12_menLast 154 (.iload_n 3) 1 155 := ⟨by decide +kernel, rfl⟩
theorem dX12_menLast_155 : q_at cX12_menLast 155 (.ifCond .lt 9) 3 158 := ⟨by decide +kernel, rfl⟩
theorem dX12_menLast_158 : q_at cX12_menLast 158 (.iload 6) 2 160 := ⟨by decide +kernel, rfl⟩
theorem dX12_menLast_160 : q_at cX12_menLast 160 (.iload_n 3) 1 161 := ⟨by decide +kernel, rfl⟩
theorem dX12_menLast_161 : q_at cX12_menLast 161 (.if_icmp .ge 8) 3 164 := ⟨by decide +kernel, rfl⟩
theorem dX12_menLast_164 : q_at cX12_menLast 164 (.iload 6) 2 166 := ⟨by decide +kernel, rfl⟩
theorem dX12_menLast_166 : q_at cX12_menLast 166 (.goto 4) 3 169 := ⟨by decide +kernel, rfl⟩
theorem dX12_menLast_169 : q_at cX12_menLast 169 (.iload_n 3) 1 170 := ⟨by decide +kernel, rfl⟩
theorem dX12_menLast_170 : q_at cX12_menLast 170 (.istore_n 3) 1 171 := ⟨by decide +kernel, rfl⟩
theorem dX12_menLast_171 : q_at cX12_menLast 171 (.iinc 4 1) 3 174 := ⟨by decide +kernel, rfl⟩
theorem dX12_menLast_174 : q_at cX12_menLast 174 (.goto (-104)) 3 177 := ⟨by decide +kernel, rfl⟩
theorem dX12_menLast_177 : q_at cX12_menLast 177 (.iload_n 3) 1 178 := ⟨by decide +kernel, rfl⟩
theorem dX12_menLast_178 : q_at cX12_menLast 178 (.ifCond .ge 9) 3 181 := ⟨by decide +kernel, rfl⟩
theorem dX12_menLast_181 : q_at cX12_menLast 181 (.sipush 999) 3 184 := ⟨by decide +kernel, rfl⟩
theorem dX12_menLast_184 : q_at cX12_menLast 184 (.goto 4) 3 187 := ⟨by decide +kernel, rfl⟩
theorem dX12_menLast_187 : q_at cX12_menLast 187 (.iload_n 3) 1 188 := ⟨by decide +kernel, rfl⟩
theorem dX12_menLast_188 : q_at cX12_menLast 188 (.ireturn) 1 189 := ⟨by decide +kernel, rfl⟩
theorem dX12_news_0 : q_at cX12_news 0 (.iconst (-1)) 1 1 := ⟨by decide +kernel, rfl⟩
theorem dX12_news_1 : q_at cX12_news 1 (.istore_n 3) 1 2 := ⟨by decide +kernel, rfl⟩
theorem dX12_news_2 : q_at cX12_news 2 (.iconst 0) 1 3 := ⟨by decide +kernel, rfl⟩
theorem dX12_news_3 : q_at cX12_news 3 (.istore 4) 2 5 := ⟨by decide +kernel, rfl⟩
theorem dX12_news_5 : q_at cX12_news 5 (.iload 4) 2 7 := ⟨by decide +kernel, rfl⟩
theorem dX12_news_7 : q_at cX12_news 7 (.aload_n 0) 1 8 := ⟨by decide +kernel, rfl⟩
theorem dX12_news_8 : q_at cX12_news 8 (.getfield 7) 3 11 := ⟨by decide +kernel, rfl⟩
theorem dX12_news_11 : q_at cX12_news 11 (.iconst 2) 1 12 := ⟨by decide +kernel, rfl⟩
theorem dX12_news_12 : q_at cX12_news 12 (.iaload) 1 13 := ⟨by decide +kernel, rfl⟩
theorem dX12_news_13 : q_at cX12_news 13 (.if_icmp .ge 109) 3 16 := ⟨by decide +kernel, rfl⟩
theorem dX12_news_16 : q_at cX12_news 16 (.aload_n 0) 1 17 := ⟨by decide +kernel, rfl⟩
theorem dX12_news_17 : q_at cX12_news 17 (.getfield 7) 3 20 := ⟨by decide +kernel, rfl⟩
theorem dX12_news_20 : q_at cX12_news 20 (.aload_n 0) 1 21 := ⟨by decide +kernel, rfl⟩
theorem dX12_news_21 : q_at cX12_news 21 (.iload 4) 2 23 := ⟨by decide +kernel, rfl⟩
theorem dX12_news_23 : q_at cX12_news 23 (.invokevirtual 68) 3 26 := ⟨by decide +kernel, rfl⟩
theorem dX12_news_26 : q_at cX12_news 26 (.iaload) 1 27 := ⟨by decide +kernel, rfl⟩
theorem dX12_news_27 : q_at cX12_news 27 (.iload_n 1) 1 28 := ⟨by decide +kernel, rfl⟩
theorem dX12_news_28 : q_at cX12_news 28 (.if_icmp .ne 35) 3 31 := ⟨by decide +kernel, rfl⟩
theorem dX12_news_31 : q_at cX12_news 31 (.aload_n 0) 1 32 := ⟨by decide +kernel, rfl⟩
theorem dX12_news_32 : q_at cX12_news 32 (.iload 4) 2 34 := ⟨by decide +kernel, rfl⟩
theorem dX12_news_34 : q_at cX12_news 34 (.invokevirtual 93) 3 37 := ⟨by decide +kernel, rfl⟩
theorem dX12_news_37 : q_at cX12_news 37 (.ifCond .ne 26) 3 40 := ⟨by decide +kernel, rfl⟩
theorem dX12_news_40 : q_at cX12_news 40 (.aload_n 0) 1 41 := ⟨by decide +kernel, rfl⟩
theorem dX12_news_41 : q_at cX12_news 41 (.getfield 7) 3 44 := ⟨by decide +kernel, rfl⟩
theorem dX12_news_44 : q_at cX12_news 44 (.aload_n 0) 1 45 := ⟨by decide +kernel, rfl⟩
theorem dX12_news_45 : q_at cX12_news 45 (.iload 4) 2 47 := ⟨by decide +kernel, rfl⟩
theorem dX12_news_47 : q_at cX12_news 47 (.invokevirtual 68) 3 50 := ⟨by decide +kernel, rfl⟩
theorem dX12_news_50 : q_at cX12_news 50 (.bipush 18) 2 52 := ⟨by decide +kernel, rfl⟩
theorem dX12_news_52 : q_at cX12_news 52 (.iadd) 1 53 := ⟨by decide +kernel, rfl⟩
theorem dX12_news_53 : q_at cX12_news 53 (.iload_n 2) 1 54 := ⟨by decide +kernel, rfl⟩
theorem dX12_news_54 : q_at cX12_news 54 (.iadd) 1 55 := ⟨by decide +kernel, rfl⟩
theorem dX12_news_55 : q_at cX12_news 55 (.iaload) 1 56 := ⟨by decide +kernel, rfl⟩
theorem dX12_news_56 : q_at cX12_news 56 (.ifCond .lt 7) 3 59 := ⟨by decide +kernel, rfl⟩
theorem dX12_news_59 : q_at cX12_news 59 (.iconst 1) 1 60 := ⟨by decide +kernel, rfl⟩
theorem dX12_news_60 : q_at cX12_news 60 (.goto 4) 3 63 := ⟨by decide +kernel, rfl⟩
theorem dX12_news_63 : q_at cX12_news 63 (.iconst 0) 1 64 := ⟨by decide +kernel, rfl⟩
theorem dX12_news_64 : q_at cX12_news 64 (.istore 5) 2 66 := ⟨by decide +kernel, rfl⟩
theorem dX12_news_66 : q_at cX12_news 66 (.iload 5) 2 68 := ⟨by decide +kernel, rfl⟩
theorem dX12_news_68 : q_at cX12_news 68 (.ifCond .eq 46) 3 71 := ⟨by decide +kernel, rfl⟩
theorem dX12_news_71 : q_at cX12_news 71 (.iload_n 3) 1 72 := ⟨by decide +kernel, rfl⟩
theorem dX12_news_72 : q_at cX12_news 72 (.ifCond .lt 37) 3 75 := ⟨by decide +kernel, rfl⟩
theorem dX12_news_75 : q_at cX12_news 75 (.aload_n 0) 1 76 := ⟨by decide +kernel, rfl⟩
theorem dX12_news_76 : q_at cX12_news 76 (.getfield 7) 3 79 := ⟨by decide +kernel, rfl⟩
theorem dX12_news_79 : q_at cX12_news 79 (.aload_n 0) 1 80 := ⟨by decide +kernel, rfl⟩
theorem dX12_news_80 : q_at cX12_news 80 (.iload 4) 2 82 := ⟨by decide +kernel, rfl⟩
theorem dX12_news_82 : q_at cX12_news 82 (.invokevirtual 68) 3 85 := ⟨by decide +kernel, rfl⟩
theorem dX12_news_85 : q_at cX12_news 85 (.bipush 18) 2 87 := ⟨by decide +kernel, rfl⟩
theorem dX12_news_87 : q_at cX12_news 87 (.iadd) 1 88 := ⟨by decide +kernel, rfl⟩
theorem dX12_news_88 : q_at cX12_news 88 (.iload_n 2) 1 89 := ⟨by decide +kernel, rfl⟩
theorem dX12_news_89 : q_at cX12_news 89 (.iadd) 1 90 := ⟨by decide +kernel, rfl⟩
theorem dX12_news_90 : q_at cX12_news 90 (.iaload) 1 91 := ⟨by decide +kernel, rfl⟩
theorem dX12_news_91 : q_at cX12_news 91 (.aload_n 0) 1 92 := ⟨by decide +kernel, rfl⟩
theorem dX12_news_92 : q_at cX12_news 92 (.getfield 7) 3 95 := ⟨by decide +kernel, rfl⟩
theorem dX12_news_95 : q_at cX12_news 95 (.aload_n 0) 1 96 := ⟨by decide +kernel, rfl⟩
theorem dX12_news_96 : q_at cX12_news 96 (.iload_n 3) 1 97 := ⟨by decide +kernel, rfl⟩
theorem dX12_news_97 : q_at cX12_news 97 (.invokevirtual 68) 3 100 := ⟨by decide +kernel, rfl⟩
theorem dX12_news_100 : q_at cX12_news 100 (.bipush 18) 2 102 := ⟨by decide +kernel, rfl⟩
theorem dX12_news_102 : q_at cX12_news 102 (.iadd) 1 103 := ⟨by decide +kernel, rfl⟩
theorem dX12_news_103 : q_at cX12_news 103 (.iload_n 2) 1 104 := ⟨by decide +kernel, rfl⟩
theorem dX12_news_104 : q_at cX12_news 104 (.iadd) 1 105 := ⟨by decide +kernel, rfl⟩
theorem dX12_news_105 : q_at cX12_news 105 (.iaload) 1 106 := ⟨by decide +kernel, rfl⟩
theorem dX12_news_106 : q_at cX12_news 106 (.if_icmp .le 8) 3 109 := ⟨by decide +kernel, rfl⟩
theorem dX12_news_109 : q_at cX12_news 109 (.iload 4) 2 111 := ⟨by decide +kernel, rfl⟩
theorem dX12_news_111 : q_at cX12_news 111 (.goto 4) 3 114 := ⟨by decide +kernel, rfl⟩
theorem dX12_news_114 : q_at cX12_news 114 (.iload_n 3) 1 115 := ⟨by decide +kernel, rfl⟩
theorem dX12_news_115 : q_at cX12_news 115 (.istore_n 3) 1 116 := ⟨by decide +kernel, rfl⟩
theorem dX12_news_116 : q_at cX12_news 116 (.iinc 4 1) 3 119 := ⟨by decide +kernel, rfl⟩
theorem dX12_news_119 : q_at cX12_news 119 (.goto (-114)) 3 122 := ⟨by decide +kernel, rfl⟩
theorem dX12_news_122 : q_at cX12_news 122 (.iconst 0) 1 123 := ⟨by decide +kernel, rfl⟩
theorem dX12_news_123 : q_at cX12_news 123 (.istore 4) 2 125 := ⟨by decide +kernel, rfl⟩
theorem dX12_news_125 : q_at cX12_news 125 (.iload 4) 2 127 := ⟨by decide +kernel, rfl⟩
theorem dX12_news_127 : q_at cX12_news 127 (.aload_n 0) 1 128 := ⟨by decide +kernel, rfl⟩
theorem dX12_news_128 : q_at cX12_news 128 (.getfield 7) 3 131 := ⟨by decide +kernel, rfl⟩
theorem dX12_news_131 : q_at cX12_news 131 (.iconst 2) 1 132 := ⟨by decide +kernel, rfl⟩
theorem dX12_news_132 : q_at cX12_news 132 (.iaload) 1 133 := ⟨by decide +kernel, rfl⟩
theorem dX12_news_133 : q_at cX12_news 133 (.if_icmp .ge 99) 3 136 := ⟨by decide +kernel, rfl⟩
theorem dX12_news_136 : q_at cX12_news 136 (.iload_n 3) 1 137 := ⟨by decide +kernel, rfl⟩
theorem dX12_news_137 : q_at cX12_news 137 (.ifCond .lt 95) 3 140 := ⟨by decide +kernel, rfl⟩
theorem dX12_news_140 : q_at cX12_news 140 (.aload_n 0) 1 141 := ⟨by decide +kernel, rfl⟩
theorem dX12_news_141 : q_at cX12_news 141 (.getfield 7) 3 144 := ⟨by decide +kernel, rfl⟩
theorem dX12_news_144 : q_at cX12_news 144 (.aload_n 0) 1 145 := ⟨by decide +kernel, rfl⟩
theorem dX12_news_145 : q_at cX12_news 145 (.iload 4) 2 147 := ⟨by decide +kernel, rfl⟩
theorem dX12_news_147 : q_at cX12_news 147 (.invokevirtual 68) 3 150 := ⟨by decide +kernel, rfl⟩
theorem dX12_news_150 : q_at cX12_news 150 (.iaload) 1 151 := ⟨by decide +kernel, rfl⟩
theorem dX12_news_151 : q_at cX12_news 151 (.iload_n 1) 1 152 := ⟨by decide +kernel, rfl⟩
theorem dX12_news_152 : q_at cX12_news 152 (.if_icmp .ne 74) 3 155 := ⟨by decide +kernel, rfl⟩
theorem dX12_news_155 : q_at cX12_news 155 (.aload_n 0) 1 156 := ⟨by decide +kernel, rfl⟩
theorem dX12_news_156 : q_at cX12_news 156 (.iload 4) 2 158 := ⟨by decide +kernel, rfl⟩
theorem dX12_news_158 : q_at cX12_news 158 (.invokevirtual 93) 3 161 := ⟨by decide +kernel, rfl⟩
theorem dX12_news_161 : q_at cX12_news 161 (.ifCond .ne 65) 3 164 := ⟨by decide +kernel, rfl⟩
theorem dX12_news_164 : q_at cX12_news 164 (.aload_n 0) 1 165 := ⟨by decide +kernel, rfl⟩
theorem dX12_news_165 : q_at cX12_news 165 (.getfield 7) 3 168 := ⟨by decide +kernel, rfl⟩
theorem dX12_news_168 : q_at cX12_news 168 (.aload_n 0) 1 169 := ⟨by decide +kernel, rfl⟩
theorem dX12_news_169 : q_at cX12_news 169 (.iload 4) 2 171 := ⟨by decide +kernel, rfl⟩
theorem dX12_news_171 : q_at cX12_news 171 (.invokevirtual 68) 3 174 := ⟨by decide +kernel, rfl⟩
theorem dX12_news_174 : q_at cX12_news 174 (.bipush 12) 2 176 := ⟨by decide +kernel, rfl⟩
theorem dX12_news_176 : q_at cX12_news 176 (.iadd) 1 177 := ⟨by decide +kernel, rfl⟩
theorem dX12_news_177 : q_at cX12_news 177 (.iload_n 2) 1 178 := ⟨by decide +kernel, rfl⟩
theorem dX12_news_178 : q_at cX12_news 178 (.iadd) 1 179 := ⟨by decide +kernel, rfl⟩
theorem dX12_news_179 : q_at cX12_news 179 (.aload_n 0) 1 180 := ⟨by decide +kernel, rfl⟩
theorem dX12_news_180 : q_at cX12_news 180 (.getfield 7) 3 183 := ⟨by decide +kernel, rfl⟩
theorem dX12_news_183 : q_at cX12_news 183 (.aload_n 0) 1 184 := ⟨by decide +kernel, rfl⟩
theorem dX12_news_184 : q_at cX12_news 184 (.iload_n 3) 1 185 := ⟨by decide +kernel, rfl⟩
theorem dX12_news_185 : q_at cX12_news 185 (.invokevirtual 68) 3 188 := ⟨by decide +kernel, rfl⟩
theorem dX12_news_188 : q_at cX12_news 188 (.bipush 12) 2 190 := ⟨by decide +kernel, rfl⟩
theorem dX12_news_190 : q_at cX12_news 190 (.iadd) 1 191 := ⟨by decide +kernel, rfl⟩
theorem dX12_news_191 : q_at cX12_news 191 (.iload_n 2) 1 192 := ⟨by decide +kernel, rfl⟩
theorem dX12_news_192 : q_at cX12_news 192 (.iadd) 1 193 := ⟨by decide +kernel, rfl⟩
theorem dX12_news_193 : q_at cX12_news 193 (.iaload) 1 194 := ⟨by decide +kernel, rfl⟩
theorem dX12_news_194 : q_at cX12_news 194 (.iastore) 1 195 := ⟨by decide +kernel, rfl⟩
theorem dX12_news_195 : q_at cX12_news 195 (.aload_n 0) 1 196 := ⟨by decide +kernel, rfl⟩
theorem dX12_news_196 : q_at cX12_news 196 (.getfield 7) 3 199 := ⟨by decide +kernel, rfl⟩
theorem dX12_news_199 : q_at cX12_news 199 (.aload_n 0) 1 200 := ⟨by decide +kernel, rfl⟩
theorem dX12_news_200 : q_at cX12_news 200 (.iload 4) 2 202 := ⟨by decide +kernel, rfl⟩
theorem dX12_news_202 : q_at cX12_news 202 (.invokevirtual 68) 3 205 := ⟨by decide +kernel, rfl⟩
theorem dX12_news_205 : q_at cX12_news 205 (.bipush 18) 2 207 := ⟨by decide +kernel, rfl⟩
theorem dX12_news_207 : q_at cX12_news 207 (.iadd) 1 208 := ⟨by decide +kernel, rfl⟩
theorem dX12_news_208 : q_at cX12_news 208 (.iload_n 2) 1 209 := ⟨by decide +kernel, rfl⟩
theorem dX12_news_209 : q_at cX12_news 209 (.iadd) 1 210 := ⟨by decide +kernel, rfl⟩
theorem dX12_news_210 : q_at cX12_news 210 (.aload_n 0) 1 211 := ⟨by decide +kernel, rfl⟩
theorem dX12_news_211 : q_at cX12_news 211 (.getfield 7) 3 214 := ⟨by decide +kernel, rfl⟩
theorem dX12_news_214 : q_at cX12_news 214 (.aload_n 0) 1 215 := ⟨by decide +kernel, rfl⟩
theorem dX12_news_215 : q_at cX12_news 215 (.iload_n 3) 1 216 := ⟨by decide +kernel, rfl⟩
theorem dX12_news_216 : q_at cX12_news 216 (.invokevirtual 68) 3 219 := ⟨by decide +kernel, rfl⟩
theorem dX12_news_219 : q_at cX12_news 219 (.bipush 18) 2 221 := ⟨by decide +kernel, rfl⟩
theorem dX12_news_221 : q_at cX12_news 221 (.iadd) 1 222 := ⟨by decide +kernel, rfl⟩
theorem dX12_news_222 : q_at cX12_news 222 (.iload_n 2) 1 223 := ⟨by decide +kernel, rfl⟩
theorem dX12_news_223 : q_at cX12_news 223 (.iadd) 1 224 := ⟨by decide +kernel, rfl⟩
theorem dX12_news_224 : q_at cX12_news 224 (.iaload) 1 225 := ⟨by decide +kernel, rfl⟩
theorem dX12_news_225 : q_at cX12_news 225 (.iastore) 1 226 := ⟨by decide +kernel, rfl⟩
theorem dX12_news_226 : q_at cX12_news 226 (.iinc 4 1) 3 229 := ⟨by decide +kernel, rfl⟩
theorem dX12_news_229 : q_at cX12_news 229 (.goto (-104)) 3 232 := ⟨by decide +kernel, rfl⟩
theorem dX12_news_232 : q_at cX12_news 232 (.return_) 1 233 := ⟨by decide +kernel, rfl⟩
theorem dX12_next_0 : q_at cX12_next 0 (.aload_n 0) 1 1 := ⟨by decide +kernel, rfl⟩
theorem dX12_next_1 : q_at cX12_next 1 (.getfield 226) 3 4 := ⟨by decide +kernel, rfl⟩
theorem dX12_next_4 : q_at cX12_next 4 (.ifCond .le 23) 3 7 := ⟨by decide +kernel, rfl⟩
theorem dX12_next_7 : q_at cX12_next 7 (.aload_n 0) 1 8 := ⟨by decide +kernel, rfl⟩
theorem dX12_next_8 : q_at cX12_next 8 (.getfield 229) 3 11 := ⟨by decide +kernel, rfl⟩
theorem dX12_next_11 : q_at cX12_next 11 (.iconst 1) 1 12 := ⟨by decide +kernel, rfl⟩
theorem dX12_next_12 : q_at cX12_next 12 (.if_icmp .eq 11) 3 15 := ⟨by decide +kernel, rfl⟩
theorem dX12_next_15 : q_at cX12_next 15 (.aload_n 0) 1 16 := ⟨by decide +kernel, rfl⟩
theorem dX12_next_16 : q_at cX12_next 16 (.getfield 229) 3 19 := ⟨by decide +kernel, rfl⟩
theorem dX12_next_19 : q_at cX12_next 19 (.iconst 2) 1 20 := ⟨by decide +kernel, rfl⟩
theorem dX12_next_20 : q_at cX12_next 20 (.if_icmp .ne 7) 3 23 := ⟨by decide +kernel, rfl⟩
theorem dX12_next_23 : q_at cX12_next 23 (.iconst 1) 1 24 := ⟨by decide +kernel, rfl⟩
theorem dX12_next_24 : q_at cX12_next 24 (.goto 4) 3 27 := ⟨by decide +kernel, rfl⟩
theorem dX12_next_27 : q_at cX12_next 27 (.iconst 0) 1 28 := ⟨by decide +kernel, rfl⟩
theorem dX12_next_28 : q_at cX12_next 28 (.istore_n 1) 1 29 := ⟨by decide +kernel, rfl⟩
theorem dX12_next_29 : q_at cX12_next 29 (.aload_n 0) 1 30 := ⟨by decide +kernel, rfl⟩
theorem dX12_next_30 : q_at cX12_next 30 (.getfield 226) 3 33 := ⟨by decide +kernel, rfl⟩
theorem dX12_next_33 : q_at cX12_next 33 (.istore_n 2) 1 34 := ⟨by decide +kernel, rfl⟩
theorem dX12_next_34 : q_at cX12_next 34 (.aload_n 0) 1 35 := ⟨by decide +kernel, rfl⟩
theorem dX12_next_35 : q_at cX12_next 35 (.getfield 226) 3 38 := ⟨by decide +kernel, rfl⟩
theorem dX12_next_38 : q_at cX12_next 38 (.aload_n 0) 1 39 := ⟨by decide +kernel, rfl⟩
theorem dX12_next_39 : q_at cX12_next 39 (.getfield 215) 3 42 := ⟨by decide +kernel, rfl⟩
theorem dX12_next_42 : q_at cX12_next 42 (.if_icmp .ge 30) 3 45 := ⟨by decide +kernel, rfl⟩
theorem dX12_next_45 : q_at cX12_next 45 (.aload_n 0) 1 46 := ⟨by decide +kernel, rfl⟩
theorem dX12_next_46 : q_at cX12_next 46 (.getfield 28) 3 49 := ⟨by decide +kernel, rfl⟩
theorem dX12_next_49 : q_at cX12_next 49 (.aload_n 0) 1 50 := ⟨by decide +kernel, rfl⟩
theorem dX12_next_50 : q_at cX12_next 50 (.getfield 226) 3 53 := ⟨by decide +kernel, rfl⟩
theorem dX12_next_53 : q_at cX12_next 53 (.iaload) 1 54 := ⟨by decide +kernel, rfl⟩
theorem dX12_next_54 : q_at cX12_next 54 (.bipush 32) 2 56 := ⟨by decide +kernel, rfl⟩
theorem dX12_next_56 : q_at cX12_next 56 (.if_icmp .ne 16) 3 59 := ⟨by decide +kernel, rfl⟩
theorem dX12_next_59 : q_at cX12_next 59 (.aload_n 0) 1 60 := ⟨by decide +kernel, rfl⟩
theorem dX12_next_60 : q_at cX12_next 60 (.dup) 1 61 := ⟨by decide +kernel, rfl⟩
theorem dX12_next_61 : q_at cX12_next 61 (.getfield 226) 3 64 := ⟨by decide +kernel, rfl⟩
theorem dX12_next_64 : q_at cX12_next 64 (.iconst 1) 1 65 := ⟨by decide +kernel, rfl⟩
theorem dX12_next_65 : q_at cX12_next 65 (.iadd) 1 66 := ⟨by decide +kernel, rfl⟩
theorem dX12_next_66 : q_at cX12_next 66 (.putfield 226) 3 69 := ⟨by decide +kernel, rfl⟩
theorem dX12_next_69 : q_at cX12_next 69 (.goto (-35)) 3 72 := ⟨by decide +kernel, rfl⟩
theorem dX12_next_72 : q_at cX12_next 72 (.iload_n 1) 1 73 := ⟨by decide +kernel, rfl⟩
theorem dX12_next_73 : q_at cX12_next 73 (.ifCond .eq 15) 3 76 := ⟨by decide +kernel, rfl⟩
theorem dX12_next_76 : q_at cX12_next 76 (.iload_n 2) 1 77 := ⟨by decide +kernel, rfl⟩
theorem dX12_next_77 : q_at cX12_next 77 (.aload_n 0) 1 78 := ⟨by decide +kernel, rfl⟩
theorem dX12_next_78 : q_at cX12_next 78 (.getfield 226) 3 81 := ⟨by decide +kernel, rfl⟩
theorem dX12_next_81 : q_at cX12_next 81 (.if_icmp .ne 7) 3 84 := ⟨by decide +kernel, rfl⟩
theorem dX12_next_84 : q_at cX12_next 84 (.iconst 1) 1 85 := ⟨by decide +kernel, rfl⟩
theorem dX12_next_85 : q_at cX12_next 85 (.goto 4) 3 88 := ⟨by decide +kernel, rfl⟩
theorem dX12_next_88 : q_at cX12_next 88 (.iconst 0) 1 89 := ⟨by decide +kernel, rfl⟩
theorem dX12_next_89 : q_at cX12_next 89 (.istore_n 1) 1 90 := ⟨by decide +kernel, rfl⟩
theorem dX12_next_90 : q_at cX12_next 90 (.aload_n 0) 1 91 := ⟨by decide +kernel, rfl⟩
theorem dX12_next_91 : q_at cX12_next 91 (.aload_n 0) 1 92 := ⟨by decide +kernel, rfl⟩
theorem dX12_next_92 : q_at cX12_next 92 (.getfield 226) 3 95 := ⟨by decide +kernel, rfl⟩
theorem dX12_next_95 : q_at cX12_next 95 (.putfield 232) 3 98 := ⟨by decide +kernel, rfl⟩
theorem dX12_next_98 : q_at cX12_next 98 (.aload_n 0) 1 99 := ⟨by decide +kernel, rfl⟩
theorem dX12_next_99 : q_at cX12_next 99 (.getfield 232) 3 102 := ⟨by decide +kernel, rfl⟩
theorem dX12_next_102 : q_at cX12_next 102 (.aload_n 0) 1 103 := ⟨by decide +kernel, rfl⟩
theorem dX12_next_103 : q_at cX12_next 103 (.getfield 215) 3 106 := ⟨by decide +kernel, rfl⟩
theorem dX12_next_106 : q_at cX12_next 106 (.if_icmp .ne 11) 3 109 := ⟨by decide +kernel, rfl⟩
theorem dX12_next_109 : q_at cX12_next 109 (.aload_n 0) 1 110 := ⟨by decide +kernel, rfl⟩
theorem dX12_next_110 : q_at cX12_next 110 (.iconst 0) 1 111 := ⟨by decide +kernel, rfl⟩
theorem dX12_next_111 : q_at cX12_next 111 (.putfield 229) 3 114 := ⟨by decide +kernel, rfl⟩
theorem dX12_next_114 : q_at cX12_next 114 (.goto 225) 3 117 := ⟨by decide +kernel, rfl⟩
theorem dX12_next_117 : q_at cX12_next 117 (.aload_n 0) 1 118 := ⟨by decide +kernel, rfl⟩
theorem dX12_next_118 : q_at cX12_next 118 (.aload_n 0) 1 119 := ⟨by decide +kernel, rfl⟩
theorem dX12_next_119 : q_at cX12_next 119 (.getfield 232) 3 122 := ⟨by decide +kernel, rfl⟩
theorem dX12_next_122 : q_at cX12_next 122 (.invokevirtual 235) 3 125 := ⟨by decide +kernel, rfl⟩
theorem dX12_next_125 : q_at cX12_next 125 (.ifCond .eq 73) 3 128 := ⟨by decide +kernel, rfl⟩
theorem dX12_next_128 : q_at cX12_next 128 (.aload_n 0) 1 129 := ⟨by decide +kernel, rfl⟩
theorem dX12_next_129 : q_at cX12_next 129 (.aload_n 0) 1 130 := ⟨by decide +kernel, rfl⟩
theorem dX12_next_130 : q_at cX12_next 130 (.getfield 226) 3 133 := ⟨by decide +kernel, rfl⟩
theorem dX12_next_133 : q_at cX12_next 133 (.invokevirtual 235) 3 136 := ⟨by decide +kernel, rfl⟩
theorem dX12_next_136 : q_at cX12_next 136 (.ifCond .eq 16) 3 139 := ⟨by decide +kernel, rfl⟩
theorem dX12_next_139 : q_at cX12_next 139 (.aload_n 0) 1 140 := ⟨by decide +kernel, rfl⟩
theorem dX12_next_140 : q_at cX12_next 140 (.dup) 1 141 := ⟨by decide +kernel, rfl⟩
theorem dX12_next_141 : q_at cX12_next 141 (.getfield 226) 3 144 := ⟨by decide +kernel, rfl⟩
theorem dX12_next_144 : q_at cX12_next 144 (.iconst 1) 1 145 := ⟨by decide +kernel, rfl⟩
theorem dX12_next_145 : q_at cX12_next 145 (.iadd) 1 146 := ⟨by decide +kernel, rfl⟩
theorem dX12_next_146 : q_at cX12_next 146 (.putfield 226) 3 149 := ⟨by decide +kernel, rfl⟩
theorem dX12_next_149 : q_at cX12_next 149 (.goto (-21)) 3 152 := ⟨by decide +kernel, rfl⟩
theorem dX12_next_152 : q_at cX12_next 152 (.aload_n 0) 1 153 := ⟨by decide +kernel, rfl⟩
theorem dX12_next_153 : q_at cX12_next 153 (.iload_n 1) 1 154 := ⟨by decide +kernel, rfl⟩
theorem dX12_next_154 : q_at cX12_next 154 (.ifCond .eq 7) 3 157 := ⟨by decide +kernel, rfl⟩
theorem dX12_next_157 : q_at cX12_next 157 (.iconst 4) 1 158 := ⟨by decide +kernel, rfl⟩
theorem dX12_next_158 : q_at cX12_next 158 (.goto 4) 3 161 := ⟨by decide +kernel, rfl⟩
theorem dX12_next_161 : q_at cX12_next 161 (.iconst 1) 1 162 := ⟨by decide +kernel, rfl⟩
theorem dX12_next_162 : q_at cX12_next 162 (.putfield 229) 3 165 := ⟨by decide +kernel, rfl⟩
theorem dX12_next_165 : q_at cX12_next 165 (.aload_n 0) 1 166 := ⟨by decide +kernel, rfl⟩
theorem dX12_next_166 : q_at cX12_next 166 (.aload_n 0) 1 167 := ⟨by decide +kernel, rfl⟩
theorem dX12_next_167 : q_at cX12_next 167 (.getfield 226) 3 170 := ⟨by decide +kernel, rfl⟩
theorem dX12_next_170 : q_at cX12_next 170 (.aload_n 0) 1 171 := ⟨by decide +kernel, rfl⟩
theorem dX12_next_171 : q_at cX12_next 171 (.getfield 232) 3 174 := ⟨by decide +kernel, rfl⟩
theorem dX12_next_174 : q_at cX12_next 174 (.isub) 1 175 := ⟨by decide +kernel, rfl⟩
theorem dX12_next_175 : q_at cX12_next 175 (.iconst 1) 1 176 := ⟨by decide +kernel, rfl⟩
theorem dX12_next_176 : q_at cX12_next 176 (.if_icmp .ne 15) 3 179 := ⟨by decide +kernel, rfl⟩
theorem dX12_next_179 : q_at cX12_next 179 (.aload_n 0) 1 180 := ⟨by decide +kernel, rfl⟩
theorem dX12_next_180 : q_at cX12_next 180 (.getfield 28) 3 183 := ⟨by decide +kernel, rfl⟩
theorem dX12_next_183 : q_at cX12_next 183 (.aload_n 0) 1 184 := ⟨by decide +kernel, rfl⟩
theorem dX12_next_184 : q_at cX12_next 184 (.getfield 232) 3 187 := ⟨by decide +kernel, rfl⟩
theorem dX12_next_187 : q_at cX12_next 187 (.iaload) 1 188 := ⟨by decide +kernel, rfl⟩
theorem dX12_next_188 : q_at cX12_next 188 (.goto 4) 3 191 := ⟨by decide +kernel, rfl⟩
theorem dX12_next_191 : q_at cX12_next 191 (.iconst 0) 1 192 := ⟨by decide +kernel, rfl⟩
theorem dX12_next_192 : q_at cX12_next 192 (.putfield 238) 3 195 := ⟨by decide +kernel, rfl⟩
theorem dX12_next_195 : q_at cX12_next 195 (.goto 144) 3 198 := ⟨by decide +kernel, rfl⟩
theorem dX12_next_198 : q_at cX12_next 198 (.aload_n 0) 1 199 := ⟨by decide +kernel, rfl⟩
theorem dX12_next_199 : q_at cX12_next 199 (.aload_n 0) 1 200 := ⟨by decide +kernel, rfl⟩
theorem dX12_next_200 : q_at cX12_next 200 (.getfield 232) 3 203 := ⟨by decide +kernel, rfl⟩
theorem dX12_next_203 : q_at cX12_next 203 (.invokevirtual 241) 3 206 := ⟨by decide +kernel, rfl⟩
theorem dX12_next_206 : q_at cX12_next 206 (.ifCond .eq 105) 3 209 := ⟨by decide +kernel, rfl⟩
theorem dX12_next_209 : q_at cX12_next 209 (.aload_n 0) 1 210 := ⟨by decide +kernel, rfl⟩
theorem dX12_next_210 : q_at cX12_next 210 (.iconst 0) 1 211 := ⟨by decide +kernel, rfl⟩
theorem dX12_next_211 : q_at cX12_next 211 (.putfield 244) 3 214 := ⟨by decide +kernel, rfl⟩
theorem dX12_next_214 : q_at cX12_next 214 (.aload_n 0) 1 215 := ⟨by decide +kernel, rfl⟩
theorem dX12_next_215 : q_at cX12_next 215 (.aload_n 0) 1 216 := ⟨by decide +kernel, rfl⟩
theorem dX12_next_216 : q_at cX12_next 216 (.getfield 226) 3 219 := ⟨by decide +kernel, rfl⟩
theorem dX12_next_219 : q_at cX12_next 219 (.invokevirtual 241) 3 222 := ⟨by decide +kernel, rfl⟩
theorem dX12_next_222 : q_at cX12_next 222 (.ifCond .eq 60) 3 225 := ⟨by decide +kernel, rfl⟩
theorem dX12_next_225 : q_at cX12_next 225 (.aload_n 0) 1 226 := ⟨by decide +kernel, rfl⟩
theorem dX12_next_226 : q_at cX12_next 226 (.aload_n 0) 1 227 := ⟨by decide +kernel, rfl⟩
theorem dX12_next_227 : q_at cX12_next 227 (.getfield 226) 3 230 := ⟨by decide +kernel, rfl⟩
theorem dX12_next_230 : q_at cX12_next 230 (.aload_n 0) 1 231 := ⟨by decide +kernel, rfl⟩
theorem dX12_next_231 : q_at cX12_next 231 (.getfield 232) 3 234 := ⟨by decide +kernel, rfl⟩
theorem dX12_next_234 : q_at cX12_next 234 (.isub) 1 235 := ⟨by decide +kernel, rfl⟩
theorem dX12_next_235 : q_at cX12_next 235 (.iconst 4) 1 236 := ⟨by decide +kernel, rfl⟩
theorem dX12_next_236 : q_at cX12_next 236 (.if_icmp .ge 26) 3 239 := ⟨by decide +kernel, rfl⟩
theorem dX12_next_239 : q_at cX12_next 239 (.bipush 10) 2 241 := ⟨by decide +kernel, rfl⟩
theorem dX12_next_241 : q_at cX12_next 241 (.aload_n 0) 1 242 := ⟨by decide +kernel, rfl⟩
theorem dX12_next_242 : q_at cX12_next 242 (.getfield 244) 3 245 := ⟨by decide +kernel, rfl⟩
theorem dX12_next_245 : q_at cX12_next 245 (.imul) 1 246 := ⟨by decide +kernel, rfl⟩
theorem dX12_next_246 : q_at cX12_next 246 (.aload_n 0) 1 247 := ⟨by decide +kernel, rfl⟩
theorem dX12_next_247 : q_at cX12_next 247 (.getfield 28) 3 250 := ⟨by decide +kernel, rfl⟩
theorem dX12_next_250 : q_at cX12_next 250 (.aload_n 0) 1 251 := ⟨by decide +kernel, rfl⟩
theorem dX12_next_251 : q_at cX12_next 251 (.getfield 226) 3 254 := ⟨by decide +kernel, rfl⟩
theorem dX12_next_254 : q_at cX12_next 254 (.iaload) 1 255 := ⟨by decide +kernel, rfl⟩
theorem dX12_next_255 : q_at cX12_next 255 (.iadd) 1 256 := ⟨by decide +kernel, rfl⟩
theorem dX12_next_256 : q_at cX12_next 256 (.bipush 48) 2 258 := ⟨by decide +kernel, rfl⟩
theorem dX12_next_258 : q_at cX12_next 258 (.isub) 1 259 := ⟨by decide +kernel, rfl⟩
theorem dX12_next_259 : q_at cX12_next 259 (.goto 7) 3 262 := ⟨by decide +kernel, rfl⟩
theorem dX12_next_262 : q_at cX12_next 262 (.aload_n 0) 1 263 := ⟨by decide +kernel, rfl⟩
theorem dX12_next_263 : q_at cX12_next 263 (.getfield 244) 3 266 := ⟨by decide +kernel, rfl⟩
theorem dX12_next_266 : q_at cX12_next 266 (.putfield 244) 3 269 := ⟨by decide +kernel, rfl⟩
theorem dX12_next_269 : q_at cX12_next 269 (.aload_n 0) 1 270 := ⟨by decide +kernel, rfl⟩
theorem dX12_next_270 : q_at cX12_next 270 (.dup) 1 271 := ⟨by decide +kernel, rfl⟩
theorem dX12_next_271 : q_at cX12_next 271 (.getfield 226) 3 274 := ⟨by decide +kernel, rfl⟩
theorem dX12_next_274 : q_at cX12_next 274 (.iconst 1) 1 275 := ⟨by decide +kernel, rfl⟩
theorem dX12_next_275 : q_at cX12_next 275 (.iadd) 1 276 := ⟨by decide +kernel, rfl⟩
theorem dX12_next_276 : q_at cX12_next 276 (.putfield 226) 3 279 := ⟨by decide +kernel, rfl⟩
theorem dX12_next_279 : q_at cX12_next 279 (.goto (-65)) 3 282 := ⟨by decide +kernel, rfl⟩
theorem dX12_next_282 : q_at cX12_next 282 (.aload_n 0) 1 283 := ⟨by decide +kernel, rfl⟩
theorem dX12_next_283 : q_at cX12_next 283 (.iload_n 1) 1 284 := ⟨by decide +kernel, rfl⟩
theorem dX12_next_284 : q_at cX12_next 284 (.ifCond .ne 16) 3 287 := ⟨by decide +kernel, rfl⟩
theorem dX12_next_287 : q_at cX12_next 287 (.aload_n 0) 1 288 := ⟨by decide +kernel, rfl⟩
theorem dX12_next_288 : q_at cX12_next 288 (.getfield 226) 3 291 := ⟨by decide +kernel, rfl⟩
theorem dX12_next_291 : q_at cX12_next 291 (.aload_n 0) 1 292 := ⟨by decide +kernel, rfl⟩
theorem dX12_next_292 : q_at cX12_next 292 (.getfield 232) 3 295 := ⟨by decide +kernel, rfl⟩
theorem dX12_next_295 : q_at cX12_next 295 (.isub) 1 296 := ⟨by decide +kernel, rfl⟩
theorem dX12_next_296 : q_at cX12_next 296 (.iconst 4) 1 297 := ⟨by decide +kernel, rfl⟩
theorem dX12_next_297 : q_at cX12_next 297 (.if_icmp .le 7) 3 300 := ⟨by decide +kernel, rfl⟩
theorem dX12_next_300 : q_at cX12_next 300 (.iconst 4) 1 301 := ⟨by decide +kernel, rfl⟩
theorem dX12_next_301 : q_at cX12_next 301 (.goto 4) 3 304 := ⟨by decide +kernel, rfl⟩
theorem dX12_next_304 : q_at cX12_next 304 (.iconst 2) 1 305 := ⟨by decide +kernel, rfl⟩
theorem dX12_next_305 : q_at cX12_next 305 (.putfield 229) 3 308 := ⟨by decide +kernel, rfl⟩
theorem dX12_next_308 : q_at cX12_next 308 (.goto 31) 3 311 := ⟨by decide +kernel, rfl⟩
theorem dX12_next_311 : q_at cX12_next 311 (.aload_n 0) 1 312 := ⟨by decide +kernel, rfl⟩
theorem dX12_next_312 : q_at cX12_next 312 (.iconst 3) 1 313 := ⟨by decide +kernel, rfl⟩
theorem dX12_next_313 : q_at cX12_next 313 (.putfield 229) 3 316 := ⟨by decide +kernel, rfl⟩
theorem dX12_next_316 : q_at cX12_next 316 (.aload_n 0) 1 317 := ⟨by decide +kernel, rfl⟩
theorem dX12_next_317 : q_at cX12_next 317 (.aload_n 0) 1 318 := ⟨by decide +kernel, rfl⟩
theorem dX12_next_318 : q_at cX12_next 318 (.getfield 28) 3 321 := ⟨by decide +kernel, rfl⟩
theorem dX12_next_321 : q_at cX12_next 321 (.aload_n 0) 1 322 := ⟨by decide +kernel, rfl⟩
theorem dX12_next_322 : q_at cX12_next 322 (.getfield 232) 3 325 := ⟨by decide +kernel, rfl⟩
theorem dX12_next_325 : q_at cX12_next 325 (.iaload) 1 326 := ⟨by decide +kernel, rfl⟩
theorem dX12_next_326 : q_at cX12_next 326 (.putfield 238) 3 329 := ⟨by decide +kernel, rfl⟩
theorem dX12_next_329 : q_at cX12_next 329 (.aload_n 0) 1 330 := ⟨by decide +kernel, rfl⟩
theorem dX12_next_330 : q_at cX12_next 330 (.dup) 1 331 := ⟨by decide +kernel, rfl⟩
theorem dX12_next_331 : q_at cX12_next 331 (.getfield 226) 3 334 := ⟨by decide +kernel, rfl⟩
theorem dX12_next_334 : q_at cX12_next 334 (.iconst 1) 1 335 := ⟨by decide +kernel, rfl⟩
theorem dX12_next_335 : q_at cX12_next 335 (.iadd) 1 336 := ⟨by decide +kernel, rfl⟩
theorem dX12_next_336 : q_at cX12_next 336 (.putfield 226) 3 339 := ⟨by decide +kernel, rfl⟩
theorem dX12_next_339 : q_at cX12_next 339 (.return_) 1 340 := ⟨by decide +kernel, rfl⟩
theorem dX12_note_0 : q_at cX12_note 0 (.iload_n 1) 1 1 := ⟨by decide +kernel, rfl⟩
theorem dX12_note_1 : q_at cX12_note 1 (.invokestatic 78) 3 4 := ⟨by decide +kernel, rfl⟩
theorem dX12_note_4 : q_at cX12_note 4 (.ifCond .ne 6) 3 7 := ⟨by decide +kernel, rfl⟩
theorem dX12_note_7 : q_at cX12_note 7 (.ldc 90) 2 9 := ⟨by decide +kernel, rfl⟩
theorem dX12_note_9 : q_at cX12_note 9 (.ireturn) 1 10 := ⟨by decide +kernel, rfl⟩
theorem dX12_note_10 : q_at cX12_note 10 (.aload_n 0) 1 11 := ⟨by decide +kernel, rfl⟩
theorem dX12_note_11 : q_at cX12_note 11 (.getfield 19) 3 14 := ⟨by decide +kernel, rfl⟩
theorem dX12_note_14 : q_at cX12_note 14 (.iload_n 1) 1 15 := ⟨by decide +kernel, rfl⟩
theorem dX12_note_15 : q_at cX12_note 15 (.iaload) 1 16 := ⟨by decide +kernel, rfl⟩
theorem dX12_note_16 : q_at cX12_note 16 (.ifCond .ge 7) 3 19 := ⟨by decide +kernel, rfl⟩
theorem dX12_note_19 : q_at cX12_note 19 (.ldc_w 378) 3 22 := ⟨by decide +kernel, rfl⟩
theorem dX12_note_22 : q_at cX12_note 22 (.ireturn) 1 23 := ⟨by decide +kernel, rfl⟩
theorem dX12_note_23 : q_at cX12_note 23 (.iload_n 2) 1 24 := ⟨by decide +kernel, rfl⟩
theorem dX12_note_24 : q_at cX12_note 24 (.i2l) 1 25 := ⟨by decide +kernel, rfl⟩
theorem dX12_note_25 : q_at cX12_note 25 (.lconst 0) 1 26 := ⟨by decide +kernel, rfl⟩
theorem dX12_note_26 : q_at cX12_note 26 (.aload_n 0) 1 27 := ⟨by decide +kernel, rfl⟩
theorem dX12_note_27 : q_at cX12_note 27 (.getfield 22) 3 30 := ⟨by decide +kernel, rfl⟩
theorem dX12_note_30 : q_at cX12_note 30 (.iload_n 1) 1 31 := ⟨by decide +kernel, rfl⟩
theorem dX12_note_31 : q_at cX12_note 31 (.iaload) 1 32 := ⟨by decide +kernel, rfl⟩
theorem dX12_note_32 : q_at cX12_note 32 (.iconst 1) 1 33 := ⟨by decide +kernel, rfl⟩
theorem dX12_note_33 : q_at cX12_note 33 (.isub) 1 34 := ⟨by decide +kernel, rfl⟩
theorem dX12_note_34 : q_at cX12_note 34 (.i2l) 1 35 := ⟨by decide +kernel, rfl⟩
theorem dX12_note_35 : q_at cX12_note 35 (.invokestatic 64) 3 38 := ⟨by decide +kernel, rfl⟩
theorem dX12_note_38 : q_at cX12_note 38 (.ifCond .ne 7) 3 41 := ⟨by decide +kernel, rfl⟩
theorem dX12_note_41 : q_at cX12_note 41 (.ldc_w 379) 3 44 := ⟨by decide +kernel, rfl⟩
theorem dX12_note_44 : q_at cX12_note 44 (.ireturn) 1 45 := ⟨by decide +kernel, rfl⟩
theorem dX12_note_45 : q_at cX12_note 45 (.aload_n 0) 1 46 := ⟨by decide +kernel, rfl⟩
theorem dX12_note_46 : q_at cX12_note 46 (.getfield 25) 3 49 := ⟨by decide +kernel, rfl⟩
theorem dX12_note_49 : q_at cX12_note 49 (.bipush 30) 2 51 := ⟨by decide +kernel, rfl⟩
theorem dX12_note_51 : q_at cX12_note 51 (.iload_n 1) 1 52 := ⟨by decide +kernel, rfl⟩
theorem dX12_note_52 : q_at cX12_note 52 (.imul) 1 53 := ⟨by decide +kernel, rfl⟩
theorem dX12_note_53 : q_at cX12_note 53 (.iload_n 2) 1 54 := ⟨by decide +kernel, rfl⟩
theorem dX12_note_54 : q_at cX12_note 54 (.iadd) 1 55 := ⟨by decide +kernel, rfl⟩
theorem dX12_note_55 : q_at cX12_note 55 (.aload_n 0) 1 56 := ⟨by decide +kernel, rfl⟩
theorem dX12_note_56 : q_at cX12_note 56 (.getfield 19) 3 59 := ⟨by decide +kernel, rfl⟩
theorem dX12_note_59 : q_at cX12_note 59 (.iload_n 1) 1 60 := ⟨by decide +kernel, rfl⟩
theorem dX12_note_60 : q_at cX12_note 60 (.iaload) 1 61 := ⟨by decide +kernel, rfl⟩
theorem dX12_note_61 : q_at cX12_note 61 (.iconst 1) 1 62 := ⟨by decide +kernel, rfl⟩
theorem dX12_note_62 : q_at cX12_note 62 (.if_icmp .ne 13) 3 65 := ⟨by decide +kernel, rfl⟩
theorem dX12_note_65 : q_at cX12_note 65 (.iload_n 3) 1 66 := ⟨by decide +kernel, rfl⟩
theorem dX12_note_66 : q_at cX12_note 66 (.bipush 16) 2 68 := ⟨by decide +kernel, rfl⟩
theorem dX12_note_68 : q_at cX12_note 68 (.ishl) 1 69 := ⟨by decide +kernel, rfl⟩
theorem dX12_note_69 : q_at cX12_note 69 (.bipush 16) 2 71 := ⟨by decide +kernel, rfl⟩
theorem dX12_note_71 : q_at cX12_note 71 (.ishr) 1 72 := ⟨by decide +kernel, rfl⟩
theorem dX12_note_72 : q_at cX12_note 72 (.goto 4) 3 75 := ⟨by decide +kernel, rfl⟩
theorem dX12_note_75 : q_at cX12_note 75 (.iload_n 3) 1 76 := ⟨by decide +kernel, rfl⟩
theorem dX12_note_76 : q_at cX12_note 76 (.iastore) 1 77 := ⟨by decide +kernel, rfl⟩
theorem dX12_note_77 : q_at cX12_note 77 (.iconst 1) 1 78 := ⟨by decide +kernel, rfl⟩
theorem dX12_note_78 : q_at cX12_note 78 (.ireturn) 1 79 := ⟨by decide +kernel, rfl⟩
theorem dX12_of_0 : q_at cX12_of 0 (.aload_n 0) 1 1 := ⟨by decide +kernel, rfl⟩
theorem dX12_of_1 : q_at cX12_of 1 (.iload_n 1) 1 2 := ⟨by decide +kernel, rfl⟩
theorem dX12_of_2 : q_at cX12_of 2 (.invokevirtual 308) 3 5 := ⟨by decide +kernel, rfl⟩
theorem dX12_of_5 : q_at cX12_of 5 (.ifCond .eq 30) 3 8 := ⟨by decide +kernel, rfl⟩
theorem dX12_of_8 : q_at cX12_of 8 (.iload_n 2) 1 9 := ⟨by decide +kernel, rfl⟩
theorem dX12_of_9 : q_at cX12_of 9 (.i2l) 1 10 := ⟨by decide +kernel, rfl⟩
theorem dX12_of_10 : q_at cX12_of 10 (.lconst 0) 1 11 := ⟨by decide +kernel, rfl⟩
theorem dX12_of_11 : q_at cX12_of 11 (.ldc2_w 125) 3 14 := ⟨by decide +kernel, rfl⟩
theorem dX12_of_14 : q_at cX12_of 14 (.invokestatic 64) 3 17 := ⟨by decide +kernel, rfl⟩
theorem dX12_of_17 : q_at cX12_of 17 (.ifCond .eq 18) 3 20 := ⟨by decide +kernel, rfl⟩
theorem dX12_of_20 : q_at cX12_of 20 (.aload_n 0) 1 21 := ⟨by decide +kernel, rfl⟩
theorem dX12_of_21 : q_at cX12_of 21 (.getfield 7) 3 24 := ⟨by decide +kernel, rfl⟩
theorem dX12_of_24 : q_at cX12_of 24 (.aload_n 0) 1 25 := ⟨by decide +kernel, rfl⟩
theorem dX12_of_25 : q_at cX12_of 25 (.iload_n 1) 1 26 := ⟨by decide +kernel, rfl⟩
theorem dX12_of_26 : q_at cX12_of 26 (.invokevirtual 297) 3 29 := ⟨by decide +kernel, rfl⟩
theorem dX12_of_29 : q_at cX12_of 29 (.iload_n 2) 1 30 := ⟨by decide +kernel, rfl⟩
theorem dX12_of_30 : q_at cX12_of 30 (.iadd) 1 31 := ⟨by decide +kernel, rfl⟩
theorem dX12_of_31 : q_at cX12_of 31 (.iaload) 1 32 := ⟨by decide +kernel, rfl⟩
theorem dX12_of_32 : q_at cX12_of 32 (.goto 5) 3 35 := ⟨by decide +kernel, rfl⟩
theorem dX12_of_35 : q_at cX12_of 35 (.ldc 90) 2 37 := ⟨by decide +kernel, rfl⟩
theorem dX12_of_37 : q_at cX12_of 37 (.ireturn) 1 38 := ⟨by decide +kernel, rfl⟩
theorem dX12_pit_0 : q_at cX12_pit 0 (.iload_n 1) 1 1 := ⟨by decide +kernel, rfl⟩
theorem dX12_pit_1 : q_at cX12_pit 1 (.invokestatic 78) 3 4 := ⟨by decide +kernel, rfl⟩
theorem dX12_pit_4 : q_at cX12_pit 4 (.ifCond .eq 51) 3 7 := ⟨by decide +kernel, rfl⟩
theorem dX12_pit_7 : q_at cX12_pit 7 (.iload_n 2) 1 8 := ⟨by decide +kernel, rfl⟩
theorem dX12_pit_8 : q_at cX12_pit 8 (.i2l) 1 9 := ⟨by decide +kernel, rfl⟩
theorem dX12_pit_9 : q_at cX12_pit 9 (.lconst 0) 1 10 := ⟨by decide +kernel, rfl⟩
theorem dX12_pit_10 : q_at cX12_pit 10 (.lconst 1) 1 11 := ⟨by decide +kernel, rfl⟩
theorem dX12_pit_11 : q_at cX12_pit 11 (.invokestatic 64) 3 14 := ⟨by decide +kernel, rfl⟩
theorem dX12_pit_14 : q_at cX12_pit 14 (.ifCond .eq 41) 3 17 := ⟨by decide +kernel, rfl⟩
theorem dX12_pit_17 : q_at cX12_pit 17 (.iload_n 3) 1 18 := ⟨by decide +kernel, rfl⟩
theorem dX12_pit_18 : q_at cX12_pit 18 (.i2l) 1 19 := ⟨by decide +kernel, rfl⟩
theorem dX12_pit_19 : q_at cX12_pit 19 (.lconst 1) 1 20 := ⟨by decide +kernel, rfl⟩
theorem dX12_pit_20 : q_at cX12_pit 20 (.iload_n 2) 1 21 := ⟨by decide +kernel, rfl⟩
theorem dX12_pit_21 : q_at cX12_pit 21 (.ifCond .ne 9) 3 24 := ⟨by decide +kernel, rfl⟩
theorem dX12_pit_24 : q_at cX12_pit 24 (.ldc2_w 82) 3 27 := ⟨by decide +kernel, rfl⟩
theorem dX12_pit_27 : q_at cX12_pit 27 (.goto 6) 3 30 := ⟨by decide +kernel, rfl⟩
theorem dX12_pit_30 : q_at cX12_pit 30 (.ldc2_w 84) 3 33 := ⟨by decide +kernel, rfl⟩
theorem dX12_pit_33 : q_at cX12_pit 33 (.invokestatic 64) 3 36 := ⟨by decide +kernel, rfl⟩
theorem dX12_pit_36 : q_at cX12_pit 36 (.ifCond .eq 19) 3 39 := ⟨by decide +kernel, rfl⟩
theorem dX12_pit_39 : q_at cX12_pit 39 (.aload_n 0) 1 40 := ⟨by decide +kernel, rfl⟩
theorem dX12_pit_40 : q_at cX12_pit 40 (.bipush 10) 2 42 := ⟨by decide +kernel, rfl⟩
theorem dX12_pit_42 : q_at cX12_pit 42 (.iconst 5) 1 43 := ⟨by decide +kernel, rfl⟩
theorem dX12_pit_43 : q_at cX12_pit 43 (.iload_n 1) 1 44 := ⟨by decide +kernel, rfl⟩
theorem dX12_pit_44 : q_at cX12_pit 44 (.imul) 1 45 := ⟨by decide +kernel, rfl⟩
theorem dX12_pit_45 : q_at cX12_pit 45 (.iadd) 1 46 := ⟨by decide +kernel, rfl⟩
theorem dX12_pit_46 : q_at cX12_pit 46 (.iload_n 2) 1 47 := ⟨by decide +kernel, rfl⟩
theorem dX12_pit_47 : q_at cX12_pit 47 (.iadd) 1 48 := ⟨by decide +kernel, rfl⟩
theorem dX12_pit_48 : q_at cX12_pit 48 (.iload_n 3) 1 49 := ⟨by decide +kernel, rfl⟩
theorem dX12_pit_49 : q_at cX12_pit 49 (.invokevirtual 86) 3 52 := ⟨by decide +kernel, rfl⟩
theorem dX12_pit_52 : q_at cX12_pit 52 (.goto 5) 3 55 := ⟨by decide +kernel, rfl⟩
theorem dX12_pit_55 : q_at cX12_pit 55 (.ldc 90) 2 57 := ⟨by decide +kernel, rfl⟩
theorem dX12_pit_57 : q_at cX12_pit 57 (.ireturn) 1 58 := ⟨by decide +kernel, rfl⟩
theorem dX12_prove_0 : q_at cX12_prove 0 (.iload_n 1) 1 1 := ⟨by decide +kernel, rfl⟩
theorem dX12_prove_1 : q_at cX12_prove 1 (.invokestatic 78) 3 4 := ⟨by decide +kernel, rfl⟩
theorem dX12_prove_4 : q_at cX12_prove 4 (.ifCond .eq 39) 3 7 := ⟨by decide +kernel, rfl⟩
theorem dX12_prove_7 : q_at cX12_prove 7 (.iload_n 2) 1 8 := ⟨by decide +kernel, rfl⟩
theorem dX12_prove_8 : q_at cX12_prove 8 (.i2l) 1 9 := ⟨by decide +kernel, rfl⟩
theorem dX12_prove_9 : q_at cX12_prove 9 (.lconst 1) 1 10 := ⟨by decide +kernel, rfl⟩
theorem dX12_prove_10 : q_at cX12_prove 10 (.ldc2_w 82) 3 13 := ⟨by decide +kernel, rfl⟩
theorem dX12_prove_13 : q_at cX12_prove 13 (.invokestatic 64) 3 16 := ⟨by decide +kernel, rfl⟩
theorem dX12_prove_16 : q_at cX12_prove 16 (.ifCond .eq 27) 3 19 := ⟨by decide +kernel, rfl⟩
theorem dX12_prove_19 : q_at cX12_prove 19 (.iload_n 3) 1 20 := ⟨by decide +kernel, rfl⟩
theorem dX12_prove_20 : q_at cX12_prove 20 (.i2l) 1 21 := ⟨by decide +kernel, rfl⟩
theorem dX12_prove_21 : q_at cX12_prove 21 (.iload_n 2) 1 22 := ⟨by decide +kernel, rfl⟩
theorem dX12_prove_22 : q_at cX12_prove 22 (.i2l) 1 23 := ⟨by decide +kernel, rfl⟩
theorem dX12_prove_23 : q_at cX12_prove 23 (.ldc2_w 82) 3 26 := ⟨by decide +kernel, rfl⟩
theorem dX12_prove_26 : q_at cX12_prove 26 (.invokestatic 64) 3 29 := ⟨by decide +kernel, rfl⟩
theorem dX12_prove_29 : q_at cX12_prove 29 (.ifCond .eq 14) 3 32 := ⟨by decide +kernel, rfl⟩
theorem dX12_prove_32 : q_at cX12_prove 32 (.iload 4) 2 34 := ⟨by decide +kernel, rfl⟩
theorem dX12_prove_34 : q_at cX12_prove 34 (.i2l) 1 35 := ⟨by decide +kernel, rfl⟩
theorem dX12_prove_35 : q_at cX12_prove 35 (.lconst 0) 1 36 := ⟨by decide +kernel, rfl⟩
theorem dX12_prove_36 : q_at cX12_prove 36 (.lconst 1) 1 37 := ⟨by decide +kernel, rfl⟩
theorem dX12_prove_37 : q_at cX12_prove 37 (.invokestatic 64) 3 40 := ⟨by decide +kernel, rfl⟩
theorem dX12_prove_40 : q_at cX12_prove 40 (.ifCond .ne 6) 3 43 := ⟨by decide +kernel, rfl⟩
theorem dX12_prove_43 : q_at cX12_prove 43 (.ldc 90) 2 45 := ⟨by decide +kernel, rfl⟩
theorem dX12_prove_45 : q_at cX12_prove 45 (.ireturn) 1 46 := ⟨by decide +kernel, rfl⟩
theorem dX12_prove_46 : q_at cX12_prove 46 (.bipush 10) 2 48 := ⟨by decide +kernel, rfl⟩
theorem dX12_prove_48 : q_at cX12_prove 48 (.iconst 5) 1 49 := ⟨by decide +kernel, rfl⟩
theorem dX12_prove_49 : q_at cX12_prove 49 (.iload_n 1) 1 50 := ⟨by decide +kernel, rfl⟩
theorem dX12_prove_50 : q_at cX12_prove 50 (.imul) 1 51 := ⟨by decide +kernel, rfl⟩
theorem dX12_prove_51 : q_at cX12_prove 51 (.iadd) 1 52 := ⟨by decide +kernel, rfl⟩
theorem dX12_prove_52 : q_at cX12_prove 52 (.istore 5) 2 54 := ⟨by decide +kernel, rfl⟩
theorem dX12_prove_54 : q_at cX12_prove 54 (.aload_n 0) 1 55 := ⟨by decide +kernel, rfl⟩
theorem dX12_prove_55 : q_at cX12_prove 55 (.getfield 7) 3 58 := ⟨by decide +kernel, rfl⟩
theorem dX12_prove_58 : q_at cX12_prove 58 (.iload 5) 2 60 := ⟨by decide +kernel, rfl⟩
theorem dX12_prove_60 : q_at cX12_prove 60 (.iconst 4) 1 61 := ⟨by decide +kernel, rfl⟩
theorem dX12_prove_61 : q_at cX12_prove 61 (.iadd) 1 62 := ⟨by decide +kernel, rfl⟩
theorem dX12_prove_62 : q_at cX12_prove 62 (.iaload) 1 63 := ⟨by decide +kernel, rfl⟩
theorem dX12_prove_63 : q_at cX12_prove 63 (.ifCond .ne 8) 3 66 := ⟨by decide +kernel, rfl⟩
theorem dX12_prove_66 : q_at cX12_prove 66 (.ldc 61) 2 68 := ⟨by decide +kernel, rfl⟩
theorem dX12_prove_68 : q_at cX12_prove 68 (.goto 41) 3 71 := ⟨by decide +kernel, rfl⟩
theorem dX12_prove_71 : q_at cX12_prove 71 (.aload_n 0) 1 72 := ⟨by decide +kernel, rfl⟩
theorem dX12_prove_72 : q_at cX12_prove 72 (.getfield 7) 3 75 := ⟨by decide +kernel, rfl⟩
theorem dX12_prove_75 : q_at cX12_prove 75 (.iload 5) 2 77 := ⟨by decide +kernel, rfl⟩
theorem dX12_prove_77 : q_at cX12_prove 77 (.iconst 3) 1 78 := ⟨by decide +kernel, rfl⟩
theorem dX12_prove_78 : q_at cX12_prove 78 (.iadd) 1 79 := ⟨by decide +kernel, rfl⟩
theorem dX12_prove_79 : q_at cX12_prove 79 (.iaload) 1 80 := ⟨by decide +kernel, rfl⟩
theorem dX12_prove_80 : q_at cX12_prove 80 (.i2l) 1 81 := ⟨by decide +kernel, rfl⟩
theorem dX12_prove_81 : q_at cX12_prove 81 (.ldc2_w 178) 3 84 := ⟨by decide +kernel, rfl⟩
theorem dX12_prove_84 : q_at cX12_prove 84 (.lmul) 1 85 := ⟨by decide +kernel, rfl⟩
theorem dX12_prove_85 : q_at cX12_prove 85 (.aload_n 0) 1 86 := ⟨by decide +kernel, rfl⟩
theorem dX12_prove_86 : q_at cX12_prove 86 (.getfield 7) 3 89 := ⟨by decide +kernel, rfl⟩
theorem dX12_prove_89 : q_at cX12_prove 89 (.iload 5) 2 91 := ⟨by decide +kernel, rfl⟩
theorem dX12_prove_91 : q_at cX12_prove 91 (.iconst 4) 1 92 := ⟨by decide +kernel, rfl⟩
theorem dX12_prove_92 : q_at cX12_prove 92 (.iadd) 1 93 := ⟨by decide +kernel, rfl⟩
theorem dX12_prove_93 : q_at cX12_prove 93 (.iaload) 1 94 := ⟨by decide +kernel, rfl⟩
theorem dX12_prove_94 : q_at cX12_prove 94 (.i2l) 1 95 := ⟨by decide +kernel, rfl⟩
theorem dX12_prove_95 : q_at cX12_prove 95 (.iload 4) 2 97 := ⟨by decide +kernel, rfl⟩
theorem dX12_prove_97 : q_at cX12_prove 97 (.ifCond .ne 7) 3 100 := ⟨by decide +kernel, rfl⟩
theorem dX12_prove_100 : q_at cX12_prove 100 (.iload_n 3) 1 101 := ⟨by decide +kernel, rfl⟩
theorem dX12_prove_101 : q_at cX12_prove 101 (.goto 4) 3 104 := ⟨by decide +kernel, rfl⟩
theorem dX12_prove_104 : q_at cX12_prove 104 (.iload_n 2) 1 105 := ⟨by decide +kernel, rfl⟩
theorem dX12_prove_105 : q_at cX12_prove 105 (.i2l) 1 106 := ⟨by decide +kernel, rfl⟩
theorem dX12_prove_106 : q_at cX12_prove 106 (.lmul) 1 107 := ⟨by decide +kernel, rfl⟩
theorem dX12_prove_107 : q_at cX12_prove 107 (.ldiv) 1 108 := ⟨by decide +kernel, rfl⟩
theorem dX12_prove_108 : q_at cX12_prove 108 (.l2i) 1 109 := ⟨by decide +kernel, rfl⟩
theorem dX12_prove_109 : q_at cX12_prove 109 (.ireturn) 1 110 := ⟨by decide +kernel, rfl⟩
theorem dX12_read_0 : q_at cX12_read 0 (.iload_n 1) 1 1 := ⟨by decide +kernel, rfl⟩
theorem dX12_read_1 : q_at cX12_read 1 (.invokestatic 78) 3 4 := ⟨by decide +kernel, rfl⟩
theorem dX12_read_4 : q_at cX12_read 4 (.ifCond .ne 6) 3 7 := ⟨by decide +kernel, rfl⟩
theorem dX12_read_7 : q_at cX12_read 7 (.ldc 90) 2 9 := ⟨by decide +kernel, rfl⟩
theorem dX12_read_9 : q_at cX12_read 9 (.ireturn) 1 10 := ⟨by decide +kernel, rfl⟩
theorem dX12_read_10 : q_at cX12_read 10 (.aload_n 0) 1 11 := ⟨by decide +kernel, rfl⟩
theorem dX12_read_11 : q_at cX12_read 11 (.getfield 19) 3 14 := ⟨by decide +kernel, rfl⟩
theorem dX12_read_14 : q_at cX12_read 14 (.iload_n 1) 1 15 := ⟨by decide +kernel, rfl⟩
theorem dX12_read_15 : q_at cX12_read 15 (.iaload) 1 16 := ⟨by decide +kernel, rfl⟩
theorem dX12_read_16 : q_at cX12_read 16 (.ifCond .ge 7) 3 19 := ⟨by decide +kernel, rfl⟩
theorem dX12_read_19 : q_at cX12_read 19 (.ldc_w 378) 3 22 := ⟨by decide +kernel, rfl⟩
theorem dX12_read_22 : q_at cX12_read 22 (.ireturn) 1 23 := ⟨by decide +kernel, rfl⟩
theorem dX12_read_23 : q_at cX12_read 23 (.iload_n 2) 1 24 := ⟨by decide +kernel, rfl⟩
theorem dX12_read_24 : q_at cX12_read 24 (.i2l) 1 25 := ⟨by decide +kernel, rfl⟩
theorem dX12_read_25 : q_at cX12_read 25 (.lconst 0) 1 26 := ⟨by decide +kernel, rfl⟩
theorem dX12_read_26 : q_at cX12_read 26 (.aload_n 0) 1 27 := ⟨by decide +kernel, rfl⟩
theorem dX12_read_27 : q_at cX12_read 27 (.getfield 22) 3 30 := ⟨by decide +kernel, rfl⟩
theorem dX12_read_30 : q_at cX12_read 30 (.iload_n 1) 1 31 := ⟨by decide +kernel, rfl⟩
theorem dX12_read_31 : q_at cX12_read 31 (.iaload) 1 32 := ⟨by decide +kernel, rfl⟩
theorem dX12_read_32 : q_at cX12_read 32 (.iconst 1) 1 33 := ⟨by decide +kernel, rfl⟩
theorem dX12_read_33 : q_at cX12_read 33 (.isub) 1 34 := ⟨by decide +kernel, rfl⟩
theorem dX12_read_34 : q_at cX12_read 34 (.i2l) 1 35 := ⟨by decide +kernel, rfl⟩
theorem dX12_read_35 : q_at cX12_read 35 (.invokestatic 64) 3 38 := ⟨by decide +kernel, rfl⟩
theorem dX12_read_38 : q_at cX12_read 38 (.ifCond .ne 7) 3 41 := ⟨by decide +kernel, rfl⟩
theorem dX12_read_41 : q_at cX12_read 41 (.ldc_w 379) 3 44 := ⟨by decide +kernel, rfl⟩
theorem dX12_read_44 : q_at cX12_read 44 (.ireturn) 1 45 := ⟨by decide +kernel, rfl⟩
theorem dX12_read_45 : q_at cX12_read 45 (.aload_n 0) 1 46 := ⟨by decide +kernel, rfl⟩
theorem dX12_read_46 : q_at cX12_read 46 (.iload_n 1) 1 47 := ⟨by decide +kernel, rfl⟩
theorem dX12_read_47 : q_at cX12_read 47 (.iload_n 2) 1 48 := ⟨by decide +kernel, rfl⟩
theorem dX12_read_48 : q_at cX12_read 48 (.invokevirtual 383) 3 51 := ⟨by decide +kernel, rfl⟩
theorem dX12_read_51 : q_at cX12_read 51 (.istore_n 3) 1 52 := ⟨by decide +kernel, rfl⟩
theorem dX12_read_52 : q_at cX12_read 52 (.iload_n 3) 1 53 := ⟨by decide +kernel, rfl⟩
theorem dX12_read_53 : q_at cX12_read 53 (.ifCond .ge 9) 3 56 := ⟨by decide +kernel, rfl⟩
theorem dX12_read_56 : q_at cX12_read 56 (.ldc_w 356) 3 59 := ⟨by decide +kernel, rfl⟩
theorem dX12_read_59 : q_at cX12_read 59 (.goto 14) 3 62 := ⟨by decide +kernel, rfl⟩
theorem dX12_read_62 : q_at cX12_read 62 (.aload_n 0) 1 63 := ⟨by decide +kernel, rfl⟩
theorem dX12_read_63 : q_at cX12_read 63 (.getfield 25) 3 66 := ⟨by decide +kernel, rfl⟩
theorem dX12_read_66 : q_at cX12_read 66 (.bipush 30) 2 68 := ⟨by decide +kernel, rfl⟩
theorem dX12_read_68 : q_at cX12_read 68 (.iload_n 1) 1 69 := ⟨by decide +kernel, rfl⟩
theorem dX12_read_69 : q_at cX12_read 69 (.imul) 1 70 := ⟨by decide +kernel, rfl⟩
theorem dX12_read_70 : q_at cX12_read 70 (.iload_n 3) 1 71 := ⟨by decide +kernel, rfl⟩
theorem dX12_read_71 : q_at cX12_read 71 (.iadd) 1 72 := ⟨by decide +kernel, rfl⟩
theorem dX12_read_72 : q_at cX12_read 72 (.iaload) 1 73 := ⟨by decide +kernel, rfl⟩
theorem dX12_read_73 : q_at cX12_read 73 (.ireturn) 1 74 := ⟨by decide +kernel, rfl⟩
theorem dX12_refused_0 : q_at cX12_refused 0 (.aload_n 0) 1 1 := ⟨by decide +kernel, rfl⟩
theorem dX12_refused_1 : q_at cX12_refused 1 (.iload_n 1) 1 2 := ⟨by decide +kernel, rfl⟩
theorem dX12_refused_2 : q_at cX12_refused 2 (.invokevirtual 110) 3 5 := ⟨by decide +kernel, rfl⟩
theorem dX12_refused_5 : q_at cX12_refused 5 (.ifCond .eq 27) 3 8 := ⟨by decide +kernel, rfl⟩
theorem dX12_refused_8 : q_at cX12_refused 8 (.iload_n 2) 1 9 := ⟨by decide +kernel, rfl⟩
theorem dX12_refused_9 : q_at cX12_refused 9 (.i2l) 1 10 := ⟨by decide +kernel, rfl⟩
theorem dX12_refused_10 : q_at cX12_refused 10 (.lconst 1) 1 11 := ⟨by decide +kernel, rfl⟩
theorem dX12_refused_11 : q_at cX12_refused 11 (.ldc2_w 344) 3 14 := ⟨by decide +kernel, rfl⟩
theorem dX12_refused_14 : q_at cX12_refused 14 (.invokestatic 64) 3 17 := ⟨by decide +kernel, rfl⟩
theorem dX12_refused_17 : q_at cX12_refused 17 (.ifCond .eq 15) 3 20 := ⟨by decide +kernel, rfl⟩
theorem dX12_refused_20 : q_at cX12_refused 20 (.iload_n 3) 1 21 := ⟨by decide +kernel, rfl⟩
theorem dX12_refused_21 : q_at cX12_refused 21 (.i2l) 1 22 := ⟨by decide +kernel, rfl⟩
theorem dX12_refused_22 : q_at cX12_refused 22 (.lconst 0) 1 23 := ⟨by decide +kernel, rfl⟩
theorem dX12_refused_23 : q_at cX12_refused 23 (.iload 4) 2 25 := ⟨by decide +kernel, rfl⟩
theorem dX12_refused_25 : q_at cX12_refused 25 (.i2l) 1 26 := ⟨by decide +kernel, rfl⟩
theorem dX12_refused_26 : q_at cX12_refused 26 (.invokestatic 64) 3 29 := ⟨by decide +kernel, rfl⟩
theorem dX12_refused_29 : q_at cX12_refused 29 (.ifCond .ne 6) 3 32 := ⟨by decide +kernel, rfl⟩
theorem dX12_refused_32 : q_at cX12_refused 32 (.ldc 90) 2 34 := ⟨by decide +kernel, rfl⟩
theorem dX12_refused_34 : q_at cX12_refused 34 (.ireturn) 1 35 := ⟨by decide +kernel, rfl⟩
theorem dX12_refused_35 : q_at cX12_refused 35 (.aload_n 0) 1 36 := ⟨by decide +kernel, rfl⟩
theorem dX12_refused_36 : q_at cX12_refused 36 (.iload_n 1) 1 37 := ⟨by decide +kernel, rfl⟩
theorem dX12_refused_37 : q_at cX12_refused 37 (.invokevirtual 93) 3 40 := ⟨by decide +kernel, rfl⟩
theorem dX12_refused_40 : q_at cX12_refused 40 (.ifCond .eq 9) 3 43 := ⟨by decide +kernel, rfl⟩
theorem dX12_refused_43 : q_at cX12_refused 43 (.ldc_w 346) 3 46 := ⟨by decide +kernel, rfl⟩
theorem dX12_refused_46 : q_at cX12_refused 46 (.goto 20) 3 49 := ⟨by decide +kernel, rfl⟩
theorem dX12_refused_49 : q_at cX12_refused 49 (.aload_n 0) 1 50 := ⟨by decide +kernel, rfl⟩
theorem dX12_refused_50 : q_at cX12_refused 50 (.getfield 7) 3 53 := ⟨by decide +kernel, rfl⟩
theorem dX12_refused_53 : q_at cX12_refused 53 (.iconst 3) 1 54 := ⟨by decide +kernel, rfl⟩
theorem dX12_refused_54 : q_at cX12_refused 54 (.iaload) 1 55 := ⟨by decide +kernel, rfl⟩
theorem dX12_refused_55 : q_at cX12_refused 55 (.bipush 60) 2 57 := ⟨by decide +kernel, rfl⟩
theorem dX12_refused_57 : q_at cX12_refused 57 (.if_icmp .ne 8) 3 60 := ⟨by decide +kernel, rfl⟩
theorem dX12_refused_60 : q_at cX12_refused 60 (.ldc 98) 2 62 := ⟨by decide +kernel, rfl⟩
theorem dX12_refused_62 : q_at cX12_refused 62 (.goto 4) 3 65 := ⟨by decide +kernel, rfl⟩
theorem dX12_refused_65 : q_at cX12_refused 65 (.iconst 0) 1 66 := ⟨by decide +kernel, rfl⟩
theorem dX12_refused_66 : q_at cX12_refused 66 (.ireturn) 1 67 := ⟨by decide +kernel, rfl⟩
theorem dX12_seen_0 : q_at cX12_seen 0 (.iload_n 1) 1 1 := ⟨by decide +kernel, rfl⟩
theorem dX12_seen_1 : q_at cX12_seen 1 (.i2l) 1 2 := ⟨by decide +kernel, rfl⟩
theorem dX12_seen_2 : q_at cX12_seen 2 (.lconst 1) 1 3 := ⟨by decide +kernel, rfl⟩
theorem dX12_seen_3 : q_at cX12_seen 3 (.ldc2_w 62) 3 6 := ⟨by decide +kernel, rfl⟩
theorem dX12_seen_6 : q_at cX12_seen 6 (.invokestatic 64) 3 9 := ⟨by decide +kernel, rfl⟩
theorem dX12_seen_9 : q_at cX12_seen 9 (.ifCond .eq 11) 3 12 := ⟨by decide +kernel, rfl⟩
theorem dX12_seen_12 : q_at cX12_seen 12 (.aload_n 0) 1 13 := ⟨by decide +kernel, rfl⟩
theorem dX12_seen_13 : q_at cX12_seen 13 (.iload_n 1) 1 14 := ⟨by decide +kernel, rfl⟩
theorem dX12_seen_14 : q_at cX12_seen 14 (.invokevirtual 398) 3 17 := ⟨by decide +kernel, rfl⟩
theorem dX12_seen_17 : q_at cX12_seen 17 (.goto 5) 3 20 := ⟨by decide +kernel, rfl⟩
theorem dX12_seen_20 : q_at cX12_seen 20 (.ldc 90) 2 22 := ⟨by decide +kernel, rfl⟩
theorem dX12_seen_22 : q_at cX12_seen 22 (.ireturn) 1 23 := ⟨by decide +kernel, rfl⟩
theorem dX12_sell_0 : q_at cX12_sell 0 (.aload_n 0) 1 1 := ⟨by decide +kernel, rfl⟩
theorem dX12_sell_1 : q_at cX12_sell 1 (.iload_n 1) 1 2 := ⟨by decide +kernel, rfl⟩
theorem dX12_sell_2 : q_at cX12_sell 2 (.invokevirtual 353) 3 5 := ⟨by decide +kernel, rfl⟩
theorem dX12_sell_5 : q_at cX12_sell 5 (.ifCond .eq 23) 3 8 := ⟨by decide +kernel, rfl⟩
theorem dX12_sell_8 : q_at cX12_sell 8 (.aload_n 0) 1 9 := ⟨by decide +kernel, rfl⟩
theorem dX12_sell_9 : q_at cX12_sell 9 (.iload_n 2) 1 10 := ⟨by decide +kernel, rfl⟩
theorem dX12_sell_10 : q_at cX12_sell 10 (.invokevirtual 110) 3 13 := ⟨by decide +kernel, rfl⟩
theorem dX12_sell_13 : q_at cX12_sell 13 (.ifCond .eq 15) 3 16 := ⟨by decide +kernel, rfl⟩
theorem dX12_sell_16 : q_at cX12_sell 16 (.iload_n 3) 1 17 := ⟨by decide +kernel, rfl⟩
theorem dX12_sell_17 : q_at cX12_sell 17 (.i2l) 1 18 := ⟨by decide +kernel, rfl⟩
theorem dX12_sell_18 : q_at cX12_sell 18 (.lconst 0) 1 19 := ⟨by decide +kernel, rfl⟩
theorem dX12_sell_19 : q_at cX12_sell 19 (.ldc2_w 82) 3 22 := ⟨by decide +kernel, rfl⟩
theorem dX12_sell_22 : q_at cX12_sell 22 (.invokestatic 64) 3 25 := ⟨by decide +kernel, rfl⟩
theorem dX12_sell_25 : q_at cX12_sell 25 (.ifCond .ne 6) 3 28 := ⟨by decide +kernel, rfl⟩
theorem dX12_sell_28 : q_at cX12_sell 28 (.ldc 90) 2 30 := ⟨by decide +kernel, rfl⟩
theorem dX12_sell_30 : q_at cX12_sell 30 (.ireturn) 1 31 := ⟨by decide +kernel, rfl⟩
theorem dX12_sell_31 : q_at cX12_sell 31 (.aload_n 0) 1 32 := ⟨by decide +kernel, rfl⟩
theorem dX12_sell_32 : q_at cX12_sell 32 (.iload_n 1) 1 33 := ⟨by decide +kernel, rfl⟩
theorem dX12_sell_33 : q_at cX12_sell 33 (.invokevirtual 75) 3 36 := ⟨by decide +kernel, rfl⟩
theorem dX12_sell_36 : q_at cX12_sell 36 (.istore 4) 2 38 := ⟨by decide +kernel, rfl⟩
theorem dX12_sell_38 : q_at cX12_sell 38 (.aload_n 0) 1 39 := ⟨by decide +kernel, rfl⟩
theorem dX12_sell_39 : q_at cX12_sell 39 (.getfield 7) 3 42 := ⟨by decide +kernel, rfl⟩
theorem dX12_sell_42 : q_at cX12_sell 42 (.iload 4) 2 44 := ⟨by decide +kernel, rfl⟩
theorem dX12_sell_44 : q_at cX12_sell 44 (.iaload) 1 45 := ⟨by decide +kernel, rfl⟩
theorem dX12_sell_45 : q_at cX12_sell 45 (.iconst 3) 1 46 := ⟨by decide +kernel, rfl⟩
theorem dX12_sell_46 : q_at cX12_sell 46 (.if_icmp .eq 7) 3 49 := ⟨by decide +kernel, rfl⟩
theorem dX12_sell_49 : q_at cX12_sell 49 (.ldc_w 356) 3 52 := ⟨by decide +kernel, rfl⟩
theorem dX12_sell_52 : q_at cX12_sell 52 (.ireturn) 1 53 := ⟨by decide +kernel, rfl⟩
theorem dX12_sell_53 : q_at cX12_sell 53 (.aload_n 0) 1 54 := ⟨by decide +kernel, rfl⟩
theorem dX12_sell_54 : q_at cX12_sell 54 (.getfield 7) 3 57 := ⟨by decide +kernel, rfl⟩
theorem dX12_sell_57 : q_at cX12_sell 57 (.iload 4) 2 59 := ⟨by decide +kernel, rfl⟩
theorem dX12_sell_59 : q_at cX12_sell 59 (.iconst 2) 1 60 := ⟨by decide +kernel, rfl⟩
theorem dX12_sell_60 : q_at cX12_sell 60 (.iadd) 1 61 := ⟨by decide +kernel, rfl⟩
theorem dX12_sell_61 : q_at cX12_sell 61 (.iaload) 1 62 := ⟨by decide +kernel, rfl⟩
theorem dX12_sell_62 : q_at cX12_sell 62 (.aload_n 0) 1 63 := ⟨by decide +kernel, rfl⟩
theorem dX12_sell_63 : q_at cX12_sell 63 (.getfield 7) 3 66 := ⟨by decide +kernel, rfl⟩
theorem dX12_sell_66 : q_at cX12_sell 66 (.iload 4) 2 68 := ⟨by decide +kernel, rfl⟩
theorem dX12_sell_68 : q_at cX12_sell 68 (.iconst 2) 1 69 := ⟨by decide +kernel, rfl⟩
theorem dX12_sell_69 : q_at cX12_sell 69 (.iadd) 1 70 := ⟨by decide +kernel, rfl⟩
theorem dX12_sell_70 : q_at cX12_sell 70 (.iaload) 1 71 := ⟨by decide +kernel, rfl⟩
theorem dX12_sell_71 : q_at cX12_sell 71 (.iload_n 3) 1 72 := ⟨by decide +kernel, rfl⟩
theorem dX12_sell_72 : q_at cX12_sell 72 (.imul) 1 73 := ⟨by decide +kernel, rfl⟩
theorem dX12_sell_73 : q_at cX12_sell 73 (.bipush 100) 2 75 := ⟨by decide +kernel, rfl⟩
theorem dX12_sell_75 : q_at cX12_sell 75 (.idiv) 1 76 := ⟨by decide +kernel, rfl⟩
theorem dX12_sell_76 : q_at cX12_sell 76 (.isub) 1 77 := ⟨by decide +kernel, rfl⟩
theorem dX12_sell_77 : q_at cX12_sell 77 (.istore 5) 2 79 := ⟨by decide +kernel, rfl⟩
theorem dX12_sell_79 : q_at cX12_sell 79 (.aload_n 0) 1 80 := ⟨by decide +kernel, rfl⟩
theorem dX12_sell_80 : q_at cX12_sell 80 (.getfield 7) 3 83 := ⟨by decide +kernel, rfl⟩
theorem dX12_sell_83 : q_at cX12_sell 83 (.iload 4) 2 85 := ⟨by decide +kernel, rfl⟩
theorem dX12_sell_85 : q_at cX12_sell 85 (.bipush 6) 2 87 := ⟨by decide +kernel, rfl⟩
theorem dX12_sell_87 : q_at cX12_sell 87 (.iadd) 1 88 := ⟨by decide +kernel, rfl⟩
theorem dX12_sell_88 : q_at cX12_sell 88 (.iaload) 1 89 := ⟨by decide +kernel, rfl⟩
theorem dX12_sell_89 : q_at cX12_sell 89 (.ifCond .lt 34) 3 92 := ⟨by decide +kernel, rfl⟩
theorem dX12_sell_92 : q_at cX12_sell 92 (.aload_n 0) 1 93 := ⟨by decide +kernel, rfl⟩
theorem dX12_sell_93 : q_at cX12_sell 93 (.getfield 7) 3 96 := ⟨by decide +kernel, rfl⟩
theorem dX12_sell_96 : q_at cX12_sell 96 (.iload 4) 2 98 := ⟨by decide +kernel, rfl⟩
theorem dX12_sell_98 : q_at cX12_sell 98 (.bipush 6) 2 100 := ⟨by decide +kernel, rfl⟩
theorem dX12_sell_100 : q_at cX12_sell 100 (.iadd) 1 101 := ⟨by decide +kernel, rfl⟩
theorem dX12_sell_101 : q_at cX12_sell 101 (.iaload) 1 102 := ⟨by decide +kernel, rfl⟩
theorem dX12_sell_102 : q_at cX12_sell 102 (.iload_n 2) 1 103 := ⟨by decide +kernel, rfl⟩
theorem dX12_sell_103 : q_at cX12_sell 103 (.if_icmp .eq 20) 3 106 := ⟨by decide +kernel, rfl⟩
theorem dX12_sell_106 : q_at cX12_sell 106 (.aload_n 0) 1 107 := ⟨by decide +kernel, rfl⟩
theorem dX12_sell_107 : q_at cX12_sell 107 (.getfield 7) 3 110 := ⟨by decide +kernel, rfl⟩
theorem dX12_sell_110 : q_at cX12_sell 110 (.aload_n 0) 1 111 := ⟨by decide +kernel, rfl⟩
theorem dX12_sell_111 : q_at cX12_sell 111 (.iload_n 2) 1 112 := ⟨by decide +kernel, rfl⟩
theorem dX12_sell_112 : q_at cX12_sell 112 (.invokevirtual 68) 3 115 := ⟨by decide +kernel, rfl⟩
theorem dX12_sell_115 : q_at cX12_sell 115 (.iconst 4) 1 116 := ⟨by decide +kernel, rfl⟩
theorem dX12_sell_116 : q_at cX12_sell 116 (.iadd) 1 117 := ⟨by decide +kernel, rfl⟩
theorem dX12_sell_117 : q_at cX12_sell 117 (.iaload) 1 118 := ⟨by decide +kernel, rfl⟩
theorem dX12_sell_118 : q_at cX12_sell 118 (.iload 5) 2 120 := ⟨by decide +kernel, rfl⟩
theorem dX12_sell_120 : q_at cX12_sell 120 (.if_icmp .ge 7) 3 123 := ⟨by decide +kernel, rfl⟩
theorem dX12_sell_123 : q_at cX12_sell 123 (.ldc_w 346) 3 126 := ⟨by decide +kernel, rfl⟩
theorem dX12_sell_126 : q_at cX12_sell 126 (.ireturn) 1 127 := ⟨by decide +kernel, rfl⟩
theorem dX12_sell_127 : q_at cX12_sell 127 (.aload_n 0) 1 128 := ⟨by decide +kernel, rfl⟩
theorem dX12_sell_128 : q_at cX12_sell 128 (.getfield 7) 3 131 := ⟨by decide +kernel, rfl⟩
theorem dX12_sell_131 : q_at cX12_sell 131 (.aload_n 0) 1 132 := ⟨by decide +kernel, rfl⟩
theorem dX12_sell_132 : q_at cX12_sell 132 (.iload_n 2) 1 133 := ⟨by decide +kernel, rfl⟩
theorem dX12_sell_133 : q_at cX12_sell 133 (.invokevirtual 68) 3 136 := ⟨by decide +kernel, rfl⟩
theorem dX12_sell_136 : q_at cX12_sell 136 (.iconst 4) 1 137 := ⟨by decide +kernel, rfl⟩
theorem dX12_sell_137 : q_at cX12_sell 137 (.iadd) 1 138 := ⟨by decide +kernel, rfl⟩
theorem dX12_sell_138 : q_at cX12_sell 138 (.dup2) 1 139 := ⟨by decide +kernel, rfl⟩
theorem dX12_sell_139 : q_at cX12_sell 139 (.iaload) 1 140 := ⟨by decide +kernel, rfl⟩
theorem dX12_sell_140 : q_at cX12_sell 140 (.iload 5) 2 142 := ⟨by decide +kernel, rfl⟩
theorem dX12_sell_142 : q_at cX12_sell 142 (.isub) 1 143 := ⟨by decide +kernel, rfl⟩
theorem dX12_sell_143 : q_at cX12_sell 143 (.iastore) 1 144 := ⟨by decide +kernel, rfl⟩
theorem dX12_sell_144 : q_at cX12_sell 144 (.aload_n 0) 1 145 := ⟨by decide +kernel, rfl⟩
theorem dX12_sell_145 : q_at cX12_sell 145 (.aload_n 0) 1 146 := ⟨by decide +kernel, rfl⟩
theorem dX12_sell_146 : q_at cX12_sell 146 (.getfield 7) 3 149 := ⟨by decide +kernel, rfl⟩
theorem dX12_sell_149 : q_at cX12_sell 149 (.iload 4) 2 151 := ⟨by decide +kernel, rfl⟩
theorem dX12_sell_151 : q_at cX12_sell 151 (.bipush 6) 2 153 := ⟨by decide +kernel, rfl⟩
theorem dX12_sell_153 : q_at cX12_sell 153 (.iadd) 1 154 := ⟨by decide +kernel, rfl⟩
theorem dX12_sell_154 : q_at cX12_sell 154 (.iaload) 1 155 := ⟨by decide +kernel, rfl⟩
theorem dX12_sell_155 : q_at cX12_sell 155 (.iconst 4) 1 156 := ⟨by decide +kernel, rfl⟩
theorem dX12_sell_156 : q_at cX12_sell 156 (.iload 5) 2 158 := ⟨by decide +kernel, rfl⟩
theorem dX12_sell_158 : q_at cX12_sell 158 (.invokevirtual 350) 3 161 := ⟨by decide +kernel, rfl⟩
theorem dX12_sell_161 : q_at cX12_sell 161 (.aload_n 0) 1 162 := ⟨by decide +kernel, rfl⟩
theorem dX12_sell_162 : q_at cX12_sell 162 (.getfield 7) 3 165 := ⟨by decide +kernel, rfl⟩
theorem dX12_sell_165 : q_at cX12_sell 165 (.iload 4) 2 167 := ⟨by decide +kernel, rfl⟩
theorem dX12_sell_167 : q_at cX12_sell 167 (.bipush 6) 2 169 := ⟨by decide +kernel, rfl⟩
theorem dX12_sell_169 : q_at cX12_sell 169 (.iadd) 1 170 := ⟨by decide +kernel, rfl⟩
theorem dX12_sell_170 : q_at cX12_sell 170 (.iload_n 2) 1 171 := ⟨by decide +kernel, rfl⟩
theorem dX12_sell_171 : q_at cX12_sell 171 (.iastore) 1 172 := ⟨by decide +kernel, rfl⟩
theorem dX12_sell_172 : q_at cX12_sell 172 (.iload 5) 2 174 := ⟨by decide +kernel, rfl⟩
theorem dX12_sell_174 : q_at cX12_sell 174 (.ireturn) 1 175 := ⟨by decide +kernel, rfl⟩
theorem dX12_sells_0 : q_at cX12_sells 0 (.aload_n 0) 1 1 := ⟨by decide +kernel, rfl⟩
theorem dX12_sells_1 : q_at cX12_sells 1 (.iload_n 1) 1 2 := ⟨by decide +kernel, rfl⟩
theorem dX12_sells_2 : q_at cX12_sells 2 (.invokevirtual 99) 3 5 := ⟨by decide +kernel, rfl⟩
theorem dX12_sells_5 : q_at cX12_sells 5 (.ifCond .eq 30) 3 8 := ⟨by decide +kernel, rfl⟩
theorem dX12_sells_8 : q_at cX12_sells 8 (.iload_n 2) 1 9 := ⟨by decide +kernel, rfl⟩
theorem dX12_sells_9 : q_at cX12_sells 9 (.i2l) 1 10 := ⟨by decide +kernel, rfl⟩
theorem dX12_sells_10 : q_at cX12_sells 10 (.lconst 0) 1 11 := ⟨by decide +kernel, rfl⟩
theorem dX12_sells_11 : q_at cX12_sells 11 (.ldc2_w 102) 3 14 := ⟨by decide +kernel, rfl⟩
theorem dX12_sells_14 : q_at cX12_sells 14 (.invokestatic 64) 3 17 := ⟨by decide +kernel, rfl⟩
theorem dX12_sells_17 : q_at cX12_sells 17 (.ifCond .eq 18) 3 20 := ⟨by decide +kernel, rfl⟩
theorem dX12_sells_20 : q_at cX12_sells 20 (.aload_n 0) 1 21 := ⟨by decide +kernel, rfl⟩
theorem dX12_sells_21 : q_at cX12_sells 21 (.getfield 7) 3 24 := ⟨by decide +kernel, rfl⟩
theorem dX12_sells_24 : q_at cX12_sells 24 (.aload_n 0) 1 25 := ⟨by decide +kernel, rfl⟩
theorem dX12_sells_25 : q_at cX12_sells 25 (.iload_n 1) 1 26 := ⟨by decide +kernel, rfl⟩
theorem dX12_sells_26 : q_at cX12_sells 26 (.invokevirtual 72) 3 29 := ⟨by decide +kernel, rfl⟩
theorem dX12_sells_29 : q_at cX12_sells 29 (.iload_n 2) 1 30 := ⟨by decide +kernel, rfl⟩
theorem dX12_sells_30 : q_at cX12_sells 30 (.iadd) 1 31 := ⟨by decide +kernel, rfl⟩
theorem dX12_sells_31 : q_at cX12_sells 31 (.iaload) 1 32 := ⟨by decide +kernel, rfl⟩
theorem dX12_sells_32 : q_at cX12_sells 32 (.goto 5) 3 35 := ⟨by decide +kernel, rfl⟩
theorem dX12_sells_35 : q_at cX12_sells 35 (.ldc 90) 2 37 := ⟨by decide +kernel, rfl⟩
theorem dX12_sells_37 : q_at cX12_sells 37 (.ireturn) 1 38 := ⟨by decide +kernel, rfl⟩
theorem dX12_shelf_0 : q_at cX12_shelf 0 (.iload_n 2) 1 1 := ⟨by decide +kernel, rfl⟩
theorem dX12_shelf_1 : q_at cX12_shelf 1 (.iconst 1) 1 2 := ⟨by decide +kernel, rfl⟩
theorem dX12_shelf_2 : q_at cX12_shelf 2 (.if_icmp .ne 15) 3 5 := ⟨by decide +kernel, rfl⟩
theorem dX12_shelf_5 : q_at cX12_shelf 5 (.iload_n 3) 1 6 := ⟨by decide +kernel, rfl⟩
theorem dX12_shelf_6 : q_at cX12_shelf 6 (.i2l) 1 7 := ⟨by decide +kernel, rfl⟩
theorem dX12_shelf_7 : q_at cX12_shelf 7 (.lconst 1) 1 8 := ⟨by decide +kernel, rfl⟩
theorem dX12_shelf_8 : q_at cX12_shelf 8 (.ldc2_w 82) 3 11 := ⟨by decide +kernel, rfl⟩
theorem dX12_shelf_11 : q_at cX12_shelf 11 (.invokestatic 64) 3 14 := ⟨by decide +kernel, rfl⟩
theorem dX12_shelf_14 : q_at cX12_shelf 14 (.goto 25) 3 17 := ⟨by decide +kernel, rfl⟩
theorem dX12_shelf_17 : q_at cX12_shelf 17 (.iload_n 2) 1 18 := ⟨by decide +kernel, rfl⟩
theorem dX12_shelf_18 : q_at cX12_shelf 18 (.iconst 2) 1 19 := ⟨by decide +kernel, rfl⟩
theorem dX12_shelf_19 : q_at cX12_shelf 19 (.if_icmp .ne 19) 3 22 := ⟨by decide +kernel, rfl⟩
theorem dX12_shelf_22 : q_at cX12_shelf 22 (.iload_n 3) 1 23 := ⟨by decide +kernel, rfl⟩
theorem dX12_shelf_23 : q_at cX12_shelf 23 (.i2l) 1 24 := ⟨by decide +kernel, rfl⟩
theorem dX12_shelf_24 : q_at cX12_shelf 24 (.lconst 0) 1 25 := ⟨by decide +kernel, rfl⟩
theorem dX12_shelf_25 : q_at cX12_shelf 25 (.ldc2_w 96) 3 28 := ⟨by decide +kernel, rfl⟩
theorem dX12_shelf_28 : q_at cX12_shelf 28 (.invokestatic 64) 3 31 := ⟨by decide +kernel, rfl⟩
theorem dX12_shelf_31 : q_at cX12_shelf 31 (.ifCond .eq 7) 3 34 := ⟨by decide +kernel, rfl⟩
theorem dX12_shelf_34 : q_at cX12_shelf 34 (.iconst 1) 1 35 := ⟨by decide +kernel, rfl⟩
theorem dX12_shelf_35 : q_at cX12_shelf 35 (.goto 4) 3 38 := ⟨by decide +kernel, rfl⟩
theorem dX12_shelf_38 : q_at cX12_shelf 38 (.iconst 0) 1 39 := ⟨by decide +kernel, rfl⟩
theorem dX12_shelf_39 : q_at cX12_shelf 39 (.istore 4) 2 41 := ⟨by decide +kernel, rfl⟩
theorem dX12_shelf_41 : q_at cX12_shelf 41 (.aload_n 0) 1 42 := ⟨by decide +kernel, rfl⟩
theorem dX12_shelf_42 : q_at cX12_shelf 42 (.iload_n 1) 1 43 := ⟨by decide +kernel, rfl⟩
theorem dX12_shelf_43 : q_at cX12_shelf 43 (.invokevirtual 99) 3 46 := ⟨by decide +kernel, rfl⟩
theorem dX12_shelf_46 : q_at cX12_shelf 46 (.ifCond .eq 23) 3 49 := ⟨by decide +kernel, rfl⟩
theorem dX12_shelf_49 : q_at cX12_shelf 49 (.iload 4) 2 51 := ⟨by decide +kernel, rfl⟩
theorem dX12_shelf_51 : q_at cX12_shelf 51 (.ifCond .eq 18) 3 54 := ⟨by decide +kernel, rfl⟩
theorem dX12_shelf_54 : q_at cX12_shelf 54 (.aload_n 0) 1 55 := ⟨by decide +kernel, rfl⟩
theorem dX12_shelf_55 : q_at cX12_shelf 55 (.aload_n 0) 1 56 := ⟨by decide +kernel, rfl⟩
theorem dX12_shelf_56 : q_at cX12_shelf 56 (.iload_n 1) 1 57 := ⟨by decide +kernel, rfl⟩
theorem dX12_shelf_57 : q_at cX12_shelf 57 (.invokevirtual 72) 3 60 := ⟨by decide +kernel, rfl⟩
theorem dX12_shelf_60 : q_at cX12_shelf 60 (.iload_n 2) 1 61 := ⟨by decide +kernel, rfl⟩
theorem dX12_shelf_61 : q_at cX12_shelf 61 (.iadd) 1 62 := ⟨by decide +kernel, rfl⟩
theorem dX12_shelf_62 : q_at cX12_shelf 62 (.iload_n 3) 1 63 := ⟨by decide +kernel, rfl⟩
theorem dX12_shelf_63 : q_at cX12_shelf 63 (.invokevirtual 86) 3 66 := ⟨by decide +kernel, rfl⟩
theorem dX12_shelf_66 : q_at cX12_shelf 66 (.goto 5) 3 69 := ⟨by decide +kernel, rfl⟩
theorem dX12_shelf_69 : q_at cX12_shelf 69 (.ldc 90) 2 71 := ⟨by decide +kernel, rfl⟩
theorem dX12_shelf_71 : q_at cX12_shelf 71 (.ireturn) 1 72 := ⟨by decide +kernel, rfl⟩
theorem dX12_stands_0 : q_at cX12_stands 0 (.iconst 0) 1 1 := ⟨by decide +kernel, rfl⟩
theorem dX12_stands_1 : q_at cX12_stands 1 (.istore_n 2) 1 2 := ⟨by decide +kernel, rfl⟩
theorem dX12_stands_2 : q_at cX12_stands 2 (.iconst 0) 1 3 := ⟨by decide +kernel, rfl⟩
theorem dX12_stands_3 : q_at cX12_stands 3 (.istore_n 3) 1 4 := ⟨by decide +kernel, rfl⟩
theorem dX12_stands_4 : q_at cX12_stands 4 (.iload_n 3) 1 5 := ⟨by decide +kernel, rfl⟩
theorem dX12_stands_5 : q_at cX12_stands 5 (.aload_n 0) 1 6 := ⟨by decide +kernel, rfl⟩
theorem dX12_stands_6 : q_at cX12_stands 6 (.getfield 7) 3 9 := ⟨by decide +kernel, rfl⟩
theorem dX12_stands_9 : q_at cX12_stands 9 (.iconst 2) 1 10 := ⟨by decide +kernel, rfl⟩
theorem dX12_stands_10 : q_at cX12_stands 10 (.iaload) 1 11 := ⟨by decide +kernel, rfl⟩
theorem dX12_stands_11 : q_at cX12_stands 11 (.if_icmp .ge 46) 3 14 := ⟨by decide +kernel, rfl⟩
theorem dX12_stands_14 : q_at cX12_stands 14 (.iload_n 2) 1 15 := ⟨by decide +kernel, rfl⟩
theorem dX12_stands_15 : q_at cX12_stands 15 (.iload_n 1) 1 16 := ⟨by decide +kernel, rfl⟩
theorem dX12_stands_16 : q_at cX12_stands 16 (.ifCond .ne 11) 3 19 := ⟨by decide +kernel, rfl⟩
theorem dX12_stands_19 : q_at cX12_stands 19 (.aload_n 0) 1 20 := ⟨by decide +kernel, rfl⟩
theorem dX12_stands_20 : q_at cX12_stands 20 (.iload_n 3) 1 21 := ⟨by decide +kernel, rfl⟩
theorem dX12_stands_21 : q_at cX12_stands 21 (.invokevirtual 118) 3 24 := ⟨by decide +kernel, rfl⟩
theorem dX12_stands_24 : q_at cX12_stands 24 (.goto 25) 3 27 := ⟨by decide +kernel, rfl⟩
theorem dX12_stands_27 : q_at cX12_stands 27 (.aload_n 0) 1 28 := ⟨by decide +kernel, rfl⟩
theorem dX12_stands_28 : q_at cX12_stands 28 (.getfield 7) 3 31 := ⟨by decide +kernel, rfl⟩
theorem dX12_stands_31 : q_at cX12_stands 31 (.aload_n 0) 1 32 := ⟨by decide +kernel, rfl⟩
theorem dX12_stands_32 : q_at cX12_stands 32 (.iload_n 3) 1 33 := ⟨by decide +kernel, rfl⟩
theorem dX12_stands_33 : q_at cX12_stands 33 (.invokevirtual 68) 3 36 := ⟨by decide +kernel, rfl⟩
theorem dX12_stands_36 : q_at cX12_stands 36 (.iload_n 1) 1 37 := ⟨by decide +kernel, rfl⟩
theorem dX12_stands_37 : q_at cX12_stands 37 (.iconst 1) 1 38 := ⟨by decide +kernel, rfl⟩
theorem dX12_stands_38 : q_at cX12_stands 38 (.if_icmp .ne 7) 3 41 := ⟨by decide +kernel, rfl⟩
theorem dX12_stands_41 : q_at cX12_stands 41 (.iconst 3) 1 42 := ⟨by decide +kernel, rfl⟩
theorem dX12_stands_42 : q_at cX12_stands 42 (.goto 5) 3 45 := ⟨by decide +kernel, rfl⟩
theorem dX12_stands_45 : q_at cX12_stands 45 (.bipush 9) 2 47 := ⟨by decide +kernel, rfl⟩
theorem dX12_stands_47 : q_at cX12_stands 47 (.iadd) 1 48 := ⟨by decide +kernel, rfl⟩
theorem dX12_stands_48 : q_at cX12_stands 48 (.iaload) 1 49 := ⟨by decide +kernel, rfl⟩
theorem dX12_stands_49 : q_at cX12_stands 49 (.iadd) 1 50 := ⟨by decide +kernel, rfl⟩
theorem dX12_stands_50 : q_at cX12_stands 50 (.istore_n 2) 1 51 := ⟨by decide +kernel, rfl⟩
theorem dX12_stands_51 : q_at cX12_stands 51 (.iinc 3 1) 3 54 := ⟨by decide +kernel, rfl⟩
theorem dX12_stands_54 : q_at cX12_stands 54 (.goto (-50)) 3 57 := ⟨by decide +kernel, rfl⟩
theorem dX12_stands_57 : q_at cX12_stands 57 (.iload_n 2) 1 58 := ⟨by decide +kernel, rfl⟩
theorem dX12_stands_58 : q_at cX12_stands 58 (.ireturn) 1 59 := ⟨by decide +kernel, rfl⟩
theorem dX12_stopOf_0 : q_at cX12_stopOf 0 (.aload_n 0) 1 1 := ⟨by decide +kernel, rfl⟩
theorem dX12_stopOf_1 : q_at cX12_stopOf 1 (.iconst 1) 1 2 := ⟨by decide +kernel, rfl⟩
theorem dX12_stopOf_2 : q_at cX12_stopOf 2 (.invokevirtual 313) 3 5 := ⟨by decide +kernel, rfl⟩
theorem dX12_stopOf_5 : q_at cX12_stopOf 5 (.istore_n 2) 1 6 := ⟨by decide +kernel, rfl⟩
theorem dX12_stopOf_6 : q_at cX12_stopOf 6 (.aload_n 0) 1 7 := ⟨by decide +kernel, rfl⟩
theorem dX12_stopOf_7 : q_at cX12_stopOf 7 (.getfield 31) 3 10 := ⟨by decide +kernel, rfl⟩
theorem dX12_stopOf_10 : q_at cX12_stopOf 10 (.bipush 101) 2 12 := ⟨by decide +kernel, rfl⟩
theorem dX12_stopOf_12 : q_at cX12_stopOf 12 (.iload_n 1) 1 13 := ⟨by decide +kernel, rfl⟩
theorem dX12_stopOf_13 : q_at cX12_stopOf 13 (.iastore) 1 14 := ⟨by decide +kernel, rfl⟩
theorem dX12_stopOf_14 : q_at cX12_stopOf 14 (.iload_n 2) 1 15 := ⟨by decide +kernel, rfl⟩
theorem dX12_stopOf_15 : q_at cX12_stopOf 15 (.ifCond .ge 9) 3 18 := ⟨by decide +kernel, rfl⟩
theorem dX12_stopOf_18 : q_at cX12_stopOf 18 (.sipush 9999) 3 21 := ⟨by decide +kernel, rfl⟩
theorem dX12_stopOf_21 : q_at cX12_stopOf 21 (.goto 8) 3 24 := ⟨by decide +kernel, rfl⟩
theorem dX12_stopOf_24 : q_at cX12_stopOf 24 (.aload_n 0) 1 25 := ⟨by decide +kernel, rfl⟩
theorem dX12_stopOf_25 : q_at cX12_stopOf 25 (.iload_n 2) 1 26 := ⟨by decide +kernel, rfl⟩
theorem dX12_stopOf_26 : q_at cX12_stopOf 26 (.invokevirtual 322) 3 29 := ⟨by decide +kernel, rfl⟩
theorem dX12_stopOf_29 : q_at cX12_stopOf 29 (.iconst 0) 1 30 := ⟨by decide +kernel, rfl⟩
theorem dX12_stopOf_30 : q_at cX12_stopOf 30 (.sipush 9999) 3 33 := ⟨by decide +kernel, rfl⟩
theorem dX12_stopOf_33 : q_at cX12_stopOf 33 (.invokestatic 325) 3 36 := ⟨by decide +kernel, rfl⟩
theorem dX12_stopOf_36 : q_at cX12_stopOf 36 (.ireturn) 1 37 := ⟨by decide +kernel, rfl⟩
theorem dX12_takes_0 : q_at cX12_takes 0 (.iload_n 3) 1 1 := ⟨by decide +kernel, rfl⟩
theorem dX12_takes_1 : q_at cX12_takes 1 (.ifCond .le 71) 3 4 := ⟨by decide +kernel, rfl⟩
theorem dX12_takes_4 : q_at cX12_takes 4 (.aload_n 0) 1 5 := ⟨by decide +kernel, rfl⟩
theorem dX12_takes_5 : q_at cX12_takes 5 (.iload_n 1) 1 6 := ⟨by decide +kernel, rfl⟩
theorem dX12_takes_6 : q_at cX12_takes 6 (.invokevirtual 68) 3 9 := ⟨by decide +kernel, rfl⟩
theorem dX12_takes_9 : q_at cX12_takes 9 (.istore 4) 2 11 := ⟨by decide +kernel, rfl⟩
theorem dX12_takes_11 : q_at cX12_takes 11 (.aload_n 0) 1 12 := ⟨by decide +kernel, rfl⟩
theorem dX12_takes_12 : q_at cX12_takes 12 (.getfield 7) 3 15 := ⟨by decide +kernel, rfl⟩
theorem dX12_takes_15 : q_at cX12_takes 15 (.aload_n 0) 1 16 := ⟨by decide +kernel, rfl⟩
theorem dX12_takes_16 : q_at cX12_takes 16 (.iload_n 2) 1 17 := ⟨by decide +kernel, rfl⟩
theorem dX12_takes_17 : q_at cX12_takes 17 (.invokevirtual 72) 3 20 := ⟨by decide +kernel, rfl⟩
theorem dX12_takes_20 : q_at cX12_takes 20 (.iconst 2) 1 21 := ⟨by decide +kernel, rfl⟩
theorem dX12_takes_21 : q_at cX12_takes 21 (.iadd) 1 22 := ⟨by decide +kernel, rfl⟩
theorem dX12_takes_22 : q_at cX12_takes 22 (.dup2) 1 23 := ⟨by decide +kernel, rfl⟩
theorem dX12_takes_23 : q_at cX12_takes 23 (.iaload) 1 24 := ⟨by decide +kernel, rfl⟩
theorem dX12_takes_24 : q_at cX12_takes 24 (.iload_n 3) 1 25 := ⟨by decide +kernel, rfl⟩
theorem dX12_takes_25 : q_at cX12_takes 25 (.isub) 1 26 := ⟨by decide +kernel, rfl⟩
theorem dX12_takes_26 : q_at cX12_takes 26 (.iastore) 1 27 := ⟨by decide +kernel, rfl⟩
theorem dX12_takes_27 : q_at cX12_takes 27 (.aload_n 0) 1 28 := ⟨by decide +kernel, rfl⟩
theorem dX12_takes_28 : q_at cX12_takes 28 (.getfield 7) 3 31 := ⟨by decide +kernel, rfl⟩
theorem dX12_takes_31 : q_at cX12_takes 31 (.iload 4) 2 33 := ⟨by decide +kernel, rfl⟩
theorem dX12_takes_33 : q_at cX12_takes 33 (.iconst 3) 1 34 := ⟨by decide +kernel, rfl⟩
theorem dX12_takes_34 : q_at cX12_takes 34 (.iadd) 1 35 := ⟨by decide +kernel, rfl⟩
theorem dX12_takes_35 : q_at cX12_takes 35 (.dup2) 1 36 := ⟨by decide +kernel, rfl⟩
theorem dX12_takes_36 : q_at cX12_takes 36 (.iaload) 1 37 := ⟨by decide +kernel, rfl⟩
theorem dX12_takes_37 : q_at cX12_takes 37 (.iload_n 3) 1 38 := ⟨by decide +kernel, rfl⟩
theorem dX12_takes_38 : q_at cX12_takes 38 (.iadd) 1 39 := ⟨by decide +kernel, rfl⟩
theorem dX12_takes_39 : q_at cX12_takes 39 (.iastore) 1 40 := ⟨by decide +kernel, rfl⟩
theorem dX12_takes_40 : q_at cX12_takes 40 (.aload_n 0) 1 41 := ⟨by decide +kernel, rfl⟩
theorem dX12_takes_41 : q_at cX12_takes 41 (.getfield 7) 3 44 := ⟨by decide +kernel, rfl⟩
theorem dX12_takes_44 : q_at cX12_takes 44 (.iload 4) 2 46 := ⟨by decide +kernel, rfl⟩
theorem dX12_takes_46 : q_at cX12_takes 46 (.bipush 7) 2 48 := ⟨by decide +kernel, rfl⟩
theorem dX12_takes_48 : q_at cX12_takes 48 (.iadd) 1 49 := ⟨by decide +kernel, rfl⟩
theorem dX12_takes_49 : q_at cX12_takes 49 (.dup2) 1 50 := ⟨by decide +kernel, rfl⟩
theorem dX12_takes_50 : q_at cX12_takes 50 (.iaload) 1 51 := ⟨by decide +kernel, rfl⟩
theorem dX12_takes_51 : q_at cX12_takes 51 (.aload_n 0) 1 52 := ⟨by decide +kernel, rfl⟩
theorem dX12_takes_52 : q_at cX12_takes 52 (.iload_n 2) 1 53 := ⟨by decide +kernel, rfl⟩
theorem dX12_takes_53 : q_at cX12_takes 53 (.invokevirtual 132) 3 56 := ⟨by decide +kernel, rfl⟩
theorem dX12_takes_56 : q_at cX12_takes 56 (.ifCond .eq 7) 3 59 := ⟨by decide +kernel, rfl⟩
theorem dX12_takes_59 : q_at cX12_takes 59 (.iconst 0) 1 60 := ⟨by decide +kernel, rfl⟩
theorem dX12_takes_60 : q_at cX12_takes 60 (.goto 4) 3 63 := ⟨by decide +kernel, rfl⟩
theorem dX12_takes_63 : q_at cX12_takes 63 (.iload_n 3) 1 64 := ⟨by decide +kernel, rfl⟩
theorem dX12_takes_64 : q_at cX12_takes 64 (.iadd) 1 65 := ⟨by decide +kernel, rfl⟩
theorem dX12_takes_65 : q_at cX12_takes 65 (.iastore) 1 66 := ⟨by decide +kernel, rfl⟩
theorem dX12_takes_66 : q_at cX12_takes 66 (.aload_n 0) 1 67 := ⟨by decide +kernel, rfl⟩
theorem dX12_takes_67 : q_at cX12_takes 67 (.iload_n 1) 1 68 := ⟨by decide +kernel, rfl⟩
theorem dX12_takes_68 : q_at cX12_takes 68 (.iload_n 2) 1 69 := ⟨by decide +kernel, rfl⟩
theorem dX12_takes_69 : q_at cX12_takes 69 (.invokevirtual 121) 3 72 := ⟨by decide +kernel, rfl⟩
theorem dX12_takes_72 : q_at cX12_takes 72 (.return_) 1 73 := ⟨by decide +kernel, rfl⟩
theorem dX12_told_0 : q_at cX12_told 0 (.aload_n 0) 1 1 := ⟨by decide +kernel, rfl⟩
theorem dX12_told_1 : q_at cX12_told 1 (.iload_n 1) 1 2 := ⟨by decide +kernel, rfl⟩
theorem dX12_told_2 : q_at cX12_told 2 (.invokevirtual 353) 3 5 := ⟨by decide +kernel, rfl⟩
theorem dX12_told_5 : q_at cX12_told 5 (.ifCond .eq 15) 3 8 := ⟨by decide +kernel, rfl⟩
theorem dX12_told_8 : q_at cX12_told 8 (.iload_n 2) 1 9 := ⟨by decide +kernel, rfl⟩
theorem dX12_told_9 : q_at cX12_told 9 (.i2l) 1 10 := ⟨by decide +kernel, rfl⟩
theorem dX12_told_10 : q_at cX12_told 10 (.lconst 0) 1 11 := ⟨by decide +kernel, rfl⟩
theorem dX12_told_11 : q_at cX12_told 11 (.ldc2_w 62) 3 14 := ⟨by decide +kernel, rfl⟩
theorem dX12_told_14 : q_at cX12_told 14 (.invokestatic 64) 3 17 := ⟨by decide +kernel, rfl⟩
theorem dX12_told_17 : q_at cX12_told 17 (.ifCond .ne 6) 3 20 := ⟨by decide +kernel, rfl⟩
theorem dX12_told_20 : q_at cX12_told 20 (.ldc 90) 2 22 := ⟨by decide +kernel, rfl⟩
theorem dX12_told_22 : q_at cX12_told 22 (.ireturn) 1 23 := ⟨by decide +kernel, rfl⟩
theorem dX12_told_23 : q_at cX12_told 23 (.aload_n 0) 1 24 := ⟨by decide +kernel, rfl⟩
theorem dX12_told_24 : q_at cX12_told 24 (.getfield 7) 3 27 := ⟨by decide +kernel, rfl⟩
theorem dX12_told_27 : q_at cX12_told 27 (.aload_n 0) 1 28 := ⟨by decide +kernel, rfl⟩
theorem dX12_told_28 : q_at cX12_told 28 (.iload_n 1) 1 29 := ⟨by decide +kernel, rfl⟩
theorem dX12_told_29 : q_at cX12_told 29 (.invokevirtual 75) 3 32 := ⟨by decide +kernel, rfl⟩
theorem dX12_told_32 : q_at cX12_told 32 (.iload_n 2) 1 33 := ⟨by decide +kernel, rfl⟩
theorem dX12_told_33 : q_at cX12_told 33 (.iadd) 1 34 := ⟨by decide +kernel, rfl⟩
theorem dX12_told_34 : q_at cX12_told 34 (.iaload) 1 35 := ⟨by decide +kernel, rfl⟩
theorem dX12_told_35 : q_at cX12_told 35 (.istore_n 3) 1 36 := ⟨by decide +kernel, rfl⟩
theorem dX12_told_36 : q_at cX12_told 36 (.iload_n 2) 1 37 := ⟨by decide +kernel, rfl⟩
theorem dX12_told_37 : q_at cX12_told 37 (.bipush 6) 2 39 := ⟨by decide +kernel, rfl⟩
theorem dX12_told_39 : q_at cX12_told 39 (.if_icmp .ne 10) 3 42 := ⟨by decide +kernel, rfl⟩
theorem dX12_told_42 : q_at cX12_told 42 (.iload_n 3) 1 43 := ⟨by decide +kernel, rfl⟩
theorem dX12_told_43 : q_at cX12_told 43 (.invokestatic 316) 3 46 := ⟨by decide +kernel, rfl⟩
theorem dX12_told_46 : q_at cX12_told 46 (.goto 4) 3 49 := ⟨by decide +kernel, rfl⟩
theorem dX12_told_49 : q_at cX12_told 49 (.iload_n 3) 1 50 := ⟨by decide +kernel, rfl⟩
theorem dX12_told_50 : q_at cX12_told 50 (.ireturn) 1 51 := ⟨by decide +kernel, rfl⟩
theorem dX12_wageOf_0 : q_at cX12_wageOf 0 (.aload_n 0) 1 1 := ⟨by decide +kernel, rfl⟩
theorem dX12_wageOf_1 : q_at cX12_wageOf 1 (.iconst 0) 1 2 := ⟨by decide +kernel, rfl⟩
theorem dX12_wageOf_2 : q_at cX12_wageOf 2 (.invokevirtual 313) 3 5 := ⟨by decide +kernel, rfl⟩
theorem dX12_wageOf_5 : q_at cX12_wageOf 5 (.istore_n 3) 1 6 := ⟨by decide +kernel, rfl⟩
theorem dX12_wageOf_6 : q_at cX12_wageOf 6 (.aload_n 0) 1 7 := ⟨by decide +kernel, rfl⟩
theorem dX12_wageOf_7 : q_at cX12_wageOf 7 (.getfield 31) 3 10 := ⟨by decide +kernel, rfl⟩
theorem dX12_wageOf_10 : q_at cX12_wageOf 10 (.bipush 116) 2 12 := ⟨by decide +kernel, rfl⟩
theorem dX12_wageOf_12 : q_at cX12_wageOf 12 (.iload_n 1) 1 13 := ⟨by decide +kernel, rfl⟩
theorem dX12_wageOf_13 : q_at cX12_wageOf 13 (.iastore) 1 14 := ⟨by decide +kernel, rfl⟩
theorem dX12_wageOf_14 : q_at cX12_wageOf 14 (.aload_n 0) 1 15 := ⟨by decide +kernel, rfl⟩
theorem dX12_wageOf_15 : q_at cX12_wageOf 15 (.getfield 31) 3 18 := ⟨by decide +kernel, rfl⟩
theorem dX12_wageOf_18 : q_at cX12_wageOf 18 (.bipush 115) 2 20 := ⟨by decide +kernel, rfl⟩
theorem dX12_wageOf_20 : q_at cX12_wageOf 20 (.iload_n 2) 1 21 := ⟨by decide +kernel, rfl⟩
theorem dX12_wageOf_21 : q_at cX12_wageOf 21 (.iastore) 1 22 := ⟨by decide +kernel, rfl⟩
theorem dX12_wageOf_22 : q_at cX12_wageOf 22 (.iload_n 3) 1 23 := ⟨by decide +kernel, rfl⟩
theorem dX12_wageOf_23 : q_at cX12_wageOf 23 (.ifCond .ge 7) 3 26 := ⟨by decide +kernel, rfl⟩
theorem dX12_wageOf_26 : q_at cX12_wageOf 26 (.iload_n 1) 1 27 := ⟨by decide +kernel, rfl⟩
theorem dX12_wageOf_27 : q_at cX12_wageOf 27 (.goto 8) 3 30 := ⟨by decide +kernel, rfl⟩
theorem dX12_wageOf_30 : q_at cX12_wageOf 30 (.aload_n 0) 1 31 := ⟨by decide +kernel, rfl⟩
theorem dX12_wageOf_31 : q_at cX12_wageOf 31 (.iload_n 3) 1 32 := ⟨by decide +kernel, rfl⟩
theorem dX12_wageOf_32 : q_at cX12_wageOf 32 (.invokevirtual 322) 3 35 := ⟨by decide +kernel, rfl⟩
theorem dX12_wageOf_35 : q_at cX12_wageOf 35 (.iconst 0) 1 36 := ⟨by decide +kernel, rfl⟩
theorem dX12_wageOf_36 : q_at cX12_wageOf 36 (.sipush 9999) 3 39 := ⟨by decide +kernel, rfl⟩
theorem dX12_wageOf_39 : q_at cX12_wageOf 39 (.invokestatic 325) 3 42 := ⟨by decide +kernel, rfl⟩
theorem dX12_wageOf_42 : q_at cX12_wageOf 42 (.ireturn) 1 43 := ⟨by decide +kernel, rfl⟩
theorem dX12_why_0 : q_at cX12_why 0 (.iload_n 1) 1 1 := ⟨by decide +kernel, rfl⟩
theorem dX12_why_1 : q_at cX12_why 1 (.i2l) 1 2 := ⟨by decide +kernel, rfl⟩
theorem dX12_why_2 : q_at cX12_why 2 (.lconst 0) 1 3 := ⟨by decide +kernel, rfl⟩
theorem dX12_why_3 : q_at cX12_why 3 (.ldc2_w 311) 3 6 := ⟨by decide +kernel, rfl⟩
theorem dX12_why_6 : q_at cX12_why 6 (.invokestatic 64) 3 9 := ⟨by decide +kernel, rfl⟩
theorem dX12_why_9 : q_at cX12_why 9 (.ifCond .eq 14) 3 12 := ⟨by decide +kernel, rfl⟩
theorem dX12_why_12 : q_at cX12_why 12 (.aload_n 0) 1 13 := ⟨by decide +kernel, rfl⟩
theorem dX12_why_13 : q_at cX12_why 13 (.iload_n 1) 1 14 := ⟨by decide +kernel, rfl⟩
theorem dX12_why_14 : q_at cX12_why 14 (.invokevirtual 313) 3 17 := ⟨by decide +kernel, rfl⟩
theorem dX12_why_17 : q_at cX12_why 17 (.invokestatic 316) 3 20 := ⟨by decide +kernel, rfl⟩
theorem dX12_why_20 : q_at cX12_why 20 (.goto 5) 3 23 := ⟨by decide +kernel, rfl⟩
theorem dX12_why_23 : q_at cX12_why 23 (.ldc 90) 2 25 := ⟨by decide +kernel, rfl⟩
theorem dX12_why_25 : q_at cX12_why 25 (.ireturn) 1 26 := ⟨by decide +kernel, rfl⟩
theorem dX12_bars_0 : q_at cX12_bars 0 (.aload_n 0) 1 1 := ⟨by decide +kernel, rfl⟩
theorem dX12_bars_1 : q_at cX12_bars 1 (.iload_n 1) 1 2 := ⟨by decide +kernel, rfl⟩
theorem dX12_bars_2 : q_at cX12_bars 2 (.iload_n 2) 1 3 := ⟨by decide +kernel, rfl⟩
theorem dX12_bars_3 : q_at cX12_bars 3 (.bipush 12) 2 5 := ⟨by decide +kernel, rfl⟩
theorem dX12_bars_5 : q_at cX12_bars 5 (.idiv) 1 6 := ⟨by decide +kernel, rfl⟩
theorem dX12_bars_6 : q_at cX12_bars 6 (.iload_n 2) 1 7 := ⟨by decide +kernel, rfl⟩
theorem dX12_bars_7 : q_at cX12_bars 7 (.iconst 3) 1 8 := ⟨by decide +kernel, rfl⟩
theorem dX12_bars_8 : q_at cX12_bars 8 (.idiv) 1 9 := ⟨by decide +kernel, rfl⟩
theorem dX12_bars_9 : q_at cX12_bars 9 (.iconst 4) 1 10 := ⟨by decide +kernel, rfl⟩
theorem dX12_bars_10 : q_at cX12_bars 10 (.irem) 1 11 := ⟨by decide +kernel, rfl⟩
theorem dX12_bars_11 : q_at cX12_bars 11 (.iload_n 2) 1 12 := ⟨by decide +kernel, rfl⟩
theorem dX12_bars_12 : q_at cX12_bars 12 (.iconst 3) 1 13 := ⟨by decide +kernel, rfl⟩
theorem dX12_bars_13 : q_at cX12_bars 13 (.irem) 1 14 := ⟨by decide +kernel, rfl⟩
theorem dX12_bars_14 : q_at cX12_bars 14 (.invokevirtual 341) 3 17 := ⟨by decide +kernel, rfl⟩
theorem dX12_bars_17 : q_at cX12_bars 17 (.ifCond .eq 7) 3 20 := ⟨by decide +kernel, rfl⟩
theorem dX12_bars_20 : q_at cX12_bars 20 (.iconst 1) 1 21 := ⟨by decide +kernel, rfl⟩
theorem dX12_bars_21 : q_at cX12_bars 21 (.goto 4) 3 24 := ⟨by decide +kernel, rfl⟩
theorem dX12_bars_24 : q_at cX12_bars 24 (.iconst 0) 1 25 := ⟨by decide +kernel, rfl⟩
theorem dX12_bars_25 : q_at cX12_bars 25 (.ireturn) 1 26 := ⟨by decide +kernel, rfl⟩
theorem dX12_buys_0 : q_at cX12_buys 0 (.aload_n 0) 1 1 := ⟨by decide +kernel, rfl⟩
theorem dX12_buys_1 : q_at cX12_buys 1 (.iload_n 1) 1 2 := ⟨by decide +kernel, rfl⟩
theorem dX12_buys_2 : q_at cX12_buys 2 (.invokevirtual 68) 3 5 := ⟨by decide +kernel, rfl⟩
theorem dX12_buys_5 : q_at cX12_buys 5 (.istore_n 2) 1 6 := ⟨by decide +kernel, rfl⟩
theorem dX12_buys_6 : q_at cX12_buys 6 (.iconst 0) 1 7 := ⟨by decide +kernel, rfl⟩
theorem dX12_buys_7 : q_at cX12_buys 7 (.istore_n 3) 1 8 := ⟨by decide +kernel, rfl⟩
theorem dX12_buys_8 : q_at cX12_buys 8 (.iload_n 3) 1 9 := ⟨by decide +kernel, rfl⟩
theorem dX12_buys_9 : q_at cX12_buys 9 (.aload_n 0) 1 10 := ⟨by decide +kernel, rfl⟩
theorem dX12_buys_10 : q_at cX12_buys 10 (.getfield 7) 3 13 := ⟨by decide +kernel, rfl⟩
theorem dX12_buys_13 : q_at cX12_buys 13 (.iconst 1) 1 14 := ⟨by decide +kernel, rfl⟩
theorem dX12_buys_14 : q_at cX12_buys 14 (.iaload) 1 15 := ⟨by decide +kernel, rfl⟩
theorem dX12_buys_15 : q_at cX12_buys 15 (.if_icmp .ge 67) 3 18 := ⟨by decide +kernel, rfl⟩
theorem dX12_buys_18 : q_at cX12_buys 18 (.aload_n 0) 1 19 := ⟨by decide +kernel, rfl⟩
theorem dX12_buys_19 : q_at cX12_buys 19 (.iload_n 3) 1 20 := ⟨by decide +kernel, rfl⟩
theorem dX12_buys_20 : q_at cX12_buys 20 (.invokevirtual 132) 3 23 := ⟨by decide +kernel, rfl⟩
theorem dX12_buys_23 : q_at cX12_buys 23 (.ifCond .ne 53) 3 26 := ⟨by decide +kernel, rfl⟩
theorem dX12_buys_26 : q_at cX12_buys 26 (.aload_n 0) 1 27 := ⟨by decide +kernel, rfl⟩
theorem dX12_buys_27 : q_at cX12_buys 27 (.iload_n 1) 1 28 := ⟨by decide +kernel, rfl⟩
theorem dX12_buys_28 : q_at cX12_buys 28 (.iload_n 3) 1 29 := ⟨by decide +kernel, rfl⟩
theorem dX12_buys_29 : q_at cX12_buys 29 (.aload_n 0) 1 30 := ⟨by decide +kernel, rfl⟩
theorem dX12_buys_30 : q_at cX12_buys 30 (.getfield 7) 3 33 := ⟨by decide +kernel, rfl⟩
theorem dX12_buys_33 : q_at cX12_buys 33 (.iload_n 2) 1 34 := ⟨by decide +kernel, rfl⟩
theorem dX12_buys_34 : q_at cX12_buys 34 (.iconst 5) 1 35 := ⟨by decide +kernel, rfl⟩
theorem dX12_buys_35 : q_at cX12_buys 35 (.iadd) 1 36 := ⟨by decide +kernel, rfl⟩
theorem dX12_buys_36 : q_at cX12_buys 36 (.iaload) 1 37 := ⟨by decide +kernel, rfl⟩
theorem dX12_buys_37 : q_at cX12_buys 37 (.invokevirtual 141) 3 40 := ⟨by decide +kernel, rfl⟩
theorem dX12_buys_40 : q_at cX12_buys 40 (.istore 4) 2 42 := ⟨by decide +kernel, rfl⟩
theorem dX12_buys_42 : q_at cX12_buys 42 (.aload_n 0) 1 43 := ⟨by decide +kernel, rfl⟩
theorem dX12_buys_43 : q_at cX12_buys 43 (.getfield 7) 3 46 := ⟨by decide +kernel, rfl⟩
theorem dX12_buys_46 : q_at cX12_buys 46 (.iload_n 2) 1 47 := ⟨by decide +kernel, rfl⟩
theorem dX12_buys_47 : q_at cX12_buys 47 (.iconst 5) 1 48 := ⟨by decide +kernel, rfl⟩
theorem dX12_buys_48 : q_at cX12_buys 48 (.iadd) 1 49 := ⟨by decide +kernel, rfl⟩
theorem dX12_buys_49 : q_at cX12_buys 49 (.dup2) 1 50 := ⟨by decide +kernel, rfl⟩
theorem dX12_buys_50 : q_at cX12_buys 50 (.iaload) 1 51 := ⟨by decide +kernel, rfl⟩
theorem dX12_buys_51 : q_at cX12_buys 51 (.iload 4) 2 53 := ⟨by decide +kernel, rfl⟩
theorem dX12_buys_53 : q_at cX12_buys 53 (.aload_n 0) 1 54 := ⟨by decide +kernel, rfl⟩
theorem dX12_buys_54 : q_at cX12_buys 54 (.getfield 7) 3 57 := ⟨by decide +kernel, rfl⟩
theorem dX12_buys_57 : q_at cX12_buys 57 (.aload_n 0) 1 58 := ⟨by decide +kernel, rfl⟩
theorem dX12_buys_58 : q_at cX12_buys 58 (.iload_n 3) 1 59 := ⟨by decide +kernel, rfl⟩
theorem dX12_buys_59 : q_at cX12_buys 59 (.invokevirtual 72) 3 62 := ⟨by decide +kernel, rfl⟩
theorem dX12_buys_62 : q_at cX12_buys 62 (.iconst 1) 1 63 := ⟨by decide +kernel, rfl⟩
theorem dX12_buys_63 : q_at cX12_buys 63 (.iadd) 1 64 := ⟨by decide +kernel, rfl⟩
theorem dX12_buys_64 : q_at cX12_buys 64 (.iaload) 1 65 := ⟨by decide +kernel, rfl⟩
theorem dX12_buys_65 : q_at cX12_buys 65 (.imul) 1 66 := ⟨by decide +kernel, rfl⟩
theorem dX12_buys_66 : q_at cX12_buys 66 (.isub) 1 67 := ⟨by decide +kernel, rfl⟩
theorem dX12_buys_67 : q_at cX12_buys 67 (.iastore) 1 68 := ⟨by decide +kernel, rfl⟩
theorem dX12_buys_68 : q_at cX12_buys 68 (.aload_n 0) 1 69 := ⟨by decide +kernel, rfl⟩
theorem dX12_buys_69 : q_at cX12_buys 69 (.iload_n 1) 1 70 := ⟨by decide +kernel, rfl⟩
theorem dX12_buys_70 : q_at cX12_buys 70 (.iload_n 3) 1 71 := ⟨by decide +kernel, rfl⟩
theorem dX12_buys_71 : q_at cX12_buys 71 (.iload 4) 2 73 := ⟨by decide +kernel, rfl⟩
theorem dX12_buys_73 : q_at cX12_buys 73 (.invokevirtual 145) 3 76 := ⟨by decide +kernel, rfl⟩
theorem dX12_buys_76 : q_at cX12_buys 76 (.iinc 3 1) 3 79 := ⟨by decide +kernel, rfl⟩
theorem dX12_buys_79 : q_at cX12_buys 79 (.goto (-71)) 3 82 := ⟨by decide +kernel, rfl⟩
theorem dX12_buys_82 : q_at cX12_buys 82 (.aload_n 0) 1 83 := ⟨by decide +kernel, rfl⟩
theorem dX12_buys_83 : q_at cX12_buys 83 (.iload_n 1) 1 84 := ⟨by decide +kernel, rfl⟩
theorem dX12_buys_84 : q_at cX12_buys 84 (.invokevirtual 135) 3 87 := ⟨by decide +kernel, rfl⟩
theorem dX12_buys_87 : q_at cX12_buys 87 (.ifCond .le 11) 3 90 := ⟨by decide +kernel, rfl⟩
theorem dX12_buys_90 : q_at cX12_buys 90 (.aload_n 0) 1 91 := ⟨by decide +kernel, rfl⟩
theorem dX12_buys_91 : q_at cX12_buys 91 (.iload_n 1) 1 92 := ⟨by decide +kernel, rfl⟩
theorem dX12_buys_92 : q_at cX12_buys 92 (.invokevirtual 149) 3 95 := ⟨by decide +kernel, rfl⟩
theorem dX12_buys_95 : q_at cX12_buys 95 (.goto 4) 3 98 := ⟨by decide +kernel, rfl⟩
theorem dX12_buys_98 : q_at cX12_buys 98 (.iconst (-1)) 1 99 := ⟨by decide +kernel, rfl⟩
theorem dX12_buys_99 : q_at cX12_buys 99 (.istore_n 3) 1 100 := ⟨by decide +kernel, rfl⟩
theorem dX12_buys_100 : q_at cX12_buys 100 (.iload_n 3) 1 101 := ⟨by decide +kernel, rfl⟩
theorem dX12_buys_101 : q_at cX12_buys 101 (.ifCond .lt 88) 3 104 := ⟨by decide +kernel, rfl⟩
theorem dX12_buys_104 : q_at cX12_buys 104 (.aload_n 0) 1 105 := ⟨by decide +kernel, rfl⟩
theorem dX12_buys_105 : q_at cX12_buys 105 (.iload_n 1) 1 106 := ⟨by decide +kernel, rfl⟩
theorem dX12_buys_106 : q_at cX12_buys 106 (.iload_n 3) 1 107 := ⟨by decide +kernel, rfl⟩
theorem dX12_buys_107 : q_at cX12_buys 107 (.aload_n 0) 1 108 := ⟨by decide +kernel, rfl⟩
theorem dX12_buys_108 : q_at cX12_buys 108 (.getfield 7) 3 111 := ⟨by decide +kernel, rfl⟩
theorem dX12_buys_111 : q_at cX12_buys 111 (.iload_n 2) 1 112 := ⟨by decide +kernel, rfl⟩
theorem dX12_buys_112 : q_at cX12_buys 112 (.iconst 4) 1 113 := ⟨by decide +kernel, rfl⟩
theorem dX12_buys_113 : q_at cX12_buys 113 (.iadd) 1 114 := ⟨by decide +kernel, rfl⟩
theorem dX12_buys_114 : q_at cX12_buys 114 (.iaload) 1 115 := ⟨by decide +kernel, rfl⟩
theorem dX12_buys_115 : q_at cX12_buys 115 (.aload_n 0) 1 116 := ⟨by decide +kernel, rfl⟩
theorem dX12_buys_116 : q_at cX12_buys 116 (.getfield 7) 3 119 := ⟨by decide +kernel, rfl⟩
theorem dX12_buys_119 : q_at cX12_buys 119 (.aload_n 0) 1 120 := ⟨by decide +kernel, rfl⟩
theorem dX12_buys_120 : q_at cX12_buys 120 (.iload_n 3) 1 121 := ⟨by decide +kernel, rfl⟩
theorem dX12_buys_121 : q_at cX12_buys 121 (.invokevirtual 72) 3 124 := ⟨by decide +kernel, rfl⟩
theorem dX12_buys_124 : q_at cX12_buys 124 (.iconst 3) 1 125 := ⟨by decide +kernel, rfl⟩
theorem dX12_buys_125 : q_at cX12_buys 125 (.iadd) 1 126 := ⟨by decide +kernel, rfl⟩
theorem dX12_buys_126 : q_at cX12_buys 126 (.iaload) 1 127 := ⟨by decide +kernel, rfl⟩
theorem dX12_buys_127 : q_at cX12_buys 127 (.isub) 1 128 := ⟨by decide +kernel, rfl⟩
theorem dX12_buys_128 : q_at cX12_buys 128 (.invokevirtual 141) 3 131 := ⟨by decide +kernel, rfl⟩
theorem dX12_buys_131 : q_at cX12_buys 131 (.istore 4) 2 133 := ⟨by decide +kernel, rfl⟩
theorem dX12_buys_133 : q_at cX12_buys 133 (.aload_n 0) 1 134 := ⟨by decide +kernel, rfl⟩
theorem dX12_buys_134 : q_at cX12_buys 134 (.getfield 7) 3 137 := ⟨by decide +kernel, rfl⟩
theorem dX12_buys_137 : q_at cX12_buys 137 (.iload_n 2) 1 138 := ⟨by decide +kernel, rfl⟩
theorem dX12_buys_138 : q_at cX12_buys 138 (.iconst 4) 1 139 := ⟨by decide +kernel, rfl⟩
theorem dX12_buys_139 : q_at cX12_buys 139 (.iadd) 1 140 := ⟨by decide +kernel, rfl⟩
theorem dX12_buys_140 : q_at cX12_buys 140 (.dup2) 1 141 := ⟨by decide +kernel, rfl⟩
theorem dX12_buys_141 : q_at cX12_buys 141 (.iaload) 1 142 := ⟨by decide +kernel, rfl⟩
theorem dX12_buys_142 : q_at cX12_buys 142 (.iload 4) 2 144 := ⟨by decide +kernel, rfl⟩
theorem dX12_buys_144 : q_at cX12_buys 144 (.ifCond .le 34) 3 147 := ⟨by decide +kernel, rfl⟩
theorem dX12_buys_147 : q_at cX12_buys 147 (.aload_n 0) 1 148 := ⟨by decide +kernel, rfl⟩
theorem dX12_buys_148 : q_at cX12_buys 148 (.getfield 7) 3 151 := ⟨by decide +kernel, rfl⟩
theorem dX12_buys_151 : q_at cX12_buys 151 (.aload_n 0) 1 152 := ⟨by decide +kernel, rfl⟩
theorem dX12_buys_152 : q_at cX12_buys 152 (.iload_n 3) 1 153 := ⟨by decide +kernel, rfl⟩
theorem dX12_buys_153 : q_at cX12_buys 153 (.invokevirtual 72) 3 156 := ⟨by decide +kernel, rfl⟩
theorem dX12_buys_156 : q_at cX12_buys 156 (.iconst 3) 1 157 := ⟨by decide +kernel, rfl⟩
theorem dX12_buys_157 : q_at cX12_buys 157 (.iadd) 1 158 := ⟨by decide +kernel, rfl⟩
theorem dX12_buys_158 : q_at cX12_buys 158 (.iaload) 1 159 := ⟨by decide +kernel, rfl⟩
theorem dX12_buys_159 : q_at cX12_buys 159 (.iload 4) 2 161 := ⟨by decide +kernel, rfl⟩
theorem dX12_buys_161 : q_at cX12_buys 161 (.aload_n 0) 1 162 := ⟨by decide +kernel, rfl⟩
theorem dX12_buys_162 : q_at cX12_buys 162 (.getfield 7) 3 165 := ⟨by decide +kernel, rfl⟩
theorem dX12_buys_165 : q_at cX12_buys 165 (.aload_n 0) 1 166 := ⟨by decide +kernel, rfl⟩
theorem dX12_buys_166 : q_at cX12_buys 166 (.iload_n 3) 1 167 := ⟨by decide +kernel, rfl⟩
theorem dX12_buys_167 : q_at cX12_buys 167 (.invokevirtual 72) 3 170 := ⟨by decide +kernel, rfl⟩
theorem dX12_buys_170 : q_at cX12_buys 170 (.iconst 1) 1 171 := ⟨by decide +kernel, rfl⟩
theorem dX12_buys_171 : q_at cX12_buys 171 (.iadd) 1 172 := ⟨by decide +kernel, rfl⟩
theorem dX12_buys_172 : q_at cX12_buys 172 (.iaload) 1 173 := ⟨by decide +kernel, rfl⟩
theorem dX12_buys_173 : q_at cX12_buys 173 (.imul) 1 174 := ⟨by decide +kernel, rfl⟩
theorem dX12_buys_174 : q_at cX12_buys 174 (.iadd) 1 175 := ⟨by decide +kernel, rfl⟩
theorem dX12_buys_175 : q_at cX12_buys 175 (.goto 4) 3 178 := ⟨by decide +kernel, rfl⟩
theorem dX12_buys_178 : q_at cX12_buys 178 (.iconst 0) 1 179 := ⟨by decide +kernel, rfl⟩
theorem dX12_buys_179 : q_at cX12_buys 179 (.isub) 1 180 := ⟨by decide +kernel, rfl⟩
theorem dX12_buys_180 : q_at cX12_buys 180 (.iastore) 1 181 := ⟨by decide +kernel, rfl⟩
theorem dX12_buys_181 : q_at cX12_buys 181 (.aload_n 0) 1 182 := ⟨by decide +kernel, rfl⟩
theorem dX12_buys_182 : q_at cX12_buys 182 (.iload_n 1) 1 183 := ⟨by decide +kernel, rfl⟩
theorem dX12_buys_183 : q_at cX12_buys 183 (.iload_n 3) 1 184 := ⟨by decide +kernel, rfl⟩
theorem dX12_buys_184 : q_at cX12_buys 184 (.iload 4) 2 186 := ⟨by decide +kernel, rfl⟩
theorem dX12_buys_186 : q_at cX12_buys 186 (.invokevirtual 145) 3 189 := ⟨by decide +kernel, rfl⟩
theorem dX12_buys_189 : q_at cX12_buys 189 (.iconst 0) 1 190 := ⟨by decide +kernel, rfl⟩
theorem dX12_buys_190 : q_at cX12_buys 190 (.istore 4) 2 192 := ⟨by decide +kernel, rfl⟩
theorem dX12_buys_192 : q_at cX12_buys 192 (.iload 4) 2 194 := ⟨by decide +kernel, rfl⟩
theorem dX12_buys_194 : q_at cX12_buys 194 (.aload_n 0) 1 195 := ⟨by decide +kernel, rfl⟩
theorem dX12_buys_195 : q_at cX12_buys 195 (.getfield 7) 3 198 := ⟨by decide +kernel, rfl⟩
theorem dX12_buys_198 : q_at cX12_buys 198 (.iconst 1) 1 199 := ⟨by decide +kernel, rfl⟩
theorem dX12_buys_199 : q_at cX12_buys 199 (.iaload) 1 200 := ⟨by decide +kernel, rfl⟩
theorem dX12_buys_200 : q_at cX12_buys 200 (.if_icmp .ge 88) 3 203 := ⟨by decide +kernel, rfl⟩
theorem dX12_buys_203 : q_at cX12_buys 203 (.aload_n 0) 1 204 := ⟨by decide +kernel, rfl⟩
theorem dX12_buys_204 : q_at cX12_buys 204 (.iload 4) 2 206 := ⟨by decide +kernel, rfl⟩
theorem dX12_buys_206 : q_at cX12_buys 206 (.invokevirtual 132) 3 209 := ⟨by decide +kernel, rfl⟩
theorem dX12_buys_209 : q_at cX12_buys 209 (.ifCond .ne 73) 3 212 := ⟨by decide +kernel, rfl⟩
theorem dX12_buys_212 : q_at cX12_buys 212 (.aload_n 0) 1 213 := ⟨by decide +kernel, rfl⟩
theorem dX12_buys_213 : q_at cX12_buys 213 (.iload_n 1) 1 214 := ⟨by decide +kernel, rfl⟩
theorem dX12_buys_214 : q_at cX12_buys 214 (.iload 4) 2 216 := ⟨by decide +kernel, rfl⟩
theorem dX12_buys_216 : q_at cX12_buys 216 (.aload_n 0) 1 217 := ⟨by decide +kernel, rfl⟩
theorem dX12_buys_217 : q_at cX12_buys 217 (.getfield 7) 3 220 := ⟨by decide +kernel, rfl⟩
theorem dX12_buys_220 : q_at cX12_buys 220 (.bipush 7) 2 222 := ⟨by decide +kernel, rfl⟩
theorem dX12_buys_222 : q_at cX12_buys 222 (.iaload) 1 223 := ⟨by decide +kernel, rfl⟩
theorem dX12_buys_223 : q_at cX12_buys 223 (.aload_n 0) 1 224 := ⟨by decide +kernel, rfl⟩
theorem dX12_buys_224 : q_at cX12_buys 224 (.iload_n 1) 1 225 := ⟨by decide +kernel, rfl⟩
theorem dX12_buys_225 : q_at cX12_buys 225 (.invokevirtual 118) 3 228 := ⟨by decide +kernel, rfl⟩
theorem dX12_buys_228 : q_at cX12_buys 228 (.isub) 1 229 := ⟨by decide +kernel, rfl⟩
theorem dX12_buys_229 : q_at cX12_buys 229 (.invokevirtual 141) 3 232 := ⟨by decide +kernel, rfl⟩
theorem dX12_buys_232 : q_at cX12_buys 232 (.istore 5) 2 234 := ⟨by decide +kernel, rfl⟩
theorem dX12_buys_234 : q_at cX12_buys 234 (.aload_n 0) 1 235 := ⟨by decide +kernel, rfl⟩
theorem dX12_buys_235 : q_at cX12_buys 235 (.getfield 7) 3 238 := ⟨by decide +kernel, rfl⟩
theorem dX12_buys_238 : q_at cX12_buys 238 (.aload_n 0) 1 239 := ⟨by decide +kernel, rfl⟩
theorem dX12_buys_239 : q_at cX12_buys 239 (.aload_n 0) 1 240 := ⟨by decide +kernel, rfl⟩
theorem dX12_buys_240 : q_at cX12_buys 240 (.getfield 7) 3 243 := ⟨by decide +kernel, rfl⟩
theorem dX12_buys_243 : q_at cX12_buys 243 (.iload_n 2) 1 244 := ⟨by decide +kernel, rfl⟩
theorem dX12_buys_244 : q_at cX12_buys 244 (.bipush 11) 2 246 := ⟨by decide +kernel, rfl⟩
theorem dX12_buys_246 : q_at cX12_buys 246 (.iadd) 1 247 := ⟨by decide +kernel, rfl⟩
theorem dX12_buys_247 : q_at cX12_buys 247 (.iaload) 1 248 := ⟨by decide +kernel, rfl⟩
theorem dX12_buys_248 : q_at cX12_buys 248 (.invokevirtual 75) 3 251 := ⟨by decide +kernel, rfl⟩
theorem dX12_buys_251 : q_at cX12_buys 251 (.iconst 2) 1 252 := ⟨by decide +kernel, rfl⟩
theorem dX12_buys_252 : q_at cX12_buys 252 (.iadd) 1 253 := ⟨by decide +kernel, rfl⟩
theorem dX12_buys_253 : q_at cX12_buys 253 (.dup2) 1 254 := ⟨by decide +kernel, rfl⟩
theorem dX12_buys_254 : q_at cX12_buys 254 (.iaload) 1 255 := ⟨by decide +kernel, rfl⟩
theorem dX12_buys_255 : q_at cX12_buys 255 (.iload 5) 2 257 := ⟨by decide +kernel, rfl⟩
theorem dX12_buys_257 : q_at cX12_buys 257 (.aload_n 0) 1 258 := ⟨by decide +kernel, rfl⟩
theorem dX12_buys_258 : q_at cX12_buys 258 (.getfield 7) 3 261 := ⟨by decide +kernel, rfl⟩
theorem dX12_buys_261 : q_at cX12_buys 261 (.aload_n 0) 1 262 := ⟨by decide +kernel, rfl⟩
theorem dX12_buys_262 : q_at cX12_buys 262 (.iload 4) 2 264 := ⟨by decide +kernel, rfl⟩
theorem dX12_buys_264 : q_at cX12_buys 264 (.invokevirtual 72) 3 267 := ⟨by decide +kernel, rfl⟩
theorem dX12_buys_267 : q_at cX12_buys 267 (.iconst 1) 1 268 := ⟨by decide +kernel, rfl⟩
theorem dX12_buys_268 : q_at cX12_buys 268 (.iadd) 1 269 := ⟨by decide +kernel, rfl⟩
theorem dX12_buys_269 : q_at cX12_buys 269 (.iaload) 1 270 := ⟨by decide +kernel, rfl⟩
theorem dX12_buys_270 : q_at cX12_buys 270 (.imul) 1 271 := ⟨by decide +kernel, rfl⟩
theorem dX12_buys_271 : q_at cX12_buys 271 (.iadd) 1 272 := ⟨by decide +kernel, rfl⟩
theorem dX12_buys_272 : q_at cX12_buys 272 (.iastore) 1 273 := ⟨by decide +kernel, rfl⟩
theorem dX12_buys_273 : q_at cX12_buys 273 (.aload_n 0) 1 274 := ⟨by decide +kernel, rfl⟩
theorem dX12_buys_274 : q_at cX12_buys 274 (.iload_n 1) 1 275 := ⟨by decide +kernel, rfl⟩
theorem dX12_buys_275 : q_at cX12_buys 275 (.iload 4) 2 277 := ⟨by decide +kernel, rfl⟩
theorem dX12_buys_277 : q_at cX12_buys 277 (.iload 5) 2 279 := ⟨by decide +kernel, rfl⟩
theorem dX12_buys_279 : q_at cX12_buys 279 (.invokevirtual 145) 3 282 := ⟨by decide +kernel, rfl⟩
theorem dX12_buys_282 : q_at cX12_buys 282 (.iinc 4 1) 3 285 := ⟨by decide +kernel, rfl⟩
theorem dX12_buys_285 : q_at cX12_buys 285 (.goto (-93)) 3 288 := ⟨by decide +kernel, rfl⟩
theorem dX12_buys_288 : q_at cX12_buys 288 (.return_) 1 289 := ⟨by decide +kernel, rfl⟩
theorem dX12_coinOf_0 : q_at cX12_coinOf 0 (.aload_n 0) 1 1 := ⟨by decide +kernel, rfl⟩
theorem dX12_coinOf_1 : q_at cX12_coinOf 1 (.getfield 331) 3 4 := ⟨by decide +kernel, rfl⟩
theorem dX12_coinOf_4 : q_at cX12_coinOf 4 (.ifCond .eq 8) 3 7 := ⟨by decide +kernel, rfl⟩
theorem dX12_coinOf_7 : q_at cX12_coinOf 7 (.bipush 100) 2 9 := ⟨by decide +kernel, rfl⟩
theorem dX12_coinOf_9 : q_at cX12_coinOf 9 (.goto 12) 3 12 := ⟨by decide +kernel, rfl⟩
theorem dX12_coinOf_12 : q_at cX12_coinOf 12 (.aload_n 0) 1 13 := ⟨by decide +kernel, rfl⟩
theorem dX12_coinOf_13 : q_at cX12_coinOf 13 (.iload_n 1) 1 14 := ⟨by decide +kernel, rfl⟩
theorem dX12_coinOf_14 : q_at cX12_coinOf 14 (.aload_n 0) 1 15 := ⟨by decide +kernel, rfl⟩
theorem dX12_coinOf_15 : q_at cX12_coinOf 15 (.invokevirtual 184) 3 18 := ⟨by decide +kernel, rfl⟩
theorem dX12_coinOf_18 : q_at cX12_coinOf 18 (.invokevirtual 335) 3 21 := ⟨by decide +kernel, rfl⟩
theorem dX12_coinOf_21 : q_at cX12_coinOf 21 (.ireturn) 1 22 := ⟨by decide +kernel, rfl⟩
theorem dX12_count_0 : q_at cX12_count 0 (.iconst 0) 1 1 := ⟨by decide +kernel, rfl⟩
theorem dX12_count_1 : q_at cX12_count 1 (.istore_n 2) 1 2 := ⟨by decide +kernel, rfl⟩
theorem dX12_count_2 : q_at cX12_count 2 (.iload_n 1) 1 3 := ⟨by decide +kernel, rfl⟩
theorem dX12_count_3 : q_at cX12_count 3 (.tableswitch 269 0 14 #[73, 80, 87, 93, 100, 143, 187, 194, 201, 209, 214, 219, 226, 231, 231]) 73 76 := ⟨by decide +kernel, rfl⟩
theorem dX12_count_76 : q_at cX12_count 76 (.aload_n 0) 1 77 := ⟨by decide +kernel, rfl⟩
theorem dX12_count_77 : q_at cX12_count 77 (.getfield 7) 3 80 := ⟨by decide +kernel, rfl⟩
theorem dX12_count_80 : q_at cX12_count 80 (.iconst 1) 1 81 := ⟨by decide +kernel, rfl⟩
theorem dX12_count_81 : q_at cX12_count 81 (.iaload) 1 82 := ⟨by decide +kernel, rfl⟩
theorem dX12_count_82 : q_at cX12_count 82 (.ireturn) 1 83 := ⟨by decide +kernel, rfl⟩
theorem dX12_count_83 : q_at cX12_count 83 (.aload_n 0) 1 84 := ⟨by decide +kernel, rfl⟩
theorem dX12_count_84 : q_at cX12_count 84 (.getfield 7) 3 87 := ⟨by decide +kernel, rfl⟩
theorem dX12_count_87 : q_at cX12_count 87 (.iconst 2) 1 88 := ⟨by decide +kernel, rfl⟩
theorem dX12_count_88 : q_at cX12_count 88 (.iaload) 1 89 := ⟨by decide +kernel, rfl⟩
theorem dX12_count_89 : q_at cX12_count 89 (.ireturn) 1 90 := ⟨by decide +kernel, rfl⟩
theorem dX12_count_90 : q_at cX12_count 90 (.aload_n 0) 1 91 := ⟨by decide +kernel, rfl⟩
theorem dX12_count_91 : q_at cX12_count 91 (.iconst 2) 1 92 := ⟨by decide +kernel, rfl⟩
theorem dX12_count_92 : q_at cX12_count 92 (.invokevirtual 369) 3 95 := ⟨by decide +kernel, rfl⟩
theorem dX12_count_95 : q_at cX12_count 95 (.ireturn) 1 96 := ⟨by decide +kernel, rfl⟩
theorem dX12_count_96 : q_at cX12_count 96 (.aload_n 0) 1 97 := ⟨by decide +kernel, rfl⟩
theorem dX12_count_97 : q_at cX12_count 97 (.getfield 7) 3 100 := ⟨by decide +kernel, rfl⟩
theorem dX12_count_100 : q_at cX12_count 100 (.iconst 3) 1 101 := ⟨by decide +kernel, rfl⟩
theorem dX12_count_101 : q_at cX12_count 101 (.iaload) 1 102 := ⟨by decide +kernel, rfl⟩
theorem dX12_count_102 : q_at cX12_count 102 (.ireturn) 1 103 := ⟨by decide +kernel, rfl⟩
theorem dX12_count_103 : q_at cX12_count 103 (.iconst 0) 1 104 := ⟨by decide +kernel, rfl⟩
theorem dX12_count_104 : q_at cX12_count 104 (.istore_n 3) 1 105 := ⟨by decide +kernel, rfl⟩
theorem dX12_count_105 : q_at cX12_count 105 (.iload_n 3) 1 106 := ⟨by decide +kernel, rfl⟩
theorem dX12_count_106 : q_at cX12_count 106 (.aload_n 0) 1 107 := ⟨by decide +kernel, rfl⟩
theorem dX12_count_107 : q_at cX12_count 107 (.getfield 7) 3 110 := ⟨by decide +kernel, rfl⟩
theorem dX12_count_110 : q_at cX12_count 110 (.iconst 3) 1 111 := ⟨by decide +kernel, rfl⟩
theorem dX12_count_111 : q_at cX12_count 111 (.iaload) 1 112 := ⟨by decide +kernel, rfl⟩
theorem dX12_count_112 : q_at cX12_count 112 (.if_icmp .ge 32) 3 115 := ⟨by decide +kernel, rfl⟩
theorem dX12_count_115 : q_at cX12_count 115 (.iload_n 2) 1 116 := ⟨by decide +kernel, rfl⟩
theorem dX12_count_116 : q_at cX12_count 116 (.aload_n 0) 1 117 := ⟨by decide +kernel, rfl⟩
theorem dX12_count_117 : q_at cX12_count 117 (.getfield 7) 3 120 := ⟨by decide +kernel, rfl⟩
theorem dX12_count_120 : q_at cX12_count 120 (.aload_n 0) 1 121 := ⟨by decide +kernel, rfl⟩
theorem dX12_count_121 : q_at cX12_count 121 (.iload_n 3) 1 122 := ⟨by decide +kernel, rfl⟩
theorem dX12_count_122 : q_at cX12_count 122 (.invokevirtual 75) 3 125 := ⟨by decide +kernel, rfl⟩
theorem dX12_count_125 : q_at cX12_count 125 (.iconst 5) 1 126 := ⟨by decide +kernel, rfl⟩
theorem dX12_count_126 : q_at cX12_count 126 (.iadd) 1 127 := ⟨by decide +kernel, rfl⟩
theorem dX12_count_127 : q_at cX12_count 127 (.iaload) 1 128 := ⟨by decide +kernel, rfl⟩
theorem dX12_count_128 : q_at cX12_count 128 (.ifCond .ne 7) 3 131 := ⟨by decide +kernel, rfl⟩
theorem dX12_count_131 : q_at cX12_count 131 (.iconst 1) 1 132 := ⟨by decide +kernel, rfl⟩
theorem dX12_count_132 : q_at cX12_count 132 (.goto 4) 3 135 := ⟨by decide +kernel, rfl⟩
theorem dX12_count_135 : q_at cX12_count 135 (.iconst 0) 1 136 := ⟨by decide +kernel, rfl⟩
theorem dX12_count_136 : q_at cX12_count 136 (.iadd) 1 137 := ⟨by decide +kernel, rfl⟩
theorem dX12_count_137 : q_at cX12_count 137 (.istore_n 2) 1 138 := ⟨by decide +kernel, rfl⟩
theorem dX12_count_138 : q_at cX12_count 138 (.iinc 3 1) 3 141 := ⟨by decide +kernel, rfl⟩
theorem dX12_count_141 : q_at cX12_count 141 (.goto (-36)) 3 144 := ⟨by decide +kernel, rfl⟩
theorem dX12_count_144 : q_at cX12_count 144 (.iload_n 2) 1 145 := ⟨by decide +kernel, rfl⟩
theorem dX12_count_145 : q_at cX12_count 145 (.ireturn) 1 146 := ⟨by decide +kernel, rfl⟩
theorem dX12_count_146 : q_at cX12_count 146 (.iconst 0) 1 147 := ⟨by decide +kernel, rfl⟩
theorem dX12_count_147 : q_at cX12_count 147 (.istore_n 3) 1 148 := ⟨by decide +kernel, rfl⟩
theorem dX12_count_148 : q_at cX12_count 148 (.iload_n 3) 1 149 := ⟨by decide +kernel, rfl⟩
theorem dX12_count_149 : q_at cX12_count 149 (.aload_n 0) 1 150 := ⟨by decide +kernel, rfl⟩
theorem dX12_count_150 : q_at cX12_count 150 (.getfield 7) 3 153 := ⟨by decide +kernel, rfl⟩
theorem dX12_count_153 : q_at cX12_count 153 (.iconst 3) 1 154 := ⟨by decide +kernel, rfl⟩
theorem dX12_count_154 : q_at cX12_count 154 (.iaload) 1 155 := ⟨by decide +kernel, rfl⟩
theorem dX12_count_155 : q_at cX12_count 155 (.if_icmp .ge 33) 3 158 := ⟨by decide +kernel, rfl⟩
theorem dX12_count_158 : q_at cX12_count 158 (.iload_n 2) 1 159 := ⟨by decide +kernel, rfl⟩
theorem dX12_count_159 : q_at cX12_count 159 (.aload_n 0) 1 160 := ⟨by decide +kernel, rfl⟩
theorem dX12_count_160 : q_at cX12_count 160 (.getfield 7) 3 163 := ⟨by decide +kernel, rfl⟩
theorem dX12_count_163 : q_at cX12_count 163 (.aload_n 0) 1 164 := ⟨by decide +kernel, rfl⟩
theorem dX12_count_164 : q_at cX12_count 164 (.iload_n 3) 1 165 := ⟨by decide +kernel, rfl⟩
theorem dX12_count_165 : q_at cX12_count 165 (.invokevirtual 75) 3 168 := ⟨by decide +kernel, rfl⟩
theorem dX12_count_168 : q_at cX12_count 168 (.bipush 6) 2 170 := ⟨by decide +kernel, rfl⟩
theorem dX12_count_170 : q_at cX12_count 170 (.iadd) 1 171 := ⟨by decide +kernel, rfl⟩
theorem dX12_count_171 : q_at cX12_count 171 (.iaload) 1 172 := ⟨by decide +kernel, rfl⟩
theorem dX12_count_172 : q_at cX12_count 172 (.ifCond .lt 7) 3 175 := ⟨by decide +kernel, rfl⟩
theorem dX12_count_175 : q_at cX12_count 175 (.iconst 1) 1 176 := ⟨by decide +kernel, rfl⟩
theorem dX12_count_176 : q_at cX12_count 176 (.goto 4) 3 179 := ⟨by decide +kernel, rfl⟩
theorem dX12_count_179 : q_at cX12_count 179 (.iconst 0) 1 180 := ⟨by decide +kernel, rfl⟩
theorem dX12_count_180 : q_at cX12_count 180 (.iadd) 1 181 := ⟨by decide +kernel, rfl⟩
theorem dX12_count_181 : q_at cX12_count 181 (.istore_n 2) 1 182 := ⟨by decide +kernel, rfl⟩
theorem dX12_count_182 : q_at cX12_count 182 (.iinc 3 1) 3 185 := ⟨by decide +kernel, rfl⟩
theorem dX12_count_185 : q_at cX12_count 185 (.goto (-37)) 3 188 := ⟨by decide +kernel, rfl⟩
theorem dX12_count_188 : q_at cX12_count 188 (.iload_n 2) 1 189 := ⟨by decide +kernel, rfl⟩
theorem dX12_count_189 : q_at cX12_count 189 (.ireturn) 1 190 := ⟨by decide +kernel, rfl⟩
theorem dX12_count_190 : q_at cX12_count 190 (.aload_n 0) 1 191 := ⟨by decide +kernel, rfl⟩
theorem dX12_count_191 : q_at cX12_count 191 (.getfield 7) 3 194 := ⟨by decide +kernel, rfl⟩
theorem dX12_count_194 : q_at cX12_count 194 (.iconst 4) 1 195 := ⟨by decide +kernel, rfl⟩
theorem dX12_count_195 : q_at cX12_count 195 (.iaload) 1 196 := ⟨by decide +kernel, rfl⟩
theorem dX12_count_196 : q_at cX12_count 196 (.ireturn) 1 197 := ⟨by decide +kernel, rfl⟩
theorem dX12_count_197 : q_at cX12_count 197 (.aload_n 0) 1 198 := ⟨by decide +kernel, rfl⟩
theorem dX12_count_198 : q_at cX12_count 198 (.getfield 7) 3 201 := ⟨by decide +kernel, rfl⟩
theorem dX12_count_201 : q_at cX12_count 201 (.iconst 5) 1 202 := ⟨by decide +kernel, rfl⟩
theorem dX12_count_202 : q_at cX12_count 202 (.iaload) 1 203 := ⟨by decide +kernel, rfl⟩
theorem dX12_count_203 : q_at cX12_count 203 (.ireturn) 1 204 := ⟨by decide +kernel, rfl⟩
theorem dX12_count_204 : q_at cX12_count 204 (.aload_n 0) 1 205 := ⟨by decide +kernel, rfl⟩
theorem dX12_count_205 : q_at cX12_count 205 (.getfield 7) 3 208 := ⟨by decide +kernel, rfl⟩
theorem dX12_count_208 : q_at cX12_count 208 (.bipush 6) 2 210 := ⟨by decide +kernel, rfl⟩
theorem dX12_count_210 : q_at cX12_count 210 (.iaload) 1 211 := ⟨by decide +kernel, rfl⟩
theorem dX12_count_211 : q_at cX12_count 211 (.ireturn) 1 212 := ⟨by decide +kernel, rfl⟩
theorem dX12_count_212 : q_at cX12_count 212 (.aload_n 0) 1 213 := ⟨by decide +kernel, rfl⟩
theorem dX12_count_213 : q_at cX12_count 213 (.getfield 431) 3 216 := ⟨by decide +kernel, rfl⟩
theorem dX12_count_216 : q_at cX12_count 216 (.ireturn) 1 217 := ⟨by decide +kernel, rfl⟩
theorem dX12_count_217 : q_at cX12_count 217 (.aload_n 0) 1 218 := ⟨by decide +kernel, rfl⟩
theorem dX12_count_218 : q_at cX12_count 218 (.getfield 215) 3 221 := ⟨by decide +kernel, rfl⟩
theorem dX12_count_221 : q_at cX12_count 221 (.ireturn) 1 222 := ⟨by decide +kernel, rfl⟩
theorem dX12_count_222 : q_at cX12_count 222 (.aload_n 0) 1 223 := ⟨by decide +kernel, rfl⟩
theorem dX12_count_223 : q_at cX12_count 223 (.getfield 7) 3 226 := ⟨by decide +kernel, rfl⟩
theorem dX12_count_226 : q_at cX12_count 226 (.iconst 0) 1 227 := ⟨by decide +kernel, rfl⟩
theorem dX12_count_227 : q_at cX12_count 227 (.iaload) 1 228 := ⟨by decide +kernel, rfl⟩
theorem dX12_count_228 : q_at cX12_count 228 (.ireturn) 1 229 := ⟨by decide +kernel, rfl⟩
theorem dX12_count_229 : q_at cX12_count 229 (.aload_n 0) 1 230 := ⟨by decide +kernel, rfl⟩
theorem dX12_count_230 : q_at cX12_count 230 (.invokevirtual 184) 3 233 := ⟨by decide +kernel, rfl⟩
theorem dX12_count_233 : q_at cX12_count 233 (.ireturn) 1 234 := ⟨by decide +kernel, rfl⟩
theorem dX12_count_234 : q_at cX12_count 234 (.iconst 0) 1 235 := ⟨by decide +kernel, rfl⟩
theorem dX12_count_235 : q_at cX12_count 235 (.istore_n 3) 1 236 := ⟨by decide +kernel, rfl⟩
theorem dX12_count_236 : q_at cX12_count 236 (.iload_n 3) 1 237 := ⟨by decide +kernel, rfl⟩
theorem dX12_count_237 : q_at cX12_count 237 (.aload_n 0) 1 238 := ⟨by decide +kernel, rfl⟩
theorem dX12_count_238 : q_at cX12_count 238 (.getfield 7) 3 241 := ⟨by decide +kernel, rfl⟩
theorem dX12_count_241 : q_at cX12_count 241 (.iconst 2) 1 242 := ⟨by decide +kernel, rfl⟩
theorem dX12_count_242 : q_at cX12_count 242 (.iaload) 1 243 := ⟨by decide +kernel, rfl⟩
theorem dX12_count_243 : q_at cX12_count 243 (.if_icmp .ge 27) 3 246 := ⟨by decide +kernel, rfl⟩
theorem dX12_count_246 : q_at cX12_count 246 (.iload_n 2) 1 247 := ⟨by decide +kernel, rfl⟩
theorem dX12_count_247 : q_at cX12_count 247 (.aload_n 0) 1 248 := ⟨by decide +kernel, rfl⟩
theorem dX12_count_248 : q_at cX12_count 248 (.getfield 7) 3 251 := ⟨by decide +kernel, rfl⟩
theorem dX12_count_251 : q_at cX12_count 251 (.aload_n 0) 1 252 := ⟨by decide +kernel, rfl⟩
theorem dX12_count_252 : q_at cX12_count 252 (.iload_n 3) 1 253 := ⟨by decide +kernel, rfl⟩
theorem dX12_count_253 : q_at cX12_count 253 (.invokevirtual 68) 3 256 := ⟨by decide +kernel, rfl⟩
theorem dX12_count_256 : q_at cX12_count 256 (.iload_n 1) 1 257 := ⟨by decide +kernel, rfl⟩
theorem dX12_count_257 : q_at cX12_count 257 (.iadd) 1 258 := ⟨by decide +kernel, rfl⟩
theorem dX12_count_258 : q_at cX12_count 258 (.bipush 9) 2 260 := ⟨by decide +kernel, rfl⟩
theorem dX12_count_260 : q_at cX12_count 260 (.isub) 1 261 := ⟨by decide +kernel, rfl⟩
theorem dX12_count_261 : q_at cX12_count 261 (.iaload) 1 262 := ⟨by decide +kernel, rfl⟩
theorem dX12_count_262 : q_at cX12_count 262 (.iadd) 1 263 := ⟨by decide +kernel, rfl⟩
theorem dX12_count_263 : q_at cX12_count 263 (.istore_n 2) 1 264 := ⟨by decide +kernel, rfl⟩
theorem dX12_count_264 : q_at cX12_count 264 (.iinc 3 1) 3 267 := ⟨by decide +kernel, rfl⟩
theorem dX12_count_267 : q_at cX12_count 267 (.goto (-31)) 3 270 := ⟨by decide +kernel, rfl⟩
theorem dX12_count_270 : q_at cX12_count 270 (.iload_n 2) 1 271 := ⟨by decide +kernel, rfl⟩
theorem dX12_count_271 : q_at cX12_count 271 (.ireturn) 1 272 := ⟨by decide +kernel, rfl⟩
theorem dX12_count_272 : q_at cX12_count 272 (.ldc 90) 2 274 := ⟨by decide +kernel, rfl⟩
theorem dX12_count_274 : q_at cX12_count 274 (.ireturn) 1 275 := ⟨by decide +kernel, rfl⟩
theorem dX12_digs_0 : q_at cX12_digs 0 (.aload_n 0) 1 1 := ⟨by decide +kernel, rfl⟩
theorem dX12_digs_1 : q_at cX12_digs 1 (.iload_n 1) 1 2 := ⟨by decide +kernel, rfl⟩
theorem dX12_digs_2 : q_at cX12_digs 2 (.invokevirtual 68) 3 5 := ⟨by decide +kernel, rfl⟩
theorem dX12_digs_5 : q_at cX12_digs 5 (.istore_n 2) 1 6 := ⟨by decide +kernel, rfl⟩
theorem dX12_digs_6 : q_at cX12_digs 6 (.bipush 10) 2 8 := ⟨by decide +kernel, rfl⟩
theorem dX12_digs_8 : q_at cX12_digs 8 (.iconst 5) 1 9 := ⟨by decide +kernel, rfl⟩
theorem dX12_digs_9 : q_at cX12_digs 9 (.aload_n 0) 1 10 := ⟨by decide +kernel, rfl⟩
theorem dX12_digs_10 : q_at cX12_digs 10 (.getfield 7) 3 13 := ⟨by decide +kernel, rfl⟩
theorem dX12_digs_13 : q_at cX12_digs 13 (.iload_n 2) 1 14 := ⟨by decide +kernel, rfl⟩
theorem dX12_digs_14 : q_at cX12_digs 14 (.iaload) 1 15 := ⟨by decide +kernel, rfl⟩
theorem dX12_digs_15 : q_at cX12_digs 15 (.imul) 1 16 := ⟨by decide +kernel, rfl⟩
theorem dX12_digs_16 : q_at cX12_digs 16 (.iadd) 1 17 := ⟨by decide +kernel, rfl⟩
theorem dX12_digs_17 : q_at cX12_digs 17 (.istore_n 3) 1 18 := ⟨by decide +kernel, rfl⟩
theorem dX12_digs_18 : q_at cX12_digs 18 (.aload_n 0) 1 19 := ⟨by decide +kernel, rfl⟩
theorem dX12_digs_19 : q_at cX12_digs 19 (.getfield 7) 3 22 := ⟨by decide +kernel, rfl⟩
theorem dX12_digs_22 : q_at cX12_digs 22 (.iload_n 2) 1 23 := ⟨by decide +kernel, rfl⟩
theorem dX12_digs_23 : q_at cX12_digs 23 (.iconst 1) 1 24 := ⟨by decide +kernel, rfl⟩
theorem dX12_digs_24 : q_at cX12_digs 24 (.iadd) 1 25 := ⟨by decide +kernel, rfl⟩
theorem dX12_digs_25 : q_at cX12_digs 25 (.iaload) 1 26 := ⟨by decide +kernel, rfl⟩
theorem dX12_digs_26 : q_at cX12_digs 26 (.aload_n 0) 1 27 := ⟨by decide +kernel, rfl⟩
theorem dX12_digs_27 : q_at cX12_digs 27 (.getfield 7) 3 30 := ⟨by decide +kernel, rfl⟩
theorem dX12_digs_30 : q_at cX12_digs 30 (.iload_n 3) 1 31 := ⟨by decide +kernel, rfl⟩
theorem dX12_digs_31 : q_at cX12_digs 31 (.iaload) 1 32 := ⟨by decide +kernel, rfl⟩
theorem dX12_digs_32 : q_at cX12_digs 32 (.imul) 1 33 := ⟨by decide +kernel, rfl⟩
theorem dX12_digs_33 : q_at cX12_digs 33 (.istore 4) 2 35 := ⟨by decide +kernel, rfl⟩
theorem dX12_digs_35 : q_at cX12_digs 35 (.iload 4) 2 37 := ⟨by decide +kernel, rfl⟩
theorem dX12_digs_37 : q_at cX12_digs 37 (.aload_n 0) 1 38 := ⟨by decide +kernel, rfl⟩
theorem dX12_digs_38 : q_at cX12_digs 38 (.getfield 7) 3 41 := ⟨by decide +kernel, rfl⟩
theorem dX12_digs_41 : q_at cX12_digs 41 (.iload_n 3) 1 42 := ⟨by decide +kernel, rfl⟩
theorem dX12_digs_42 : q_at cX12_digs 42 (.iconst 1) 1 43 := ⟨by decide +kernel, rfl⟩
theorem dX12_digs_43 : q_at cX12_digs 43 (.iadd) 1 44 := ⟨by decide +kernel, rfl⟩
theorem dX12_digs_44 : q_at cX12_digs 44 (.iaload) 1 45 := ⟨by decide +kernel, rfl⟩
theorem dX12_digs_45 : q_at cX12_digs 45 (.imul) 1 46 := ⟨by decide +kernel, rfl⟩
theorem dX12_digs_46 : q_at cX12_digs 46 (.bipush 100) 2 48 := ⟨by decide +kernel, rfl⟩
theorem dX12_digs_48 : q_at cX12_digs 48 (.idiv) 1 49 := ⟨by decide +kernel, rfl⟩
theorem dX12_digs_49 : q_at cX12_digs 49 (.istore 5) 2 51 := ⟨by decide +kernel, rfl⟩
theorem dX12_digs_51 : q_at cX12_digs 51 (.aload_n 0) 1 52 := ⟨by decide +kernel, rfl⟩
theorem dX12_digs_52 : q_at cX12_digs 52 (.iload 5) 2 54 := ⟨by decide +kernel, rfl⟩
theorem dX12_digs_54 : q_at cX12_digs 54 (.aload_n 0) 1 55 := ⟨by decide +kernel, rfl⟩
theorem dX12_digs_55 : q_at cX12_digs 55 (.getfield 7) 3 58 := ⟨by decide +kernel, rfl⟩
theorem dX12_digs_58 : q_at cX12_digs 58 (.iload_n 2) 1 59 := ⟨by decide +kernel, rfl⟩
theorem dX12_digs_59 : q_at cX12_digs 59 (.iconst 1) 1 60 := ⟨by decide +kernel, rfl⟩
theorem dX12_digs_60 : q_at cX12_digs 60 (.iadd) 1 61 := ⟨by decide +kernel, rfl⟩
theorem dX12_digs_61 : q_at cX12_digs 61 (.iaload) 1 62 := ⟨by decide +kernel, rfl⟩
theorem dX12_digs_62 : q_at cX12_digs 62 (.invokevirtual 129) 3 65 := ⟨by decide +kernel, rfl⟩
theorem dX12_digs_65 : q_at cX12_digs 65 (.istore 6) 2 67 := ⟨by decide +kernel, rfl⟩
theorem dX12_digs_67 : q_at cX12_digs 67 (.aload_n 0) 1 68 := ⟨by decide +kernel, rfl⟩
theorem dX12_digs_68 : q_at cX12_digs 68 (.getfield 7) 3 71 := ⟨by decide +kernel, rfl⟩
theorem dX12_digs_71 : q_at cX12_digs 71 (.aload_n 0) 1 72 := ⟨by decide +kernel, rfl⟩
theorem dX12_digs_72 : q_at cX12_digs 72 (.aload_n 0) 1 73 := ⟨by decide +kernel, rfl⟩
theorem dX12_digs_73 : q_at cX12_digs 73 (.getfield 7) 3 76 := ⟨by decide +kernel, rfl⟩
theorem dX12_digs_76 : q_at cX12_digs 76 (.iload_n 2) 1 77 := ⟨by decide +kernel, rfl⟩
theorem dX12_digs_77 : q_at cX12_digs 77 (.bipush 10) 2 79 := ⟨by decide +kernel, rfl⟩
theorem dX12_digs_79 : q_at cX12_digs 79 (.iadd) 1 80 := ⟨by decide +kernel, rfl⟩
theorem dX12_digs_80 : q_at cX12_digs 80 (.iaload) 1 81 := ⟨by decide +kernel, rfl⟩
theorem dX12_digs_81 : q_at cX12_digs 81 (.invokevirtual 75) 3 84 := ⟨by decide +kernel, rfl⟩
theorem dX12_digs_84 : q_at cX12_digs 84 (.iconst 2) 1 85 := ⟨by decide +kernel, rfl⟩
theorem dX12_digs_85 : q_at cX12_digs 85 (.iadd) 1 86 := ⟨by decide +kernel, rfl⟩
theorem dX12_digs_86 : q_at cX12_digs 86 (.dup2) 1 87 := ⟨by decide +kernel, rfl⟩
theorem dX12_digs_87 : q_at cX12_digs 87 (.iaload) 1 88 := ⟨by decide +kernel, rfl⟩
theorem dX12_digs_88 : q_at cX12_digs 88 (.iload 6) 2 90 := ⟨by decide +kernel, rfl⟩
theorem dX12_digs_90 : q_at cX12_digs 90 (.iadd) 1 91 := ⟨by decide +kernel, rfl⟩
theorem dX12_digs_91 : q_at cX12_digs 91 (.iastore) 1 92 := ⟨by decide +kernel, rfl⟩
theorem dX12_digs_92 : q_at cX12_digs 92 (.aload_n 0) 1 93 := ⟨by decide +kernel, rfl⟩
theorem dX12_digs_93 : q_at cX12_digs 93 (.getfield 7) 3 96 := ⟨by decide +kernel, rfl⟩
theorem dX12_digs_96 : q_at cX12_digs 96 (.iload_n 2) 1 97 := ⟨by decide +kernel, rfl⟩
theorem dX12_digs_97 : q_at cX12_digs 97 (.bipush 8) 2 99 := ⟨by decide +kernel, rfl⟩
theorem dX12_digs_99 : q_at cX12_digs 99 (.iadd) 1 100 := ⟨by decide +kernel, rfl⟩
theorem dX12_digs_100 : q_at cX12_digs 100 (.dup2) 1 101 := ⟨by decide +kernel, rfl⟩
theorem dX12_digs_101 : q_at cX12_digs 101 (.iaload) 1 102 := ⟨by decide +kernel, rfl⟩
theorem dX12_digs_102 : q_at cX12_digs 102 (.aload_n 0) 1 103 := ⟨by decide +kernel, rfl⟩
theorem dX12_digs_103 : q_at cX12_digs 103 (.iload 4) 2 105 := ⟨by decide +kernel, rfl⟩
theorem dX12_digs_105 : q_at cX12_digs 105 (.aload_n 0) 1 106 := ⟨by decide +kernel, rfl⟩
theorem dX12_digs_106 : q_at cX12_digs 106 (.getfield 7) 3 109 := ⟨by decide +kernel, rfl⟩
theorem dX12_digs_109 : q_at cX12_digs 109 (.iload_n 2) 1 110 := ⟨by decide +kernel, rfl⟩
theorem dX12_digs_110 : q_at cX12_digs 110 (.iconst 1) 1 111 := ⟨by decide +kernel, rfl⟩
theorem dX12_digs_111 : q_at cX12_digs 111 (.iadd) 1 112 := ⟨by decide +kernel, rfl⟩
theorem dX12_digs_112 : q_at cX12_digs 112 (.iaload) 1 113 := ⟨by decide +kernel, rfl⟩
theorem dX12_digs_113 : q_at cX12_digs 113 (.invokevirtual 129) 3 116 := ⟨by decide +kernel, rfl⟩
theorem dX12_digs_116 : q_at cX12_digs 116 (.iload 6) 2 118 := ⟨by decide +kernel, rfl⟩
theorem dX12_digs_118 : q_at cX12_digs 118 (.isub) 1 119 := ⟨by decide +kernel, rfl⟩
theorem dX12_digs_119 : q_at cX12_digs 119 (.iadd) 1 120 := ⟨by decide +kernel, rfl⟩
theorem dX12_digs_120 : q_at cX12_digs 120 (.iastore) 1 121 := ⟨by decide +kernel, rfl⟩
theorem dX12_digs_121 : q_at cX12_digs 121 (.aload_n 0) 1 122 := ⟨by decide +kernel, rfl⟩
theorem dX12_digs_122 : q_at cX12_digs 122 (.getfield 7) 3 125 := ⟨by decide +kernel, rfl⟩
theorem dX12_digs_125 : q_at cX12_digs 125 (.iload_n 3) 1 126 := ⟨by decide +kernel, rfl⟩
theorem dX12_digs_126 : q_at cX12_digs 126 (.iconst 2) 1 127 := ⟨by decide +kernel, rfl⟩
theorem dX12_digs_127 : q_at cX12_digs 127 (.iadd) 1 128 := ⟨by decide +kernel, rfl⟩
theorem dX12_digs_128 : q_at cX12_digs 128 (.dup2) 1 129 := ⟨by decide +kernel, rfl⟩
theorem dX12_digs_129 : q_at cX12_digs 129 (.iaload) 1 130 := ⟨by decide +kernel, rfl⟩
theorem dX12_digs_130 : q_at cX12_digs 130 (.iload 4) 2 132 := ⟨by decide +kernel, rfl⟩
theorem dX12_digs_132 : q_at cX12_digs 132 (.iadd) 1 133 := ⟨by decide +kernel, rfl⟩
theorem dX12_digs_133 : q_at cX12_digs 133 (.iastore) 1 134 := ⟨by decide +kernel, rfl⟩
theorem dX12_digs_134 : q_at cX12_digs 134 (.aload_n 0) 1 135 := ⟨by decide +kernel, rfl⟩
theorem dX12_digs_135 : q_at cX12_digs 135 (.getfield 7) 3 138 := ⟨by decide +kernel, rfl⟩
theorem dX12_digs_138 : q_at cX12_digs 138 (.iload_n 3) 1 139 := ⟨by decide +kernel, rfl⟩
theorem dX12_digs_139 : q_at cX12_digs 139 (.iconst 3) 1 140 := ⟨by decide +kernel, rfl⟩
theorem dX12_digs_140 : q_at cX12_digs 140 (.iadd) 1 141 := ⟨by decide +kernel, rfl⟩
theorem dX12_digs_141 : q_at cX12_digs 141 (.dup2) 1 142 := ⟨by decide +kernel, rfl⟩
theorem dX12_digs_142 : q_at cX12_digs 142 (.iaload) 1 143 := ⟨by decide +kernel, rfl⟩
theorem dX12_digs_143 : q_at cX12_digs 143 (.iload 5) 2 145 := ⟨by decide +kernel, rfl⟩
theorem dX12_digs_145 : q_at cX12_digs 145 (.iadd) 1 146 := ⟨by decide +kernel, rfl⟩
theorem dX12_digs_146 : q_at cX12_digs 146 (.iastore) 1 147 := ⟨by decide +kernel, rfl⟩
theorem dX12_digs_147 : q_at cX12_digs 147 (.aload_n 0) 1 148 := ⟨by decide +kernel, rfl⟩
theorem dX12_digs_148 : q_at cX12_digs 148 (.getfield 7) 3 151 := ⟨by decide +kernel, rfl⟩
theorem dX12_digs_151 : q_at cX12_digs 151 (.iload_n 3) 1 152 := ⟨by decide +kernel, rfl⟩
theorem dX12_digs_152 : q_at cX12_digs 152 (.iconst 4) 1 153 := ⟨by decide +kernel, rfl⟩
theorem dX12_digs_153 : q_at cX12_digs 153 (.iadd) 1 154 := ⟨by decide +kernel, rfl⟩
theorem dX12_digs_154 : q_at cX12_digs 154 (.dup2) 1 155 := ⟨by decide +kernel, rfl⟩
theorem dX12_digs_155 : q_at cX12_digs 155 (.iaload) 1 156 := ⟨by decide +kernel, rfl⟩
theorem dX12_digs_156 : q_at cX12_digs 156 (.aload_n 0) 1 157 := ⟨by decide +kernel, rfl⟩
theorem dX12_digs_157 : q_at cX12_digs 157 (.getfield 7) 3 160 := ⟨by decide +kernel, rfl⟩
theorem dX12_digs_160 : q_at cX12_digs 160 (.iload_n 2) 1 161 := ⟨by decide +kernel, rfl⟩
theorem dX12_digs_161 : q_at cX12_digs 161 (.iconst 1) 1 162 := ⟨by decide +kernel, rfl⟩
theorem dX12_digs_162 : q_at cX12_digs 162 (.iadd) 1 163 := ⟨by decide +kernel, rfl⟩
theorem dX12_digs_163 : q_at cX12_digs 163 (.iaload) 1 164 := ⟨by decide +kernel, rfl⟩
theorem dX12_digs_164 : q_at cX12_digs 164 (.iadd) 1 165 := ⟨by decide +kernel, rfl⟩
theorem dX12_digs_165 : q_at cX12_digs 165 (.iastore) 1 166 := ⟨by decide +kernel, rfl⟩
theorem dX12_digs_166 : q_at cX12_digs 166 (.return_) 1 167 := ⟨by decide +kernel, rfl⟩
theorem dX12_draw_0 : q_at cX12_draw 0 (.aload_n 0) 1 1 := ⟨by decide +kernel, rfl⟩
theorem dX12_draw_1 : q_at cX12_draw 1 (.iload_n 1) 1 2 := ⟨by decide +kernel, rfl⟩
theorem dX12_draw_2 : q_at cX12_draw 2 (.iload_n 2) 1 3 := ⟨by decide +kernel, rfl⟩
theorem dX12_draw_3 : q_at cX12_draw 3 (.iload_n 3) 1 4 := ⟨by decide +kernel, rfl⟩
theorem dX12_draw_4 : q_at cX12_draw 4 (.iconst 1) 1 5 := ⟨by decide +kernel, rfl⟩
theorem dX12_draw_5 : q_at cX12_draw 5 (.invokevirtual 347) 3 8 := ⟨by decide +kernel, rfl⟩
theorem dX12_draw_8 : q_at cX12_draw 8 (.istore 4) 2 10 := ⟨by decide +kernel, rfl⟩
theorem dX12_draw_10 : q_at cX12_draw 10 (.iload 4) 2 12 := ⟨by decide +kernel, rfl⟩
theorem dX12_draw_12 : q_at cX12_draw 12 (.ifCond .eq 6) 3 15 := ⟨by decide +kernel, rfl⟩
theorem dX12_draw_15 : q_at cX12_draw 15 (.iload 4) 2 17 := ⟨by decide +kernel, rfl⟩
theorem dX12_draw_17 : q_at cX12_draw 17 (.ireturn) 1 18 := ⟨by decide +kernel, rfl⟩
theorem dX12_draw_18 : q_at cX12_draw 18 (.aload_n 0) 1 19 := ⟨by decide +kernel, rfl⟩
theorem dX12_draw_19 : q_at cX12_draw 19 (.iload_n 1) 1 20 := ⟨by decide +kernel, rfl⟩
theorem dX12_draw_20 : q_at cX12_draw 20 (.iload_n 3) 1 21 := ⟨by decide +kernel, rfl⟩
theorem dX12_draw_21 : q_at cX12_draw 21 (.ifCond .ne 7) 3 24 := ⟨by decide +kernel, rfl⟩
theorem dX12_draw_24 : q_at cX12_draw 24 (.iconst 5) 1 25 := ⟨by decide +kernel, rfl⟩
theorem dX12_draw_25 : q_at cX12_draw 25 (.goto 4) 3 28 := ⟨by decide +kernel, rfl⟩
theorem dX12_draw_28 : q_at cX12_draw 28 (.iconst 4) 1 29 := ⟨by decide +kernel, rfl⟩
theorem dX12_draw_29 : q_at cX12_draw 29 (.iload_n 2) 1 30 := ⟨by decide +kernel, rfl⟩
theorem dX12_draw_30 : q_at cX12_draw 30 (.invokevirtual 350) 3 33 := ⟨by decide +kernel, rfl⟩
theorem dX12_draw_33 : q_at cX12_draw 33 (.aload_n 0) 1 34 := ⟨by decide +kernel, rfl⟩
theorem dX12_draw_34 : q_at cX12_draw 34 (.iconst 2) 1 35 := ⟨by decide +kernel, rfl⟩
theorem dX12_draw_35 : q_at cX12_draw 35 (.iload_n 1) 1 36 := ⟨by decide +kernel, rfl⟩
theorem dX12_draw_36 : q_at cX12_draw 36 (.iload_n 2) 1 37 := ⟨by decide +kernel, rfl⟩
theorem dX12_draw_37 : q_at cX12_draw 37 (.iload_n 3) 1 38 := ⟨by decide +kernel, rfl⟩
theorem dX12_draw_38 : q_at cX12_draw 38 (.invokevirtual 106) 3 41 := ⟨by decide +kernel, rfl⟩
theorem dX12_draw_41 : q_at cX12_draw 41 (.ireturn) 1 42 := ⟨by decide +kernel, rfl⟩
theorem dX12_dueOf_0 : q_at cX12_dueOf 0 (.aload_n 0) 1 1 := ⟨by decide +kernel, rfl⟩
theorem dX12_dueOf_1 : q_at cX12_dueOf 1 (.aload_n 0) 1 2 := ⟨by decide +kernel, rfl⟩
theorem dX12_dueOf_2 : q_at cX12_dueOf 2 (.invokevirtual 184) 3 5 := ⟨by decide +kernel, rfl⟩
theorem dX12_dueOf_5 : q_at cX12_dueOf 5 (.invokevirtual 328) 3 8 := ⟨by decide +kernel, rfl⟩
theorem dX12_dueOf_8 : q_at cX12_dueOf 8 (.ireturn) 1 9 := ⟨by decide +kernel, rfl⟩
theorem dX12_fine_0 : q_at cX12_fine 0 (.aload_n 0) 1 1 := ⟨by decide +kernel, rfl⟩
theorem dX12_fine_1 : q_at cX12_fine 1 (.iload_n 1) 1 2 := ⟨by decide +kernel, rfl⟩
theorem dX12_fine_2 : q_at cX12_fine 2 (.iload_n 2) 1 3 := ⟨by decide +kernel, rfl⟩
theorem dX12_fine_3 : q_at cX12_fine 3 (.iload_n 3) 1 4 := ⟨by decide +kernel, rfl⟩
theorem dX12_fine_4 : q_at cX12_fine 4 (.bipush 9) 2 6 := ⟨by decide +kernel, rfl⟩
theorem dX12_fine_6 : q_at cX12_fine 6 (.invokevirtual 347) 3 9 := ⟨by decide +kernel, rfl⟩
theorem dX12_fine_9 : q_at cX12_fine 9 (.istore 4) 2 11 := ⟨by decide +kernel, rfl⟩
theorem dX12_fine_11 : q_at cX12_fine 11 (.iload 4) 2 13 := ⟨by decide +kernel, rfl⟩
theorem dX12_fine_13 : q_at cX12_fine 13 (.ifCond .eq 8) 3 16 := ⟨by decide +kernel, rfl⟩
theorem dX12_fine_16 : q_at cX12_fine 16 (.iload 4) 2 18 := ⟨by decide +kernel, rfl⟩
theorem dX12_fine_18 : q_at cX12_fine 18 (.goto 11) 3 21 := ⟨by decide +kernel, rfl⟩
theorem dX12_fine_21 : q_at cX12_fine 21 (.aload_n 0) 1 22 := ⟨by decide +kernel, rfl⟩
theorem dX12_fine_22 : q_at cX12_fine 22 (.iconst 4) 1 23 := ⟨by decide +kernel, rfl⟩
theorem dX12_fine_23 : q_at cX12_fine 23 (.iload_n 1) 1 24 := ⟨by decide +kernel, rfl⟩
theorem dX12_fine_24 : q_at cX12_fine 24 (.iload_n 2) 1 25 := ⟨by decide +kernel, rfl⟩
theorem dX12_fine_25 : q_at cX12_fine 25 (.iload_n 3) 1 26 := ⟨by decide +kernel, rfl⟩
theorem dX12_fine_26 : q_at cX12_fine 26 (.invokevirtual 106) 3 29 := ⟨by decide +kernel, rfl⟩
theorem dX12_fine_29 : q_at cX12_fine 29 (.ireturn) 1 30 := ⟨by decide +kernel, rfl⟩
theorem dX12_isWrong_0 : q_at cX12_isWrong 0 (.aload_n 0) 1 1 := ⟨by decide +kernel, rfl⟩
theorem dX12_isWrong_1 : q_at cX12_isWrong 1 (.iload_n 1) 1 2 := ⟨by decide +kernel, rfl⟩
theorem dX12_isWrong_2 : q_at cX12_isWrong 2 (.invokevirtual 75) 3 5 := ⟨by decide +kernel, rfl⟩
theorem dX12_isWrong_5 : q_at cX12_isWrong 5 (.istore_n 3) 1 6 := ⟨by decide +kernel, rfl⟩
theorem dX12_isWrong_6 : q_at cX12_isWrong 6 (.aload_n 0) 1 7 := ⟨by decide +kernel, rfl⟩
theorem dX12_isWrong_7 : q_at cX12_isWrong 7 (.getfield 7) 3 10 := ⟨by decide +kernel, rfl⟩
theorem dX12_isWrong_10 : q_at cX12_isWrong 10 (.iload_n 3) 1 11 := ⟨by decide +kernel, rfl⟩
theorem dX12_isWrong_11 : q_at cX12_isWrong 11 (.iaload) 1 12 := ⟨by decide +kernel, rfl⟩
theorem dX12_isWrong_12 : q_at cX12_isWrong 12 (.iconst 4) 1 13 := ⟨by decide +kernel, rfl⟩
theorem dX12_isWrong_13 : q_at cX12_isWrong 13 (.if_icmp .ne 65) 3 16 := ⟨by decide +kernel, rfl⟩
theorem dX12_isWrong_16 : q_at cX12_isWrong 16 (.aload_n 0) 1 17 := ⟨by decide +kernel, rfl⟩
theorem dX12_isWrong_17 : q_at cX12_isWrong 17 (.getfield 7) 3 20 := ⟨by decide +kernel, rfl⟩
theorem dX12_isWrong_20 : q_at cX12_isWrong 20 (.iload_n 3) 1 21 := ⟨by decide +kernel, rfl⟩
theorem dX12_isWrong_21 : q_at cX12_isWrong 21 (.iconst 1) 1 22 := ⟨by decide +kernel, rfl⟩
theorem dX12_isWrong_22 : q_at cX12_isWrong 22 (.iadd) 1 23 := ⟨by decide +kernel, rfl⟩
theorem dX12_isWrong_23 : q_at cX12_isWrong 23 (.iaload) 1 24 := ⟨by decide +kernel, rfl⟩
theorem dX12_isWrong_24 : q_at cX12_isWrong 24 (.iload_n 2) 1 25 := ⟨by decide +kernel, rfl⟩
theorem dX12_isWrong_25 : q_at cX12_isWrong 25 (.if_icmp .ne 53) 3 28 := ⟨by decide +kernel, rfl⟩
theorem dX12_isWrong_28 : q_at cX12_isWrong 28 (.aload_n 0) 1 29 := ⟨by decide +kernel, rfl⟩
theorem dX12_isWrong_29 : q_at cX12_isWrong 29 (.getfield 7) 3 32 := ⟨by decide +kernel, rfl⟩
theorem dX12_isWrong_32 : q_at cX12_isWrong 32 (.iload_n 3) 1 33 := ⟨by decide +kernel, rfl⟩
theorem dX12_isWrong_33 : q_at cX12_isWrong 33 (.iconst 5) 1 34 := ⟨by decide +kernel, rfl⟩
theorem dX12_isWrong_34 : q_at cX12_isWrong 34 (.iadd) 1 35 := ⟨by decide +kernel, rfl⟩
theorem dX12_isWrong_35 : q_at cX12_isWrong 35 (.iaload) 1 36 := ⟨by decide +kernel, rfl⟩
theorem dX12_isWrong_36 : q_at cX12_isWrong 36 (.iconst 1) 1 37 := ⟨by decide +kernel, rfl⟩
theorem dX12_isWrong_37 : q_at cX12_isWrong 37 (.if_icmp .ne 41) 3 40 := ⟨by decide +kernel, rfl⟩
theorem dX12_isWrong_40 : q_at cX12_isWrong 40 (.aload_n 0) 1 41 := ⟨by decide +kernel, rfl⟩
theorem dX12_isWrong_41 : q_at cX12_isWrong 41 (.getfield 7) 3 44 := ⟨by decide +kernel, rfl⟩
theorem dX12_isWrong_44 : q_at cX12_isWrong 44 (.iload_n 3) 1 45 := ⟨by decide +kernel, rfl⟩
theorem dX12_isWrong_45 : q_at cX12_isWrong 45 (.iconst 2) 1 46 := ⟨by decide +kernel, rfl⟩
theorem dX12_isWrong_46 : q_at cX12_isWrong 46 (.iadd) 1 47 := ⟨by decide +kernel, rfl⟩
theorem dX12_isWrong_47 : q_at cX12_isWrong 47 (.iaload) 1 48 := ⟨by decide +kernel, rfl⟩
theorem dX12_isWrong_48 : q_at cX12_isWrong 48 (.ifCond .le 30) 3 51 := ⟨by decide +kernel, rfl⟩
theorem dX12_isWrong_51 : q_at cX12_isWrong 51 (.aload_n 0) 1 52 := ⟨by decide +kernel, rfl⟩
theorem dX12_isWrong_52 : q_at cX12_isWrong 52 (.aload_n 0) 1 53 := ⟨by decide +kernel, rfl⟩
theorem dX12_isWrong_53 : q_at cX12_isWrong 53 (.getfield 7) 3 56 := ⟨by decide +kernel, rfl⟩
theorem dX12_isWrong_56 : q_at cX12_isWrong 56 (.iload_n 3) 1 57 := ⟨by decide +kernel, rfl⟩
theorem dX12_isWrong_57 : q_at cX12_isWrong 57 (.iconst 2) 1 58 := ⟨by decide +kernel, rfl⟩
theorem dX12_isWrong_58 : q_at cX12_isWrong 58 (.iadd) 1 59 := ⟨by decide +kernel, rfl⟩
theorem dX12_isWrong_59 : q_at cX12_isWrong 59 (.iaload) 1 60 := ⟨by decide +kernel, rfl⟩
theorem dX12_isWrong_60 : q_at cX12_isWrong 60 (.aload_n 0) 1 61 := ⟨by decide +kernel, rfl⟩
theorem dX12_isWrong_61 : q_at cX12_isWrong 61 (.getfield 7) 3 64 := ⟨by decide +kernel, rfl⟩
theorem dX12_isWrong_64 : q_at cX12_isWrong 64 (.iload_n 3) 1 65 := ⟨by decide +kernel, rfl⟩
theorem dX12_isWrong_65 : q_at cX12_isWrong 65 (.iconst 3) 1 66 := ⟨by decide +kernel, rfl⟩
theorem dX12_isWrong_66 : q_at cX12_isWrong 66 (.iadd) 1 67 := ⟨by decide +kernel, rfl⟩
theorem dX12_isWrong_67 : q_at cX12_isWrong 67 (.iaload) 1 68 := ⟨by decide +kernel, rfl⟩
theorem dX12_isWrong_68 : q_at cX12_isWrong 68 (.invokevirtual 338) 3 71 := ⟨by decide +kernel, rfl⟩
theorem dX12_isWrong_71 : q_at cX12_isWrong 71 (.ifCond .ne 7) 3 74 := ⟨by decide +kernel, rfl⟩
theorem dX12_isWrong_74 : q_at cX12_isWrong 74 (.iconst 1) 1 75 := ⟨by decide +kernel, rfl⟩
theorem dX12_isWrong_75 : q_at cX12_isWrong 75 (.goto 4) 3 78 := ⟨by decide +kernel, rfl⟩
theorem dX12_isWrong_78 : q_at cX12_isWrong 78 (.iconst 0) 1 79 := ⟨by decide +kernel, rfl⟩
theorem dX12_isWrong_79 : q_at cX12_isWrong 79 (.ireturn) 1 80 := ⟨by decide +kernel, rfl⟩
theorem dX12_last_0 : q_at cX12_last 0 (.iload_n 1) 1 1 := ⟨by decide +kernel, rfl⟩
theorem dX12_last_1 : q_at cX12_last 1 (.i2l) 1 2 := ⟨by decide +kernel, rfl⟩
theorem dX12_last_2 : q_at cX12_last 2 (.lconst 0) 1 3 := ⟨by decide +kernel, rfl⟩
theorem dX12_last_3 : q_at cX12_last 3 (.ldc2_w 401) 3 6 := ⟨by decide +kernel, rfl⟩
theorem dX12_last_6 : q_at cX12_last 6 (.invokestatic 64) 3 9 := ⟨by decide +kernel, rfl⟩
theorem dX12_last_9 : q_at cX12_last 9 (.ifCond .eq 13) 3 12 := ⟨by decide +kernel, rfl⟩
theorem dX12_last_12 : q_at cX12_last 12 (.iload_n 2) 1 13 := ⟨by decide +kernel, rfl⟩
theorem dX12_last_13 : q_at cX12_last 13 (.i2l) 1 14 := ⟨by decide +kernel, rfl⟩
theorem dX12_last_14 : q_at cX12_last 14 (.lconst 0) 1 15 := ⟨by decide +kernel, rfl⟩
theorem dX12_last_15 : q_at cX12_last 15 (.lconst 1) 1 16 := ⟨by decide +kernel, rfl⟩
theorem dX12_last_16 : q_at cX12_last 16 (.invokestatic 64) 3 19 := ⟨by decide +kernel, rfl⟩
theorem dX12_last_19 : q_at cX12_last 19 (.ifCond .ne 8) 3 22 := ⟨by decide +kernel, rfl⟩
theorem dX12_last_22 : q_at cX12_last 22 (.ldc 90) 2 24 := ⟨by decide +kernel, rfl⟩
theorem dX12_last_24 : q_at cX12_last 24 (.goto 20) 3 27 := ⟨by decide +kernel, rfl⟩
theorem dX12_last_27 : q_at cX12_last 27 (.iload_n 2) 1 28 := ⟨by decide +kernel, rfl⟩
theorem dX12_last_28 : q_at cX12_last 28 (.ifCond .ne 11) 3 31 := ⟨by decide +kernel, rfl⟩
theorem dX12_last_31 : q_at cX12_last 31 (.aload_n 0) 1 32 := ⟨by decide +kernel, rfl⟩
theorem dX12_last_32 : q_at cX12_last 32 (.iload_n 1) 1 33 := ⟨by decide +kernel, rfl⟩
theorem dX12_last_33 : q_at cX12_last 33 (.invokevirtual 403) 3 36 := ⟨by decide +kernel, rfl⟩
theorem dX12_last_36 : q_at cX12_last 36 (.goto 8) 3 39 := ⟨by decide +kernel, rfl⟩
theorem dX12_last_39 : q_at cX12_last 39 (.aload_n 0) 1 40 := ⟨by decide +kernel, rfl⟩
theorem dX12_last_40 : q_at cX12_last 40 (.iload_n 1) 1 41 := ⟨by decide +kernel, rfl⟩
theorem dX12_last_41 : q_at cX12_last 41 (.invokevirtual 406) 3 44 := ⟨by decide +kernel, rfl⟩
theorem dX12_last_44 : q_at cX12_last 44 (.ireturn) 1 45 := ⟨by decide +kernel, rfl⟩
theorem dX12_least__0 : q_at cX12_least_ 0 (.ldc 61) 2 2 := ⟨by decide +kernel, rfl⟩
theorem dX12_least__2 : q_at cX12_least_ 2 (.istore_n 1) 1 3 := ⟨by decide +kernel, rfl⟩
theorem dX12_least__3 : q_at cX12_least_ 3 (.iconst 1) 1 4 := ⟨by decide +kernel, rfl⟩
theorem dX12_least__4 : q_at cX12_least_ 4 (.istore_n 2) 1 5 := ⟨by decide +kernel, rfl⟩
theorem dX12_least__5 : q_at cX12_least_ 5 (.iload_n 2) 1 6 := ⟨by decide +kernel, rfl⟩
theorem dX12_least__6 : q_at cX12_least_ 6 (.sipush 256) 3 9 := ⟨by decide +kernel, rfl⟩
theorem dX12_least__9 : q_at cX12_least_ 9 (.if_icmp .ge 39) 3 12 := ⟨by decide +kernel, rfl⟩
theorem dX12_least__12 : q_at cX12_least_ 12 (.iload_n 1) 1 13 := ⟨by decide +kernel, rfl⟩
theorem dX12_least__13 : q_at cX12_least_ 13 (.ifCond .lt 14) 3 16 := ⟨by decide +kernel, rfl⟩
theorem dX12_least__16 : q_at cX12_least_ 16 (.iload_n 2) 1 17 := ⟨by decide +kernel, rfl⟩
theorem dX12_least__17 : q_at cX12_least_ 17 (.invokestatic 392) 3 20 := ⟨by decide +kernel, rfl⟩
theorem dX12_least__20 : q_at cX12_least_ 20 (.iload_n 1) 1 21 := ⟨by decide +kernel, rfl⟩
theorem dX12_least__21 : q_at cX12_least_ 21 (.invokestatic 392) 3 24 := ⟨by decide +kernel, rfl⟩
theorem dX12_least__24 : q_at cX12_least_ 24 (.if_icmp .ge 18) 3 27 := ⟨by decide +kernel, rfl⟩
theorem dX12_least__27 : q_at cX12_least_ 27 (.aload_n 0) 1 28 := ⟨by decide +kernel, rfl⟩
theorem dX12_least__28 : q_at cX12_least_ 28 (.iload_n 2) 1 29 := ⟨by decide +kernel, rfl⟩
theorem dX12_least__29 : q_at cX12_least_ 29 (.invokevirtual 406) 3 32 := ⟨by decide +kernel, rfl⟩
theorem dX12_least__32 : q_at cX12_least_ 32 (.aload_n 0) 1 33 := ⟨by decide +kernel, rfl⟩
theorem dX12_least__33 : q_at cX12_least_ 33 (.iload_n 2) 1 34 := ⟨by decide +kernel, rfl⟩
theorem dX12_least__34 : q_at cX12_least_ 34 (.invokevirtual 403) 3 37 := ⟨by decide +kernel, rfl⟩
theorem dX12_least__37 : q_at cX12_least_ 37 (.if_icmp .ge 5) 3 40 := ⟨by decide +kernel, rfl⟩
theorem dX12_least__40 : q_at cX12_least_ 40 (.iload_n 2) 1 41 := ⟨by decide +kernel, rfl⟩
theorem dX12_least__41 : q_at cX12_least_ 41 (.istore_n 1) 1 42 := ⟨by decide +kernel, rfl⟩
theorem dX12_least__42 : q_at cX12_least_ 42 (.iinc 2 1) 3 45 := ⟨by decide +kernel, rfl⟩
theorem dX12_least__45 : q_at cX12_least_ 45 (.goto (-40)) 3 48 := ⟨by decide +kernel, rfl⟩
theorem dX12_least__48 : q_at cX12_least_ 48 (.iload_n 1) 1 49 := ⟨by decide +kernel, rfl⟩
theorem dX12_least__49 : q_at cX12_least_ 49 (.ireturn) 1 50 := ⟨by decide +kernel, rfl⟩
theorem dX12_rules_0 : q_at cX12_rules 0 (.iload_n 1) 1 1 := ⟨by decide +kernel, rfl⟩
theorem dX12_rules_1 : q_at cX12_rules 1 (.tableswitch 98 0 6 #[43, 50, 56, 62, 69, 76, 83]) 43 44 := ⟨by decide +kernel, rfl⟩
theorem dX12_rules_44 : q_at cX12_rules 44 (.aload_n 0) 1 45 := ⟨by decide +kernel, rfl⟩
theorem dX12_rules_45 : q_at cX12_rules 45 (.iload_n 2) 1 46 := ⟨by decide +kernel, rfl⟩
theorem dX12_rules_46 : q_at cX12_rules 46 (.iload_n 3) 1 47 := ⟨by decide +kernel, rfl⟩
theorem dX12_rules_47 : q_at cX12_rules 47 (.invokevirtual 129) 3 50 := ⟨by decide +kernel, rfl⟩
theorem dX12_rules_50 : q_at cX12_rules 50 (.ireturn) 1 51 := ⟨by decide +kernel, rfl⟩
theorem dX12_rules_51 : q_at cX12_rules 51 (.aload_n 0) 1 52 := ⟨by decide +kernel, rfl⟩
theorem dX12_rules_52 : q_at cX12_rules 52 (.iload_n 2) 1 53 := ⟨by decide +kernel, rfl⟩
theorem dX12_rules_53 : q_at cX12_rules 53 (.invokevirtual 160) 3 56 := ⟨by decide +kernel, rfl⟩
theorem dX12_rules_56 : q_at cX12_rules 56 (.ireturn) 1 57 := ⟨by decide +kernel, rfl⟩
theorem dX12_rules_57 : q_at cX12_rules 57 (.aload_n 0) 1 58 := ⟨by decide +kernel, rfl⟩
theorem dX12_rules_58 : q_at cX12_rules 58 (.iload_n 2) 1 59 := ⟨by decide +kernel, rfl⟩
theorem dX12_rules_59 : q_at cX12_rules 59 (.invokevirtual 328) 3 62 := ⟨by decide +kernel, rfl⟩
theorem dX12_rules_62 : q_at cX12_rules 62 (.ireturn) 1 63 := ⟨by decide +kernel, rfl⟩
theorem dX12_rules_63 : q_at cX12_rules 63 (.aload_n 0) 1 64 := ⟨by decide +kernel, rfl⟩
theorem dX12_rules_64 : q_at cX12_rules 64 (.iload_n 2) 1 65 := ⟨by decide +kernel, rfl⟩
theorem dX12_rules_65 : q_at cX12_rules 65 (.iload_n 3) 1 66 := ⟨by decide +kernel, rfl⟩
theorem dX12_rules_66 : q_at cX12_rules 66 (.invokevirtual 335) 3 69 := ⟨by decide +kernel, rfl⟩
theorem dX12_rules_69 : q_at cX12_rules 69 (.ireturn) 1 70 := ⟨by decide +kernel, rfl⟩
theorem dX12_rules_70 : q_at cX12_rules 70 (.aload_n 0) 1 71 := ⟨by decide +kernel, rfl⟩
theorem dX12_rules_71 : q_at cX12_rules 71 (.iload_n 2) 1 72 := ⟨by decide +kernel, rfl⟩
theorem dX12_rules_72 : q_at cX12_rules 72 (.iload_n 3) 1 73 := ⟨by decide +kernel, rfl⟩
theorem dX12_rules_73 : q_at cX12_rules 73 (.invokevirtual 338) 3 76 := ⟨by decide +kernel, rfl⟩
theorem dX12_rules_76 : q_at cX12_rules 76 (.ireturn) 1 77 := ⟨by decide +kernel, rfl⟩
theorem dX12_rules_77 : q_at cX12_rules 77 (.aload_n 0) 1 78 := ⟨by decide +kernel, rfl⟩
theorem dX12_rules_78 : q_at cX12_rules 78 (.iload_n 2) 1 79 := ⟨by decide +kernel, rfl⟩
theorem dX12_rules_79 : q_at cX12_rules 79 (.iload_n 3) 1 80 := ⟨by decide +kernel, rfl⟩
theorem dX12_rules_80 : q_at cX12_rules 80 (.invokevirtual 195) 3 83 := ⟨by decide +kernel, rfl⟩
theorem dX12_rules_83 : q_at cX12_rules 83 (.ireturn) 1 84 := ⟨by decide +kernel, rfl⟩
theorem dX12_rules_84 : q_at cX12_rules 84 (.aload_n 0) 1 85 := ⟨by decide +kernel, rfl⟩
theorem dX12_rules_85 : q_at cX12_rules 85 (.aload_n 0) 1 86 := ⟨by decide +kernel, rfl⟩
theorem dX12_rules_86 : q_at cX12_rules 86 (.bipush 6) 2 88 := ⟨by decide +kernel, rfl⟩
theorem dX12_rules_88 : q_at cX12_rules 88 (.invokevirtual 313) 3 91 := ⟨by decide +kernel, rfl⟩
theorem dX12_rules_91 : q_at cX12_rules 91 (.iload_n 2) 1 92 := ⟨by decide +kernel, rfl⟩
theorem dX12_rules_92 : q_at cX12_rules 92 (.iload_n 3) 1 93 := ⟨by decide +kernel, rfl⟩
theorem dX12_rules_93 : q_at cX12_rules 93 (.iload 4) 2 95 := ⟨by decide +kernel, rfl⟩
theorem dX12_rules_95 : q_at cX12_rules 95 (.invokevirtual 341) 3 98 := ⟨by decide +kernel, rfl⟩
theorem dX12_rules_98 : q_at cX12_rules 98 (.ireturn) 1 99 := ⟨by decide +kernel, rfl⟩
theorem dX12_rules_99 : q_at cX12_rules 99 (.ldc 90) 2 101 := ⟨by decide +kernel, rfl⟩
theorem dX12_rules_101 : q_at cX12_rules 101 (.ireturn) 1 102 := ⟨by decide +kernel, rfl⟩
theorem dX12_stop_0 : q_at cX12_stop 0 (.aload_n 0) 1 1 := ⟨by decide +kernel, rfl⟩
theorem dX12_stop_1 : q_at cX12_stop 1 (.iload_n 1) 1 2 := ⟨by decide +kernel, rfl⟩
theorem dX12_stop_2 : q_at cX12_stop 2 (.iload_n 2) 1 3 := ⟨by decide +kernel, rfl⟩
theorem dX12_stop_3 : q_at cX12_stop 3 (.iload_n 3) 1 4 := ⟨by decide +kernel, rfl⟩
theorem dX12_stop_4 : q_at cX12_stop 4 (.bipush 9) 2 6 := ⟨by decide +kernel, rfl⟩
theorem dX12_stop_6 : q_at cX12_stop 6 (.invokevirtual 347) 3 9 := ⟨by decide +kernel, rfl⟩
theorem dX12_stop_9 : q_at cX12_stop 9 (.istore 4) 2 11 := ⟨by decide +kernel, rfl⟩
theorem dX12_stop_11 : q_at cX12_stop 11 (.iload 4) 2 13 := ⟨by decide +kernel, rfl⟩
theorem dX12_stop_13 : q_at cX12_stop 13 (.ifCond .eq 8) 3 16 := ⟨by decide +kernel, rfl⟩
theorem dX12_stop_16 : q_at cX12_stop 16 (.iload 4) 2 18 := ⟨by decide +kernel, rfl⟩
theorem dX12_stop_18 : q_at cX12_stop 18 (.goto 11) 3 21 := ⟨by decide +kernel, rfl⟩
theorem dX12_stop_21 : q_at cX12_stop 21 (.aload_n 0) 1 22 := ⟨by decide +kernel, rfl⟩
theorem dX12_stop_22 : q_at cX12_stop 22 (.iconst 5) 1 23 := ⟨by decide +kernel, rfl⟩
theorem dX12_stop_23 : q_at cX12_stop 23 (.iload_n 1) 1 24 := ⟨by decide +kernel, rfl⟩
theorem dX12_stop_24 : q_at cX12_stop 24 (.iload_n 2) 1 25 := ⟨by decide +kernel, rfl⟩
theorem dX12_stop_25 : q_at cX12_stop 25 (.iload_n 3) 1 26 := ⟨by decide +kernel, rfl⟩
theorem dX12_stop_26 : q_at cX12_stop 26 (.invokevirtual 106) 3 29 := ⟨by decide +kernel, rfl⟩
theorem dX12_stop_29 : q_at cX12_stop 29 (.ireturn) 1 30 := ⟨by decide +kernel, rfl⟩
theorem dX12_strike_0 : q_at cX12_strike 0 (.aload_n 0) 1 1 := ⟨by decide +kernel, rfl⟩
theorem dX12_strike_1 : q_at cX12_strike 1 (.iload_n 1) 1 2 := ⟨by decide +kernel, rfl⟩
theorem dX12_strike_2 : q_at cX12_strike 2 (.iload_n 2) 1 3 := ⟨by decide +kernel, rfl⟩
theorem dX12_strike_3 : q_at cX12_strike 3 (.iconst 0) 1 4 := ⟨by decide +kernel, rfl⟩
theorem dX12_strike_4 : q_at cX12_strike 4 (.iconst 0) 1 5 := ⟨by decide +kernel, rfl⟩
theorem dX12_strike_5 : q_at cX12_strike 5 (.invokevirtual 347) 3 8 := ⟨by decide +kernel, rfl⟩
theorem dX12_strike_8 : q_at cX12_strike 8 (.istore_n 3) 1 9 := ⟨by decide +kernel, rfl⟩
theorem dX12_strike_9 : q_at cX12_strike 9 (.iload_n 3) 1 10 := ⟨by decide +kernel, rfl⟩
theorem dX12_strike_10 : q_at cX12_strike 10 (.ifCond .eq 5) 3 13 := ⟨by decide +kernel, rfl⟩
theorem dX12_strike_13 : q_at cX12_strike 13 (.iload_n 3) 1 14 := ⟨by decide +kernel, rfl⟩
theorem dX12_strike_14 : q_at cX12_strike 14 (.ireturn) 1 15 := ⟨by decide +kernel, rfl⟩
theorem dX12_strike_15 : q_at cX12_strike 15 (.aload_n 0) 1 16 := ⟨by decide +kernel, rfl⟩
theorem dX12_strike_16 : q_at cX12_strike 16 (.iconst 3) 1 17 := ⟨by decide +kernel, rfl⟩
theorem dX12_strike_17 : q_at cX12_strike 17 (.iload_n 1) 1 18 := ⟨by decide +kernel, rfl⟩
theorem dX12_strike_18 : q_at cX12_strike 18 (.iload_n 2) 1 19 := ⟨by decide +kernel, rfl⟩
theorem dX12_strike_19 : q_at cX12_strike 19 (.iconst 0) 1 20 := ⟨by decide +kernel, rfl⟩
theorem dX12_strike_20 : q_at cX12_strike 20 (.invokevirtual 106) 3 23 := ⟨by decide +kernel, rfl⟩
theorem dX12_strike_23 : q_at cX12_strike 23 (.istore 4) 2 25 := ⟨by decide +kernel, rfl⟩
theorem dX12_strike_25 : q_at cX12_strike 25 (.aload_n 0) 1 26 := ⟨by decide +kernel, rfl⟩
theorem dX12_strike_26 : q_at cX12_strike 26 (.getfield 7) 3 29 := ⟨by decide +kernel, rfl⟩
theorem dX12_strike_29 : q_at cX12_strike 29 (.aload_n 0) 1 30 := ⟨by decide +kernel, rfl⟩
theorem dX12_strike_30 : q_at cX12_strike 30 (.iload 4) 2 32 := ⟨by decide +kernel, rfl⟩
theorem dX12_strike_32 : q_at cX12_strike 32 (.invokevirtual 75) 3 35 := ⟨by decide +kernel, rfl⟩
theorem dX12_strike_35 : q_at cX12_strike 35 (.bipush 6) 2 37 := ⟨by decide +kernel, rfl⟩
theorem dX12_strike_37 : q_at cX12_strike 37 (.iadd) 1 38 := ⟨by decide +kernel, rfl⟩
theorem dX12_strike_38 : q_at cX12_strike 38 (.iload_n 1) 1 39 := ⟨by decide +kernel, rfl⟩
theorem dX12_strike_39 : q_at cX12_strike 39 (.iastore) 1 40 := ⟨by decide +kernel, rfl⟩
theorem dX12_strike_40 : q_at cX12_strike 40 (.iload 4) 2 42 := ⟨by decide +kernel, rfl⟩
theorem dX12_strike_42 : q_at cX12_strike 42 (.ireturn) 1 43 := ⟨by decide +kernel, rfl⟩
theorem dX12_eats_0 : q_at cX12_eats 0 (.aload_n 0) 1 1 := ⟨by decide +kernel, rfl⟩
theorem dX12_eats_1 : q_at cX12_eats 1 (.iload_n 1) 1 2 := ⟨by decide +kernel, rfl⟩
theorem dX12_eats_2 : q_at cX12_eats 2 (.invokevirtual 68) 3 5 := ⟨by decide +kernel, rfl⟩
theorem dX12_eats_5 : q_at cX12_eats 5 (.istore_n 2) 1 6 := ⟨by decide +kernel, rfl⟩
theorem dX12_eats_6 : q_at cX12_eats 6 (.aload_n 0) 1 7 := ⟨by decide +kernel, rfl⟩
theorem dX12_eats_7 : q_at cX12_eats 7 (.iload_n 1) 1 8 := ⟨by decide +kernel, rfl⟩
theorem dX12_eats_8 : q_at cX12_eats 8 (.invokevirtual 152) 3 11 := ⟨by decide +kernel, rfl⟩
theorem dX12_eats_11 : q_at cX12_eats 11 (.aload_n 0) 1 12 := ⟨by decide +kernel, rfl⟩
theorem dX12_eats_12 : q_at cX12_eats 12 (.iload_n 1) 1 13 := ⟨by decide +kernel, rfl⟩
theorem dX12_eats_13 : q_at cX12_eats 13 (.invokevirtual 135) 3 16 := ⟨by decide +kernel, rfl⟩
theorem dX12_eats_16 : q_at cX12_eats 16 (.ifCond .le 28) 3 19 := ⟨by decide +kernel, rfl⟩
theorem dX12_eats_19 : q_at cX12_eats 19 (.aload_n 0) 1 20 := ⟨by decide +kernel, rfl⟩
theorem dX12_eats_20 : q_at cX12_eats 20 (.getfield 7) 3 23 := ⟨by decide +kernel, rfl⟩
theorem dX12_eats_23 : q_at cX12_eats 23 (.iload_n 2) 1 24 := ⟨by decide +kernel, rfl⟩
theorem dX12_eats_24 : q_at cX12_eats 24 (.iconst 3) 1 25 := ⟨by decide +kernel, rfl⟩
theorem dX12_eats_25 : q_at cX12_eats 25 (.iadd) 1 26 := ⟨by decide +kernel, rfl⟩
theorem dX12_eats_26 : q_at cX12_eats 26 (.iconst 0) 1 27 := ⟨by decide +kernel, rfl⟩
theorem dX12_eats_27 : q_at cX12_eats 27 (.iastore) 1 28 := ⟨by decide +kernel, rfl⟩
theorem dX12_eats_28 : q_at cX12_eats 28 (.aload_n 0) 1 29 := ⟨by decide +kernel, rfl⟩
theorem dX12_eats_29 : q_at cX12_eats 29 (.getfield 7) 3 32 := ⟨by decide +kernel, rfl⟩
theorem dX12_eats_32 : q_at cX12_eats 32 (.iload_n 2) 1 33 := ⟨by decide +kernel, rfl⟩
theorem dX12_eats_33 : q_at cX12_eats 33 (.bipush 6) 2 35 := ⟨by decide +kernel, rfl⟩
theorem dX12_eats_35 : q_at cX12_eats 35 (.iadd) 1 36 := ⟨by decide +kernel, rfl⟩
theorem dX12_eats_36 : q_at cX12_eats 36 (.dup2) 1 37 := ⟨by decide +kernel, rfl⟩
theorem dX12_eats_37 : q_at cX12_eats 37 (.iaload) 1 38 := ⟨by decide +kernel, rfl⟩
theorem dX12_eats_38 : q_at cX12_eats 38 (.iconst 1) 1 39 := ⟨by decide +kernel, rfl⟩
theorem dX12_eats_39 : q_at cX12_eats 39 (.iadd) 1 40 := ⟨by decide +kernel, rfl⟩
theorem dX12_eats_40 : q_at cX12_eats 40 (.iastore) 1 41 := ⟨by decide +kernel, rfl⟩
theorem dX12_eats_41 : q_at cX12_eats 41 (.goto 51) 3 44 := ⟨by decide +kernel, rfl⟩
theorem dX12_eats_44 : q_at cX12_eats 44 (.aload_n 0) 1 45 := ⟨by decide +kernel, rfl⟩
theorem dX12_eats_45 : q_at cX12_eats 45 (.getfield 7) 3 48 := ⟨by decide +kernel, rfl⟩
theorem dX12_eats_48 : q_at cX12_eats 48 (.iload_n 2) 1 49 := ⟨by decide +kernel, rfl⟩
theorem dX12_eats_49 : q_at cX12_eats 49 (.iconst 3) 1 50 := ⟨by decide +kernel, rfl⟩
theorem dX12_eats_50 : q_at cX12_eats 50 (.iadd) 1 51 := ⟨by decide +kernel, rfl⟩
theorem dX12_eats_51 : q_at cX12_eats 51 (.dup2) 1 52 := ⟨by decide +kernel, rfl⟩
theorem dX12_eats_52 : q_at cX12_eats 52 (.iaload) 1 53 := ⟨by decide +kernel, rfl⟩
theorem dX12_eats_53 : q_at cX12_eats 53 (.aload_n 0) 1 54 := ⟨by decide +kernel, rfl⟩
theorem dX12_eats_54 : q_at cX12_eats 54 (.getfield 7) 3 57 := ⟨by decide +kernel, rfl⟩
theorem dX12_eats_57 : q_at cX12_eats 57 (.iload_n 2) 1 58 := ⟨by decide +kernel, rfl⟩
theorem dX12_eats_58 : q_at cX12_eats 58 (.iconst 2) 1 59 := ⟨by decide +kernel, rfl⟩
theorem dX12_eats_59 : q_at cX12_eats 59 (.iadd) 1 60 := ⟨by decide +kernel, rfl⟩
theorem dX12_eats_60 : q_at cX12_eats 60 (.iaload) 1 61 := ⟨by decide +kernel, rfl⟩
theorem dX12_eats_61 : q_at cX12_eats 61 (.isub) 1 62 := ⟨by decide +kernel, rfl⟩
theorem dX12_eats_62 : q_at cX12_eats 62 (.iastore) 1 63 := ⟨by decide +kernel, rfl⟩
theorem dX12_eats_63 : q_at cX12_eats 63 (.aload_n 0) 1 64 := ⟨by decide +kernel, rfl⟩
theorem dX12_eats_64 : q_at cX12_eats 64 (.getfield 7) 3 67 := ⟨by decide +kernel, rfl⟩
theorem dX12_eats_67 : q_at cX12_eats 67 (.iload_n 2) 1 68 := ⟨by decide +kernel, rfl⟩
theorem dX12_eats_68 : q_at cX12_eats 68 (.bipush 6) 2 70 := ⟨by decide +kernel, rfl⟩
theorem dX12_eats_70 : q_at cX12_eats 70 (.iadd) 1 71 := ⟨by decide +kernel, rfl⟩
theorem dX12_eats_71 : q_at cX12_eats 71 (.dup2) 1 72 := ⟨by decide +kernel, rfl⟩
theorem dX12_eats_72 : q_at cX12_eats 72 (.iaload) 1 73 := ⟨by decide +kernel, rfl⟩
theorem dX12_eats_73 : q_at cX12_eats 73 (.aload_n 0) 1 74 := ⟨by decide +kernel, rfl⟩
theorem dX12_eats_74 : q_at cX12_eats 74 (.getfield 7) 3 77 := ⟨by decide +kernel, rfl⟩
theorem dX12_eats_77 : q_at cX12_eats 77 (.iload_n 2) 1 78 := ⟨by decide +kernel, rfl⟩
theorem dX12_eats_78 : q_at cX12_eats 78 (.bipush 6) 2 80 := ⟨by decide +kernel, rfl⟩
theorem dX12_eats_80 : q_at cX12_eats 80 (.iadd) 1 81 := ⟨by decide +kernel, rfl⟩
theorem dX12_eats_81 : q_at cX12_eats 81 (.iaload) 1 82 := ⟨by decide +kernel, rfl⟩
theorem dX12_eats_82 : q_at cX12_eats 82 (.ifCond .le 7) 3 85 := ⟨by decide +kernel, rfl⟩
theorem dX12_eats_85 : q_at cX12_eats 85 (.iconst 1) 1 86 := ⟨by decide +kernel, rfl⟩
theorem dX12_eats_86 : q_at cX12_eats 86 (.goto 4) 3 89 := ⟨by decide +kernel, rfl⟩
theorem dX12_eats_89 : q_at cX12_eats 89 (.iconst 0) 1 90 := ⟨by decide +kernel, rfl⟩
theorem dX12_eats_90 : q_at cX12_eats 90 (.isub) 1 91 := ⟨by decide +kernel, rfl⟩
theorem dX12_eats_91 : q_at cX12_eats 91 (.iastore) 1 92 := ⟨by decide +kernel, rfl⟩
theorem dX12_eats_92 : q_at cX12_eats 92 (.aload_n 0) 1 93 := ⟨by decide +kernel, rfl⟩
theorem dX12_eats_93 : q_at cX12_eats 93 (.getfield 7) 3 96 := ⟨by decide +kernel, rfl⟩
theorem dX12_eats_96 : q_at cX12_eats 96 (.iload_n 2) 1 97 := ⟨by decide +kernel, rfl⟩
theorem dX12_eats_97 : q_at cX12_eats 97 (.bipush 9) 2 99 := ⟨by decide +kernel, rfl⟩
theorem dX12_eats_99 : q_at cX12_eats 99 (.iadd) 1 100 := ⟨by decide +kernel, rfl⟩
theorem dX12_eats_100 : q_at cX12_eats 100 (.aload_n 0) 1 101 := ⟨by decide +kernel, rfl⟩
theorem dX12_eats_101 : q_at cX12_eats 101 (.getfield 7) 3 104 := ⟨by decide +kernel, rfl⟩
theorem dX12_eats_104 : q_at cX12_eats 104 (.iload_n 2) 1 105 := ⟨by decide +kernel, rfl⟩
theorem dX12_eats_105 : q_at cX12_eats 105 (.bipush 6) 2 107 := ⟨by decide +kernel, rfl⟩
theorem dX12_eats_107 : q_at cX12_eats 107 (.iadd) 1 108 := ⟨by decide +kernel, rfl⟩
theorem dX12_eats_108 : q_at cX12_eats 108 (.iaload) 1 109 := ⟨by decide +kernel, rfl⟩
theorem dX12_eats_109 : q_at cX12_eats 109 (.bipush 9) 2 111 := ⟨by decide +kernel, rfl⟩
theorem dX12_eats_111 : q_at cX12_eats 111 (.if_icmp .lt 7) 3 114 := ⟨by decide +kernel, rfl⟩
theorem dX12_eats_114 : q_at cX12_eats 114 (.iconst 1) 1 115 := ⟨by decide +kernel, rfl⟩
theorem dX12_eats_115 : q_at cX12_eats 115 (.goto 4) 3 118 := ⟨by decide +kernel, rfl⟩
theorem dX12_eats_118 : q_at cX12_eats 118 (.iconst 0) 1 119 := ⟨by decide +kernel, rfl⟩
theorem dX12_eats_119 : q_at cX12_eats 119 (.iastore) 1 120 := ⟨by decide +kernel, rfl⟩
theorem dX12_eats_120 : q_at cX12_eats 120 (.return_) 1 121 := ⟨by decide +kernel, rfl⟩
def b_X12_dug_87 (this : Nat) (x1 : Int32) (x2 : Int32) (I : qI) (k46 : Int32 → Int32 → Option (Int32)) (x4 : Int32) (s0 : Int32) (s1 : Int32) : Option (Int32) :=
  k46 (s0 + s1) (x4 + (nI 1))
set_option maxRecDepth 100000 in
set_option maxHeartbeats 4000000 in
theorem p_X12_dug_87 {l : Launch} {Γ : qC} {g : qG} {z : Int32} {this : Nat} {x1 : Int32} {x2 : Int32} {X : qX} {I : qI} (hΓ : q_gm Γ) (hg : q_Ok l Γ RX12 cX12_dug 5 (q_rm 4 0 0) "dug" (some .int) g) (hr : q_Rt cX12_dug (some .int) (q_rm 4 0 0) (some (.int z), I, X) g) (hX : q_Lay X) (k_this : q_kd X this = some (14, 42)) {k46 : Int32 → Int32 → Option (Int32)} (hk46 : ∀ (x3 : Int32) (x4 : Int32), k46 x3 x4 = some z → g 0 0 46 [(0, .ref this), (1, .int x1), (3, .int x3), (4, .int x4)] [] I X) (x4 : Int32) (s0 : Int32) (s1 : Int32) (h : b_X12_dug_87 this x1 x2 I k46 x4 s0 s1 = some z) : g 0 0 87 [(0, .ref this), (1, .int x1), (4, .int x4)] [.int s1, .int s0] I X := by
  unfold b_X12_dug_87 at h
  refine r_iadd hg dX12_dug_87 ?_
  refine r_istore_n hg (L' := [(3, .int (s0 + s1)), (0, .ref this), (1, .int x1), (4, .int x4)]) dX12_dug_88 rfl (by decide) rfl ?_
  refine r_iinc hg 3 (v := (x4 + (nI 1))) (L' := [(4, .int (x4 + (nI 1))), (3, .int (s0 + s1)), (0, .ref this), (1, .int x1)]) dX12_dug_89 rfl (by rw [ci_1]) (by decide) rfl ?_
  refine r_goto hg 46 dX12_dug_92 (by decide) ?_
  refine r_sub hg [2, 3, 1, 0] rfl ?_
  exact hk46 _ _ h
def b_X12_dug_86 (this : Nat) (x1 : Int32) (x2 : Int32) (I : qI) (k46 : Int32 → Int32 → Option (Int32)) (x4 : Int32) (s0 : Int32) : Option (Int32) :=
  b_X12_dug_87 this x1 x2 I k46 x4 s0 (nI 0)
set_option maxRecDepth 100000 in
set_option maxHeartbeats 4000000 in
theorem p_X12_dug_86 {l : Launch} {Γ : qC} {g : qG} {z : Int32} {this : Nat} {x1 : Int32} {x2 : Int32} {X : qX} {I : qI} (hΓ : q_gm Γ) (hg : q_Ok l Γ RX12 cX12_dug 5 (q_rm 4 0 0) "dug" (some .int) g) (hr : q_Rt cX12_dug (some .int) (q_rm 4 0 0) (some (.int z), I, X) g) (hX : q_Lay X) (k_this : q_kd X this = some (14, 42)) {k46 : Int32 → Int32 → Option (Int32)} (hk46 : ∀ (x3 : Int32) (x4 : Int32), k46 x3 x4 = some z → g 0 0 46 [(0, .ref this), (1, .int x1), (3, .int x3), (4, .int x4)] [] I X) (x4 : Int32) (s0 : Int32) (h : b_X12_dug_86 this x1 x2 I k46 x4 s0 = some z) : g 0 0 86 [(0, .ref this), (1, .int x1), (4, .int x4)] [.int s0] I X := by
  unfold b_X12_dug_86 at h
  refine r_iconst hg dX12_dug_86 ci_0 ?_
  exact p_X12_dug_87 hΓ hg hr hX k_this hk46 _ _ _ h
def b_X12_dug_46 (this : Nat) (x1 : Int32) (x2 : Int32) (I : qI) (k46 : Int32 → Int32 → Option (Int32)) (x3 : Int32) (x4 : Int32) : Option (Int32) :=
  q_b1 (q_rd I (this + 1) 3580 (nI 2)) fun v2 =>
  if v2 ≤ x4 then
    some (x3)
  else
    q_b1 (f_X12_manAt this x4) fun v6 =>
    q_b1 (q_rd I (this + 1) 3580 v6) fun v8 =>
    if v8 = x1 then
      q_b1 (f_X12_isGone this x4 I) fun v11 =>
      if v11 = 0 then
        b_X12_dug_87 this x1 x2 I k46 x4 x3 (nI 1)
      else
        b_X12_dug_86 this x1 x2 I k46 x4 x3
    else
      b_X12_dug_86 this x1 x2 I k46 x4 x3
set_option maxRecDepth 100000 in
set_option maxHeartbeats 4000000 in
theorem p_X12_dug_46 {l : Launch} {Γ : qC} {g : qG} {z : Int32} {this : Nat} {x1 : Int32} {x2 : Int32} {X : qX} {I : qI} (hΓ : q_gm Γ) (hg : q_Ok l Γ RX12 cX12_dug 5 (q_rm 4 0 0) "dug" (some .int) g) (hr : q_Rt cX12_dug (some .int) (q_rm 4 0 0) (some (.int z), I, X) g) (hX : q_Lay X) (k_this : q_kd X this = some (14, 42)) {k46 : Int32 → Int32 → Option (Int32)} (hk46 : ∀ (x3 : Int32) (x4 : Int32), k46 x3 x4 = some z → g 0 0 46 [(0, .ref this), (1, .int x1), (3, .int x3), (4, .int x4)] [] I X) (x3 : Int32) (x4 : Int32) (h : b_X12_dug_46 this x1 x2 I k46 x3 x4 = some z) : g 0 0 46 [(0, .ref this), (1, .int x1), (3, .int x3), (4, .int x4)] [] I X := by
  unfold b_X12_dug_46 at h
  refine r_iload hg 3 dX12_dug_46 rfl ?_
  refine r_aload_n hg 0 dX12_dug_48 rfl rfl ?_
  have e1 := ly_12_0 hX k_this
  refine r_getR hg dX12_dug_49 fl_X12_7 k_this rfl e1.1 ?_
  refine r_iconst hg dX12_dug_52 ci_2 ?_
  obtain ⟨v2, e3, h⟩ := q_b1_some h
  refine r_iald hg dX12_dug_53 e1.2 e3 ?_
  refine r_icmp_ge hg 95 dX12_dug_54 (by decide) (fun c4 => ?_) (fun c4 => ?_)
  · rw [if_pos c4] at h
    refine r_iload_n hg 2 dX12_dug_95 rfl rfl ?_
    exact r_ireturn hr dX12_dug_96 ⟨Nat.zero_le _, Nat.zero_le _⟩ ⟨_, rfl, rfl⟩ (by cases h; rfl)
  · rw [if_neg c4] at h
    refine r_iload_n hg 2 dX12_dug_57 rfl rfl ?_
    refine r_aload_n hg 0 dX12_dug_58 rfl rfl ?_
    have e5 := ly_12_0 hX k_this
    refine r_getR hg dX12_dug_59 fl_X12_7 k_this rfl e5.1 ?_
    refine r_aload_n hg 0 dX12_dug_62 rfl rfl ?_
    refine r_iload hg 3 dX12_dug_63 rfl ?_
    obtain ⟨v6, e7, h⟩ := q_b1_some h
    refine r_cV1i hg dX12_dug_65 mt_X12_manAt ml_X12_68 mv_X12_manAt k_this (s_X12_manAt hΓ hX k_this e7) (q_room (Nat.le_of_ble_eq_true rfl) (Nat.le_of_ble_eq_true rfl)) ⟨Nat.zero_le _, Nat.zero_le _⟩ (Nat.le_of_ble_eq_true rfl) ?_
    obtain ⟨v8, e9, h⟩ := q_b1_some h
    refine r_iald hg dX12_dug_68 e5.2 e9 ?_
    refine r_iload_n hg 1 dX12_dug_69 rfl rfl ?_
    refine r_icmp_ne hg 86 dX12_dug_70 (by decide) (fun c10 => ?_) (fun c10 => ?_)
    · rw [if_neg c10] at h
      refine r_sub hg [0, 1, 3] rfl ?_
      exact p_X12_dug_86 hΓ hg hr hX k_this hk46 _ _ h
    · rw [if_pos (Classical.not_not.mp c10)] at h
      refine r_aload_n hg 0 dX12_dug_73 rfl rfl ?_
      refine r_iload hg 3 dX12_dug_74 rfl ?_
      obtain ⟨v11, e12, h⟩ := q_b1_some h
      refine r_cV1i hg dX12_dug_76 mt_X12_isGone ml_X12_93 mv_X12_isGone k_this (s_X12_isGone hΓ hX k_this e12) (q_room (Nat.le_of_ble_eq_true rfl) (Nat.le_of_ble_eq_true rfl)) ⟨Nat.zero_le _, Nat.zero_le _⟩ (Nat.le_of_ble_eq_true rfl) ?_
      refine r_if_ne hg 86 dX12_dug_79 (by decide) (fun c13 => ?_) (fun c13 => ?_)
      · rw [if_neg c13] at h
        refine r_sub hg [0, 1, 3] rfl ?_
        exact p_X12_dug_86 hΓ hg hr hX k_this hk46 _ _ h
      · rw [if_pos (Classical.not_not.mp c13)] at h
        refine r_iconst hg dX12_dug_82 ci_1 ?_
        refine r_goto hg 87 dX12_dug_83 (by decide) ?_
        refine r_sub hg [0, 1, 3] rfl ?_
        exact p_X12_dug_87 hΓ hg hr hX k_this hk46 _ _ _ h
theorem pl_X12_dug_46 {l : Launch} {Γ : qC} {g : qG} {z : Int32} {this : Nat} {x1 : Int32} {x2 : Int32} {X : qX} {I : qI} (hΓ : q_gm Γ) (hg : q_Ok l Γ RX12 cX12_dug 5 (q_rm 4 0 0) "dug" (some .int) g) (hr : q_Rt cX12_dug (some .int) (q_rm 4 0 0) (some (.int z), I, X) g) (hX : q_Lay X) (k_this : q_kd X this = some (14, 42)) : ∀ (n : Nat) (x3 : Int32) (x4 : Int32), q_fix (fun _ _ => none) (b_X12_dug_46 this x1 x2 I) n x3 x4 = some z → g 0 0 46 [(0, .ref this), (1, .int x1), (3, .int x3), (4, .int x4)] [] I X := by
  intro n
  induction n with
  | zero =>
    intro x3 x4 h
    cases (show (none : Option (Int32)) = some z from h)
  | succ n ih =>
    intro x3 x4 h
    exact p_X12_dug_46 hΓ hg hr hX k_this ih _ _ h
def f_X12_dug (this : Nat) (x1 : Int32) (x2 : Int32) (I : qI) : Option (Int32) :=
  q_b1 (f_X12_isPit x1) fun v1 =>
  if v1 = 0 then
    some ((-1000000001))
  else
    q_b1 (f_X12_isIn x2.toInt64 (0 : Int64) (5 : Int64)) fun v4 =>
    if v4 = 0 then
      some ((-1000000001))
    else
      if (nI 5) ≤ x2 then
        q_fix (fun _ _ => none) (b_X12_dug_46 this x1 x2 I) q_fu (nI 0) (nI 0)
      else
        q_b1 (q_rd I (this + 1) 3580 (((nI 10) + ((nI 5) * x1)) + x2)) fun v9 =>
        some (v9)
set_option maxRecDepth 100000 in
set_option maxHeartbeats 4000000 in
theorem s_X12_dug {l : Launch} {Γ : qC} (hΓ : q_gm Γ) {X : qX} (hX : q_Lay X) {this : Nat} {x1 : Int32} {x2 : Int32} (k_this : q_kd X this = some (14, 42)) {I : qI} {z : Int32} (h : f_X12_dug this x1 x2 I = some z) : q_Sem l Γ (q_rm 4 0 0) yX12_dug cX12_dug 5 (some .int) [.ref this, .int x1, .int x2] I X (some (.int z), I, X) := by
  refine q_met (by decide) (Nat.le_of_ble_eq_true rfl) (fun g hg hr => ?_)
  unfold f_X12_dug at h
  show g 0 0 0 [(0, .ref this), (1, .int x1), (2, .int x2)] [] I X
  refine r_iload_n hg 1 dX12_dug_0 rfl rfl ?_
  obtain ⟨v1, e2, h⟩ := q_b1_some h
  refine r_cS1i hg dX12_dug_1 mt_X12_isPit ⟨ml_X12_78, mst_X12_isPit⟩ (s_X12_isPit hΓ hX e2) (q_room (Nat.le_of_ble_eq_true rfl) (Nat.le_of_ble_eq_true rfl)) ⟨Nat.zero_le _, Nat.zero_le _⟩ (Nat.le_of_ble_eq_true rfl) ?_
  refine r_if_eq hg 19 dX12_dug_4 (by decide) (fun c3 => ?_) (fun c3 => ?_)
  · rw [if_pos c3] at h
    refine r_ldc hg dX12_dug_19 kc_X12_90 ?_
    exact r_ireturn hr dX12_dug_21 ⟨Nat.zero_le _, Nat.zero_le _⟩ ⟨_, rfl, rfl⟩ (by cases h; rfl)
  · rw [if_neg c3] at h
    refine r_iload_n hg 2 dX12_dug_7 rfl rfl ?_
    refine r_i2l hg dX12_dug_8 ?_
    refine r_lconst hg dX12_dug_9 lc_0 ?_
    refine r_ldc2 hg dX12_dug_10 kl_X12_91 ?_
    obtain ⟨v4, e5, h⟩ := q_b1_some h
    refine r_cS3i hg dX12_dug_13 mt_X12_isIn ⟨ml_X12_64, mst_X12_isIn⟩ (s_X12_isIn hΓ hX e5) (q_room (Nat.le_of_ble_eq_true rfl) (Nat.le_of_ble_eq_true rfl)) ⟨Nat.zero_le _, Nat.zero_le _⟩ (Nat.le_of_ble_eq_true rfl) ?_
    refine r_if_ne hg 22 dX12_dug_16 (by decide) (fun c6 => ?_) (fun c6 => ?_)
    · rw [if_neg c6] at h
      refine r_iload_n hg 2 dX12_dug_22 rfl rfl ?_
      refine r_iconst hg dX12_dug_23 ci_5 ?_
      refine r_icmp_ge hg 41 dX12_dug_24 (by decide) (fun c7 => ?_) (fun c7 => ?_)
      · rw [if_pos c7] at h
        refine r_iconst hg dX12_dug_41 ci_0 ?_
        refine r_istore_n hg (L' := [(3, .int (nI 0)), (0, .ref this), (1, .int x1), (2, .int x2)]) dX12_dug_42 rfl (by decide) rfl ?_
        refine r_iconst hg dX12_dug_43 ci_0 ?_
        refine r_istore hg (L' := [(4, .int (nI 0)), (3, .int (nI 0)), (0, .ref this), (1, .int x1), (2, .int x2)]) dX12_dug_44 (by decide) rfl ?_
        refine r_sub hg [2, 3, 1, 0] rfl ?_
        exact pl_X12_dug_46 hΓ hg hr hX k_this _ _ _ h
      · rw [if_neg c7] at h
        refine r_aload_n hg 0 dX12_dug_27 rfl rfl ?_
        have e8 := ly_12_0 hX k_this
        refine r_getR hg dX12_dug_28 fl_X12_7 k_this rfl e8.1 ?_
        refine r_bipush hg dX12_dug_31 cb_10 ?_
        refine r_iconst hg dX12_dug_33 ci_5 ?_
        refine r_iload_n hg 1 dX12_dug_34 rfl rfl ?_
        refine r_imul hg dX12_dug_35 ?_
        refine r_iadd hg dX12_dug_36 ?_
        refine r_iload_n hg 2 dX12_dug_37 rfl rfl ?_
        refine r_iadd hg dX12_dug_38 ?_
        obtain ⟨v9, e10, h⟩ := q_b1_some h
        refine r_iald hg dX12_dug_39 e8.2 e10 ?_
        exact r_ireturn hr dX12_dug_40 ⟨Nat.zero_le _, Nat.zero_le _⟩ ⟨_, rfl, rfl⟩ (by cases h; rfl)
    · rw [if_pos (Classical.not_not.mp c6)] at h
      refine r_ldc hg dX12_dug_19 kc_X12_90 ?_
      exact r_ireturn hr dX12_dug_21 ⟨Nat.zero_le _, Nat.zero_le _⟩ ⟨_, rfl, rfl⟩ (by cases h; rfl)

def f_X12_fineOf (this : Nat) (x1 : Int32) (x2 : Int32) (I : qI) : Option (Int32 × qI) :=
  q_b1 (f_X12_counts this (nI 4) I) fun v1 =>
  q_b1 (q_wr I (this + 8) 128 (nI 97) x1) fun I4 =>
  q_b1 (q_wr I4 (this + 8) 128 (nI 98) x2) fun I7 =>
  if 0 ≤ v1 then
    q_b2 (f_X12_worked this v1 I7) fun v10 I11 =>
    some (v10, I11)
  else
    some ((nI 1), I7)
set_option maxRecDepth 100000 in
set_option maxHeartbeats 4000000 in
theorem s_X12_fineOf {l : Launch} {Γ : qC} (hΓ : q_gm Γ) {X : qX} (hX : q_Lay X) {this : Nat} {x1 : Int32} {x2 : Int32} (k_this : q_kd X this = some (14, 42)) {I : qI} {z : Int32 × qI} (h : f_X12_fineOf this x1 x2 I = some z) : q_Sem l Γ (q_rm 4 0 0) yX12_fineOf cX12_fineOf 4 (some .int) [.ref this, .int x1, .int x2] I X (some (.int z.1), z.2, X) := by
  refine q_met (by decide) (Nat.le_of_ble_eq_true rfl) (fun g hg hr => ?_)
  unfold f_X12_fineOf at h
  show g 0 0 0 [(0, .ref this), (1, .int x1), (2, .int x2)] [] I X
  refine r_aload_n hg 0 dX12_fineOf_0 rfl rfl ?_
  refine r_iconst hg dX12_fineOf_1 ci_4 ?_
  obtain ⟨v1, e2, h⟩ := q_b1_some h
  refine r_cV1i hg dX12_fineOf_2 mt_X12_counts ml_X12_313 mv_X12_counts k_this (s_X12_counts hΓ hX k_this e2) (q_room (Nat.le_of_ble_eq_true rfl) (Nat.le_of_ble_eq_true rfl)) ⟨Nat.zero_le _, Nat.zero_le _⟩ (Nat.le_of_ble_eq_true rfl) ?_
  refine r_istore_n hg (L' := [(3, .int v1), (0, .ref this), (1, .int x1), (2, .int x2)]) dX12_fineOf_5 rfl (by decide) rfl ?_
  refine r_aload_n hg 1 dX12_fineOf_6 rfl rfl ?_
  have e3 := ly_12_26 hX k_this
  refine r_getR hg dX12_fineOf_7 fl_X12_31 k_this rfl e3.1 ?_
  refine r_bipush hg dX12_fineOf_10 cb_97 ?_
  refine r_iload_n hg 2 dX12_fineOf_12 rfl rfl ?_
  obtain ⟨I4, e5, h⟩ := q_b1_some h
  refine r_iast hg dX12_fineOf_13 e3.2 e5 ?_
  refine r_aload_n hg 1 dX12_fineOf_14 rfl rfl ?_
  have e6 := ly_12_26 hX k_this
  refine r_getR hg dX12_fineOf_15 fl_X12_31 k_this rfl e6.1 ?_
  refine r_bipush hg dX12_fineOf_18 cb_98 ?_
  refine r_iload_n hg 3 dX12_fineOf_20 rfl rfl ?_
  obtain ⟨I7, e8, h⟩ := q_b1_some h
  refine r_iast hg dX12_fineOf_21 e6.2 e8 ?_
  refine r_iload_n hg 0 dX12_fineOf_22 rfl rfl ?_
  refine r_if_ge hg 30 dX12_fineOf_23 (by decide) (fun c9 => ?_) (fun c9 => ?_)
  · rw [if_pos c9] at h
    refine r_aload_n hg 1 dX12_fineOf_30 rfl rfl ?_
    refine r_iload_n hg 0 dX12_fineOf_31 rfl rfl ?_
    obtain ⟨v10, I11, e12, h⟩ := q_b2_some h
    refine r_cV1i hg dX12_fineOf_32 mt_X12_worked ml_X12_322 mv_X12_worked k_this (s_X12_worked hΓ hX k_this e12) (q_room (Nat.le_of_ble_eq_true rfl) (Nat.le_of_ble_eq_true rfl)) ⟨Nat.zero_le _, Nat.zero_le _⟩ (Nat.le_of_ble_eq_true rfl) ?_
    exact r_ireturn hr dX12_fineOf_35 ⟨Nat.zero_le _, Nat.zero_le _⟩ ⟨_, rfl, rfl⟩ (by cases h; rfl)
  · rw [if_neg c9] at h
    refine r_iconst hg dX12_fineOf_26 ci_1 ?_
    refine r_goto hg 35 dX12_fineOf_27 (by decide) ?_
    exact r_ireturn hr dX12_fineOf_35 ⟨Nat.zero_le _, Nat.zero_le _⟩ ⟨_, rfl, rfl⟩ (by cases h; rfl)

def f_X12_hear (this : Nat) (x1 : Int32) (x2 : Int32) (I : qI) : Option (Int32 × qI) :=
  q_b1 (f_X12_isMan this x1 I) fun v1 =>
  if v1 = 0 then
    some ((-1000000001), I)
  else
    q_b1 (f_X12_isShop this x2 I) fun v4 =>
    if v4 = 0 then
      some ((-1000000001), I)
    else
      q_b1 (f_X12_knows this x1 x2 I) fun I7 =>
      some ((nI 1), I7)
set_option maxRecDepth 100000 in
set_option maxHeartbeats 4000000 in
theorem s_X12_hear {l : Launch} {Γ : qC} (hΓ : q_gm Γ) {X : qX} (hX : q_Lay X) {this : Nat} {x1 : Int32} {x2 : Int32} (k_this : q_kd X this = some (14, 42)) {I : qI} {z : Int32 × qI} (h : f_X12_hear this x1 x2 I = some z) : q_Sem l Γ (q_rm 4 0 0) yX12_hear cX12_hear 3 (some .int) [.ref this, .int x1, .int x2] I X (some (.int z.1), z.2, X) := by
  refine q_met (by decide) (Nat.le_of_ble_eq_true rfl) (fun g hg hr => ?_)
  unfold f_X12_hear at h
  show g 0 0 0 [(0, .ref this), (1, .int x1), (2, .int x2)] [] I X
  refine r_aload_n hg 0 dX12_hear_0 rfl rfl ?_
  refine r_iload_n hg 1 dX12_hear_1 rfl rfl ?_
  obtain ⟨v1, e2, h⟩ := q_b1_some h
  refine r_cV1i hg dX12_hear_2 mt_X12_isMan ml_X12_110 mv_X12_isMan k_this (s_X12_isMan hΓ hX k_this e2) (q_room (Nat.le_of_ble_eq_true rfl) (Nat.le_of_ble_eq_true rfl)) ⟨Nat.zero_le _, Nat.zero_le _⟩ (Nat.le_of_ble_eq_true rfl) ?_
  refine r_if_eq hg 16 dX12_hear_5 (by decide) (fun c3 => ?_) (fun c3 => ?_)
  · rw [if_pos c3] at h
    refine r_ldc hg dX12_hear_16 kc_X12_90 ?_
    exact r_ireturn hr dX12_hear_18 ⟨Nat.zero_le _, Nat.zero_le _⟩ ⟨_, rfl, rfl⟩ (by cases h; rfl)
  · rw [if_neg c3] at h
    refine r_aload_n hg 0 dX12_hear_8 rfl rfl ?_
    refine r_iload_n hg 2 dX12_hear_9 rfl rfl ?_
    obtain ⟨v4, e5, h⟩ := q_b1_some h
    refine r_cV1i hg dX12_hear_10 mt_X12_isShop ml_X12_99 mv_X12_isShop k_this (s_X12_isShop hΓ hX k_this e5) (q_room (Nat.le_of_ble_eq_true rfl) (Nat.le_of_ble_eq_true rfl)) ⟨Nat.zero_le _, Nat.zero_le _⟩ (Nat.le_of_ble_eq_true rfl) ?_
    refine r_if_ne hg 19 dX12_hear_13 (by decide) (fun c6 => ?_) (fun c6 => ?_)
    · rw [if_neg c6] at h
      refine r_aload_n hg 0 dX12_hear_19 rfl rfl ?_
      refine r_iload_n hg 1 dX12_hear_20 rfl rfl ?_
      refine r_iload_n hg 2 dX12_hear_21 rfl rfl ?_
      obtain ⟨I7, e8, h⟩ := q_b1_some h
      refine r_cV2v hg dX12_hear_22 mt_X12_knows ml_X12_121 mv_X12_knows k_this (s_X12_knows hΓ hX k_this e8) (q_room (Nat.le_of_ble_eq_true rfl) (Nat.le_of_ble_eq_true rfl)) ⟨Nat.zero_le _, Nat.zero_le _⟩ (Nat.le_of_ble_eq_true rfl) ?_
      refine r_iconst hg dX12_hear_25 ci_1 ?_
      exact r_ireturn hr dX12_hear_26 ⟨Nat.zero_le _, Nat.zero_le _⟩ ⟨_, rfl, rfl⟩ (by cases h; rfl)
    · rw [if_pos (Classical.not_not.mp c6)] at h
      refine r_ldc hg dX12_hear_16 kc_X12_90 ?_
      exact r_ireturn hr dX12_hear_18 ⟨Nat.zero_le _, Nat.zero_le _⟩ ⟨_, rfl, rfl⟩ (by cases h; rfl)

def f_X12_is (this : Nat) (x1 : Int32) (x2 : Int32) (I : qI) : Option (Int32) :=
  q_b1 (f_X12_isMan this x1 I) fun v1 =>
  if v1 = 0 then
    some ((-1000000001))
  else
    q_b1 (f_X12_isIn x2.toInt64 (0 : Int64) (13 : Int64)) fun v4 =>
    if v4 = 0 then
      some ((-1000000001))
    else
      if (nI 10) ≤ x2 then
        if x2 = (nI 10) then
          q_b1 (f_X12_earned this x1 I) fun v17 =>
          some (v17)
        else
          if x2 = (nI 11) then
            q_b1 (f_X12_owedBy this x1 I) fun v15 =>
            some (v15)
          else
            q_b1 (f_X12_manAt this x1) fun v11 =>
            q_b1 (q_rd I (this + 1) 3580 ((v11 + x2) - (nI 2))) fun v13 =>
            some (v13)
      else
        q_b1 (f_X12_manAt this x1) fun v20 =>
        q_b1 (q_rd I (this + 1) 3580 (v20 + x2)) fun v22 =>
        some (v22)
set_option maxRecDepth 100000 in
set_option maxHeartbeats 4000000 in
theorem s_X12_is {l : Launch} {Γ : qC} (hΓ : q_gm Γ) {X : qX} (hX : q_Lay X) {this : Nat} {x1 : Int32} {x2 : Int32} (k_this : q_kd X this = some (14, 42)) {I : qI} {z : Int32} (h : f_X12_is this x1 x2 I = some z) : q_Sem l Γ (q_rm 4 0 0) yX12_is cX12_is 3 (some .int) [.ref this, .int x1, .int x2] I X (some (.int z), I, X) := by
  refine q_met (by decide) (Nat.le_of_ble_eq_true rfl) (fun g hg hr => ?_)
  unfold f_X12_is at h
  show g 0 0 0 [(0, .ref this), (1, .int x1), (2, .int x2)] [] I X
  refine r_aload_n hg 0 dX12_is_0 rfl rfl ?_
  refine r_iload_n hg 1 dX12_is_1 rfl rfl ?_
  obtain ⟨v1, e2, h⟩ := q_b1_some h
  refine r_cV1i hg dX12_is_2 mt_X12_isMan ml_X12_110 mv_X12_isMan k_this (s_X12_isMan hΓ hX k_this e2) (q_room (Nat.le_of_ble_eq_true rfl) (Nat.le_of_ble_eq_true rfl)) ⟨Nat.zero_le _, Nat.zero_le _⟩ (Nat.le_of_ble_eq_true rfl) ?_
  refine r_if_eq hg 20 dX12_is_5 (by decide) (fun c3 => ?_) (fun c3 => ?_)
  · rw [if_pos c3] at h
    refine r_ldc hg dX12_is_20 kc_X12_90 ?_
    exact r_ireturn hr dX12_is_22 ⟨Nat.zero_le _, Nat.zero_le _⟩ ⟨_, rfl, rfl⟩ (by cases h; rfl)
  · rw [if_neg c3] at h
    refine r_iload_n hg 2 dX12_is_8 rfl rfl ?_
    refine r_i2l hg dX12_is_9 ?_
    refine r_lconst hg dX12_is_10 lc_0 ?_
    refine r_ldc2 hg dX12_is_11 kl_X12_113 ?_
    obtain ⟨v4, e5, h⟩ := q_b1_some h
    refine r_cS3i hg dX12_is_14 mt_X12_isIn ⟨ml_X12_64, mst_X12_isIn⟩ (s_X12_isIn hΓ hX e5) (q_room (Nat.le_of_ble_eq_true rfl) (Nat.le_of_ble_eq_true rfl)) ⟨Nat.zero_le _, Nat.zero_le _⟩ (Nat.le_of_ble_eq_true rfl) ?_
    refine r_if_ne hg 23 dX12_is_17 (by decide) (fun c6 => ?_) (fun c6 => ?_)
    · rw [if_neg c6] at h
      refine r_iload_n hg 2 dX12_is_23 rfl rfl ?_
      refine r_bipush hg dX12_is_24 cb_10 ?_
      refine r_icmp_ge hg 44 dX12_is_26 (by decide) (fun c7 => ?_) (fun c7 => ?_)
      · rw [if_pos c7] at h
        refine r_iload_n hg 2 dX12_is_44 rfl rfl ?_
        refine r_bipush hg dX12_is_45 cb_10 ?_
        refine r_icmp_ne hg 58 dX12_is_47 (by decide) (fun c8 => ?_) (fun c8 => ?_)
        · rw [if_neg c8] at h
          refine r_iload_n hg 2 dX12_is_58 rfl rfl ?_
          refine r_bipush hg dX12_is_59 cb_11 ?_
          refine r_icmp_ne hg 72 dX12_is_61 (by decide) (fun c9 => ?_) (fun c9 => ?_)
          · rw [if_neg c9] at h
            refine r_aload_n hg 0 dX12_is_72 rfl rfl ?_
            have e10 := ly_12_0 hX k_this
            refine r_getR hg dX12_is_73 fl_X12_7 k_this rfl e10.1 ?_
            refine r_aload_n hg 0 dX12_is_76 rfl rfl ?_
            refine r_iload_n hg 1 dX12_is_77 rfl rfl ?_
            obtain ⟨v11, e12, h⟩ := q_b1_some h
            refine r_cV1i hg dX12_is_78 mt_X12_manAt ml_X12_68 mv_X12_manAt k_this (s_X12_manAt hΓ hX k_this e12) (q_room (Nat.le_of_ble_eq_true rfl) (Nat.le_of_ble_eq_true rfl)) ⟨Nat.zero_le _, Nat.zero_le _⟩ (Nat.le_of_ble_eq_true rfl) ?_
            refine r_iload_n hg 2 dX12_is_81 rfl rfl ?_
            refine r_iadd hg dX12_is_82 ?_
            refine r_iconst hg dX12_is_83 ci_2 ?_
            refine r_isub hg dX12_is_84 ?_
            obtain ⟨v13, e14, h⟩ := q_b1_some h
            refine r_iald hg dX12_is_85 e10.2 e14 ?_
            exact r_ireturn hr dX12_is_86 ⟨Nat.zero_le _, Nat.zero_le _⟩ ⟨_, rfl, rfl⟩ (by cases h; rfl)
          · rw [if_pos (Classical.not_not.mp c9)] at h
            refine r_aload_n hg 0 dX12_is_64 rfl rfl ?_
            refine r_iload_n hg 1 dX12_is_65 rfl rfl ?_
            obtain ⟨v15, e16, h⟩ := q_b1_some h
            refine r_cV1i hg dX12_is_66 mt_X12_owedBy ml_X12_118 mv_X12_owedBy k_this (s_X12_owedBy hΓ hX k_this e16) (q_room (Nat.le_of_ble_eq_true rfl) (Nat.le_of_ble_eq_true rfl)) ⟨Nat.zero_le _, Nat.zero_le _⟩ (Nat.le_of_ble_eq_true rfl) ?_
            refine r_goto hg 86 dX12_is_69 (by decide) ?_
            exact r_ireturn hr dX12_is_86 ⟨Nat.zero_le _, Nat.zero_le _⟩ ⟨_, rfl, rfl⟩ (by cases h; rfl)
        · rw [if_pos (Classical.not_not.mp c8)] at h
          refine r_aload_n hg 0 dX12_is_50 rfl rfl ?_
          refine r_iload_n hg 1 dX12_is_51 rfl rfl ?_
          obtain ⟨v17, e18, h⟩ := q_b1_some h
          refine r_cV1i hg dX12_is_52 mt_X12_earned ml_X12_115 mv_X12_earned k_this (s_X12_earned hΓ hX k_this e18) (q_room (Nat.le_of_ble_eq_true rfl) (Nat.le_of_ble_eq_true rfl)) ⟨Nat.zero_le _, Nat.zero_le _⟩ (Nat.le_of_ble_eq_true rfl) ?_
          refine r_goto hg 86 dX12_is_55 (by decide) ?_
          exact r_ireturn hr dX12_is_86 ⟨Nat.zero_le _, Nat.zero_le _⟩ ⟨_, rfl, rfl⟩ (by cases h; rfl)
      · rw [if_neg c7] at h
        refine r_aload_n hg 0 dX12_is_29 rfl rfl ?_
        have e19 := ly_12_0 hX k_this
        refine r_getR hg dX12_is_30 fl_X12_7 k_this rfl e19.1 ?_
        refine r_aload_n hg 0 dX12_is_33 rfl rfl ?_
        refine r_iload_n hg 1 dX12_is_34 rfl rfl ?_
        obtain ⟨v20, e21, h⟩ := q_b1_some h
        refine r_cV1i hg dX12_is_35 mt_X12_manAt ml_X12_68 mv_X12_manAt k_this (s_X12_manAt hΓ hX k_this e21) (q_room (Nat.le_of_ble_eq_true rfl) (Nat.le_of_ble_eq_true rfl)) ⟨Nat.zero_le _, Nat.zero_le _⟩ (Nat.le_of_ble_eq_true rfl) ?_
        refine r_iload_n hg 2 dX12_is_38 rfl rfl ?_
        refine r_iadd hg dX12_is_39 ?_
        obtain ⟨v22, e23, h⟩ := q_b1_some h
        refine r_iald hg dX12_is_40 e19.2 e23 ?_
        refine r_goto hg 86 dX12_is_41 (by decide) ?_
        exact r_ireturn hr dX12_is_86 ⟨Nat.zero_le _, Nat.zero_le _⟩ ⟨_, rfl, rfl⟩ (by cases h; rfl)
    · rw [if_pos (Classical.not_not.mp c6)] at h
      refine r_ldc hg dX12_is_20 kc_X12_90 ?_
      exact r_ireturn hr dX12_is_22 ⟨Nat.zero_le _, Nat.zero_le _⟩ ⟨_, rfl, rfl⟩ (by cases h; rfl)

def f_X12_keepOf (this : Nat) (x1 : Int32) (x2 : Int32) (I : qI) : Option (Int32 × qI) :=
  q_b1 (f_X12_counts this (nI 5) I) fun v1 =>
  q_b1 (q_wr I (this + 8) 128 (nI 98) x1) fun I4 =>
  q_b1 (q_wr I4 (this + 8) 128 (nI 100) x2) fun I7 =>
  if 0 ≤ v1 then
    q_b2 (f_X12_worked this v1 I7) fun v10 I11 =>
    some (v10, I11)
  else
    some ((nI 1), I7)
set_option maxRecDepth 100000 in
set_option maxHeartbeats 4000000 in
theorem s_X12_keepOf {l : Launch} {Γ : qC} (hΓ : q_gm Γ) {X : qX} (hX : q_Lay X) {this : Nat} {x1 : Int32} {x2 : Int32} (k_this : q_kd X this = some (14, 42)) {I : qI} {z : Int32 × qI} (h : f_X12_keepOf this x1 x2 I = some z) : q_Sem l Γ (q_rm 4 0 0) yX12_keepOf cX12_keepOf 4 (some .int) [.ref this, .int x1, .int x2] I X (some (.int z.1), z.2, X) := by
  refine q_met (by decide) (Nat.le_of_ble_eq_true rfl) (fun g hg hr => ?_)
  unfold f_X12_keepOf at h
  show g 0 0 0 [(0, .ref this), (1, .int x1), (2, .int x2)] [] I X
  refine r_aload_n hg 0 dX12_keepOf_0 rfl rfl ?_
  refine r_iconst hg dX12_keepOf_1 ci_5 ?_
  obtain ⟨v1, e2, h⟩ := q_b1_some h
  refine r_cV1i hg dX12_keepOf_2 mt_X12_counts ml_X12_313 mv_X12_counts k_this (s_X12_counts hΓ hX k_this e2) (q_room (Nat.le_of_ble_eq_true rfl) (Nat.le_of_ble_eq_true rfl)) ⟨Nat.zero_le _, Nat.zero_le _⟩ (Nat.le_of_ble_eq_true rfl) ?_
  refine r_istore_n hg (L' := [(3, .int v1), (0, .ref this), (1, .int x1), (2, .int x2)]) dX12_keepOf_5 rfl (by decide) rfl ?_
  refine r_aload_n hg 1 dX12_keepOf_6 rfl rfl ?_
  have e3 := ly_12_26 hX k_this
  refine r_getR hg dX12_keepOf_7 fl_X12_31 k_this rfl e3.1 ?_
  refine r_bipush hg dX12_keepOf_10 cb_98 ?_
  refine r_iload_n hg 2 dX12_keepOf_12 rfl rfl ?_
  obtain ⟨I4, e5, h⟩ := q_b1_some h
  refine r_iast hg dX12_keepOf_13 e3.2 e5 ?_
  refine r_aload_n hg 1 dX12_keepOf_14 rfl rfl ?_
  have e6 := ly_12_26 hX k_this
  refine r_getR hg dX12_keepOf_15 fl_X12_31 k_this rfl e6.1 ?_
  refine r_bipush hg dX12_keepOf_18 cb_100 ?_
  refine r_iload_n hg 3 dX12_keepOf_20 rfl rfl ?_
  obtain ⟨I7, e8, h⟩ := q_b1_some h
  refine r_iast hg dX12_keepOf_21 e6.2 e8 ?_
  refine r_iload_n hg 0 dX12_keepOf_22 rfl rfl ?_
  refine r_if_ge hg 30 dX12_keepOf_23 (by decide) (fun c9 => ?_) (fun c9 => ?_)
  · rw [if_pos c9] at h
    refine r_aload_n hg 1 dX12_keepOf_30 rfl rfl ?_
    refine r_iload_n hg 0 dX12_keepOf_31 rfl rfl ?_
    obtain ⟨v10, I11, e12, h⟩ := q_b2_some h
    refine r_cV1i hg dX12_keepOf_32 mt_X12_worked ml_X12_322 mv_X12_worked k_this (s_X12_worked hΓ hX k_this e12) (q_room (Nat.le_of_ble_eq_true rfl) (Nat.le_of_ble_eq_true rfl)) ⟨Nat.zero_le _, Nat.zero_le _⟩ (Nat.le_of_ble_eq_true rfl) ?_
    exact r_ireturn hr dX12_keepOf_35 ⟨Nat.zero_le _, Nat.zero_le _⟩ ⟨_, rfl, rfl⟩ (by cases h; rfl)
  · rw [if_neg c9] at h
    refine r_iconst hg dX12_keepOf_26 ci_1 ?_
    refine r_goto hg 35 dX12_keepOf_27 (by decide) ?_
    exact r_ireturn hr dX12_keepOf_35 ⟨Nat.zero_le _, Nat.zero_le _⟩ ⟨_, rfl, rfl⟩ (by cases h; rfl)

def f_X12_known (this : Nat) (x1 : Int32) (x2 : Int32) (x3 : Int32) (I : qI) : Option (Int32) :=
  q_b1 (f_X12_isMan this x1 I) fun v1 =>
  if v1 = 0 then
    some ((-1000000001))
  else
    q_b1 (f_X12_isShop this x2 I) fun v4 =>
    if v4 = 0 then
      some ((-1000000001))
    else
      q_b1 (f_X12_isIn x3.toInt64 (0 : Int64) (1 : Int64)) fun v7 =>
      if v7 = 0 then
        some ((-1000000001))
      else
        q_b1 (f_X12_manAt this x1) fun v11 =>
        q_b1 (q_rd I (this + 1) 3580 ((v11 + (nI 18)) + x2)) fun v13 =>
        if 0 ≤ v13 then
          if x3 = (nI 1) then
            some (v13)
          else
            q_b1 (f_X12_manAt this x1) fun v18 =>
            q_b1 (q_rd I (this + 1) 3580 ((v18 + (nI 12)) + x2)) fun v20 =>
            some (v20)
        else
          some ((-1000000005))
set_option maxRecDepth 100000 in
set_option maxHeartbeats 4000000 in
theorem s_X12_known {l : Launch} {Γ : qC} (hΓ : q_gm Γ) {X : qX} (hX : q_Lay X) {this : Nat} {x1 : Int32} {x2 : Int32} {x3 : Int32} (k_this : q_kd X this = some (14, 42)) {I : qI} {z : Int32} (h : f_X12_known this x1 x2 x3 I = some z) : q_Sem l Γ (q_rm 4 0 0) yX12_known cX12_known 5 (some .int) [.ref this, .int x1, .int x2, .int x3] I X (some (.int z), I, X) := by
  refine q_met (by decide) (Nat.le_of_ble_eq_true rfl) (fun g hg hr => ?_)
  unfold f_X12_known at h
  show g 0 0 0 [(0, .ref this), (1, .int x1), (2, .int x2), (3, .int x3)] [] I X
  refine r_aload_n hg 0 dX12_known_0 rfl rfl ?_
  refine r_iload_n hg 1 dX12_known_1 rfl rfl ?_
  obtain ⟨v1, e2, h⟩ := q_b1_some h
  refine r_cV1i hg dX12_known_2 mt_X12_isMan ml_X12_110 mv_X12_isMan k_this (s_X12_isMan hΓ hX k_this e2) (q_room (Nat.le_of_ble_eq_true rfl) (Nat.le_of_ble_eq_true rfl)) ⟨Nat.zero_le _, Nat.zero_le _⟩ (Nat.le_of_ble_eq_true rfl) ?_
  refine r_if_eq hg 26 dX12_known_5 (by decide) (fun c3 => ?_) (fun c3 => ?_)
  · rw [if_pos c3] at h
    refine r_ldc hg dX12_known_26 kc_X12_90 ?_
    exact r_ireturn hr dX12_known_28 ⟨Nat.zero_le _, Nat.zero_le _⟩ ⟨_, rfl, rfl⟩ (by cases h; rfl)
  · rw [if_neg c3] at h
    refine r_aload_n hg 0 dX12_known_8 rfl rfl ?_
    refine r_iload_n hg 2 dX12_known_9 rfl rfl ?_
    obtain ⟨v4, e5, h⟩ := q_b1_some h
    refine r_cV1i hg dX12_known_10 mt_X12_isShop ml_X12_99 mv_X12_isShop k_this (s_X12_isShop hΓ hX k_this e5) (q_room (Nat.le_of_ble_eq_true rfl) (Nat.le_of_ble_eq_true rfl)) ⟨Nat.zero_le _, Nat.zero_le _⟩ (Nat.le_of_ble_eq_true rfl) ?_
    refine r_if_eq hg 26 dX12_known_13 (by decide) (fun c6 => ?_) (fun c6 => ?_)
    · rw [if_pos c6] at h
      refine r_ldc hg dX12_known_26 kc_X12_90 ?_
      exact r_ireturn hr dX12_known_28 ⟨Nat.zero_le _, Nat.zero_le _⟩ ⟨_, rfl, rfl⟩ (by cases h; rfl)
    · rw [if_neg c6] at h
      refine r_iload_n hg 3 dX12_known_16 rfl rfl ?_
      refine r_i2l hg dX12_known_17 ?_
      refine r_lconst hg dX12_known_18 lc_0 ?_
      refine r_lconst hg dX12_known_19 lc_1 ?_
      obtain ⟨v7, e8, h⟩ := q_b1_some h
      refine r_cS3i hg dX12_known_20 mt_X12_isIn ⟨ml_X12_64, mst_X12_isIn⟩ (s_X12_isIn hΓ hX e8) (q_room (Nat.le_of_ble_eq_true rfl) (Nat.le_of_ble_eq_true rfl)) ⟨Nat.zero_le _, Nat.zero_le _⟩ (Nat.le_of_ble_eq_true rfl) ?_
      refine r_if_ne hg 29 dX12_known_23 (by decide) (fun c9 => ?_) (fun c9 => ?_)
      · rw [if_neg c9] at h
        refine r_aload_n hg 0 dX12_known_29 rfl rfl ?_
        have e10 := ly_12_0 hX k_this
        refine r_getR hg dX12_known_30 fl_X12_7 k_this rfl e10.1 ?_
        refine r_aload_n hg 0 dX12_known_33 rfl rfl ?_
        refine r_iload_n hg 1 dX12_known_34 rfl rfl ?_
        obtain ⟨v11, e12, h⟩ := q_b1_some h
        refine r_cV1i hg dX12_known_35 mt_X12_manAt ml_X12_68 mv_X12_manAt k_this (s_X12_manAt hΓ hX k_this e12) (q_room (Nat.le_of_ble_eq_true rfl) (Nat.le_of_ble_eq_true rfl)) ⟨Nat.zero_le _, Nat.zero_le _⟩ (Nat.le_of_ble_eq_true rfl) ?_
        refine r_bipush hg dX12_known_38 cb_18 ?_
        refine r_iadd hg dX12_known_40 ?_
        refine r_iload_n hg 2 dX12_known_41 rfl rfl ?_
        refine r_iadd hg dX12_known_42 ?_
        obtain ⟨v13, e14, h⟩ := q_b1_some h
        refine r_iald hg dX12_known_43 e10.2 e14 ?_
        refine r_istore hg (L' := [(4, .int v13), (0, .ref this), (1, .int x1), (2, .int x2), (3, .int x3)]) dX12_known_44 (by decide) rfl ?_
        refine r_iload hg 0 dX12_known_46 rfl ?_
        refine r_if_ge hg 56 dX12_known_48 (by decide) (fun c15 => ?_) (fun c15 => ?_)
        · rw [if_pos c15] at h
          refine r_iload_n hg 4 dX12_known_56 rfl rfl ?_
          refine r_iconst hg dX12_known_57 ci_1 ?_
          refine r_icmp_ne hg 66 dX12_known_58 (by decide) (fun c16 => ?_) (fun c16 => ?_)
          · rw [if_neg c16] at h
            refine r_aload_n hg 1 dX12_known_66 rfl rfl ?_
            have e17 := ly_12_0 hX k_this
            refine r_getR hg dX12_known_67 fl_X12_7 k_this rfl e17.1 ?_
            refine r_aload_n hg 1 dX12_known_70 rfl rfl ?_
            refine r_iload_n hg 2 dX12_known_71 rfl rfl ?_
            obtain ⟨v18, e19, h⟩ := q_b1_some h
            refine r_cV1i hg dX12_known_72 mt_X12_manAt ml_X12_68 mv_X12_manAt k_this (s_X12_manAt hΓ hX k_this e19) (q_room (Nat.le_of_ble_eq_true rfl) (Nat.le_of_ble_eq_true rfl)) ⟨Nat.zero_le _, Nat.zero_le _⟩ (Nat.le_of_ble_eq_true rfl) ?_
            refine r_bipush hg dX12_known_75 cb_12 ?_
            refine r_iadd hg dX12_known_77 ?_
            refine r_iload_n hg 3 dX12_known_78 rfl rfl ?_
            refine r_iadd hg dX12_known_79 ?_
            obtain ⟨v20, e21, h⟩ := q_b1_some h
            refine r_iald hg dX12_known_80 e17.2 e21 ?_
            exact r_ireturn hr dX12_known_81 ⟨Nat.zero_le _, Nat.zero_le _⟩ ⟨_, rfl, rfl⟩ (by cases h; rfl)
          · rw [if_pos (Classical.not_not.mp c16)] at h
            refine r_iload hg 0 dX12_known_61 rfl ?_
            refine r_goto hg 81 dX12_known_63 (by decide) ?_
            exact r_ireturn hr dX12_known_81 ⟨Nat.zero_le _, Nat.zero_le _⟩ ⟨_, rfl, rfl⟩ (by cases h; rfl)
        · rw [if_neg c15] at h
          refine r_ldc hg dX12_known_51 kc_X12_61 ?_
          refine r_goto hg 81 dX12_known_53 (by decide) ?_
          exact r_ireturn hr dX12_known_81 ⟨Nat.zero_le _, Nat.zero_le _⟩ ⟨_, rfl, rfl⟩ (by cases h; rfl)
      · rw [if_pos (Classical.not_not.mp c9)] at h
        refine r_ldc hg dX12_known_26 kc_X12_90 ?_
        exact r_ireturn hr dX12_known_28 ⟨Nat.zero_le _, Nat.zero_le _⟩ ⟨_, rfl, rfl⟩ (by cases h; rfl)

def b_X12_let_78 (this : Nat) (x1 : Int32) (s1 : Int32) (s2 : Int32) (I : qI) : Option (Int32 × qI) :=
  q_b1 (q_wr I (this + 1) 3580 s1 s2) fun I2 =>
  some ((nI 1), I2)
set_option maxRecDepth 100000 in
set_option maxHeartbeats 4000000 in
theorem p_X12_let_78 {l : Launch} {Γ : qC} {g : qG} {z : Int32 × qI} {this : Nat} {x1 : Int32} {X : qX} (hΓ : q_gm Γ) (hg : q_Ok l Γ RX12 cX12_let 3 (q_rm 4 0 0) "let" (some .int) g) (hr : q_Rt cX12_let (some .int) (q_rm 4 0 0) (some (.int z.1), z.2, X) g) (hX : q_Lay X) (k_this : q_kd X this = some (14, 42)) (s1 : Int32) (s2 : Int32) (I : qI) (h : b_X12_let_78 this x1 s1 s2 I = some z) : g 0 0 78 [] [.int s2, .int s1, .ref (this + 1)] I X := by
  unfold b_X12_let_78 at h
  have e1 := ly_12_0 hX k_this
  obtain ⟨I2, e3, h⟩ := q_b1_some h
  refine r_iast hg dX12_let_78 e1.2 e3 ?_
  refine r_iconst hg dX12_let_79 ci_1 ?_
  exact r_ireturn hr dX12_let_80 ⟨Nat.zero_le _, Nat.zero_le _⟩ ⟨_, rfl, rfl⟩ (by cases h; rfl)
def b_X12_let_41 (this : Nat) (x1 : Int32) (x2 : Int32) (I : qI) : Option (Int32 × qI) :=
  q_b1 (q_rd I (this + 1) 3580 (x2 + (nI 5))) fun v2 =>
  if v2 = 0 then
    q_b1 (q_rd I (this + 1) 3580 x2) fun v7 =>
    if v7 = (nI 5) then
      b_X12_let_78 this x1 (x2 + (nI 5)) (nI 1) I
    else
      b_X12_let_78 this x1 (x2 + (nI 5)) (nI 2) I
  else
    some ((-1000000002), I)
set_option maxRecDepth 100000 in
set_option maxHeartbeats 4000000 in
theorem p_X12_let_41 {l : Launch} {Γ : qC} {g : qG} {z : Int32 × qI} {this : Nat} {x1 : Int32} {X : qX} (hΓ : q_gm Γ) (hg : q_Ok l Γ RX12 cX12_let 3 (q_rm 4 0 0) "let" (some .int) g) (hr : q_Rt cX12_let (some .int) (q_rm 4 0 0) (some (.int z.1), z.2, X) g) (hX : q_Lay X) (k_this : q_kd X this = some (14, 42)) (x2 : Int32) (I : qI) (h : b_X12_let_41 this x1 x2 I = some z) : g 0 0 41 [(0, .ref this), (2, .int x2)] [] I X := by
  unfold b_X12_let_41 at h
  refine r_aload_n hg 0 dX12_let_41 rfl rfl ?_
  have e1 := ly_12_0 hX k_this
  refine r_getR hg dX12_let_42 fl_X12_7 k_this rfl e1.1 ?_
  refine r_iload_n hg 1 dX12_let_45 rfl rfl ?_
  refine r_iconst hg dX12_let_46 ci_5 ?_
  refine r_iadd hg dX12_let_47 ?_
  obtain ⟨v2, e3, h⟩ := q_b1_some h
  refine r_iald hg dX12_let_48 e1.2 e3 ?_
  refine r_if_eq hg 56 dX12_let_49 (by decide) (fun c4 => ?_) (fun c4 => ?_)
  · rw [if_pos c4] at h
    refine r_aload_n hg 0 dX12_let_56 rfl rfl ?_
    have e5 := ly_12_0 hX k_this
    refine r_getR hg dX12_let_57 fl_X12_7 k_this rfl e5.1 ?_
    refine r_iload_n hg 1 dX12_let_60 rfl rfl ?_
    refine r_iconst hg dX12_let_61 ci_5 ?_
    refine r_iadd hg dX12_let_62 ?_
    refine r_aload_n hg 0 dX12_let_63 rfl rfl ?_
    have e6 := ly_12_0 hX k_this
    refine r_getR hg dX12_let_64 fl_X12_7 k_this rfl e6.1 ?_
    refine r_iload_n hg 1 dX12_let_67 rfl rfl ?_
    obtain ⟨v7, e8, h⟩ := q_b1_some h
    refine r_iald hg dX12_let_68 e6.2 e8 ?_
    refine r_iconst hg dX12_let_69 ci_5 ?_
    refine r_icmp_ne hg 77 dX12_let_70 (by decide) (fun c9 => ?_) (fun c9 => ?_)
    · rw [if_neg c9] at h
      refine r_iconst hg dX12_let_77 ci_2 ?_
      refine r_sub hg [] rfl ?_
      exact p_X12_let_78 hΓ hg hr hX k_this _ _ _ h
    · rw [if_pos (Classical.not_not.mp c9)] at h
      refine r_iconst hg dX12_let_73 ci_1 ?_
      refine r_goto hg 78 dX12_let_74 (by decide) ?_
      refine r_sub hg [] rfl ?_
      exact p_X12_let_78 hΓ hg hr hX k_this _ _ _ h
  · rw [if_neg c4] at h
    refine r_ldcw hg dX12_let_52 kc_X12_346 ?_
    exact r_ireturn hr dX12_let_55 ⟨Nat.zero_le _, Nat.zero_le _⟩ ⟨_, rfl, rfl⟩ (by cases h; rfl)
def f_X12_let (this : Nat) (x1 : Int32) (I : qI) : Option (Int32 × qI) :=
  q_b1 (f_X12_isDue this x1 I) fun v1 =>
  if v1 = 0 then
    some ((-1000000001), I)
  else
    q_b1 (f_X12_dueAt this x1) fun v4 =>
    q_b1 (q_rd I (this + 1) 3580 v4) fun v7 =>
    if v7 = (nI 5) then
      b_X12_let_41 this x1 v4 I
    else
      q_b1 (q_rd I (this + 1) 3580 v4) fun v11 =>
      if v11 = (nI 4) then
        b_X12_let_41 this x1 v4 I
      else
        some ((-1000000012), I)
set_option maxRecDepth 100000 in
set_option maxHeartbeats 4000000 in
theorem s_X12_let {l : Launch} {Γ : qC} (hΓ : q_gm Γ) {X : qX} (hX : q_Lay X) {this : Nat} {x1 : Int32} (k_this : q_kd X this = some (14, 42)) {I : qI} {z : Int32 × qI} (h : f_X12_let this x1 I = some z) : q_Sem l Γ (q_rm 4 0 0) yX12_let cX12_let 3 (some .int) [.ref this, .int x1] I X (some (.int z.1), z.2, X) := by
  refine q_met (by decide) (Nat.le_of_ble_eq_true rfl) (fun g hg hr => ?_)
  unfold f_X12_let at h
  show g 0 0 0 [(0, .ref this), (1, .int x1)] [] I X
  refine r_aload_n hg 0 dX12_let_0 rfl rfl ?_
  refine r_iload_n hg 1 dX12_let_1 rfl rfl ?_
  obtain ⟨v1, e2, h⟩ := q_b1_some h
  refine r_cV1i hg dX12_let_2 mt_X12_isDue ml_X12_353 mv_X12_isDue k_this (s_X12_isDue hΓ hX k_this e2) (q_room (Nat.le_of_ble_eq_true rfl) (Nat.le_of_ble_eq_true rfl)) ⟨Nat.zero_le _, Nat.zero_le _⟩ (Nat.le_of_ble_eq_true rfl) ?_
  refine r_if_ne hg 11 dX12_let_5 (by decide) (fun c3 => ?_) (fun c3 => ?_)
  · rw [if_neg c3] at h
    refine r_aload_n hg 0 dX12_let_11 rfl rfl ?_
    refine r_iload_n hg 1 dX12_let_12 rfl rfl ?_
    obtain ⟨v4, e5, h⟩ := q_b1_some h
    refine r_cV1i hg dX12_let_13 mt_X12_dueAt ml_X12_75 mv_X12_dueAt k_this (s_X12_dueAt hΓ hX k_this e5) (q_room (Nat.le_of_ble_eq_true rfl) (Nat.le_of_ble_eq_true rfl)) ⟨Nat.zero_le _, Nat.zero_le _⟩ (Nat.le_of_ble_eq_true rfl) ?_
    refine r_istore_n hg (L' := [(2, .int v4), (0, .ref this), (1, .int x1)]) dX12_let_16 rfl (by decide) rfl ?_
    refine r_aload_n hg 1 dX12_let_17 rfl rfl ?_
    have e6 := ly_12_0 hX k_this
    refine r_getR hg dX12_let_18 fl_X12_7 k_this rfl e6.1 ?_
    refine r_iload_n hg 0 dX12_let_21 rfl rfl ?_
    obtain ⟨v7, e8, h⟩ := q_b1_some h
    refine r_iald hg dX12_let_22 e6.2 e8 ?_
    refine r_iconst hg dX12_let_23 ci_5 ?_
    refine r_icmp_eq hg 41 dX12_let_24 (by decide) (fun c9 => ?_) (fun c9 => ?_)
    · rw [if_pos c9] at h
      refine r_sub hg [1, 0] rfl ?_
      exact p_X12_let_41 hΓ hg hr hX k_this _ _ h
    · rw [if_neg c9] at h
      refine r_aload_n hg 1 dX12_let_27 rfl rfl ?_
      have e10 := ly_12_0 hX k_this
      refine r_getR hg dX12_let_28 fl_X12_7 k_this rfl e10.1 ?_
      refine r_iload_n hg 0 dX12_let_31 rfl rfl ?_
      obtain ⟨v11, e12, h⟩ := q_b1_some h
      refine r_iald hg dX12_let_32 e10.2 e12 ?_
      refine r_iconst hg dX12_let_33 ci_4 ?_
      refine r_icmp_eq hg 41 dX12_let_34 (by decide) (fun c13 => ?_) (fun c13 => ?_)
      · rw [if_pos c13] at h
        refine r_sub hg [1, 0] rfl ?_
        exact p_X12_let_41 hΓ hg hr hX k_this _ _ h
      · rw [if_neg c13] at h
        refine r_ldcw hg dX12_let_37 kc_X12_356 ?_
        exact r_ireturn hr dX12_let_40 ⟨Nat.zero_le _, Nat.zero_le _⟩ ⟨_, rfl, rfl⟩ (by cases h; rfl)
  · rw [if_pos (Classical.not_not.mp c3)] at h
    refine r_ldc hg dX12_let_8 kc_X12_90 ?_
    exact r_ireturn hr dX12_let_10 ⟨Nat.zero_le _, Nat.zero_le _⟩ ⟨_, rfl, rfl⟩ (by cases h; rfl)

def b_X12_loaves_22 (this : Nat) (x1 : Int32) (x2 : Int32) (x3 : Int32) (I : qI) (s0 : Int32) : Option (Int32) :=
  q_b1 (f_X12_lack this x1 I) fun v1 =>
  q_b1 (f_X12_least s0 v1) fun v3 =>
  q_b1 (f_X12_shopAt this x2) fun v6 =>
  q_b1 (q_rd I (this + 1) 3580 (v6 + (nI 2))) fun v8 =>
  q_b1 (f_X12_least v3 v8) fun v10 =>
  some (v10)
set_option maxRecDepth 100000 in
set_option maxHeartbeats 4000000 in
theorem p_X12_loaves_22 {l : Launch} {Γ : qC} {g : qG} {z : Int32} {this : Nat} {x1 : Int32} {x2 : Int32} {x3 : Int32} {X : qX} {I : qI} (hΓ : q_gm Γ) (hg : q_Ok l Γ RX12 cX12_loaves 5 (q_rm 4 0 0) "loaves" (some .int) g) (hr : q_Rt cX12_loaves (some .int) (q_rm 4 0 0) (some (.int z), I, X) g) (hX : q_Lay X) (k_this : q_kd X this = some (14, 42)) (s0 : Int32) (h : b_X12_loaves_22 this x1 x2 x3 I s0 = some z) : g 0 0 22 [(0, .ref this), (1, .int x1), (2, .int x2)] [.int s0] I X := by
  unfold b_X12_loaves_22 at h
  refine r_istore hg (L' := [(4, .int s0), (0, .ref this), (1, .int x1), (2, .int x2)]) dX12_loaves_22 (by decide) rfl ?_
  refine r_iload hg 0 dX12_loaves_24 rfl ?_
  refine r_aload_n hg 1 dX12_loaves_26 rfl rfl ?_
  refine r_iload_n hg 2 dX12_loaves_27 rfl rfl ?_
  obtain ⟨v1, e2, h⟩ := q_b1_some h
  refine r_cV1i hg dX12_loaves_28 mt_X12_lack ml_X12_135 mv_X12_lack k_this (s_X12_lack hΓ hX k_this e2) (q_room (Nat.le_of_ble_eq_true rfl) (Nat.le_of_ble_eq_true rfl)) ⟨Nat.zero_le _, Nat.zero_le _⟩ (Nat.le_of_ble_eq_true rfl) ?_
  obtain ⟨v3, e4, h⟩ := q_b1_some h
  refine r_cS2i hg dX12_loaves_31 mt_X12_least ⟨ml_X12_138, mst_X12_least⟩ (s_X12_least hΓ hX e4) (q_room (Nat.le_of_ble_eq_true rfl) (Nat.le_of_ble_eq_true rfl)) ⟨Nat.zero_le _, Nat.zero_le _⟩ (Nat.le_of_ble_eq_true rfl) ?_
  refine r_aload_n hg 1 dX12_loaves_34 rfl rfl ?_
  have e5 := ly_12_0 hX k_this
  refine r_getR hg dX12_loaves_35 fl_X12_7 k_this rfl e5.1 ?_
  refine r_aload_n hg 1 dX12_loaves_38 rfl rfl ?_
  refine r_iload_n hg 3 dX12_loaves_39 rfl rfl ?_
  obtain ⟨v6, e7, h⟩ := q_b1_some h
  refine r_cV1i hg dX12_loaves_40 mt_X12_shopAt ml_X12_72 mv_X12_shopAt k_this (s_X12_shopAt hΓ hX k_this e7) (q_room (Nat.le_of_ble_eq_true rfl) (Nat.le_of_ble_eq_true rfl)) ⟨Nat.zero_le _, Nat.zero_le _⟩ (Nat.le_of_ble_eq_true rfl) ?_
  refine r_iconst hg dX12_loaves_43 ci_2 ?_
  refine r_iadd hg dX12_loaves_44 ?_
  obtain ⟨v8, e9, h⟩ := q_b1_some h
  refine r_iald hg dX12_loaves_45 e5.2 e9 ?_
  obtain ⟨v10, e11, h⟩ := q_b1_some h
  refine r_cS2i hg dX12_loaves_46 mt_X12_least ⟨ml_X12_138, mst_X12_least⟩ (s_X12_least hΓ hX e11) (q_room (Nat.le_of_ble_eq_true rfl) (Nat.le_of_ble_eq_true rfl)) ⟨Nat.zero_le _, Nat.zero_le _⟩ (Nat.le_of_ble_eq_true rfl) ?_
  exact r_ireturn hr dX12_loaves_49 ⟨Nat.zero_le _, Nat.zero_le _⟩ ⟨_, rfl, rfl⟩ (by cases h; rfl)
def f_X12_loaves (this : Nat) (x1 : Int32) (x2 : Int32) (x3 : Int32) (I : qI) : Option (Int32) :=
  if 0 ≤ x3 then
    q_b1 (f_X12_shopAt this x2) fun v3 =>
    q_b1 (q_rd I (this + 1) 3580 (v3 + (nI 1))) fun v5 =>
    if v5 = 0 then none else
    b_X12_loaves_22 this x1 x2 x3 I (x3 / v5)
  else
    b_X12_loaves_22 this x1 x2 x3 I (nI 0)
set_option maxRecDepth 100000 in
set_option maxHeartbeats 4000000 in
theorem s_X12_loaves {l : Launch} {Γ : qC} (hΓ : q_gm Γ) {X : qX} (hX : q_Lay X) {this : Nat} {x1 : Int32} {x2 : Int32} {x3 : Int32} (k_this : q_kd X this = some (14, 42)) {I : qI} {z : Int32} (h : f_X12_loaves this x1 x2 x3 I = some z) : q_Sem l Γ (q_rm 4 0 0) yX12_loaves cX12_loaves 5 (some .int) [.ref this, .int x1, .int x2, .int x3] I X (some (.int z), I, X) := by
  refine q_met (by decide) (Nat.le_of_ble_eq_true rfl) (fun g hg hr => ?_)
  unfold f_X12_loaves at h
  show g 0 0 0 [(0, .ref this), (1, .int x1), (2, .int x2), (3, .int x3)] [] I X
  refine r_iload_n hg 3 dX12_loaves_0 rfl rfl ?_
  refine r_if_ge hg 8 dX12_loaves_1 (by decide) (fun c1 => ?_) (fun c1 => ?_)
  · rw [if_pos c1] at h
    refine r_iload_n hg 3 dX12_loaves_8 rfl rfl ?_
    refine r_aload_n hg 0 dX12_loaves_9 rfl rfl ?_
    have e2 := ly_12_0 hX k_this
    refine r_getR hg dX12_loaves_10 fl_X12_7 k_this rfl e2.1 ?_
    refine r_aload_n hg 0 dX12_loaves_13 rfl rfl ?_
    refine r_iload_n hg 2 dX12_loaves_14 rfl rfl ?_
    obtain ⟨v3, e4, h⟩ := q_b1_some h
    refine r_cV1i hg dX12_loaves_15 mt_X12_shopAt ml_X12_72 mv_X12_shopAt k_this (s_X12_shopAt hΓ hX k_this e4) (q_room (Nat.le_of_ble_eq_true rfl) (Nat.le_of_ble_eq_true rfl)) ⟨Nat.zero_le _, Nat.zero_le _⟩ (Nat.le_of_ble_eq_true rfl) ?_
    refine r_iconst hg dX12_loaves_18 ci_1 ?_
    refine r_iadd hg dX12_loaves_19 ?_
    obtain ⟨v5, e6, h⟩ := q_b1_some h
    refine r_iald hg dX12_loaves_20 e2.2 e6 ?_
    by_cases c7 : v5 = 0
    · rw [if_pos c7] at h; cases h
    rw [if_neg c7] at h
    refine r_idiv hg dX12_loaves_21 c7 ?_
    refine r_sub hg [0, 1, 2] rfl ?_
    exact p_X12_loaves_22 hΓ hg hr hX k_this _ h
  · rw [if_neg c1] at h
    refine r_iconst hg dX12_loaves_4 ci_0 ?_
    refine r_goto hg 22 dX12_loaves_5 (by decide) ?_
    refine r_sub hg [0, 1, 2] rfl ?_
    exact p_X12_loaves_22 hΓ hg hr hX k_this _ h

def b_X12_man_108 (this : Nat) (x1 : Int32) (x2 : Int32) (x3 : Int32) (k80 : Int32 → Int32 → Int32 → qI → Option (Int32 × qI)) (x4 : Int32) (x5 : Int32) (x6 : Int32) (s1 : Int32) (s2 : Int32) (I : qI) : Option (Int32 × qI) :=
  q_b1 (q_wr I (this + 1) 3580 s1 s2) fun I2 =>
  k80 x4 x5 (x6 + (nI 1)) I2
set_option maxRecDepth 100000 in
set_option maxHeartbeats 4000000 in
theorem p_X12_man_108 {l : Launch} {Γ : qC} {g : qG} {z : Int32 × qI} {this : Nat} {x1 : Int32} {x2 : Int32} {x3 : Int32} {X : qX} (hΓ : q_gm Γ) (hg : q_Ok l Γ RX12 cX12_man 7 (q_rm 4 0 0) "man" (some .int) g) (hr : q_Rt cX12_man (some .int) (q_rm 4 0 0) (some (.int z.1), z.2, X) g) (hX : q_Lay X) (k_this : q_kd X this = some (14, 42)) {k80 : Int32 → Int32 → Int32 → qI → Option (Int32 × qI)} (hk80 : ∀ (x4 : Int32) (x5 : Int32) (x6 : Int32) (I : qI), k80 x4 x5 x6 I = some z → g 0 0 80 [(0, .ref this), (1, .int x1), (2, .int x2), (3, .int x3), (4, .int x4), (5, .int x5), (6, .int x6)] [] I X) (x4 : Int32) (x5 : Int32) (x6 : Int32) (s1 : Int32) (s2 : Int32) (I : qI) (h : b_X12_man_108 this x1 x2 x3 k80 x4 x5 x6 s1 s2 I = some z) : g 0 0 108 [(0, .ref this), (1, .int x1), (2, .int x2), (3, .int x3), (4, .int x4), (5, .int x5), (6, .int x6)] [.int s2, .int s1, .ref (this + 1)] I X := by
  unfold b_X12_man_108 at h
  have e1 := ly_12_0 hX k_this
  obtain ⟨I2, e3, h⟩ := q_b1_some h
  refine r_iast hg dX12_man_108 e1.2 e3 ?_
  refine r_iinc hg 6 (v := (x6 + (nI 1))) (L' := [(6, .int (x6 + (nI 1))), (0, .ref this), (1, .int x1), (2, .int x2), (3, .int x3), (4, .int x4), (5, .int x5)]) dX12_man_109 rfl (by rw [ci_1]) (by decide) rfl ?_
  refine r_goto hg 80 dX12_man_112 (by decide) ?_
  refine r_sub hg [1, 2, 3, 4, 5, 6, 0] rfl ?_
  exact hk80 _ _ _ _ h
def b_X12_man_80 (this : Nat) (x1 : Int32) (x2 : Int32) (x3 : Int32) (k80 : Int32 → Int32 → Int32 → qI → Option (Int32 × qI)) (x4 : Int32) (x5 : Int32) (x6 : Int32) (I : qI) : Option (Int32 × qI) :=
  if (nI 24) ≤ x6 then
    q_b1 (q_wr I (this + 1) 3580 x5 x1) fun I3 =>
    q_b1 (q_wr I3 (this + 1) 3580 (x5 + (nI 1)) x2) fun I6 =>
    q_b1 (q_wr I6 (this + 1) 3580 (x5 + (nI 2)) x3) fun I9 =>
    q_b2 (f_X12_newDue this (nI 1) x4 (nI 0) (nI 0) I9) fun v12 I13 =>
    q_b1 (q_wr I13 (this + 1) 3580 (x5 + (nI 10)) v12) fun I15 =>
    q_b2 (f_X12_newDue this (nI 6) x4 (nI 0) (nI 0) I15) fun v18 I19 =>
    q_b1 (q_wr I19 (this + 1) 3580 (x5 + (nI 11)) v18) fun I21 =>
    q_b1 (q_rd I21 (this + 1) 3580 (nI 2)) fun v24 =>
    q_b1 (q_wr I21 (this + 1) 3580 (nI 2) (v24 + (nI 1))) fun I26 =>
    some (x4, I26)
  else
    if x6 < (nI 18) then
      b_X12_man_108 this x1 x2 x3 k80 x4 x5 x6 (x5 + x6) (nI 0) I
    else
      b_X12_man_108 this x1 x2 x3 k80 x4 x5 x6 (x5 + x6) (-1) I
set_option maxRecDepth 100000 in
set_option maxHeartbeats 4000000 in
theorem p_X12_man_80 {l : Launch} {Γ : qC} {g : qG} {z : Int32 × qI} {this : Nat} {x1 : Int32} {x2 : Int32} {x3 : Int32} {X : qX} (hΓ : q_gm Γ) (hg : q_Ok l Γ RX12 cX12_man 7 (q_rm 4 0 0) "man" (some .int) g) (hr : q_Rt cX12_man (some .int) (q_rm 4 0 0) (some (.int z.1), z.2, X) g) (hX : q_Lay X) (k_this : q_kd X this = some (14, 42)) {k80 : Int32 → Int32 → Int32 → qI → Option (Int32 × qI)} (hk80 : ∀ (x4 : Int32) (x5 : Int32) (x6 : Int32) (I : qI), k80 x4 x5 x6 I = some z → g 0 0 80 [(0, .ref this), (1, .int x1), (2, .int x2), (3, .int x3), (4, .int x4), (5, .int x5), (6, .int x6)] [] I X) (x4 : Int32) (x5 : Int32) (x6 : Int32) (I : qI) (h : b_X12_man_80 this x1 x2 x3 k80 x4 x5 x6 I = some z) : g 0 0 80 [(0, .ref this), (1, .int x1), (2, .int x2), (3, .int x3), (4, .int x4), (5, .int x5), (6, .int x6)] [] I X := by
  unfold b_X12_man_80 at h
  refine r_iload hg 6 dX12_man_80 rfl ?_
  refine r_bipush hg dX12_man_82 cb_24 ?_
  refine r_icmp_ge hg 115 dX12_man_84 (by decide) (fun c1 => ?_) (fun c1 => ?_)
  · rw [if_pos c1] at h
    refine r_aload_n hg 0 dX12_man_115 rfl rfl ?_
    have e2 := ly_12_0 hX k_this
    refine r_getR hg dX12_man_116 fl_X12_7 k_this rfl e2.1 ?_
    refine r_iload hg 5 dX12_man_119 rfl ?_
    refine r_iload_n hg 1 dX12_man_121 rfl rfl ?_
    obtain ⟨I3, e4, h⟩ := q_b1_some h
    refine r_iast hg dX12_man_122 e2.2 e4 ?_
    refine r_aload_n hg 0 dX12_man_123 rfl rfl ?_
    have e5 := ly_12_0 hX k_this
    refine r_getR hg dX12_man_124 fl_X12_7 k_this rfl e5.1 ?_
    refine r_iload hg 5 dX12_man_127 rfl ?_
    refine r_iconst hg dX12_man_129 ci_1 ?_
    refine r_iadd hg dX12_man_130 ?_
    refine r_iload_n hg 2 dX12_man_131 rfl rfl ?_
    obtain ⟨I6, e7, h⟩ := q_b1_some h
    refine r_iast hg dX12_man_132 e5.2 e7 ?_
    refine r_aload_n hg 0 dX12_man_133 rfl rfl ?_
    have e8 := ly_12_0 hX k_this
    refine r_getR hg dX12_man_134 fl_X12_7 k_this rfl e8.1 ?_
    refine r_iload hg 5 dX12_man_137 rfl ?_
    refine r_iconst hg dX12_man_139 ci_2 ?_
    refine r_iadd hg dX12_man_140 ?_
    refine r_iload_n hg 3 dX12_man_141 rfl rfl ?_
    obtain ⟨I9, e10, h⟩ := q_b1_some h
    refine r_iast hg dX12_man_142 e8.2 e10 ?_
    refine r_aload_n hg 0 dX12_man_143 rfl rfl ?_
    have e11 := ly_12_0 hX k_this
    refine r_getR hg dX12_man_144 fl_X12_7 k_this rfl e11.1 ?_
    refine r_iload hg 5 dX12_man_147 rfl ?_
    refine r_bipush hg dX12_man_149 cb_10 ?_
    refine r_iadd hg dX12_man_151 ?_
    refine r_aload_n hg 0 dX12_man_152 rfl rfl ?_
    refine r_iconst hg dX12_man_153 ci_1 ?_
    refine r_iload hg 4 dX12_man_154 rfl ?_
    refine r_iconst hg dX12_man_156 ci_0 ?_
    refine r_iconst hg dX12_man_157 ci_0 ?_
    obtain ⟨v12, I13, e14, h⟩ := q_b2_some h
    refine r_cV4i hg dX12_man_158 mt_X12_newDue ml_X12_106 mv_X12_newDue k_this (s_X12_newDue hΓ hX k_this e14) (q_room (Nat.le_of_ble_eq_true rfl) (Nat.le_of_ble_eq_true rfl)) ⟨Nat.zero_le _, Nat.zero_le _⟩ (Nat.le_of_ble_eq_true rfl) ?_
    obtain ⟨I15, e16, h⟩ := q_b1_some h
    refine r_iast hg dX12_man_161 e11.2 e16 ?_
    refine r_aload_n hg 0 dX12_man_162 rfl rfl ?_
    have e17 := ly_12_0 hX k_this
    refine r_getR hg dX12_man_163 fl_X12_7 k_this rfl e17.1 ?_
    refine r_iload hg 5 dX12_man_166 rfl ?_
    refine r_bipush hg dX12_man_168 cb_11 ?_
    refine r_iadd hg dX12_man_170 ?_
    refine r_aload_n hg 0 dX12_man_171 rfl rfl ?_
    refine r_bipush hg dX12_man_172 cb_6 ?_
    refine r_iload hg 4 dX12_man_174 rfl ?_
    refine r_iconst hg dX12_man_176 ci_0 ?_
    refine r_iconst hg dX12_man_177 ci_0 ?_
    obtain ⟨v18, I19, e20, h⟩ := q_b2_some h
    refine r_cV4i hg dX12_man_178 mt_X12_newDue ml_X12_106 mv_X12_newDue k_this (s_X12_newDue hΓ hX k_this e20) (q_room (Nat.le_of_ble_eq_true rfl) (Nat.le_of_ble_eq_true rfl)) ⟨Nat.zero_le _, Nat.zero_le _⟩ (Nat.le_of_ble_eq_true rfl) ?_
    obtain ⟨I21, e22, h⟩ := q_b1_some h
    refine r_iast hg dX12_man_181 e17.2 e22 ?_
    refine r_aload_n hg 0 dX12_man_182 rfl rfl ?_
    have e23 := ly_12_0 hX k_this
    refine r_getR hg dX12_man_183 fl_X12_7 k_this rfl e23.1 ?_
    refine r_iconst hg dX12_man_186 ci_2 ?_
    refine r_dup2 hg dX12_man_187 rfl rfl ?_
    obtain ⟨v24, e25, h⟩ := q_b1_some h
    refine r_iald hg dX12_man_188 e23.2 e25 ?_
    refine r_iconst hg dX12_man_189 ci_1 ?_
    refine r_iadd hg dX12_man_190 ?_
    obtain ⟨I26, e27, h⟩ := q_b1_some h
    refine r_iast hg dX12_man_191 e23.2 e27 ?_
    refine r_iload hg 4 dX12_man_192 rfl ?_
    exact r_ireturn hr dX12_man_194 ⟨Nat.zero_le _, Nat.zero_le _⟩ ⟨_, rfl, rfl⟩ (by cases h; rfl)
  · rw [if_neg c1] at h
    refine r_aload_n hg 0 dX12_man_87 rfl rfl ?_
    have e28 := ly_12_0 hX k_this
    refine r_getR hg dX12_man_88 fl_X12_7 k_this rfl e28.1 ?_
    refine r_iload hg 5 dX12_man_91 rfl ?_
    refine r_iload hg 6 dX12_man_93 rfl ?_
    refine r_iadd hg dX12_man_95 ?_
    refine r_iload hg 6 dX12_man_96 rfl ?_
    refine r_bipush hg dX12_man_98 cb_18 ?_
    refine r_icmp_lt hg 107 dX12_man_100 (by decide) (fun c29 => ?_) (fun c29 => ?_)
    · rw [if_pos c29] at h
      refine r_iconst hg dX12_man_107 ci_0 ?_
      exact p_X12_man_108 hΓ hg hr hX k_this hk80 _ _ _ _ _ _ h
    · rw [if_neg c29] at h
      refine r_iconst hg dX12_man_103 ci_m1 ?_
      refine r_goto hg 108 dX12_man_104 (by decide) ?_
      exact p_X12_man_108 hΓ hg hr hX k_this hk80 _ _ _ _ _ _ h
theorem pl_X12_man_80 {l : Launch} {Γ : qC} {g : qG} {z : Int32 × qI} {this : Nat} {x1 : Int32} {x2 : Int32} {x3 : Int32} {X : qX} (hΓ : q_gm Γ) (hg : q_Ok l Γ RX12 cX12_man 7 (q_rm 4 0 0) "man" (some .int) g) (hr : q_Rt cX12_man (some .int) (q_rm 4 0 0) (some (.int z.1), z.2, X) g) (hX : q_Lay X) (k_this : q_kd X this = some (14, 42)) : ∀ (n : Nat) (x4 : Int32) (x5 : Int32) (x6 : Int32) (I : qI), q_fix (fun _ _ _ _ => none) (b_X12_man_80 this x1 x2 x3) n x4 x5 x6 I = some z → g 0 0 80 [(0, .ref this), (1, .int x1), (2, .int x2), (3, .int x3), (4, .int x4), (5, .int x5), (6, .int x6)] [] I X := by
  intro n
  induction n with
  | zero =>
    intro x4 x5 x6 I h
    cases (show (none : Option (Int32 × qI)) = some z from h)
  | succ n ih =>
    intro x4 x5 x6 I h
    exact p_X12_man_80 hΓ hg hr hX k_this ih _ _ _ _ h
def f_X12_man (this : Nat) (x1 : Int32) (x2 : Int32) (x3 : Int32) (I : qI) : Option (Int32 × qI) :=
  q_b1 (f_X12_isPit x1) fun v1 =>
  if v1 = 0 then
    some ((-1000000001), I)
  else
    q_b1 (f_X12_isIn x2.toInt64 (0 : Int64) (9 : Int64)) fun v4 =>
    if v4 = 0 then
      some ((-1000000001), I)
    else
      q_b1 (f_X12_isIn x3.toInt64 (1 : Int64) (9 : Int64)) fun v7 =>
      if v7 = 0 then
        some ((-1000000001), I)
      else
        q_b1 (q_rd I (this + 1) 3580 (nI 2)) fun v11 =>
        if v11 = (nI 12) then
          some ((-1000000003), I)
        else
          q_b1 (q_rd I (this + 1) 3580 (nI 3)) fun v15 =>
          if (v15 + (nI 2)) ≤ (nI 60) then
            q_b1 (q_rd I (this + 1) 3580 (nI 2)) fun v19 =>
            q_b1 (f_X12_manAt this v19) fun v21 =>
            q_fix (fun _ _ _ _ => none) (b_X12_man_80 this x1 x2 x3) q_fu v19 v21 (nI 0) I
          else
            some ((-1000000003), I)
set_option maxRecDepth 100000 in
set_option maxHeartbeats 4000000 in
theorem s_X12_man {l : Launch} {Γ : qC} (hΓ : q_gm Γ) {X : qX} (hX : q_Lay X) {this : Nat} {x1 : Int32} {x2 : Int32} {x3 : Int32} (k_this : q_kd X this = some (14, 42)) {I : qI} {z : Int32 × qI} (h : f_X12_man this x1 x2 x3 I = some z) : q_Sem l Γ (q_rm 4 0 0) yX12_man cX12_man 7 (some .int) [.ref this, .int x1, .int x2, .int x3] I X (some (.int z.1), z.2, X) := by
  refine q_met (by decide) (Nat.le_of_ble_eq_true rfl) (fun g hg hr => ?_)
  unfold f_X12_man at h
  show g 0 0 0 [(0, .ref this), (1, .int x1), (2, .int x2), (3, .int x3)] [] I X
  refine r_iload_n hg 1 dX12_man_0 rfl rfl ?_
  obtain ⟨v1, e2, h⟩ := q_b1_some h
  refine r_cS1i hg dX12_man_1 mt_X12_isPit ⟨ml_X12_78, mst_X12_isPit⟩ (s_X12_isPit hΓ hX e2) (q_room (Nat.le_of_ble_eq_true rfl) (Nat.le_of_ble_eq_true rfl)) ⟨Nat.zero_le _, Nat.zero_le _⟩ (Nat.le_of_ble_eq_true rfl) ?_
  refine r_if_eq hg 31 dX12_man_4 (by decide) (fun c3 => ?_) (fun c3 => ?_)
  · rw [if_pos c3] at h
    refine r_ldc hg dX12_man_31 kc_X12_90 ?_
    exact r_ireturn hr dX12_man_33 ⟨Nat.zero_le _, Nat.zero_le _⟩ ⟨_, rfl, rfl⟩ (by cases h; rfl)
  · rw [if_neg c3] at h
    refine r_iload_n hg 2 dX12_man_7 rfl rfl ?_
    refine r_i2l hg dX12_man_8 ?_
    refine r_lconst hg dX12_man_9 lc_0 ?_
    refine r_ldc2 hg dX12_man_10 kl_X12_104 ?_
    obtain ⟨v4, e5, h⟩ := q_b1_some h
    refine r_cS3i hg dX12_man_13 mt_X12_isIn ⟨ml_X12_64, mst_X12_isIn⟩ (s_X12_isIn hΓ hX e5) (q_room (Nat.le_of_ble_eq_true rfl) (Nat.le_of_ble_eq_true rfl)) ⟨Nat.zero_le _, Nat.zero_le _⟩ (Nat.le_of_ble_eq_true rfl) ?_
    refine r_if_eq hg 31 dX12_man_16 (by decide) (fun c6 => ?_) (fun c6 => ?_)
    · rw [if_pos c6] at h
      refine r_ldc hg dX12_man_31 kc_X12_90 ?_
      exact r_ireturn hr dX12_man_33 ⟨Nat.zero_le _, Nat.zero_le _⟩ ⟨_, rfl, rfl⟩ (by cases h; rfl)
    · rw [if_neg c6] at h
      refine r_iload_n hg 3 dX12_man_19 rfl rfl ?_
      refine r_i2l hg dX12_man_20 ?_
      refine r_lconst hg dX12_man_21 lc_1 ?_
      refine r_ldc2 hg dX12_man_22 kl_X12_104 ?_
      obtain ⟨v7, e8, h⟩ := q_b1_some h
      refine r_cS3i hg dX12_man_25 mt_X12_isIn ⟨ml_X12_64, mst_X12_isIn⟩ (s_X12_isIn hΓ hX e8) (q_room (Nat.le_of_ble_eq_true rfl) (Nat.le_of_ble_eq_true rfl)) ⟨Nat.zero_le _, Nat.zero_le _⟩ (Nat.le_of_ble_eq_true rfl) ?_
      refine r_if_ne hg 34 dX12_man_28 (by decide) (fun c9 => ?_) (fun c9 => ?_)
      · rw [if_neg c9] at h
        refine r_aload_n hg 0 dX12_man_34 rfl rfl ?_
        have e10 := ly_12_0 hX k_this
        refine r_getR hg dX12_man_35 fl_X12_7 k_this rfl e10.1 ?_
        refine r_iconst hg dX12_man_38 ci_2 ?_
        obtain ⟨v11, e12, h⟩ := q_b1_some h
        refine r_iald hg dX12_man_39 e10.2 e12 ?_
        refine r_bipush hg dX12_man_40 cb_12 ?_
        refine r_icmp_eq hg 58 dX12_man_42 (by decide) (fun c13 => ?_) (fun c13 => ?_)
        · rw [if_pos c13] at h
          refine r_ldc hg dX12_man_58 kc_X12_98 ?_
          exact r_ireturn hr dX12_man_60 ⟨Nat.zero_le _, Nat.zero_le _⟩ ⟨_, rfl, rfl⟩ (by cases h; rfl)
        · rw [if_neg c13] at h
          refine r_aload_n hg 0 dX12_man_45 rfl rfl ?_
          have e14 := ly_12_0 hX k_this
          refine r_getR hg dX12_man_46 fl_X12_7 k_this rfl e14.1 ?_
          refine r_iconst hg dX12_man_49 ci_3 ?_
          obtain ⟨v15, e16, h⟩ := q_b1_some h
          refine r_iald hg dX12_man_50 e14.2 e16 ?_
          refine r_iconst hg dX12_man_51 ci_2 ?_
          refine r_iadd hg dX12_man_52 ?_
          refine r_bipush hg dX12_man_53 cb_60 ?_
          refine r_icmp_le hg 61 dX12_man_55 (by decide) (fun c17 => ?_) (fun c17 => ?_)
          · rw [if_pos c17] at h
            refine r_aload_n hg 0 dX12_man_61 rfl rfl ?_
            have e18 := ly_12_0 hX k_this
            refine r_getR hg dX12_man_62 fl_X12_7 k_this rfl e18.1 ?_
            refine r_iconst hg dX12_man_65 ci_2 ?_
            obtain ⟨v19, e20, h⟩ := q_b1_some h
            refine r_iald hg dX12_man_66 e18.2 e20 ?_
            refine r_istore hg (L' := [(4, .int v19), (0, .ref this), (1, .int x1), (2, .int x2), (3, .int x3)]) dX12_man_67 (by decide) rfl ?_
            refine r_aload_n hg 1 dX12_man_69 rfl rfl ?_
            refine r_iload hg 0 dX12_man_70 rfl ?_
            obtain ⟨v21, e22, h⟩ := q_b1_some h
            refine r_cV1i hg dX12_man_72 mt_X12_manAt ml_X12_68 mv_X12_manAt k_this (s_X12_manAt hΓ hX k_this e22) (q_room (Nat.le_of_ble_eq_true rfl) (Nat.le_of_ble_eq_true rfl)) ⟨Nat.zero_le _, Nat.zero_le _⟩ (Nat.le_of_ble_eq_true rfl) ?_
            refine r_istore hg (L' := [(5, .int v21), (4, .int v19), (0, .ref this), (1, .int x1), (2, .int x2), (3, .int x3)]) dX12_man_75 (by decide) rfl ?_
            refine r_iconst hg dX12_man_77 ci_0 ?_
            refine r_istore hg (L' := [(6, .int (nI 0)), (5, .int v21), (4, .int v19), (0, .ref this), (1, .int x1), (2, .int x2), (3, .int x3)]) dX12_man_78 (by decide) rfl ?_
            refine r_sub hg [3, 4, 5, 6, 2, 1, 0] rfl ?_
            exact pl_X12_man_80 hΓ hg hr hX k_this _ _ _ _ _ h
          · rw [if_neg c17] at h
            refine r_ldc hg dX12_man_58 kc_X12_98 ?_
            exact r_ireturn hr dX12_man_60 ⟨Nat.zero_le _, Nat.zero_le _⟩ ⟨_, rfl, rfl⟩ (by cases h; rfl)
      · rw [if_pos (Classical.not_not.mp c9)] at h
        refine r_ldc hg dX12_man_31 kc_X12_90 ?_
        exact r_ireturn hr dX12_man_33 ⟨Nat.zero_le _, Nat.zero_le _⟩ ⟨_, rfl, rfl⟩ (by cases h; rfl)

def f_X12_melt (this : Nat) (x1 : Int32) (I : qI) : Option (Int32 × qI) :=
  q_b1 (f_X12_isDue this x1 I) fun v1 =>
  if v1 = 0 then
    some ((-1000000001), I)
  else
    q_b1 (f_X12_dueAt this x1) fun v4 =>
    q_b1 (q_rd I (this + 1) 3580 v4) fun v7 =>
    if v7 = (nI 3) then
      q_b1 (q_rd I (this + 1) 3580 (v4 + (nI 6))) fun v11 =>
      if 0 ≤ v11 then
        q_b1 (q_rd I (this + 1) 3580 (v4 + (nI 2))) fun v15 =>
        q_b1 (f_X12_gets this v11 (nI 5) v15 I) fun I17 =>
        q_b1 (q_wr I17 (this + 1) 3580 (v4 + (nI 6)) (-1)) fun I20 =>
        q_b1 (f_X12_manAt this v11) fun v23 =>
        q_b1 (q_rd I20 (this + 1) 3580 (v23 + (nI 5))) fun v25 =>
        some (v25, I20)
      else
        some ((-1000000002), I)
    else
      some ((-1000000012), I)
set_option maxRecDepth 100000 in
set_option maxHeartbeats 4000000 in
theorem s_X12_melt {l : Launch} {Γ : qC} (hΓ : q_gm Γ) {X : qX} (hX : q_Lay X) {this : Nat} {x1 : Int32} (k_this : q_kd X this = some (14, 42)) {I : qI} {z : Int32 × qI} (h : f_X12_melt this x1 I = some z) : q_Sem l Γ (q_rm 4 0 0) yX12_melt cX12_melt 4 (some .int) [.ref this, .int x1] I X (some (.int z.1), z.2, X) := by
  refine q_met (by decide) (Nat.le_of_ble_eq_true rfl) (fun g hg hr => ?_)
  unfold f_X12_melt at h
  show g 0 0 0 [(0, .ref this), (1, .int x1)] [] I X
  refine r_aload_n hg 0 dX12_melt_0 rfl rfl ?_
  refine r_iload_n hg 1 dX12_melt_1 rfl rfl ?_
  obtain ⟨v1, e2, h⟩ := q_b1_some h
  refine r_cV1i hg dX12_melt_2 mt_X12_isDue ml_X12_353 mv_X12_isDue k_this (s_X12_isDue hΓ hX k_this e2) (q_room (Nat.le_of_ble_eq_true rfl) (Nat.le_of_ble_eq_true rfl)) ⟨Nat.zero_le _, Nat.zero_le _⟩ (Nat.le_of_ble_eq_true rfl) ?_
  refine r_if_ne hg 11 dX12_melt_5 (by decide) (fun c3 => ?_) (fun c3 => ?_)
  · rw [if_neg c3] at h
    refine r_aload_n hg 0 dX12_melt_11 rfl rfl ?_
    refine r_iload_n hg 1 dX12_melt_12 rfl rfl ?_
    obtain ⟨v4, e5, h⟩ := q_b1_some h
    refine r_cV1i hg dX12_melt_13 mt_X12_dueAt ml_X12_75 mv_X12_dueAt k_this (s_X12_dueAt hΓ hX k_this e5) (q_room (Nat.le_of_ble_eq_true rfl) (Nat.le_of_ble_eq_true rfl)) ⟨Nat.zero_le _, Nat.zero_le _⟩ (Nat.le_of_ble_eq_true rfl) ?_
    refine r_istore_n hg (L' := [(2, .int v4), (0, .ref this), (1, .int x1)]) dX12_melt_16 rfl (by decide) rfl ?_
    refine r_aload_n hg 1 dX12_melt_17 rfl rfl ?_
    have e6 := ly_12_0 hX k_this
    refine r_getR hg dX12_melt_18 fl_X12_7 k_this rfl e6.1 ?_
    refine r_iload_n hg 0 dX12_melt_21 rfl rfl ?_
    obtain ⟨v7, e8, h⟩ := q_b1_some h
    refine r_iald hg dX12_melt_22 e6.2 e8 ?_
    refine r_iconst hg dX12_melt_23 ci_3 ?_
    refine r_icmp_eq hg 31 dX12_melt_24 (by decide) (fun c9 => ?_) (fun c9 => ?_)
    · rw [if_pos c9] at h
      refine r_aload_n hg 1 dX12_melt_31 rfl rfl ?_
      have e10 := ly_12_0 hX k_this
      refine r_getR hg dX12_melt_32 fl_X12_7 k_this rfl e10.1 ?_
      refine r_iload_n hg 0 dX12_melt_35 rfl rfl ?_
      refine r_bipush hg dX12_melt_36 cb_6 ?_
      refine r_iadd hg dX12_melt_38 ?_
      obtain ⟨v11, e12, h⟩ := q_b1_some h
      refine r_iald hg dX12_melt_39 e10.2 e12 ?_
      refine r_istore_n hg (L' := [(3, .int v11), (2, .int v4), (0, .ref this), (1, .int x1)]) dX12_melt_40 rfl (by decide) rfl ?_
      refine r_iload_n hg 0 dX12_melt_41 rfl rfl ?_
      refine r_if_ge hg 49 dX12_melt_42 (by decide) (fun c13 => ?_) (fun c13 => ?_)
      · rw [if_pos c13] at h
        refine r_aload_n hg 2 dX12_melt_49 rfl rfl ?_
        refine r_iload_n hg 0 dX12_melt_50 rfl rfl ?_
        refine r_iconst hg dX12_melt_51 ci_5 ?_
        refine r_aload_n hg 2 dX12_melt_52 rfl rfl ?_
        have e14 := ly_12_0 hX k_this
        refine r_getR hg dX12_melt_53 fl_X12_7 k_this rfl e14.1 ?_
        refine r_iload_n hg 1 dX12_melt_56 rfl rfl ?_
        refine r_iconst hg dX12_melt_57 ci_2 ?_
        refine r_iadd hg dX12_melt_58 ?_
        obtain ⟨v15, e16, h⟩ := q_b1_some h
        refine r_iald hg dX12_melt_59 e14.2 e16 ?_
        obtain ⟨I17, e18, h⟩ := q_b1_some h
        refine r_cV3v hg dX12_melt_60 mt_X12_gets ml_X12_350 mv_X12_gets k_this (s_X12_gets hΓ hX k_this e18) (q_room (Nat.le_of_ble_eq_true rfl) (Nat.le_of_ble_eq_true rfl)) ⟨Nat.zero_le _, Nat.zero_le _⟩ (Nat.le_of_ble_eq_true rfl) ?_
        refine r_aload_n hg 2 dX12_melt_63 rfl rfl ?_
        have e19 := ly_12_0 hX k_this
        refine r_getR hg dX12_melt_64 fl_X12_7 k_this rfl e19.1 ?_
        refine r_iload_n hg 1 dX12_melt_67 rfl rfl ?_
        refine r_bipush hg dX12_melt_68 cb_6 ?_
        refine r_iadd hg dX12_melt_70 ?_
        refine r_iconst hg dX12_melt_71 ci_m1 ?_
        obtain ⟨I20, e21, h⟩ := q_b1_some h
        refine r_iast hg dX12_melt_72 e19.2 e21 ?_
        refine r_aload_n hg 2 dX12_melt_73 rfl rfl ?_
        have e22 := ly_12_0 hX k_this
        refine r_getR hg dX12_melt_74 fl_X12_7 k_this rfl e22.1 ?_
        refine r_aload_n hg 2 dX12_melt_77 rfl rfl ?_
        refine r_iload_n hg 0 dX12_melt_78 rfl rfl ?_
        obtain ⟨v23, e24, h⟩ := q_b1_some h
        refine r_cV1i hg dX12_melt_79 mt_X12_manAt ml_X12_68 mv_X12_manAt k_this (s_X12_manAt hΓ hX k_this e24) (q_room (Nat.le_of_ble_eq_true rfl) (Nat.le_of_ble_eq_true rfl)) ⟨Nat.zero_le _, Nat.zero_le _⟩ (Nat.le_of_ble_eq_true rfl) ?_
        refine r_iconst hg dX12_melt_82 ci_5 ?_
        refine r_iadd hg dX12_melt_83 ?_
        obtain ⟨v25, e26, h⟩ := q_b1_some h
        refine r_iald hg dX12_melt_84 e22.2 e26 ?_
        exact r_ireturn hr dX12_melt_85 ⟨Nat.zero_le _, Nat.zero_le _⟩ ⟨_, rfl, rfl⟩ (by cases h; rfl)
      · rw [if_neg c13] at h
        refine r_ldcw hg dX12_melt_45 kc_X12_346 ?_
        exact r_ireturn hr dX12_melt_48 ⟨Nat.zero_le _, Nat.zero_le _⟩ ⟨_, rfl, rfl⟩ (by cases h; rfl)
    · rw [if_neg c9] at h
      refine r_ldcw hg dX12_melt_27 kc_X12_356 ?_
      exact r_ireturn hr dX12_melt_30 ⟨Nat.zero_le _, Nat.zero_le _⟩ ⟨_, rfl, rfl⟩ (by cases h; rfl)
  · rw [if_pos (Classical.not_not.mp c3)] at h
    refine r_ldc hg dX12_melt_8 kc_X12_90 ?_
    exact r_ireturn hr dX12_melt_10 ⟨Nat.zero_le _, Nat.zero_le _⟩ ⟨_, rfl, rfl⟩ (by cases h; rfl)

def b_X12_menLast_171 (this : Nat) (x1 : Int32) (I : qI) (k70 : Int32 → Int32 → Int32 → Option (Int32)) (x2 : Int32) (x3 : Int32) (x4 : Int32) : Option (Int32) :=
  k70 x2 x3 (x4 + (nI 1))
set_option maxRecDepth 100000 in
set_option maxHeartbeats 4000000 in
theorem p_X12_menLast_171 {l : Launch} {Γ : qC} {g : qG} {z : Int32} {this : Nat} {x1 : Int32} {X : qX} {I : qI} (hΓ : q_gm Γ) (hg : q_Ok l Γ RX12 cX12_menLast 7 (q_rm 4 0 0) "menLast" (some .int) g) (hr : q_Rt cX12_menLast (some .int) (q_rm 4 0 0) (some (.int z), I, X) g) (hX : q_Lay X) (k_this : q_kd X this = some (14, 42)) {k70 : Int32 → Int32 → Int32 → Option (Int32)} (hk70 : ∀ (x2 : Int32) (x3 : Int32) (x4 : Int32), k70 x2 x3 x4 = some z → g 0 0 70 [(0, .ref this), (1, .int x1), (2, .int x2), (3, .int x3), (4, .int x4)] [] I X) (x2 : Int32) (x3 : Int32) (x4 : Int32) (h : b_X12_menLast_171 this x1 I k70 x2 x3 x4 = some z) : g 0 0 171 [(0, .ref this), (1, .int x1), (2, .int x2), (3, .int x3), (4, .int x4)] [] I X := by
  unfold b_X12_menLast_171 at h
  refine r_iinc hg 4 (v := (x4 + (nI 1))) (L' := [(4, .int (x4 + (nI 1))), (0, .ref this), (1, .int x1), (2, .int x2), (3, .int x3)]) dX12_menLast_171 rfl (by rw [ci_1]) (by decide) rfl ?_
  refine r_goto hg 70 dX12_menLast_174 (by decide) ?_
  refine r_sub hg [1, 2, 3, 4, 0] rfl ?_
  exact hk70 _ _ _ h
def b_X12_menLast_170 (this : Nat) (x1 : Int32) (I : qI) (k70 : Int32 → Int32 → Int32 → Option (Int32)) (x2 : Int32) (x4 : Int32) (s0 : Int32) : Option (Int32) :=
  b_X12_menLast_171 this x1 I k70 x2 s0 x4
set_option maxRecDepth 100000 in
set_option maxHeartbeats 4000000 in
theorem p_X12_menLast_170 {l : Launch} {Γ : qC} {g : qG} {z : Int32} {this : Nat} {x1 : Int32} {X : qX} {I : qI} (hΓ : q_gm Γ) (hg : q_Ok l Γ RX12 cX12_menLast 7 (q_rm 4 0 0) "menLast" (some .int) g) (hr : q_Rt cX12_menLast (some .int) (q_rm 4 0 0) (some (.int z), I, X) g) (hX : q_Lay X) (k_this : q_kd X this = some (14, 42)) {k70 : Int32 → Int32 → Int32 → Option (Int32)} (hk70 : ∀ (x2 : Int32) (x3 : Int32) (x4 : Int32), k70 x2 x3 x4 = some z → g 0 0 70 [(0, .ref this), (1, .int x1), (2, .int x2), (3, .int x3), (4, .int x4)] [] I X) (x2 : Int32) (x4 : Int32) (s0 : Int32) (h : b_X12_menLast_170 this x1 I k70 x2 x4 s0 = some z) : g 0 0 170 [(0, .ref this), (1, .int x1), (2, .int x2), (4, .int x4)] [.int s0] I X := by
  unfold b_X12_menLast_170 at h
  refine r_istore_n hg (L' := [(3, .int s0), (0, .ref this), (1, .int x1), (2, .int x2), (4, .int x4)]) dX12_menLast_170 rfl (by decide) rfl ?_
  refine r_sub hg [1, 2, 3, 0, 4] rfl ?_
  exact p_X12_menLast_171 hΓ hg hr hX k_this hk70 _ _ _ h
def b_X12_menLast_164 (this : Nat) (x1 : Int32) (I : qI) (k70 : Int32 → Int32 → Int32 → Option (Int32)) (x2 : Int32) (x4 : Int32) (x6 : Int32) : Option (Int32) :=
  b_X12_menLast_170 this x1 I k70 x2 x4 x6
set_option maxRecDepth 100000 in
set_option maxHeartbeats 4000000 in
theorem p_X12_menLast_164 {l : Launch} {Γ : qC} {g : qG} {z : Int32} {this : Nat} {x1 : Int32} {X : qX} {I : qI} (hΓ : q_gm Γ) (hg : q_Ok l Γ RX12 cX12_menLast 7 (q_rm 4 0 0) "menLast" (some .int) g) (hr : q_Rt cX12_menLast (some .int) (q_rm 4 0 0) (some (.int z), I, X) g) (hX : q_Lay X) (k_this : q_kd X this = some (14, 42)) {k70 : Int32 → Int32 → Int32 → Option (Int32)} (hk70 : ∀ (x2 : Int32) (x3 : Int32) (x4 : Int32), k70 x2 x3 x4 = some z → g 0 0 70 [(0, .ref this), (1, .int x1), (2, .int x2), (3, .int x3), (4, .int x4)] [] I X) (x2 : Int32) (x4 : Int32) (x6 : Int32) (h : b_X12_menLast_164 this x1 I k70 x2 x4 x6 = some z) : g 0 0 164 [(0, .ref this), (1, .int x1), (2, .int x2), (4, .int x4), (6, .int x6)] [] I X := by
  unfold b_X12_menLast_164 at h
  refine r_iload hg 4 dX12_menLast_164 rfl ?_
  refine r_goto hg 170 dX12_menLast_166 (by decide) ?_
  refine r_sub hg [0, 1, 2, 3] rfl ?_
  exact p_X12_menLast_170 hΓ hg hr hX k_this hk70 _ _ _ h
def b_X12_menLast_141 (this : Nat) (x1 : Int32) (I : qI) (k70 : Int32 → Int32 → Int32 → Option (Int32)) (x2 : Int32) (x3 : Int32) (x4 : Int32) (x5 : Int32) (s0 : Int32) (s1 : Int32) : Option (Int32) :=
  q_b1 (q_rd I (this + 1) 3580 (x5 + (nI 2))) fun v2 =>
  if v2 = 0 then none else
  if x3 < 0 then
    b_X12_menLast_164 this x1 I k70 x2 x4 ((s0 + s1) / v2)
  else
    if x3 ≤ ((s0 + s1) / v2) then
      b_X12_menLast_170 this x1 I k70 x2 x4 x3
    else
      b_X12_menLast_164 this x1 I k70 x2 x4 ((s0 + s1) / v2)
set_option maxRecDepth 100000 in
set_option maxHeartbeats 4000000 in
theorem p_X12_menLast_141 {l : Launch} {Γ : qC} {g : qG} {z : Int32} {this : Nat} {x1 : Int32} {X : qX} {I : qI} (hΓ : q_gm Γ) (hg : q_Ok l Γ RX12 cX12_menLast 7 (q_rm 4 0 0) "menLast" (some .int) g) (hr : q_Rt cX12_menLast (some .int) (q_rm 4 0 0) (some (.int z), I, X) g) (hX : q_Lay X) (k_this : q_kd X this = some (14, 42)) {k70 : Int32 → Int32 → Int32 → Option (Int32)} (hk70 : ∀ (x2 : Int32) (x3 : Int32) (x4 : Int32), k70 x2 x3 x4 = some z → g 0 0 70 [(0, .ref this), (1, .int x1), (2, .int x2), (3, .int x3), (4, .int x4)] [] I X) (x2 : Int32) (x3 : Int32) (x4 : Int32) (x5 : Int32) (s0 : Int32) (s1 : Int32) (h : b_X12_menLast_141 this x1 I k70 x2 x3 x4 x5 s0 s1 = some z) : g 0 0 141 [(0, .ref this), (1, .int x1), (2, .int x2), (3, .int x3), (4, .int x4), (5, .int x5)] [.int s1, .int s0] I X := by
  unfold b_X12_menLast_141 at h
  refine r_iadd hg dX12_menLast_141 ?_
  refine r_aload_n hg 0 dX12_menLast_142 rfl rfl ?_
  have e1 := ly_12_0 hX k_this
  refine r_getR hg dX12_menLast_143 fl_X12_7 k_this rfl e1.1 ?_
  refine r_iload hg 5 dX12_menLast_146 rfl ?_
  refine r_iconst hg dX12_menLast_148 ci_2 ?_
  refine r_iadd hg dX12_menLast_149 ?_
  obtain ⟨v2, e3, h⟩ := q_b1_some h
  refine r_iald hg dX12_menLast_150 e1.2 e3 ?_
  by_cases c4 : v2 = 0
  · rw [if_pos c4] at h; cases h
  rw [if_neg c4] at h
  refine r_idiv hg dX12_menLast_151 c4 ?_
  refine r_istore hg (L' := [(6, .int ((s0 + s1) / v2)), (0, .ref this), (1, .int x1), (2, .int x2), (3, .int x3), (4, .int x4), (5, .int x5)]) dX12_menLast_152 (by decide) rfl ?_
  refine r_iload_n hg 4 dX12_menLast_154 rfl rfl ?_
  refine r_if_lt hg 164 dX12_menLast_155 (by decide) (fun c5 => ?_) (fun c5 => ?_)
  · rw [if_pos c5] at h
    refine r_sub hg [1, 2, 3, 5, 0] rfl ?_
    exact p_X12_menLast_164 hΓ hg hr hX k_this hk70 _ _ _ h
  · rw [if_neg c5] at h
    refine r_iload hg 0 dX12_menLast_158 rfl ?_
    refine r_iload_n hg 4 dX12_menLast_160 rfl rfl ?_
    refine r_icmp_ge hg 169 dX12_menLast_161 (by decide) (fun c6 => ?_) (fun c6 => ?_)
    · rw [if_pos c6] at h
      refine r_iload_n hg 4 dX12_menLast_169 rfl rfl ?_
      refine r_sub hg [1, 2, 3, 5] rfl ?_
      exact p_X12_menLast_170 hΓ hg hr hX k_this hk70 _ _ _ h
    · rw [if_neg c6] at h
      refine r_sub hg [1, 2, 3, 5, 0] rfl ?_
      exact p_X12_menLast_164 hΓ hg hr hX k_this hk70 _ _ _ h
def b_X12_menLast_70 (this : Nat) (x1 : Int32) (I : qI) (k70 : Int32 → Int32 → Int32 → Option (Int32)) (x2 : Int32) (x3 : Int32) (x4 : Int32) : Option (Int32) :=
  q_b1 (q_rd I (this + 1) 3580 (nI 2)) fun v2 =>
  if v2 ≤ x4 then
    if 0 ≤ x3 then
      some (x3)
    else
      some ((nI 999))
  else
    q_b1 (f_X12_manAt this x4) fun v6 =>
    q_b1 (f_X12_isGone this x4 I) fun v8 =>
    if v8 = 0 then
      q_b1 (q_rd I (this + 1) 3580 v6) fun v12 =>
      if ((x1 >>> (v12 &&& 31)) &&& (nI 1)) = (nI 1) then
        q_b1 (q_rd I (this + 1) 3580 (v6 + (nI 3))) fun v16 =>
        if x2 = 0 then
          b_X12_menLast_141 this x1 I k70 x2 x3 x4 v6 v16 (nI 0)
        else
          q_b1 (q_rd I (this + 1) 3580 (v6 + (nI 4))) fun v20 =>
          if x2 = 0 then none else
          b_X12_menLast_141 this x1 I k70 x2 x3 x4 v6 v16 (v20 / x2)
      else
        b_X12_menLast_171 this x1 I k70 x2 x3 x4
    else
      b_X12_menLast_171 this x1 I k70 x2 x3 x4
set_option maxRecDepth 100000 in
set_option maxHeartbeats 4000000 in
theorem p_X12_menLast_70 {l : Launch} {Γ : qC} {g : qG} {z : Int32} {this : Nat} {x1 : Int32} {X : qX} {I : qI} (hΓ : q_gm Γ) (hg : q_Ok l Γ RX12 cX12_menLast 7 (q_rm 4 0 0) "menLast" (some .int) g) (hr : q_Rt cX12_menLast (some .int) (q_rm 4 0 0) (some (.int z), I, X) g) (hX : q_Lay X) (k_this : q_kd X this = some (14, 42)) {k70 : Int32 → Int32 → Int32 → Option (Int32)} (hk70 : ∀ (x2 : Int32) (x3 : Int32) (x4 : Int32), k70 x2 x3 x4 = some z → g 0 0 70 [(0, .ref this), (1, .int x1), (2, .int x2), (3, .int x3), (4, .int x4)] [] I X) (x2 : Int32) (x3 : Int32) (x4 : Int32) (h : b_X12_menLast_70 this x1 I k70 x2 x3 x4 = some z) : g 0 0 70 [(0, .ref this), (1, .int x1), (2, .int x2), (3, .int x3), (4, .int x4)] [] I X := by
  unfold b_X12_menLast_70 at h
  refine r_iload hg 4 dX12_menLast_70 rfl ?_
  refine r_aload_n hg 0 dX12_menLast_72 rfl rfl ?_
  have e1 := ly_12_0 hX k_this
  refine r_getR hg dX12_menLast_73 fl_X12_7 k_this rfl e1.1 ?_
  refine r_iconst hg dX12_menLast_76 ci_2 ?_
  obtain ⟨v2, e3, h⟩ := q_b1_some h
  refine r_iald hg dX12_menLast_77 e1.2 e3 ?_
  refine r_icmp_ge hg 177 dX12_menLast_78 (by decide) (fun c4 => ?_) (fun c4 => ?_)
  · rw [if_pos c4] at h
    refine r_iload_n hg 3 dX12_menLast_177 rfl rfl ?_
    refine r_if_ge hg 187 dX12_menLast_178 (by decide) (fun c5 => ?_) (fun c5 => ?_)
    · rw [if_pos c5] at h
      refine r_iload_n hg 3 dX12_menLast_187 rfl rfl ?_
      exact r_ireturn hr dX12_menLast_188 ⟨Nat.zero_le _, Nat.zero_le _⟩ ⟨_, rfl, rfl⟩ (by cases h; rfl)
    · rw [if_neg c5] at h
      refine r_sipush hg dX12_menLast_181 cs_999 ?_
      refine r_goto hg 188 dX12_menLast_184 (by decide) ?_
      exact r_ireturn hr dX12_menLast_188 ⟨Nat.zero_le _, Nat.zero_le _⟩ ⟨_, rfl, rfl⟩ (by cases h; rfl)
  · rw [if_neg c4] at h
    refine r_aload_n hg 0 dX12_menLast_81 rfl rfl ?_
    refine r_iload hg 4 dX12_menLast_82 rfl ?_
    obtain ⟨v6, e7, h⟩ := q_b1_some h
    refine r_cV1i hg dX12_menLast_84 mt_X12_manAt ml_X12_68 mv_X12_manAt k_this (s_X12_manAt hΓ hX k_this e7) (q_room (Nat.le_of_ble_eq_true rfl) (Nat.le_of_ble_eq_true rfl)) ⟨Nat.zero_le _, Nat.zero_le _⟩ (Nat.le_of_ble_eq_true rfl) ?_
    refine r_istore hg (L' := [(5, .int v6), (0, .ref this), (1, .int x1), (2, .int x2), (3, .int x3), (4, .int x4)]) dX12_menLast_87 (by decide) rfl ?_
    refine r_aload_n hg 1 dX12_menLast_89 rfl rfl ?_
    refine r_iload hg 5 dX12_menLast_90 rfl ?_
    obtain ⟨v8, e9, h⟩ := q_b1_some h
    refine r_cV1i hg dX12_menLast_92 mt_X12_isGone ml_X12_93 mv_X12_isGone k_this (s_X12_isGone hΓ hX k_this e9) (q_room (Nat.le_of_ble_eq_true rfl) (Nat.le_of_ble_eq_true rfl)) ⟨Nat.zero_le _, Nat.zero_le _⟩ (Nat.le_of_ble_eq_true rfl) ?_
    refine r_if_ne hg 171 dX12_menLast_95 (by decide) (fun c10 => ?_) (fun c10 => ?_)
    · rw [if_neg c10] at h
      refine r_sub hg [1, 2, 3, 4, 5] rfl ?_
      exact p_X12_menLast_171 hΓ hg hr hX k_this hk70 _ _ _ h
    · rw [if_pos (Classical.not_not.mp c10)] at h
      refine r_iload_n hg 2 dX12_menLast_98 rfl rfl ?_
      refine r_aload_n hg 1 dX12_menLast_99 rfl rfl ?_
      have e11 := ly_12_0 hX k_this
      refine r_getR hg dX12_menLast_100 fl_X12_7 k_this rfl e11.1 ?_
      refine r_iload hg 0 dX12_menLast_103 rfl ?_
      obtain ⟨v12, e13, h⟩ := q_b1_some h
      refine r_iald hg dX12_menLast_105 e11.2 e13 ?_
      refine r_ishr hg dX12_menLast_106 ?_
      refine r_iconst hg dX12_menLast_107 ci_1 ?_
      refine r_iand hg dX12_menLast_108 ?_
      refine r_iconst hg dX12_menLast_109 ci_1 ?_
      refine r_icmp_ne hg 171 dX12_menLast_110 (by decide) (fun c14 => ?_) (fun c14 => ?_)
      · rw [if_neg c14] at h
        refine r_sub hg [1, 2, 3, 4, 5] rfl ?_
        exact p_X12_menLast_171 hΓ hg hr hX k_this hk70 _ _ _ h
      · rw [if_pos (Classical.not_not.mp c14)] at h
        refine r_aload_n hg 1 dX12_menLast_113 rfl rfl ?_
        have e15 := ly_12_0 hX k_this
        refine r_getR hg dX12_menLast_114 fl_X12_7 k_this rfl e15.1 ?_
        refine r_iload hg 0 dX12_menLast_117 rfl ?_
        refine r_iconst hg dX12_menLast_119 ci_3 ?_
        refine r_iadd hg dX12_menLast_120 ?_
        obtain ⟨v16, e17, h⟩ := q_b1_some h
        refine r_iald hg dX12_menLast_121 e15.2 e17 ?_
        refine r_iload_n hg 3 dX12_menLast_122 rfl rfl ?_
        refine r_if_ne hg 130 dX12_menLast_123 (by decide) (fun c18 => ?_) (fun c18 => ?_)
        · rw [if_neg c18] at h
          refine r_aload_n hg 1 dX12_menLast_130 rfl rfl ?_
          have e19 := ly_12_0 hX k_this
          refine r_getR hg dX12_menLast_131 fl_X12_7 k_this rfl e19.1 ?_
          refine r_iload hg 0 dX12_menLast_134 rfl ?_
          refine r_iconst hg dX12_menLast_136 ci_4 ?_
          refine r_iadd hg dX12_menLast_137 ?_
          obtain ⟨v20, e21, h⟩ := q_b1_some h
          refine r_iald hg dX12_menLast_138 e19.2 e21 ?_
          refine r_iload_n hg 3 dX12_menLast_139 rfl rfl ?_
          by_cases c22 : x2 = 0
          · rw [if_pos c22] at h; cases h
          rw [if_neg c22] at h
          refine r_idiv hg dX12_menLast_140 c22 ?_
          refine r_sub hg [1, 2, 3, 4, 5, 0] rfl ?_
          exact p_X12_menLast_141 hΓ hg hr hX k_this hk70 _ _ _ _ _ _ h
        · rw [if_pos (Classical.not_not.mp c18)] at h
          refine r_iconst hg dX12_menLast_126 ci_0 ?_
          refine r_goto hg 141 dX12_menLast_127 (by decide) ?_
          refine r_sub hg [1, 2, 3, 4, 5, 0] rfl ?_
          exact p_X12_menLast_141 hΓ hg hr hX k_this hk70 _ _ _ _ _ _ h
theorem pl_X12_menLast_70 {l : Launch} {Γ : qC} {g : qG} {z : Int32} {this : Nat} {x1 : Int32} {X : qX} {I : qI} (hΓ : q_gm Γ) (hg : q_Ok l Γ RX12 cX12_menLast 7 (q_rm 4 0 0) "menLast" (some .int) g) (hr : q_Rt cX12_menLast (some .int) (q_rm 4 0 0) (some (.int z), I, X) g) (hX : q_Lay X) (k_this : q_kd X this = some (14, 42)) : ∀ (n : Nat) (x2 : Int32) (x3 : Int32) (x4 : Int32), q_fix (fun _ _ _ => none) (b_X12_menLast_70 this x1 I) n x2 x3 x4 = some z → g 0 0 70 [(0, .ref this), (1, .int x1), (2, .int x2), (3, .int x3), (4, .int x4)] [] I X := by
  intro n
  induction n with
  | zero =>
    intro x2 x3 x4 h
    cases (show (none : Option (Int32)) = some z from h)
  | succ n ih =>
    intro x2 x3 x4 h
    exact p_X12_menLast_70 hΓ hg hr hX k_this ih _ _ _ h
def b_X12_menLast_58 (this : Nat) (x1 : Int32) (I : qI) (k4 : Int32 → Int32 → Option (Int32)) (x3 : Int32) (s0 : Int32) : Option (Int32) :=
  k4 s0 (x3 + (nI 1))
set_option maxRecDepth 100000 in
set_option maxHeartbeats 4000000 in
theorem p_X12_menLast_58 {l : Launch} {Γ : qC} {g : qG} {z : Int32} {this : Nat} {x1 : Int32} {X : qX} {I : qI} (hΓ : q_gm Γ) (hg : q_Ok l Γ RX12 cX12_menLast 7 (q_rm 4 0 0) "menLast" (some .int) g) (hr : q_Rt cX12_menLast (some .int) (q_rm 4 0 0) (some (.int z), I, X) g) (hX : q_Lay X) (k_this : q_kd X this = some (14, 42)) {k4 : Int32 → Int32 → Option (Int32)} (hk4 : ∀ (x2 : Int32) (x3 : Int32), k4 x2 x3 = some z → g 0 0 4 [(0, .ref this), (1, .int x1), (2, .int x2), (3, .int x3)] [] I X) (x3 : Int32) (s0 : Int32) (h : b_X12_menLast_58 this x1 I k4 x3 s0 = some z) : g 0 0 58 [(0, .ref this), (1, .int x1), (3, .int x3)] [.int s0] I X := by
  unfold b_X12_menLast_58 at h
  refine r_istore_n hg (L' := [(2, .int s0), (0, .ref this), (1, .int x1), (3, .int x3)]) dX12_menLast_58 rfl (by decide) rfl ?_
  refine r_iinc hg 3 (v := (x3 + (nI 1))) (L' := [(3, .int (x3 + (nI 1))), (2, .int s0), (0, .ref this), (1, .int x1)]) dX12_menLast_59 rfl (by rw [ci_1]) (by decide) rfl ?_
  refine r_goto hg 4 dX12_menLast_62 (by decide) ?_
  refine r_sub hg [2, 3, 1, 0] rfl ?_
  exact hk4 _ _ h
def b_X12_menLast_57 (this : Nat) (x1 : Int32) (I : qI) (k4 : Int32 → Int32 → Option (Int32)) (x2 : Int32) (x3 : Int32) : Option (Int32) :=
  b_X12_menLast_58 this x1 I k4 x3 x2
set_option maxRecDepth 100000 in
set_option maxHeartbeats 4000000 in
theorem p_X12_menLast_57 {l : Launch} {Γ : qC} {g : qG} {z : Int32} {this : Nat} {x1 : Int32} {X : qX} {I : qI} (hΓ : q_gm Γ) (hg : q_Ok l Γ RX12 cX12_menLast 7 (q_rm 4 0 0) "menLast" (some .int) g) (hr : q_Rt cX12_menLast (some .int) (q_rm 4 0 0) (some (.int z), I, X) g) (hX : q_Lay X) (k_this : q_kd X this = some (14, 42)) {k4 : Int32 → Int32 → Option (Int32)} (hk4 : ∀ (x2 : Int32) (x3 : Int32), k4 x2 x3 = some z → g 0 0 4 [(0, .ref this), (1, .int x1), (2, .int x2), (3, .int x3)] [] I X) (x2 : Int32) (x3 : Int32) (h : b_X12_menLast_57 this x1 I k4 x2 x3 = some z) : g 0 0 57 [(0, .ref this), (1, .int x1), (2, .int x2), (3, .int x3)] [] I X := by
  unfold b_X12_menLast_57 at h
  refine r_iload_n hg 2 dX12_menLast_57 rfl rfl ?_
  refine r_sub hg [0, 1, 3] rfl ?_
  exact p_X12_menLast_58 hΓ hg hr hX k_this hk4 _ _ h
def b_X12_menLast_42 (this : Nat) (x1 : Int32) (I : qI) (k4 : Int32 → Int32 → Option (Int32)) (x3 : Int32) : Option (Int32) :=
  q_b1 (f_X12_shopAt this x3) fun v2 =>
  q_b1 (q_rd I (this + 1) 3580 (v2 + (nI 1))) fun v4 =>
  b_X12_menLast_58 this x1 I k4 x3 v4
set_option maxRecDepth 100000 in
set_option maxHeartbeats 4000000 in
theorem p_X12_menLast_42 {l : Launch} {Γ : qC} {g : qG} {z : Int32} {this : Nat} {x1 : Int32} {X : qX} {I : qI} (hΓ : q_gm Γ) (hg : q_Ok l Γ RX12 cX12_menLast 7 (q_rm 4 0 0) "menLast" (some .int) g) (hr : q_Rt cX12_menLast (some .int) (q_rm 4 0 0) (some (.int z), I, X) g) (hX : q_Lay X) (k_this : q_kd X this = some (14, 42)) {k4 : Int32 → Int32 → Option (Int32)} (hk4 : ∀ (x2 : Int32) (x3 : Int32), k4 x2 x3 = some z → g 0 0 4 [(0, .ref this), (1, .int x1), (2, .int x2), (3, .int x3)] [] I X) (x3 : Int32) (h : b_X12_menLast_42 this x1 I k4 x3 = some z) : g 0 0 42 [(0, .ref this), (1, .int x1), (3, .int x3)] [] I X := by
  unfold b_X12_menLast_42 at h
  refine r_aload_n hg 0 dX12_menLast_42 rfl rfl ?_
  have e1 := ly_12_0 hX k_this
  refine r_getR hg dX12_menLast_43 fl_X12_7 k_this rfl e1.1 ?_
  refine r_aload_n hg 0 dX12_menLast_46 rfl rfl ?_
  refine r_iload_n hg 2 dX12_menLast_47 rfl rfl ?_
  obtain ⟨v2, e3, h⟩ := q_b1_some h
  refine r_cV1i hg dX12_menLast_48 mt_X12_shopAt ml_X12_72 mv_X12_shopAt k_this (s_X12_shopAt hΓ hX k_this e3) (q_room (Nat.le_of_ble_eq_true rfl) (Nat.le_of_ble_eq_true rfl)) ⟨Nat.zero_le _, Nat.zero_le _⟩ (Nat.le_of_ble_eq_true rfl) ?_
  refine r_iconst hg dX12_menLast_51 ci_1 ?_
  refine r_iadd hg dX12_menLast_52 ?_
  obtain ⟨v4, e5, h⟩ := q_b1_some h
  refine r_iald hg dX12_menLast_53 e1.2 e5 ?_
  refine r_goto hg 58 dX12_menLast_54 (by decide) ?_
  exact p_X12_menLast_58 hΓ hg hr hX k_this hk4 _ _ h
def b_X12_menLast_4 (this : Nat) (x1 : Int32) (I : qI) (k4 : Int32 → Int32 → Option (Int32)) (x2 : Int32) (x3 : Int32) : Option (Int32) :=
  q_b1 (q_rd I (this + 1) 3580 (nI 1)) fun v2 =>
  if v2 ≤ x3 then
    q_fix (fun _ _ _ => none) (b_X12_menLast_70 this x1 I) q_fu x2 (-1) (nI 0)
  else
    q_b1 (f_X12_isTown this x3 I) fun v5 =>
    if v5 = 0 then
      b_X12_menLast_57 this x1 I k4 x2 x3
    else
      if x2 = 0 then
        b_X12_menLast_42 this x1 I k4 x3
      else
        q_b1 (f_X12_shopAt this x3) fun v10 =>
        q_b1 (q_rd I (this + 1) 3580 (v10 + (nI 1))) fun v12 =>
        if x2 ≤ v12 then
          b_X12_menLast_57 this x1 I k4 x2 x3
        else
          b_X12_menLast_42 this x1 I k4 x3
set_option maxRecDepth 100000 in
set_option maxHeartbeats 4000000 in
theorem p_X12_menLast_4 {l : Launch} {Γ : qC} {g : qG} {z : Int32} {this : Nat} {x1 : Int32} {X : qX} {I : qI} (hΓ : q_gm Γ) (hg : q_Ok l Γ RX12 cX12_menLast 7 (q_rm 4 0 0) "menLast" (some .int) g) (hr : q_Rt cX12_menLast (some .int) (q_rm 4 0 0) (some (.int z), I, X) g) (hX : q_Lay X) (k_this : q_kd X this = some (14, 42)) {k4 : Int32 → Int32 → Option (Int32)} (hk4 : ∀ (x2 : Int32) (x3 : Int32), k4 x2 x3 = some z → g 0 0 4 [(0, .ref this), (1, .int x1), (2, .int x2), (3, .int x3)] [] I X) (x2 : Int32) (x3 : Int32) (h : b_X12_menLast_4 this x1 I k4 x2 x3 = some z) : g 0 0 4 [(0, .ref this), (1, .int x1), (2, .int x2), (3, .int x3)] [] I X := by
  unfold b_X12_menLast_4 at h
  refine r_iload_n hg 3 dX12_menLast_4 rfl rfl ?_
  refine r_aload_n hg 0 dX12_menLast_5 rfl rfl ?_
  have e1 := ly_12_0 hX k_this
  refine r_getR hg dX12_menLast_6 fl_X12_7 k_this rfl e1.1 ?_
  refine r_iconst hg dX12_menLast_9 ci_1 ?_
  obtain ⟨v2, e3, h⟩ := q_b1_some h
  refine r_iald hg dX12_menLast_10 e1.2 e3 ?_
  refine r_icmp_ge hg 65 dX12_menLast_11 (by decide) (fun c4 => ?_) (fun c4 => ?_)
  · rw [if_pos c4] at h
    refine r_iconst hg dX12_menLast_65 ci_m1 ?_
    refine r_istore_n hg (L' := [(3, .int (-1)), (0, .ref this), (1, .int x1), (2, .int x2)]) dX12_menLast_66 rfl (by decide) rfl ?_
    refine r_iconst hg dX12_menLast_67 ci_0 ?_
    refine r_istore hg (L' := [(4, .int (nI 0)), (3, .int (-1)), (0, .ref this), (1, .int x1), (2, .int x2)]) dX12_menLast_68 (by decide) rfl ?_
    refine r_sub hg [2, 3, 4, 1, 0] rfl ?_
    exact pl_X12_menLast_70 hΓ hg hr hX k_this _ _ _ _ h
  · rw [if_neg c4] at h
    refine r_aload_n hg 0 dX12_menLast_14 rfl rfl ?_
    refine r_iload_n hg 3 dX12_menLast_15 rfl rfl ?_
    obtain ⟨v5, e6, h⟩ := q_b1_some h
    refine r_cV1i hg dX12_menLast_16 mt_X12_isTown ml_X12_132 mv_X12_isTown k_this (s_X12_isTown hΓ hX k_this e6) (q_room (Nat.le_of_ble_eq_true rfl) (Nat.le_of_ble_eq_true rfl)) ⟨Nat.zero_le _, Nat.zero_le _⟩ (Nat.le_of_ble_eq_true rfl) ?_
    refine r_if_eq hg 57 dX12_menLast_19 (by decide) (fun c7 => ?_) (fun c7 => ?_)
    · rw [if_pos c7] at h
      exact p_X12_menLast_57 hΓ hg hr hX k_this hk4 _ _ h
    · rw [if_neg c7] at h
      refine r_iload_n hg 2 dX12_menLast_22 rfl rfl ?_
      refine r_if_eq hg 42 dX12_menLast_23 (by decide) (fun c8 => ?_) (fun c8 => ?_)
      · rw [if_pos c8] at h
        refine r_sub hg [0, 1, 3] rfl ?_
        exact p_X12_menLast_42 hΓ hg hr hX k_this hk4 _ h
      · rw [if_neg c8] at h
        refine r_aload_n hg 0 dX12_menLast_26 rfl rfl ?_
        have e9 := ly_12_0 hX k_this
        refine r_getR hg dX12_menLast_27 fl_X12_7 k_this rfl e9.1 ?_
        refine r_aload_n hg 0 dX12_menLast_30 rfl rfl ?_
        refine r_iload_n hg 3 dX12_menLast_31 rfl rfl ?_
        obtain ⟨v10, e11, h⟩ := q_b1_some h
        refine r_cV1i hg dX12_menLast_32 mt_X12_shopAt ml_X12_72 mv_X12_shopAt k_this (s_X12_shopAt hΓ hX k_this e11) (q_room (Nat.le_of_ble_eq_true rfl) (Nat.le_of_ble_eq_true rfl)) ⟨Nat.zero_le _, Nat.zero_le _⟩ (Nat.le_of_ble_eq_true rfl) ?_
        refine r_iconst hg dX12_menLast_35 ci_1 ?_
        refine r_iadd hg dX12_menLast_36 ?_
        obtain ⟨v12, e13, h⟩ := q_b1_some h
        refine r_iald hg dX12_menLast_37 e9.2 e13 ?_
        refine r_iload_n hg 2 dX12_menLast_38 rfl rfl ?_
        refine r_icmp_ge hg 57 dX12_menLast_39 (by decide) (fun c14 => ?_) (fun c14 => ?_)
        · rw [if_pos c14] at h
          exact p_X12_menLast_57 hΓ hg hr hX k_this hk4 _ _ h
        · rw [if_neg c14] at h
          refine r_sub hg [0, 1, 3] rfl ?_
          exact p_X12_menLast_42 hΓ hg hr hX k_this hk4 _ h
theorem pl_X12_menLast_4 {l : Launch} {Γ : qC} {g : qG} {z : Int32} {this : Nat} {x1 : Int32} {X : qX} {I : qI} (hΓ : q_gm Γ) (hg : q_Ok l Γ RX12 cX12_menLast 7 (q_rm 4 0 0) "menLast" (some .int) g) (hr : q_Rt cX12_menLast (some .int) (q_rm 4 0 0) (some (.int z), I, X) g) (hX : q_Lay X) (k_this : q_kd X this = some (14, 42)) : ∀ (n : Nat) (x2 : Int32) (x3 : Int32), q_fix (fun _ _ => none) (b_X12_menLast_4 this x1 I) n x2 x3 = some z → g 0 0 4 [(0, .ref this), (1, .int x1), (2, .int x2), (3, .int x3)] [] I X := by
  intro n
  induction n with
  | zero =>
    intro x2 x3 h
    cases (show (none : Option (Int32)) = some z from h)
  | succ n ih =>
    intro x2 x3 h
    exact p_X12_menLast_4 hΓ hg hr hX k_this ih _ _ h
def f_X12_menLast (this : Nat) (x1 : Int32) (I : qI) : Option (Int32) :=
  q_fix (fun _ _ => none) (b_X12_menLast_4 this x1 I) q_fu (nI 0) (nI 0)
set_option maxRecDepth 100000 in
set_option maxHeartbeats 4000000 in
theorem s_X12_menLast {l : Launch} {Γ : qC} (hΓ : q_gm Γ) {X : qX} (hX : q_Lay X) {this : Nat} {x1 : Int32} (k_this : q_kd X this = some (14, 42)) {I : qI} {z : Int32} (h : f_X12_menLast this x1 I = some z) : q_Sem l Γ (q_rm 4 0 0) yX12_menLast cX12_menLast 7 (some .int) [.ref this, .int x1] I X (some (.int z), I, X) := by
  refine q_met (by decide) (Nat.le_of_ble_eq_true rfl) (fun g hg hr => ?_)
  unfold f_X12_menLast at h
  show g 0 0 0 [(0, .ref this), (1, .int x1)] [] I X
  refine r_iconst hg dX12_menLast_0 ci_0 ?_
  refine r_istore_n hg (L' := [(2, .int (nI 0)), (0, .ref this), (1, .int x1)]) dX12_menLast_1 rfl (by decide) rfl ?_
  refine r_iconst hg dX12_menLast_2 ci_0 ?_
  refine r_istore_n hg (L' := [(3, .int (nI 0)), (2, .int (nI 0)), (0, .ref this), (1, .int x1)]) dX12_menLast_3 rfl (by decide) rfl ?_
  refine r_sub hg [2, 3, 1, 0] rfl ?_
  exact pl_X12_menLast_4 hΓ hg hr hX k_this _ _ _ h

def b_X12_news_226 (this : Nat) (x1 : Int32) (x2 : Int32) (k125 : Int32 → Int32 → qI → Option (qI)) (x3 : Int32) (x4 : Int32) (I : qI) : Option (qI) :=
  k125 x3 (x4 + (nI 1)) I
set_option maxRecDepth 100000 in
set_option maxHeartbeats 4000000 in
theorem p_X12_news_226 {l : Launch} {Γ : qC} {g : qG} {z : qI} {this : Nat} {x1 : Int32} {x2 : Int32} {X : qX} (hΓ : q_gm Γ) (hg : q_Ok l Γ RX12 cX12_news 6 (q_rm 4 0 0) "news" none g) (hr : q_Rt cX12_news none (q_rm 4 0 0) (none, z, X) g) (hX : q_Lay X) (k_this : q_kd X this = some (14, 42)) {k125 : Int32 → Int32 → qI → Option (qI)} (hk125 : ∀ (x3 : Int32) (x4 : Int32) (I : qI), k125 x3 x4 I = some z → g 0 0 125 [(0, .ref this), (1, .int x1), (2, .int x2), (3, .int x3), (4, .int x4)] [] I X) (x3 : Int32) (x4 : Int32) (I : qI) (h : b_X12_news_226 this x1 x2 k125 x3 x4 I = some z) : g 0 0 226 [(0, .ref this), (1, .int x1), (2, .int x2), (3, .int x3), (4, .int x4)] [] I X := by
  unfold b_X12_news_226 at h
  refine r_iinc hg 4 (v := (x4 + (nI 1))) (L' := [(4, .int (x4 + (nI 1))), (0, .ref this), (1, .int x1), (2, .int x2), (3, .int x3)]) dX12_news_226 rfl (by rw [ci_1]) (by decide) rfl ?_
  refine r_goto hg 125 dX12_news_229 (by decide) ?_
  refine r_sub hg [1, 2, 3, 4, 0] rfl ?_
  exact hk125 _ _ _ h
def b_X12_news_125 (this : Nat) (x1 : Int32) (x2 : Int32) (k125 : Int32 → Int32 → qI → Option (qI)) (x3 : Int32) (x4 : Int32) (I : qI) : Option (qI) :=
  q_b1 (q_rd I (this + 1) 3580 (nI 2)) fun v2 =>
  if v2 ≤ x4 then
    some (I)
  else
    if x3 < 0 then
      some (I)
    else
      q_b1 (f_X12_manAt this x4) fun v7 =>
      q_b1 (q_rd I (this + 1) 3580 v7) fun v9 =>
      if v9 = x1 then
        q_b1 (f_X12_isGone this x4 I) fun v12 =>
        if v12 = 0 then
          q_b1 (f_X12_manAt this x4) fun v16 =>
          q_b1 (f_X12_manAt this x3) fun v19 =>
          q_b1 (q_rd I (this + 1) 3580 ((v19 + (nI 12)) + x2)) fun v21 =>
          q_b1 (q_wr I (this + 1) 3580 ((v16 + (nI 12)) + x2) v21) fun I23 =>
          q_b1 (f_X12_manAt this x4) fun v26 =>
          q_b1 (f_X12_manAt this x3) fun v29 =>
          q_b1 (q_rd I23 (this + 1) 3580 ((v29 + (nI 18)) + x2)) fun v31 =>
          q_b1 (q_wr I23 (this + 1) 3580 ((v26 + (nI 18)) + x2) v31) fun I33 =>
          b_X12_news_226 this x1 x2 k125 x3 x4 I33
        else
          b_X12_news_226 this x1 x2 k125 x3 x4 I
      else
        b_X12_news_226 this x1 x2 k125 x3 x4 I
set_option maxRecDepth 100000 in
set_option maxHeartbeats 4000000 in
theorem p_X12_news_125 {l : Launch} {Γ : qC} {g : qG} {z : qI} {this : Nat} {x1 : Int32} {x2 : Int32} {X : qX} (hΓ : q_gm Γ) (hg : q_Ok l Γ RX12 cX12_news 6 (q_rm 4 0 0) "news" none g) (hr : q_Rt cX12_news none (q_rm 4 0 0) (none, z, X) g) (hX : q_Lay X) (k_this : q_kd X this = some (14, 42)) {k125 : Int32 → Int32 → qI → Option (qI)} (hk125 : ∀ (x3 : Int32) (x4 : Int32) (I : qI), k125 x3 x4 I = some z → g 0 0 125 [(0, .ref this), (1, .int x1), (2, .int x2), (3, .int x3), (4, .int x4)] [] I X) (x3 : Int32) (x4 : Int32) (I : qI) (h : b_X12_news_125 this x1 x2 k125 x3 x4 I = some z) : g 0 0 125 [(0, .ref this), (1, .int x1), (2, .int x2), (3, .int x3), (4, .int x4)] [] I X := by
  unfold b_X12_news_125 at h
  refine r_iload hg 4 dX12_news_125 rfl ?_
  refine r_aload_n hg 0 dX12_news_127 rfl rfl ?_
  have e1 := ly_12_0 hX k_this
  refine r_getR hg dX12_news_128 fl_X12_7 k_this rfl e1.1 ?_
  refine r_iconst hg dX12_news_131 ci_2 ?_
  obtain ⟨v2, e3, h⟩ := q_b1_some h
  refine r_iald hg dX12_news_132 e1.2 e3 ?_
  refine r_icmp_ge hg 232 dX12_news_133 (by decide) (fun c4 => ?_) (fun c4 => ?_)
  · rw [if_pos c4] at h
    exact r_return hr dX12_news_232 ⟨Nat.zero_le _, Nat.zero_le _⟩ rfl (by cases h; rfl)
  · rw [if_neg c4] at h
    refine r_iload_n hg 3 dX12_news_136 rfl rfl ?_
    refine r_if_lt hg 232 dX12_news_137 (by decide) (fun c5 => ?_) (fun c5 => ?_)
    · rw [if_pos c5] at h
      exact r_return hr dX12_news_232 ⟨Nat.zero_le _, Nat.zero_le _⟩ rfl (by cases h; rfl)
    · rw [if_neg c5] at h
      refine r_aload_n hg 0 dX12_news_140 rfl rfl ?_
      have e6 := ly_12_0 hX k_this
      refine r_getR hg dX12_news_141 fl_X12_7 k_this rfl e6.1 ?_
      refine r_aload_n hg 0 dX12_news_144 rfl rfl ?_
      refine r_iload hg 4 dX12_news_145 rfl ?_
      obtain ⟨v7, e8, h⟩ := q_b1_some h
      refine r_cV1i hg dX12_news_147 mt_X12_manAt ml_X12_68 mv_X12_manAt k_this (s_X12_manAt hΓ hX k_this e8) (q_room (Nat.le_of_ble_eq_true rfl) (Nat.le_of_ble_eq_true rfl)) ⟨Nat.zero_le _, Nat.zero_le _⟩ (Nat.le_of_ble_eq_true rfl) ?_
      obtain ⟨v9, e10, h⟩ := q_b1_some h
      refine r_iald hg dX12_news_150 e6.2 e10 ?_
      refine r_iload_n hg 1 dX12_news_151 rfl rfl ?_
      refine r_icmp_ne hg 226 dX12_news_152 (by decide) (fun c11 => ?_) (fun c11 => ?_)
      · rw [if_neg c11] at h
        exact p_X12_news_226 hΓ hg hr hX k_this hk125 _ _ _ h
      · rw [if_pos (Classical.not_not.mp c11)] at h
        refine r_aload_n hg 0 dX12_news_155 rfl rfl ?_
        refine r_iload hg 4 dX12_news_156 rfl ?_
        obtain ⟨v12, e13, h⟩ := q_b1_some h
        refine r_cV1i hg dX12_news_158 mt_X12_isGone ml_X12_93 mv_X12_isGone k_this (s_X12_isGone hΓ hX k_this e13) (q_room (Nat.le_of_ble_eq_true rfl) (Nat.le_of_ble_eq_true rfl)) ⟨Nat.zero_le _, Nat.zero_le _⟩ (Nat.le_of_ble_eq_true rfl) ?_
        refine r_if_ne hg 226 dX12_news_161 (by decide) (fun c14 => ?_) (fun c14 => ?_)
        · rw [if_neg c14] at h
          exact p_X12_news_226 hΓ hg hr hX k_this hk125 _ _ _ h
        · rw [if_pos (Classical.not_not.mp c14)] at h
          refine r_aload_n hg 0 dX12_news_164 rfl rfl ?_
          have e15 := ly_12_0 hX k_this
          refine r_getR hg dX12_news_165 fl_X12_7 k_this rfl e15.1 ?_
          refine r_aload_n hg 0 dX12_news_168 rfl rfl ?_
          refine r_iload hg 4 dX12_news_169 rfl ?_
          obtain ⟨v16, e17, h⟩ := q_b1_some h
          refine r_cV1i hg dX12_news_171 mt_X12_manAt ml_X12_68 mv_X12_manAt k_this (s_X12_manAt hΓ hX k_this e17) (q_room (Nat.le_of_ble_eq_true rfl) (Nat.le_of_ble_eq_true rfl)) ⟨Nat.zero_le _, Nat.zero_le _⟩ (Nat.le_of_ble_eq_true rfl) ?_
          refine r_bipush hg dX12_news_174 cb_12 ?_
          refine r_iadd hg dX12_news_176 ?_
          refine r_iload_n hg 2 dX12_news_177 rfl rfl ?_
          refine r_iadd hg dX12_news_178 ?_
          refine r_aload_n hg 0 dX12_news_179 rfl rfl ?_
          have e18 := ly_12_0 hX k_this
          refine r_getR hg dX12_news_180 fl_X12_7 k_this rfl e18.1 ?_
          refine r_aload_n hg 0 dX12_news_183 rfl rfl ?_
          refine r_iload_n hg 3 dX12_news_184 rfl rfl ?_
          obtain ⟨v19, e20, h⟩ := q_b1_some h
          refine r_cV1i hg dX12_news_185 mt_X12_manAt ml_X12_68 mv_X12_manAt k_this (s_X12_manAt hΓ hX k_this e20) (q_room (Nat.le_of_ble_eq_true rfl) (Nat.le_of_ble_eq_true rfl)) ⟨Nat.zero_le _, Nat.zero_le _⟩ (Nat.le_of_ble_eq_true rfl) ?_
          refine r_bipush hg dX12_news_188 cb_12 ?_
          refine r_iadd hg dX12_news_190 ?_
          refine r_iload_n hg 2 dX12_news_191 rfl rfl ?_
          refine r_iadd hg dX12_news_192 ?_
          obtain ⟨v21, e22, h⟩ := q_b1_some h
          refine r_iald hg dX12_news_193 e18.2 e22 ?_
          obtain ⟨I23, e24, h⟩ := q_b1_some h
          refine r_iast hg dX12_news_194 e15.2 e24 ?_
          refine r_aload_n hg 0 dX12_news_195 rfl rfl ?_
          have e25 := ly_12_0 hX k_this
          refine r_getR hg dX12_news_196 fl_X12_7 k_this rfl e25.1 ?_
          refine r_aload_n hg 0 dX12_news_199 rfl rfl ?_
          refine r_iload hg 4 dX12_news_200 rfl ?_
          obtain ⟨v26, e27, h⟩ := q_b1_some h
          refine r_cV1i hg dX12_news_202 mt_X12_manAt ml_X12_68 mv_X12_manAt k_this (s_X12_manAt hΓ hX k_this e27) (q_room (Nat.le_of_ble_eq_true rfl) (Nat.le_of_ble_eq_true rfl)) ⟨Nat.zero_le _, Nat.zero_le _⟩ (Nat.le_of_ble_eq_true rfl) ?_
          refine r_bipush hg dX12_news_205 cb_18 ?_
          refine r_iadd hg dX12_news_207 ?_
          refine r_iload_n hg 2 dX12_news_208 rfl rfl ?_
          refine r_iadd hg dX12_news_209 ?_
          refine r_aload_n hg 0 dX12_news_210 rfl rfl ?_
          have e28 := ly_12_0 hX k_this
          refine r_getR hg dX12_news_211 fl_X12_7 k_this rfl e28.1 ?_
          refine r_aload_n hg 0 dX12_news_214 rfl rfl ?_
          refine r_iload_n hg 3 dX12_news_215 rfl rfl ?_
          obtain ⟨v29, e30, h⟩ := q_b1_some h
          refine r_cV1i hg dX12_news_216 mt_X12_manAt ml_X12_68 mv_X12_manAt k_this (s_X12_manAt hΓ hX k_this e30) (q_room (Nat.le_of_ble_eq_true rfl) (Nat.le_of_ble_eq_true rfl)) ⟨Nat.zero_le _, Nat.zero_le _⟩ (Nat.le_of_ble_eq_true rfl) ?_
          refine r_bipush hg dX12_news_219 cb_18 ?_
          refine r_iadd hg dX12_news_221 ?_
          refine r_iload_n hg 2 dX12_news_222 rfl rfl ?_
          refine r_iadd hg dX12_news_223 ?_
          obtain ⟨v31, e32, h⟩ := q_b1_some h
          refine r_iald hg dX12_news_224 e28.2 e32 ?_
          obtain ⟨I33, e34, h⟩ := q_b1_some h
          refine r_iast hg dX12_news_225 e25.2 e34 ?_
          exact p_X12_news_226 hΓ hg hr hX k_this hk125 _ _ _ h
theorem pl_X12_news_125 {l : Launch} {Γ : qC} {g : qG} {z : qI} {this : Nat} {x1 : Int32} {x2 : Int32} {X : qX} (hΓ : q_gm Γ) (hg : q_Ok l Γ RX12 cX12_news 6 (q_rm 4 0 0) "news" none g) (hr : q_Rt cX12_news none (q_rm 4 0 0) (none, z, X) g) (hX : q_Lay X) (k_this : q_kd X this = some (14, 42)) : ∀ (n : Nat) (x3 : Int32) (x4 : Int32) (I : qI), q_fix (fun _ _ _ => none) (b_X12_news_125 this x1 x2) n x3 x4 I = some z → g 0 0 125 [(0, .ref this), (1, .int x1), (2, .int x2), (3, .int x3), (4, .int x4)] [] I X := by
  intro n
  induction n with
  | zero =>
    intro x3 x4 I h
    cases (show (none : Option (qI)) = some z from h)
  | succ n ih =>
    intro x3 x4 I h
    exact p_X12_news_125 hΓ hg hr hX k_this ih _ _ _ h
def b_X12_news_115 (this : Nat) (x1 : Int32) (x2 : Int32) (k5 : Int32 → Int32 → qI → Option (qI)) (x4 : Int32) (s0 : Int32) (I : qI) : Option (qI) :=
  k5 s0 (x4 + (nI 1)) I
set_option maxRecDepth 100000 in
set_option maxHeartbeats 4000000 in
theorem p_X12_news_115 {l : Launch} {Γ : qC} {g : qG} {z : qI} {this : Nat} {x1 : Int32} {x2 : Int32} {X : qX} (hΓ : q_gm Γ) (hg : q_Ok l Γ RX12 cX12_news 6 (q_rm 4 0 0) "news" none g) (hr : q_Rt cX12_news none (q_rm 4 0 0) (none, z, X) g) (hX : q_Lay X) (k_this : q_kd X this = some (14, 42)) {k5 : Int32 → Int32 → qI → Option (qI)} (hk5 : ∀ (x3 : Int32) (x4 : Int32) (I : qI), k5 x3 x4 I = some z → g 0 0 5 [(0, .ref this), (1, .int x1), (2, .int x2), (3, .int x3), (4, .int x4)] [] I X) (x4 : Int32) (s0 : Int32) (I : qI) (h : b_X12_news_115 this x1 x2 k5 x4 s0 I = some z) : g 0 0 115 [(0, .ref this), (1, .int x1), (2, .int x2), (4, .int x4)] [.int s0] I X := by
  unfold b_X12_news_115 at h
  refine r_istore_n hg (L' := [(3, .int s0), (0, .ref this), (1, .int x1), (2, .int x2), (4, .int x4)]) dX12_news_115 rfl (by decide) rfl ?_
  refine r_iinc hg 4 (v := (x4 + (nI 1))) (L' := [(4, .int (x4 + (nI 1))), (3, .int s0), (0, .ref this), (1, .int x1), (2, .int x2)]) dX12_news_116 rfl (by rw [ci_1]) (by decide) rfl ?_
  refine r_goto hg 5 dX12_news_119 (by decide) ?_
  refine r_sub hg [2, 3, 4, 1, 0] rfl ?_
  exact hk5 _ _ _ h
def b_X12_news_114 (this : Nat) (x1 : Int32) (x2 : Int32) (k5 : Int32 → Int32 → qI → Option (qI)) (x3 : Int32) (x4 : Int32) (I : qI) : Option (qI) :=
  b_X12_news_115 this x1 x2 k5 x4 x3 I
set_option maxRecDepth 100000 in
set_option maxHeartbeats 4000000 in
theorem p_X12_news_114 {l : Launch} {Γ : qC} {g : qG} {z : qI} {this : Nat} {x1 : Int32} {x2 : Int32} {X : qX} (hΓ : q_gm Γ) (hg : q_Ok l Γ RX12 cX12_news 6 (q_rm 4 0 0) "news" none g) (hr : q_Rt cX12_news none (q_rm 4 0 0) (none, z, X) g) (hX : q_Lay X) (k_this : q_kd X this = some (14, 42)) {k5 : Int32 → Int32 → qI → Option (qI)} (hk5 : ∀ (x3 : Int32) (x4 : Int32) (I : qI), k5 x3 x4 I = some z → g 0 0 5 [(0, .ref this), (1, .int x1), (2, .int x2), (3, .int x3), (4, .int x4)] [] I X) (x3 : Int32) (x4 : Int32) (I : qI) (h : b_X12_news_114 this x1 x2 k5 x3 x4 I = some z) : g 0 0 114 [(0, .ref this), (1, .int x1), (2, .int x2), (3, .int x3), (4, .int x4)] [] I X := by
  unfold b_X12_news_114 at h
  refine r_iload_n hg 3 dX12_news_114 rfl rfl ?_
  refine r_sub hg [0, 1, 2, 4] rfl ?_
  exact p_X12_news_115 hΓ hg hr hX k_this hk5 _ _ _ h
def b_X12_news_109 (this : Nat) (x1 : Int32) (x2 : Int32) (k5 : Int32 → Int32 → qI → Option (qI)) (x4 : Int32) (I : qI) : Option (qI) :=
  b_X12_news_115 this x1 x2 k5 x4 x4 I
set_option maxRecDepth 100000 in
set_option maxHeartbeats 4000000 in
theorem p_X12_news_109 {l : Launch} {Γ : qC} {g : qG} {z : qI} {this : Nat} {x1 : Int32} {x2 : Int32} {X : qX} (hΓ : q_gm Γ) (hg : q_Ok l Γ RX12 cX12_news 6 (q_rm 4 0 0) "news" none g) (hr : q_Rt cX12_news none (q_rm 4 0 0) (none, z, X) g) (hX : q_Lay X) (k_this : q_kd X this = some (14, 42)) {k5 : Int32 → Int32 → qI → Option (qI)} (hk5 : ∀ (x3 : Int32) (x4 : Int32) (I : qI), k5 x3 x4 I = some z → g 0 0 5 [(0, .ref this), (1, .int x1), (2, .int x2), (3, .int x3), (4, .int x4)] [] I X) (x4 : Int32) (I : qI) (h : b_X12_news_109 this x1 x2 k5 x4 I = some z) : g 0 0 109 [(0, .ref this), (1, .int x1), (2, .int x2), (4, .int x4)] [] I X := by
  unfold b_X12_news_109 at h
  refine r_iload hg 3 dX12_news_109 rfl ?_
  refine r_goto hg 115 dX12_news_111 (by decide) ?_
  exact p_X12_news_115 hΓ hg hr hX k_this hk5 _ _ _ h
def b_X12_news_64 (this : Nat) (x1 : Int32) (x2 : Int32) (k5 : Int32 → Int32 → qI → Option (qI)) (x3 : Int32) (x4 : Int32) (s0 : Int32) (I : qI) : Option (qI) :=
  if s0 = 0 then
    b_X12_news_114 this x1 x2 k5 x3 x4 I
  else
    if x3 < 0 then
      b_X12_news_109 this x1 x2 k5 x4 I
    else
      q_b1 (f_X12_manAt this x4) fun v4 =>
      q_b1 (q_rd I (this + 1) 3580 ((v4 + (nI 18)) + x2)) fun v6 =>
      q_b1 (f_X12_manAt this x3) fun v9 =>
      q_b1 (q_rd I (this + 1) 3580 ((v9 + (nI 18)) + x2)) fun v11 =>
      if v6 ≤ v11 then
        b_X12_news_114 this x1 x2 k5 x3 x4 I
      else
        b_X12_news_109 this x1 x2 k5 x4 I
set_option maxRecDepth 100000 in
set_option maxHeartbeats 4000000 in
theorem p_X12_news_64 {l : Launch} {Γ : qC} {g : qG} {z : qI} {this : Nat} {x1 : Int32} {x2 : Int32} {X : qX} (hΓ : q_gm Γ) (hg : q_Ok l Γ RX12 cX12_news 6 (q_rm 4 0 0) "news" none g) (hr : q_Rt cX12_news none (q_rm 4 0 0) (none, z, X) g) (hX : q_Lay X) (k_this : q_kd X this = some (14, 42)) {k5 : Int32 → Int32 → qI → Option (qI)} (hk5 : ∀ (x3 : Int32) (x4 : Int32) (I : qI), k5 x3 x4 I = some z → g 0 0 5 [(0, .ref this), (1, .int x1), (2, .int x2), (3, .int x3), (4, .int x4)] [] I X) (x3 : Int32) (x4 : Int32) (s0 : Int32) (I : qI) (h : b_X12_news_64 this x1 x2 k5 x3 x4 s0 I = some z) : g 0 0 64 [(0, .ref this), (1, .int x1), (2, .int x2), (3, .int x3), (4, .int x4)] [.int s0] I X := by
  unfold b_X12_news_64 at h
  refine r_istore hg (L' := [(5, .int s0), (0, .ref this), (1, .int x1), (2, .int x2), (3, .int x3), (4, .int x4)]) dX12_news_64 (by decide) rfl ?_
  refine r_iload hg 0 dX12_news_66 rfl ?_
  refine r_if_eq hg 114 dX12_news_68 (by decide) (fun c1 => ?_) (fun c1 => ?_)
  · rw [if_pos c1] at h
    refine r_sub hg [1, 2, 3, 4, 5] rfl ?_
    exact p_X12_news_114 hΓ hg hr hX k_this hk5 _ _ _ h
  · rw [if_neg c1] at h
    refine r_iload_n hg 4 dX12_news_71 rfl rfl ?_
    refine r_if_lt hg 109 dX12_news_72 (by decide) (fun c2 => ?_) (fun c2 => ?_)
    · rw [if_pos c2] at h
      refine r_sub hg [1, 2, 3, 5] rfl ?_
      exact p_X12_news_109 hΓ hg hr hX k_this hk5 _ _ h
    · rw [if_neg c2] at h
      refine r_aload_n hg 1 dX12_news_75 rfl rfl ?_
      have e3 := ly_12_0 hX k_this
      refine r_getR hg dX12_news_76 fl_X12_7 k_this rfl e3.1 ?_
      refine r_aload_n hg 1 dX12_news_79 rfl rfl ?_
      refine r_iload hg 5 dX12_news_80 rfl ?_
      obtain ⟨v4, e5, h⟩ := q_b1_some h
      refine r_cV1i hg dX12_news_82 mt_X12_manAt ml_X12_68 mv_X12_manAt k_this (s_X12_manAt hΓ hX k_this e5) (q_room (Nat.le_of_ble_eq_true rfl) (Nat.le_of_ble_eq_true rfl)) ⟨Nat.zero_le _, Nat.zero_le _⟩ (Nat.le_of_ble_eq_true rfl) ?_
      refine r_bipush hg dX12_news_85 cb_18 ?_
      refine r_iadd hg dX12_news_87 ?_
      refine r_iload_n hg 3 dX12_news_88 rfl rfl ?_
      refine r_iadd hg dX12_news_89 ?_
      obtain ⟨v6, e7, h⟩ := q_b1_some h
      refine r_iald hg dX12_news_90 e3.2 e7 ?_
      refine r_aload_n hg 1 dX12_news_91 rfl rfl ?_
      have e8 := ly_12_0 hX k_this
      refine r_getR hg dX12_news_92 fl_X12_7 k_this rfl e8.1 ?_
      refine r_aload_n hg 1 dX12_news_95 rfl rfl ?_
      refine r_iload_n hg 4 dX12_news_96 rfl rfl ?_
      obtain ⟨v9, e10, h⟩ := q_b1_some h
      refine r_cV1i hg dX12_news_97 mt_X12_manAt ml_X12_68 mv_X12_manAt k_this (s_X12_manAt hΓ hX k_this e10) (q_room (Nat.le_of_ble_eq_true rfl) (Nat.le_of_ble_eq_true rfl)) ⟨Nat.zero_le _, Nat.zero_le _⟩ (Nat.le_of_ble_eq_true rfl) ?_
      refine r_bipush hg dX12_news_100 cb_18 ?_
      refine r_iadd hg dX12_news_102 ?_
      refine r_iload_n hg 3 dX12_news_103 rfl rfl ?_
      refine r_iadd hg dX12_news_104 ?_
      obtain ⟨v11, e12, h⟩ := q_b1_some h
      refine r_iald hg dX12_news_105 e8.2 e12 ?_
      refine r_icmp_le hg 114 dX12_news_106 (by decide) (fun c13 => ?_) (fun c13 => ?_)
      · rw [if_pos c13] at h
        refine r_sub hg [1, 2, 3, 4, 5] rfl ?_
        exact p_X12_news_114 hΓ hg hr hX k_this hk5 _ _ _ h
      · rw [if_neg c13] at h
        refine r_sub hg [1, 2, 3, 5] rfl ?_
        exact p_X12_news_109 hΓ hg hr hX k_this hk5 _ _ h
def b_X12_news_63 (this : Nat) (x1 : Int32) (x2 : Int32) (k5 : Int32 → Int32 → qI → Option (qI)) (x3 : Int32) (x4 : Int32) (I : qI) : Option (qI) :=
  b_X12_news_64 this x1 x2 k5 x3 x4 (nI 0) I
set_option maxRecDepth 100000 in
set_option maxHeartbeats 4000000 in
theorem p_X12_news_63 {l : Launch} {Γ : qC} {g : qG} {z : qI} {this : Nat} {x1 : Int32} {x2 : Int32} {X : qX} (hΓ : q_gm Γ) (hg : q_Ok l Γ RX12 cX12_news 6 (q_rm 4 0 0) "news" none g) (hr : q_Rt cX12_news none (q_rm 4 0 0) (none, z, X) g) (hX : q_Lay X) (k_this : q_kd X this = some (14, 42)) {k5 : Int32 → Int32 → qI → Option (qI)} (hk5 : ∀ (x3 : Int32) (x4 : Int32) (I : qI), k5 x3 x4 I = some z → g 0 0 5 [(0, .ref this), (1, .int x1), (2, .int x2), (3, .int x3), (4, .int x4)] [] I X) (x3 : Int32) (x4 : Int32) (I : qI) (h : b_X12_news_63 this x1 x2 k5 x3 x4 I = some z) : g 0 0 63 [(0, .ref this), (1, .int x1), (2, .int x2), (3, .int x3), (4, .int x4)] [] I X := by
  unfold b_X12_news_63 at h
  refine r_iconst hg dX12_news_63 ci_0 ?_
  exact p_X12_news_64 hΓ hg hr hX k_this hk5 _ _ _ _ h
def b_X12_news_5 (this : Nat) (x1 : Int32) (x2 : Int32) (k5 : Int32 → Int32 → qI → Option (qI)) (x3 : Int32) (x4 : Int32) (I : qI) : Option (qI) :=
  q_b1 (q_rd I (this + 1) 3580 (nI 2)) fun v2 =>
  if v2 ≤ x4 then
    q_fix (fun _ _ _ => none) (b_X12_news_125 this x1 x2) q_fu x3 (nI 0) I
  else
    q_b1 (f_X12_manAt this x4) fun v6 =>
    q_b1 (q_rd I (this + 1) 3580 v6) fun v8 =>
    if v8 = x1 then
      q_b1 (f_X12_isGone this x4 I) fun v11 =>
      if v11 = 0 then
        q_b1 (f_X12_manAt this x4) fun v15 =>
        q_b1 (q_rd I (this + 1) 3580 ((v15 + (nI 18)) + x2)) fun v17 =>
        if v17 < 0 then
          b_X12_news_63 this x1 x2 k5 x3 x4 I
        else
          b_X12_news_64 this x1 x2 k5 x3 x4 (nI 1) I
      else
        b_X12_news_63 this x1 x2 k5 x3 x4 I
    else
      b_X12_news_63 this x1 x2 k5 x3 x4 I
set_option maxRecDepth 100000 in
set_option maxHeartbeats 4000000 in
theorem p_X12_news_5 {l : Launch} {Γ : qC} {g : qG} {z : qI} {this : Nat} {x1 : Int32} {x2 : Int32} {X : qX} (hΓ : q_gm Γ) (hg : q_Ok l Γ RX12 cX12_news 6 (q_rm 4 0 0) "news" none g) (hr : q_Rt cX12_news none (q_rm 4 0 0) (none, z, X) g) (hX : q_Lay X) (k_this : q_kd X this = some (14, 42)) {k5 : Int32 → Int32 → qI → Option (qI)} (hk5 : ∀ (x3 : Int32) (x4 : Int32) (I : qI), k5 x3 x4 I = some z → g 0 0 5 [(0, .ref this), (1, .int x1), (2, .int x2), (3, .int x3), (4, .int x4)] [] I X) (x3 : Int32) (x4 : Int32) (I : qI) (h : b_X12_news_5 this x1 x2 k5 x3 x4 I = some z) : g 0 0 5 [(0, .ref this), (1, .int x1), (2, .int x2), (3, .int x3), (4, .int x4)] [] I X := by
  unfold b_X12_news_5 at h
  refine r_iload hg 4 dX12_news_5 rfl ?_
  refine r_aload_n hg 0 dX12_news_7 rfl rfl ?_
  have e1 := ly_12_0 hX k_this
  refine r_getR hg dX12_news_8 fl_X12_7 k_this rfl e1.1 ?_
  refine r_iconst hg dX12_news_11 ci_2 ?_
  obtain ⟨v2, e3, h⟩ := q_b1_some h
  refine r_iald hg dX12_news_12 e1.2 e3 ?_
  refine r_icmp_ge hg 122 dX12_news_13 (by decide) (fun c4 => ?_) (fun c4 => ?_)
  · rw [if_pos c4] at h
    refine r_iconst hg dX12_news_122 ci_0 ?_
    refine r_istore hg (L' := [(4, .int (nI 0)), (0, .ref this), (1, .int x1), (2, .int x2), (3, .int x3)]) dX12_news_123 (by decide) rfl ?_
    refine r_sub hg [1, 2, 3, 4, 0] rfl ?_
    exact pl_X12_news_125 hΓ hg hr hX k_this _ _ _ _ h
  · rw [if_neg c4] at h
    refine r_aload_n hg 0 dX12_news_16 rfl rfl ?_
    have e5 := ly_12_0 hX k_this
    refine r_getR hg dX12_news_17 fl_X12_7 k_this rfl e5.1 ?_
    refine r_aload_n hg 0 dX12_news_20 rfl rfl ?_
    refine r_iload hg 4 dX12_news_21 rfl ?_
    obtain ⟨v6, e7, h⟩ := q_b1_some h
    refine r_cV1i hg dX12_news_23 mt_X12_manAt ml_X12_68 mv_X12_manAt k_this (s_X12_manAt hΓ hX k_this e7) (q_room (Nat.le_of_ble_eq_true rfl) (Nat.le_of_ble_eq_true rfl)) ⟨Nat.zero_le _, Nat.zero_le _⟩ (Nat.le_of_ble_eq_true rfl) ?_
    obtain ⟨v8, e9, h⟩ := q_b1_some h
    refine r_iald hg dX12_news_26 e5.2 e9 ?_
    refine r_iload_n hg 1 dX12_news_27 rfl rfl ?_
    refine r_icmp_ne hg 63 dX12_news_28 (by decide) (fun c10 => ?_) (fun c10 => ?_)
    · rw [if_neg c10] at h
      exact p_X12_news_63 hΓ hg hr hX k_this hk5 _ _ _ h
    · rw [if_pos (Classical.not_not.mp c10)] at h
      refine r_aload_n hg 0 dX12_news_31 rfl rfl ?_
      refine r_iload hg 4 dX12_news_32 rfl ?_
      obtain ⟨v11, e12, h⟩ := q_b1_some h
      refine r_cV1i hg dX12_news_34 mt_X12_isGone ml_X12_93 mv_X12_isGone k_this (s_X12_isGone hΓ hX k_this e12) (q_room (Nat.le_of_ble_eq_true rfl) (Nat.le_of_ble_eq_true rfl)) ⟨Nat.zero_le _, Nat.zero_le _⟩ (Nat.le_of_ble_eq_true rfl) ?_
      refine r_if_ne hg 63 dX12_news_37 (by decide) (fun c13 => ?_) (fun c13 => ?_)
      · rw [if_neg c13] at h
        exact p_X12_news_63 hΓ hg hr hX k_this hk5 _ _ _ h
      · rw [if_pos (Classical.not_not.mp c13)] at h
        refine r_aload_n hg 0 dX12_news_40 rfl rfl ?_
        have e14 := ly_12_0 hX k_this
        refine r_getR hg dX12_news_41 fl_X12_7 k_this rfl e14.1 ?_
        refine r_aload_n hg 0 dX12_news_44 rfl rfl ?_
        refine r_iload hg 4 dX12_news_45 rfl ?_
        obtain ⟨v15, e16, h⟩ := q_b1_some h
        refine r_cV1i hg dX12_news_47 mt_X12_manAt ml_X12_68 mv_X12_manAt k_this (s_X12_manAt hΓ hX k_this e16) (q_room (Nat.le_of_ble_eq_true rfl) (Nat.le_of_ble_eq_true rfl)) ⟨Nat.zero_le _, Nat.zero_le _⟩ (Nat.le_of_ble_eq_true rfl) ?_
        refine r_bipush hg dX12_news_50 cb_18 ?_
        refine r_iadd hg dX12_news_52 ?_
        refine r_iload_n hg 2 dX12_news_53 rfl rfl ?_
        refine r_iadd hg dX12_news_54 ?_
        obtain ⟨v17, e18, h⟩ := q_b1_some h
        refine r_iald hg dX12_news_55 e14.2 e18 ?_
        refine r_if_lt hg 63 dX12_news_56 (by decide) (fun c19 => ?_) (fun c19 => ?_)
        · rw [if_pos c19] at h
          exact p_X12_news_63 hΓ hg hr hX k_this hk5 _ _ _ h
        · rw [if_neg c19] at h
          refine r_iconst hg dX12_news_59 ci_1 ?_
          refine r_goto hg 64 dX12_news_60 (by decide) ?_
          exact p_X12_news_64 hΓ hg hr hX k_this hk5 _ _ _ _ h
theorem pl_X12_news_5 {l : Launch} {Γ : qC} {g : qG} {z : qI} {this : Nat} {x1 : Int32} {x2 : Int32} {X : qX} (hΓ : q_gm Γ) (hg : q_Ok l Γ RX12 cX12_news 6 (q_rm 4 0 0) "news" none g) (hr : q_Rt cX12_news none (q_rm 4 0 0) (none, z, X) g) (hX : q_Lay X) (k_this : q_kd X this = some (14, 42)) : ∀ (n : Nat) (x3 : Int32) (x4 : Int32) (I : qI), q_fix (fun _ _ _ => none) (b_X12_news_5 this x1 x2) n x3 x4 I = some z → g 0 0 5 [(0, .ref this), (1, .int x1), (2, .int x2), (3, .int x3), (4, .int x4)] [] I X := by
  intro n
  induction n with
  | zero =>
    intro x3 x4 I h
    cases (show (none : Option (qI)) = some z from h)
  | succ n ih =>
    intro x3 x4 I h
    exact p_X12_news_5 hΓ hg hr hX k_this ih _ _ _ h
def f_X12_news (this : Nat) (x1 : Int32) (x2 : Int32) (I : qI) : Option (qI) :=
  q_fix (fun _ _ _ => none) (b_X12_news_5 this x1 x2) q_fu (-1) (nI 0) I
set_option maxRecDepth 100000 in
set_option maxHeartbeats 4000000 in
theorem s_X12_news {l : Launch} {Γ : qC} (hΓ : q_gm Γ) {X : qX} (hX : q_Lay X) {this : Nat} {x1 : Int32} {x2 : Int32} (k_this : q_kd X this = some (14, 42)) {I : qI} {z : qI} (h : f_X12_news this x1 x2 I = some z) : q_Sem l Γ (q_rm 4 0 0) yX12_news cX12_news 6 none [.ref this, .int x1, .int x2] I X (none, z, X) := by
  refine q_met (by decide) (Nat.le_of_ble_eq_true rfl) (fun g hg hr => ?_)
  unfold f_X12_news at h
  show g 0 0 0 [(0, .ref this), (1, .int x1), (2, .int x2)] [] I X
  refine r_iconst hg dX12_news_0 ci_m1 ?_
  refine r_istore_n hg (L' := [(3, .int (-1)), (0, .ref this), (1, .int x1), (2, .int x2)]) dX12_news_1 rfl (by decide) rfl ?_
  refine r_iconst hg dX12_news_2 ci_0 ?_
  refine r_istore hg (L' := [(4, .int (nI 0)), (3, .int (-1)), (0, .ref this), (1, .int x1), (2, .int x2)]) dX12_news_3 (by decide) rfl ?_
  refine r_sub hg [2, 3, 4, 1, 0] rfl ?_
  exact pl_X12_news_5 hΓ hg hr hX k_this _ _ _ _ h

def b_X12_next_305 (this : Nat) (s1 : Int32) (I : qI) : Option (qI) :=
  q_b1 (some (q_up I this 17 s1)) fun I1 =>
  some (I1)
set_option maxRecDepth 100000 in
set_option maxHeartbeats 4000000 in
theorem p_X12_next_305 {l : Launch} {Γ : qC} {g : qG} {z : qI} {this : Nat} {X : qX} (hΓ : q_gm Γ) (hg : q_Ok l Γ RX12 cX12_next 3 (q_rm 4 0 0) "next" none g) (hr : q_Rt cX12_next none (q_rm 4 0 0) (none, z, X) g) (hX : q_Lay X) (k_this : q_kd X this = some (14, 42)) (s1 : Int32) (I : qI) (h : b_X12_next_305 this s1 I = some z) : g 0 0 305 [] [.int s1, .ref this] I X := by
  unfold b_X12_next_305 at h
  obtain ⟨I1, e2, h⟩ := q_b1_some h
  obtain rfl := Option.some.inj e2
  refine r_putI hg dX12_next_305 fl_X12_229 k_this rfl ⟨rfl, rfl⟩ ?_
  refine r_goto hg 339 dX12_next_308 (by decide) ?_
  exact r_return hr dX12_next_339 ⟨Nat.zero_le _, Nat.zero_le _⟩ rfl (by cases h; rfl)
def b_X12_next_300 (this : Nat) (I : qI) : Option (qI) :=
  b_X12_next_305 this (nI 4) I
set_option maxRecDepth 100000 in
set_option maxHeartbeats 4000000 in
theorem p_X12_next_300 {l : Launch} {Γ : qC} {g : qG} {z : qI} {this : Nat} {X : qX} (hΓ : q_gm Γ) (hg : q_Ok l Γ RX12 cX12_next 3 (q_rm 4 0 0) "next" none g) (hr : q_Rt cX12_next none (q_rm 4 0 0) (none, z, X) g) (hX : q_Lay X) (k_this : q_kd X this = some (14, 42)) (I : qI) (h : b_X12_next_300 this I = some z) : g 0 0 300 [] [.ref this] I X := by
  unfold b_X12_next_300 at h
  refine r_iconst hg dX12_next_300 ci_4 ?_
  refine r_goto hg 305 dX12_next_301 (by decide) ?_
  exact p_X12_next_305 hΓ hg hr hX k_this _ _ h
def b_X12_next_266 (this : Nat) (k214 : Int32 → qI → Option (qI)) (x1 : Int32) (s1 : Int32) (I : qI) : Option (qI) :=
  q_b1 (some (q_up I this 18 s1)) fun I1 =>
  q_b1 (some (q_up I1 this 16 ((I1 this 16) + (nI 1)))) fun I3 =>
  k214 x1 I3
set_option maxRecDepth 100000 in
set_option maxHeartbeats 4000000 in
theorem p_X12_next_266 {l : Launch} {Γ : qC} {g : qG} {z : qI} {this : Nat} {X : qX} (hΓ : q_gm Γ) (hg : q_Ok l Γ RX12 cX12_next 3 (q_rm 4 0 0) "next" none g) (hr : q_Rt cX12_next none (q_rm 4 0 0) (none, z, X) g) (hX : q_Lay X) (k_this : q_kd X this = some (14, 42)) {k214 : Int32 → qI → Option (qI)} (hk214 : ∀ (x1 : Int32) (I : qI), k214 x1 I = some z → g 0 0 214 [(0, .ref this), (1, .int x1)] [] I X) (x1 : Int32) (s1 : Int32) (I : qI) (h : b_X12_next_266 this k214 x1 s1 I = some z) : g 0 0 266 [(0, .ref this), (1, .int x1)] [.int s1, .ref this] I X := by
  unfold b_X12_next_266 at h
  obtain ⟨I1, e2, h⟩ := q_b1_some h
  obtain rfl := Option.some.inj e2
  refine r_putI hg dX12_next_266 fl_X12_244 k_this rfl ⟨rfl, rfl⟩ ?_
  refine r_aload_n hg 0 dX12_next_269 rfl rfl ?_
  refine r_dup hg dX12_next_270 rfl ?_
  refine r_getI hg dX12_next_271 fl_X12_226 k_this rfl ?_
  refine r_iconst hg dX12_next_274 ci_1 ?_
  refine r_iadd hg dX12_next_275 ?_
  obtain ⟨I3, e4, h⟩ := q_b1_some h
  obtain rfl := Option.some.inj e4
  refine r_putI hg dX12_next_276 fl_X12_226 k_this rfl ⟨rfl, rfl⟩ ?_
  refine r_goto hg 214 dX12_next_279 (by decide) ?_
  exact hk214 _ _ h
def b_X12_next_214 (this : Nat) (k214 : Int32 → qI → Option (qI)) (x1 : Int32) (I : qI) : Option (qI) :=
  q_b1 (f_X12_isDigit this (I this 16) I) fun v1 =>
  if v1 = 0 then
    if x1 = 0 then
      if ((I this 16) - (I this 15)) ≤ (nI 4) then
        b_X12_next_305 this (nI 2) I
      else
        b_X12_next_300 this I
    else
      b_X12_next_300 this I
  else
    if (nI 4) ≤ ((I this 16) - (I this 15)) then
      b_X12_next_266 this k214 x1 (I this 18) I
    else
      q_b1 (q_rd I (this + 7) 96 (I this 16)) fun v8 =>
      b_X12_next_266 this k214 x1 ((((nI 10) * (I this 18)) + v8) - (nI 48)) I
set_option maxRecDepth 100000 in
set_option maxHeartbeats 4000000 in
theorem p_X12_next_214 {l : Launch} {Γ : qC} {g : qG} {z : qI} {this : Nat} {X : qX} (hΓ : q_gm Γ) (hg : q_Ok l Γ RX12 cX12_next 3 (q_rm 4 0 0) "next" none g) (hr : q_Rt cX12_next none (q_rm 4 0 0) (none, z, X) g) (hX : q_Lay X) (k_this : q_kd X this = some (14, 42)) {k214 : Int32 → qI → Option (qI)} (hk214 : ∀ (x1 : Int32) (I : qI), k214 x1 I = some z → g 0 0 214 [(0, .ref this), (1, .int x1)] [] I X) (x1 : Int32) (I : qI) (h : b_X12_next_214 this k214 x1 I = some z) : g 0 0 214 [(0, .ref this), (1, .int x1)] [] I X := by
  unfold b_X12_next_214 at h
  refine r_aload_n hg 0 dX12_next_214 rfl rfl ?_
  refine r_aload_n hg 0 dX12_next_215 rfl rfl ?_
  refine r_getI hg dX12_next_216 fl_X12_226 k_this rfl ?_
  obtain ⟨v1, e2, h⟩ := q_b1_some h
  refine r_cV1i hg dX12_next_219 mt_X12_isDigit ml_X12_241 mv_X12_isDigit k_this (s_X12_isDigit hΓ hX k_this e2) (q_room (Nat.le_of_ble_eq_true rfl) (Nat.le_of_ble_eq_true rfl)) ⟨Nat.zero_le _, Nat.zero_le _⟩ (Nat.le_of_ble_eq_true rfl) ?_
  refine r_if_eq hg 282 dX12_next_222 (by decide) (fun c3 => ?_) (fun c3 => ?_)
  · rw [if_pos c3] at h
    refine r_aload_n hg 0 dX12_next_282 rfl rfl ?_
    refine r_iload_n hg 1 dX12_next_283 rfl rfl ?_
    refine r_if_ne hg 300 dX12_next_284 (by decide) (fun c4 => ?_) (fun c4 => ?_)
    · rw [if_neg c4] at h
      refine r_sub hg [] rfl ?_
      exact p_X12_next_300 hΓ hg hr hX k_this _ h
    · rw [if_pos (Classical.not_not.mp c4)] at h
      refine r_aload_n hg 0 dX12_next_287 rfl rfl ?_
      refine r_getI hg dX12_next_288 fl_X12_226 k_this rfl ?_
      refine r_aload_n hg 0 dX12_next_291 rfl rfl ?_
      refine r_getI hg dX12_next_292 fl_X12_232 k_this rfl ?_
      refine r_isub hg dX12_next_295 ?_
      refine r_iconst hg dX12_next_296 ci_4 ?_
      refine r_icmp_le hg 304 dX12_next_297 (by decide) (fun c5 => ?_) (fun c5 => ?_)
      · rw [if_pos c5] at h
        refine r_iconst hg dX12_next_304 ci_2 ?_
        refine r_sub hg [] rfl ?_
        exact p_X12_next_305 hΓ hg hr hX k_this _ _ h
      · rw [if_neg c5] at h
        refine r_sub hg [] rfl ?_
        exact p_X12_next_300 hΓ hg hr hX k_this _ h
  · rw [if_neg c3] at h
    refine r_aload_n hg 0 dX12_next_225 rfl rfl ?_
    refine r_aload_n hg 0 dX12_next_226 rfl rfl ?_
    refine r_getI hg dX12_next_227 fl_X12_226 k_this rfl ?_
    refine r_aload_n hg 0 dX12_next_230 rfl rfl ?_
    refine r_getI hg dX12_next_231 fl_X12_232 k_this rfl ?_
    refine r_isub hg dX12_next_234 ?_
    refine r_iconst hg dX12_next_235 ci_4 ?_
    refine r_icmp_ge hg 262 dX12_next_236 (by decide) (fun c6 => ?_) (fun c6 => ?_)
    · rw [if_pos c6] at h
      refine r_aload_n hg 0 dX12_next_262 rfl rfl ?_
      refine r_getI hg dX12_next_263 fl_X12_244 k_this rfl ?_
      exact p_X12_next_266 hΓ hg hr hX k_this hk214 _ _ _ h
    · rw [if_neg c6] at h
      refine r_bipush hg dX12_next_239 cb_10 ?_
      refine r_aload_n hg 0 dX12_next_241 rfl rfl ?_
      refine r_getI hg dX12_next_242 fl_X12_244 k_this rfl ?_
      refine r_imul hg dX12_next_245 ?_
      refine r_aload_n hg 0 dX12_next_246 rfl rfl ?_
      have e7 := ly_12_13 hX k_this
      refine r_getR hg dX12_next_247 fl_X12_28 k_this rfl e7.1 ?_
      refine r_aload_n hg 0 dX12_next_250 rfl rfl ?_
      refine r_getI hg dX12_next_251 fl_X12_226 k_this rfl ?_
      obtain ⟨v8, e9, h⟩ := q_b1_some h
      refine r_iald hg dX12_next_254 e7.2 e9 ?_
      refine r_iadd hg dX12_next_255 ?_
      refine r_bipush hg dX12_next_256 cb_48 ?_
      refine r_isub hg dX12_next_258 ?_
      refine r_goto hg 266 dX12_next_259 (by decide) ?_
      exact p_X12_next_266 hΓ hg hr hX k_this hk214 _ _ _ h
theorem pl_X12_next_214 {l : Launch} {Γ : qC} {g : qG} {z : qI} {this : Nat} {X : qX} (hΓ : q_gm Γ) (hg : q_Ok l Γ RX12 cX12_next 3 (q_rm 4 0 0) "next" none g) (hr : q_Rt cX12_next none (q_rm 4 0 0) (none, z, X) g) (hX : q_Lay X) (k_this : q_kd X this = some (14, 42)) : ∀ (n : Nat) (x1 : Int32) (I : qI), q_fix (fun _ _ => none) (b_X12_next_214 this) n x1 I = some z → g 0 0 214 [(0, .ref this), (1, .int x1)] [] I X := by
  intro n
  induction n with
  | zero =>
    intro x1 I h
    cases (show (none : Option (qI)) = some z from h)
  | succ n ih =>
    intro x1 I h
    exact p_X12_next_214 hΓ hg hr hX k_this ih _ _ h
def b_X12_next_192 (this : Nat) (s1 : Int32) (I : qI) : Option (qI) :=
  q_b1 (some (q_up I this 19 s1)) fun I1 =>
  some (I1)
set_option maxRecDepth 100000 in
set_option maxHeartbeats 4000000 in
theorem p_X12_next_192 {l : Launch} {Γ : qC} {g : qG} {z : qI} {this : Nat} {X : qX} (hΓ : q_gm Γ) (hg : q_Ok l Γ RX12 cX12_next 3 (q_rm 4 0 0) "next" none g) (hr : q_Rt cX12_next none (q_rm 4 0 0) (none, z, X) g) (hX : q_Lay X) (k_this : q_kd X this = some (14, 42)) (s1 : Int32) (I : qI) (h : b_X12_next_192 this s1 I = some z) : g 0 0 192 [] [.int s1, .ref this] I X := by
  unfold b_X12_next_192 at h
  obtain ⟨I1, e2, h⟩ := q_b1_some h
  obtain rfl := Option.some.inj e2
  refine r_putI hg dX12_next_192 fl_X12_238 k_this rfl ⟨rfl, rfl⟩ ?_
  refine r_goto hg 339 dX12_next_195 (by decide) ?_
  exact r_return hr dX12_next_339 ⟨Nat.zero_le _, Nat.zero_le _⟩ rfl (by cases h; rfl)
def b_X12_next_162 (this : Nat) (s1 : Int32) (I : qI) : Option (qI) :=
  q_b1 (some (q_up I this 17 s1)) fun I1 =>
  if ((I1 this 16) - (I1 this 15)) = (nI 1) then
    q_b1 (q_rd I1 (this + 7) 96 (I1 this 15)) fun v5 =>
    b_X12_next_192 this v5 I1
  else
    b_X12_next_192 this (nI 0) I1
set_option maxRecDepth 100000 in
set_option maxHeartbeats 4000000 in
theorem p_X12_next_162 {l : Launch} {Γ : qC} {g : qG} {z : qI} {this : Nat} {X : qX} (hΓ : q_gm Γ) (hg : q_Ok l Γ RX12 cX12_next 3 (q_rm 4 0 0) "next" none g) (hr : q_Rt cX12_next none (q_rm 4 0 0) (none, z, X) g) (hX : q_Lay X) (k_this : q_kd X this = some (14, 42)) (s1 : Int32) (I : qI) (h : b_X12_next_162 this s1 I = some z) : g 0 0 162 [(0, .ref this)] [.int s1, .ref this] I X := by
  unfold b_X12_next_162 at h
  obtain ⟨I1, e2, h⟩ := q_b1_some h
  obtain rfl := Option.some.inj e2
  refine r_putI hg dX12_next_162 fl_X12_229 k_this rfl ⟨rfl, rfl⟩ ?_
  refine r_aload_n hg 0 dX12_next_165 rfl rfl ?_
  refine r_aload_n hg 0 dX12_next_166 rfl rfl ?_
  refine r_getI hg dX12_next_167 fl_X12_226 k_this rfl ?_
  refine r_aload_n hg 0 dX12_next_170 rfl rfl ?_
  refine r_getI hg dX12_next_171 fl_X12_232 k_this rfl ?_
  refine r_isub hg dX12_next_174 ?_
  refine r_iconst hg dX12_next_175 ci_1 ?_
  refine r_icmp_ne hg 191 dX12_next_176 (by decide) (fun c3 => ?_) (fun c3 => ?_)
  · rw [if_neg c3] at h
    refine r_iconst hg dX12_next_191 ci_0 ?_
    refine r_sub hg [] rfl ?_
    exact p_X12_next_192 hΓ hg hr hX k_this _ _ h
  · rw [if_pos (Classical.not_not.mp c3)] at h
    refine r_aload_n hg 0 dX12_next_179 rfl rfl ?_
    have e4 := ly_12_13 hX k_this
    refine r_getR hg dX12_next_180 fl_X12_28 k_this rfl e4.1 ?_
    refine r_aload_n hg 0 dX12_next_183 rfl rfl ?_
    refine r_getI hg dX12_next_184 fl_X12_232 k_this rfl ?_
    obtain ⟨v5, e6, h⟩ := q_b1_some h
    refine r_iald hg dX12_next_187 e4.2 e6 ?_
    refine r_goto hg 192 dX12_next_188 (by decide) ?_
    refine r_sub hg [] rfl ?_
    exact p_X12_next_192 hΓ hg hr hX k_this _ _ h
def b_X12_next_128 (this : Nat) (k128 : Int32 → qI → Option (qI)) (x1 : Int32) (I : qI) : Option (qI) :=
  q_b1 (f_X12_isLetter this (I this 16) I) fun v1 =>
  if v1 = 0 then
    if x1 = 0 then
      b_X12_next_162 this (nI 1) I
    else
      b_X12_next_162 this (nI 4) I
  else
    q_b1 (some (q_up I this 16 ((I this 16) + (nI 1)))) fun I5 =>
    k128 x1 I5
set_option maxRecDepth 100000 in
set_option maxHeartbeats 4000000 in
theorem p_X12_next_128 {l : Launch} {Γ : qC} {g : qG} {z : qI} {this : Nat} {X : qX} (hΓ : q_gm Γ) (hg : q_Ok l Γ RX12 cX12_next 3 (q_rm 4 0 0) "next" none g) (hr : q_Rt cX12_next none (q_rm 4 0 0) (none, z, X) g) (hX : q_Lay X) (k_this : q_kd X this = some (14, 42)) {k128 : Int32 → qI → Option (qI)} (hk128 : ∀ (x1 : Int32) (I : qI), k128 x1 I = some z → g 0 0 128 [(0, .ref this), (1, .int x1)] [] I X) (x1 : Int32) (I : qI) (h : b_X12_next_128 this k128 x1 I = some z) : g 0 0 128 [(0, .ref this), (1, .int x1)] [] I X := by
  unfold b_X12_next_128 at h
  refine r_aload_n hg 0 dX12_next_128 rfl rfl ?_
  refine r_aload_n hg 0 dX12_next_129 rfl rfl ?_
  refine r_getI hg dX12_next_130 fl_X12_226 k_this rfl ?_
  obtain ⟨v1, e2, h⟩ := q_b1_some h
  refine r_cV1i hg dX12_next_133 mt_X12_isLetter ml_X12_235 mv_X12_isLetter k_this (s_X12_isLetter hΓ hX k_this e2) (q_room (Nat.le_of_ble_eq_true rfl) (Nat.le_of_ble_eq_true rfl)) ⟨Nat.zero_le _, Nat.zero_le _⟩ (Nat.le_of_ble_eq_true rfl) ?_
  refine r_if_eq hg 152 dX12_next_136 (by decide) (fun c3 => ?_) (fun c3 => ?_)
  · rw [if_pos c3] at h
    refine r_aload_n hg 0 dX12_next_152 rfl rfl ?_
    refine r_iload_n hg 1 dX12_next_153 rfl rfl ?_
    refine r_if_eq hg 161 dX12_next_154 (by decide) (fun c4 => ?_) (fun c4 => ?_)
    · rw [if_pos c4] at h
      refine r_iconst hg dX12_next_161 ci_1 ?_
      refine r_sub hg [0] rfl ?_
      exact p_X12_next_162 hΓ hg hr hX k_this _ _ h
    · rw [if_neg c4] at h
      refine r_iconst hg dX12_next_157 ci_4 ?_
      refine r_goto hg 162 dX12_next_158 (by decide) ?_
      refine r_sub hg [0] rfl ?_
      exact p_X12_next_162 hΓ hg hr hX k_this _ _ h
  · rw [if_neg c3] at h
    refine r_aload_n hg 0 dX12_next_139 rfl rfl ?_
    refine r_dup hg dX12_next_140 rfl ?_
    refine r_getI hg dX12_next_141 fl_X12_226 k_this rfl ?_
    refine r_iconst hg dX12_next_144 ci_1 ?_
    refine r_iadd hg dX12_next_145 ?_
    obtain ⟨I5, e6, h⟩ := q_b1_some h
    obtain rfl := Option.some.inj e6
    refine r_putI hg dX12_next_146 fl_X12_226 k_this rfl ⟨rfl, rfl⟩ ?_
    refine r_goto hg 128 dX12_next_149 (by decide) ?_
    exact hk128 _ _ h
theorem pl_X12_next_128 {l : Launch} {Γ : qC} {g : qG} {z : qI} {this : Nat} {X : qX} (hΓ : q_gm Γ) (hg : q_Ok l Γ RX12 cX12_next 3 (q_rm 4 0 0) "next" none g) (hr : q_Rt cX12_next none (q_rm 4 0 0) (none, z, X) g) (hX : q_Lay X) (k_this : q_kd X this = some (14, 42)) : ∀ (n : Nat) (x1 : Int32) (I : qI), q_fix (fun _ _ => none) (b_X12_next_128 this) n x1 I = some z → g 0 0 128 [(0, .ref this), (1, .int x1)] [] I X := by
  intro n
  induction n with
  | zero =>
    intro x1 I h
    cases (show (none : Option (qI)) = some z from h)
  | succ n ih =>
    intro x1 I h
    exact p_X12_next_128 hΓ hg hr hX k_this ih _ _ h
def b_X12_next_89 (this : Nat) (s0 : Int32) (I : qI) : Option (qI) :=
  q_b1 (some (q_up I this 15 (I this 16))) fun I1 =>
  if (I1 this 15) = (I1 this 14) then
    q_b1 (some (q_up I1 this 17 (nI 0))) fun I21 =>
    some (I21)
  else
    q_b1 (f_X12_isLetter this (I1 this 15) I1) fun v4 =>
    if v4 = 0 then
      q_b1 (f_X12_isDigit this (I1 this 15) I1) fun v7 =>
      if v7 = 0 then
        q_b1 (some (q_up I1 this 17 (nI 3))) fun I10 =>
        q_b1 (q_rd I10 (this + 7) 96 (I10 this 15)) fun v13 =>
        q_b1 (some (q_up I10 this 19 v13)) fun I15 =>
        q_b1 (some (q_up I15 this 16 ((I15 this 16) + (nI 1)))) fun I17 =>
        some (I17)
      else
        q_b1 (some (q_up I1 this 18 (nI 0))) fun I19 =>
        q_fix (fun _ _ => none) (b_X12_next_214 this) q_fu s0 I19
    else
      q_fix (fun _ _ => none) (b_X12_next_128 this) q_fu s0 I1
set_option maxRecDepth 100000 in
set_option maxHeartbeats 4000000 in
theorem p_X12_next_89 {l : Launch} {Γ : qC} {g : qG} {z : qI} {this : Nat} {X : qX} (hΓ : q_gm Γ) (hg : q_Ok l Γ RX12 cX12_next 3 (q_rm 4 0 0) "next" none g) (hr : q_Rt cX12_next none (q_rm 4 0 0) (none, z, X) g) (hX : q_Lay X) (k_this : q_kd X this = some (14, 42)) (s0 : Int32) (I : qI) (h : b_X12_next_89 this s0 I = some z) : g 0 0 89 [(0, .ref this)] [.int s0] I X := by
  unfold b_X12_next_89 at h
  refine r_istore_n hg (L' := [(1, .int s0), (0, .ref this)]) dX12_next_89 rfl (by decide) rfl ?_
  refine r_aload_n hg 1 dX12_next_90 rfl rfl ?_
  refine r_aload_n hg 1 dX12_next_91 rfl rfl ?_
  refine r_getI hg dX12_next_92 fl_X12_226 k_this rfl ?_
  obtain ⟨I1, e2, h⟩ := q_b1_some h
  obtain rfl := Option.some.inj e2
  refine r_putI hg dX12_next_95 fl_X12_232 k_this rfl ⟨rfl, rfl⟩ ?_
  refine r_aload_n hg 1 dX12_next_98 rfl rfl ?_
  refine r_getI hg dX12_next_99 fl_X12_232 k_this rfl ?_
  refine r_aload_n hg 1 dX12_next_102 rfl rfl ?_
  refine r_getI hg dX12_next_103 fl_X12_215 k_this rfl ?_
  refine r_icmp_ne hg 117 dX12_next_106 (by decide) (fun c3 => ?_) (fun c3 => ?_)
  · rw [if_neg c3] at h
    refine r_aload_n hg 1 dX12_next_117 rfl rfl ?_
    refine r_aload_n hg 1 dX12_next_118 rfl rfl ?_
    refine r_getI hg dX12_next_119 fl_X12_232 k_this rfl ?_
    obtain ⟨v4, e5, h⟩ := q_b1_some h
    refine r_cV1i hg dX12_next_122 mt_X12_isLetter ml_X12_235 mv_X12_isLetter k_this (s_X12_isLetter hΓ hX k_this e5) (q_room (Nat.le_of_ble_eq_true rfl) (Nat.le_of_ble_eq_true rfl)) ⟨Nat.zero_le _, Nat.zero_le _⟩ (Nat.le_of_ble_eq_true rfl) ?_
    refine r_if_eq hg 198 dX12_next_125 (by decide) (fun c6 => ?_) (fun c6 => ?_)
    · rw [if_pos c6] at h
      refine r_aload_n hg 1 dX12_next_198 rfl rfl ?_
      refine r_aload_n hg 1 dX12_next_199 rfl rfl ?_
      refine r_getI hg dX12_next_200 fl_X12_232 k_this rfl ?_
      obtain ⟨v7, e8, h⟩ := q_b1_some h
      refine r_cV1i hg dX12_next_203 mt_X12_isDigit ml_X12_241 mv_X12_isDigit k_this (s_X12_isDigit hΓ hX k_this e8) (q_room (Nat.le_of_ble_eq_true rfl) (Nat.le_of_ble_eq_true rfl)) ⟨Nat.zero_le _, Nat.zero_le _⟩ (Nat.le_of_ble_eq_true rfl) ?_
      refine r_if_eq hg 311 dX12_next_206 (by decide) (fun c9 => ?_) (fun c9 => ?_)
      · rw [if_pos c9] at h
        refine r_aload_n hg 1 dX12_next_311 rfl rfl ?_
        refine r_iconst hg dX12_next_312 ci_3 ?_
        obtain ⟨I10, e11, h⟩ := q_b1_some h
        obtain rfl := Option.some.inj e11
        refine r_putI hg dX12_next_313 fl_X12_229 k_this rfl ⟨rfl, rfl⟩ ?_
        refine r_aload_n hg 1 dX12_next_316 rfl rfl ?_
        refine r_aload_n hg 1 dX12_next_317 rfl rfl ?_
        have e12 := ly_12_13 hX k_this
        refine r_getR hg dX12_next_318 fl_X12_28 k_this rfl e12.1 ?_
        refine r_aload_n hg 1 dX12_next_321 rfl rfl ?_
        refine r_getI hg dX12_next_322 fl_X12_232 k_this rfl ?_
        obtain ⟨v13, e14, h⟩ := q_b1_some h
        refine r_iald hg dX12_next_325 e12.2 e14 ?_
        obtain ⟨I15, e16, h⟩ := q_b1_some h
        obtain rfl := Option.some.inj e16
        refine r_putI hg dX12_next_326 fl_X12_238 k_this rfl ⟨rfl, rfl⟩ ?_
        refine r_aload_n hg 1 dX12_next_329 rfl rfl ?_
        refine r_dup hg dX12_next_330 rfl ?_
        refine r_getI hg dX12_next_331 fl_X12_226 k_this rfl ?_
        refine r_iconst hg dX12_next_334 ci_1 ?_
        refine r_iadd hg dX12_next_335 ?_
        obtain ⟨I17, e18, h⟩ := q_b1_some h
        obtain rfl := Option.some.inj e18
        refine r_putI hg dX12_next_336 fl_X12_226 k_this rfl ⟨rfl, rfl⟩ ?_
        exact r_return hr dX12_next_339 ⟨Nat.zero_le _, Nat.zero_le _⟩ rfl (by cases h; rfl)
      · rw [if_neg c9] at h
        refine r_aload_n hg 1 dX12_next_209 rfl rfl ?_
        refine r_iconst hg dX12_next_210 ci_0 ?_
        obtain ⟨I19, e20, h⟩ := q_b1_some h
        obtain rfl := Option.some.inj e20
        refine r_putI hg dX12_next_211 fl_X12_244 k_this rfl ⟨rfl, rfl⟩ ?_
        refine r_sub hg [1, 0] rfl ?_
        exact pl_X12_next_214 hΓ hg hr hX k_this _ _ _ h
    · rw [if_neg c6] at h
      refine r_sub hg [1, 0] rfl ?_
      exact pl_X12_next_128 hΓ hg hr hX k_this _ _ _ h
  · rw [if_pos (Classical.not_not.mp c3)] at h
    refine r_aload_n hg 1 dX12_next_109 rfl rfl ?_
    refine r_iconst hg dX12_next_110 ci_0 ?_
    obtain ⟨I21, e22, h⟩ := q_b1_some h
    obtain rfl := Option.some.inj e22
    refine r_putI hg dX12_next_111 fl_X12_229 k_this rfl ⟨rfl, rfl⟩ ?_
    refine r_goto hg 339 dX12_next_114 (by decide) ?_
    exact r_return hr dX12_next_339 ⟨Nat.zero_le _, Nat.zero_le _⟩ rfl (by cases h; rfl)
def b_X12_next_88 (this : Nat) (I : qI) : Option (qI) :=
  b_X12_next_89 this (nI 0) I
set_option maxRecDepth 100000 in
set_option maxHeartbeats 4000000 in
theorem p_X12_next_88 {l : Launch} {Γ : qC} {g : qG} {z : qI} {this : Nat} {X : qX} (hΓ : q_gm Γ) (hg : q_Ok l Γ RX12 cX12_next 3 (q_rm 4 0 0) "next" none g) (hr : q_Rt cX12_next none (q_rm 4 0 0) (none, z, X) g) (hX : q_Lay X) (k_this : q_kd X this = some (14, 42)) (I : qI) (h : b_X12_next_88 this I = some z) : g 0 0 88 [(0, .ref this)] [] I X := by
  unfold b_X12_next_88 at h
  refine r_iconst hg dX12_next_88 ci_0 ?_
  exact p_X12_next_89 hΓ hg hr hX k_this _ _ h
def b_X12_next_72 (this : Nat) (x1 : Int32) (x2 : Int32) (I : qI) : Option (qI) :=
  if x1 = 0 then
    b_X12_next_88 this I
  else
    if x2 = (I this 16) then
      b_X12_next_89 this (nI 1) I
    else
      b_X12_next_88 this I
set_option maxRecDepth 100000 in
set_option maxHeartbeats 4000000 in
theorem p_X12_next_72 {l : Launch} {Γ : qC} {g : qG} {z : qI} {this : Nat} {X : qX} (hΓ : q_gm Γ) (hg : q_Ok l Γ RX12 cX12_next 3 (q_rm 4 0 0) "next" none g) (hr : q_Rt cX12_next none (q_rm 4 0 0) (none, z, X) g) (hX : q_Lay X) (k_this : q_kd X this = some (14, 42)) (x1 : Int32) (x2 : Int32) (I : qI) (h : b_X12_next_72 this x1 x2 I = some z) : g 0 0 72 [(0, .ref this), (1, .int x1), (2, .int x2)] [] I X := by
  unfold b_X12_next_72 at h
  refine r_iload_n hg 1 dX12_next_72 rfl rfl ?_
  refine r_if_eq hg 88 dX12_next_73 (by decide) (fun c1 => ?_) (fun c1 => ?_)
  · rw [if_pos c1] at h
    refine r_sub hg [0] rfl ?_
    exact p_X12_next_88 hΓ hg hr hX k_this _ h
  · rw [if_neg c1] at h
    refine r_iload_n hg 2 dX12_next_76 rfl rfl ?_
    refine r_aload_n hg 0 dX12_next_77 rfl rfl ?_
    refine r_getI hg dX12_next_78 fl_X12_226 k_this rfl ?_
    refine r_icmp_ne hg 88 dX12_next_81 (by decide) (fun c2 => ?_) (fun c2 => ?_)
    · rw [if_neg c2] at h
      refine r_sub hg [0] rfl ?_
      exact p_X12_next_88 hΓ hg hr hX k_this _ h
    · rw [if_pos (Classical.not_not.mp c2)] at h
      refine r_iconst hg dX12_next_84 ci_1 ?_
      refine r_goto hg 89 dX12_next_85 (by decide) ?_
      refine r_sub hg [0] rfl ?_
      exact p_X12_next_89 hΓ hg hr hX k_this _ _ h
def b_X12_next_34 (this : Nat) (k34 : Int32 → Int32 → qI → Option (qI)) (x1 : Int32) (x2 : Int32) (I : qI) : Option (qI) :=
  if (I this 14) ≤ (I this 16) then
    b_X12_next_72 this x1 x2 I
  else
    q_b1 (q_rd I (this + 7) 96 (I this 16)) fun v3 =>
    if v3 = (nI 32) then
      q_b1 (some (q_up I this 16 ((I this 16) + (nI 1)))) fun I6 =>
      k34 x1 x2 I6
    else
      b_X12_next_72 this x1 x2 I
set_option maxRecDepth 100000 in
set_option maxHeartbeats 4000000 in
theorem p_X12_next_34 {l : Launch} {Γ : qC} {g : qG} {z : qI} {this : Nat} {X : qX} (hΓ : q_gm Γ) (hg : q_Ok l Γ RX12 cX12_next 3 (q_rm 4 0 0) "next" none g) (hr : q_Rt cX12_next none (q_rm 4 0 0) (none, z, X) g) (hX : q_Lay X) (k_this : q_kd X this = some (14, 42)) {k34 : Int32 → Int32 → qI → Option (qI)} (hk34 : ∀ (x1 : Int32) (x2 : Int32) (I : qI), k34 x1 x2 I = some z → g 0 0 34 [(0, .ref this), (1, .int x1), (2, .int x2)] [] I X) (x1 : Int32) (x2 : Int32) (I : qI) (h : b_X12_next_34 this k34 x1 x2 I = some z) : g 0 0 34 [(0, .ref this), (1, .int x1), (2, .int x2)] [] I X := by
  unfold b_X12_next_34 at h
  refine r_aload_n hg 0 dX12_next_34 rfl rfl ?_
  refine r_getI hg dX12_next_35 fl_X12_226 k_this rfl ?_
  refine r_aload_n hg 0 dX12_next_38 rfl rfl ?_
  refine r_getI hg dX12_next_39 fl_X12_215 k_this rfl ?_
  refine r_icmp_ge hg 72 dX12_next_42 (by decide) (fun c1 => ?_) (fun c1 => ?_)
  · rw [if_pos c1] at h
    exact p_X12_next_72 hΓ hg hr hX k_this _ _ _ h
  · rw [if_neg c1] at h
    refine r_aload_n hg 0 dX12_next_45 rfl rfl ?_
    have e2 := ly_12_13 hX k_this
    refine r_getR hg dX12_next_46 fl_X12_28 k_this rfl e2.1 ?_
    refine r_aload_n hg 0 dX12_next_49 rfl rfl ?_
    refine r_getI hg dX12_next_50 fl_X12_226 k_this rfl ?_
    obtain ⟨v3, e4, h⟩ := q_b1_some h
    refine r_iald hg dX12_next_53 e2.2 e4 ?_
    refine r_bipush hg dX12_next_54 cb_32 ?_
    refine r_icmp_ne hg 72 dX12_next_56 (by decide) (fun c5 => ?_) (fun c5 => ?_)
    · rw [if_neg c5] at h
      exact p_X12_next_72 hΓ hg hr hX k_this _ _ _ h
    · rw [if_pos (Classical.not_not.mp c5)] at h
      refine r_aload_n hg 0 dX12_next_59 rfl rfl ?_
      refine r_dup hg dX12_next_60 rfl ?_
      refine r_getI hg dX12_next_61 fl_X12_226 k_this rfl ?_
      refine r_iconst hg dX12_next_64 ci_1 ?_
      refine r_iadd hg dX12_next_65 ?_
      obtain ⟨I6, e7, h⟩ := q_b1_some h
      obtain rfl := Option.some.inj e7
      refine r_putI hg dX12_next_66 fl_X12_226 k_this rfl ⟨rfl, rfl⟩ ?_
      refine r_goto hg 34 dX12_next_69 (by decide) ?_
      exact hk34 _ _ _ h
theorem pl_X12_next_34 {l : Launch} {Γ : qC} {g : qG} {z : qI} {this : Nat} {X : qX} (hΓ : q_gm Γ) (hg : q_Ok l Γ RX12 cX12_next 3 (q_rm 4 0 0) "next" none g) (hr : q_Rt cX12_next none (q_rm 4 0 0) (none, z, X) g) (hX : q_Lay X) (k_this : q_kd X this = some (14, 42)) : ∀ (n : Nat) (x1 : Int32) (x2 : Int32) (I : qI), q_fix (fun _ _ _ => none) (b_X12_next_34 this) n x1 x2 I = some z → g 0 0 34 [(0, .ref this), (1, .int x1), (2, .int x2)] [] I X := by
  intro n
  induction n with
  | zero =>
    intro x1 x2 I h
    cases (show (none : Option (qI)) = some z from h)
  | succ n ih =>
    intro x1 x2 I h
    exact p_X12_next_34 hΓ hg hr hX k_this ih _ _ _ h
def b_X12_next_28 (this : Nat) (s0 : Int32) (I : qI) : Option (qI) :=
  q_fix (fun _ _ _ => none) (b_X12_next_34 this) q_fu s0 (I this 16) I
set_option maxRecDepth 100000 in
set_option maxHeartbeats 4000000 in
theorem p_X12_next_28 {l : Launch} {Γ : qC} {g : qG} {z : qI} {this : Nat} {X : qX} (hΓ : q_gm Γ) (hg : q_Ok l Γ RX12 cX12_next 3 (q_rm 4 0 0) "next" none g) (hr : q_Rt cX12_next none (q_rm 4 0 0) (none, z, X) g) (hX : q_Lay X) (k_this : q_kd X this = some (14, 42)) (s0 : Int32) (I : qI) (h : b_X12_next_28 this s0 I = some z) : g 0 0 28 [(0, .ref this)] [.int s0] I X := by
  unfold b_X12_next_28 at h
  refine r_istore_n hg (L' := [(1, .int s0), (0, .ref this)]) dX12_next_28 rfl (by decide) rfl ?_
  refine r_aload_n hg 1 dX12_next_29 rfl rfl ?_
  refine r_getI hg dX12_next_30 fl_X12_226 k_this rfl ?_
  refine r_istore_n hg (L' := [(2, .int (I this 16)), (1, .int s0), (0, .ref this)]) dX12_next_33 rfl (by decide) rfl ?_
  refine r_sub hg [2, 1, 0] rfl ?_
  exact pl_X12_next_34 hΓ hg hr hX k_this _ _ _ _ h
def b_X12_next_27 (this : Nat) (I : qI) : Option (qI) :=
  b_X12_next_28 this (nI 0) I
set_option maxRecDepth 100000 in
set_option maxHeartbeats 4000000 in
theorem p_X12_next_27 {l : Launch} {Γ : qC} {g : qG} {z : qI} {this : Nat} {X : qX} (hΓ : q_gm Γ) (hg : q_Ok l Γ RX12 cX12_next 3 (q_rm 4 0 0) "next" none g) (hr : q_Rt cX12_next none (q_rm 4 0 0) (none, z, X) g) (hX : q_Lay X) (k_this : q_kd X this = some (14, 42)) (I : qI) (h : b_X12_next_27 this I = some z) : g 0 0 27 [(0, .ref this)] [] I X := by
  unfold b_X12_next_27 at h
  refine r_iconst hg dX12_next_27 ci_0 ?_
  exact p_X12_next_28 hΓ hg hr hX k_this _ _ h
def b_X12_next_23 (this : Nat) (I : qI) : Option (qI) :=
  b_X12_next_28 this (nI 1) I
set_option maxRecDepth 100000 in
set_option maxHeartbeats 4000000 in
theorem p_X12_next_23 {l : Launch} {Γ : qC} {g : qG} {z : qI} {this : Nat} {X : qX} (hΓ : q_gm Γ) (hg : q_Ok l Γ RX12 cX12_next 3 (q_rm 4 0 0) "next" none g) (hr : q_Rt cX12_next none (q_rm 4 0 0) (none, z, X) g) (hX : q_Lay X) (k_this : q_kd X this = some (14, 42)) (I : qI) (h : b_X12_next_23 this I = some z) : g 0 0 23 [(0, .ref this)] [] I X := by
  unfold b_X12_next_23 at h
  refine r_iconst hg dX12_next_23 ci_1 ?_
  refine r_goto hg 28 dX12_next_24 (by decide) ?_
  exact p_X12_next_28 hΓ hg hr hX k_this _ _ h
def f_X12_next (this : Nat) (I : qI) : Option (qI) :=
  if (I this 16) ≤ 0 then
    b_X12_next_27 this I
  else
    if (I this 17) = (nI 1) then
      b_X12_next_23 this I
    else
      if (I this 17) = (nI 2) then
        b_X12_next_23 this I
      else
        b_X12_next_27 this I
set_option maxRecDepth 100000 in
set_option maxHeartbeats 4000000 in
theorem s_X12_next {l : Launch} {Γ : qC} (hΓ : q_gm Γ) {X : qX} (hX : q_Lay X) {this : Nat} (k_this : q_kd X this = some (14, 42)) {I : qI} {z : qI} (h : f_X12_next this I = some z) : q_Sem l Γ (q_rm 4 0 0) yX12_next cX12_next 3 none [.ref this] I X (none, z, X) := by
  refine q_met (by decide) (Nat.le_of_ble_eq_true rfl) (fun g hg hr => ?_)
  unfold f_X12_next at h
  show g 0 0 0 [(0, .ref this)] [] I X
  refine r_aload_n hg 0 dX12_next_0 rfl rfl ?_
  refine r_getI hg dX12_next_1 fl_X12_226 k_this rfl ?_
  refine r_if_le hg 27 dX12_next_4 (by decide) (fun c1 => ?_) (fun c1 => ?_)
  · rw [if_pos c1] at h
    exact p_X12_next_27 hΓ hg hr hX k_this _ h
  · rw [if_neg c1] at h
    refine r_aload_n hg 0 dX12_next_7 rfl rfl ?_
    refine r_getI hg dX12_next_8 fl_X12_229 k_this rfl ?_
    refine r_iconst hg dX12_next_11 ci_1 ?_
    refine r_icmp_eq hg 23 dX12_next_12 (by decide) (fun c2 => ?_) (fun c2 => ?_)
    · rw [if_pos c2] at h
      exact p_X12_next_23 hΓ hg hr hX k_this _ h
    · rw [if_neg c2] at h
      refine r_aload_n hg 0 dX12_next_15 rfl rfl ?_
      refine r_getI hg dX12_next_16 fl_X12_229 k_this rfl ?_
      refine r_iconst hg dX12_next_19 ci_2 ?_
      refine r_icmp_ne hg 27 dX12_next_20 (by decide) (fun c3 => ?_) (fun c3 => ?_)
      · rw [if_neg c3] at h
        exact p_X12_next_27 hΓ hg hr hX k_this _ h
      · rw [if_pos (Classical.not_not.mp c3)] at h
        exact p_X12_next_23 hΓ hg hr hX k_this _ h

def b_X12_note_76 (this : Nat) (x1 : Int32) (x2 : Int32) (x3 : Int32) (s2 : Int32) (I : qI) : Option (Int32 × qI) :=
  q_b1 (q_wr I (this + 6) 240 (((nI 30) * x1) + x2) s2) fun I2 =>
  some ((nI 1), I2)
set_option maxRecDepth 100000 in
set_option maxHeartbeats 4000000 in
theorem p_X12_note_76 {l : Launch} {Γ : qC} {g : qG} {z : Int32 × qI} {this : Nat} {x1 : Int32} {x2 : Int32} {x3 : Int32} {X : qX} (hΓ : q_gm Γ) (hg : q_Ok l Γ RX12 cX12_note 4 (q_rm 4 0 0) "note" (some .int) g) (hr : q_Rt cX12_note (some .int) (q_rm 4 0 0) (some (.int z.1), z.2, X) g) (hX : q_Lay X) (k_this : q_kd X this = some (14, 42)) (s2 : Int32) (I : qI) (h : b_X12_note_76 this x1 x2 x3 s2 I = some z) : g 0 0 76 [] [.int s2, .int (((nI 30) * x1) + x2), .ref (this + 6)] I X := by
  unfold b_X12_note_76 at h
  have e1 := ly_12_6 hX k_this
  obtain ⟨I2, e3, h⟩ := q_b1_some h
  refine r_iast hg dX12_note_76 e1.2 e3 ?_
  refine r_iconst hg dX12_note_77 ci_1 ?_
  exact r_ireturn hr dX12_note_78 ⟨Nat.zero_le _, Nat.zero_le _⟩ ⟨_, rfl, rfl⟩ (by cases h; rfl)
def f_X12_note (this : Nat) (x1 : Int32) (x2 : Int32) (x3 : Int32) (I : qI) : Option (Int32 × qI) :=
  q_b1 (f_X12_isPit x1) fun v1 =>
  if v1 = 0 then
    some ((-1000000001), I)
  else
    q_b1 (q_rd I (this + 4) 8 x1) fun v5 =>
    if 0 ≤ v5 then
      q_b1 (q_rd I (this + 5) 8 x1) fun v9 =>
      q_b1 (f_X12_isIn x2.toInt64 (0 : Int64) ((v9 - (nI 1)).toInt64)) fun v11 =>
      if v11 = 0 then
        some ((-1000000013), I)
      else
        q_b1 (q_rd I (this + 4) 8 x1) fun v16 =>
        if v16 = (nI 1) then
          b_X12_note_76 this x1 x2 x3 ((x3 <<< ((nI 16) &&& 31)) >>> ((nI 16) &&& 31)) I
        else
          b_X12_note_76 this x1 x2 x3 x3 I
    else
      some ((-1000000011), I)
set_option maxRecDepth 100000 in
set_option maxHeartbeats 4000000 in
theorem s_X12_note {l : Launch} {Γ : qC} (hΓ : q_gm Γ) {X : qX} (hX : q_Lay X) {this : Nat} {x1 : Int32} {x2 : Int32} {x3 : Int32} (k_this : q_kd X this = some (14, 42)) {I : qI} {z : Int32 × qI} (h : f_X12_note this x1 x2 x3 I = some z) : q_Sem l Γ (q_rm 4 0 0) yX12_note cX12_note 4 (some .int) [.ref this, .int x1, .int x2, .int x3] I X (some (.int z.1), z.2, X) := by
  refine q_met (by decide) (Nat.le_of_ble_eq_true rfl) (fun g hg hr => ?_)
  unfold f_X12_note at h
  show g 0 0 0 [(0, .ref this), (1, .int x1), (2, .int x2), (3, .int x3)] [] I X
  refine r_iload_n hg 1 dX12_note_0 rfl rfl ?_
  obtain ⟨v1, e2, h⟩ := q_b1_some h
  refine r_cS1i hg dX12_note_1 mt_X12_isPit ⟨ml_X12_78, mst_X12_isPit⟩ (s_X12_isPit hΓ hX e2) (q_room (Nat.le_of_ble_eq_true rfl) (Nat.le_of_ble_eq_true rfl)) ⟨Nat.zero_le _, Nat.zero_le _⟩ (Nat.le_of_ble_eq_true rfl) ?_
  refine r_if_ne hg 10 dX12_note_4 (by decide) (fun c3 => ?_) (fun c3 => ?_)
  · rw [if_neg c3] at h
    refine r_aload_n hg 0 dX12_note_10 rfl rfl ?_
    have e4 := ly_12_4 hX k_this
    refine r_getR hg dX12_note_11 fl_X12_19 k_this rfl e4.1 ?_
    refine r_iload_n hg 1 dX12_note_14 rfl rfl ?_
    obtain ⟨v5, e6, h⟩ := q_b1_some h
    refine r_iald hg dX12_note_15 e4.2 e6 ?_
    refine r_if_ge hg 23 dX12_note_16 (by decide) (fun c7 => ?_) (fun c7 => ?_)
    · rw [if_pos c7] at h
      refine r_iload_n hg 2 dX12_note_23 rfl rfl ?_
      refine r_i2l hg dX12_note_24 ?_
      refine r_lconst hg dX12_note_25 lc_0 ?_
      refine r_aload_n hg 0 dX12_note_26 rfl rfl ?_
      have e8 := ly_12_5 hX k_this
      refine r_getR hg dX12_note_27 fl_X12_22 k_this rfl e8.1 ?_
      refine r_iload_n hg 1 dX12_note_30 rfl rfl ?_
      obtain ⟨v9, e10, h⟩ := q_b1_some h
      refine r_iald hg dX12_note_31 e8.2 e10 ?_
      refine r_iconst hg dX12_note_32 ci_1 ?_
      refine r_isub hg dX12_note_33 ?_
      refine r_i2l hg dX12_note_34 ?_
      obtain ⟨v11, e12, h⟩ := q_b1_some h
      refine r_cS3i hg dX12_note_35 mt_X12_isIn ⟨ml_X12_64, mst_X12_isIn⟩ (s_X12_isIn hΓ hX e12) (q_room (Nat.le_of_ble_eq_true rfl) (Nat.le_of_ble_eq_true rfl)) ⟨Nat.zero_le _, Nat.zero_le _⟩ (Nat.le_of_ble_eq_true rfl) ?_
      refine r_if_ne hg 45 dX12_note_38 (by decide) (fun c13 => ?_) (fun c13 => ?_)
      · rw [if_neg c13] at h
        refine r_aload_n hg 0 dX12_note_45 rfl rfl ?_
        have e14 := ly_12_6 hX k_this
        refine r_getR hg dX12_note_46 fl_X12_25 k_this rfl e14.1 ?_
        refine r_bipush hg dX12_note_49 cb_30 ?_
        refine r_iload_n hg 1 dX12_note_51 rfl rfl ?_
        refine r_imul hg dX12_note_52 ?_
        refine r_iload_n hg 2 dX12_note_53 rfl rfl ?_
        refine r_iadd hg dX12_note_54 ?_
        refine r_aload_n hg 0 dX12_note_55 rfl rfl ?_
        have e15 := ly_12_4 hX k_this
        refine r_getR hg dX12_note_56 fl_X12_19 k_this rfl e15.1 ?_
        refine r_iload_n hg 1 dX12_note_59 rfl rfl ?_
        obtain ⟨v16, e17, h⟩ := q_b1_some h
        refine r_iald hg dX12_note_60 e15.2 e17 ?_
        refine r_iconst hg dX12_note_61 ci_1 ?_
        refine r_icmp_ne hg 75 dX12_note_62 (by decide) (fun c18 => ?_) (fun c18 => ?_)
        · rw [if_neg c18] at h
          refine r_iload_n hg 3 dX12_note_75 rfl rfl ?_
          refine r_sub hg [] rfl ?_
          exact p_X12_note_76 hΓ hg hr hX k_this _ _ h
        · rw [if_pos (Classical.not_not.mp c18)] at h
          refine r_iload_n hg 3 dX12_note_65 rfl rfl ?_
          refine r_bipush hg dX12_note_66 cb_16 ?_
          refine r_ishl hg dX12_note_68 ?_
          refine r_bipush hg dX12_note_69 cb_16 ?_
          refine r_ishr hg dX12_note_71 ?_
          refine r_goto hg 76 dX12_note_72 (by decide) ?_
          refine r_sub hg [] rfl ?_
          exact p_X12_note_76 hΓ hg hr hX k_this _ _ h
      · rw [if_pos (Classical.not_not.mp c13)] at h
        refine r_ldcw hg dX12_note_41 kc_X12_379 ?_
        exact r_ireturn hr dX12_note_44 ⟨Nat.zero_le _, Nat.zero_le _⟩ ⟨_, rfl, rfl⟩ (by cases h; rfl)
    · rw [if_neg c7] at h
      refine r_ldcw hg dX12_note_19 kc_X12_378 ?_
      exact r_ireturn hr dX12_note_22 ⟨Nat.zero_le _, Nat.zero_le _⟩ ⟨_, rfl, rfl⟩ (by cases h; rfl)
  · rw [if_pos (Classical.not_not.mp c3)] at h
    refine r_ldc hg dX12_note_7 kc_X12_90 ?_
    exact r_ireturn hr dX12_note_9 ⟨Nat.zero_le _, Nat.zero_le _⟩ ⟨_, rfl, rfl⟩ (by cases h; rfl)

def f_X12_of (this : Nat) (x1 : Int32) (x2 : Int32) (I : qI) : Option (Int32) :=
  q_b1 (f_X12_isText this x1 I) fun v1 =>
  if v1 = 0 then
    some ((-1000000001))
  else
    q_b1 (f_X12_isIn x2.toInt64 (0 : Int64) (2 : Int64)) fun v4 =>
    if v4 = 0 then
      some ((-1000000001))
    else
      q_b1 (f_X12_textAt this x1) fun v8 =>
      q_b1 (q_rd I (this + 1) 3580 (v8 + x2)) fun v10 =>
      some (v10)
set_option maxRecDepth 100000 in
set_option maxHeartbeats 4000000 in
theorem s_X12_of {l : Launch} {Γ : qC} (hΓ : q_gm Γ) {X : qX} (hX : q_Lay X) {this : Nat} {x1 : Int32} {x2 : Int32} (k_this : q_kd X this = some (14, 42)) {I : qI} {z : Int32} (h : f_X12_of this x1 x2 I = some z) : q_Sem l Γ (q_rm 4 0 0) yX12_of cX12_of 3 (some .int) [.ref this, .int x1, .int x2] I X (some (.int z), I, X) := by
  refine q_met (by decide) (Nat.le_of_ble_eq_true rfl) (fun g hg hr => ?_)
  unfold f_X12_of at h
  show g 0 0 0 [(0, .ref this), (1, .int x1), (2, .int x2)] [] I X
  refine r_aload_n hg 0 dX12_of_0 rfl rfl ?_
  refine r_iload_n hg 1 dX12_of_1 rfl rfl ?_
  obtain ⟨v1, e2, h⟩ := q_b1_some h
  refine r_cV1i hg dX12_of_2 mt_X12_isText ml_X12_308 mv_X12_isText k_this (s_X12_isText hΓ hX k_this e2) (q_room (Nat.le_of_ble_eq_true rfl) (Nat.le_of_ble_eq_true rfl)) ⟨Nat.zero_le _, Nat.zero_le _⟩ (Nat.le_of_ble_eq_true rfl) ?_
  refine r_if_eq hg 35 dX12_of_5 (by decide) (fun c3 => ?_) (fun c3 => ?_)
  · rw [if_pos c3] at h
    refine r_ldc hg dX12_of_35 kc_X12_90 ?_
    exact r_ireturn hr dX12_of_37 ⟨Nat.zero_le _, Nat.zero_le _⟩ ⟨_, rfl, rfl⟩ (by cases h; rfl)
  · rw [if_neg c3] at h
    refine r_iload_n hg 2 dX12_of_8 rfl rfl ?_
    refine r_i2l hg dX12_of_9 ?_
    refine r_lconst hg dX12_of_10 lc_0 ?_
    refine r_ldc2 hg dX12_of_11 kl_X12_125 ?_
    obtain ⟨v4, e5, h⟩ := q_b1_some h
    refine r_cS3i hg dX12_of_14 mt_X12_isIn ⟨ml_X12_64, mst_X12_isIn⟩ (s_X12_isIn hΓ hX e5) (q_room (Nat.le_of_ble_eq_true rfl) (Nat.le_of_ble_eq_true rfl)) ⟨Nat.zero_le _, Nat.zero_le _⟩ (Nat.le_of_ble_eq_true rfl) ?_
    refine r_if_eq hg 35 dX12_of_17 (by decide) (fun c6 => ?_) (fun c6 => ?_)
    · rw [if_pos c6] at h
      refine r_ldc hg dX12_of_35 kc_X12_90 ?_
      exact r_ireturn hr dX12_of_37 ⟨Nat.zero_le _, Nat.zero_le _⟩ ⟨_, rfl, rfl⟩ (by cases h; rfl)
    · rw [if_neg c6] at h
      refine r_aload_n hg 0 dX12_of_20 rfl rfl ?_
      have e7 := ly_12_0 hX k_this
      refine r_getR hg dX12_of_21 fl_X12_7 k_this rfl e7.1 ?_
      refine r_aload_n hg 0 dX12_of_24 rfl rfl ?_
      refine r_iload_n hg 1 dX12_of_25 rfl rfl ?_
      obtain ⟨v8, e9, h⟩ := q_b1_some h
      refine r_cV1i hg dX12_of_26 mt_X12_textAt ml_X12_297 mv_X12_textAt k_this (s_X12_textAt hΓ hX k_this e9) (q_room (Nat.le_of_ble_eq_true rfl) (Nat.le_of_ble_eq_true rfl)) ⟨Nat.zero_le _, Nat.zero_le _⟩ (Nat.le_of_ble_eq_true rfl) ?_
      refine r_iload_n hg 2 dX12_of_29 rfl rfl ?_
      refine r_iadd hg dX12_of_30 ?_
      obtain ⟨v10, e11, h⟩ := q_b1_some h
      refine r_iald hg dX12_of_31 e7.2 e11 ?_
      refine r_goto hg 37 dX12_of_32 (by decide) ?_
      exact r_ireturn hr dX12_of_37 ⟨Nat.zero_le _, Nat.zero_le _⟩ ⟨_, rfl, rfl⟩ (by cases h; rfl)

def b_X12_pit_33 (this : Nat) (x1 : Int32) (x2 : Int32) (x3 : Int32) (s0 : Int64) (s1 : Int64) (s2 : Int64) (I : qI) : Option (Int32 × qI) :=
  q_b1 (f_X12_isIn s0 s1 s2) fun v1 =>
  if v1 = 0 then
    some ((-1000000001), I)
  else
    q_b2 (f_X12_becomes this (((nI 10) + ((nI 5) * x1)) + x2) x3 I) fun v4 I5 =>
    some (v4, I5)
set_option maxRecDepth 100000 in
set_option maxHeartbeats 4000000 in
theorem p_X12_pit_33 {l : Launch} {Γ : qC} {g : qG} {z : Int32 × qI} {this : Nat} {x1 : Int32} {x2 : Int32} {x3 : Int32} {X : qX} (hΓ : q_gm Γ) (hg : q_Ok l Γ RX12 cX12_pit 4 (q_rm 4 0 0) "pit" (some .int) g) (hr : q_Rt cX12_pit (some .int) (q_rm 4 0 0) (some (.int z.1), z.2, X) g) (hX : q_Lay X) (k_this : q_kd X this = some (14, 42)) (s0 : Int64) (s1 : Int64) (s2 : Int64) (I : qI) (h : b_X12_pit_33 this x1 x2 x3 s0 s1 s2 I = some z) : g 0 0 33 [(0, .ref this), (1, .int x1), (2, .int x2), (3, .int x3)] [.long s2, .long s1, .long s0] I X := by
  unfold b_X12_pit_33 at h
  obtain ⟨v1, e2, h⟩ := q_b1_some h
  refine r_cS3i hg dX12_pit_33 mt_X12_isIn ⟨ml_X12_64, mst_X12_isIn⟩ (s_X12_isIn hΓ hX e2) (q_room (Nat.le_of_ble_eq_true rfl) (Nat.le_of_ble_eq_true rfl)) ⟨Nat.zero_le _, Nat.zero_le _⟩ (Nat.le_of_ble_eq_true rfl) ?_
  refine r_if_eq hg 55 dX12_pit_36 (by decide) (fun c3 => ?_) (fun c3 => ?_)
  · rw [if_pos c3] at h
    refine r_ldc hg dX12_pit_55 kc_X12_90 ?_
    exact r_ireturn hr dX12_pit_57 ⟨Nat.zero_le _, Nat.zero_le _⟩ ⟨_, rfl, rfl⟩ (by cases h; rfl)
  · rw [if_neg c3] at h
    refine r_aload_n hg 0 dX12_pit_39 rfl rfl ?_
    refine r_bipush hg dX12_pit_40 cb_10 ?_
    refine r_iconst hg dX12_pit_42 ci_5 ?_
    refine r_iload_n hg 1 dX12_pit_43 rfl rfl ?_
    refine r_imul hg dX12_pit_44 ?_
    refine r_iadd hg dX12_pit_45 ?_
    refine r_iload_n hg 2 dX12_pit_46 rfl rfl ?_
    refine r_iadd hg dX12_pit_47 ?_
    refine r_iload_n hg 3 dX12_pit_48 rfl rfl ?_
    obtain ⟨v4, I5, e6, h⟩ := q_b2_some h
    refine r_cV2i hg dX12_pit_49 mt_X12_becomes ml_X12_86 mv_X12_becomes k_this (s_X12_becomes hΓ hX k_this e6) (q_room (Nat.le_of_ble_eq_true rfl) (Nat.le_of_ble_eq_true rfl)) ⟨Nat.zero_le _, Nat.zero_le _⟩ (Nat.le_of_ble_eq_true rfl) ?_
    refine r_goto hg 57 dX12_pit_52 (by decide) ?_
    exact r_ireturn hr dX12_pit_57 ⟨Nat.zero_le _, Nat.zero_le _⟩ ⟨_, rfl, rfl⟩ (by cases h; rfl)
def f_X12_pit (this : Nat) (x1 : Int32) (x2 : Int32) (x3 : Int32) (I : qI) : Option (Int32 × qI) :=
  q_b1 (f_X12_isPit x1) fun v1 =>
  if v1 = 0 then
    some ((-1000000001), I)
  else
    q_b1 (f_X12_isIn x2.toInt64 (0 : Int64) (1 : Int64)) fun v4 =>
    if v4 = 0 then
      some ((-1000000001), I)
    else
      if x2 = 0 then
        b_X12_pit_33 this x1 x2 x3 x3.toInt64 (1 : Int64) (99 : Int64) I
      else
        b_X12_pit_33 this x1 x2 x3 x3.toInt64 (1 : Int64) (150 : Int64) I
set_option maxRecDepth 100000 in
set_option maxHeartbeats 4000000 in
theorem s_X12_pit {l : Launch} {Γ : qC} (hΓ : q_gm Γ) {X : qX} (hX : q_Lay X) {this : Nat} {x1 : Int32} {x2 : Int32} {x3 : Int32} (k_this : q_kd X this = some (14, 42)) {I : qI} {z : Int32 × qI} (h : f_X12_pit this x1 x2 x3 I = some z) : q_Sem l Γ (q_rm 4 0 0) yX12_pit cX12_pit 4 (some .int) [.ref this, .int x1, .int x2, .int x3] I X (some (.int z.1), z.2, X) := by
  refine q_met (by decide) (Nat.le_of_ble_eq_true rfl) (fun g hg hr => ?_)
  unfold f_X12_pit at h
  show g 0 0 0 [(0, .ref this), (1, .int x1), (2, .int x2), (3, .int x3)] [] I X
  refine r_iload_n hg 1 dX12_pit_0 rfl rfl ?_
  obtain ⟨v1, e2, h⟩ := q_b1_some h
  refine r_cS1i hg dX12_pit_1 mt_X12_isPit ⟨ml_X12_78, mst_X12_isPit⟩ (s_X12_isPit hΓ hX e2) (q_room (Nat.le_of_ble_eq_true rfl) (Nat.le_of_ble_eq_true rfl)) ⟨Nat.zero_le _, Nat.zero_le _⟩ (Nat.le_of_ble_eq_true rfl) ?_
  refine r_if_eq hg 55 dX12_pit_4 (by decide) (fun c3 => ?_) (fun c3 => ?_)
  · rw [if_pos c3] at h
    refine r_ldc hg dX12_pit_55 kc_X12_90 ?_
    exact r_ireturn hr dX12_pit_57 ⟨Nat.zero_le _, Nat.zero_le _⟩ ⟨_, rfl, rfl⟩ (by cases h; rfl)
  · rw [if_neg c3] at h
    refine r_iload_n hg 2 dX12_pit_7 rfl rfl ?_
    refine r_i2l hg dX12_pit_8 ?_
    refine r_lconst hg dX12_pit_9 lc_0 ?_
    refine r_lconst hg dX12_pit_10 lc_1 ?_
    obtain ⟨v4, e5, h⟩ := q_b1_some h
    refine r_cS3i hg dX12_pit_11 mt_X12_isIn ⟨ml_X12_64, mst_X12_isIn⟩ (s_X12_isIn hΓ hX e5) (q_room (Nat.le_of_ble_eq_true rfl) (Nat.le_of_ble_eq_true rfl)) ⟨Nat.zero_le _, Nat.zero_le _⟩ (Nat.le_of_ble_eq_true rfl) ?_
    refine r_if_eq hg 55 dX12_pit_14 (by decide) (fun c6 => ?_) (fun c6 => ?_)
    · rw [if_pos c6] at h
      refine r_ldc hg dX12_pit_55 kc_X12_90 ?_
      exact r_ireturn hr dX12_pit_57 ⟨Nat.zero_le _, Nat.zero_le _⟩ ⟨_, rfl, rfl⟩ (by cases h; rfl)
    · rw [if_neg c6] at h
      refine r_iload_n hg 3 dX12_pit_17 rfl rfl ?_
      refine r_i2l hg dX12_pit_18 ?_
      refine r_lconst hg dX12_pit_19 lc_1 ?_
      refine r_iload_n hg 2 dX12_pit_20 rfl rfl ?_
      refine r_if_ne hg 30 dX12_pit_21 (by decide) (fun c7 => ?_) (fun c7 => ?_)
      · rw [if_neg c7] at h
        refine r_ldc2 hg dX12_pit_30 kl_X12_84 ?_
        exact p_X12_pit_33 hΓ hg hr hX k_this _ _ _ _ h
      · rw [if_pos (Classical.not_not.mp c7)] at h
        refine r_ldc2 hg dX12_pit_24 kl_X12_82 ?_
        refine r_goto hg 33 dX12_pit_27 (by decide) ?_
        exact p_X12_pit_33 hΓ hg hr hX k_this _ _ _ _ h

def f_X12_prove (this : Nat) (x1 : Int32) (x2 : Int32) (x3 : Int32) (x4 : Int32) (I : qI) : Option (Int32) :=
  q_b1 (f_X12_isPit x1) fun v1 =>
  if v1 = 0 then
    some ((-1000000001))
  else
    q_b1 (f_X12_isIn x2.toInt64 (1 : Int64) (99 : Int64)) fun v4 =>
    if v4 = 0 then
      some ((-1000000001))
    else
      q_b1 (f_X12_isIn x3.toInt64 x2.toInt64 (99 : Int64)) fun v7 =>
      if v7 = 0 then
        some ((-1000000001))
      else
        q_b1 (f_X12_isIn x4.toInt64 (0 : Int64) (1 : Int64)) fun v10 =>
        if v10 = 0 then
          some ((-1000000001))
        else
          q_b1 (q_rd I (this + 1) 3580 (((nI 10) + ((nI 5) * x1)) + (nI 4))) fun v14 =>
          if v14 = 0 then
            some ((-1000000005))
          else
            q_b1 (q_rd I (this + 1) 3580 (((nI 10) + ((nI 5) * x1)) + (nI 3))) fun v18 =>
            q_b1 (q_rd I (this + 1) 3580 (((nI 10) + ((nI 5) * x1)) + (nI 4))) fun v21 =>
            if x4 = 0 then
              if (v21.toInt64 * x3.toInt64) = 0 then none else
              some (((v18.toInt64 * (100 : Int64)) / (v21.toInt64 * x3.toInt64)).toInt32)
            else
              if (v21.toInt64 * x2.toInt64) = 0 then none else
              some (((v18.toInt64 * (100 : Int64)) / (v21.toInt64 * x2.toInt64)).toInt32)
set_option maxRecDepth 100000 in
set_option maxHeartbeats 4000000 in
theorem s_X12_prove {l : Launch} {Γ : qC} (hΓ : q_gm Γ) {X : qX} (hX : q_Lay X) {this : Nat} {x1 : Int32} {x2 : Int32} {x3 : Int32} {x4 : Int32} (k_this : q_kd X this = some (14, 42)) {I : qI} {z : Int32} (h : f_X12_prove this x1 x2 x3 x4 I = some z) : q_Sem l Γ (q_rm 4 0 0) yX12_prove cX12_prove 6 (some .int) [.ref this, .int x1, .int x2, .int x3, .int x4] I X (some (.int z), I, X) := by
  refine q_met (by decide) (Nat.le_of_ble_eq_true rfl) (fun g hg hr => ?_)
  unfold f_X12_prove at h
  show g 0 0 0 [(0, .ref this), (1, .int x1), (2, .int x2), (3, .int x3), (4, .int x4)] [] I X
  refine r_iload_n hg 1 dX12_prove_0 rfl rfl ?_
  obtain ⟨v1, e2, h⟩ := q_b1_some h
  refine r_cS1i hg dX12_prove_1 mt_X12_isPit ⟨ml_X12_78, mst_X12_isPit⟩ (s_X12_isPit hΓ hX e2) (q_room (Nat.le_of_ble_eq_true rfl) (Nat.le_of_ble_eq_true rfl)) ⟨Nat.zero_le _, Nat.zero_le _⟩ (Nat.le_of_ble_eq_true rfl) ?_
  refine r_if_eq hg 43 dX12_prove_4 (by decide) (fun c3 => ?_) (fun c3 => ?_)
  · rw [if_pos c3] at h
    refine r_ldc hg dX12_prove_43 kc_X12_90 ?_
    exact r_ireturn hr dX12_prove_45 ⟨Nat.zero_le _, Nat.zero_le _⟩ ⟨_, rfl, rfl⟩ (by cases h; rfl)
  · rw [if_neg c3] at h
    refine r_iload_n hg 2 dX12_prove_7 rfl rfl ?_
    refine r_i2l hg dX12_prove_8 ?_
    refine r_lconst hg dX12_prove_9 lc_1 ?_
    refine r_ldc2 hg dX12_prove_10 kl_X12_82 ?_
    obtain ⟨v4, e5, h⟩ := q_b1_some h
    refine r_cS3i hg dX12_prove_13 mt_X12_isIn ⟨ml_X12_64, mst_X12_isIn⟩ (s_X12_isIn hΓ hX e5) (q_room (Nat.le_of_ble_eq_true rfl) (Nat.le_of_ble_eq_true rfl)) ⟨Nat.zero_le _, Nat.zero_le _⟩ (Nat.le_of_ble_eq_true rfl) ?_
    refine r_if_eq hg 43 dX12_prove_16 (by decide) (fun c6 => ?_) (fun c6 => ?_)
    · rw [if_pos c6] at h
      refine r_ldc hg dX12_prove_43 kc_X12_90 ?_
      exact r_ireturn hr dX12_prove_45 ⟨Nat.zero_le _, Nat.zero_le _⟩ ⟨_, rfl, rfl⟩ (by cases h; rfl)
    · rw [if_neg c6] at h
      refine r_iload_n hg 3 dX12_prove_19 rfl rfl ?_
      refine r_i2l hg dX12_prove_20 ?_
      refine r_iload_n hg 2 dX12_prove_21 rfl rfl ?_
      refine r_i2l hg dX12_prove_22 ?_
      refine r_ldc2 hg dX12_prove_23 kl_X12_82 ?_
      obtain ⟨v7, e8, h⟩ := q_b1_some h
      refine r_cS3i hg dX12_prove_26 mt_X12_isIn ⟨ml_X12_64, mst_X12_isIn⟩ (s_X12_isIn hΓ hX e8) (q_room (Nat.le_of_ble_eq_true rfl) (Nat.le_of_ble_eq_true rfl)) ⟨Nat.zero_le _, Nat.zero_le _⟩ (Nat.le_of_ble_eq_true rfl) ?_
      refine r_if_eq hg 43 dX12_prove_29 (by decide) (fun c9 => ?_) (fun c9 => ?_)
      · rw [if_pos c9] at h
        refine r_ldc hg dX12_prove_43 kc_X12_90 ?_
        exact r_ireturn hr dX12_prove_45 ⟨Nat.zero_le _, Nat.zero_le _⟩ ⟨_, rfl, rfl⟩ (by cases h; rfl)
      · rw [if_neg c9] at h
        refine r_iload hg 4 dX12_prove_32 rfl ?_
        refine r_i2l hg dX12_prove_34 ?_
        refine r_lconst hg dX12_prove_35 lc_0 ?_
        refine r_lconst hg dX12_prove_36 lc_1 ?_
        obtain ⟨v10, e11, h⟩ := q_b1_some h
        refine r_cS3i hg dX12_prove_37 mt_X12_isIn ⟨ml_X12_64, mst_X12_isIn⟩ (s_X12_isIn hΓ hX e11) (q_room (Nat.le_of_ble_eq_true rfl) (Nat.le_of_ble_eq_true rfl)) ⟨Nat.zero_le _, Nat.zero_le _⟩ (Nat.le_of_ble_eq_true rfl) ?_
        refine r_if_ne hg 46 dX12_prove_40 (by decide) (fun c12 => ?_) (fun c12 => ?_)
        · rw [if_neg c12] at h
          refine r_bipush hg dX12_prove_46 cb_10 ?_
          refine r_iconst hg dX12_prove_48 ci_5 ?_
          refine r_iload_n hg 1 dX12_prove_49 rfl rfl ?_
          refine r_imul hg dX12_prove_50 ?_
          refine r_iadd hg dX12_prove_51 ?_
          refine r_istore hg (L' := [(5, .int ((nI 10) + ((nI 5) * x1))), (0, .ref this), (1, .int x1), (2, .int x2), (3, .int x3), (4, .int x4)]) dX12_prove_52 (by decide) rfl ?_
          refine r_aload_n hg 1 dX12_prove_54 rfl rfl ?_
          have e13 := ly_12_0 hX k_this
          refine r_getR hg dX12_prove_55 fl_X12_7 k_this rfl e13.1 ?_
          refine r_iload hg 0 dX12_prove_58 rfl ?_
          refine r_iconst hg dX12_prove_60 ci_4 ?_
          refine r_iadd hg dX12_prove_61 ?_
          obtain ⟨v14, e15, h⟩ := q_b1_some h
          refine r_iald hg dX12_prove_62 e13.2 e15 ?_
          refine r_if_ne hg 71 dX12_prove_63 (by decide) (fun c16 => ?_) (fun c16 => ?_)
          · rw [if_neg c16] at h
            refine r_aload_n hg 1 dX12_prove_71 rfl rfl ?_
            have e17 := ly_12_0 hX k_this
            refine r_getR hg dX12_prove_72 fl_X12_7 k_this rfl e17.1 ?_
            refine r_iload hg 0 dX12_prove_75 rfl ?_
            refine r_iconst hg dX12_prove_77 ci_3 ?_
            refine r_iadd hg dX12_prove_78 ?_
            obtain ⟨v18, e19, h⟩ := q_b1_some h
            refine r_iald hg dX12_prove_79 e17.2 e19 ?_
            refine r_i2l hg dX12_prove_80 ?_
            refine r_ldc2 hg dX12_prove_81 kl_X12_178 ?_
            refine r_lmul hg dX12_prove_84 ?_
            refine r_aload_n hg 1 dX12_prove_85 rfl rfl ?_
            have e20 := ly_12_0 hX k_this
            refine r_getR hg dX12_prove_86 fl_X12_7 k_this rfl e20.1 ?_
            refine r_iload hg 0 dX12_prove_89 rfl ?_
            refine r_iconst hg dX12_prove_91 ci_4 ?_
            refine r_iadd hg dX12_prove_92 ?_
            obtain ⟨v21, e22, h⟩ := q_b1_some h
            refine r_iald hg dX12_prove_93 e20.2 e22 ?_
            refine r_i2l hg dX12_prove_94 ?_
            refine r_iload hg 5 dX12_prove_95 rfl ?_
            refine r_if_ne hg 104 dX12_prove_97 (by decide) (fun c23 => ?_) (fun c23 => ?_)
            · rw [if_neg c23] at h
              refine r_iload_n hg 3 dX12_prove_104 rfl rfl ?_
              refine r_i2l hg dX12_prove_105 ?_
              refine r_lmul hg dX12_prove_106 ?_
              by_cases c24 : (v21.toInt64 * x2.toInt64) = 0
              · rw [if_pos c24] at h; cases h
              rw [if_neg c24] at h
              refine r_ldiv hg dX12_prove_107 c24 ?_
              refine r_l2i hg dX12_prove_108 ?_
              exact r_ireturn hr dX12_prove_109 ⟨Nat.zero_le _, Nat.zero_le _⟩ ⟨_, rfl, rfl⟩ (by cases h; rfl)
            · rw [if_pos (Classical.not_not.mp c23)] at h
              refine r_iload_n hg 4 dX12_prove_100 rfl rfl ?_
              refine r_goto hg 105 dX12_prove_101 (by decide) ?_
              refine r_i2l hg dX12_prove_105 ?_
              refine r_lmul hg dX12_prove_106 ?_
              by_cases c25 : (v21.toInt64 * x3.toInt64) = 0
              · rw [if_pos c25] at h; cases h
              rw [if_neg c25] at h
              refine r_ldiv hg dX12_prove_107 c25 ?_
              refine r_l2i hg dX12_prove_108 ?_
              exact r_ireturn hr dX12_prove_109 ⟨Nat.zero_le _, Nat.zero_le _⟩ ⟨_, rfl, rfl⟩ (by cases h; rfl)
          · rw [if_pos (Classical.not_not.mp c16)] at h
            refine r_ldc hg dX12_prove_66 kc_X12_61 ?_
            refine r_goto hg 109 dX12_prove_68 (by decide) ?_
            exact r_ireturn hr dX12_prove_109 ⟨Nat.zero_le _, Nat.zero_le _⟩ ⟨_, rfl, rfl⟩ (by cases h; rfl)
        · rw [if_pos (Classical.not_not.mp c12)] at h
          refine r_ldc hg dX12_prove_43 kc_X12_90 ?_
          exact r_ireturn hr dX12_prove_45 ⟨Nat.zero_le _, Nat.zero_le _⟩ ⟨_, rfl, rfl⟩ (by cases h; rfl)

def f_X12_read (this : Nat) (x1 : Int32) (x2 : Int32) (I : qI) : Option (Int32) :=
  q_b1 (f_X12_isPit x1) fun v1 =>
  if v1 = 0 then
    some ((-1000000001))
  else
    q_b1 (q_rd I (this + 4) 8 x1) fun v5 =>
    if 0 ≤ v5 then
      q_b1 (q_rd I (this + 5) 8 x1) fun v9 =>
      q_b1 (f_X12_isIn x2.toInt64 (0 : Int64) ((v9 - (nI 1)).toInt64)) fun v11 =>
      if v11 = 0 then
        some ((-1000000013))
      else
        q_b1 (f_X12_readBy this x1 x2 I) fun v14 =>
        if 0 ≤ v14 then
          q_b1 (q_rd I (this + 6) 240 (((nI 30) * x1) + v14)) fun v18 =>
          some (v18)
        else
          some ((-1000000012))
    else
      some ((-1000000011))
set_option maxRecDepth 100000 in
set_option maxHeartbeats 4000000 in
theorem s_X12_read {l : Launch} {Γ : qC} (hΓ : q_gm Γ) {X : qX} (hX : q_Lay X) {this : Nat} {x1 : Int32} {x2 : Int32} (k_this : q_kd X this = some (14, 42)) {I : qI} {z : Int32} (h : f_X12_read this x1 x2 I = some z) : q_Sem l Γ (q_rm 4 0 0) yX12_read cX12_read 4 (some .int) [.ref this, .int x1, .int x2] I X (some (.int z), I, X) := by
  refine q_met (by decide) (Nat.le_of_ble_eq_true rfl) (fun g hg hr => ?_)
  unfold f_X12_read at h
  show g 0 0 0 [(0, .ref this), (1, .int x1), (2, .int x2)] [] I X
  refine r_iload_n hg 1 dX12_read_0 rfl rfl ?_
  obtain ⟨v1, e2, h⟩ := q_b1_some h
  refine r_cS1i hg dX12_read_1 mt_X12_isPit ⟨ml_X12_78, mst_X12_isPit⟩ (s_X12_isPit hΓ hX e2) (q_room (Nat.le_of_ble_eq_true rfl) (Nat.le_of_ble_eq_true rfl)) ⟨Nat.zero_le _, Nat.zero_le _⟩ (Nat.le_of_ble_eq_true rfl) ?_
  refine r_if_ne hg 10 dX12_read_4 (by decide) (fun c3 => ?_) (fun c3 => ?_)
  · rw [if_neg c3] at h
    refine r_aload_n hg 0 dX12_read_10 rfl rfl ?_
    have e4 := ly_12_4 hX k_this
    refine r_getR hg dX12_read_11 fl_X12_19 k_this rfl e4.1 ?_
    refine r_iload_n hg 1 dX12_read_14 rfl rfl ?_
    obtain ⟨v5, e6, h⟩ := q_b1_some h
    refine r_iald hg dX12_read_15 e4.2 e6 ?_
    refine r_if_ge hg 23 dX12_read_16 (by decide) (fun c7 => ?_) (fun c7 => ?_)
    · rw [if_pos c7] at h
      refine r_iload_n hg 2 dX12_read_23 rfl rfl ?_
      refine r_i2l hg dX12_read_24 ?_
      refine r_lconst hg dX12_read_25 lc_0 ?_
      refine r_aload_n hg 0 dX12_read_26 rfl rfl ?_
      have e8 := ly_12_5 hX k_this
      refine r_getR hg dX12_read_27 fl_X12_22 k_this rfl e8.1 ?_
      refine r_iload_n hg 1 dX12_read_30 rfl rfl ?_
      obtain ⟨v9, e10, h⟩ := q_b1_some h
      refine r_iald hg dX12_read_31 e8.2 e10 ?_
      refine r_iconst hg dX12_read_32 ci_1 ?_
      refine r_isub hg dX12_read_33 ?_
      refine r_i2l hg dX12_read_34 ?_
      obtain ⟨v11, e12, h⟩ := q_b1_some h
      refine r_cS3i hg dX12_read_35 mt_X12_isIn ⟨ml_X12_64, mst_X12_isIn⟩ (s_X12_isIn hΓ hX e12) (q_room (Nat.le_of_ble_eq_true rfl) (Nat.le_of_ble_eq_true rfl)) ⟨Nat.zero_le _, Nat.zero_le _⟩ (Nat.le_of_ble_eq_true rfl) ?_
      refine r_if_ne hg 45 dX12_read_38 (by decide) (fun c13 => ?_) (fun c13 => ?_)
      · rw [if_neg c13] at h
        refine r_aload_n hg 0 dX12_read_45 rfl rfl ?_
        refine r_iload_n hg 1 dX12_read_46 rfl rfl ?_
        refine r_iload_n hg 2 dX12_read_47 rfl rfl ?_
        obtain ⟨v14, e15, h⟩ := q_b1_some h
        refine r_cV2i hg dX12_read_48 mt_X12_readBy ml_X12_383 mv_X12_readBy k_this (s_X12_readBy hΓ hX k_this e15) (q_room (Nat.le_of_ble_eq_true rfl) (Nat.le_of_ble_eq_true rfl)) ⟨Nat.zero_le _, Nat.zero_le _⟩ (Nat.le_of_ble_eq_true rfl) ?_
        refine r_istore_n hg (L' := [(3, .int v14), (0, .ref this), (1, .int x1), (2, .int x2)]) dX12_read_51 rfl (by decide) rfl ?_
        refine r_iload_n hg 0 dX12_read_52 rfl rfl ?_
        refine r_if_ge hg 62 dX12_read_53 (by decide) (fun c16 => ?_) (fun c16 => ?_)
        · rw [if_pos c16] at h
          refine r_aload_n hg 1 dX12_read_62 rfl rfl ?_
          have e17 := ly_12_6 hX k_this
          refine r_getR hg dX12_read_63 fl_X12_25 k_this rfl e17.1 ?_
          refine r_bipush hg dX12_read_66 cb_30 ?_
          refine r_iload_n hg 2 dX12_read_68 rfl rfl ?_
          refine r_imul hg dX12_read_69 ?_
          refine r_iload_n hg 0 dX12_read_70 rfl rfl ?_
          refine r_iadd hg dX12_read_71 ?_
          obtain ⟨v18, e19, h⟩ := q_b1_some h
          refine r_iald hg dX12_read_72 e17.2 e19 ?_
          exact r_ireturn hr dX12_read_73 ⟨Nat.zero_le _, Nat.zero_le _⟩ ⟨_, rfl, rfl⟩ (by cases h; rfl)
        · rw [if_neg c16] at h
          refine r_ldcw hg dX12_read_56 kc_X12_356 ?_
          refine r_goto hg 73 dX12_read_59 (by decide) ?_
          exact r_ireturn hr dX12_read_73 ⟨Nat.zero_le _, Nat.zero_le _⟩ ⟨_, rfl, rfl⟩ (by cases h; rfl)
      · rw [if_pos (Classical.not_not.mp c13)] at h
        refine r_ldcw hg dX12_read_41 kc_X12_379 ?_
        exact r_ireturn hr dX12_read_44 ⟨Nat.zero_le _, Nat.zero_le _⟩ ⟨_, rfl, rfl⟩ (by cases h; rfl)
    · rw [if_neg c7] at h
      refine r_ldcw hg dX12_read_19 kc_X12_378 ?_
      exact r_ireturn hr dX12_read_22 ⟨Nat.zero_le _, Nat.zero_le _⟩ ⟨_, rfl, rfl⟩ (by cases h; rfl)
  · rw [if_pos (Classical.not_not.mp c3)] at h
    refine r_ldc hg dX12_read_7 kc_X12_90 ?_
    exact r_ireturn hr dX12_read_9 ⟨Nat.zero_le _, Nat.zero_le _⟩ ⟨_, rfl, rfl⟩ (by cases h; rfl)

def f_X12_refused (this : Nat) (x1 : Int32) (x2 : Int32) (x3 : Int32) (x4 : Int32) (I : qI) : Option (Int32) :=
  q_b1 (f_X12_isMan this x1 I) fun v1 =>
  if v1 = 0 then
    some ((-1000000001))
  else
    q_b1 (f_X12_isIn x2.toInt64 (1 : Int64) (999 : Int64)) fun v4 =>
    if v4 = 0 then
      some ((-1000000001))
    else
      q_b1 (f_X12_isIn x3.toInt64 (0 : Int64) x4.toInt64) fun v7 =>
      if v7 = 0 then
        some ((-1000000001))
      else
        q_b1 (f_X12_isGone this x1 I) fun v10 =>
        if v10 = 0 then
          q_b1 (q_rd I (this + 1) 3580 (nI 3)) fun v14 =>
          if v14 = (nI 60) then
            some ((-1000000003))
          else
            some ((nI 0))
        else
          some ((-1000000002))
set_option maxRecDepth 100000 in
set_option maxHeartbeats 4000000 in
theorem s_X12_refused {l : Launch} {Γ : qC} (hΓ : q_gm Γ) {X : qX} (hX : q_Lay X) {this : Nat} {x1 : Int32} {x2 : Int32} {x3 : Int32} {x4 : Int32} (k_this : q_kd X this = some (14, 42)) {I : qI} {z : Int32} (h : f_X12_refused this x1 x2 x3 x4 I = some z) : q_Sem l Γ (q_rm 4 0 0) yX12_refused cX12_refused 5 (some .int) [.ref this, .int x1, .int x2, .int x3, .int x4] I X (some (.int z), I, X) := by
  refine q_met (by decide) (Nat.le_of_ble_eq_true rfl) (fun g hg hr => ?_)
  unfold f_X12_refused at h
  show g 0 0 0 [(0, .ref this), (1, .int x1), (2, .int x2), (3, .int x3), (4, .int x4)] [] I X
  refine r_aload_n hg 0 dX12_refused_0 rfl rfl ?_
  refine r_iload_n hg 1 dX12_refused_1 rfl rfl ?_
  obtain ⟨v1, e2, h⟩ := q_b1_some h
  refine r_cV1i hg dX12_refused_2 mt_X12_isMan ml_X12_110 mv_X12_isMan k_this (s_X12_isMan hΓ hX k_this e2) (q_room (Nat.le_of_ble_eq_true rfl) (Nat.le_of_ble_eq_true rfl)) ⟨Nat.zero_le _, Nat.zero_le _⟩ (Nat.le_of_ble_eq_true rfl) ?_
  refine r_if_eq hg 32 dX12_refused_5 (by decide) (fun c3 => ?_) (fun c3 => ?_)
  · rw [if_pos c3] at h
    refine r_ldc hg dX12_refused_32 kc_X12_90 ?_
    exact r_ireturn hr dX12_refused_34 ⟨Nat.zero_le _, Nat.zero_le _⟩ ⟨_, rfl, rfl⟩ (by cases h; rfl)
  · rw [if_neg c3] at h
    refine r_iload_n hg 2 dX12_refused_8 rfl rfl ?_
    refine r_i2l hg dX12_refused_9 ?_
    refine r_lconst hg dX12_refused_10 lc_1 ?_
    refine r_ldc2 hg dX12_refused_11 kl_X12_344 ?_
    obtain ⟨v4, e5, h⟩ := q_b1_some h
    refine r_cS3i hg dX12_refused_14 mt_X12_isIn ⟨ml_X12_64, mst_X12_isIn⟩ (s_X12_isIn hΓ hX e5) (q_room (Nat.le_of_ble_eq_true rfl) (Nat.le_of_ble_eq_true rfl)) ⟨Nat.zero_le _, Nat.zero_le _⟩ (Nat.le_of_ble_eq_true rfl) ?_
    refine r_if_eq hg 32 dX12_refused_17 (by decide) (fun c6 => ?_) (fun c6 => ?_)
    · rw [if_pos c6] at h
      refine r_ldc hg dX12_refused_32 kc_X12_90 ?_
      exact r_ireturn hr dX12_refused_34 ⟨Nat.zero_le _, Nat.zero_le _⟩ ⟨_, rfl, rfl⟩ (by cases h; rfl)
    · rw [if_neg c6] at h
      refine r_iload_n hg 3 dX12_refused_20 rfl rfl ?_
      refine r_i2l hg dX12_refused_21 ?_
      refine r_lconst hg dX12_refused_22 lc_0 ?_
      refine r_iload hg 4 dX12_refused_23 rfl ?_
      refine r_i2l hg dX12_refused_25 ?_
      obtain ⟨v7, e8, h⟩ := q_b1_some h
      refine r_cS3i hg dX12_refused_26 mt_X12_isIn ⟨ml_X12_64, mst_X12_isIn⟩ (s_X12_isIn hΓ hX e8) (q_room (Nat.le_of_ble_eq_true rfl) (Nat.le_of_ble_eq_true rfl)) ⟨Nat.zero_le _, Nat.zero_le _⟩ (Nat.le_of_ble_eq_true rfl) ?_
      refine r_if_ne hg 35 dX12_refused_29 (by decide) (fun c9 => ?_) (fun c9 => ?_)
      · rw [if_neg c9] at h
        refine r_aload_n hg 0 dX12_refused_35 rfl rfl ?_
        refine r_iload_n hg 1 dX12_refused_36 rfl rfl ?_
        obtain ⟨v10, e11, h⟩ := q_b1_some h
        refine r_cV1i hg dX12_refused_37 mt_X12_isGone ml_X12_93 mv_X12_isGone k_this (s_X12_isGone hΓ hX k_this e11) (q_room (Nat.le_of_ble_eq_true rfl) (Nat.le_of_ble_eq_true rfl)) ⟨Nat.zero_le _, Nat.zero_le _⟩ (Nat.le_of_ble_eq_true rfl) ?_
        refine r_if_eq hg 49 dX12_refused_40 (by decide) (fun c12 => ?_) (fun c12 => ?_)
        · rw [if_pos c12] at h
          refine r_aload_n hg 0 dX12_refused_49 rfl rfl ?_
          have e13 := ly_12_0 hX k_this
          refine r_getR hg dX12_refused_50 fl_X12_7 k_this rfl e13.1 ?_
          refine r_iconst hg dX12_refused_53 ci_3 ?_
          obtain ⟨v14, e15, h⟩ := q_b1_some h
          refine r_iald hg dX12_refused_54 e13.2 e15 ?_
          refine r_bipush hg dX12_refused_55 cb_60 ?_
          refine r_icmp_ne hg 65 dX12_refused_57 (by decide) (fun c16 => ?_) (fun c16 => ?_)
          · rw [if_neg c16] at h
            refine r_iconst hg dX12_refused_65 ci_0 ?_
            exact r_ireturn hr dX12_refused_66 ⟨Nat.zero_le _, Nat.zero_le _⟩ ⟨_, rfl, rfl⟩ (by cases h; rfl)
          · rw [if_pos (Classical.not_not.mp c16)] at h
            refine r_ldc hg dX12_refused_60 kc_X12_98 ?_
            refine r_goto hg 66 dX12_refused_62 (by decide) ?_
            exact r_ireturn hr dX12_refused_66 ⟨Nat.zero_le _, Nat.zero_le _⟩ ⟨_, rfl, rfl⟩ (by cases h; rfl)
        · rw [if_neg c12] at h
          refine r_ldcw hg dX12_refused_43 kc_X12_346 ?_
          refine r_goto hg 66 dX12_refused_46 (by decide) ?_
          exact r_ireturn hr dX12_refused_66 ⟨Nat.zero_le _, Nat.zero_le _⟩ ⟨_, rfl, rfl⟩ (by cases h; rfl)
      · rw [if_pos (Classical.not_not.mp c9)] at h
        refine r_ldc hg dX12_refused_32 kc_X12_90 ?_
        exact r_ireturn hr dX12_refused_34 ⟨Nat.zero_le _, Nat.zero_le _⟩ ⟨_, rfl, rfl⟩ (by cases h; rfl)

def f_X12_seen (this : Nat) (x1 : Int32) (I : qI) : Option (Int32 × qI) :=
  q_b1 (f_X12_isIn x1.toInt64 (1 : Int64) (7 : Int64)) fun v1 =>
  if v1 = 0 then
    some ((-1000000001), I)
  else
    q_b2 (f_X12_findRound this x1 I) fun v4 I5 =>
    some (v4, I5)
set_option maxRecDepth 100000 in
set_option maxHeartbeats 4000000 in
theorem s_X12_seen {l : Launch} {Γ : qC} (hΓ : q_gm Γ) {X : qX} (hX : q_Lay X) {this : Nat} {x1 : Int32} (k_this : q_kd X this = some (14, 42)) {I : qI} {z : Int32 × qI} (h : f_X12_seen this x1 I = some z) : q_Sem l Γ (q_rm 4 0 0) yX12_seen cX12_seen 2 (some .int) [.ref this, .int x1] I X (some (.int z.1), z.2, X) := by
  refine q_met (by decide) (Nat.le_of_ble_eq_true rfl) (fun g hg hr => ?_)
  unfold f_X12_seen at h
  show g 0 0 0 [(0, .ref this), (1, .int x1)] [] I X
  refine r_iload_n hg 1 dX12_seen_0 rfl rfl ?_
  refine r_i2l hg dX12_seen_1 ?_
  refine r_lconst hg dX12_seen_2 lc_1 ?_
  refine r_ldc2 hg dX12_seen_3 kl_X12_62 ?_
  obtain ⟨v1, e2, h⟩ := q_b1_some h
  refine r_cS3i hg dX12_seen_6 mt_X12_isIn ⟨ml_X12_64, mst_X12_isIn⟩ (s_X12_isIn hΓ hX e2) (q_room (Nat.le_of_ble_eq_true rfl) (Nat.le_of_ble_eq_true rfl)) ⟨Nat.zero_le _, Nat.zero_le _⟩ (Nat.le_of_ble_eq_true rfl) ?_
  refine r_if_eq hg 20 dX12_seen_9 (by decide) (fun c3 => ?_) (fun c3 => ?_)
  · rw [if_pos c3] at h
    refine r_ldc hg dX12_seen_20 kc_X12_90 ?_
    exact r_ireturn hr dX12_seen_22 ⟨Nat.zero_le _, Nat.zero_le _⟩ ⟨_, rfl, rfl⟩ (by cases h; rfl)
  · rw [if_neg c3] at h
    refine r_aload_n hg 0 dX12_seen_12 rfl rfl ?_
    refine r_iload_n hg 1 dX12_seen_13 rfl rfl ?_
    obtain ⟨v4, I5, e6, h⟩ := q_b2_some h
    refine r_cV1i hg dX12_seen_14 mt_X12_findRound ml_X12_398 mv_X12_findRound k_this (s_X12_findRound hΓ hX k_this e6) (q_room (Nat.le_of_ble_eq_true rfl) (Nat.le_of_ble_eq_true rfl)) ⟨Nat.zero_le _, Nat.zero_le _⟩ (Nat.le_of_ble_eq_true rfl) ?_
    refine r_goto hg 22 dX12_seen_17 (by decide) ?_
    exact r_ireturn hr dX12_seen_22 ⟨Nat.zero_le _, Nat.zero_le _⟩ ⟨_, rfl, rfl⟩ (by cases h; rfl)

def f_X12_sell (this : Nat) (x1 : Int32) (x2 : Int32) (x3 : Int32) (I : qI) : Option (Int32 × qI) :=
  q_b1 (f_X12_isDue this x1 I) fun v1 =>
  if v1 = 0 then
    some ((-1000000001), I)
  else
    q_b1 (f_X12_isMan this x2 I) fun v4 =>
    if v4 = 0 then
      some ((-1000000001), I)
    else
      q_b1 (f_X12_isIn x3.toInt64 (0 : Int64) (99 : Int64)) fun v7 =>
      if v7 = 0 then
        some ((-1000000001), I)
      else
        q_b1 (f_X12_dueAt this x1) fun v10 =>
        q_b1 (q_rd I (this + 1) 3580 v10) fun v13 =>
        if v13 = (nI 3) then
          q_b1 (q_rd I (this + 1) 3580 (v10 + (nI 2))) fun v17 =>
          q_b1 (q_rd I (this + 1) 3580 (v10 + (nI 2))) fun v20 =>
          q_b1 (q_rd I (this + 1) 3580 (v10 + (nI 6))) fun v23 =>
          if v23 < 0 then
            some ((-1000000002), I)
          else
            q_b1 (q_rd I (this + 1) 3580 (v10 + (nI 6))) fun v27 =>
            if v27 = x2 then
              some ((-1000000002), I)
            else
              q_b1 (f_X12_manAt this x2) fun v31 =>
              q_b1 (q_rd I (this + 1) 3580 (v31 + (nI 4))) fun v33 =>
              if (v17 - ((v20 * x3) / (nI 100))) ≤ v33 then
                q_b1 (f_X12_manAt this x2) fun v37 =>
                q_b1 (q_rd I (this + 1) 3580 (v37 + (nI 4))) fun v39 =>
                q_b1 (q_wr I (this + 1) 3580 (v37 + (nI 4)) (v39 - (v17 - ((v20 * x3) / (nI 100))))) fun I41 =>
                q_b1 (q_rd I41 (this + 1) 3580 (v10 + (nI 6))) fun v44 =>
                q_b1 (f_X12_gets this v44 (nI 4) (v17 - ((v20 * x3) / (nI 100))) I41) fun I46 =>
                q_b1 (q_wr I46 (this + 1) 3580 (v10 + (nI 6)) x2) fun I49 =>
                some ((v17 - ((v20 * x3) / (nI 100))), I49)
              else
                some ((-1000000002), I)
        else
          some ((-1000000012), I)
set_option maxRecDepth 100000 in
set_option maxHeartbeats 4000000 in
theorem s_X12_sell {l : Launch} {Γ : qC} (hΓ : q_gm Γ) {X : qX} (hX : q_Lay X) {this : Nat} {x1 : Int32} {x2 : Int32} {x3 : Int32} (k_this : q_kd X this = some (14, 42)) {I : qI} {z : Int32 × qI} (h : f_X12_sell this x1 x2 x3 I = some z) : q_Sem l Γ (q_rm 4 0 0) yX12_sell cX12_sell 6 (some .int) [.ref this, .int x1, .int x2, .int x3] I X (some (.int z.1), z.2, X) := by
  refine q_met (by decide) (Nat.le_of_ble_eq_true rfl) (fun g hg hr => ?_)
  unfold f_X12_sell at h
  show g 0 0 0 [(0, .ref this), (1, .int x1), (2, .int x2), (3, .int x3)] [] I X
  refine r_aload_n hg 0 dX12_sell_0 rfl rfl ?_
  refine r_iload_n hg 1 dX12_sell_1 rfl rfl ?_
  obtain ⟨v1, e2, h⟩ := q_b1_some h
  refine r_cV1i hg dX12_sell_2 mt_X12_isDue ml_X12_353 mv_X12_isDue k_this (s_X12_isDue hΓ hX k_this e2) (q_room (Nat.le_of_ble_eq_true rfl) (Nat.le_of_ble_eq_true rfl)) ⟨Nat.zero_le _, Nat.zero_le _⟩ (Nat.le_of_ble_eq_true rfl) ?_
  refine r_if_eq hg 28 dX12_sell_5 (by decide) (fun c3 => ?_) (fun c3 => ?_)
  · rw [if_pos c3] at h
    refine r_ldc hg dX12_sell_28 kc_X12_90 ?_
    exact r_ireturn hr dX12_sell_30 ⟨Nat.zero_le _, Nat.zero_le _⟩ ⟨_, rfl, rfl⟩ (by cases h; rfl)
  · rw [if_neg c3] at h
    refine r_aload_n hg 0 dX12_sell_8 rfl rfl ?_
    refine r_iload_n hg 2 dX12_sell_9 rfl rfl ?_
    obtain ⟨v4, e5, h⟩ := q_b1_some h
    refine r_cV1i hg dX12_sell_10 mt_X12_isMan ml_X12_110 mv_X12_isMan k_this (s_X12_isMan hΓ hX k_this e5) (q_room (Nat.le_of_ble_eq_true rfl) (Nat.le_of_ble_eq_true rfl)) ⟨Nat.zero_le _, Nat.zero_le _⟩ (Nat.le_of_ble_eq_true rfl) ?_
    refine r_if_eq hg 28 dX12_sell_13 (by decide) (fun c6 => ?_) (fun c6 => ?_)
    · rw [if_pos c6] at h
      refine r_ldc hg dX12_sell_28 kc_X12_90 ?_
      exact r_ireturn hr dX12_sell_30 ⟨Nat.zero_le _, Nat.zero_le _⟩ ⟨_, rfl, rfl⟩ (by cases h; rfl)
    · rw [if_neg c6] at h
      refine r_iload_n hg 3 dX12_sell_16 rfl rfl ?_
      refine r_i2l hg dX12_sell_17 ?_
      refine r_lconst hg dX12_sell_18 lc_0 ?_
      refine r_ldc2 hg dX12_sell_19 kl_X12_82 ?_
      obtain ⟨v7, e8, h⟩ := q_b1_some h
      refine r_cS3i hg dX12_sell_22 mt_X12_isIn ⟨ml_X12_64, mst_X12_isIn⟩ (s_X12_isIn hΓ hX e8) (q_room (Nat.le_of_ble_eq_true rfl) (Nat.le_of_ble_eq_true rfl)) ⟨Nat.zero_le _, Nat.zero_le _⟩ (Nat.le_of_ble_eq_true rfl) ?_
      refine r_if_ne hg 31 dX12_sell_25 (by decide) (fun c9 => ?_) (fun c9 => ?_)
      · rw [if_neg c9] at h
        refine r_aload_n hg 0 dX12_sell_31 rfl rfl ?_
        refine r_iload_n hg 1 dX12_sell_32 rfl rfl ?_
        obtain ⟨v10, e11, h⟩ := q_b1_some h
        refine r_cV1i hg dX12_sell_33 mt_X12_dueAt ml_X12_75 mv_X12_dueAt k_this (s_X12_dueAt hΓ hX k_this e11) (q_room (Nat.le_of_ble_eq_true rfl) (Nat.le_of_ble_eq_true rfl)) ⟨Nat.zero_le _, Nat.zero_le _⟩ (Nat.le_of_ble_eq_true rfl) ?_
        refine r_istore hg (L' := [(4, .int v10), (0, .ref this), (1, .int x1), (2, .int x2), (3, .int x3)]) dX12_sell_36 (by decide) rfl ?_
        refine r_aload_n hg 1 dX12_sell_38 rfl rfl ?_
        have e12 := ly_12_0 hX k_this
        refine r_getR hg dX12_sell_39 fl_X12_7 k_this rfl e12.1 ?_
        refine r_iload hg 0 dX12_sell_42 rfl ?_
        obtain ⟨v13, e14, h⟩ := q_b1_some h
        refine r_iald hg dX12_sell_44 e12.2 e14 ?_
        refine r_iconst hg dX12_sell_45 ci_3 ?_
        refine r_icmp_eq hg 53 dX12_sell_46 (by decide) (fun c15 => ?_) (fun c15 => ?_)
        · rw [if_pos c15] at h
          refine r_aload_n hg 1 dX12_sell_53 rfl rfl ?_
          have e16 := ly_12_0 hX k_this
          refine r_getR hg dX12_sell_54 fl_X12_7 k_this rfl e16.1 ?_
          refine r_iload hg 0 dX12_sell_57 rfl ?_
          refine r_iconst hg dX12_sell_59 ci_2 ?_
          refine r_iadd hg dX12_sell_60 ?_
          obtain ⟨v17, e18, h⟩ := q_b1_some h
          refine r_iald hg dX12_sell_61 e16.2 e18 ?_
          refine r_aload_n hg 1 dX12_sell_62 rfl rfl ?_
          have e19 := ly_12_0 hX k_this
          refine r_getR hg dX12_sell_63 fl_X12_7 k_this rfl e19.1 ?_
          refine r_iload hg 0 dX12_sell_66 rfl ?_
          refine r_iconst hg dX12_sell_68 ci_2 ?_
          refine r_iadd hg dX12_sell_69 ?_
          obtain ⟨v20, e21, h⟩ := q_b1_some h
          refine r_iald hg dX12_sell_70 e19.2 e21 ?_
          refine r_iload_n hg 4 dX12_sell_71 rfl rfl ?_
          refine r_imul hg dX12_sell_72 ?_
          refine r_bipush hg dX12_sell_73 cb_100 ?_
          refine r_idiv hg dX12_sell_75 nz_100 ?_
          refine r_isub hg dX12_sell_76 ?_
          refine r_istore hg (L' := [(5, .int (v17 - ((v20 * x3) / (nI 100)))), (4, .int v10), (0, .ref this), (1, .int x1), (2, .int x2), (3, .int x3)]) dX12_sell_77 (by decide) rfl ?_
          refine r_aload_n hg 2 dX12_sell_79 rfl rfl ?_
          have e22 := ly_12_0 hX k_this
          refine r_getR hg dX12_sell_80 fl_X12_7 k_this rfl e22.1 ?_
          refine r_iload hg 1 dX12_sell_83 rfl ?_
          refine r_bipush hg dX12_sell_85 cb_6 ?_
          refine r_iadd hg dX12_sell_87 ?_
          obtain ⟨v23, e24, h⟩ := q_b1_some h
          refine r_iald hg dX12_sell_88 e22.2 e24 ?_
          refine r_if_lt hg 123 dX12_sell_89 (by decide) (fun c25 => ?_) (fun c25 => ?_)
          · rw [if_pos c25] at h
            refine r_ldcw hg dX12_sell_123 kc_X12_346 ?_
            exact r_ireturn hr dX12_sell_126 ⟨Nat.zero_le _, Nat.zero_le _⟩ ⟨_, rfl, rfl⟩ (by cases h; rfl)
          · rw [if_neg c25] at h
            refine r_aload_n hg 2 dX12_sell_92 rfl rfl ?_
            have e26 := ly_12_0 hX k_this
            refine r_getR hg dX12_sell_93 fl_X12_7 k_this rfl e26.1 ?_
            refine r_iload hg 1 dX12_sell_96 rfl ?_
            refine r_bipush hg dX12_sell_98 cb_6 ?_
            refine r_iadd hg dX12_sell_100 ?_
            obtain ⟨v27, e28, h⟩ := q_b1_some h
            refine r_iald hg dX12_sell_101 e26.2 e28 ?_
            refine r_iload_n hg 4 dX12_sell_102 rfl rfl ?_
            refine r_icmp_eq hg 123 dX12_sell_103 (by decide) (fun c29 => ?_) (fun c29 => ?_)
            · rw [if_pos c29] at h
              refine r_ldcw hg dX12_sell_123 kc_X12_346 ?_
              exact r_ireturn hr dX12_sell_126 ⟨Nat.zero_le _, Nat.zero_le _⟩ ⟨_, rfl, rfl⟩ (by cases h; rfl)
            · rw [if_neg c29] at h
              refine r_aload_n hg 2 dX12_sell_106 rfl rfl ?_
              have e30 := ly_12_0 hX k_this
              refine r_getR hg dX12_sell_107 fl_X12_7 k_this rfl e30.1 ?_
              refine r_aload_n hg 2 dX12_sell_110 rfl rfl ?_
              refine r_iload_n hg 4 dX12_sell_111 rfl rfl ?_
              obtain ⟨v31, e32, h⟩ := q_b1_some h
              refine r_cV1i hg dX12_sell_112 mt_X12_manAt ml_X12_68 mv_X12_manAt k_this (s_X12_manAt hΓ hX k_this e32) (q_room (Nat.le_of_ble_eq_true rfl) (Nat.le_of_ble_eq_true rfl)) ⟨Nat.zero_le _, Nat.zero_le _⟩ (Nat.le_of_ble_eq_true rfl) ?_
              refine r_iconst hg dX12_sell_115 ci_4 ?_
              refine r_iadd hg dX12_sell_116 ?_
              obtain ⟨v33, e34, h⟩ := q_b1_some h
              refine r_iald hg dX12_sell_117 e30.2 e34 ?_
              refine r_iload hg 0 dX12_sell_118 rfl ?_
              refine r_icmp_ge hg 127 dX12_sell_120 (by decide) (fun c35 => ?_) (fun c35 => ?_)
              · rw [if_pos c35] at h
                refine r_aload_n hg 2 dX12_sell_127 rfl rfl ?_
                have e36 := ly_12_0 hX k_this
                refine r_getR hg dX12_sell_128 fl_X12_7 k_this rfl e36.1 ?_
                refine r_aload_n hg 2 dX12_sell_131 rfl rfl ?_
                refine r_iload_n hg 4 dX12_sell_132 rfl rfl ?_
                obtain ⟨v37, e38, h⟩ := q_b1_some h
                refine r_cV1i hg dX12_sell_133 mt_X12_manAt ml_X12_68 mv_X12_manAt k_this (s_X12_manAt hΓ hX k_this e38) (q_room (Nat.le_of_ble_eq_true rfl) (Nat.le_of_ble_eq_true rfl)) ⟨Nat.zero_le _, Nat.zero_le _⟩ (Nat.le_of_ble_eq_true rfl) ?_
                refine r_iconst hg dX12_sell_136 ci_4 ?_
                refine r_iadd hg dX12_sell_137 ?_
                refine r_dup2 hg dX12_sell_138 rfl rfl ?_
                obtain ⟨v39, e40, h⟩ := q_b1_some h
                refine r_iald hg dX12_sell_139 e36.2 e40 ?_
                refine r_iload hg 0 dX12_sell_140 rfl ?_
                refine r_isub hg dX12_sell_142 ?_
                obtain ⟨I41, e42, h⟩ := q_b1_some h
                refine r_iast hg dX12_sell_143 e36.2 e42 ?_
                refine r_aload_n hg 2 dX12_sell_144 rfl rfl ?_
                refine r_aload_n hg 2 dX12_sell_145 rfl rfl ?_
                have e43 := ly_12_0 hX k_this
                refine r_getR hg dX12_sell_146 fl_X12_7 k_this rfl e43.1 ?_
                refine r_iload hg 1 dX12_sell_149 rfl ?_
                refine r_bipush hg dX12_sell_151 cb_6 ?_
                refine r_iadd hg dX12_sell_153 ?_
                obtain ⟨v44, e45, h⟩ := q_b1_some h
                refine r_iald hg dX12_sell_154 e43.2 e45 ?_
                refine r_iconst hg dX12_sell_155 ci_4 ?_
                refine r_iload hg 0 dX12_sell_156 rfl ?_
                obtain ⟨I46, e47, h⟩ := q_b1_some h
                refine r_cV3v hg dX12_sell_158 mt_X12_gets ml_X12_350 mv_X12_gets k_this (s_X12_gets hΓ hX k_this e47) (q_room (Nat.le_of_ble_eq_true rfl) (Nat.le_of_ble_eq_true rfl)) ⟨Nat.zero_le _, Nat.zero_le _⟩ (Nat.le_of_ble_eq_true rfl) ?_
                refine r_aload_n hg 2 dX12_sell_161 rfl rfl ?_
                have e48 := ly_12_0 hX k_this
                refine r_getR hg dX12_sell_162 fl_X12_7 k_this rfl e48.1 ?_
                refine r_iload hg 1 dX12_sell_165 rfl ?_
                refine r_bipush hg dX12_sell_167 cb_6 ?_
                refine r_iadd hg dX12_sell_169 ?_
                refine r_iload_n hg 4 dX12_sell_170 rfl rfl ?_
                obtain ⟨I49, e50, h⟩ := q_b1_some h
                refine r_iast hg dX12_sell_171 e48.2 e50 ?_
                refine r_iload hg 0 dX12_sell_172 rfl ?_
                exact r_ireturn hr dX12_sell_174 ⟨Nat.zero_le _, Nat.zero_le _⟩ ⟨_, rfl, rfl⟩ (by cases h; rfl)
              · rw [if_neg c35] at h
                refine r_ldcw hg dX12_sell_123 kc_X12_346 ?_
                exact r_ireturn hr dX12_sell_126 ⟨Nat.zero_le _, Nat.zero_le _⟩ ⟨_, rfl, rfl⟩ (by cases h; rfl)
        · rw [if_neg c15] at h
          refine r_ldcw hg dX12_sell_49 kc_X12_356 ?_
          exact r_ireturn hr dX12_sell_52 ⟨Nat.zero_le _, Nat.zero_le _⟩ ⟨_, rfl, rfl⟩ (by cases h; rfl)
      · rw [if_pos (Classical.not_not.mp c9)] at h
        refine r_ldc hg dX12_sell_28 kc_X12_90 ?_
        exact r_ireturn hr dX12_sell_30 ⟨Nat.zero_le _, Nat.zero_le _⟩ ⟨_, rfl, rfl⟩ (by cases h; rfl)

def f_X12_sells (this : Nat) (x1 : Int32) (x2 : Int32) (I : qI) : Option (Int32) :=
  q_b1 (f_X12_isShop this x1 I) fun v1 =>
  if v1 = 0 then
    some ((-1000000001))
  else
    q_b1 (f_X12_isIn x2.toInt64 (0 : Int64) (3 : Int64)) fun v4 =>
    if v4 = 0 then
      some ((-1000000001))
    else
      q_b1 (f_X12_shopAt this x1) fun v8 =>
      q_b1 (q_rd I (this + 1) 3580 (v8 + x2)) fun v10 =>
      some (v10)
set_option maxRecDepth 100000 in
set_option maxHeartbeats 4000000 in
theorem s_X12_sells {l : Launch} {Γ : qC} (hΓ : q_gm Γ) {X : qX} (hX : q_Lay X) {this : Nat} {x1 : Int32} {x2 : Int32} (k_this : q_kd X this = some (14, 42)) {I : qI} {z : Int32} (h : f_X12_sells this x1 x2 I = some z) : q_Sem l Γ (q_rm 4 0 0) yX12_sells cX12_sells 3 (some .int) [.ref this, .int x1, .int x2] I X (some (.int z), I, X) := by
  refine q_met (by decide) (Nat.le_of_ble_eq_true rfl) (fun g hg hr => ?_)
  unfold f_X12_sells at h
  show g 0 0 0 [(0, .ref this), (1, .int x1), (2, .int x2)] [] I X
  refine r_aload_n hg 0 dX12_sells_0 rfl rfl ?_
  refine r_iload_n hg 1 dX12_sells_1 rfl rfl ?_
  obtain ⟨v1, e2, h⟩ := q_b1_some h
  refine r_cV1i hg dX12_sells_2 mt_X12_isShop ml_X12_99 mv_X12_isShop k_this (s_X12_isShop hΓ hX k_this e2) (q_room (Nat.le_of_ble_eq_true rfl) (Nat.le_of_ble_eq_true rfl)) ⟨Nat.zero_le _, Nat.zero_le _⟩ (Nat.le_of_ble_eq_true rfl) ?_
  refine r_if_eq hg 35 dX12_sells_5 (by decide) (fun c3 => ?_) (fun c3 => ?_)
  · rw [if_pos c3] at h
    refine r_ldc hg dX12_sells_35 kc_X12_90 ?_
    exact r_ireturn hr dX12_sells_37 ⟨Nat.zero_le _, Nat.zero_le _⟩ ⟨_, rfl, rfl⟩ (by cases h; rfl)
  · rw [if_neg c3] at h
    refine r_iload_n hg 2 dX12_sells_8 rfl rfl ?_
    refine r_i2l hg dX12_sells_9 ?_
    refine r_lconst hg dX12_sells_10 lc_0 ?_
    refine r_ldc2 hg dX12_sells_11 kl_X12_102 ?_
    obtain ⟨v4, e5, h⟩ := q_b1_some h
    refine r_cS3i hg dX12_sells_14 mt_X12_isIn ⟨ml_X12_64, mst_X12_isIn⟩ (s_X12_isIn hΓ hX e5) (q_room (Nat.le_of_ble_eq_true rfl) (Nat.le_of_ble_eq_true rfl)) ⟨Nat.zero_le _, Nat.zero_le _⟩ (Nat.le_of_ble_eq_true rfl) ?_
    refine r_if_eq hg 35 dX12_sells_17 (by decide) (fun c6 => ?_) (fun c6 => ?_)
    · rw [if_pos c6] at h
      refine r_ldc hg dX12_sells_35 kc_X12_90 ?_
      exact r_ireturn hr dX12_sells_37 ⟨Nat.zero_le _, Nat.zero_le _⟩ ⟨_, rfl, rfl⟩ (by cases h; rfl)
    · rw [if_neg c6] at h
      refine r_aload_n hg 0 dX12_sells_20 rfl rfl ?_
      have e7 := ly_12_0 hX k_this
      refine r_getR hg dX12_sells_21 fl_X12_7 k_this rfl e7.1 ?_
      refine r_aload_n hg 0 dX12_sells_24 rfl rfl ?_
      refine r_iload_n hg 1 dX12_sells_25 rfl rfl ?_
      obtain ⟨v8, e9, h⟩ := q_b1_some h
      refine r_cV1i hg dX12_sells_26 mt_X12_shopAt ml_X12_72 mv_X12_shopAt k_this (s_X12_shopAt hΓ hX k_this e9) (q_room (Nat.le_of_ble_eq_true rfl) (Nat.le_of_ble_eq_true rfl)) ⟨Nat.zero_le _, Nat.zero_le _⟩ (Nat.le_of_ble_eq_true rfl) ?_
      refine r_iload_n hg 2 dX12_sells_29 rfl rfl ?_
      refine r_iadd hg dX12_sells_30 ?_
      obtain ⟨v10, e11, h⟩ := q_b1_some h
      refine r_iald hg dX12_sells_31 e7.2 e11 ?_
      refine r_goto hg 37 dX12_sells_32 (by decide) ?_
      exact r_ireturn hr dX12_sells_37 ⟨Nat.zero_le _, Nat.zero_le _⟩ ⟨_, rfl, rfl⟩ (by cases h; rfl)

def b_X12_shelf_39 (this : Nat) (x1 : Int32) (x2 : Int32) (x3 : Int32) (s0 : Int32) (I : qI) : Option (Int32 × qI) :=
  q_b1 (f_X12_isShop this x1 I) fun v1 =>
  if v1 = 0 then
    some ((-1000000001), I)
  else
    if s0 = 0 then
      some ((-1000000001), I)
    else
      q_b1 (f_X12_shopAt this x1) fun v5 =>
      q_b2 (f_X12_becomes this (v5 + x2) x3 I) fun v7 I8 =>
      some (v7, I8)
set_option maxRecDepth 100000 in
set_option maxHeartbeats 4000000 in
theorem p_X12_shelf_39 {l : Launch} {Γ : qC} {g : qG} {z : Int32 × qI} {this : Nat} {x1 : Int32} {x2 : Int32} {x3 : Int32} {X : qX} (hΓ : q_gm Γ) (hg : q_Ok l Γ RX12 cX12_shelf 5 (q_rm 4 0 0) "shelf" (some .int) g) (hr : q_Rt cX12_shelf (some .int) (q_rm 4 0 0) (some (.int z.1), z.2, X) g) (hX : q_Lay X) (k_this : q_kd X this = some (14, 42)) (s0 : Int32) (I : qI) (h : b_X12_shelf_39 this x1 x2 x3 s0 I = some z) : g 0 0 39 [(0, .ref this), (1, .int x1), (2, .int x2), (3, .int x3)] [.int s0] I X := by
  unfold b_X12_shelf_39 at h
  refine r_istore hg (L' := [(4, .int s0), (0, .ref this), (1, .int x1), (2, .int x2), (3, .int x3)]) dX12_shelf_39 (by decide) rfl ?_
  refine r_aload_n hg 1 dX12_shelf_41 rfl rfl ?_
  refine r_iload_n hg 2 dX12_shelf_42 rfl rfl ?_
  obtain ⟨v1, e2, h⟩ := q_b1_some h
  refine r_cV1i hg dX12_shelf_43 mt_X12_isShop ml_X12_99 mv_X12_isShop k_this (s_X12_isShop hΓ hX k_this e2) (q_room (Nat.le_of_ble_eq_true rfl) (Nat.le_of_ble_eq_true rfl)) ⟨Nat.zero_le _, Nat.zero_le _⟩ (Nat.le_of_ble_eq_true rfl) ?_
  refine r_if_eq hg 69 dX12_shelf_46 (by decide) (fun c3 => ?_) (fun c3 => ?_)
  · rw [if_pos c3] at h
    refine r_ldc hg dX12_shelf_69 kc_X12_90 ?_
    exact r_ireturn hr dX12_shelf_71 ⟨Nat.zero_le _, Nat.zero_le _⟩ ⟨_, rfl, rfl⟩ (by cases h; rfl)
  · rw [if_neg c3] at h
    refine r_iload hg 0 dX12_shelf_49 rfl ?_
    refine r_if_eq hg 69 dX12_shelf_51 (by decide) (fun c4 => ?_) (fun c4 => ?_)
    · rw [if_pos c4] at h
      refine r_ldc hg dX12_shelf_69 kc_X12_90 ?_
      exact r_ireturn hr dX12_shelf_71 ⟨Nat.zero_le _, Nat.zero_le _⟩ ⟨_, rfl, rfl⟩ (by cases h; rfl)
    · rw [if_neg c4] at h
      refine r_aload_n hg 1 dX12_shelf_54 rfl rfl ?_
      refine r_aload_n hg 1 dX12_shelf_55 rfl rfl ?_
      refine r_iload_n hg 2 dX12_shelf_56 rfl rfl ?_
      obtain ⟨v5, e6, h⟩ := q_b1_some h
      refine r_cV1i hg dX12_shelf_57 mt_X12_shopAt ml_X12_72 mv_X12_shopAt k_this (s_X12_shopAt hΓ hX k_this e6) (q_room (Nat.le_of_ble_eq_true rfl) (Nat.le_of_ble_eq_true rfl)) ⟨Nat.zero_le _, Nat.zero_le _⟩ (Nat.le_of_ble_eq_true rfl) ?_
      refine r_iload_n hg 3 dX12_shelf_60 rfl rfl ?_
      refine r_iadd hg dX12_shelf_61 ?_
      refine r_iload_n hg 4 dX12_shelf_62 rfl rfl ?_
      obtain ⟨v7, I8, e9, h⟩ := q_b2_some h
      refine r_cV2i hg dX12_shelf_63 mt_X12_becomes ml_X12_86 mv_X12_becomes k_this (s_X12_becomes hΓ hX k_this e9) (q_room (Nat.le_of_ble_eq_true rfl) (Nat.le_of_ble_eq_true rfl)) ⟨Nat.zero_le _, Nat.zero_le _⟩ (Nat.le_of_ble_eq_true rfl) ?_
      refine r_goto hg 71 dX12_shelf_66 (by decide) ?_
      exact r_ireturn hr dX12_shelf_71 ⟨Nat.zero_le _, Nat.zero_le _⟩ ⟨_, rfl, rfl⟩ (by cases h; rfl)
def b_X12_shelf_38 (this : Nat) (x1 : Int32) (x2 : Int32) (x3 : Int32) (I : qI) : Option (Int32 × qI) :=
  b_X12_shelf_39 this x1 x2 x3 (nI 0) I
set_option maxRecDepth 100000 in
set_option maxHeartbeats 4000000 in
theorem p_X12_shelf_38 {l : Launch} {Γ : qC} {g : qG} {z : Int32 × qI} {this : Nat} {x1 : Int32} {x2 : Int32} {x3 : Int32} {X : qX} (hΓ : q_gm Γ) (hg : q_Ok l Γ RX12 cX12_shelf 5 (q_rm 4 0 0) "shelf" (some .int) g) (hr : q_Rt cX12_shelf (some .int) (q_rm 4 0 0) (some (.int z.1), z.2, X) g) (hX : q_Lay X) (k_this : q_kd X this = some (14, 42)) (I : qI) (h : b_X12_shelf_38 this x1 x2 x3 I = some z) : g 0 0 38 [(0, .ref this), (1, .int x1), (2, .int x2), (3, .int x3)] [] I X := by
  unfold b_X12_shelf_38 at h
  refine r_iconst hg dX12_shelf_38 ci_0 ?_
  exact p_X12_shelf_39 hΓ hg hr hX k_this _ _ h
def f_X12_shelf (this : Nat) (x1 : Int32) (x2 : Int32) (x3 : Int32) (I : qI) : Option (Int32 × qI) :=
  if x2 = (nI 1) then
    q_b1 (f_X12_isIn x3.toInt64 (1 : Int64) (99 : Int64)) fun v6 =>
    b_X12_shelf_39 this x1 x2 x3 v6 I
  else
    if x2 = (nI 2) then
      q_b1 (f_X12_isIn x3.toInt64 (0 : Int64) (99999 : Int64)) fun v3 =>
      if v3 = 0 then
        b_X12_shelf_38 this x1 x2 x3 I
      else
        b_X12_shelf_39 this x1 x2 x3 (nI 1) I
    else
      b_X12_shelf_38 this x1 x2 x3 I
set_option maxRecDepth 100000 in
set_option maxHeartbeats 4000000 in
theorem s_X12_shelf {l : Launch} {Γ : qC} (hΓ : q_gm Γ) {X : qX} (hX : q_Lay X) {this : Nat} {x1 : Int32} {x2 : Int32} {x3 : Int32} (k_this : q_kd X this = some (14, 42)) {I : qI} {z : Int32 × qI} (h : f_X12_shelf this x1 x2 x3 I = some z) : q_Sem l Γ (q_rm 4 0 0) yX12_shelf cX12_shelf 5 (some .int) [.ref this, .int x1, .int x2, .int x3] I X (some (.int z.1), z.2, X) := by
  refine q_met (by decide) (Nat.le_of_ble_eq_true rfl) (fun g hg hr => ?_)
  unfold f_X12_shelf at h
  show g 0 0 0 [(0, .ref this), (1, .int x1), (2, .int x2), (3, .int x3)] [] I X
  refine r_iload_n hg 2 dX12_shelf_0 rfl rfl ?_
  refine r_iconst hg dX12_shelf_1 ci_1 ?_
  refine r_icmp_ne hg 17 dX12_shelf_2 (by decide) (fun c1 => ?_) (fun c1 => ?_)
  · rw [if_neg c1] at h
    refine r_iload_n hg 2 dX12_shelf_17 rfl rfl ?_
    refine r_iconst hg dX12_shelf_18 ci_2 ?_
    refine r_icmp_ne hg 38 dX12_shelf_19 (by decide) (fun c2 => ?_) (fun c2 => ?_)
    · rw [if_neg c2] at h
      exact p_X12_shelf_38 hΓ hg hr hX k_this _ h
    · rw [if_pos (Classical.not_not.mp c2)] at h
      refine r_iload_n hg 3 dX12_shelf_22 rfl rfl ?_
      refine r_i2l hg dX12_shelf_23 ?_
      refine r_lconst hg dX12_shelf_24 lc_0 ?_
      refine r_ldc2 hg dX12_shelf_25 kl_X12_96 ?_
      obtain ⟨v3, e4, h⟩ := q_b1_some h
      refine r_cS3i hg dX12_shelf_28 mt_X12_isIn ⟨ml_X12_64, mst_X12_isIn⟩ (s_X12_isIn hΓ hX e4) (q_room (Nat.le_of_ble_eq_true rfl) (Nat.le_of_ble_eq_true rfl)) ⟨Nat.zero_le _, Nat.zero_le _⟩ (Nat.le_of_ble_eq_true rfl) ?_
      refine r_if_eq hg 38 dX12_shelf_31 (by decide) (fun c5 => ?_) (fun c5 => ?_)
      · rw [if_pos c5] at h
        exact p_X12_shelf_38 hΓ hg hr hX k_this _ h
      · rw [if_neg c5] at h
        refine r_iconst hg dX12_shelf_34 ci_1 ?_
        refine r_goto hg 39 dX12_shelf_35 (by decide) ?_
        exact p_X12_shelf_39 hΓ hg hr hX k_this _ _ h
  · rw [if_pos (Classical.not_not.mp c1)] at h
    refine r_iload_n hg 3 dX12_shelf_5 rfl rfl ?_
    refine r_i2l hg dX12_shelf_6 ?_
    refine r_lconst hg dX12_shelf_7 lc_1 ?_
    refine r_ldc2 hg dX12_shelf_8 kl_X12_82 ?_
    obtain ⟨v6, e7, h⟩ := q_b1_some h
    refine r_cS3i hg dX12_shelf_11 mt_X12_isIn ⟨ml_X12_64, mst_X12_isIn⟩ (s_X12_isIn hΓ hX e7) (q_room (Nat.le_of_ble_eq_true rfl) (Nat.le_of_ble_eq_true rfl)) ⟨Nat.zero_le _, Nat.zero_le _⟩ (Nat.le_of_ble_eq_true rfl) ?_
    refine r_goto hg 39 dX12_shelf_14 (by decide) ?_
    exact p_X12_shelf_39 hΓ hg hr hX k_this _ _ h

def b_X12_stands_49 (this : Nat) (x1 : Int32) (I : qI) (k4 : Int32 → Int32 → Option (Int32)) (x3 : Int32) (s0 : Int32) (s1 : Int32) : Option (Int32) :=
  k4 (s0 + s1) (x3 + (nI 1))
set_option maxRecDepth 100000 in
set_option maxHeartbeats 4000000 in
theorem p_X12_stands_49 {l : Launch} {Γ : qC} {g : qG} {z : Int32} {this : Nat} {x1 : Int32} {X : qX} {I : qI} (hΓ : q_gm Γ) (hg : q_Ok l Γ RX12 cX12_stands 4 (q_rm 4 0 0) "stands" (some .int) g) (hr : q_Rt cX12_stands (some .int) (q_rm 4 0 0) (some (.int z), I, X) g) (hX : q_Lay X) (k_this : q_kd X this = some (14, 42)) {k4 : Int32 → Int32 → Option (Int32)} (hk4 : ∀ (x2 : Int32) (x3 : Int32), k4 x2 x3 = some z → g 0 0 4 [(0, .ref this), (1, .int x1), (2, .int x2), (3, .int x3)] [] I X) (x3 : Int32) (s0 : Int32) (s1 : Int32) (h : b_X12_stands_49 this x1 I k4 x3 s0 s1 = some z) : g 0 0 49 [(0, .ref this), (1, .int x1), (3, .int x3)] [.int s1, .int s0] I X := by
  unfold b_X12_stands_49 at h
  refine r_iadd hg dX12_stands_49 ?_
  refine r_istore_n hg (L' := [(2, .int (s0 + s1)), (0, .ref this), (1, .int x1), (3, .int x3)]) dX12_stands_50 rfl (by decide) rfl ?_
  refine r_iinc hg 3 (v := (x3 + (nI 1))) (L' := [(3, .int (x3 + (nI 1))), (2, .int (s0 + s1)), (0, .ref this), (1, .int x1)]) dX12_stands_51 rfl (by rw [ci_1]) (by decide) rfl ?_
  refine r_goto hg 4 dX12_stands_54 (by decide) ?_
  refine r_sub hg [2, 3, 1, 0] rfl ?_
  exact hk4 _ _ h
def b_X12_stands_47 (this : Nat) (x1 : Int32) (I : qI) (k4 : Int32 → Int32 → Option (Int32)) (x3 : Int32) (s0 : Int32) (s2 : Int32) (s3 : Int32) : Option (Int32) :=
  q_b1 (q_rd I (this + 1) 3580 (s2 + s3)) fun v2 =>
  b_X12_stands_49 this x1 I k4 x3 s0 v2
set_option maxRecDepth 100000 in
set_option maxHeartbeats 4000000 in
theorem p_X12_stands_47 {l : Launch} {Γ : qC} {g : qG} {z : Int32} {this : Nat} {x1 : Int32} {X : qX} {I : qI} (hΓ : q_gm Γ) (hg : q_Ok l Γ RX12 cX12_stands 4 (q_rm 4 0 0) "stands" (some .int) g) (hr : q_Rt cX12_stands (some .int) (q_rm 4 0 0) (some (.int z), I, X) g) (hX : q_Lay X) (k_this : q_kd X this = some (14, 42)) {k4 : Int32 → Int32 → Option (Int32)} (hk4 : ∀ (x2 : Int32) (x3 : Int32), k4 x2 x3 = some z → g 0 0 4 [(0, .ref this), (1, .int x1), (2, .int x2), (3, .int x3)] [] I X) (x3 : Int32) (s0 : Int32) (s2 : Int32) (s3 : Int32) (h : b_X12_stands_47 this x1 I k4 x3 s0 s2 s3 = some z) : g 0 0 47 [(0, .ref this), (1, .int x1), (3, .int x3)] [.int s3, .int s2, .ref (this + 1), .int s0] I X := by
  unfold b_X12_stands_47 at h
  have e1 := ly_12_0 hX k_this
  refine r_iadd hg dX12_stands_47 ?_
  obtain ⟨v2, e3, h⟩ := q_b1_some h
  refine r_iald hg dX12_stands_48 e1.2 e3 ?_
  exact p_X12_stands_49 hΓ hg hr hX k_this hk4 _ _ _ h
def b_X12_stands_4 (this : Nat) (x1 : Int32) (I : qI) (k4 : Int32 → Int32 → Option (Int32)) (x2 : Int32) (x3 : Int32) : Option (Int32) :=
  q_b1 (q_rd I (this + 1) 3580 (nI 2)) fun v2 =>
  if v2 ≤ x3 then
    some (x2)
  else
    if x1 = 0 then
      q_b1 (f_X12_owedBy this x3 I) fun v10 =>
      b_X12_stands_49 this x1 I k4 x3 x2 v10
    else
      q_b1 (f_X12_manAt this x3) fun v7 =>
      if x1 = (nI 1) then
        b_X12_stands_47 this x1 I k4 x3 x2 v7 (nI 3)
      else
        b_X12_stands_47 this x1 I k4 x3 x2 v7 (nI 9)
set_option maxRecDepth 100000 in
set_option maxHeartbeats 4000000 in
theorem p_X12_stands_4 {l : Launch} {Γ : qC} {g : qG} {z : Int32} {this : Nat} {x1 : Int32} {X : qX} {I : qI} (hΓ : q_gm Γ) (hg : q_Ok l Γ RX12 cX12_stands 4 (q_rm 4 0 0) "stands" (some .int) g) (hr : q_Rt cX12_stands (some .int) (q_rm 4 0 0) (some (.int z), I, X) g) (hX : q_Lay X) (k_this : q_kd X this = some (14, 42)) {k4 : Int32 → Int32 → Option (Int32)} (hk4 : ∀ (x2 : Int32) (x3 : Int32), k4 x2 x3 = some z → g 0 0 4 [(0, .ref this), (1, .int x1), (2, .int x2), (3, .int x3)] [] I X) (x2 : Int32) (x3 : Int32) (h : b_X12_stands_4 this x1 I k4 x2 x3 = some z) : g 0 0 4 [(0, .ref this), (1, .int x1), (2, .int x2), (3, .int x3)] [] I X := by
  unfold b_X12_stands_4 at h
  refine r_iload_n hg 3 dX12_stands_4 rfl rfl ?_
  refine r_aload_n hg 0 dX12_stands_5 rfl rfl ?_
  have e1 := ly_12_0 hX k_this
  refine r_getR hg dX12_stands_6 fl_X12_7 k_this rfl e1.1 ?_
  refine r_iconst hg dX12_stands_9 ci_2 ?_
  obtain ⟨v2, e3, h⟩ := q_b1_some h
  refine r_iald hg dX12_stands_10 e1.2 e3 ?_
  refine r_icmp_ge hg 57 dX12_stands_11 (by decide) (fun c4 => ?_) (fun c4 => ?_)
  · rw [if_pos c4] at h
    refine r_iload_n hg 2 dX12_stands_57 rfl rfl ?_
    exact r_ireturn hr dX12_stands_58 ⟨Nat.zero_le _, Nat.zero_le _⟩ ⟨_, rfl, rfl⟩ (by cases h; rfl)
  · rw [if_neg c4] at h
    refine r_iload_n hg 2 dX12_stands_14 rfl rfl ?_
    refine r_iload_n hg 1 dX12_stands_15 rfl rfl ?_
    refine r_if_ne hg 27 dX12_stands_16 (by decide) (fun c5 => ?_) (fun c5 => ?_)
    · rw [if_neg c5] at h
      refine r_aload_n hg 0 dX12_stands_27 rfl rfl ?_
      have e6 := ly_12_0 hX k_this
      refine r_getR hg dX12_stands_28 fl_X12_7 k_this rfl e6.1 ?_
      refine r_aload_n hg 0 dX12_stands_31 rfl rfl ?_
      refine r_iload_n hg 3 dX12_stands_32 rfl rfl ?_
      obtain ⟨v7, e8, h⟩ := q_b1_some h
      refine r_cV1i hg dX12_stands_33 mt_X12_manAt ml_X12_68 mv_X12_manAt k_this (s_X12_manAt hΓ hX k_this e8) (q_room (Nat.le_of_ble_eq_true rfl) (Nat.le_of_ble_eq_true rfl)) ⟨Nat.zero_le _, Nat.zero_le _⟩ (Nat.le_of_ble_eq_true rfl) ?_
      refine r_iload_n hg 1 dX12_stands_36 rfl rfl ?_
      refine r_iconst hg dX12_stands_37 ci_1 ?_
      refine r_icmp_ne hg 45 dX12_stands_38 (by decide) (fun c9 => ?_) (fun c9 => ?_)
      · rw [if_neg c9] at h
        refine r_bipush hg dX12_stands_45 cb_9 ?_
        refine r_sub hg [0, 1, 3] rfl ?_
        exact p_X12_stands_47 hΓ hg hr hX k_this hk4 _ _ _ _ h
      · rw [if_pos (Classical.not_not.mp c9)] at h
        refine r_iconst hg dX12_stands_41 ci_3 ?_
        refine r_goto hg 47 dX12_stands_42 (by decide) ?_
        refine r_sub hg [0, 1, 3] rfl ?_
        exact p_X12_stands_47 hΓ hg hr hX k_this hk4 _ _ _ _ h
    · rw [if_pos (Classical.not_not.mp c5)] at h
      refine r_aload_n hg 0 dX12_stands_19 rfl rfl ?_
      refine r_iload_n hg 3 dX12_stands_20 rfl rfl ?_
      obtain ⟨v10, e11, h⟩ := q_b1_some h
      refine r_cV1i hg dX12_stands_21 mt_X12_owedBy ml_X12_118 mv_X12_owedBy k_this (s_X12_owedBy hΓ hX k_this e11) (q_room (Nat.le_of_ble_eq_true rfl) (Nat.le_of_ble_eq_true rfl)) ⟨Nat.zero_le _, Nat.zero_le _⟩ (Nat.le_of_ble_eq_true rfl) ?_
      refine r_goto hg 49 dX12_stands_24 (by decide) ?_
      refine r_sub hg [0, 1, 3] rfl ?_
      exact p_X12_stands_49 hΓ hg hr hX k_this hk4 _ _ _ h
theorem pl_X12_stands_4 {l : Launch} {Γ : qC} {g : qG} {z : Int32} {this : Nat} {x1 : Int32} {X : qX} {I : qI} (hΓ : q_gm Γ) (hg : q_Ok l Γ RX12 cX12_stands 4 (q_rm 4 0 0) "stands" (some .int) g) (hr : q_Rt cX12_stands (some .int) (q_rm 4 0 0) (some (.int z), I, X) g) (hX : q_Lay X) (k_this : q_kd X this = some (14, 42)) : ∀ (n : Nat) (x2 : Int32) (x3 : Int32), q_fix (fun _ _ => none) (b_X12_stands_4 this x1 I) n x2 x3 = some z → g 0 0 4 [(0, .ref this), (1, .int x1), (2, .int x2), (3, .int x3)] [] I X := by
  intro n
  induction n with
  | zero =>
    intro x2 x3 h
    cases (show (none : Option (Int32)) = some z from h)
  | succ n ih =>
    intro x2 x3 h
    exact p_X12_stands_4 hΓ hg hr hX k_this ih _ _ h
def f_X12_stands (this : Nat) (x1 : Int32) (I : qI) : Option (Int32) :=
  q_fix (fun _ _ => none) (b_X12_stands_4 this x1 I) q_fu (nI 0) (nI 0)
set_option maxRecDepth 100000 in
set_option maxHeartbeats 4000000 in
theorem s_X12_stands {l : Launch} {Γ : qC} (hΓ : q_gm Γ) {X : qX} (hX : q_Lay X) {this : Nat} {x1 : Int32} (k_this : q_kd X this = some (14, 42)) {I : qI} {z : Int32} (h : f_X12_stands this x1 I = some z) : q_Sem l Γ (q_rm 4 0 0) yX12_stands cX12_stands 4 (some .int) [.ref this, .int x1] I X (some (.int z), I, X) := by
  refine q_met (by decide) (Nat.le_of_ble_eq_true rfl) (fun g hg hr => ?_)
  unfold f_X12_stands at h
  show g 0 0 0 [(0, .ref this), (1, .int x1)] [] I X
  refine r_iconst hg dX12_stands_0 ci_0 ?_
  refine r_istore_n hg (L' := [(2, .int (nI 0)), (0, .ref this), (1, .int x1)]) dX12_stands_1 rfl (by decide) rfl ?_
  refine r_iconst hg dX12_stands_2 ci_0 ?_
  refine r_istore_n hg (L' := [(3, .int (nI 0)), (2, .int (nI 0)), (0, .ref this), (1, .int x1)]) dX12_stands_3 rfl (by decide) rfl ?_
  refine r_sub hg [2, 3, 1, 0] rfl ?_
  exact pl_X12_stands_4 hΓ hg hr hX k_this _ _ _ h

def b_X12_stopOf_29 (this : Nat) (x1 : Int32) (s0 : Int32) (I : qI) : Option (Int32 × qI) :=
  q_b1 (f_X12_held s0 (nI 0) (nI 9999)) fun v1 =>
  some (v1, I)
set_option maxRecDepth 100000 in
set_option maxHeartbeats 4000000 in
theorem p_X12_stopOf_29 {l : Launch} {Γ : qC} {g : qG} {z : Int32 × qI} {this : Nat} {x1 : Int32} {X : qX} (hΓ : q_gm Γ) (hg : q_Ok l Γ RX12 cX12_stopOf 3 (q_rm 4 0 0) "stopOf" (some .int) g) (hr : q_Rt cX12_stopOf (some .int) (q_rm 4 0 0) (some (.int z.1), z.2, X) g) (hX : q_Lay X) (k_this : q_kd X this = some (14, 42)) (s0 : Int32) (I : qI) (h : b_X12_stopOf_29 this x1 s0 I = some z) : g 0 0 29 [] [.int s0] I X := by
  unfold b_X12_stopOf_29 at h
  refine r_iconst hg dX12_stopOf_29 ci_0 ?_
  refine r_sipush hg dX12_stopOf_30 cs_9999 ?_
  obtain ⟨v1, e2, h⟩ := q_b1_some h
  refine r_cS3i hg dX12_stopOf_33 mt_X12_held ⟨ml_X12_325, mst_X12_held⟩ (s_X12_held hΓ hX e2) (q_room (Nat.le_of_ble_eq_true rfl) (Nat.le_of_ble_eq_true rfl)) ⟨Nat.zero_le _, Nat.zero_le _⟩ (Nat.le_of_ble_eq_true rfl) ?_
  exact r_ireturn hr dX12_stopOf_36 ⟨Nat.zero_le _, Nat.zero_le _⟩ ⟨_, rfl, rfl⟩ (by cases h; rfl)
def f_X12_stopOf (this : Nat) (x1 : Int32) (I : qI) : Option (Int32 × qI) :=
  q_b1 (f_X12_counts this (nI 1) I) fun v1 =>
  q_b1 (q_wr I (this + 8) 128 (nI 101) x1) fun I4 =>
  if 0 ≤ v1 then
    q_b2 (f_X12_worked this v1 I4) fun v7 I8 =>
    b_X12_stopOf_29 this x1 v7 I8
  else
    b_X12_stopOf_29 this x1 (nI 9999) I4
set_option maxRecDepth 100000 in
set_option maxHeartbeats 4000000 in
theorem s_X12_stopOf {l : Launch} {Γ : qC} (hΓ : q_gm Γ) {X : qX} (hX : q_Lay X) {this : Nat} {x1 : Int32} (k_this : q_kd X this = some (14, 42)) {I : qI} {z : Int32 × qI} (h : f_X12_stopOf this x1 I = some z) : q_Sem l Γ (q_rm 4 0 0) yX12_stopOf cX12_stopOf 3 (some .int) [.ref this, .int x1] I X (some (.int z.1), z.2, X) := by
  refine q_met (by decide) (Nat.le_of_ble_eq_true rfl) (fun g hg hr => ?_)
  unfold f_X12_stopOf at h
  show g 0 0 0 [(0, .ref this), (1, .int x1)] [] I X
  refine r_aload_n hg 0 dX12_stopOf_0 rfl rfl ?_
  refine r_iconst hg dX12_stopOf_1 ci_1 ?_
  obtain ⟨v1, e2, h⟩ := q_b1_some h
  refine r_cV1i hg dX12_stopOf_2 mt_X12_counts ml_X12_313 mv_X12_counts k_this (s_X12_counts hΓ hX k_this e2) (q_room (Nat.le_of_ble_eq_true rfl) (Nat.le_of_ble_eq_true rfl)) ⟨Nat.zero_le _, Nat.zero_le _⟩ (Nat.le_of_ble_eq_true rfl) ?_
  refine r_istore_n hg (L' := [(2, .int v1), (0, .ref this), (1, .int x1)]) dX12_stopOf_5 rfl (by decide) rfl ?_
  refine r_aload_n hg 1 dX12_stopOf_6 rfl rfl ?_
  have e3 := ly_12_26 hX k_this
  refine r_getR hg dX12_stopOf_7 fl_X12_31 k_this rfl e3.1 ?_
  refine r_bipush hg dX12_stopOf_10 cb_101 ?_
  refine r_iload_n hg 2 dX12_stopOf_12 rfl rfl ?_
  obtain ⟨I4, e5, h⟩ := q_b1_some h
  refine r_iast hg dX12_stopOf_13 e3.2 e5 ?_
  refine r_iload_n hg 0 dX12_stopOf_14 rfl rfl ?_
  refine r_if_ge hg 24 dX12_stopOf_15 (by decide) (fun c6 => ?_) (fun c6 => ?_)
  · rw [if_pos c6] at h
    refine r_aload_n hg 1 dX12_stopOf_24 rfl rfl ?_
    refine r_iload_n hg 0 dX12_stopOf_25 rfl rfl ?_
    obtain ⟨v7, I8, e9, h⟩ := q_b2_some h
    refine r_cV1i hg dX12_stopOf_26 mt_X12_worked ml_X12_322 mv_X12_worked k_this (s_X12_worked hΓ hX k_this e9) (q_room (Nat.le_of_ble_eq_true rfl) (Nat.le_of_ble_eq_true rfl)) ⟨Nat.zero_le _, Nat.zero_le _⟩ (Nat.le_of_ble_eq_true rfl) ?_
    refine r_sub hg [] rfl ?_
    exact p_X12_stopOf_29 hΓ hg hr hX k_this _ _ h
  · rw [if_neg c6] at h
    refine r_sipush hg dX12_stopOf_18 cs_9999 ?_
    refine r_goto hg 29 dX12_stopOf_21 (by decide) ?_
    refine r_sub hg [] rfl ?_
    exact p_X12_stopOf_29 hΓ hg hr hX k_this _ _ h

def b_X12_takes_64 (this : Nat) (x1 : Int32) (x2 : Int32) (x3 : Int32) (s1 : Int32) (s2 : Int32) (s3 : Int32) (I : qI) : Option (qI) :=
  q_b1 (q_wr I (this + 1) 3580 s1 (s2 + s3)) fun I2 =>
  q_b1 (f_X12_knows this x1 x2 I2) fun I4 =>
  some (I4)
set_option maxRecDepth 100000 in
set_option maxHeartbeats 4000000 in
theorem p_X12_takes_64 {l : Launch} {Γ : qC} {g : qG} {z : qI} {this : Nat} {x1 : Int32} {x2 : Int32} {x3 : Int32} {X : qX} (hΓ : q_gm Γ) (hg : q_Ok l Γ RX12 cX12_takes 5 (q_rm 4 0 0) "takes" none g) (hr : q_Rt cX12_takes none (q_rm 4 0 0) (none, z, X) g) (hX : q_Lay X) (k_this : q_kd X this = some (14, 42)) (s1 : Int32) (s2 : Int32) (s3 : Int32) (I : qI) (h : b_X12_takes_64 this x1 x2 x3 s1 s2 s3 I = some z) : g 0 0 64 [(0, .ref this), (1, .int x1), (2, .int x2)] [.int s3, .int s2, .int s1, .ref (this + 1)] I X := by
  unfold b_X12_takes_64 at h
  have e1 := ly_12_0 hX k_this
  refine r_iadd hg dX12_takes_64 ?_
  obtain ⟨I2, e3, h⟩ := q_b1_some h
  refine r_iast hg dX12_takes_65 e1.2 e3 ?_
  refine r_aload_n hg 0 dX12_takes_66 rfl rfl ?_
  refine r_iload_n hg 1 dX12_takes_67 rfl rfl ?_
  refine r_iload_n hg 2 dX12_takes_68 rfl rfl ?_
  obtain ⟨I4, e5, h⟩ := q_b1_some h
  refine r_cV2v hg dX12_takes_69 mt_X12_knows ml_X12_121 mv_X12_knows k_this (s_X12_knows hΓ hX k_this e5) (q_room (Nat.le_of_ble_eq_true rfl) (Nat.le_of_ble_eq_true rfl)) ⟨Nat.zero_le _, Nat.zero_le _⟩ (Nat.le_of_ble_eq_true rfl) ?_
  exact r_return hr dX12_takes_72 ⟨Nat.zero_le _, Nat.zero_le _⟩ rfl (by cases h; rfl)
def f_X12_takes (this : Nat) (x1 : Int32) (x2 : Int32) (x3 : Int32) (I : qI) : Option (qI) :=
  if x3 ≤ 0 then
    some (I)
  else
    q_b1 (f_X12_manAt this x1) fun v2 =>
    q_b1 (f_X12_shopAt this x2) fun v5 =>
    q_b1 (q_rd I (this + 1) 3580 (v5 + (nI 2))) fun v7 =>
    q_b1 (q_wr I (this + 1) 3580 (v5 + (nI 2)) (v7 - x3)) fun I9 =>
    q_b1 (q_rd I9 (this + 1) 3580 (v2 + (nI 3))) fun v12 =>
    q_b1 (q_wr I9 (this + 1) 3580 (v2 + (nI 3)) (v12 + x3)) fun I14 =>
    q_b1 (q_rd I14 (this + 1) 3580 (v2 + (nI 7))) fun v17 =>
    q_b1 (f_X12_isTown this x2 I14) fun v19 =>
    if v19 = 0 then
      b_X12_takes_64 this x1 x2 x3 (v2 + (nI 7)) v17 x3 I14
    else
      b_X12_takes_64 this x1 x2 x3 (v2 + (nI 7)) v17 (nI 0) I14
set_option maxRecDepth 100000 in
set_option maxHeartbeats 4000000 in
theorem s_X12_takes {l : Launch} {Γ : qC} (hΓ : q_gm Γ) {X : qX} (hX : q_Lay X) {this : Nat} {x1 : Int32} {x2 : Int32} {x3 : Int32} (k_this : q_kd X this = some (14, 42)) {I : qI} {z : qI} (h : f_X12_takes this x1 x2 x3 I = some z) : q_Sem l Γ (q_rm 4 0 0) yX12_takes cX12_takes 5 none [.ref this, .int x1, .int x2, .int x3] I X (none, z, X) := by
  refine q_met (by decide) (Nat.le_of_ble_eq_true rfl) (fun g hg hr => ?_)
  unfold f_X12_takes at h
  show g 0 0 0 [(0, .ref this), (1, .int x1), (2, .int x2), (3, .int x3)] [] I X
  refine r_iload_n hg 3 dX12_takes_0 rfl rfl ?_
  refine r_if_le hg 72 dX12_takes_1 (by decide) (fun c1 => ?_) (fun c1 => ?_)
  · rw [if_pos c1] at h
    exact r_return hr dX12_takes_72 ⟨Nat.zero_le _, Nat.zero_le _⟩ rfl (by cases h; rfl)
  · rw [if_neg c1] at h
    refine r_aload_n hg 0 dX12_takes_4 rfl rfl ?_
    refine r_iload_n hg 1 dX12_takes_5 rfl rfl ?_
    obtain ⟨v2, e3, h⟩ := q_b1_some h
    refine r_cV1i hg dX12_takes_6 mt_X12_manAt ml_X12_68 mv_X12_manAt k_this (s_X12_manAt hΓ hX k_this e3) (q_room (Nat.le_of_ble_eq_true rfl) (Nat.le_of_ble_eq_true rfl)) ⟨Nat.zero_le _, Nat.zero_le _⟩ (Nat.le_of_ble_eq_true rfl) ?_
    refine r_istore hg (L' := [(4, .int v2), (0, .ref this), (1, .int x1), (2, .int x2), (3, .int x3)]) dX12_takes_9 (by decide) rfl ?_
    refine r_aload_n hg 1 dX12_takes_11 rfl rfl ?_
    have e4 := ly_12_0 hX k_this
    refine r_getR hg dX12_takes_12 fl_X12_7 k_this rfl e4.1 ?_
    refine r_aload_n hg 1 dX12_takes_15 rfl rfl ?_
    refine r_iload_n hg 3 dX12_takes_16 rfl rfl ?_
    obtain ⟨v5, e6, h⟩ := q_b1_some h
    refine r_cV1i hg dX12_takes_17 mt_X12_shopAt ml_X12_72 mv_X12_shopAt k_this (s_X12_shopAt hΓ hX k_this e6) (q_room (Nat.le_of_ble_eq_true rfl) (Nat.le_of_ble_eq_true rfl)) ⟨Nat.zero_le _, Nat.zero_le _⟩ (Nat.le_of_ble_eq_true rfl) ?_
    refine r_iconst hg dX12_takes_20 ci_2 ?_
    refine r_iadd hg dX12_takes_21 ?_
    refine r_dup2 hg dX12_takes_22 rfl rfl ?_
    obtain ⟨v7, e8, h⟩ := q_b1_some h
    refine r_iald hg dX12_takes_23 e4.2 e8 ?_
    refine r_iload_n hg 4 dX12_takes_24 rfl rfl ?_
    refine r_isub hg dX12_takes_25 ?_
    obtain ⟨I9, e10, h⟩ := q_b1_some h
    refine r_iast hg dX12_takes_26 e4.2 e10 ?_
    refine r_aload_n hg 1 dX12_takes_27 rfl rfl ?_
    have e11 := ly_12_0 hX k_this
    refine r_getR hg dX12_takes_28 fl_X12_7 k_this rfl e11.1 ?_
    refine r_iload hg 0 dX12_takes_31 rfl ?_
    refine r_iconst hg dX12_takes_33 ci_3 ?_
    refine r_iadd hg dX12_takes_34 ?_
    refine r_dup2 hg dX12_takes_35 rfl rfl ?_
    obtain ⟨v12, e13, h⟩ := q_b1_some h
    refine r_iald hg dX12_takes_36 e11.2 e13 ?_
    refine r_iload_n hg 4 dX12_takes_37 rfl rfl ?_
    refine r_iadd hg dX12_takes_38 ?_
    obtain ⟨I14, e15, h⟩ := q_b1_some h
    refine r_iast hg dX12_takes_39 e11.2 e15 ?_
    refine r_aload_n hg 1 dX12_takes_40 rfl rfl ?_
    have e16 := ly_12_0 hX k_this
    refine r_getR hg dX12_takes_41 fl_X12_7 k_this rfl e16.1 ?_
    refine r_iload hg 0 dX12_takes_44 rfl ?_
    refine r_bipush hg dX12_takes_46 cb_7 ?_
    refine r_iadd hg dX12_takes_48 ?_
    refine r_dup2 hg dX12_takes_49 rfl rfl ?_
    obtain ⟨v17, e18, h⟩ := q_b1_some h
    refine r_iald hg dX12_takes_50 e16.2 e18 ?_
    refine r_aload_n hg 1 dX12_takes_51 rfl rfl ?_
    refine r_iload_n hg 3 dX12_takes_52 rfl rfl ?_
    obtain ⟨v19, e20, h⟩ := q_b1_some h
    refine r_cV1i hg dX12_takes_53 mt_X12_isTown ml_X12_132 mv_X12_isTown k_this (s_X12_isTown hΓ hX k_this e20) (q_room (Nat.le_of_ble_eq_true rfl) (Nat.le_of_ble_eq_true rfl)) ⟨Nat.zero_le _, Nat.zero_le _⟩ (Nat.le_of_ble_eq_true rfl) ?_
    refine r_if_eq hg 63 dX12_takes_56 (by decide) (fun c21 => ?_) (fun c21 => ?_)
    · rw [if_pos c21] at h
      refine r_iload_n hg 4 dX12_takes_63 rfl rfl ?_
      refine r_sub hg [1, 2, 3] rfl ?_
      exact p_X12_takes_64 hΓ hg hr hX k_this _ _ _ _ h
    · rw [if_neg c21] at h
      refine r_iconst hg dX12_takes_59 ci_0 ?_
      refine r_goto hg 64 dX12_takes_60 (by decide) ?_
      refine r_sub hg [1, 2, 3] rfl ?_
      exact p_X12_takes_64 hΓ hg hr hX k_this _ _ _ _ h

def f_X12_told (this : Nat) (x1 : Int32) (x2 : Int32) (I : qI) : Option (Int32) :=
  q_b1 (f_X12_isDue this x1 I) fun v1 =>
  if v1 = 0 then
    some ((-1000000001))
  else
    q_b1 (f_X12_isIn x2.toInt64 (0 : Int64) (7 : Int64)) fun v4 =>
    if v4 = 0 then
      some ((-1000000001))
    else
      q_b1 (f_X12_dueAt this x1) fun v8 =>
      q_b1 (q_rd I (this + 1) 3580 (v8 + x2)) fun v10 =>
      if x2 = (nI 6) then
        q_b1 (f_X12_orNone v10) fun v13 =>
        some (v13)
      else
        some (v10)
set_option maxRecDepth 100000 in
set_option maxHeartbeats 4000000 in
theorem s_X12_told {l : Launch} {Γ : qC} (hΓ : q_gm Γ) {X : qX} (hX : q_Lay X) {this : Nat} {x1 : Int32} {x2 : Int32} (k_this : q_kd X this = some (14, 42)) {I : qI} {z : Int32} (h : f_X12_told this x1 x2 I = some z) : q_Sem l Γ (q_rm 4 0 0) yX12_told cX12_told 4 (some .int) [.ref this, .int x1, .int x2] I X (some (.int z), I, X) := by
  refine q_met (by decide) (Nat.le_of_ble_eq_true rfl) (fun g hg hr => ?_)
  unfold f_X12_told at h
  show g 0 0 0 [(0, .ref this), (1, .int x1), (2, .int x2)] [] I X
  refine r_aload_n hg 0 dX12_told_0 rfl rfl ?_
  refine r_iload_n hg 1 dX12_told_1 rfl rfl ?_
  obtain ⟨v1, e2, h⟩ := q_b1_some h
  refine r_cV1i hg dX12_told_2 mt_X12_isDue ml_X12_353 mv_X12_isDue k_this (s_X12_isDue hΓ hX k_this e2) (q_room (Nat.le_of_ble_eq_true rfl) (Nat.le_of_ble_eq_true rfl)) ⟨Nat.zero_le _, Nat.zero_le _⟩ (Nat.le_of_ble_eq_true rfl) ?_
  refine r_if_eq hg 20 dX12_told_5 (by decide) (fun c3 => ?_) (fun c3 => ?_)
  · rw [if_pos c3] at h
    refine r_ldc hg dX12_told_20 kc_X12_90 ?_
    exact r_ireturn hr dX12_told_22 ⟨Nat.zero_le _, Nat.zero_le _⟩ ⟨_, rfl, rfl⟩ (by cases h; rfl)
  · rw [if_neg c3] at h
    refine r_iload_n hg 2 dX12_told_8 rfl rfl ?_
    refine r_i2l hg dX12_told_9 ?_
    refine r_lconst hg dX12_told_10 lc_0 ?_
    refine r_ldc2 hg dX12_told_11 kl_X12_62 ?_
    obtain ⟨v4, e5, h⟩ := q_b1_some h
    refine r_cS3i hg dX12_told_14 mt_X12_isIn ⟨ml_X12_64, mst_X12_isIn⟩ (s_X12_isIn hΓ hX e5) (q_room (Nat.le_of_ble_eq_true rfl) (Nat.le_of_ble_eq_true rfl)) ⟨Nat.zero_le _, Nat.zero_le _⟩ (Nat.le_of_ble_eq_true rfl) ?_
    refine r_if_ne hg 23 dX12_told_17 (by decide) (fun c6 => ?_) (fun c6 => ?_)
    · rw [if_neg c6] at h
      refine r_aload_n hg 0 dX12_told_23 rfl rfl ?_
      have e7 := ly_12_0 hX k_this
      refine r_getR hg dX12_told_24 fl_X12_7 k_this rfl e7.1 ?_
      refine r_aload_n hg 0 dX12_told_27 rfl rfl ?_
      refine r_iload_n hg 1 dX12_told_28 rfl rfl ?_
      obtain ⟨v8, e9, h⟩ := q_b1_some h
      refine r_cV1i hg dX12_told_29 mt_X12_dueAt ml_X12_75 mv_X12_dueAt k_this (s_X12_dueAt hΓ hX k_this e9) (q_room (Nat.le_of_ble_eq_true rfl) (Nat.le_of_ble_eq_true rfl)) ⟨Nat.zero_le _, Nat.zero_le _⟩ (Nat.le_of_ble_eq_true rfl) ?_
      refine r_iload_n hg 2 dX12_told_32 rfl rfl ?_
      refine r_iadd hg dX12_told_33 ?_
      obtain ⟨v10, e11, h⟩ := q_b1_some h
      refine r_iald hg dX12_told_34 e7.2 e11 ?_
      refine r_istore_n hg (L' := [(3, .int v10), (0, .ref this), (1, .int x1), (2, .int x2)]) dX12_told_35 rfl (by decide) rfl ?_
      refine r_iload_n hg 3 dX12_told_36 rfl rfl ?_
      refine r_bipush hg dX12_told_37 cb_6 ?_
      refine r_icmp_ne hg 49 dX12_told_39 (by decide) (fun c12 => ?_) (fun c12 => ?_)
      · rw [if_neg c12] at h
        refine r_iload_n hg 0 dX12_told_49 rfl rfl ?_
        exact r_ireturn hr dX12_told_50 ⟨Nat.zero_le _, Nat.zero_le _⟩ ⟨_, rfl, rfl⟩ (by cases h; rfl)
      · rw [if_pos (Classical.not_not.mp c12)] at h
        refine r_iload_n hg 0 dX12_told_42 rfl rfl ?_
        obtain ⟨v13, e14, h⟩ := q_b1_some h
        refine r_cS1i hg dX12_told_43 mt_X12_orNone ⟨ml_X12_316, mst_X12_orNone⟩ (s_X12_orNone hΓ hX e14) (q_room (Nat.le_of_ble_eq_true rfl) (Nat.le_of_ble_eq_true rfl)) ⟨Nat.zero_le _, Nat.zero_le _⟩ (Nat.le_of_ble_eq_true rfl) ?_
        refine r_goto hg 50 dX12_told_46 (by decide) ?_
        exact r_ireturn hr dX12_told_50 ⟨Nat.zero_le _, Nat.zero_le _⟩ ⟨_, rfl, rfl⟩ (by cases h; rfl)
    · rw [if_pos (Classical.not_not.mp c6)] at h
      refine r_ldc hg dX12_told_20 kc_X12_90 ?_
      exact r_ireturn hr dX12_told_22 ⟨Nat.zero_le _, Nat.zero_le _⟩ ⟨_, rfl, rfl⟩ (by cases h; rfl)

def b_X12_wageOf_35 (this : Nat) (x1 : Int32) (x2 : Int32) (s0 : Int32) (I : qI) : Option (Int32 × qI) :=
  q_b1 (f_X12_held s0 (nI 0) (nI 9999)) fun v1 =>
  some (v1, I)
set_option maxRecDepth 100000 in
set_option maxHeartbeats 4000000 in
theorem p_X12_wageOf_35 {l : Launch} {Γ : qC} {g : qG} {z : Int32 × qI} {this : Nat} {x1 : Int32} {x2 : Int32} {X : qX} (hΓ : q_gm Γ) (hg : q_Ok l Γ RX12 cX12_wageOf 4 (q_rm 4 0 0) "wageOf" (some .int) g) (hr : q_Rt cX12_wageOf (some .int) (q_rm 4 0 0) (some (.int z.1), z.2, X) g) (hX : q_Lay X) (k_this : q_kd X this = some (14, 42)) (s0 : Int32) (I : qI) (h : b_X12_wageOf_35 this x1 x2 s0 I = some z) : g 0 0 35 [] [.int s0] I X := by
  unfold b_X12_wageOf_35 at h
  refine r_iconst hg dX12_wageOf_35 ci_0 ?_
  refine r_sipush hg dX12_wageOf_36 cs_9999 ?_
  obtain ⟨v1, e2, h⟩ := q_b1_some h
  refine r_cS3i hg dX12_wageOf_39 mt_X12_held ⟨ml_X12_325, mst_X12_held⟩ (s_X12_held hΓ hX e2) (q_room (Nat.le_of_ble_eq_true rfl) (Nat.le_of_ble_eq_true rfl)) ⟨Nat.zero_le _, Nat.zero_le _⟩ (Nat.le_of_ble_eq_true rfl) ?_
  exact r_ireturn hr dX12_wageOf_42 ⟨Nat.zero_le _, Nat.zero_le _⟩ ⟨_, rfl, rfl⟩ (by cases h; rfl)
def f_X12_wageOf (this : Nat) (x1 : Int32) (x2 : Int32) (I : qI) : Option (Int32 × qI) :=
  q_b1 (f_X12_counts this (nI 0) I) fun v1 =>
  q_b1 (q_wr I (this + 8) 128 (nI 116) x1) fun I4 =>
  q_b1 (q_wr I4 (this + 8) 128 (nI 115) x2) fun I7 =>
  if 0 ≤ v1 then
    q_b2 (f_X12_worked this v1 I7) fun v10 I11 =>
    b_X12_wageOf_35 this x1 x2 v10 I11
  else
    b_X12_wageOf_35 this x1 x2 x1 I7
set_option maxRecDepth 100000 in
set_option maxHeartbeats 4000000 in
theorem s_X12_wageOf {l : Launch} {Γ : qC} (hΓ : q_gm Γ) {X : qX} (hX : q_Lay X) {this : Nat} {x1 : Int32} {x2 : Int32} (k_this : q_kd X this = some (14, 42)) {I : qI} {z : Int32 × qI} (h : f_X12_wageOf this x1 x2 I = some z) : q_Sem l Γ (q_rm 4 0 0) yX12_wageOf cX12_wageOf 4 (some .int) [.ref this, .int x1, .int x2] I X (some (.int z.1), z.2, X) := by
  refine q_met (by decide) (Nat.le_of_ble_eq_true rfl) (fun g hg hr => ?_)
  unfold f_X12_wageOf at h
  show g 0 0 0 [(0, .ref this), (1, .int x1), (2, .int x2)] [] I X
  refine r_aload_n hg 0 dX12_wageOf_0 rfl rfl ?_
  refine r_iconst hg dX12_wageOf_1 ci_0 ?_
  obtain ⟨v1, e2, h⟩ := q_b1_some h
  refine r_cV1i hg dX12_wageOf_2 mt_X12_counts ml_X12_313 mv_X12_counts k_this (s_X12_counts hΓ hX k_this e2) (q_room (Nat.le_of_ble_eq_true rfl) (Nat.le_of_ble_eq_true rfl)) ⟨Nat.zero_le _, Nat.zero_le _⟩ (Nat.le_of_ble_eq_true rfl) ?_
  refine r_istore_n hg (L' := [(3, .int v1), (0, .ref this), (1, .int x1), (2, .int x2)]) dX12_wageOf_5 rfl (by decide) rfl ?_
  refine r_aload_n hg 1 dX12_wageOf_6 rfl rfl ?_
  have e3 := ly_12_26 hX k_this
  refine r_getR hg dX12_wageOf_7 fl_X12_31 k_this rfl e3.1 ?_
  refine r_bipush hg dX12_wageOf_10 cb_116 ?_
  refine r_iload_n hg 2 dX12_wageOf_12 rfl rfl ?_
  obtain ⟨I4, e5, h⟩ := q_b1_some h
  refine r_iast hg dX12_wageOf_13 e3.2 e5 ?_
  refine r_aload_n hg 1 dX12_wageOf_14 rfl rfl ?_
  have e6 := ly_12_26 hX k_this
  refine r_getR hg dX12_wageOf_15 fl_X12_31 k_this rfl e6.1 ?_
  refine r_bipush hg dX12_wageOf_18 cb_115 ?_
  refine r_iload_n hg 3 dX12_wageOf_20 rfl rfl ?_
  obtain ⟨I7, e8, h⟩ := q_b1_some h
  refine r_iast hg dX12_wageOf_21 e6.2 e8 ?_
  refine r_iload_n hg 0 dX12_wageOf_22 rfl rfl ?_
  refine r_if_ge hg 30 dX12_wageOf_23 (by decide) (fun c9 => ?_) (fun c9 => ?_)
  · rw [if_pos c9] at h
    refine r_aload_n hg 1 dX12_wageOf_30 rfl rfl ?_
    refine r_iload_n hg 0 dX12_wageOf_31 rfl rfl ?_
    obtain ⟨v10, I11, e12, h⟩ := q_b2_some h
    refine r_cV1i hg dX12_wageOf_32 mt_X12_worked ml_X12_322 mv_X12_worked k_this (s_X12_worked hΓ hX k_this e12) (q_room (Nat.le_of_ble_eq_true rfl) (Nat.le_of_ble_eq_true rfl)) ⟨Nat.zero_le _, Nat.zero_le _⟩ (Nat.le_of_ble_eq_true rfl) ?_
    refine r_sub hg [] rfl ?_
    exact p_X12_wageOf_35 hΓ hg hr hX k_this _ _ h
  · rw [if_neg c9] at h
    refine r_iload_n hg 2 dX12_wageOf_26 rfl rfl ?_
    refine r_goto hg 35 dX12_wageOf_27 (by decide) ?_
    refine r_sub hg [] rfl ?_
    exact p_X12_wageOf_35 hΓ hg hr hX k_this _ _ h

def f_X12_why (this : Nat) (x1 : Int32) (I : qI) : Option (Int32) :=
  q_b1 (f_X12_isIn x1.toInt64 (0 : Int64) (6 : Int64)) fun v1 =>
  if v1 = 0 then
    some ((-1000000001))
  else
    q_b1 (f_X12_counts this x1 I) fun v4 =>
    q_b1 (f_X12_orNone v4) fun v6 =>
    some (v6)
set_option maxRecDepth 100000 in
set_option maxHeartbeats 4000000 in
theorem s_X12_why {l : Launch} {Γ : qC} (hΓ : q_gm Γ) {X : qX} (hX : q_Lay X) {this : Nat} {x1 : Int32} (k_this : q_kd X this = some (14, 42)) {I : qI} {z : Int32} (h : f_X12_why this x1 I = some z) : q_Sem l Γ (q_rm 4 0 0) yX12_why cX12_why 2 (some .int) [.ref this, .int x1] I X (some (.int z), I, X) := by
  refine q_met (by decide) (Nat.le_of_ble_eq_true rfl) (fun g hg hr => ?_)
  unfold f_X12_why at h
  show g 0 0 0 [(0, .ref this), (1, .int x1)] [] I X
  refine r_iload_n hg 1 dX12_why_0 rfl rfl ?_
  refine r_i2l hg dX12_why_1 ?_
  refine r_lconst hg dX12_why_2 lc_0 ?_
  refine r_ldc2 hg dX12_why_3 kl_X12_311 ?_
  obtain ⟨v1, e2, h⟩ := q_b1_some h
  refine r_cS3i hg dX12_why_6 mt_X12_isIn ⟨ml_X12_64, mst_X12_isIn⟩ (s_X12_isIn hΓ hX e2) (q_room (Nat.le_of_ble_eq_true rfl) (Nat.le_of_ble_eq_true rfl)) ⟨Nat.zero_le _, Nat.zero_le _⟩ (Nat.le_of_ble_eq_true rfl) ?_
  refine r_if_eq hg 23 dX12_why_9 (by decide) (fun c3 => ?_) (fun c3 => ?_)
  · rw [if_pos c3] at h
    refine r_ldc hg dX12_why_23 kc_X12_90 ?_
    exact r_ireturn hr dX12_why_25 ⟨Nat.zero_le _, Nat.zero_le _⟩ ⟨_, rfl, rfl⟩ (by cases h; rfl)
  · rw [if_neg c3] at h
    refine r_aload_n hg 0 dX12_why_12 rfl rfl ?_
    refine r_iload_n hg 1 dX12_why_13 rfl rfl ?_
    obtain ⟨v4, e5, h⟩ := q_b1_some h
    refine r_cV1i hg dX12_why_14 mt_X12_counts ml_X12_313 mv_X12_counts k_this (s_X12_counts hΓ hX k_this e5) (q_room (Nat.le_of_ble_eq_true rfl) (Nat.le_of_ble_eq_true rfl)) ⟨Nat.zero_le _, Nat.zero_le _⟩ (Nat.le_of_ble_eq_true rfl) ?_
    obtain ⟨v6, e7, h⟩ := q_b1_some h
    refine r_cS1i hg dX12_why_17 mt_X12_orNone ⟨ml_X12_316, mst_X12_orNone⟩ (s_X12_orNone hΓ hX e7) (q_room (Nat.le_of_ble_eq_true rfl) (Nat.le_of_ble_eq_true rfl)) ⟨Nat.zero_le _, Nat.zero_le _⟩ (Nat.le_of_ble_eq_true rfl) ?_
    refine r_goto hg 25 dX12_why_20 (by decide) ?_
    exact r_ireturn hr dX12_why_25 ⟨Nat.zero_le _, Nat.zero_le _⟩ ⟨_, rfl, rfl⟩ (by cases h; rfl)

def f_X12_bars (this : Nat) (x1 : Int32) (x2 : Int32) (I : qI) : Option (Int32 × qI) :=
  q_b2 (f_X12_actBy this x1 (x2 / (nI 12)) (q_rem (x2 / (nI 3)) (nI 4)) (q_rem x2 (nI 3)) I) fun v1 I2 =>
  if v1 = 0 then
    some ((nI 0), I2)
  else
    some ((nI 1), I2)
set_option maxRecDepth 100000 in
set_option maxHeartbeats 4000000 in
theorem s_X12_bars {l : Launch} {Γ : qC} (hΓ : q_gm Γ) {X : qX} (hX : q_Lay X) {this : Nat} {x1 : Int32} {x2 : Int32} (k_this : q_kd X this = some (14, 42)) {I : qI} {z : Int32 × qI} (h : f_X12_bars this x1 x2 I = some z) : q_Sem l Γ (q_rm 5 0 0) yX12_bars cX12_bars 3 (some .boolean) [.ref this, .int x1, .int x2] I X (some (.int z.1), z.2, X) := by
  refine q_met (by decide) (Nat.le_of_ble_eq_true rfl) (fun g hg hr => ?_)
  unfold f_X12_bars at h
  show g 0 0 0 [(0, .ref this), (1, .int x1), (2, .int x2)] [] I X
  refine r_aload_n hg 0 dX12_bars_0 rfl rfl ?_
  refine r_iload_n hg 1 dX12_bars_1 rfl rfl ?_
  refine r_iload_n hg 2 dX12_bars_2 rfl rfl ?_
  refine r_bipush hg dX12_bars_3 cb_12 ?_
  refine r_idiv hg dX12_bars_5 nz_12 ?_
  refine r_iload_n hg 2 dX12_bars_6 rfl rfl ?_
  refine r_iconst hg dX12_bars_7 ci_3 ?_
  refine r_idiv hg dX12_bars_8 nz_3 ?_
  refine r_iconst hg dX12_bars_9 ci_4 ?_
  refine r_iremq hg dX12_bars_10 nz_4 ?_
  refine r_iload_n hg 2 dX12_bars_11 rfl rfl ?_
  refine r_iconst hg dX12_bars_12 ci_3 ?_
  refine r_iremq hg dX12_bars_13 nz_3 ?_
  obtain ⟨v1, I2, e3, h⟩ := q_b2_some h
  refine r_cV4i hg dX12_bars_14 mt_X12_actBy ml_X12_341 mv_X12_actBy k_this (s_X12_actBy hΓ hX k_this e3) (q_room (Nat.le_of_ble_eq_true rfl) (Nat.le_of_ble_eq_true rfl)) ⟨Nat.zero_le _, Nat.zero_le _⟩ (Nat.le_of_ble_eq_true rfl) ?_
  refine r_if_eq hg 24 dX12_bars_17 (by decide) (fun c4 => ?_) (fun c4 => ?_)
  · rw [if_pos c4] at h
    refine r_iconst hg dX12_bars_24 ci_0 ?_
    exact r_ireturn hr dX12_bars_25 ⟨Nat.zero_le _, Nat.zero_le _⟩ ⟨_, rfl, bz_0.1⟩ (by cases h; rfl)
  · rw [if_neg c4] at h
    refine r_iconst hg dX12_bars_20 ci_1 ?_
    refine r_goto hg 25 dX12_bars_21 (by decide) ?_
    exact r_ireturn hr dX12_bars_25 ⟨Nat.zero_le _, Nat.zero_le _⟩ ⟨_, rfl, bz_1.1⟩ (by cases h; rfl)

def b_X12_buys_282 (this : Nat) (x1 : Int32) (k192 : Int32 → Int32 → qI → Option (qI)) (x2 : Int32) (x4 : Int32) (I : qI) : Option (qI) :=
  k192 x2 (x4 + (nI 1)) I
set_option maxRecDepth 100000 in
set_option maxHeartbeats 4000000 in
theorem p_X12_buys_282 {l : Launch} {Γ : qC} {g : qG} {z : qI} {this : Nat} {x1 : Int32} {X : qX} (hΓ : q_gm Γ) (hg : q_Ok l Γ RX12 cX12_buys 6 (q_rm 5 0 0) "buys" none g) (hr : q_Rt cX12_buys none (q_rm 5 0 0) (none, z, X) g) (hX : q_Lay X) (k_this : q_kd X this = some (14, 42)) {k192 : Int32 → Int32 → qI → Option (qI)} (hk192 : ∀ (x2 : Int32) (x4 : Int32) (I : qI), k192 x2 x4 I = some z → g 0 0 192 [(0, .ref this), (1, .int x1), (2, .int x2), (4, .int x4)] [] I X) (x2 : Int32) (x4 : Int32) (I : qI) (h : b_X12_buys_282 this x1 k192 x2 x4 I = some z) : g 0 0 282 [(0, .ref this), (1, .int x1), (2, .int x2), (4, .int x4)] [] I X := by
  unfold b_X12_buys_282 at h
  refine r_iinc hg 3 (v := (x4 + (nI 1))) (L' := [(4, .int (x4 + (nI 1))), (0, .ref this), (1, .int x1), (2, .int x2)]) dX12_buys_282 rfl (by rw [ci_1]) (by decide) rfl ?_
  refine r_goto hg 192 dX12_buys_285 (by decide) ?_
  refine r_sub hg [1, 2, 3, 0] rfl ?_
  exact hk192 _ _ _ h
def b_X12_buys_192 (this : Nat) (x1 : Int32) (k192 : Int32 → Int32 → qI → Option (qI)) (x2 : Int32) (x4 : Int32) (I : qI) : Option (qI) :=
  q_b1 (q_rd I (this + 1) 3580 (nI 1)) fun v2 =>
  if v2 ≤ x4 then
    some (I)
  else
    q_b1 (f_X12_isTown this x4 I) fun v5 =>
    if v5 = 0 then
      q_b1 (q_rd I (this + 1) 3580 (nI 7)) fun v9 =>
      q_b1 (f_X12_owedBy this x1 I) fun v11 =>
      q_b1 (f_X12_loaves this x1 x4 (v9 - v11) I) fun v13 =>
      q_b1 (q_rd I (this + 1) 3580 (x2 + (nI 11))) fun v17 =>
      q_b1 (f_X12_dueAt this v17) fun v19 =>
      q_b1 (q_rd I (this + 1) 3580 (v19 + (nI 2))) fun v21 =>
      q_b1 (f_X12_shopAt this x4) fun v24 =>
      q_b1 (q_rd I (this + 1) 3580 (v24 + (nI 1))) fun v26 =>
      q_b1 (q_wr I (this + 1) 3580 (v19 + (nI 2)) (v21 + (v13 * v26))) fun I28 =>
      q_b1 (f_X12_takes this x1 x4 v13 I28) fun I30 =>
      b_X12_buys_282 this x1 k192 x2 x4 I30
    else
      b_X12_buys_282 this x1 k192 x2 x4 I
set_option maxRecDepth 100000 in
set_option maxHeartbeats 4000000 in
theorem p_X12_buys_192 {l : Launch} {Γ : qC} {g : qG} {z : qI} {this : Nat} {x1 : Int32} {X : qX} (hΓ : q_gm Γ) (hg : q_Ok l Γ RX12 cX12_buys 6 (q_rm 5 0 0) "buys" none g) (hr : q_Rt cX12_buys none (q_rm 5 0 0) (none, z, X) g) (hX : q_Lay X) (k_this : q_kd X this = some (14, 42)) {k192 : Int32 → Int32 → qI → Option (qI)} (hk192 : ∀ (x2 : Int32) (x4 : Int32) (I : qI), k192 x2 x4 I = some z → g 0 0 192 [(0, .ref this), (1, .int x1), (2, .int x2), (4, .int x4)] [] I X) (x2 : Int32) (x4 : Int32) (I : qI) (h : b_X12_buys_192 this x1 k192 x2 x4 I = some z) : g 0 0 192 [(0, .ref this), (1, .int x1), (2, .int x2), (4, .int x4)] [] I X := by
  unfold b_X12_buys_192 at h
  refine r_iload hg 3 dX12_buys_192 rfl ?_
  refine r_aload_n hg 0 dX12_buys_194 rfl rfl ?_
  have e1 := ly_12_0 hX k_this
  refine r_getR hg dX12_buys_195 fl_X12_7 k_this rfl e1.1 ?_
  refine r_iconst hg dX12_buys_198 ci_1 ?_
  obtain ⟨v2, e3, h⟩ := q_b1_some h
  refine r_iald hg dX12_buys_199 e1.2 e3 ?_
  refine r_icmp_ge hg 288 dX12_buys_200 (by decide) (fun c4 => ?_) (fun c4 => ?_)
  · rw [if_pos c4] at h
    exact r_return hr dX12_buys_288 ⟨Nat.zero_le _, Nat.zero_le _⟩ rfl (by cases h; rfl)
  · rw [if_neg c4] at h
    refine r_aload_n hg 0 dX12_buys_203 rfl rfl ?_
    refine r_iload hg 3 dX12_buys_204 rfl ?_
    obtain ⟨v5, e6, h⟩ := q_b1_some h
    refine r_cV1i hg dX12_buys_206 mt_X12_isTown ml_X12_132 mv_X12_isTown k_this (s_X12_isTown hΓ hX k_this e6) (q_room (Nat.le_of_ble_eq_true rfl) (Nat.le_of_ble_eq_true rfl)) ⟨Nat.zero_le _, Nat.zero_le _⟩ (Nat.le_of_ble_eq_true rfl) ?_
    refine r_if_ne hg 282 dX12_buys_209 (by decide) (fun c7 => ?_) (fun c7 => ?_)
    · rw [if_neg c7] at h
      exact p_X12_buys_282 hΓ hg hr hX k_this hk192 _ _ _ h
    · rw [if_pos (Classical.not_not.mp c7)] at h
      refine r_aload_n hg 0 dX12_buys_212 rfl rfl ?_
      refine r_iload_n hg 1 dX12_buys_213 rfl rfl ?_
      refine r_iload hg 3 dX12_buys_214 rfl ?_
      refine r_aload_n hg 0 dX12_buys_216 rfl rfl ?_
      have e8 := ly_12_0 hX k_this
      refine r_getR hg dX12_buys_217 fl_X12_7 k_this rfl e8.1 ?_
      refine r_bipush hg dX12_buys_220 cb_7 ?_
      obtain ⟨v9, e10, h⟩ := q_b1_some h
      refine r_iald hg dX12_buys_222 e8.2 e10 ?_
      refine r_aload_n hg 0 dX12_buys_223 rfl rfl ?_
      refine r_iload_n hg 1 dX12_buys_224 rfl rfl ?_
      obtain ⟨v11, e12, h⟩ := q_b1_some h
      refine r_cV1i hg dX12_buys_225 mt_X12_owedBy ml_X12_118 mv_X12_owedBy k_this (s_X12_owedBy hΓ hX k_this e12) (q_room (Nat.le_of_ble_eq_true rfl) (Nat.le_of_ble_eq_true rfl)) ⟨Nat.zero_le _, Nat.zero_le _⟩ (Nat.le_of_ble_eq_true rfl) ?_
      refine r_isub hg dX12_buys_228 ?_
      obtain ⟨v13, e14, h⟩ := q_b1_some h
      refine r_cV3i hg dX12_buys_229 mt_X12_loaves ml_X12_141 mv_X12_loaves k_this (s_X12_loaves hΓ hX k_this e14) (q_room (Nat.le_of_ble_eq_true rfl) (Nat.le_of_ble_eq_true rfl)) ⟨Nat.zero_le _, Nat.zero_le _⟩ (Nat.le_of_ble_eq_true rfl) ?_
      refine r_istore hg (L' := [(5, .int v13), (0, .ref this), (1, .int x1), (2, .int x2), (4, .int x4)]) dX12_buys_232 (by decide) rfl ?_
      refine r_aload_n hg 1 dX12_buys_234 rfl rfl ?_
      have e15 := ly_12_0 hX k_this
      refine r_getR hg dX12_buys_235 fl_X12_7 k_this rfl e15.1 ?_
      refine r_aload_n hg 1 dX12_buys_238 rfl rfl ?_
      refine r_aload_n hg 1 dX12_buys_239 rfl rfl ?_
      have e16 := ly_12_0 hX k_this
      refine r_getR hg dX12_buys_240 fl_X12_7 k_this rfl e16.1 ?_
      refine r_iload_n hg 3 dX12_buys_243 rfl rfl ?_
      refine r_bipush hg dX12_buys_244 cb_11 ?_
      refine r_iadd hg dX12_buys_246 ?_
      obtain ⟨v17, e18, h⟩ := q_b1_some h
      refine r_iald hg dX12_buys_247 e16.2 e18 ?_
      obtain ⟨v19, e20, h⟩ := q_b1_some h
      refine r_cV1i hg dX12_buys_248 mt_X12_dueAt ml_X12_75 mv_X12_dueAt k_this (s_X12_dueAt hΓ hX k_this e20) (q_room (Nat.le_of_ble_eq_true rfl) (Nat.le_of_ble_eq_true rfl)) ⟨Nat.zero_le _, Nat.zero_le _⟩ (Nat.le_of_ble_eq_true rfl) ?_
      refine r_iconst hg dX12_buys_251 ci_2 ?_
      refine r_iadd hg dX12_buys_252 ?_
      refine r_dup2 hg dX12_buys_253 rfl rfl ?_
      obtain ⟨v21, e22, h⟩ := q_b1_some h
      refine r_iald hg dX12_buys_254 e15.2 e22 ?_
      refine r_iload hg 0 dX12_buys_255 rfl ?_
      refine r_aload_n hg 1 dX12_buys_257 rfl rfl ?_
      have e23 := ly_12_0 hX k_this
      refine r_getR hg dX12_buys_258 fl_X12_7 k_this rfl e23.1 ?_
      refine r_aload_n hg 1 dX12_buys_261 rfl rfl ?_
      refine r_iload hg 4 dX12_buys_262 rfl ?_
      obtain ⟨v24, e25, h⟩ := q_b1_some h
      refine r_cV1i hg dX12_buys_264 mt_X12_shopAt ml_X12_72 mv_X12_shopAt k_this (s_X12_shopAt hΓ hX k_this e25) (q_room (Nat.le_of_ble_eq_true rfl) (Nat.le_of_ble_eq_true rfl)) ⟨Nat.zero_le _, Nat.zero_le _⟩ (Nat.le_of_ble_eq_true rfl) ?_
      refine r_iconst hg dX12_buys_267 ci_1 ?_
      refine r_iadd hg dX12_buys_268 ?_
      obtain ⟨v26, e27, h⟩ := q_b1_some h
      refine r_iald hg dX12_buys_269 e23.2 e27 ?_
      refine r_imul hg dX12_buys_270 ?_
      refine r_iadd hg dX12_buys_271 ?_
      obtain ⟨I28, e29, h⟩ := q_b1_some h
      refine r_iast hg dX12_buys_272 e15.2 e29 ?_
      refine r_aload_n hg 1 dX12_buys_273 rfl rfl ?_
      refine r_iload_n hg 2 dX12_buys_274 rfl rfl ?_
      refine r_iload hg 4 dX12_buys_275 rfl ?_
      refine r_iload hg 0 dX12_buys_277 rfl ?_
      obtain ⟨I30, e31, h⟩ := q_b1_some h
      refine r_cV3v hg dX12_buys_279 mt_X12_takes ml_X12_145 mv_X12_takes k_this (s_X12_takes hΓ hX k_this e31) (q_room (Nat.le_of_ble_eq_true rfl) (Nat.le_of_ble_eq_true rfl)) ⟨Nat.zero_le _, Nat.zero_le _⟩ (Nat.le_of_ble_eq_true rfl) ?_
      refine r_sub hg [1, 2, 3, 4] rfl ?_
      exact p_X12_buys_282 hΓ hg hr hX k_this hk192 _ _ _ h
theorem pl_X12_buys_192 {l : Launch} {Γ : qC} {g : qG} {z : qI} {this : Nat} {x1 : Int32} {X : qX} (hΓ : q_gm Γ) (hg : q_Ok l Γ RX12 cX12_buys 6 (q_rm 5 0 0) "buys" none g) (hr : q_Rt cX12_buys none (q_rm 5 0 0) (none, z, X) g) (hX : q_Lay X) (k_this : q_kd X this = some (14, 42)) : ∀ (n : Nat) (x2 : Int32) (x4 : Int32) (I : qI), q_fix (fun _ _ _ => none) (b_X12_buys_192 this x1) n x2 x4 I = some z → g 0 0 192 [(0, .ref this), (1, .int x1), (2, .int x2), (4, .int x4)] [] I X := by
  intro n
  induction n with
  | zero =>
    intro x2 x4 I h
    cases (show (none : Option (qI)) = some z from h)
  | succ n ih =>
    intro x2 x4 I h
    exact p_X12_buys_192 hΓ hg hr hX k_this ih _ _ _ h
def b_X12_buys_189 (this : Nat) (x1 : Int32) (x2 : Int32) (I : qI) : Option (qI) :=
  q_fix (fun _ _ _ => none) (b_X12_buys_192 this x1) q_fu x2 (nI 0) I
set_option maxRecDepth 100000 in
set_option maxHeartbeats 4000000 in
theorem p_X12_buys_189 {l : Launch} {Γ : qC} {g : qG} {z : qI} {this : Nat} {x1 : Int32} {X : qX} (hΓ : q_gm Γ) (hg : q_Ok l Γ RX12 cX12_buys 6 (q_rm 5 0 0) "buys" none g) (hr : q_Rt cX12_buys none (q_rm 5 0 0) (none, z, X) g) (hX : q_Lay X) (k_this : q_kd X this = some (14, 42)) (x2 : Int32) (I : qI) (h : b_X12_buys_189 this x1 x2 I = some z) : g 0 0 189 [(0, .ref this), (1, .int x1), (2, .int x2)] [] I X := by
  unfold b_X12_buys_189 at h
  refine r_iconst hg dX12_buys_189 ci_0 ?_
  refine r_istore hg (L' := [(4, .int (nI 0)), (0, .ref this), (1, .int x1), (2, .int x2)]) dX12_buys_190 (by decide) rfl ?_
  refine r_sub hg [1, 2, 3, 0] rfl ?_
  exact pl_X12_buys_192 hΓ hg hr hX k_this _ _ _ _ h
def b_X12_buys_179 (this : Nat) (x1 : Int32) (x2 : Int32) (x3 : Int32) (x4 : Int32) (s1 : Int32) (s2 : Int32) (s3 : Int32) (I : qI) : Option (qI) :=
  q_b1 (q_wr I (this + 1) 3580 s1 (s2 - s3)) fun I2 =>
  q_b1 (f_X12_takes this x1 x3 x4 I2) fun I4 =>
  b_X12_buys_189 this x1 x2 I4
set_option maxRecDepth 100000 in
set_option maxHeartbeats 4000000 in
theorem p_X12_buys_179 {l : Launch} {Γ : qC} {g : qG} {z : qI} {this : Nat} {x1 : Int32} {X : qX} (hΓ : q_gm Γ) (hg : q_Ok l Γ RX12 cX12_buys 6 (q_rm 5 0 0) "buys" none g) (hr : q_Rt cX12_buys none (q_rm 5 0 0) (none, z, X) g) (hX : q_Lay X) (k_this : q_kd X this = some (14, 42)) (x2 : Int32) (x3 : Int32) (x4 : Int32) (s1 : Int32) (s2 : Int32) (s3 : Int32) (I : qI) (h : b_X12_buys_179 this x1 x2 x3 x4 s1 s2 s3 I = some z) : g 0 0 179 [(0, .ref this), (1, .int x1), (2, .int x2), (3, .int x3), (4, .int x4)] [.int s3, .int s2, .int s1, .ref (this + 1)] I X := by
  unfold b_X12_buys_179 at h
  have e1 := ly_12_0 hX k_this
  refine r_isub hg dX12_buys_179 ?_
  obtain ⟨I2, e3, h⟩ := q_b1_some h
  refine r_iast hg dX12_buys_180 e1.2 e3 ?_
  refine r_aload_n hg 0 dX12_buys_181 rfl rfl ?_
  refine r_iload_n hg 1 dX12_buys_182 rfl rfl ?_
  refine r_iload_n hg 3 dX12_buys_183 rfl rfl ?_
  refine r_iload hg 4 dX12_buys_184 rfl ?_
  obtain ⟨I4, e5, h⟩ := q_b1_some h
  refine r_cV3v hg dX12_buys_186 mt_X12_takes ml_X12_145 mv_X12_takes k_this (s_X12_takes hΓ hX k_this e5) (q_room (Nat.le_of_ble_eq_true rfl) (Nat.le_of_ble_eq_true rfl)) ⟨Nat.zero_le _, Nat.zero_le _⟩ (Nat.le_of_ble_eq_true rfl) ?_
  refine r_sub hg [0, 1, 2] rfl ?_
  exact p_X12_buys_189 hΓ hg hr hX k_this _ _ h
def b_X12_buys_99 (this : Nat) (x1 : Int32) (x2 : Int32) (s0 : Int32) (I : qI) : Option (qI) :=
  if s0 < 0 then
    b_X12_buys_189 this x1 x2 I
  else
    q_b1 (q_rd I (this + 1) 3580 (x2 + (nI 4))) fun v3 =>
    q_b1 (f_X12_shopAt this s0) fun v6 =>
    q_b1 (q_rd I (this + 1) 3580 (v6 + (nI 3))) fun v8 =>
    q_b1 (f_X12_loaves this x1 s0 (v3 - v8) I) fun v10 =>
    q_b1 (q_rd I (this + 1) 3580 (x2 + (nI 4))) fun v13 =>
    if v10 ≤ 0 then
      b_X12_buys_179 this x1 x2 s0 v10 (x2 + (nI 4)) v13 (nI 0) I
    else
      q_b1 (f_X12_shopAt this s0) fun v17 =>
      q_b1 (q_rd I (this + 1) 3580 (v17 + (nI 3))) fun v19 =>
      q_b1 (f_X12_shopAt this s0) fun v22 =>
      q_b1 (q_rd I (this + 1) 3580 (v22 + (nI 1))) fun v24 =>
      b_X12_buys_179 this x1 x2 s0 v10 (x2 + (nI 4)) v13 (v19 + (v10 * v24)) I
set_option maxRecDepth 100000 in
set_option maxHeartbeats 4000000 in
theorem p_X12_buys_99 {l : Launch} {Γ : qC} {g : qG} {z : qI} {this : Nat} {x1 : Int32} {X : qX} (hΓ : q_gm Γ) (hg : q_Ok l Γ RX12 cX12_buys 6 (q_rm 5 0 0) "buys" none g) (hr : q_Rt cX12_buys none (q_rm 5 0 0) (none, z, X) g) (hX : q_Lay X) (k_this : q_kd X this = some (14, 42)) (x2 : Int32) (s0 : Int32) (I : qI) (h : b_X12_buys_99 this x1 x2 s0 I = some z) : g 0 0 99 [(0, .ref this), (1, .int x1), (2, .int x2)] [.int s0] I X := by
  unfold b_X12_buys_99 at h
  refine r_istore_n hg (L' := [(3, .int s0), (0, .ref this), (1, .int x1), (2, .int x2)]) dX12_buys_99 rfl (by decide) rfl ?_
  refine r_iload_n hg 0 dX12_buys_100 rfl rfl ?_
  refine r_if_lt hg 189 dX12_buys_101 (by decide) (fun c1 => ?_) (fun c1 => ?_)
  · rw [if_pos c1] at h
    refine r_sub hg [1, 2, 3] rfl ?_
    exact p_X12_buys_189 hΓ hg hr hX k_this _ _ h
  · rw [if_neg c1] at h
    refine r_aload_n hg 1 dX12_buys_104 rfl rfl ?_
    refine r_iload_n hg 2 dX12_buys_105 rfl rfl ?_
    refine r_iload_n hg 0 dX12_buys_106 rfl rfl ?_
    refine r_aload_n hg 1 dX12_buys_107 rfl rfl ?_
    have e2 := ly_12_0 hX k_this
    refine r_getR hg dX12_buys_108 fl_X12_7 k_this rfl e2.1 ?_
    refine r_iload_n hg 3 dX12_buys_111 rfl rfl ?_
    refine r_iconst hg dX12_buys_112 ci_4 ?_
    refine r_iadd hg dX12_buys_113 ?_
    obtain ⟨v3, e4, h⟩ := q_b1_some h
    refine r_iald hg dX12_buys_114 e2.2 e4 ?_
    refine r_aload_n hg 1 dX12_buys_115 rfl rfl ?_
    have e5 := ly_12_0 hX k_this
    refine r_getR hg dX12_buys_116 fl_X12_7 k_this rfl e5.1 ?_
    refine r_aload_n hg 1 dX12_buys_119 rfl rfl ?_
    refine r_iload_n hg 0 dX12_buys_120 rfl rfl ?_
    obtain ⟨v6, e7, h⟩ := q_b1_some h
    refine r_cV1i hg dX12_buys_121 mt_X12_shopAt ml_X12_72 mv_X12_shopAt k_this (s_X12_shopAt hΓ hX k_this e7) (q_room (Nat.le_of_ble_eq_true rfl) (Nat.le_of_ble_eq_true rfl)) ⟨Nat.zero_le _, Nat.zero_le _⟩ (Nat.le_of_ble_eq_true rfl) ?_
    refine r_iconst hg dX12_buys_124 ci_3 ?_
    refine r_iadd hg dX12_buys_125 ?_
    obtain ⟨v8, e9, h⟩ := q_b1_some h
    refine r_iald hg dX12_buys_126 e5.2 e9 ?_
    refine r_isub hg dX12_buys_127 ?_
    obtain ⟨v10, e11, h⟩ := q_b1_some h
    refine r_cV3i hg dX12_buys_128 mt_X12_loaves ml_X12_141 mv_X12_loaves k_this (s_X12_loaves hΓ hX k_this e11) (q_room (Nat.le_of_ble_eq_true rfl) (Nat.le_of_ble_eq_true rfl)) ⟨Nat.zero_le _, Nat.zero_le _⟩ (Nat.le_of_ble_eq_true rfl) ?_
    refine r_istore hg (L' := [(4, .int v10), (3, .int s0), (0, .ref this), (1, .int x1), (2, .int x2)]) dX12_buys_131 (by decide) rfl ?_
    refine r_aload_n hg 2 dX12_buys_133 rfl rfl ?_
    have e12 := ly_12_0 hX k_this
    refine r_getR hg dX12_buys_134 fl_X12_7 k_this rfl e12.1 ?_
    refine r_iload_n hg 4 dX12_buys_137 rfl rfl ?_
    refine r_iconst hg dX12_buys_138 ci_4 ?_
    refine r_iadd hg dX12_buys_139 ?_
    refine r_dup2 hg dX12_buys_140 rfl rfl ?_
    obtain ⟨v13, e14, h⟩ := q_b1_some h
    refine r_iald hg dX12_buys_141 e12.2 e14 ?_
    refine r_iload hg 0 dX12_buys_142 rfl ?_
    refine r_if_le hg 178 dX12_buys_144 (by decide) (fun c15 => ?_) (fun c15 => ?_)
    · rw [if_pos c15] at h
      refine r_iconst hg dX12_buys_178 ci_0 ?_
      refine r_sub hg [2, 3, 4, 1, 0] rfl ?_
      exact p_X12_buys_179 hΓ hg hr hX k_this _ _ _ _ _ _ _ h
    · rw [if_neg c15] at h
      refine r_aload_n hg 2 dX12_buys_147 rfl rfl ?_
      have e16 := ly_12_0 hX k_this
      refine r_getR hg dX12_buys_148 fl_X12_7 k_this rfl e16.1 ?_
      refine r_aload_n hg 2 dX12_buys_151 rfl rfl ?_
      refine r_iload_n hg 1 dX12_buys_152 rfl rfl ?_
      obtain ⟨v17, e18, h⟩ := q_b1_some h
      refine r_cV1i hg dX12_buys_153 mt_X12_shopAt ml_X12_72 mv_X12_shopAt k_this (s_X12_shopAt hΓ hX k_this e18) (q_room (Nat.le_of_ble_eq_true rfl) (Nat.le_of_ble_eq_true rfl)) ⟨Nat.zero_le _, Nat.zero_le _⟩ (Nat.le_of_ble_eq_true rfl) ?_
      refine r_iconst hg dX12_buys_156 ci_3 ?_
      refine r_iadd hg dX12_buys_157 ?_
      obtain ⟨v19, e20, h⟩ := q_b1_some h
      refine r_iald hg dX12_buys_158 e16.2 e20 ?_
      refine r_iload hg 0 dX12_buys_159 rfl ?_
      refine r_aload_n hg 2 dX12_buys_161 rfl rfl ?_
      have e21 := ly_12_0 hX k_this
      refine r_getR hg dX12_buys_162 fl_X12_7 k_this rfl e21.1 ?_
      refine r_aload_n hg 2 dX12_buys_165 rfl rfl ?_
      refine r_iload_n hg 1 dX12_buys_166 rfl rfl ?_
      obtain ⟨v22, e23, h⟩ := q_b1_some h
      refine r_cV1i hg dX12_buys_167 mt_X12_shopAt ml_X12_72 mv_X12_shopAt k_this (s_X12_shopAt hΓ hX k_this e23) (q_room (Nat.le_of_ble_eq_true rfl) (Nat.le_of_ble_eq_true rfl)) ⟨Nat.zero_le _, Nat.zero_le _⟩ (Nat.le_of_ble_eq_true rfl) ?_
      refine r_iconst hg dX12_buys_170 ci_1 ?_
      refine r_iadd hg dX12_buys_171 ?_
      obtain ⟨v24, e25, h⟩ := q_b1_some h
      refine r_iald hg dX12_buys_172 e21.2 e25 ?_
      refine r_imul hg dX12_buys_173 ?_
      refine r_iadd hg dX12_buys_174 ?_
      refine r_goto hg 179 dX12_buys_175 (by decide) ?_
      refine r_sub hg [2, 3, 4, 1, 0] rfl ?_
      exact p_X12_buys_179 hΓ hg hr hX k_this _ _ _ _ _ _ _ h
def b_X12_buys_76 (this : Nat) (x1 : Int32) (k8 : Int32 → Int32 → qI → Option (qI)) (x2 : Int32) (x3 : Int32) (I : qI) : Option (qI) :=
  k8 x2 (x3 + (nI 1)) I
set_option maxRecDepth 100000 in
set_option maxHeartbeats 4000000 in
theorem p_X12_buys_76 {l : Launch} {Γ : qC} {g : qG} {z : qI} {this : Nat} {x1 : Int32} {X : qX} (hΓ : q_gm Γ) (hg : q_Ok l Γ RX12 cX12_buys 6 (q_rm 5 0 0) "buys" none g) (hr : q_Rt cX12_buys none (q_rm 5 0 0) (none, z, X) g) (hX : q_Lay X) (k_this : q_kd X this = some (14, 42)) {k8 : Int32 → Int32 → qI → Option (qI)} (hk8 : ∀ (x2 : Int32) (x3 : Int32) (I : qI), k8 x2 x3 I = some z → g 0 0 8 [(0, .ref this), (1, .int x1), (2, .int x2), (3, .int x3)] [] I X) (x2 : Int32) (x3 : Int32) (I : qI) (h : b_X12_buys_76 this x1 k8 x2 x3 I = some z) : g 0 0 76 [(0, .ref this), (1, .int x1), (2, .int x2), (3, .int x3)] [] I X := by
  unfold b_X12_buys_76 at h
  refine r_iinc hg 3 (v := (x3 + (nI 1))) (L' := [(3, .int (x3 + (nI 1))), (0, .ref this), (1, .int x1), (2, .int x2)]) dX12_buys_76 rfl (by rw [ci_1]) (by decide) rfl ?_
  refine r_goto hg 8 dX12_buys_79 (by decide) ?_
  refine r_sub hg [1, 2, 3, 0] rfl ?_
  exact hk8 _ _ _ h
def b_X12_buys_8 (this : Nat) (x1 : Int32) (k8 : Int32 → Int32 → qI → Option (qI)) (x2 : Int32) (x3 : Int32) (I : qI) : Option (qI) :=
  q_b1 (q_rd I (this + 1) 3580 (nI 1)) fun v2 =>
  if v2 ≤ x3 then
    q_b1 (f_X12_lack this x1 I) fun v5 =>
    if v5 ≤ 0 then
      b_X12_buys_99 this x1 x2 (-1) I
    else
      q_b1 (f_X12_cheapest this x1 I) fun v8 =>
      b_X12_buys_99 this x1 x2 v8 I
  else
    q_b1 (f_X12_isTown this x3 I) fun v10 =>
    if v10 = 0 then
      q_b1 (q_rd I (this + 1) 3580 (x2 + (nI 5))) fun v14 =>
      q_b1 (f_X12_loaves this x1 x3 v14 I) fun v16 =>
      q_b1 (q_rd I (this + 1) 3580 (x2 + (nI 5))) fun v19 =>
      q_b1 (f_X12_shopAt this x3) fun v22 =>
      q_b1 (q_rd I (this + 1) 3580 (v22 + (nI 1))) fun v24 =>
      q_b1 (q_wr I (this + 1) 3580 (x2 + (nI 5)) (v19 - (v16 * v24))) fun I26 =>
      q_b1 (f_X12_takes this x1 x3 v16 I26) fun I28 =>
      b_X12_buys_76 this x1 k8 x2 x3 I28
    else
      b_X12_buys_76 this x1 k8 x2 x3 I
set_option maxRecDepth 100000 in
set_option maxHeartbeats 4000000 in
theorem p_X12_buys_8 {l : Launch} {Γ : qC} {g : qG} {z : qI} {this : Nat} {x1 : Int32} {X : qX} (hΓ : q_gm Γ) (hg : q_Ok l Γ RX12 cX12_buys 6 (q_rm 5 0 0) "buys" none g) (hr : q_Rt cX12_buys none (q_rm 5 0 0) (none, z, X) g) (hX : q_Lay X) (k_this : q_kd X this = some (14, 42)) {k8 : Int32 → Int32 → qI → Option (qI)} (hk8 : ∀ (x2 : Int32) (x3 : Int32) (I : qI), k8 x2 x3 I = some z → g 0 0 8 [(0, .ref this), (1, .int x1), (2, .int x2), (3, .int x3)] [] I X) (x2 : Int32) (x3 : Int32) (I : qI) (h : b_X12_buys_8 this x1 k8 x2 x3 I = some z) : g 0 0 8 [(0, .ref this), (1, .int x1), (2, .int x2), (3, .int x3)] [] I X := by
  unfold b_X12_buys_8 at h
  refine r_iload_n hg 3 dX12_buys_8 rfl rfl ?_
  refine r_aload_n hg 0 dX12_buys_9 rfl rfl ?_
  have e1 := ly_12_0 hX k_this
  refine r_getR hg dX12_buys_10 fl_X12_7 k_this rfl e1.1 ?_
  refine r_iconst hg dX12_buys_13 ci_1 ?_
  obtain ⟨v2, e3, h⟩ := q_b1_some h
  refine r_iald hg dX12_buys_14 e1.2 e3 ?_
  refine r_icmp_ge hg 82 dX12_buys_15 (by decide) (fun c4 => ?_) (fun c4 => ?_)
  · rw [if_pos c4] at h
    refine r_aload_n hg 0 dX12_buys_82 rfl rfl ?_
    refine r_iload_n hg 1 dX12_buys_83 rfl rfl ?_
    obtain ⟨v5, e6, h⟩ := q_b1_some h
    refine r_cV1i hg dX12_buys_84 mt_X12_lack ml_X12_135 mv_X12_lack k_this (s_X12_lack hΓ hX k_this e6) (q_room (Nat.le_of_ble_eq_true rfl) (Nat.le_of_ble_eq_true rfl)) ⟨Nat.zero_le _, Nat.zero_le _⟩ (Nat.le_of_ble_eq_true rfl) ?_
    refine r_if_le hg 98 dX12_buys_87 (by decide) (fun c7 => ?_) (fun c7 => ?_)
    · rw [if_pos c7] at h
      refine r_iconst hg dX12_buys_98 ci_m1 ?_
      refine r_sub hg [0, 1, 2] rfl ?_
      exact p_X12_buys_99 hΓ hg hr hX k_this _ _ _ h
    · rw [if_neg c7] at h
      refine r_aload_n hg 0 dX12_buys_90 rfl rfl ?_
      refine r_iload_n hg 1 dX12_buys_91 rfl rfl ?_
      obtain ⟨v8, e9, h⟩ := q_b1_some h
      refine r_cV1i hg dX12_buys_92 mt_X12_cheapest ml_X12_149 mv_X12_cheapest k_this (s_X12_cheapest hΓ hX k_this e9) (q_room (Nat.le_of_ble_eq_true rfl) (Nat.le_of_ble_eq_true rfl)) ⟨Nat.zero_le _, Nat.zero_le _⟩ (Nat.le_of_ble_eq_true rfl) ?_
      refine r_goto hg 99 dX12_buys_95 (by decide) ?_
      refine r_sub hg [0, 1, 2] rfl ?_
      exact p_X12_buys_99 hΓ hg hr hX k_this _ _ _ h
  · rw [if_neg c4] at h
    refine r_aload_n hg 0 dX12_buys_18 rfl rfl ?_
    refine r_iload_n hg 3 dX12_buys_19 rfl rfl ?_
    obtain ⟨v10, e11, h⟩ := q_b1_some h
    refine r_cV1i hg dX12_buys_20 mt_X12_isTown ml_X12_132 mv_X12_isTown k_this (s_X12_isTown hΓ hX k_this e11) (q_room (Nat.le_of_ble_eq_true rfl) (Nat.le_of_ble_eq_true rfl)) ⟨Nat.zero_le _, Nat.zero_le _⟩ (Nat.le_of_ble_eq_true rfl) ?_
    refine r_if_ne hg 76 dX12_buys_23 (by decide) (fun c12 => ?_) (fun c12 => ?_)
    · rw [if_neg c12] at h
      exact p_X12_buys_76 hΓ hg hr hX k_this hk8 _ _ _ h
    · rw [if_pos (Classical.not_not.mp c12)] at h
      refine r_aload_n hg 0 dX12_buys_26 rfl rfl ?_
      refine r_iload_n hg 1 dX12_buys_27 rfl rfl ?_
      refine r_iload_n hg 3 dX12_buys_28 rfl rfl ?_
      refine r_aload_n hg 0 dX12_buys_29 rfl rfl ?_
      have e13 := ly_12_0 hX k_this
      refine r_getR hg dX12_buys_30 fl_X12_7 k_this rfl e13.1 ?_
      refine r_iload_n hg 2 dX12_buys_33 rfl rfl ?_
      refine r_iconst hg dX12_buys_34 ci_5 ?_
      refine r_iadd hg dX12_buys_35 ?_
      obtain ⟨v14, e15, h⟩ := q_b1_some h
      refine r_iald hg dX12_buys_36 e13.2 e15 ?_
      obtain ⟨v16, e17, h⟩ := q_b1_some h
      refine r_cV3i hg dX12_buys_37 mt_X12_loaves ml_X12_141 mv_X12_loaves k_this (s_X12_loaves hΓ hX k_this e17) (q_room (Nat.le_of_ble_eq_true rfl) (Nat.le_of_ble_eq_true rfl)) ⟨Nat.zero_le _, Nat.zero_le _⟩ (Nat.le_of_ble_eq_true rfl) ?_
      refine r_istore hg (L' := [(4, .int v16), (0, .ref this), (1, .int x1), (2, .int x2), (3, .int x3)]) dX12_buys_40 (by decide) rfl ?_
      refine r_aload_n hg 1 dX12_buys_42 rfl rfl ?_
      have e18 := ly_12_0 hX k_this
      refine r_getR hg dX12_buys_43 fl_X12_7 k_this rfl e18.1 ?_
      refine r_iload_n hg 3 dX12_buys_46 rfl rfl ?_
      refine r_iconst hg dX12_buys_47 ci_5 ?_
      refine r_iadd hg dX12_buys_48 ?_
      refine r_dup2 hg dX12_buys_49 rfl rfl ?_
      obtain ⟨v19, e20, h⟩ := q_b1_some h
      refine r_iald hg dX12_buys_50 e18.2 e20 ?_
      refine r_iload hg 0 dX12_buys_51 rfl ?_
      refine r_aload_n hg 1 dX12_buys_53 rfl rfl ?_
      have e21 := ly_12_0 hX k_this
      refine r_getR hg dX12_buys_54 fl_X12_7 k_this rfl e21.1 ?_
      refine r_aload_n hg 1 dX12_buys_57 rfl rfl ?_
      refine r_iload_n hg 4 dX12_buys_58 rfl rfl ?_
      obtain ⟨v22, e23, h⟩ := q_b1_some h
      refine r_cV1i hg dX12_buys_59 mt_X12_shopAt ml_X12_72 mv_X12_shopAt k_this (s_X12_shopAt hΓ hX k_this e23) (q_room (Nat.le_of_ble_eq_true rfl) (Nat.le_of_ble_eq_true rfl)) ⟨Nat.zero_le _, Nat.zero_le _⟩ (Nat.le_of_ble_eq_true rfl) ?_
      refine r_iconst hg dX12_buys_62 ci_1 ?_
      refine r_iadd hg dX12_buys_63 ?_
      obtain ⟨v24, e25, h⟩ := q_b1_some h
      refine r_iald hg dX12_buys_64 e21.2 e25 ?_
      refine r_imul hg dX12_buys_65 ?_
      refine r_isub hg dX12_buys_66 ?_
      obtain ⟨I26, e27, h⟩ := q_b1_some h
      refine r_iast hg dX12_buys_67 e18.2 e27 ?_
      refine r_aload_n hg 1 dX12_buys_68 rfl rfl ?_
      refine r_iload_n hg 2 dX12_buys_69 rfl rfl ?_
      refine r_iload_n hg 4 dX12_buys_70 rfl rfl ?_
      refine r_iload hg 0 dX12_buys_71 rfl ?_
      obtain ⟨I28, e29, h⟩ := q_b1_some h
      refine r_cV3v hg dX12_buys_73 mt_X12_takes ml_X12_145 mv_X12_takes k_this (s_X12_takes hΓ hX k_this e29) (q_room (Nat.le_of_ble_eq_true rfl) (Nat.le_of_ble_eq_true rfl)) ⟨Nat.zero_le _, Nat.zero_le _⟩ (Nat.le_of_ble_eq_true rfl) ?_
      refine r_sub hg [1, 2, 3, 4] rfl ?_
      exact p_X12_buys_76 hΓ hg hr hX k_this hk8 _ _ _ h
theorem pl_X12_buys_8 {l : Launch} {Γ : qC} {g : qG} {z : qI} {this : Nat} {x1 : Int32} {X : qX} (hΓ : q_gm Γ) (hg : q_Ok l Γ RX12 cX12_buys 6 (q_rm 5 0 0) "buys" none g) (hr : q_Rt cX12_buys none (q_rm 5 0 0) (none, z, X) g) (hX : q_Lay X) (k_this : q_kd X this = some (14, 42)) : ∀ (n : Nat) (x2 : Int32) (x3 : Int32) (I : qI), q_fix (fun _ _ _ => none) (b_X12_buys_8 this x1) n x2 x3 I = some z → g 0 0 8 [(0, .ref this), (1, .int x1), (2, .int x2), (3, .int x3)] [] I X := by
  intro n
  induction n with
  | zero =>
    intro x2 x3 I h
    cases (show (none : Option (qI)) = some z from h)
  | succ n ih =>
    intro x2 x3 I h
    exact p_X12_buys_8 hΓ hg hr hX k_this ih _ _ _ h
def f_X12_buys (this : Nat) (x1 : Int32) (I : qI) : Option (qI) :=
  q_b1 (f_X12_manAt this x1) fun v1 =>
  q_fix (fun _ _ _ => none) (b_X12_buys_8 this x1) q_fu v1 (nI 0) I
set_option maxRecDepth 100000 in
set_option maxHeartbeats 4000000 in
theorem s_X12_buys {l : Launch} {Γ : qC} (hΓ : q_gm Γ) {X : qX} (hX : q_Lay X) {this : Nat} {x1 : Int32} (k_this : q_kd X this = some (14, 42)) {I : qI} {z : qI} (h : f_X12_buys this x1 I = some z) : q_Sem l Γ (q_rm 5 0 0) yX12_buys cX12_buys 6 none [.ref this, .int x1] I X (none, z, X) := by
  refine q_met (by decide) (Nat.le_of_ble_eq_true rfl) (fun g hg hr => ?_)
  unfold f_X12_buys at h
  show g 0 0 0 [(0, .ref this), (1, .int x1)] [] I X
  refine r_aload_n hg 0 dX12_buys_0 rfl rfl ?_
  refine r_iload_n hg 1 dX12_buys_1 rfl rfl ?_
  obtain ⟨v1, e2, h⟩ := q_b1_some h
  refine r_cV1i hg dX12_buys_2 mt_X12_manAt ml_X12_68 mv_X12_manAt k_this (s_X12_manAt hΓ hX k_this e2) (q_room (Nat.le_of_ble_eq_true rfl) (Nat.le_of_ble_eq_true rfl)) ⟨Nat.zero_le _, Nat.zero_le _⟩ (Nat.le_of_ble_eq_true rfl) ?_
  refine r_istore_n hg (L' := [(2, .int v1), (0, .ref this), (1, .int x1)]) dX12_buys_5 rfl (by decide) rfl ?_
  refine r_iconst hg dX12_buys_6 ci_0 ?_
  refine r_istore_n hg (L' := [(3, .int (nI 0)), (2, .int v1), (0, .ref this), (1, .int x1)]) dX12_buys_7 rfl (by decide) rfl ?_
  refine r_sub hg [2, 3, 1, 0] rfl ?_
  exact pl_X12_buys_8 hΓ hg hr hX k_this _ _ _ _ h

def f_X12_coinOf (this : Nat) (x1 : Int32) (I : qI) : Option (Int32 × qI) :=
  if (I this 25) = 0 then
    q_b1 (f_X12_week this I) fun v2 =>
    q_b2 (f_X12_coinFor this x1 v2 I) fun v4 I5 =>
    some (v4, I5)
  else
    some ((nI 100), I)
set_option maxRecDepth 100000 in
set_option maxHeartbeats 4000000 in
theorem s_X12_coinOf {l : Launch} {Γ : qC} (hΓ : q_gm Γ) {X : qX} (hX : q_Lay X) {this : Nat} {x1 : Int32} (k_this : q_kd X this = some (14, 42)) {I : qI} {z : Int32 × qI} (h : f_X12_coinOf this x1 I = some z) : q_Sem l Γ (q_rm 5 0 0) yX12_coinOf cX12_coinOf 2 (some .int) [.ref this, .int x1] I X (some (.int z.1), z.2, X) := by
  refine q_met (by decide) (Nat.le_of_ble_eq_true rfl) (fun g hg hr => ?_)
  unfold f_X12_coinOf at h
  show g 0 0 0 [(0, .ref this), (1, .int x1)] [] I X
  refine r_aload_n hg 0 dX12_coinOf_0 rfl rfl ?_
  refine r_getI hg dX12_coinOf_1 fl_X12_331 k_this rfl ?_
  refine r_if_eq hg 12 dX12_coinOf_4 (by decide) (fun c1 => ?_) (fun c1 => ?_)
  · rw [if_pos c1] at h
    refine r_aload_n hg 0 dX12_coinOf_12 rfl rfl ?_
    refine r_iload_n hg 1 dX12_coinOf_13 rfl rfl ?_
    refine r_aload_n hg 0 dX12_coinOf_14 rfl rfl ?_
    obtain ⟨v2, e3, h⟩ := q_b1_some h
    refine r_cV0i hg dX12_coinOf_15 mt_X12_week ml_X12_184 mv_X12_week k_this (s_X12_week hΓ hX k_this e3) (q_room (Nat.le_of_ble_eq_true rfl) (Nat.le_of_ble_eq_true rfl)) ⟨Nat.zero_le _, Nat.zero_le _⟩ (Nat.le_of_ble_eq_true rfl) ?_
    obtain ⟨v4, I5, e6, h⟩ := q_b2_some h
    refine r_cV2i hg dX12_coinOf_18 mt_X12_coinFor ml_X12_335 mv_X12_coinFor k_this (s_X12_coinFor hΓ hX k_this e6) (q_room (Nat.le_of_ble_eq_true rfl) (Nat.le_of_ble_eq_true rfl)) ⟨Nat.zero_le _, Nat.zero_le _⟩ (Nat.le_of_ble_eq_true rfl) ?_
    exact r_ireturn hr dX12_coinOf_21 ⟨Nat.zero_le _, Nat.zero_le _⟩ ⟨_, rfl, rfl⟩ (by cases h; rfl)
  · rw [if_neg c1] at h
    refine r_bipush hg dX12_coinOf_7 cb_100 ?_
    refine r_goto hg 21 dX12_coinOf_9 (by decide) ?_
    exact r_ireturn hr dX12_coinOf_21 ⟨Nat.zero_le _, Nat.zero_le _⟩ ⟨_, rfl, rfl⟩ (by cases h; rfl)

def b_X12_count_136 (this : Nat) (x1 : Int32) (I : qI) (k105 : Int32 → Int32 → Option (Int32)) (x3 : Int32) (s0 : Int32) (s1 : Int32) : Option (Int32) :=
  k105 (s0 + s1) (x3 + (nI 1))
set_option maxRecDepth 100000 in
set_option maxHeartbeats 4000000 in
theorem p_X12_count_136 {l : Launch} {Γ : qC} {g : qG} {z : Int32} {this : Nat} {x1 : Int32} {X : qX} {I : qI} (hΓ : q_gm Γ) (hg : q_Ok l Γ RX12 cX12_count 4 (q_rm 5 0 0) "count" (some .int) g) (hr : q_Rt cX12_count (some .int) (q_rm 5 0 0) (some (.int z), I, X) g) (hX : q_Lay X) (k_this : q_kd X this = some (14, 42)) {k105 : Int32 → Int32 → Option (Int32)} (hk105 : ∀ (x2 : Int32) (x3 : Int32), k105 x2 x3 = some z → g 0 0 105 [(0, .ref this), (2, .int x2), (3, .int x3)] [] I X) (x3 : Int32) (s0 : Int32) (s1 : Int32) (h : b_X12_count_136 this x1 I k105 x3 s0 s1 = some z) : g 0 0 136 [(0, .ref this), (3, .int x3)] [.int s1, .int s0] I X := by
  unfold b_X12_count_136 at h
  refine r_iadd hg dX12_count_136 ?_
  refine r_istore_n hg (L' := [(2, .int (s0 + s1)), (0, .ref this), (3, .int x3)]) dX12_count_137 rfl (by decide) rfl ?_
  refine r_iinc hg 2 (v := (x3 + (nI 1))) (L' := [(3, .int (x3 + (nI 1))), (2, .int (s0 + s1)), (0, .ref this)]) dX12_count_138 rfl (by rw [ci_1]) (by decide) rfl ?_
  refine r_goto hg 105 dX12_count_141 (by decide) ?_
  refine r_sub hg [2, 1, 0] rfl ?_
  exact hk105 _ _ h
def b_X12_count_105 (this : Nat) (x1 : Int32) (I : qI) (k105 : Int32 → Int32 → Option (Int32)) (x2 : Int32) (x3 : Int32) : Option (Int32) :=
  q_b1 (q_rd I (this + 1) 3580 (nI 3)) fun v2 =>
  if v2 ≤ x3 then
    some (x2)
  else
    q_b1 (f_X12_dueAt this x3) fun v6 =>
    q_b1 (q_rd I (this + 1) 3580 (v6 + (nI 5))) fun v8 =>
    if v8 = 0 then
      b_X12_count_136 this x1 I k105 x3 x2 (nI 1)
    else
      b_X12_count_136 this x1 I k105 x3 x2 (nI 0)
set_option maxRecDepth 100000 in
set_option maxHeartbeats 4000000 in
theorem p_X12_count_105 {l : Launch} {Γ : qC} {g : qG} {z : Int32} {this : Nat} {x1 : Int32} {X : qX} {I : qI} (hΓ : q_gm Γ) (hg : q_Ok l Γ RX12 cX12_count 4 (q_rm 5 0 0) "count" (some .int) g) (hr : q_Rt cX12_count (some .int) (q_rm 5 0 0) (some (.int z), I, X) g) (hX : q_Lay X) (k_this : q_kd X this = some (14, 42)) {k105 : Int32 → Int32 → Option (Int32)} (hk105 : ∀ (x2 : Int32) (x3 : Int32), k105 x2 x3 = some z → g 0 0 105 [(0, .ref this), (2, .int x2), (3, .int x3)] [] I X) (x2 : Int32) (x3 : Int32) (h : b_X12_count_105 this x1 I k105 x2 x3 = some z) : g 0 0 105 [(0, .ref this), (2, .int x2), (3, .int x3)] [] I X := by
  unfold b_X12_count_105 at h
  refine r_iload_n hg 2 dX12_count_105 rfl rfl ?_
  refine r_aload_n hg 0 dX12_count_106 rfl rfl ?_
  have e1 := ly_12_0 hX k_this
  refine r_getR hg dX12_count_107 fl_X12_7 k_this rfl e1.1 ?_
  refine r_iconst hg dX12_count_110 ci_3 ?_
  obtain ⟨v2, e3, h⟩ := q_b1_some h
  refine r_iald hg dX12_count_111 e1.2 e3 ?_
  refine r_icmp_ge hg 144 dX12_count_112 (by decide) (fun c4 => ?_) (fun c4 => ?_)
  · rw [if_pos c4] at h
    refine r_iload_n hg 1 dX12_count_144 rfl rfl ?_
    exact r_ireturn hr dX12_count_145 ⟨Nat.zero_le _, Nat.zero_le _⟩ ⟨_, rfl, rfl⟩ (by cases h; rfl)
  · rw [if_neg c4] at h
    refine r_iload_n hg 1 dX12_count_115 rfl rfl ?_
    refine r_aload_n hg 0 dX12_count_116 rfl rfl ?_
    have e5 := ly_12_0 hX k_this
    refine r_getR hg dX12_count_117 fl_X12_7 k_this rfl e5.1 ?_
    refine r_aload_n hg 0 dX12_count_120 rfl rfl ?_
    refine r_iload_n hg 2 dX12_count_121 rfl rfl ?_
    obtain ⟨v6, e7, h⟩ := q_b1_some h
    refine r_cV1i hg dX12_count_122 mt_X12_dueAt ml_X12_75 mv_X12_dueAt k_this (s_X12_dueAt hΓ hX k_this e7) (q_room (Nat.le_of_ble_eq_true rfl) (Nat.le_of_ble_eq_true rfl)) ⟨Nat.zero_le _, Nat.zero_le _⟩ (Nat.le_of_ble_eq_true rfl) ?_
    refine r_iconst hg dX12_count_125 ci_5 ?_
    refine r_iadd hg dX12_count_126 ?_
    obtain ⟨v8, e9, h⟩ := q_b1_some h
    refine r_iald hg dX12_count_127 e5.2 e9 ?_
    refine r_if_ne hg 135 dX12_count_128 (by decide) (fun c10 => ?_) (fun c10 => ?_)
    · rw [if_neg c10] at h
      refine r_iconst hg dX12_count_135 ci_0 ?_
      refine r_sub hg [0, 2] rfl ?_
      exact p_X12_count_136 hΓ hg hr hX k_this hk105 _ _ _ h
    · rw [if_pos (Classical.not_not.mp c10)] at h
      refine r_iconst hg dX12_count_131 ci_1 ?_
      refine r_goto hg 136 dX12_count_132 (by decide) ?_
      refine r_sub hg [0, 2] rfl ?_
      exact p_X12_count_136 hΓ hg hr hX k_this hk105 _ _ _ h
theorem pl_X12_count_105 {l : Launch} {Γ : qC} {g : qG} {z : Int32} {this : Nat} {x1 : Int32} {X : qX} {I : qI} (hΓ : q_gm Γ) (hg : q_Ok l Γ RX12 cX12_count 4 (q_rm 5 0 0) "count" (some .int) g) (hr : q_Rt cX12_count (some .int) (q_rm 5 0 0) (some (.int z), I, X) g) (hX : q_Lay X) (k_this : q_kd X this = some (14, 42)) : ∀ (n : Nat) (x2 : Int32) (x3 : Int32), q_fix (fun _ _ => none) (b_X12_count_105 this x1 I) n x2 x3 = some z → g 0 0 105 [(0, .ref this), (2, .int x2), (3, .int x3)] [] I X := by
  intro n
  induction n with
  | zero =>
    intro x2 x3 h
    cases (show (none : Option (Int32)) = some z from h)
  | succ n ih =>
    intro x2 x3 h
    exact p_X12_count_105 hΓ hg hr hX k_this ih _ _ h
def b_X12_count_180 (this : Nat) (x1 : Int32) (I : qI) (k148 : Int32 → Int32 → Option (Int32)) (x3 : Int32) (s0 : Int32) (s1 : Int32) : Option (Int32) :=
  k148 (s0 + s1) (x3 + (nI 1))
set_option maxRecDepth 100000 in
set_option maxHeartbeats 4000000 in
theorem p_X12_count_180 {l : Launch} {Γ : qC} {g : qG} {z : Int32} {this : Nat} {x1 : Int32} {X : qX} {I : qI} (hΓ : q_gm Γ) (hg : q_Ok l Γ RX12 cX12_count 4 (q_rm 5 0 0) "count" (some .int) g) (hr : q_Rt cX12_count (some .int) (q_rm 5 0 0) (some (.int z), I, X) g) (hX : q_Lay X) (k_this : q_kd X this = some (14, 42)) {k148 : Int32 → Int32 → Option (Int32)} (hk148 : ∀ (x2 : Int32) (x3 : Int32), k148 x2 x3 = some z → g 0 0 148 [(0, .ref this), (2, .int x2), (3, .int x3)] [] I X) (x3 : Int32) (s0 : Int32) (s1 : Int32) (h : b_X12_count_180 this x1 I k148 x3 s0 s1 = some z) : g 0 0 180 [(0, .ref this), (3, .int x3)] [.int s1, .int s0] I X := by
  unfold b_X12_count_180 at h
  refine r_iadd hg dX12_count_180 ?_
  refine r_istore_n hg (L' := [(2, .int (s0 + s1)), (0, .ref this), (3, .int x3)]) dX12_count_181 rfl (by decide) rfl ?_
  refine r_iinc hg 2 (v := (x3 + (nI 1))) (L' := [(3, .int (x3 + (nI 1))), (2, .int (s0 + s1)), (0, .ref this)]) dX12_count_182 rfl (by rw [ci_1]) (by decide) rfl ?_
  refine r_goto hg 148 dX12_count_185 (by decide) ?_
  refine r_sub hg [2, 1, 0] rfl ?_
  exact hk148 _ _ h
def b_X12_count_148 (this : Nat) (x1 : Int32) (I : qI) (k148 : Int32 → Int32 → Option (Int32)) (x2 : Int32) (x3 : Int32) : Option (Int32) :=
  q_b1 (q_rd I (this + 1) 3580 (nI 3)) fun v2 =>
  if v2 ≤ x3 then
    some (x2)
  else
    q_b1 (f_X12_dueAt this x3) fun v6 =>
    q_b1 (q_rd I (this + 1) 3580 (v6 + (nI 6))) fun v8 =>
    if v8 < 0 then
      b_X12_count_180 this x1 I k148 x3 x2 (nI 0)
    else
      b_X12_count_180 this x1 I k148 x3 x2 (nI 1)
set_option maxRecDepth 100000 in
set_option maxHeartbeats 4000000 in
theorem p_X12_count_148 {l : Launch} {Γ : qC} {g : qG} {z : Int32} {this : Nat} {x1 : Int32} {X : qX} {I : qI} (hΓ : q_gm Γ) (hg : q_Ok l Γ RX12 cX12_count 4 (q_rm 5 0 0) "count" (some .int) g) (hr : q_Rt cX12_count (some .int) (q_rm 5 0 0) (some (.int z), I, X) g) (hX : q_Lay X) (k_this : q_kd X this = some (14, 42)) {k148 : Int32 → Int32 → Option (Int32)} (hk148 : ∀ (x2 : Int32) (x3 : Int32), k148 x2 x3 = some z → g 0 0 148 [(0, .ref this), (2, .int x2), (3, .int x3)] [] I X) (x2 : Int32) (x3 : Int32) (h : b_X12_count_148 this x1 I k148 x2 x3 = some z) : g 0 0 148 [(0, .ref this), (2, .int x2), (3, .int x3)] [] I X := by
  unfold b_X12_count_148 at h
  refine r_iload_n hg 2 dX12_count_148 rfl rfl ?_
  refine r_aload_n hg 0 dX12_count_149 rfl rfl ?_
  have e1 := ly_12_0 hX k_this
  refine r_getR hg dX12_count_150 fl_X12_7 k_this rfl e1.1 ?_
  refine r_iconst hg dX12_count_153 ci_3 ?_
  obtain ⟨v2, e3, h⟩ := q_b1_some h
  refine r_iald hg dX12_count_154 e1.2 e3 ?_
  refine r_icmp_ge hg 188 dX12_count_155 (by decide) (fun c4 => ?_) (fun c4 => ?_)
  · rw [if_pos c4] at h
    refine r_iload_n hg 1 dX12_count_188 rfl rfl ?_
    exact r_ireturn hr dX12_count_189 ⟨Nat.zero_le _, Nat.zero_le _⟩ ⟨_, rfl, rfl⟩ (by cases h; rfl)
  · rw [if_neg c4] at h
    refine r_iload_n hg 1 dX12_count_158 rfl rfl ?_
    refine r_aload_n hg 0 dX12_count_159 rfl rfl ?_
    have e5 := ly_12_0 hX k_this
    refine r_getR hg dX12_count_160 fl_X12_7 k_this rfl e5.1 ?_
    refine r_aload_n hg 0 dX12_count_163 rfl rfl ?_
    refine r_iload_n hg 2 dX12_count_164 rfl rfl ?_
    obtain ⟨v6, e7, h⟩ := q_b1_some h
    refine r_cV1i hg dX12_count_165 mt_X12_dueAt ml_X12_75 mv_X12_dueAt k_this (s_X12_dueAt hΓ hX k_this e7) (q_room (Nat.le_of_ble_eq_true rfl) (Nat.le_of_ble_eq_true rfl)) ⟨Nat.zero_le _, Nat.zero_le _⟩ (Nat.le_of_ble_eq_true rfl) ?_
    refine r_bipush hg dX12_count_168 cb_6 ?_
    refine r_iadd hg dX12_count_170 ?_
    obtain ⟨v8, e9, h⟩ := q_b1_some h
    refine r_iald hg dX12_count_171 e5.2 e9 ?_
    refine r_if_lt hg 179 dX12_count_172 (by decide) (fun c10 => ?_) (fun c10 => ?_)
    · rw [if_pos c10] at h
      refine r_iconst hg dX12_count_179 ci_0 ?_
      refine r_sub hg [0, 2] rfl ?_
      exact p_X12_count_180 hΓ hg hr hX k_this hk148 _ _ _ h
    · rw [if_neg c10] at h
      refine r_iconst hg dX12_count_175 ci_1 ?_
      refine r_goto hg 180 dX12_count_176 (by decide) ?_
      refine r_sub hg [0, 2] rfl ?_
      exact p_X12_count_180 hΓ hg hr hX k_this hk148 _ _ _ h
theorem pl_X12_count_148 {l : Launch} {Γ : qC} {g : qG} {z : Int32} {this : Nat} {x1 : Int32} {X : qX} {I : qI} (hΓ : q_gm Γ) (hg : q_Ok l Γ RX12 cX12_count 4 (q_rm 5 0 0) "count" (some .int) g) (hr : q_Rt cX12_count (some .int) (q_rm 5 0 0) (some (.int z), I, X) g) (hX : q_Lay X) (k_this : q_kd X this = some (14, 42)) : ∀ (n : Nat) (x2 : Int32) (x3 : Int32), q_fix (fun _ _ => none) (b_X12_count_148 this x1 I) n x2 x3 = some z → g 0 0 148 [(0, .ref this), (2, .int x2), (3, .int x3)] [] I X := by
  intro n
  induction n with
  | zero =>
    intro x2 x3 h
    cases (show (none : Option (Int32)) = some z from h)
  | succ n ih =>
    intro x2 x3 h
    exact p_X12_count_148 hΓ hg hr hX k_this ih _ _ h
def b_X12_count_236 (this : Nat) (x1 : Int32) (I : qI) (k236 : Int32 → Int32 → Option (Int32)) (x2 : Int32) (x3 : Int32) : Option (Int32) :=
  q_b1 (q_rd I (this + 1) 3580 (nI 2)) fun v2 =>
  if v2 ≤ x3 then
    some (x2)
  else
    q_b1 (f_X12_manAt this x3) fun v6 =>
    q_b1 (q_rd I (this + 1) 3580 ((v6 + x1) - (nI 9))) fun v8 =>
    k236 (x2 + v8) (x3 + (nI 1))
set_option maxRecDepth 100000 in
set_option maxHeartbeats 4000000 in
theorem p_X12_count_236 {l : Launch} {Γ : qC} {g : qG} {z : Int32} {this : Nat} {x1 : Int32} {X : qX} {I : qI} (hΓ : q_gm Γ) (hg : q_Ok l Γ RX12 cX12_count 4 (q_rm 5 0 0) "count" (some .int) g) (hr : q_Rt cX12_count (some .int) (q_rm 5 0 0) (some (.int z), I, X) g) (hX : q_Lay X) (k_this : q_kd X this = some (14, 42)) {k236 : Int32 → Int32 → Option (Int32)} (hk236 : ∀ (x2 : Int32) (x3 : Int32), k236 x2 x3 = some z → g 0 0 236 [(0, .ref this), (1, .int x1), (2, .int x2), (3, .int x3)] [] I X) (x2 : Int32) (x3 : Int32) (h : b_X12_count_236 this x1 I k236 x2 x3 = some z) : g 0 0 236 [(0, .ref this), (1, .int x1), (2, .int x2), (3, .int x3)] [] I X := by
  unfold b_X12_count_236 at h
  refine r_iload_n hg 3 dX12_count_236 rfl rfl ?_
  refine r_aload_n hg 0 dX12_count_237 rfl rfl ?_
  have e1 := ly_12_0 hX k_this
  refine r_getR hg dX12_count_238 fl_X12_7 k_this rfl e1.1 ?_
  refine r_iconst hg dX12_count_241 ci_2 ?_
  obtain ⟨v2, e3, h⟩ := q_b1_some h
  refine r_iald hg dX12_count_242 e1.2 e3 ?_
  refine r_icmp_ge hg 270 dX12_count_243 (by decide) (fun c4 => ?_) (fun c4 => ?_)
  · rw [if_pos c4] at h
    refine r_iload_n hg 2 dX12_count_270 rfl rfl ?_
    exact r_ireturn hr dX12_count_271 ⟨Nat.zero_le _, Nat.zero_le _⟩ ⟨_, rfl, rfl⟩ (by cases h; rfl)
  · rw [if_neg c4] at h
    refine r_iload_n hg 2 dX12_count_246 rfl rfl ?_
    refine r_aload_n hg 0 dX12_count_247 rfl rfl ?_
    have e5 := ly_12_0 hX k_this
    refine r_getR hg dX12_count_248 fl_X12_7 k_this rfl e5.1 ?_
    refine r_aload_n hg 0 dX12_count_251 rfl rfl ?_
    refine r_iload_n hg 3 dX12_count_252 rfl rfl ?_
    obtain ⟨v6, e7, h⟩ := q_b1_some h
    refine r_cV1i hg dX12_count_253 mt_X12_manAt ml_X12_68 mv_X12_manAt k_this (s_X12_manAt hΓ hX k_this e7) (q_room (Nat.le_of_ble_eq_true rfl) (Nat.le_of_ble_eq_true rfl)) ⟨Nat.zero_le _, Nat.zero_le _⟩ (Nat.le_of_ble_eq_true rfl) ?_
    refine r_iload_n hg 1 dX12_count_256 rfl rfl ?_
    refine r_iadd hg dX12_count_257 ?_
    refine r_bipush hg dX12_count_258 cb_9 ?_
    refine r_isub hg dX12_count_260 ?_
    obtain ⟨v8, e9, h⟩ := q_b1_some h
    refine r_iald hg dX12_count_261 e5.2 e9 ?_
    refine r_iadd hg dX12_count_262 ?_
    refine r_istore_n hg (L' := [(2, .int (x2 + v8)), (0, .ref this), (1, .int x1), (3, .int x3)]) dX12_count_263 rfl (by decide) rfl ?_
    refine r_iinc hg 3 (v := (x3 + (nI 1))) (L' := [(3, .int (x3 + (nI 1))), (2, .int (x2 + v8)), (0, .ref this), (1, .int x1)]) dX12_count_264 rfl (by rw [ci_1]) (by decide) rfl ?_
    refine r_goto hg 236 dX12_count_267 (by decide) ?_
    refine r_sub hg [2, 3, 1, 0] rfl ?_
    exact hk236 _ _ h
theorem pl_X12_count_236 {l : Launch} {Γ : qC} {g : qG} {z : Int32} {this : Nat} {x1 : Int32} {X : qX} {I : qI} (hΓ : q_gm Γ) (hg : q_Ok l Γ RX12 cX12_count 4 (q_rm 5 0 0) "count" (some .int) g) (hr : q_Rt cX12_count (some .int) (q_rm 5 0 0) (some (.int z), I, X) g) (hX : q_Lay X) (k_this : q_kd X this = some (14, 42)) : ∀ (n : Nat) (x2 : Int32) (x3 : Int32), q_fix (fun _ _ => none) (b_X12_count_236 this x1 I) n x2 x3 = some z → g 0 0 236 [(0, .ref this), (1, .int x1), (2, .int x2), (3, .int x3)] [] I X := by
  intro n
  induction n with
  | zero =>
    intro x2 x3 h
    cases (show (none : Option (Int32)) = some z from h)
  | succ n ih =>
    intro x2 x3 h
    exact p_X12_count_236 hΓ hg hr hX k_this ih _ _ h
def f_X12_count (this : Nat) (x1 : Int32) (I : qI) : Option (Int32) :=
  if x1 = (nI 0) then
    q_b1 (q_rd I (this + 1) 3580 (nI 1)) fun v3 =>
    some (v3)
  else
  if x1 = (nI 1) then
    q_b1 (q_rd I (this + 1) 3580 (nI 2)) fun v7 =>
    some (v7)
  else
  if x1 = (nI 2) then
    q_b1 (f_X12_stands this (nI 2) I) fun v10 =>
    some (v10)
  else
  if x1 = (nI 3) then
    q_b1 (q_rd I (this + 1) 3580 (nI 3)) fun v14 =>
    some (v14)
  else
  if x1 = (nI 4) then
    q_fix (fun _ _ => none) (b_X12_count_105 this x1 I) q_fu (nI 0) (nI 0)
  else
  if x1 = (nI 5) then
    q_fix (fun _ _ => none) (b_X12_count_148 this x1 I) q_fu (nI 0) (nI 0)
  else
  if x1 = (nI 6) then
    q_b1 (q_rd I (this + 1) 3580 (nI 4)) fun v20 =>
    some (v20)
  else
  if x1 = (nI 7) then
    q_b1 (q_rd I (this + 1) 3580 (nI 5)) fun v24 =>
    some (v24)
  else
  if x1 = (nI 8) then
    q_b1 (q_rd I (this + 1) 3580 (nI 6)) fun v28 =>
    some (v28)
  else
  if x1 = (nI 9) then
    some ((I this 39))
  else
  if x1 = (nI 10) then
    some ((I this 14))
  else
  if x1 = (nI 11) then
    q_b1 (q_rd I (this + 1) 3580 (nI 0)) fun v34 =>
    some (v34)
  else
  if x1 = (nI 12) then
    q_b1 (f_X12_week this I) fun v37 =>
    some (v37)
  else
  if x1 = (nI 13) then
    q_fix (fun _ _ => none) (b_X12_count_236 this x1 I) q_fu (nI 0) (nI 0)
  else
  if x1 = (nI 14) then
    q_fix (fun _ _ => none) (b_X12_count_236 this x1 I) q_fu (nI 0) (nI 0)
  else
  some ((-1000000001))
set_option maxRecDepth 100000 in
set_option maxHeartbeats 4000000 in
theorem s_X12_count {l : Launch} {Γ : qC} (hΓ : q_gm Γ) {X : qX} (hX : q_Lay X) {this : Nat} {x1 : Int32} (k_this : q_kd X this = some (14, 42)) {I : qI} {z : Int32} (h : f_X12_count this x1 I = some z) : q_Sem l Γ (q_rm 5 0 0) yX12_count cX12_count 4 (some .int) [.ref this, .int x1] I X (some (.int z), I, X) := by
  refine q_met (by decide) (Nat.le_of_ble_eq_true rfl) (fun g hg hr => ?_)
  unfold f_X12_count at h
  show g 0 0 0 [(0, .ref this), (1, .int x1)] [] I X
  refine r_iconst hg dX12_count_0 ci_0 ?_
  refine r_istore_n hg (L' := [(2, .int (nI 0)), (0, .ref this), (1, .int x1)]) dX12_count_1 rfl (by decide) rfl ?_
  refine r_iload_n hg 2 dX12_count_2 rfl rfl ?_
  by_cases c1 : x1 = (nI 0)
  · rw [if_pos c1] at h
    refine r_tab hg 76 dX12_count_3 rfl (by rw [c1] <;> decide +kernel) (by decide) ?_
    refine r_aload_n hg 1 dX12_count_76 rfl rfl ?_
    have e2 := ly_12_0 hX k_this
    refine r_getR hg dX12_count_77 fl_X12_7 k_this rfl e2.1 ?_
    refine r_iconst hg dX12_count_80 ci_1 ?_
    obtain ⟨v3, e4, h⟩ := q_b1_some h
    refine r_iald hg dX12_count_81 e2.2 e4 ?_
    exact r_ireturn hr dX12_count_82 ⟨Nat.zero_le _, Nat.zero_le _⟩ ⟨_, rfl, rfl⟩ (by cases h; rfl)
  rw [if_neg c1] at h
  by_cases c5 : x1 = (nI 1)
  · rw [if_pos c5] at h
    refine r_tab hg 83 dX12_count_3 rfl (by rw [c5] <;> decide +kernel) (by decide) ?_
    refine r_aload_n hg 1 dX12_count_83 rfl rfl ?_
    have e6 := ly_12_0 hX k_this
    refine r_getR hg dX12_count_84 fl_X12_7 k_this rfl e6.1 ?_
    refine r_iconst hg dX12_count_87 ci_2 ?_
    obtain ⟨v7, e8, h⟩ := q_b1_some h
    refine r_iald hg dX12_count_88 e6.2 e8 ?_
    exact r_ireturn hr dX12_count_89 ⟨Nat.zero_le _, Nat.zero_le _⟩ ⟨_, rfl, rfl⟩ (by cases h; rfl)
  rw [if_neg c5] at h
  by_cases c9 : x1 = (nI 2)
  · rw [if_pos c9] at h
    refine r_tab hg 90 dX12_count_3 rfl (by rw [c9] <;> decide +kernel) (by decide) ?_
    refine r_aload_n hg 1 dX12_count_90 rfl rfl ?_
    refine r_iconst hg dX12_count_91 ci_2 ?_
    obtain ⟨v10, e11, h⟩ := q_b1_some h
    refine r_cV1i hg dX12_count_92 mt_X12_stands ml_X12_369 mv_X12_stands k_this (s_X12_stands hΓ hX k_this e11) (q_room (Nat.le_of_ble_eq_true rfl) (Nat.le_of_ble_eq_true rfl)) ⟨Nat.zero_le _, Nat.zero_le _⟩ (Nat.le_of_ble_eq_true rfl) ?_
    exact r_ireturn hr dX12_count_95 ⟨Nat.zero_le _, Nat.zero_le _⟩ ⟨_, rfl, rfl⟩ (by cases h; rfl)
  rw [if_neg c9] at h
  by_cases c12 : x1 = (nI 3)
  · rw [if_pos c12] at h
    refine r_tab hg 96 dX12_count_3 rfl (by rw [c12] <;> decide +kernel) (by decide) ?_
    refine r_aload_n hg 1 dX12_count_96 rfl rfl ?_
    have e13 := ly_12_0 hX k_this
    refine r_getR hg dX12_count_97 fl_X12_7 k_this rfl e13.1 ?_
    refine r_iconst hg dX12_count_100 ci_3 ?_
    obtain ⟨v14, e15, h⟩ := q_b1_some h
    refine r_iald hg dX12_count_101 e13.2 e15 ?_
    exact r_ireturn hr dX12_count_102 ⟨Nat.zero_le _, Nat.zero_le _⟩ ⟨_, rfl, rfl⟩ (by cases h; rfl)
  rw [if_neg c12] at h
  by_cases c16 : x1 = (nI 4)
  · rw [if_pos c16] at h
    refine r_tab hg 103 dX12_count_3 rfl (by rw [c16] <;> decide +kernel) (by decide) ?_
    refine r_iconst hg dX12_count_103 ci_0 ?_
    refine r_istore_n hg (L' := [(3, .int (nI 0)), (2, .int (nI 0)), (0, .ref this), (1, .int x1)]) dX12_count_104 rfl (by decide) rfl ?_
    refine r_sub hg [2, 1, 0] rfl ?_
    exact pl_X12_count_105 hΓ hg hr hX k_this _ _ _ h
  rw [if_neg c16] at h
  by_cases c17 : x1 = (nI 5)
  · rw [if_pos c17] at h
    refine r_tab hg 146 dX12_count_3 rfl (by rw [c17] <;> decide +kernel) (by decide) ?_
    refine r_iconst hg dX12_count_146 ci_0 ?_
    refine r_istore_n hg (L' := [(3, .int (nI 0)), (2, .int (nI 0)), (0, .ref this), (1, .int x1)]) dX12_count_147 rfl (by decide) rfl ?_
    refine r_sub hg [2, 1, 0] rfl ?_
    exact pl_X12_count_148 hΓ hg hr hX k_this _ _ _ h
  rw [if_neg c17] at h
  by_cases c18 : x1 = (nI 6)
  · rw [if_pos c18] at h
    refine r_tab hg 190 dX12_count_3 rfl (by rw [c18] <;> decide +kernel) (by decide) ?_
    refine r_aload_n hg 1 dX12_count_190 rfl rfl ?_
    have e19 := ly_12_0 hX k_this
    refine r_getR hg dX12_count_191 fl_X12_7 k_this rfl e19.1 ?_
    refine r_iconst hg dX12_count_194 ci_4 ?_
    obtain ⟨v20, e21, h⟩ := q_b1_some h
    refine r_iald hg dX12_count_195 e19.2 e21 ?_
    exact r_ireturn hr dX12_count_196 ⟨Nat.zero_le _, Nat.zero_le _⟩ ⟨_, rfl, rfl⟩ (by cases h; rfl)
  rw [if_neg c18] at h
  by_cases c22 : x1 = (nI 7)
  · rw [if_pos c22] at h
    refine r_tab hg 197 dX12_count_3 rfl (by rw [c22] <;> decide +kernel) (by decide) ?_
    refine r_aload_n hg 1 dX12_count_197 rfl rfl ?_
    have e23 := ly_12_0 hX k_this
    refine r_getR hg dX12_count_198 fl_X12_7 k_this rfl e23.1 ?_
    refine r_iconst hg dX12_count_201 ci_5 ?_
    obtain ⟨v24, e25, h⟩ := q_b1_some h
    refine r_iald hg dX12_count_202 e23.2 e25 ?_
    exact r_ireturn hr dX12_count_203 ⟨Nat.zero_le _, Nat.zero_le _⟩ ⟨_, rfl, rfl⟩ (by cases h; rfl)
  rw [if_neg c22] at h
  by_cases c26 : x1 = (nI 8)
  · rw [if_pos c26] at h
    refine r_tab hg 204 dX12_count_3 rfl (by rw [c26] <;> decide +kernel) (by decide) ?_
    refine r_aload_n hg 1 dX12_count_204 rfl rfl ?_
    have e27 := ly_12_0 hX k_this
    refine r_getR hg dX12_count_205 fl_X12_7 k_this rfl e27.1 ?_
    refine r_bipush hg dX12_count_208 cb_6 ?_
    obtain ⟨v28, e29, h⟩ := q_b1_some h
    refine r_iald hg dX12_count_210 e27.2 e29 ?_
    exact r_ireturn hr dX12_count_211 ⟨Nat.zero_le _, Nat.zero_le _⟩ ⟨_, rfl, rfl⟩ (by cases h; rfl)
  rw [if_neg c26] at h
  by_cases c30 : x1 = (nI 9)
  · rw [if_pos c30] at h
    refine r_tab hg 212 dX12_count_3 rfl (by rw [c30] <;> decide +kernel) (by decide) ?_
    refine r_aload_n hg 1 dX12_count_212 rfl rfl ?_
    refine r_getI hg dX12_count_213 fl_X12_431 k_this rfl ?_
    exact r_ireturn hr dX12_count_216 ⟨Nat.zero_le _, Nat.zero_le _⟩ ⟨_, rfl, rfl⟩ (by cases h; rfl)
  rw [if_neg c30] at h
  by_cases c31 : x1 = (nI 10)
  · rw [if_pos c31] at h
    refine r_tab hg 217 dX12_count_3 rfl (by rw [c31] <;> decide +kernel) (by decide) ?_
    refine r_aload_n hg 1 dX12_count_217 rfl rfl ?_
    refine r_getI hg dX12_count_218 fl_X12_215 k_this rfl ?_
    exact r_ireturn hr dX12_count_221 ⟨Nat.zero_le _, Nat.zero_le _⟩ ⟨_, rfl, rfl⟩ (by cases h; rfl)
  rw [if_neg c31] at h
  by_cases c32 : x1 = (nI 11)
  · rw [if_pos c32] at h
    refine r_tab hg 222 dX12_count_3 rfl (by rw [c32] <;> decide +kernel) (by decide) ?_
    refine r_aload_n hg 1 dX12_count_222 rfl rfl ?_
    have e33 := ly_12_0 hX k_this
    refine r_getR hg dX12_count_223 fl_X12_7 k_this rfl e33.1 ?_
    refine r_iconst hg dX12_count_226 ci_0 ?_
    obtain ⟨v34, e35, h⟩ := q_b1_some h
    refine r_iald hg dX12_count_227 e33.2 e35 ?_
    exact r_ireturn hr dX12_count_228 ⟨Nat.zero_le _, Nat.zero_le _⟩ ⟨_, rfl, rfl⟩ (by cases h; rfl)
  rw [if_neg c32] at h
  by_cases c36 : x1 = (nI 12)
  · rw [if_pos c36] at h
    refine r_tab hg 229 dX12_count_3 rfl (by rw [c36] <;> decide +kernel) (by decide) ?_
    refine r_aload_n hg 1 dX12_count_229 rfl rfl ?_
    obtain ⟨v37, e38, h⟩ := q_b1_some h
    refine r_cV0i hg dX12_count_230 mt_X12_week ml_X12_184 mv_X12_week k_this (s_X12_week hΓ hX k_this e38) (q_room (Nat.le_of_ble_eq_true rfl) (Nat.le_of_ble_eq_true rfl)) ⟨Nat.zero_le _, Nat.zero_le _⟩ (Nat.le_of_ble_eq_true rfl) ?_
    exact r_ireturn hr dX12_count_233 ⟨Nat.zero_le _, Nat.zero_le _⟩ ⟨_, rfl, rfl⟩ (by cases h; rfl)
  rw [if_neg c36] at h
  by_cases c39 : x1 = (nI 13)
  · rw [if_pos c39] at h
    refine r_tab hg 234 dX12_count_3 rfl (by rw [c39] <;> decide +kernel) (by decide) ?_
    refine r_iconst hg dX12_count_234 ci_0 ?_
    refine r_istore_n hg (L' := [(3, .int (nI 0)), (2, .int (nI 0)), (0, .ref this), (1, .int x1)]) dX12_count_235 rfl (by decide) rfl ?_
    refine r_sub hg [2, 3, 1, 0] rfl ?_
    exact pl_X12_count_236 hΓ hg hr hX k_this _ _ _ h
  rw [if_neg c39] at h
  by_cases c40 : x1 = (nI 14)
  · rw [if_pos c40] at h
    refine r_tab hg 234 dX12_count_3 rfl (by rw [c40] <;> decide +kernel) (by decide) ?_
    refine r_iconst hg dX12_count_234 ci_0 ?_
    refine r_istore_n hg (L' := [(3, .int (nI 0)), (2, .int (nI 0)), (0, .ref this), (1, .int x1)]) dX12_count_235 rfl (by decide) rfl ?_
    refine r_sub hg [2, 3, 1, 0] rfl ?_
    exact pl_X12_count_236 hΓ hg hr hX k_this _ _ _ h
  rw [if_neg c40] at h
  refine r_tab hg 272 dX12_count_3 rfl (q_tab_d (fun k hk ho => ?_)) (by decide) ?_
  · have hk : k < 15 := hk
    rcases (show k = 0 ∨ k = 1 ∨ k = 2 ∨ k = 3 ∨ k = 4 ∨ k = 5 ∨ k = 6 ∨ k = 7 ∨ k = 8 ∨ k = 9 ∨ k = 10 ∨ k = 11 ∨ k = 12 ∨ k = 13 ∨ k = 14 by omega) with rfl | rfl | rfl | rfl | rfl | rfl | rfl | rfl | rfl | rfl | rfl | rfl | rfl | rfl | rfl
    · exact lv_neT c1 (by decide +kernel)
    · exact lv_neT c5 (by decide +kernel)
    · exact lv_neT c9 (by decide +kernel)
    · exact lv_neT c12 (by decide +kernel)
    · exact lv_neT c16 (by decide +kernel)
    · exact lv_neT c17 (by decide +kernel)
    · exact lv_neT c18 (by decide +kernel)
    · exact lv_neT c22 (by decide +kernel)
    · exact lv_neT c26 (by decide +kernel)
    · exact lv_neT c30 (by decide +kernel)
    · exact lv_neT c31 (by decide +kernel)
    · exact lv_neT c32 (by decide +kernel)
    · exact lv_neT c36 (by decide +kernel)
    · exact lv_neT c39 (by decide +kernel)
    · exact lv_neT c40 (by decide +kernel)
  refine r_ldc hg dX12_count_272 kc_X12_90 ?_
  exact r_ireturn hr dX12_count_274 ⟨Nat.zero_le _, Nat.zero_le _⟩ ⟨_, rfl, rfl⟩ (by cases h; rfl)

def f_X12_digs (this : Nat) (x1 : Int32) (I : qI) : Option (qI) :=
  q_b1 (f_X12_manAt this x1) fun v1 =>
  q_b1 (q_rd I (this + 1) 3580 v1) fun v4 =>
  q_b1 (q_rd I (this + 1) 3580 (v1 + (nI 1))) fun v7 =>
  q_b1 (q_rd I (this + 1) 3580 ((nI 10) + ((nI 5) * v4))) fun v10 =>
  q_b1 (q_rd I (this + 1) 3580 (((nI 10) + ((nI 5) * v4)) + (nI 1))) fun v13 =>
  q_b1 (q_rd I (this + 1) 3580 (v1 + (nI 1))) fun v16 =>
  q_b2 (f_X12_wageOf this (((v7 * v10) * v13) / (nI 100)) v16 I) fun v18 I19 =>
  q_b1 (q_rd I19 (this + 1) 3580 (v1 + (nI 10))) fun v23 =>
  q_b1 (f_X12_dueAt this v23) fun v25 =>
  q_b1 (q_rd I19 (this + 1) 3580 (v25 + (nI 2))) fun v27 =>
  q_b1 (q_wr I19 (this + 1) 3580 (v25 + (nI 2)) (v27 + v18)) fun I29 =>
  q_b1 (q_rd I29 (this + 1) 3580 (v1 + (nI 8))) fun v32 =>
  q_b1 (q_rd I29 (this + 1) 3580 (v1 + (nI 1))) fun v35 =>
  q_b2 (f_X12_wageOf this (v7 * v10) v35 I29) fun v37 I38 =>
  q_b1 (q_wr I38 (this + 1) 3580 (v1 + (nI 8)) (v32 + (v37 - v18))) fun I40 =>
  q_b1 (q_rd I40 (this + 1) 3580 (((nI 10) + ((nI 5) * v4)) + (nI 2))) fun v43 =>
  q_b1 (q_wr I40 (this + 1) 3580 (((nI 10) + ((nI 5) * v4)) + (nI 2)) (v43 + (v7 * v10))) fun I45 =>
  q_b1 (q_rd I45 (this + 1) 3580 (((nI 10) + ((nI 5) * v4)) + (nI 3))) fun v48 =>
  q_b1 (q_wr I45 (this + 1) 3580 (((nI 10) + ((nI 5) * v4)) + (nI 3)) (v48 + (((v7 * v10) * v13) / (nI 100)))) fun I50 =>
  q_b1 (q_rd I50 (this + 1) 3580 (((nI 10) + ((nI 5) * v4)) + (nI 4))) fun v53 =>
  q_b1 (q_rd I50 (this + 1) 3580 (v1 + (nI 1))) fun v56 =>
  q_b1 (q_wr I50 (this + 1) 3580 (((nI 10) + ((nI 5) * v4)) + (nI 4)) (v53 + v56)) fun I58 =>
  some (I58)
set_option maxRecDepth 100000 in
set_option maxHeartbeats 4000000 in
theorem s_X12_digs {l : Launch} {Γ : qC} (hΓ : q_gm Γ) {X : qX} (hX : q_Lay X) {this : Nat} {x1 : Int32} (k_this : q_kd X this = some (14, 42)) {I : qI} {z : qI} (h : f_X12_digs this x1 I = some z) : q_Sem l Γ (q_rm 5 0 0) yX12_digs cX12_digs 7 none [.ref this, .int x1] I X (none, z, X) := by
  refine q_met (by decide) (Nat.le_of_ble_eq_true rfl) (fun g hg hr => ?_)
  unfold f_X12_digs at h
  show g 0 0 0 [(0, .ref this), (1, .int x1)] [] I X
  refine r_aload_n hg 0 dX12_digs_0 rfl rfl ?_
  refine r_iload_n hg 1 dX12_digs_1 rfl rfl ?_
  obtain ⟨v1, e2, h⟩ := q_b1_some h
  refine r_cV1i hg dX12_digs_2 mt_X12_manAt ml_X12_68 mv_X12_manAt k_this (s_X12_manAt hΓ hX k_this e2) (q_room (Nat.le_of_ble_eq_true rfl) (Nat.le_of_ble_eq_true rfl)) ⟨Nat.zero_le _, Nat.zero_le _⟩ (Nat.le_of_ble_eq_true rfl) ?_
  refine r_istore_n hg (L' := [(2, .int v1), (0, .ref this), (1, .int x1)]) dX12_digs_5 rfl (by decide) rfl ?_
  refine r_bipush hg dX12_digs_6 cb_10 ?_
  refine r_iconst hg dX12_digs_8 ci_5 ?_
  refine r_aload_n hg 1 dX12_digs_9 rfl rfl ?_
  have e3 := ly_12_0 hX k_this
  refine r_getR hg dX12_digs_10 fl_X12_7 k_this rfl e3.1 ?_
  refine r_iload_n hg 0 dX12_digs_13 rfl rfl ?_
  obtain ⟨v4, e5, h⟩ := q_b1_some h
  refine r_iald hg dX12_digs_14 e3.2 e5 ?_
  refine r_imul hg dX12_digs_15 ?_
  refine r_iadd hg dX12_digs_16 ?_
  refine r_istore_n hg (L' := [(3, .int ((nI 10) + ((nI 5) * v4))), (2, .int v1), (0, .ref this), (1, .int x1)]) dX12_digs_17 rfl (by decide) rfl ?_
  refine r_aload_n hg 2 dX12_digs_18 rfl rfl ?_
  have e6 := ly_12_0 hX k_this
  refine r_getR hg dX12_digs_19 fl_X12_7 k_this rfl e6.1 ?_
  refine r_iload_n hg 1 dX12_digs_22 rfl rfl ?_
  refine r_iconst hg dX12_digs_23 ci_1 ?_
  refine r_iadd hg dX12_digs_24 ?_
  obtain ⟨v7, e8, h⟩ := q_b1_some h
  refine r_iald hg dX12_digs_25 e6.2 e8 ?_
  refine r_aload_n hg 2 dX12_digs_26 rfl rfl ?_
  have e9 := ly_12_0 hX k_this
  refine r_getR hg dX12_digs_27 fl_X12_7 k_this rfl e9.1 ?_
  refine r_iload_n hg 0 dX12_digs_30 rfl rfl ?_
  obtain ⟨v10, e11, h⟩ := q_b1_some h
  refine r_iald hg dX12_digs_31 e9.2 e11 ?_
  refine r_imul hg dX12_digs_32 ?_
  refine r_istore hg (L' := [(4, .int (v7 * v10)), (3, .int ((nI 10) + ((nI 5) * v4))), (2, .int v1), (0, .ref this), (1, .int x1)]) dX12_digs_33 (by decide) rfl ?_
  refine r_iload hg 0 dX12_digs_35 rfl ?_
  refine r_aload_n hg 3 dX12_digs_37 rfl rfl ?_
  have e12 := ly_12_0 hX k_this
  refine r_getR hg dX12_digs_38 fl_X12_7 k_this rfl e12.1 ?_
  refine r_iload_n hg 1 dX12_digs_41 rfl rfl ?_
  refine r_iconst hg dX12_digs_42 ci_1 ?_
  refine r_iadd hg dX12_digs_43 ?_
  obtain ⟨v13, e14, h⟩ := q_b1_some h
  refine r_iald hg dX12_digs_44 e12.2 e14 ?_
  refine r_imul hg dX12_digs_45 ?_
  refine r_bipush hg dX12_digs_46 cb_100 ?_
  refine r_idiv hg dX12_digs_48 nz_100 ?_
  refine r_istore hg (L' := [(5, .int (((v7 * v10) * v13) / (nI 100))), (4, .int (v7 * v10)), (3, .int ((nI 10) + ((nI 5) * v4))), (2, .int v1), (0, .ref this), (1, .int x1)]) dX12_digs_49 (by decide) rfl ?_
  refine r_aload_n hg 4 dX12_digs_51 rfl rfl ?_
  refine r_iload hg 0 dX12_digs_52 rfl ?_
  refine r_aload_n hg 4 dX12_digs_54 rfl rfl ?_
  have e15 := ly_12_0 hX k_this
  refine r_getR hg dX12_digs_55 fl_X12_7 k_this rfl e15.1 ?_
  refine r_iload_n hg 3 dX12_digs_58 rfl rfl ?_
  refine r_iconst hg dX12_digs_59 ci_1 ?_
  refine r_iadd hg dX12_digs_60 ?_
  obtain ⟨v16, e17, h⟩ := q_b1_some h
  refine r_iald hg dX12_digs_61 e15.2 e17 ?_
  obtain ⟨v18, I19, e20, h⟩ := q_b2_some h
  refine r_cV2i hg dX12_digs_62 mt_X12_wageOf ml_X12_129 mv_X12_wageOf k_this (s_X12_wageOf hΓ hX k_this e20) (q_room (Nat.le_of_ble_eq_true rfl) (Nat.le_of_ble_eq_true rfl)) ⟨Nat.zero_le _, Nat.zero_le _⟩ (Nat.le_of_ble_eq_true rfl) ?_
  refine r_istore hg (L' := [(6, .int v18), (5, .int (((v7 * v10) * v13) / (nI 100))), (4, .int (v7 * v10)), (3, .int ((nI 10) + ((nI 5) * v4))), (2, .int v1), (0, .ref this), (1, .int x1)]) dX12_digs_65 (by decide) rfl ?_
  refine r_aload_n hg 5 dX12_digs_67 rfl rfl ?_
  have e21 := ly_12_0 hX k_this
  refine r_getR hg dX12_digs_68 fl_X12_7 k_this rfl e21.1 ?_
  refine r_aload_n hg 5 dX12_digs_71 rfl rfl ?_
  refine r_aload_n hg 5 dX12_digs_72 rfl rfl ?_
  have e22 := ly_12_0 hX k_this
  refine r_getR hg dX12_digs_73 fl_X12_7 k_this rfl e22.1 ?_
  refine r_iload_n hg 4 dX12_digs_76 rfl rfl ?_
  refine r_bipush hg dX12_digs_77 cb_10 ?_
  refine r_iadd hg dX12_digs_79 ?_
  obtain ⟨v23, e24, h⟩ := q_b1_some h
  refine r_iald hg dX12_digs_80 e22.2 e24 ?_
  obtain ⟨v25, e26, h⟩ := q_b1_some h
  refine r_cV1i hg dX12_digs_81 mt_X12_dueAt ml_X12_75 mv_X12_dueAt k_this (s_X12_dueAt hΓ hX k_this e26) (q_room (Nat.le_of_ble_eq_true rfl) (Nat.le_of_ble_eq_true rfl)) ⟨Nat.zero_le _, Nat.zero_le _⟩ (Nat.le_of_ble_eq_true rfl) ?_
  refine r_iconst hg dX12_digs_84 ci_2 ?_
  refine r_iadd hg dX12_digs_85 ?_
  refine r_dup2 hg dX12_digs_86 rfl rfl ?_
  obtain ⟨v27, e28, h⟩ := q_b1_some h
  refine r_iald hg dX12_digs_87 e21.2 e28 ?_
  refine r_iload hg 0 dX12_digs_88 rfl ?_
  refine r_iadd hg dX12_digs_90 ?_
  obtain ⟨I29, e30, h⟩ := q_b1_some h
  refine r_iast hg dX12_digs_91 e21.2 e30 ?_
  refine r_aload_n hg 5 dX12_digs_92 rfl rfl ?_
  have e31 := ly_12_0 hX k_this
  refine r_getR hg dX12_digs_93 fl_X12_7 k_this rfl e31.1 ?_
  refine r_iload_n hg 4 dX12_digs_96 rfl rfl ?_
  refine r_bipush hg dX12_digs_97 cb_8 ?_
  refine r_iadd hg dX12_digs_99 ?_
  refine r_dup2 hg dX12_digs_100 rfl rfl ?_
  obtain ⟨v32, e33, h⟩ := q_b1_some h
  refine r_iald hg dX12_digs_101 e31.2 e33 ?_
  refine r_aload_n hg 5 dX12_digs_102 rfl rfl ?_
  refine r_iload hg 2 dX12_digs_103 rfl ?_
  refine r_aload_n hg 5 dX12_digs_105 rfl rfl ?_
  have e34 := ly_12_0 hX k_this
  refine r_getR hg dX12_digs_106 fl_X12_7 k_this rfl e34.1 ?_
  refine r_iload_n hg 4 dX12_digs_109 rfl rfl ?_
  refine r_iconst hg dX12_digs_110 ci_1 ?_
  refine r_iadd hg dX12_digs_111 ?_
  obtain ⟨v35, e36, h⟩ := q_b1_some h
  refine r_iald hg dX12_digs_112 e34.2 e36 ?_
  obtain ⟨v37, I38, e39, h⟩ := q_b2_some h
  refine r_cV2i hg dX12_digs_113 mt_X12_wageOf ml_X12_129 mv_X12_wageOf k_this (s_X12_wageOf hΓ hX k_this e39) (q_room (Nat.le_of_ble_eq_true rfl) (Nat.le_of_ble_eq_true rfl)) ⟨Nat.zero_le _, Nat.zero_le _⟩ (Nat.le_of_ble_eq_true rfl) ?_
  refine r_iload hg 0 dX12_digs_116 rfl ?_
  refine r_isub hg dX12_digs_118 ?_
  refine r_iadd hg dX12_digs_119 ?_
  obtain ⟨I40, e41, h⟩ := q_b1_some h
  refine r_iast hg dX12_digs_120 e31.2 e41 ?_
  refine r_aload_n hg 5 dX12_digs_121 rfl rfl ?_
  have e42 := ly_12_0 hX k_this
  refine r_getR hg dX12_digs_122 fl_X12_7 k_this rfl e42.1 ?_
  refine r_iload_n hg 3 dX12_digs_125 rfl rfl ?_
  refine r_iconst hg dX12_digs_126 ci_2 ?_
  refine r_iadd hg dX12_digs_127 ?_
  refine r_dup2 hg dX12_digs_128 rfl rfl ?_
  obtain ⟨v43, e44, h⟩ := q_b1_some h
  refine r_iald hg dX12_digs_129 e42.2 e44 ?_
  refine r_iload hg 2 dX12_digs_130 rfl ?_
  refine r_iadd hg dX12_digs_132 ?_
  obtain ⟨I45, e46, h⟩ := q_b1_some h
  refine r_iast hg dX12_digs_133 e42.2 e46 ?_
  refine r_aload_n hg 5 dX12_digs_134 rfl rfl ?_
  have e47 := ly_12_0 hX k_this
  refine r_getR hg dX12_digs_135 fl_X12_7 k_this rfl e47.1 ?_
  refine r_iload_n hg 3 dX12_digs_138 rfl rfl ?_
  refine r_iconst hg dX12_digs_139 ci_3 ?_
  refine r_iadd hg dX12_digs_140 ?_
  refine r_dup2 hg dX12_digs_141 rfl rfl ?_
  obtain ⟨v48, e49, h⟩ := q_b1_some h
  refine r_iald hg dX12_digs_142 e47.2 e49 ?_
  refine r_iload hg 1 dX12_digs_143 rfl ?_
  refine r_iadd hg dX12_digs_145 ?_
  obtain ⟨I50, e51, h⟩ := q_b1_some h
  refine r_iast hg dX12_digs_146 e47.2 e51 ?_
  refine r_aload_n hg 5 dX12_digs_147 rfl rfl ?_
  have e52 := ly_12_0 hX k_this
  refine r_getR hg dX12_digs_148 fl_X12_7 k_this rfl e52.1 ?_
  refine r_iload_n hg 3 dX12_digs_151 rfl rfl ?_
  refine r_iconst hg dX12_digs_152 ci_4 ?_
  refine r_iadd hg dX12_digs_153 ?_
  refine r_dup2 hg dX12_digs_154 rfl rfl ?_
  obtain ⟨v53, e54, h⟩ := q_b1_some h
  refine r_iald hg dX12_digs_155 e52.2 e54 ?_
  refine r_aload_n hg 5 dX12_digs_156 rfl rfl ?_
  have e55 := ly_12_0 hX k_this
  refine r_getR hg dX12_digs_157 fl_X12_7 k_this rfl e55.1 ?_
  refine r_iload_n hg 4 dX12_digs_160 rfl rfl ?_
  refine r_iconst hg dX12_digs_161 ci_1 ?_
  refine r_iadd hg dX12_digs_162 ?_
  obtain ⟨v56, e57, h⟩ := q_b1_some h
  refine r_iald hg dX12_digs_163 e55.2 e57 ?_
  refine r_iadd hg dX12_digs_164 ?_
  obtain ⟨I58, e59, h⟩ := q_b1_some h
  refine r_iast hg dX12_digs_165 e52.2 e59 ?_
  exact r_return hr dX12_digs_166 ⟨Nat.zero_le _, Nat.zero_le _⟩ rfl (by cases h; rfl)

def b_X12_draw_29 (this : Nat) (x1 : Int32) (x2 : Int32) (x3 : Int32) (s2 : Int32) (I : qI) : Option (Int32 × qI) :=
  q_b1 (f_X12_gets this x1 s2 x2 I) fun I1 =>
  q_b2 (f_X12_newDue this (nI 2) x1 x2 x3 I1) fun v3 I4 =>
  some (v3, I4)
set_option maxRecDepth 100000 in
set_option maxHeartbeats 4000000 in
theorem p_X12_draw_29 {l : Launch} {Γ : qC} {g : qG} {z : Int32 × qI} {this : Nat} {x1 : Int32} {x2 : Int32} {x3 : Int32} {X : qX} (hΓ : q_gm Γ) (hg : q_Ok l Γ RX12 cX12_draw 5 (q_rm 5 0 0) "draw" (some .int) g) (hr : q_Rt cX12_draw (some .int) (q_rm 5 0 0) (some (.int z.1), z.2, X) g) (hX : q_Lay X) (k_this : q_kd X this = some (14, 42)) (s2 : Int32) (I : qI) (h : b_X12_draw_29 this x1 x2 x3 s2 I = some z) : g 0 0 29 [(0, .ref this), (1, .int x1), (2, .int x2), (3, .int x3)] [.int s2, .int x1, .ref this] I X := by
  unfold b_X12_draw_29 at h
  refine r_iload_n hg 2 dX12_draw_29 rfl rfl ?_
  obtain ⟨I1, e2, h⟩ := q_b1_some h
  refine r_cV3v hg dX12_draw_30 mt_X12_gets ml_X12_350 mv_X12_gets k_this (s_X12_gets hΓ hX k_this e2) (q_room (Nat.le_of_ble_eq_true rfl) (Nat.le_of_ble_eq_true rfl)) ⟨Nat.zero_le _, Nat.zero_le _⟩ (Nat.le_of_ble_eq_true rfl) ?_
  refine r_aload_n hg 0 dX12_draw_33 rfl rfl ?_
  refine r_iconst hg dX12_draw_34 ci_2 ?_
  refine r_iload_n hg 1 dX12_draw_35 rfl rfl ?_
  refine r_iload_n hg 2 dX12_draw_36 rfl rfl ?_
  refine r_iload_n hg 3 dX12_draw_37 rfl rfl ?_
  obtain ⟨v3, I4, e5, h⟩ := q_b2_some h
  refine r_cV4i hg dX12_draw_38 mt_X12_newDue ml_X12_106 mv_X12_newDue k_this (s_X12_newDue hΓ hX k_this e5) (q_room (Nat.le_of_ble_eq_true rfl) (Nat.le_of_ble_eq_true rfl)) ⟨Nat.zero_le _, Nat.zero_le _⟩ (Nat.le_of_ble_eq_true rfl) ?_
  exact r_ireturn hr dX12_draw_41 ⟨Nat.zero_le _, Nat.zero_le _⟩ ⟨_, rfl, rfl⟩ (by cases h; rfl)
def f_X12_draw (this : Nat) (x1 : Int32) (x2 : Int32) (x3 : Int32) (I : qI) : Option (Int32 × qI) :=
  q_b1 (f_X12_refused this x1 x2 x3 (nI 1) I) fun v1 =>
  if v1 = 0 then
    if x3 = 0 then
      b_X12_draw_29 this x1 x2 x3 (nI 5) I
    else
      b_X12_draw_29 this x1 x2 x3 (nI 4) I
  else
    some (v1, I)
set_option maxRecDepth 100000 in
set_option maxHeartbeats 4000000 in
theorem s_X12_draw {l : Launch} {Γ : qC} (hΓ : q_gm Γ) {X : qX} (hX : q_Lay X) {this : Nat} {x1 : Int32} {x2 : Int32} {x3 : Int32} (k_this : q_kd X this = some (14, 42)) {I : qI} {z : Int32 × qI} (h : f_X12_draw this x1 x2 x3 I = some z) : q_Sem l Γ (q_rm 5 0 0) yX12_draw cX12_draw 5 (some .int) [.ref this, .int x1, .int x2, .int x3] I X (some (.int z.1), z.2, X) := by
  refine q_met (by decide) (Nat.le_of_ble_eq_true rfl) (fun g hg hr => ?_)
  unfold f_X12_draw at h
  show g 0 0 0 [(0, .ref this), (1, .int x1), (2, .int x2), (3, .int x3)] [] I X
  refine r_aload_n hg 0 dX12_draw_0 rfl rfl ?_
  refine r_iload_n hg 1 dX12_draw_1 rfl rfl ?_
  refine r_iload_n hg 2 dX12_draw_2 rfl rfl ?_
  refine r_iload_n hg 3 dX12_draw_3 rfl rfl ?_
  refine r_iconst hg dX12_draw_4 ci_1 ?_
  obtain ⟨v1, e2, h⟩ := q_b1_some h
  refine r_cV4i hg dX12_draw_5 mt_X12_refused ml_X12_347 mv_X12_refused k_this (s_X12_refused hΓ hX k_this e2) (q_room (Nat.le_of_ble_eq_true rfl) (Nat.le_of_ble_eq_true rfl)) ⟨Nat.zero_le _, Nat.zero_le _⟩ (Nat.le_of_ble_eq_true rfl) ?_
  refine r_istore hg (L' := [(4, .int v1), (0, .ref this), (1, .int x1), (2, .int x2), (3, .int x3)]) dX12_draw_8 (by decide) rfl ?_
  refine r_iload hg 0 dX12_draw_10 rfl ?_
  refine r_if_eq hg 18 dX12_draw_12 (by decide) (fun c3 => ?_) (fun c3 => ?_)
  · rw [if_pos c3] at h
    refine r_aload_n hg 1 dX12_draw_18 rfl rfl ?_
    refine r_iload_n hg 2 dX12_draw_19 rfl rfl ?_
    refine r_iload_n hg 4 dX12_draw_20 rfl rfl ?_
    refine r_if_ne hg 28 dX12_draw_21 (by decide) (fun c4 => ?_) (fun c4 => ?_)
    · rw [if_neg c4] at h
      refine r_iconst hg dX12_draw_28 ci_4 ?_
      refine r_sub hg [1, 2, 3, 4] rfl ?_
      exact p_X12_draw_29 hΓ hg hr hX k_this _ _ h
    · rw [if_pos (Classical.not_not.mp c4)] at h
      refine r_iconst hg dX12_draw_24 ci_5 ?_
      refine r_goto hg 29 dX12_draw_25 (by decide) ?_
      refine r_sub hg [1, 2, 3, 4] rfl ?_
      exact p_X12_draw_29 hΓ hg hr hX k_this _ _ h
  · rw [if_neg c3] at h
    refine r_iload hg 0 dX12_draw_15 rfl ?_
    exact r_ireturn hr dX12_draw_17 ⟨Nat.zero_le _, Nat.zero_le _⟩ ⟨_, rfl, rfl⟩ (by cases h; rfl)

def f_X12_dueOf (this : Nat) (I : qI) : Option (Int32 × qI) :=
  q_b1 (f_X12_week this I) fun v1 =>
  q_b2 (f_X12_dueFor this v1 I) fun v3 I4 =>
  some (v3, I4)
set_option maxRecDepth 100000 in
set_option maxHeartbeats 4000000 in
theorem s_X12_dueOf {l : Launch} {Γ : qC} (hΓ : q_gm Γ) {X : qX} (hX : q_Lay X) {this : Nat} (k_this : q_kd X this = some (14, 42)) {I : qI} {z : Int32 × qI} (h : f_X12_dueOf this I = some z) : q_Sem l Γ (q_rm 5 0 0) yX12_dueOf cX12_dueOf 1 (some .int) [.ref this] I X (some (.int z.1), z.2, X) := by
  refine q_met (by decide) (Nat.le_of_ble_eq_true rfl) (fun g hg hr => ?_)
  unfold f_X12_dueOf at h
  show g 0 0 0 [(0, .ref this)] [] I X
  refine r_aload_n hg 0 dX12_dueOf_0 rfl rfl ?_
  refine r_aload_n hg 0 dX12_dueOf_1 rfl rfl ?_
  obtain ⟨v1, e2, h⟩ := q_b1_some h
  refine r_cV0i hg dX12_dueOf_2 mt_X12_week ml_X12_184 mv_X12_week k_this (s_X12_week hΓ hX k_this e2) (q_room (Nat.le_of_ble_eq_true rfl) (Nat.le_of_ble_eq_true rfl)) ⟨Nat.zero_le _, Nat.zero_le _⟩ (Nat.le_of_ble_eq_true rfl) ?_
  obtain ⟨v3, I4, e5, h⟩ := q_b2_some h
  refine r_cV1i hg dX12_dueOf_5 mt_X12_dueFor ml_X12_328 mv_X12_dueFor k_this (s_X12_dueFor hΓ hX k_this e5) (q_room (Nat.le_of_ble_eq_true rfl) (Nat.le_of_ble_eq_true rfl)) ⟨Nat.zero_le _, Nat.zero_le _⟩ (Nat.le_of_ble_eq_true rfl) ?_
  exact r_ireturn hr dX12_dueOf_8 ⟨Nat.zero_le _, Nat.zero_le _⟩ ⟨_, rfl, rfl⟩ (by cases h; rfl)

def f_X12_fine (this : Nat) (x1 : Int32) (x2 : Int32) (x3 : Int32) (I : qI) : Option (Int32 × qI) :=
  q_b1 (f_X12_refused this x1 x2 x3 (nI 9) I) fun v1 =>
  if v1 = 0 then
    q_b2 (f_X12_newDue this (nI 4) x1 x2 x3 I) fun v4 I5 =>
    some (v4, I5)
  else
    some (v1, I)
set_option maxRecDepth 100000 in
set_option maxHeartbeats 4000000 in
theorem s_X12_fine {l : Launch} {Γ : qC} (hΓ : q_gm Γ) {X : qX} (hX : q_Lay X) {this : Nat} {x1 : Int32} {x2 : Int32} {x3 : Int32} (k_this : q_kd X this = some (14, 42)) {I : qI} {z : Int32 × qI} (h : f_X12_fine this x1 x2 x3 I = some z) : q_Sem l Γ (q_rm 5 0 0) yX12_fine cX12_fine 5 (some .int) [.ref this, .int x1, .int x2, .int x3] I X (some (.int z.1), z.2, X) := by
  refine q_met (by decide) (Nat.le_of_ble_eq_true rfl) (fun g hg hr => ?_)
  unfold f_X12_fine at h
  show g 0 0 0 [(0, .ref this), (1, .int x1), (2, .int x2), (3, .int x3)] [] I X
  refine r_aload_n hg 0 dX12_fine_0 rfl rfl ?_
  refine r_iload_n hg 1 dX12_fine_1 rfl rfl ?_
  refine r_iload_n hg 2 dX12_fine_2 rfl rfl ?_
  refine r_iload_n hg 3 dX12_fine_3 rfl rfl ?_
  refine r_bipush hg dX12_fine_4 cb_9 ?_
  obtain ⟨v1, e2, h⟩ := q_b1_some h
  refine r_cV4i hg dX12_fine_6 mt_X12_refused ml_X12_347 mv_X12_refused k_this (s_X12_refused hΓ hX k_this e2) (q_room (Nat.le_of_ble_eq_true rfl) (Nat.le_of_ble_eq_true rfl)) ⟨Nat.zero_le _, Nat.zero_le _⟩ (Nat.le_of_ble_eq_true rfl) ?_
  refine r_istore hg (L' := [(4, .int v1), (0, .ref this), (1, .int x1), (2, .int x2), (3, .int x3)]) dX12_fine_9 (by decide) rfl ?_
  refine r_iload hg 0 dX12_fine_11 rfl ?_
  refine r_if_eq hg 21 dX12_fine_13 (by decide) (fun c3 => ?_) (fun c3 => ?_)
  · rw [if_pos c3] at h
    refine r_aload_n hg 1 dX12_fine_21 rfl rfl ?_
    refine r_iconst hg dX12_fine_22 ci_4 ?_
    refine r_iload_n hg 2 dX12_fine_23 rfl rfl ?_
    refine r_iload_n hg 3 dX12_fine_24 rfl rfl ?_
    refine r_iload_n hg 4 dX12_fine_25 rfl rfl ?_
    obtain ⟨v4, I5, e6, h⟩ := q_b2_some h
    refine r_cV4i hg dX12_fine_26 mt_X12_newDue ml_X12_106 mv_X12_newDue k_this (s_X12_newDue hΓ hX k_this e6) (q_room (Nat.le_of_ble_eq_true rfl) (Nat.le_of_ble_eq_true rfl)) ⟨Nat.zero_le _, Nat.zero_le _⟩ (Nat.le_of_ble_eq_true rfl) ?_
    exact r_ireturn hr dX12_fine_29 ⟨Nat.zero_le _, Nat.zero_le _⟩ ⟨_, rfl, rfl⟩ (by cases h; rfl)
  · rw [if_neg c3] at h
    refine r_iload hg 0 dX12_fine_16 rfl ?_
    refine r_goto hg 29 dX12_fine_18 (by decide) ?_
    exact r_ireturn hr dX12_fine_29 ⟨Nat.zero_le _, Nat.zero_le _⟩ ⟨_, rfl, rfl⟩ (by cases h; rfl)

def f_X12_isWrong (this : Nat) (x1 : Int32) (x2 : Int32) (I : qI) : Option (Int32 × qI) :=
  q_b1 (f_X12_dueAt this x1) fun v1 =>
  q_b1 (q_rd I (this + 1) 3580 v1) fun v4 =>
  if v4 = (nI 4) then
    q_b1 (q_rd I (this + 1) 3580 (v1 + (nI 1))) fun v8 =>
    if v8 = x2 then
      q_b1 (q_rd I (this + 1) 3580 (v1 + (nI 5))) fun v12 =>
      if v12 = (nI 1) then
        q_b1 (q_rd I (this + 1) 3580 (v1 + (nI 2))) fun v16 =>
        if v16 ≤ 0 then
          some ((nI 0), I)
        else
          q_b1 (q_rd I (this + 1) 3580 (v1 + (nI 2))) fun v20 =>
          q_b1 (q_rd I (this + 1) 3580 (v1 + (nI 3))) fun v23 =>
          q_b2 (f_X12_fineOf this v20 v23 I) fun v25 I26 =>
          if v25 = 0 then
            some ((nI 1), I26)
          else
            some ((nI 0), I26)
      else
        some ((nI 0), I)
    else
      some ((nI 0), I)
  else
    some ((nI 0), I)
set_option maxRecDepth 100000 in
set_option maxHeartbeats 4000000 in
theorem s_X12_isWrong {l : Launch} {Γ : qC} (hΓ : q_gm Γ) {X : qX} (hX : q_Lay X) {this : Nat} {x1 : Int32} {x2 : Int32} (k_this : q_kd X this = some (14, 42)) {I : qI} {z : Int32 × qI} (h : f_X12_isWrong this x1 x2 I = some z) : q_Sem l Γ (q_rm 5 0 0) yX12_isWrong cX12_isWrong 4 (some .boolean) [.ref this, .int x1, .int x2] I X (some (.int z.1), z.2, X) := by
  refine q_met (by decide) (Nat.le_of_ble_eq_true rfl) (fun g hg hr => ?_)
  unfold f_X12_isWrong at h
  show g 0 0 0 [(0, .ref this), (1, .int x1), (2, .int x2)] [] I X
  refine r_aload_n hg 0 dX12_isWrong_0 rfl rfl ?_
  refine r_iload_n hg 1 dX12_isWrong_1 rfl rfl ?_
  obtain ⟨v1, e2, h⟩ := q_b1_some h
  refine r_cV1i hg dX12_isWrong_2 mt_X12_dueAt ml_X12_75 mv_X12_dueAt k_this (s_X12_dueAt hΓ hX k_this e2) (q_room (Nat.le_of_ble_eq_true rfl) (Nat.le_of_ble_eq_true rfl)) ⟨Nat.zero_le _, Nat.zero_le _⟩ (Nat.le_of_ble_eq_true rfl) ?_
  refine r_istore_n hg (L' := [(3, .int v1), (0, .ref this), (1, .int x1), (2, .int x2)]) dX12_isWrong_5 rfl (by decide) rfl ?_
  refine r_aload_n hg 1 dX12_isWrong_6 rfl rfl ?_
  have e3 := ly_12_0 hX k_this
  refine r_getR hg dX12_isWrong_7 fl_X12_7 k_this rfl e3.1 ?_
  refine r_iload_n hg 0 dX12_isWrong_10 rfl rfl ?_
  obtain ⟨v4, e5, h⟩ := q_b1_some h
  refine r_iald hg dX12_isWrong_11 e3.2 e5 ?_
  refine r_iconst hg dX12_isWrong_12 ci_4 ?_
  refine r_icmp_ne hg 78 dX12_isWrong_13 (by decide) (fun c6 => ?_) (fun c6 => ?_)
  · rw [if_neg c6] at h
    refine r_iconst hg dX12_isWrong_78 ci_0 ?_
    exact r_ireturn hr dX12_isWrong_79 ⟨Nat.zero_le _, Nat.zero_le _⟩ ⟨_, rfl, bz_0.1⟩ (by cases h; rfl)
  · rw [if_pos (Classical.not_not.mp c6)] at h
    refine r_aload_n hg 1 dX12_isWrong_16 rfl rfl ?_
    have e7 := ly_12_0 hX k_this
    refine r_getR hg dX12_isWrong_17 fl_X12_7 k_this rfl e7.1 ?_
    refine r_iload_n hg 0 dX12_isWrong_20 rfl rfl ?_
    refine r_iconst hg dX12_isWrong_21 ci_1 ?_
    refine r_iadd hg dX12_isWrong_22 ?_
    obtain ⟨v8, e9, h⟩ := q_b1_some h
    refine r_iald hg dX12_isWrong_23 e7.2 e9 ?_
    refine r_iload_n hg 3 dX12_isWrong_24 rfl rfl ?_
    refine r_icmp_ne hg 78 dX12_isWrong_25 (by decide) (fun c10 => ?_) (fun c10 => ?_)
    · rw [if_neg c10] at h
      refine r_iconst hg dX12_isWrong_78 ci_0 ?_
      exact r_ireturn hr dX12_isWrong_79 ⟨Nat.zero_le _, Nat.zero_le _⟩ ⟨_, rfl, bz_0.1⟩ (by cases h; rfl)
    · rw [if_pos (Classical.not_not.mp c10)] at h
      refine r_aload_n hg 1 dX12_isWrong_28 rfl rfl ?_
      have e11 := ly_12_0 hX k_this
      refine r_getR hg dX12_isWrong_29 fl_X12_7 k_this rfl e11.1 ?_
      refine r_iload_n hg 0 dX12_isWrong_32 rfl rfl ?_
      refine r_iconst hg dX12_isWrong_33 ci_5 ?_
      refine r_iadd hg dX12_isWrong_34 ?_
      obtain ⟨v12, e13, h⟩ := q_b1_some h
      refine r_iald hg dX12_isWrong_35 e11.2 e13 ?_
      refine r_iconst hg dX12_isWrong_36 ci_1 ?_
      refine r_icmp_ne hg 78 dX12_isWrong_37 (by decide) (fun c14 => ?_) (fun c14 => ?_)
      · rw [if_neg c14] at h
        refine r_iconst hg dX12_isWrong_78 ci_0 ?_
        exact r_ireturn hr dX12_isWrong_79 ⟨Nat.zero_le _, Nat.zero_le _⟩ ⟨_, rfl, bz_0.1⟩ (by cases h; rfl)
      · rw [if_pos (Classical.not_not.mp c14)] at h
        refine r_aload_n hg 1 dX12_isWrong_40 rfl rfl ?_
        have e15 := ly_12_0 hX k_this
        refine r_getR hg dX12_isWrong_41 fl_X12_7 k_this rfl e15.1 ?_
        refine r_iload_n hg 0 dX12_isWrong_44 rfl rfl ?_
        refine r_iconst hg dX12_isWrong_45 ci_2 ?_
        refine r_iadd hg dX12_isWrong_46 ?_
        obtain ⟨v16, e17, h⟩ := q_b1_some h
        refine r_iald hg dX12_isWrong_47 e15.2 e17 ?_
        refine r_if_le hg 78 dX12_isWrong_48 (by decide) (fun c18 => ?_) (fun c18 => ?_)
        · rw [if_pos c18] at h
          refine r_iconst hg dX12_isWrong_78 ci_0 ?_
          exact r_ireturn hr dX12_isWrong_79 ⟨Nat.zero_le _, Nat.zero_le _⟩ ⟨_, rfl, bz_0.1⟩ (by cases h; rfl)
        · rw [if_neg c18] at h
          refine r_aload_n hg 1 dX12_isWrong_51 rfl rfl ?_
          refine r_aload_n hg 1 dX12_isWrong_52 rfl rfl ?_
          have e19 := ly_12_0 hX k_this
          refine r_getR hg dX12_isWrong_53 fl_X12_7 k_this rfl e19.1 ?_
          refine r_iload_n hg 0 dX12_isWrong_56 rfl rfl ?_
          refine r_iconst hg dX12_isWrong_57 ci_2 ?_
          refine r_iadd hg dX12_isWrong_58 ?_
          obtain ⟨v20, e21, h⟩ := q_b1_some h
          refine r_iald hg dX12_isWrong_59 e19.2 e21 ?_
          refine r_aload_n hg 1 dX12_isWrong_60 rfl rfl ?_
          have e22 := ly_12_0 hX k_this
          refine r_getR hg dX12_isWrong_61 fl_X12_7 k_this rfl e22.1 ?_
          refine r_iload_n hg 0 dX12_isWrong_64 rfl rfl ?_
          refine r_iconst hg dX12_isWrong_65 ci_3 ?_
          refine r_iadd hg dX12_isWrong_66 ?_
          obtain ⟨v23, e24, h⟩ := q_b1_some h
          refine r_iald hg dX12_isWrong_67 e22.2 e24 ?_
          obtain ⟨v25, I26, e27, h⟩ := q_b2_some h
          refine r_cV2i hg dX12_isWrong_68 mt_X12_fineOf ml_X12_338 mv_X12_fineOf k_this (s_X12_fineOf hΓ hX k_this e27) (q_room (Nat.le_of_ble_eq_true rfl) (Nat.le_of_ble_eq_true rfl)) ⟨Nat.zero_le _, Nat.zero_le _⟩ (Nat.le_of_ble_eq_true rfl) ?_
          refine r_if_ne hg 78 dX12_isWrong_71 (by decide) (fun c28 => ?_) (fun c28 => ?_)
          · rw [if_neg c28] at h
            refine r_iconst hg dX12_isWrong_78 ci_0 ?_
            exact r_ireturn hr dX12_isWrong_79 ⟨Nat.zero_le _, Nat.zero_le _⟩ ⟨_, rfl, bz_0.1⟩ (by cases h; rfl)
          · rw [if_pos (Classical.not_not.mp c28)] at h
            refine r_iconst hg dX12_isWrong_74 ci_1 ?_
            refine r_goto hg 79 dX12_isWrong_75 (by decide) ?_
            exact r_ireturn hr dX12_isWrong_79 ⟨Nat.zero_le _, Nat.zero_le _⟩ ⟨_, rfl, bz_1.1⟩ (by cases h; rfl)

def f_X12_last (this : Nat) (x1 : Int32) (x2 : Int32) (I : qI) : Option (Int32) :=
  q_b1 (f_X12_isIn x1.toInt64 (0 : Int64) (255 : Int64)) fun v1 =>
  if v1 = 0 then
    some ((-1000000001))
  else
    q_b1 (f_X12_isIn x2.toInt64 (0 : Int64) (1 : Int64)) fun v4 =>
    if v4 = 0 then
      some ((-1000000001))
    else
      if x2 = 0 then
        q_b1 (f_X12_menLast this x1 I) fun v10 =>
        some (v10)
      else
        q_b1 (f_X12_companyLasts this x1 I) fun v8 =>
        some (v8)
set_option maxRecDepth 100000 in
set_option maxHeartbeats 4000000 in
theorem s_X12_last {l : Launch} {Γ : qC} (hΓ : q_gm Γ) {X : qX} (hX : q_Lay X) {this : Nat} {x1 : Int32} {x2 : Int32} (k_this : q_kd X this = some (14, 42)) {I : qI} {z : Int32} (h : f_X12_last this x1 x2 I = some z) : q_Sem l Γ (q_rm 5 0 0) yX12_last cX12_last 3 (some .int) [.ref this, .int x1, .int x2] I X (some (.int z), I, X) := by
  refine q_met (by decide) (Nat.le_of_ble_eq_true rfl) (fun g hg hr => ?_)
  unfold f_X12_last at h
  show g 0 0 0 [(0, .ref this), (1, .int x1), (2, .int x2)] [] I X
  refine r_iload_n hg 1 dX12_last_0 rfl rfl ?_
  refine r_i2l hg dX12_last_1 ?_
  refine r_lconst hg dX12_last_2 lc_0 ?_
  refine r_ldc2 hg dX12_last_3 kl_X12_401 ?_
  obtain ⟨v1, e2, h⟩ := q_b1_some h
  refine r_cS3i hg dX12_last_6 mt_X12_isIn ⟨ml_X12_64, mst_X12_isIn⟩ (s_X12_isIn hΓ hX e2) (q_room (Nat.le_of_ble_eq_true rfl) (Nat.le_of_ble_eq_true rfl)) ⟨Nat.zero_le _, Nat.zero_le _⟩ (Nat.le_of_ble_eq_true rfl) ?_
  refine r_if_eq hg 22 dX12_last_9 (by decide) (fun c3 => ?_) (fun c3 => ?_)
  · rw [if_pos c3] at h
    refine r_ldc hg dX12_last_22 kc_X12_90 ?_
    refine r_goto hg 44 dX12_last_24 (by decide) ?_
    exact r_ireturn hr dX12_last_44 ⟨Nat.zero_le _, Nat.zero_le _⟩ ⟨_, rfl, rfl⟩ (by cases h; rfl)
  · rw [if_neg c3] at h
    refine r_iload_n hg 2 dX12_last_12 rfl rfl ?_
    refine r_i2l hg dX12_last_13 ?_
    refine r_lconst hg dX12_last_14 lc_0 ?_
    refine r_lconst hg dX12_last_15 lc_1 ?_
    obtain ⟨v4, e5, h⟩ := q_b1_some h
    refine r_cS3i hg dX12_last_16 mt_X12_isIn ⟨ml_X12_64, mst_X12_isIn⟩ (s_X12_isIn hΓ hX e5) (q_room (Nat.le_of_ble_eq_true rfl) (Nat.le_of_ble_eq_true rfl)) ⟨Nat.zero_le _, Nat.zero_le _⟩ (Nat.le_of_ble_eq_true rfl) ?_
    refine r_if_ne hg 27 dX12_last_19 (by decide) (fun c6 => ?_) (fun c6 => ?_)
    · rw [if_neg c6] at h
      refine r_iload_n hg 2 dX12_last_27 rfl rfl ?_
      refine r_if_ne hg 39 dX12_last_28 (by decide) (fun c7 => ?_) (fun c7 => ?_)
      · rw [if_neg c7] at h
        refine r_aload_n hg 0 dX12_last_39 rfl rfl ?_
        refine r_iload_n hg 1 dX12_last_40 rfl rfl ?_
        obtain ⟨v8, e9, h⟩ := q_b1_some h
        refine r_cV1i hg dX12_last_41 mt_X12_companyLasts ml_X12_406 mv_X12_companyLasts k_this (s_X12_companyLasts hΓ hX k_this e9) (q_room (Nat.le_of_ble_eq_true rfl) (Nat.le_of_ble_eq_true rfl)) ⟨Nat.zero_le _, Nat.zero_le _⟩ (Nat.le_of_ble_eq_true rfl) ?_
        exact r_ireturn hr dX12_last_44 ⟨Nat.zero_le _, Nat.zero_le _⟩ ⟨_, rfl, rfl⟩ (by cases h; rfl)
      · rw [if_pos (Classical.not_not.mp c7)] at h
        refine r_aload_n hg 0 dX12_last_31 rfl rfl ?_
        refine r_iload_n hg 1 dX12_last_32 rfl rfl ?_
        obtain ⟨v10, e11, h⟩ := q_b1_some h
        refine r_cV1i hg dX12_last_33 mt_X12_menLast ml_X12_403 mv_X12_menLast k_this (s_X12_menLast hΓ hX k_this e11) (q_room (Nat.le_of_ble_eq_true rfl) (Nat.le_of_ble_eq_true rfl)) ⟨Nat.zero_le _, Nat.zero_le _⟩ (Nat.le_of_ble_eq_true rfl) ?_
        refine r_goto hg 44 dX12_last_36 (by decide) ?_
        exact r_ireturn hr dX12_last_44 ⟨Nat.zero_le _, Nat.zero_le _⟩ ⟨_, rfl, rfl⟩ (by cases h; rfl)
    · rw [if_pos (Classical.not_not.mp c6)] at h
      refine r_ldc hg dX12_last_22 kc_X12_90 ?_
      refine r_goto hg 44 dX12_last_24 (by decide) ?_
      exact r_ireturn hr dX12_last_44 ⟨Nat.zero_le _, Nat.zero_le _⟩ ⟨_, rfl, rfl⟩ (by cases h; rfl)

def b_X12_least__42 (this : Nat) (I : qI) (k5 : Int32 → Int32 → Option (Int32)) (x1 : Int32) (x2 : Int32) : Option (Int32) :=
  k5 x1 (x2 + (nI 1))
set_option maxRecDepth 100000 in
set_option maxHeartbeats 4000000 in
theorem p_X12_least__42 {l : Launch} {Γ : qC} {g : qG} {z : Int32} {this : Nat} {X : qX} {I : qI} (hΓ : q_gm Γ) (hg : q_Ok l Γ RX12 cX12_least_ 3 (q_rm 5 0 0) "least" (some .int) g) (hr : q_Rt cX12_least_ (some .int) (q_rm 5 0 0) (some (.int z), I, X) g) (hX : q_Lay X) (k_this : q_kd X this = some (14, 42)) {k5 : Int32 → Int32 → Option (Int32)} (hk5 : ∀ (x1 : Int32) (x2 : Int32), k5 x1 x2 = some z → g 0 0 5 [(0, .ref this), (1, .int x1), (2, .int x2)] [] I X) (x1 : Int32) (x2 : Int32) (h : b_X12_least__42 this I k5 x1 x2 = some z) : g 0 0 42 [(0, .ref this), (1, .int x1), (2, .int x2)] [] I X := by
  unfold b_X12_least__42 at h
  refine r_iinc hg 2 (v := (x2 + (nI 1))) (L' := [(2, .int (x2 + (nI 1))), (0, .ref this), (1, .int x1)]) dX12_least__42 rfl (by rw [ci_1]) (by decide) rfl ?_
  refine r_goto hg 5 dX12_least__45 (by decide) ?_
  refine r_sub hg [1, 2, 0] rfl ?_
  exact hk5 _ _ h
def b_X12_least__27 (this : Nat) (I : qI) (k5 : Int32 → Int32 → Option (Int32)) (x1 : Int32) (x2 : Int32) : Option (Int32) :=
  q_b1 (f_X12_companyLasts this x2 I) fun v1 =>
  q_b1 (f_X12_menLast this x2 I) fun v3 =>
  if v3 ≤ v1 then
    b_X12_least__42 this I k5 x1 x2
  else
    b_X12_least__42 this I k5 x2 x2
set_option maxRecDepth 100000 in
set_option maxHeartbeats 4000000 in
theorem p_X12_least__27 {l : Launch} {Γ : qC} {g : qG} {z : Int32} {this : Nat} {X : qX} {I : qI} (hΓ : q_gm Γ) (hg : q_Ok l Γ RX12 cX12_least_ 3 (q_rm 5 0 0) "least" (some .int) g) (hr : q_Rt cX12_least_ (some .int) (q_rm 5 0 0) (some (.int z), I, X) g) (hX : q_Lay X) (k_this : q_kd X this = some (14, 42)) {k5 : Int32 → Int32 → Option (Int32)} (hk5 : ∀ (x1 : Int32) (x2 : Int32), k5 x1 x2 = some z → g 0 0 5 [(0, .ref this), (1, .int x1), (2, .int x2)] [] I X) (x1 : Int32) (x2 : Int32) (h : b_X12_least__27 this I k5 x1 x2 = some z) : g 0 0 27 [(0, .ref this), (1, .int x1), (2, .int x2)] [] I X := by
  unfold b_X12_least__27 at h
  refine r_aload_n hg 0 dX12_least__27 rfl rfl ?_
  refine r_iload_n hg 2 dX12_least__28 rfl rfl ?_
  obtain ⟨v1, e2, h⟩ := q_b1_some h
  refine r_cV1i hg dX12_least__29 mt_X12_companyLasts ml_X12_406 mv_X12_companyLasts k_this (s_X12_companyLasts hΓ hX k_this e2) (q_room (Nat.le_of_ble_eq_true rfl) (Nat.le_of_ble_eq_true rfl)) ⟨Nat.zero_le _, Nat.zero_le _⟩ (Nat.le_of_ble_eq_true rfl) ?_
  refine r_aload_n hg 0 dX12_least__32 rfl rfl ?_
  refine r_iload_n hg 2 dX12_least__33 rfl rfl ?_
  obtain ⟨v3, e4, h⟩ := q_b1_some h
  refine r_cV1i hg dX12_least__34 mt_X12_menLast ml_X12_403 mv_X12_menLast k_this (s_X12_menLast hΓ hX k_this e4) (q_room (Nat.le_of_ble_eq_true rfl) (Nat.le_of_ble_eq_true rfl)) ⟨Nat.zero_le _, Nat.zero_le _⟩ (Nat.le_of_ble_eq_true rfl) ?_
  refine r_icmp_ge hg 42 dX12_least__37 (by decide) (fun c5 => ?_) (fun c5 => ?_)
  · rw [if_pos c5] at h
    exact p_X12_least__42 hΓ hg hr hX k_this hk5 _ _ h
  · rw [if_neg c5] at h
    refine r_iload_n hg 2 dX12_least__40 rfl rfl ?_
    refine r_istore_n hg (L' := [(1, .int x2), (0, .ref this), (2, .int x2)]) dX12_least__41 rfl (by decide) rfl ?_
    refine r_sub hg [1, 0, 2] rfl ?_
    exact p_X12_least__42 hΓ hg hr hX k_this hk5 _ _ h
def b_X12_least__5 (this : Nat) (I : qI) (k5 : Int32 → Int32 → Option (Int32)) (x1 : Int32) (x2 : Int32) : Option (Int32) :=
  if (nI 256) ≤ x2 then
    some (x1)
  else
    if x1 < 0 then
      b_X12_least__27 this I k5 x1 x2
    else
      q_b1 (f_X12_ones x2) fun v3 =>
      q_b1 (f_X12_ones x1) fun v5 =>
      if v5 ≤ v3 then
        b_X12_least__42 this I k5 x1 x2
      else
        b_X12_least__27 this I k5 x1 x2
set_option maxRecDepth 100000 in
set_option maxHeartbeats 4000000 in
theorem p_X12_least__5 {l : Launch} {Γ : qC} {g : qG} {z : Int32} {this : Nat} {X : qX} {I : qI} (hΓ : q_gm Γ) (hg : q_Ok l Γ RX12 cX12_least_ 3 (q_rm 5 0 0) "least" (some .int) g) (hr : q_Rt cX12_least_ (some .int) (q_rm 5 0 0) (some (.int z), I, X) g) (hX : q_Lay X) (k_this : q_kd X this = some (14, 42)) {k5 : Int32 → Int32 → Option (Int32)} (hk5 : ∀ (x1 : Int32) (x2 : Int32), k5 x1 x2 = some z → g 0 0 5 [(0, .ref this), (1, .int x1), (2, .int x2)] [] I X) (x1 : Int32) (x2 : Int32) (h : b_X12_least__5 this I k5 x1 x2 = some z) : g 0 0 5 [(0, .ref this), (1, .int x1), (2, .int x2)] [] I X := by
  unfold b_X12_least__5 at h
  refine r_iload_n hg 2 dX12_least__5 rfl rfl ?_
  refine r_sipush hg dX12_least__6 cs_256 ?_
  refine r_icmp_ge hg 48 dX12_least__9 (by decide) (fun c1 => ?_) (fun c1 => ?_)
  · rw [if_pos c1] at h
    refine r_iload_n hg 1 dX12_least__48 rfl rfl ?_
    exact r_ireturn hr dX12_least__49 ⟨Nat.zero_le _, Nat.zero_le _⟩ ⟨_, rfl, rfl⟩ (by cases h; rfl)
  · rw [if_neg c1] at h
    refine r_iload_n hg 1 dX12_least__12 rfl rfl ?_
    refine r_if_lt hg 27 dX12_least__13 (by decide) (fun c2 => ?_) (fun c2 => ?_)
    · rw [if_pos c2] at h
      exact p_X12_least__27 hΓ hg hr hX k_this hk5 _ _ h
    · rw [if_neg c2] at h
      refine r_iload_n hg 2 dX12_least__16 rfl rfl ?_
      obtain ⟨v3, e4, h⟩ := q_b1_some h
      refine r_cS1i hg dX12_least__17 mt_X12_ones ⟨ml_X12_392, mst_X12_ones⟩ (s_X12_ones hΓ hX e4) (q_room (Nat.le_of_ble_eq_true rfl) (Nat.le_of_ble_eq_true rfl)) ⟨Nat.zero_le _, Nat.zero_le _⟩ (Nat.le_of_ble_eq_true rfl) ?_
      refine r_iload_n hg 1 dX12_least__20 rfl rfl ?_
      obtain ⟨v5, e6, h⟩ := q_b1_some h
      refine r_cS1i hg dX12_least__21 mt_X12_ones ⟨ml_X12_392, mst_X12_ones⟩ (s_X12_ones hΓ hX e6) (q_room (Nat.le_of_ble_eq_true rfl) (Nat.le_of_ble_eq_true rfl)) ⟨Nat.zero_le _, Nat.zero_le _⟩ (Nat.le_of_ble_eq_true rfl) ?_
      refine r_icmp_ge hg 42 dX12_least__24 (by decide) (fun c7 => ?_) (fun c7 => ?_)
      · rw [if_pos c7] at h
        exact p_X12_least__42 hΓ hg hr hX k_this hk5 _ _ h
      · rw [if_neg c7] at h
        exact p_X12_least__27 hΓ hg hr hX k_this hk5 _ _ h
theorem pl_X12_least__5 {l : Launch} {Γ : qC} {g : qG} {z : Int32} {this : Nat} {X : qX} {I : qI} (hΓ : q_gm Γ) (hg : q_Ok l Γ RX12 cX12_least_ 3 (q_rm 5 0 0) "least" (some .int) g) (hr : q_Rt cX12_least_ (some .int) (q_rm 5 0 0) (some (.int z), I, X) g) (hX : q_Lay X) (k_this : q_kd X this = some (14, 42)) : ∀ (n : Nat) (x1 : Int32) (x2 : Int32), q_fix (fun _ _ => none) (b_X12_least__5 this I) n x1 x2 = some z → g 0 0 5 [(0, .ref this), (1, .int x1), (2, .int x2)] [] I X := by
  intro n
  induction n with
  | zero =>
    intro x1 x2 h
    cases (show (none : Option (Int32)) = some z from h)
  | succ n ih =>
    intro x1 x2 h
    exact p_X12_least__5 hΓ hg hr hX k_this ih _ _ h
def f_X12_least_ (this : Nat) (I : qI) : Option (Int32) :=
  q_fix (fun _ _ => none) (b_X12_least__5 this I) q_fu (-1000000005) (nI 1)
set_option maxRecDepth 100000 in
set_option maxHeartbeats 4000000 in
theorem s_X12_least_ {l : Launch} {Γ : qC} (hΓ : q_gm Γ) {X : qX} (hX : q_Lay X) {this : Nat} (k_this : q_kd X this = some (14, 42)) {I : qI} {z : Int32} (h : f_X12_least_ this I = some z) : q_Sem l Γ (q_rm 5 0 0) yX12_least_ cX12_least_ 3 (some .int) [.ref this] I X (some (.int z), I, X) := by
  refine q_met (by decide) (Nat.le_of_ble_eq_true rfl) (fun g hg hr => ?_)
  unfold f_X12_least_ at h
  show g 0 0 0 [(0, .ref this)] [] I X
  refine r_ldc hg dX12_least__0 kc_X12_61 ?_
  refine r_istore_n hg (L' := [(1, .int (-1000000005)), (0, .ref this)]) dX12_least__2 rfl (by decide) rfl ?_
  refine r_iconst hg dX12_least__3 ci_1 ?_
  refine r_istore_n hg (L' := [(2, .int (nI 1)), (1, .int (-1000000005)), (0, .ref this)]) dX12_least__4 rfl (by decide) rfl ?_
  refine r_sub hg [2, 1, 0] rfl ?_
  exact pl_X12_least__5 hΓ hg hr hX k_this _ _ _ h

def f_X12_rules (this : Nat) (x1 : Int32) (x2 : Int32) (x3 : Int32) (x4 : Int32) (I : qI) : Option (Int32 × qI) :=
  if x1 = (nI 0) then
    q_b2 (f_X12_wageOf this x2 x3 I) fun v2 I3 =>
    some (v2, I3)
  else
  if x1 = (nI 1) then
    q_b2 (f_X12_stopOf this x2 I) fun v6 I7 =>
    some (v6, I7)
  else
  if x1 = (nI 2) then
    q_b2 (f_X12_dueFor this x2 I) fun v10 I11 =>
    some (v10, I11)
  else
  if x1 = (nI 3) then
    q_b2 (f_X12_coinFor this x2 x3 I) fun v14 I15 =>
    some (v14, I15)
  else
  if x1 = (nI 4) then
    q_b2 (f_X12_fineOf this x2 x3 I) fun v18 I19 =>
    some (v18, I19)
  else
  if x1 = (nI 5) then
    q_b2 (f_X12_keepOf this x2 x3 I) fun v22 I23 =>
    some (v22, I23)
  else
  if x1 = (nI 6) then
    q_b1 (f_X12_counts this (nI 6) I) fun v26 =>
    q_b2 (f_X12_actBy this v26 x2 x3 x4 I) fun v28 I29 =>
    some (v28, I29)
  else
  some ((-1000000001), I)
set_option maxRecDepth 100000 in
set_option maxHeartbeats 4000000 in
theorem s_X12_rules {l : Launch} {Γ : qC} (hΓ : q_gm Γ) {X : qX} (hX : q_Lay X) {this : Nat} {x1 : Int32} {x2 : Int32} {x3 : Int32} {x4 : Int32} (k_this : q_kd X this = some (14, 42)) {I : qI} {z : Int32 × qI} (h : f_X12_rules this x1 x2 x3 x4 I = some z) : q_Sem l Γ (q_rm 5 0 0) yX12_rules cX12_rules 5 (some .int) [.ref this, .int x1, .int x2, .int x3, .int x4] I X (some (.int z.1), z.2, X) := by
  refine q_met (by decide) (Nat.le_of_ble_eq_true rfl) (fun g hg hr => ?_)
  unfold f_X12_rules at h
  show g 0 0 0 [(0, .ref this), (1, .int x1), (2, .int x2), (3, .int x3), (4, .int x4)] [] I X
  refine r_iload_n hg 1 dX12_rules_0 rfl rfl ?_
  by_cases c1 : x1 = (nI 0)
  · rw [if_pos c1] at h
    refine r_tab hg 44 dX12_rules_1 rfl (by rw [c1] <;> decide +kernel) (by decide) ?_
    refine r_aload_n hg 0 dX12_rules_44 rfl rfl ?_
    refine r_iload_n hg 2 dX12_rules_45 rfl rfl ?_
    refine r_iload_n hg 3 dX12_rules_46 rfl rfl ?_
    obtain ⟨v2, I3, e4, h⟩ := q_b2_some h
    refine r_cV2i hg dX12_rules_47 mt_X12_wageOf ml_X12_129 mv_X12_wageOf k_this (s_X12_wageOf hΓ hX k_this e4) (q_room (Nat.le_of_ble_eq_true rfl) (Nat.le_of_ble_eq_true rfl)) ⟨Nat.zero_le _, Nat.zero_le _⟩ (Nat.le_of_ble_eq_true rfl) ?_
    exact r_ireturn hr dX12_rules_50 ⟨Nat.zero_le _, Nat.zero_le _⟩ ⟨_, rfl, rfl⟩ (by cases h; rfl)
  rw [if_neg c1] at h
  by_cases c5 : x1 = (nI 1)
  · rw [if_pos c5] at h
    refine r_tab hg 51 dX12_rules_1 rfl (by rw [c5] <;> decide +kernel) (by decide) ?_
    refine r_aload_n hg 0 dX12_rules_51 rfl rfl ?_
    refine r_iload_n hg 2 dX12_rules_52 rfl rfl ?_
    obtain ⟨v6, I7, e8, h⟩ := q_b2_some h
    refine r_cV1i hg dX12_rules_53 mt_X12_stopOf ml_X12_160 mv_X12_stopOf k_this (s_X12_stopOf hΓ hX k_this e8) (q_room (Nat.le_of_ble_eq_true rfl) (Nat.le_of_ble_eq_true rfl)) ⟨Nat.zero_le _, Nat.zero_le _⟩ (Nat.le_of_ble_eq_true rfl) ?_
    exact r_ireturn hr dX12_rules_56 ⟨Nat.zero_le _, Nat.zero_le _⟩ ⟨_, rfl, rfl⟩ (by cases h; rfl)
  rw [if_neg c5] at h
  by_cases c9 : x1 = (nI 2)
  · rw [if_pos c9] at h
    refine r_tab hg 57 dX12_rules_1 rfl (by rw [c9] <;> decide +kernel) (by decide) ?_
    refine r_aload_n hg 0 dX12_rules_57 rfl rfl ?_
    refine r_iload_n hg 2 dX12_rules_58 rfl rfl ?_
    obtain ⟨v10, I11, e12, h⟩ := q_b2_some h
    refine r_cV1i hg dX12_rules_59 mt_X12_dueFor ml_X12_328 mv_X12_dueFor k_this (s_X12_dueFor hΓ hX k_this e12) (q_room (Nat.le_of_ble_eq_true rfl) (Nat.le_of_ble_eq_true rfl)) ⟨Nat.zero_le _, Nat.zero_le _⟩ (Nat.le_of_ble_eq_true rfl) ?_
    exact r_ireturn hr dX12_rules_62 ⟨Nat.zero_le _, Nat.zero_le _⟩ ⟨_, rfl, rfl⟩ (by cases h; rfl)
  rw [if_neg c9] at h
  by_cases c13 : x1 = (nI 3)
  · rw [if_pos c13] at h
    refine r_tab hg 63 dX12_rules_1 rfl (by rw [c13] <;> decide +kernel) (by decide) ?_
    refine r_aload_n hg 0 dX12_rules_63 rfl rfl ?_
    refine r_iload_n hg 2 dX12_rules_64 rfl rfl ?_
    refine r_iload_n hg 3 dX12_rules_65 rfl rfl ?_
    obtain ⟨v14, I15, e16, h⟩ := q_b2_some h
    refine r_cV2i hg dX12_rules_66 mt_X12_coinFor ml_X12_335 mv_X12_coinFor k_this (s_X12_coinFor hΓ hX k_this e16) (q_room (Nat.le_of_ble_eq_true rfl) (Nat.le_of_ble_eq_true rfl)) ⟨Nat.zero_le _, Nat.zero_le _⟩ (Nat.le_of_ble_eq_true rfl) ?_
    exact r_ireturn hr dX12_rules_69 ⟨Nat.zero_le _, Nat.zero_le _⟩ ⟨_, rfl, rfl⟩ (by cases h; rfl)
  rw [if_neg c13] at h
  by_cases c17 : x1 = (nI 4)
  · rw [if_pos c17] at h
    refine r_tab hg 70 dX12_rules_1 rfl (by rw [c17] <;> decide +kernel) (by decide) ?_
    refine r_aload_n hg 0 dX12_rules_70 rfl rfl ?_
    refine r_iload_n hg 2 dX12_rules_71 rfl rfl ?_
    refine r_iload_n hg 3 dX12_rules_72 rfl rfl ?_
    obtain ⟨v18, I19, e20, h⟩ := q_b2_some h
    refine r_cV2i hg dX12_rules_73 mt_X12_fineOf ml_X12_338 mv_X12_fineOf k_this (s_X12_fineOf hΓ hX k_this e20) (q_room (Nat.le_of_ble_eq_true rfl) (Nat.le_of_ble_eq_true rfl)) ⟨Nat.zero_le _, Nat.zero_le _⟩ (Nat.le_of_ble_eq_true rfl) ?_
    exact r_ireturn hr dX12_rules_76 ⟨Nat.zero_le _, Nat.zero_le _⟩ ⟨_, rfl, rfl⟩ (by cases h; rfl)
  rw [if_neg c17] at h
  by_cases c21 : x1 = (nI 5)
  · rw [if_pos c21] at h
    refine r_tab hg 77 dX12_rules_1 rfl (by rw [c21] <;> decide +kernel) (by decide) ?_
    refine r_aload_n hg 0 dX12_rules_77 rfl rfl ?_
    refine r_iload_n hg 2 dX12_rules_78 rfl rfl ?_
    refine r_iload_n hg 3 dX12_rules_79 rfl rfl ?_
    obtain ⟨v22, I23, e24, h⟩ := q_b2_some h
    refine r_cV2i hg dX12_rules_80 mt_X12_keepOf ml_X12_195 mv_X12_keepOf k_this (s_X12_keepOf hΓ hX k_this e24) (q_room (Nat.le_of_ble_eq_true rfl) (Nat.le_of_ble_eq_true rfl)) ⟨Nat.zero_le _, Nat.zero_le _⟩ (Nat.le_of_ble_eq_true rfl) ?_
    exact r_ireturn hr dX12_rules_83 ⟨Nat.zero_le _, Nat.zero_le _⟩ ⟨_, rfl, rfl⟩ (by cases h; rfl)
  rw [if_neg c21] at h
  by_cases c25 : x1 = (nI 6)
  · rw [if_pos c25] at h
    refine r_tab hg 84 dX12_rules_1 rfl (by rw [c25] <;> decide +kernel) (by decide) ?_
    refine r_aload_n hg 0 dX12_rules_84 rfl rfl ?_
    refine r_aload_n hg 0 dX12_rules_85 rfl rfl ?_
    refine r_bipush hg dX12_rules_86 cb_6 ?_
    obtain ⟨v26, e27, h⟩ := q_b1_some h
    refine r_cV1i hg dX12_rules_88 mt_X12_counts ml_X12_313 mv_X12_counts k_this (s_X12_counts hΓ hX k_this e27) (q_room (Nat.le_of_ble_eq_true rfl) (Nat.le_of_ble_eq_true rfl)) ⟨Nat.zero_le _, Nat.zero_le _⟩ (Nat.le_of_ble_eq_true rfl) ?_
    refine r_iload_n hg 2 dX12_rules_91 rfl rfl ?_
    refine r_iload_n hg 3 dX12_rules_92 rfl rfl ?_
    refine r_iload hg 4 dX12_rules_93 rfl ?_
    obtain ⟨v28, I29, e30, h⟩ := q_b2_some h
    refine r_cV4i hg dX12_rules_95 mt_X12_actBy ml_X12_341 mv_X12_actBy k_this (s_X12_actBy hΓ hX k_this e30) (q_room (Nat.le_of_ble_eq_true rfl) (Nat.le_of_ble_eq_true rfl)) ⟨Nat.zero_le _, Nat.zero_le _⟩ (Nat.le_of_ble_eq_true rfl) ?_
    exact r_ireturn hr dX12_rules_98 ⟨Nat.zero_le _, Nat.zero_le _⟩ ⟨_, rfl, rfl⟩ (by cases h; rfl)
  rw [if_neg c25] at h
  refine r_tab hg 99 dX12_rules_1 rfl (q_tab_d (fun k hk ho => ?_)) (by decide) ?_
  · have hk : k < 7 := hk
    rcases (show k = 0 ∨ k = 1 ∨ k = 2 ∨ k = 3 ∨ k = 4 ∨ k = 5 ∨ k = 6 by omega) with rfl | rfl | rfl | rfl | rfl | rfl | rfl
    · exact lv_neT c1 (by decide +kernel)
    · exact lv_neT c5 (by decide +kernel)
    · exact lv_neT c9 (by decide +kernel)
    · exact lv_neT c13 (by decide +kernel)
    · exact lv_neT c17 (by decide +kernel)
    · exact lv_neT c21 (by decide +kernel)
    · exact lv_neT c25 (by decide +kernel)
  refine r_ldc hg dX12_rules_99 kc_X12_90 ?_
  exact r_ireturn hr dX12_rules_101 ⟨Nat.zero_le _, Nat.zero_le _⟩ ⟨_, rfl, rfl⟩ (by cases h; rfl)

def f_X12_stop (this : Nat) (x1 : Int32) (x2 : Int32) (x3 : Int32) (I : qI) : Option (Int32 × qI) :=
  q_b1 (f_X12_refused this x1 x2 x3 (nI 9) I) fun v1 =>
  if v1 = 0 then
    q_b2 (f_X12_newDue this (nI 5) x1 x2 x3 I) fun v4 I5 =>
    some (v4, I5)
  else
    some (v1, I)
set_option maxRecDepth 100000 in
set_option maxHeartbeats 4000000 in
theorem s_X12_stop {l : Launch} {Γ : qC} (hΓ : q_gm Γ) {X : qX} (hX : q_Lay X) {this : Nat} {x1 : Int32} {x2 : Int32} {x3 : Int32} (k_this : q_kd X this = some (14, 42)) {I : qI} {z : Int32 × qI} (h : f_X12_stop this x1 x2 x3 I = some z) : q_Sem l Γ (q_rm 5 0 0) yX12_stop cX12_stop 5 (some .int) [.ref this, .int x1, .int x2, .int x3] I X (some (.int z.1), z.2, X) := by
  refine q_met (by decide) (Nat.le_of_ble_eq_true rfl) (fun g hg hr => ?_)
  unfold f_X12_stop at h
  show g 0 0 0 [(0, .ref this), (1, .int x1), (2, .int x2), (3, .int x3)] [] I X
  refine r_aload_n hg 0 dX12_stop_0 rfl rfl ?_
  refine r_iload_n hg 1 dX12_stop_1 rfl rfl ?_
  refine r_iload_n hg 2 dX12_stop_2 rfl rfl ?_
  refine r_iload_n hg 3 dX12_stop_3 rfl rfl ?_
  refine r_bipush hg dX12_stop_4 cb_9 ?_
  obtain ⟨v1, e2, h⟩ := q_b1_some h
  refine r_cV4i hg dX12_stop_6 mt_X12_refused ml_X12_347 mv_X12_refused k_this (s_X12_refused hΓ hX k_this e2) (q_room (Nat.le_of_ble_eq_true rfl) (Nat.le_of_ble_eq_true rfl)) ⟨Nat.zero_le _, Nat.zero_le _⟩ (Nat.le_of_ble_eq_true rfl) ?_
  refine r_istore hg (L' := [(4, .int v1), (0, .ref this), (1, .int x1), (2, .int x2), (3, .int x3)]) dX12_stop_9 (by decide) rfl ?_
  refine r_iload hg 0 dX12_stop_11 rfl ?_
  refine r_if_eq hg 21 dX12_stop_13 (by decide) (fun c3 => ?_) (fun c3 => ?_)
  · rw [if_pos c3] at h
    refine r_aload_n hg 1 dX12_stop_21 rfl rfl ?_
    refine r_iconst hg dX12_stop_22 ci_5 ?_
    refine r_iload_n hg 2 dX12_stop_23 rfl rfl ?_
    refine r_iload_n hg 3 dX12_stop_24 rfl rfl ?_
    refine r_iload_n hg 4 dX12_stop_25 rfl rfl ?_
    obtain ⟨v4, I5, e6, h⟩ := q_b2_some h
    refine r_cV4i hg dX12_stop_26 mt_X12_newDue ml_X12_106 mv_X12_newDue k_this (s_X12_newDue hΓ hX k_this e6) (q_room (Nat.le_of_ble_eq_true rfl) (Nat.le_of_ble_eq_true rfl)) ⟨Nat.zero_le _, Nat.zero_le _⟩ (Nat.le_of_ble_eq_true rfl) ?_
    exact r_ireturn hr dX12_stop_29 ⟨Nat.zero_le _, Nat.zero_le _⟩ ⟨_, rfl, rfl⟩ (by cases h; rfl)
  · rw [if_neg c3] at h
    refine r_iload hg 0 dX12_stop_16 rfl ?_
    refine r_goto hg 29 dX12_stop_18 (by decide) ?_
    exact r_ireturn hr dX12_stop_29 ⟨Nat.zero_le _, Nat.zero_le _⟩ ⟨_, rfl, rfl⟩ (by cases h; rfl)

def f_X12_strike (this : Nat) (x1 : Int32) (x2 : Int32) (I : qI) : Option (Int32 × qI) :=
  q_b1 (f_X12_refused this x1 x2 (nI 0) (nI 0) I) fun v1 =>
  if v1 = 0 then
    q_b2 (f_X12_newDue this (nI 3) x1 x2 (nI 0) I) fun v4 I5 =>
    q_b1 (f_X12_dueAt this v4) fun v8 =>
    q_b1 (q_wr I5 (this + 1) 3580 (v8 + (nI 6)) x1) fun I10 =>
    some (v4, I10)
  else
    some (v1, I)
set_option maxRecDepth 100000 in
set_option maxHeartbeats 4000000 in
theorem s_X12_strike {l : Launch} {Γ : qC} (hΓ : q_gm Γ) {X : qX} (hX : q_Lay X) {this : Nat} {x1 : Int32} {x2 : Int32} (k_this : q_kd X this = some (14, 42)) {I : qI} {z : Int32 × qI} (h : f_X12_strike this x1 x2 I = some z) : q_Sem l Γ (q_rm 5 0 0) yX12_strike cX12_strike 5 (some .int) [.ref this, .int x1, .int x2] I X (some (.int z.1), z.2, X) := by
  refine q_met (by decide) (Nat.le_of_ble_eq_true rfl) (fun g hg hr => ?_)
  unfold f_X12_strike at h
  show g 0 0 0 [(0, .ref this), (1, .int x1), (2, .int x2)] [] I X
  refine r_aload_n hg 0 dX12_strike_0 rfl rfl ?_
  refine r_iload_n hg 1 dX12_strike_1 rfl rfl ?_
  refine r_iload_n hg 2 dX12_strike_2 rfl rfl ?_
  refine r_iconst hg dX12_strike_3 ci_0 ?_
  refine r_iconst hg dX12_strike_4 ci_0 ?_
  obtain ⟨v1, e2, h⟩ := q_b1_some h
  refine r_cV4i hg dX12_strike_5 mt_X12_refused ml_X12_347 mv_X12_refused k_this (s_X12_refused hΓ hX k_this e2) (q_room (Nat.le_of_ble_eq_true rfl) (Nat.le_of_ble_eq_true rfl)) ⟨Nat.zero_le _, Nat.zero_le _⟩ (Nat.le_of_ble_eq_true rfl) ?_
  refine r_istore_n hg (L' := [(3, .int v1), (0, .ref this), (1, .int x1), (2, .int x2)]) dX12_strike_8 rfl (by decide) rfl ?_
  refine r_iload_n hg 0 dX12_strike_9 rfl rfl ?_
  refine r_if_eq hg 15 dX12_strike_10 (by decide) (fun c3 => ?_) (fun c3 => ?_)
  · rw [if_pos c3] at h
    refine r_aload_n hg 1 dX12_strike_15 rfl rfl ?_
    refine r_iconst hg dX12_strike_16 ci_3 ?_
    refine r_iload_n hg 2 dX12_strike_17 rfl rfl ?_
    refine r_iload_n hg 3 dX12_strike_18 rfl rfl ?_
    refine r_iconst hg dX12_strike_19 ci_0 ?_
    obtain ⟨v4, I5, e6, h⟩ := q_b2_some h
    refine r_cV4i hg dX12_strike_20 mt_X12_newDue ml_X12_106 mv_X12_newDue k_this (s_X12_newDue hΓ hX k_this e6) (q_room (Nat.le_of_ble_eq_true rfl) (Nat.le_of_ble_eq_true rfl)) ⟨Nat.zero_le _, Nat.zero_le _⟩ (Nat.le_of_ble_eq_true rfl) ?_
    refine r_istore hg (L' := [(4, .int v4), (3, .int v1), (0, .ref this), (1, .int x1), (2, .int x2)]) dX12_strike_23 (by decide) rfl ?_
    refine r_aload_n hg 2 dX12_strike_25 rfl rfl ?_
    have e7 := ly_12_0 hX k_this
    refine r_getR hg dX12_strike_26 fl_X12_7 k_this rfl e7.1 ?_
    refine r_aload_n hg 2 dX12_strike_29 rfl rfl ?_
    refine r_iload hg 0 dX12_strike_30 rfl ?_
    obtain ⟨v8, e9, h⟩ := q_b1_some h
    refine r_cV1i hg dX12_strike_32 mt_X12_dueAt ml_X12_75 mv_X12_dueAt k_this (s_X12_dueAt hΓ hX k_this e9) (q_room (Nat.le_of_ble_eq_true rfl) (Nat.le_of_ble_eq_true rfl)) ⟨Nat.zero_le _, Nat.zero_le _⟩ (Nat.le_of_ble_eq_true rfl) ?_
    refine r_bipush hg dX12_strike_35 cb_6 ?_
    refine r_iadd hg dX12_strike_37 ?_
    refine r_iload_n hg 3 dX12_strike_38 rfl rfl ?_
    obtain ⟨I10, e11, h⟩ := q_b1_some h
    refine r_iast hg dX12_strike_39 e7.2 e11 ?_
    refine r_iload hg 0 dX12_strike_40 rfl ?_
    exact r_ireturn hr dX12_strike_42 ⟨Nat.zero_le _, Nat.zero_le _⟩ ⟨_, rfl, rfl⟩ (by cases h; rfl)
  · rw [if_neg c3] at h
    refine r_iload_n hg 0 dX12_strike_13 rfl rfl ?_
    exact r_ireturn hr dX12_strike_14 ⟨Nat.zero_le _, Nat.zero_le _⟩ ⟨_, rfl, rfl⟩ (by cases h; rfl)

def b_X12_eats_119 (this : Nat) (x1 : Int32) (s1 : Int32) (s2 : Int32) (I : qI) : Option (qI) :=
  q_b1 (q_wr I (this + 1) 3580 s1 s2) fun I2 =>
  some (I2)
set_option maxRecDepth 100000 in
set_option maxHeartbeats 4000000 in
theorem p_X12_eats_119 {l : Launch} {Γ : qC} {g : qG} {z : qI} {this : Nat} {x1 : Int32} {X : qX} (hΓ : q_gm Γ) (hg : q_Ok l Γ RX12 cX12_eats 3 (q_rm 6 0 0) "eats" none g) (hr : q_Rt cX12_eats none (q_rm 6 0 0) (none, z, X) g) (hX : q_Lay X) (k_this : q_kd X this = some (14, 42)) (s1 : Int32) (s2 : Int32) (I : qI) (h : b_X12_eats_119 this x1 s1 s2 I = some z) : g 0 0 119 [] [.int s2, .int s1, .ref (this + 1)] I X := by
  unfold b_X12_eats_119 at h
  have e1 := ly_12_0 hX k_this
  obtain ⟨I2, e3, h⟩ := q_b1_some h
  refine r_iast hg dX12_eats_119 e1.2 e3 ?_
  exact r_return hr dX12_eats_120 ⟨Nat.zero_le _, Nat.zero_le _⟩ rfl (by cases h; rfl)
def b_X12_eats_92 (this : Nat) (x1 : Int32) (x2 : Int32) (I : qI) : Option (qI) :=
  q_b1 (q_rd I (this + 1) 3580 (x2 + (nI 6))) fun v3 =>
  if v3 < (nI 9) then
    b_X12_eats_119 this x1 (x2 + (nI 9)) (nI 0) I
  else
    b_X12_eats_119 this x1 (x2 + (nI 9)) (nI 1) I
set_option maxRecDepth 100000 in
set_option maxHeartbeats 4000000 in
theorem p_X12_eats_92 {l : Launch} {Γ : qC} {g : qG} {z : qI} {this : Nat} {x1 : Int32} {X : qX} (hΓ : q_gm Γ) (hg : q_Ok l Γ RX12 cX12_eats 3 (q_rm 6 0 0) "eats" none g) (hr : q_Rt cX12_eats none (q_rm 6 0 0) (none, z, X) g) (hX : q_Lay X) (k_this : q_kd X this = some (14, 42)) (x2 : Int32) (I : qI) (h : b_X12_eats_92 this x1 x2 I = some z) : g 0 0 92 [(0, .ref this), (2, .int x2)] [] I X := by
  unfold b_X12_eats_92 at h
  refine r_aload_n hg 0 dX12_eats_92 rfl rfl ?_
  have e1 := ly_12_0 hX k_this
  refine r_getR hg dX12_eats_93 fl_X12_7 k_this rfl e1.1 ?_
  refine r_iload_n hg 1 dX12_eats_96 rfl rfl ?_
  refine r_bipush hg dX12_eats_97 cb_9 ?_
  refine r_iadd hg dX12_eats_99 ?_
  refine r_aload_n hg 0 dX12_eats_100 rfl rfl ?_
  have e2 := ly_12_0 hX k_this
  refine r_getR hg dX12_eats_101 fl_X12_7 k_this rfl e2.1 ?_
  refine r_iload_n hg 1 dX12_eats_104 rfl rfl ?_
  refine r_bipush hg dX12_eats_105 cb_6 ?_
  refine r_iadd hg dX12_eats_107 ?_
  obtain ⟨v3, e4, h⟩ := q_b1_some h
  refine r_iald hg dX12_eats_108 e2.2 e4 ?_
  refine r_bipush hg dX12_eats_109 cb_9 ?_
  refine r_icmp_lt hg 118 dX12_eats_111 (by decide) (fun c5 => ?_) (fun c5 => ?_)
  · rw [if_pos c5] at h
    refine r_iconst hg dX12_eats_118 ci_0 ?_
    refine r_sub hg [] rfl ?_
    exact p_X12_eats_119 hΓ hg hr hX k_this _ _ _ h
  · rw [if_neg c5] at h
    refine r_iconst hg dX12_eats_114 ci_1 ?_
    refine r_goto hg 119 dX12_eats_115 (by decide) ?_
    refine r_sub hg [] rfl ?_
    exact p_X12_eats_119 hΓ hg hr hX k_this _ _ _ h
def b_X12_eats_90 (this : Nat) (x1 : Int32) (x2 : Int32) (s1 : Int32) (s2 : Int32) (s3 : Int32) (I : qI) : Option (qI) :=
  q_b1 (q_wr I (this + 1) 3580 s1 (s2 - s3)) fun I2 =>
  b_X12_eats_92 this x1 x2 I2
set_option maxRecDepth 100000 in
set_option maxHeartbeats 4000000 in
theorem p_X12_eats_90 {l : Launch} {Γ : qC} {g : qG} {z : qI} {this : Nat} {x1 : Int32} {X : qX} (hΓ : q_gm Γ) (hg : q_Ok l Γ RX12 cX12_eats 3 (q_rm 6 0 0) "eats" none g) (hr : q_Rt cX12_eats none (q_rm 6 0 0) (none, z, X) g) (hX : q_Lay X) (k_this : q_kd X this = some (14, 42)) (x2 : Int32) (s1 : Int32) (s2 : Int32) (s3 : Int32) (I : qI) (h : b_X12_eats_90 this x1 x2 s1 s2 s3 I = some z) : g 0 0 90 [(0, .ref this), (2, .int x2)] [.int s3, .int s2, .int s1, .ref (this + 1)] I X := by
  unfold b_X12_eats_90 at h
  have e1 := ly_12_0 hX k_this
  refine r_isub hg dX12_eats_90 ?_
  obtain ⟨I2, e3, h⟩ := q_b1_some h
  refine r_iast hg dX12_eats_91 e1.2 e3 ?_
  exact p_X12_eats_92 hΓ hg hr hX k_this _ _ h
def f_X12_eats (this : Nat) (x1 : Int32) (I : qI) : Option (qI) :=
  q_b1 (f_X12_manAt this x1) fun v1 =>
  q_b1 (f_X12_buys this x1 I) fun I3 =>
  q_b1 (f_X12_lack this x1 I3) fun v5 =>
  if v5 ≤ 0 then
    q_b1 (q_rd I3 (this + 1) 3580 (v1 + (nI 3))) fun v9 =>
    q_b1 (q_rd I3 (this + 1) 3580 (v1 + (nI 2))) fun v12 =>
    q_b1 (q_wr I3 (this + 1) 3580 (v1 + (nI 3)) (v9 - v12)) fun I14 =>
    q_b1 (q_rd I14 (this + 1) 3580 (v1 + (nI 6))) fun v17 =>
    q_b1 (q_rd I14 (this + 1) 3580 (v1 + (nI 6))) fun v20 =>
    if v20 ≤ 0 then
      b_X12_eats_90 this x1 v1 (v1 + (nI 6)) v17 (nI 0) I14
    else
      b_X12_eats_90 this x1 v1 (v1 + (nI 6)) v17 (nI 1) I14
  else
    q_b1 (q_wr I3 (this + 1) 3580 (v1 + (nI 3)) (nI 0)) fun I24 =>
    q_b1 (q_rd I24 (this + 1) 3580 (v1 + (nI 6))) fun v27 =>
    q_b1 (q_wr I24 (this + 1) 3580 (v1 + (nI 6)) (v27 + (nI 1))) fun I29 =>
    b_X12_eats_92 this x1 v1 I29
set_option maxRecDepth 100000 in
set_option maxHeartbeats 4000000 in
theorem s_X12_eats {l : Launch} {Γ : qC} (hΓ : q_gm Γ) {X : qX} (hX : q_Lay X) {this : Nat} {x1 : Int32} (k_this : q_kd X this = some (14, 42)) {I : qI} {z : qI} (h : f_X12_eats this x1 I = some z) : q_Sem l Γ (q_rm 6 0 0) yX12_eats cX12_eats 3 none [.ref this, .int x1] I X (none, z, X) := by
  refine q_met (by decide) (Nat.le_of_ble_eq_true rfl) (fun g hg hr => ?_)
  unfold f_X12_eats at h
  show g 0 0 0 [(0, .ref this), (1, .int x1)] [] I X
  refine r_aload_n hg 0 dX12_eats_0 rfl rfl ?_
  refine r_iload_n hg 1 dX12_eats_1 rfl rfl ?_
  obtain ⟨v1, e2, h⟩ := q_b1_some h
  refine r_cV1i hg dX12_eats_2 mt_X12_manAt ml_X12_68 mv_X12_manAt k_this (s_X12_manAt hΓ hX k_this e2) (q_room (Nat.le_of_ble_eq_true rfl) (Nat.le_of_ble_eq_true rfl)) ⟨Nat.zero_le _, Nat.zero_le _⟩ (Nat.le_of_ble_eq_true rfl) ?_
  refine r_istore_n hg (L' := [(2, .int v1), (0, .ref this), (1, .int x1)]) dX12_eats_5 rfl (by decide) rfl ?_
  refine r_aload_n hg 1 dX12_eats_6 rfl rfl ?_
  refine r_iload_n hg 2 dX12_eats_7 rfl rfl ?_
  obtain ⟨I3, e4, h⟩ := q_b1_some h
  refine r_cV1v hg dX12_eats_8 mt_X12_buys ml_X12_152 mv_X12_buys k_this (s_X12_buys hΓ hX k_this e4) (q_room (Nat.le_of_ble_eq_true rfl) (Nat.le_of_ble_eq_true rfl)) ⟨Nat.zero_le _, Nat.zero_le _⟩ (Nat.le_of_ble_eq_true rfl) ?_
  refine r_aload_n hg 1 dX12_eats_11 rfl rfl ?_
  refine r_iload_n hg 2 dX12_eats_12 rfl rfl ?_
  obtain ⟨v5, e6, h⟩ := q_b1_some h
  refine r_cV1i hg dX12_eats_13 mt_X12_lack ml_X12_135 mv_X12_lack k_this (s_X12_lack hΓ hX k_this e6) (q_room (Nat.le_of_ble_eq_true rfl) (Nat.le_of_ble_eq_true rfl)) ⟨Nat.zero_le _, Nat.zero_le _⟩ (Nat.le_of_ble_eq_true rfl) ?_
  refine r_if_le hg 44 dX12_eats_16 (by decide) (fun c7 => ?_) (fun c7 => ?_)
  · rw [if_pos c7] at h
    refine r_aload_n hg 1 dX12_eats_44 rfl rfl ?_
    have e8 := ly_12_0 hX k_this
    refine r_getR hg dX12_eats_45 fl_X12_7 k_this rfl e8.1 ?_
    refine r_iload_n hg 0 dX12_eats_48 rfl rfl ?_
    refine r_iconst hg dX12_eats_49 ci_3 ?_
    refine r_iadd hg dX12_eats_50 ?_
    refine r_dup2 hg dX12_eats_51 rfl rfl ?_
    obtain ⟨v9, e10, h⟩ := q_b1_some h
    refine r_iald hg dX12_eats_52 e8.2 e10 ?_
    refine r_aload_n hg 1 dX12_eats_53 rfl rfl ?_
    have e11 := ly_12_0 hX k_this
    refine r_getR hg dX12_eats_54 fl_X12_7 k_this rfl e11.1 ?_
    refine r_iload_n hg 0 dX12_eats_57 rfl rfl ?_
    refine r_iconst hg dX12_eats_58 ci_2 ?_
    refine r_iadd hg dX12_eats_59 ?_
    obtain ⟨v12, e13, h⟩ := q_b1_some h
    refine r_iald hg dX12_eats_60 e11.2 e13 ?_
    refine r_isub hg dX12_eats_61 ?_
    obtain ⟨I14, e15, h⟩ := q_b1_some h
    refine r_iast hg dX12_eats_62 e8.2 e15 ?_
    refine r_aload_n hg 1 dX12_eats_63 rfl rfl ?_
    have e16 := ly_12_0 hX k_this
    refine r_getR hg dX12_eats_64 fl_X12_7 k_this rfl e16.1 ?_
    refine r_iload_n hg 0 dX12_eats_67 rfl rfl ?_
    refine r_bipush hg dX12_eats_68 cb_6 ?_
    refine r_iadd hg dX12_eats_70 ?_
    refine r_dup2 hg dX12_eats_71 rfl rfl ?_
    obtain ⟨v17, e18, h⟩ := q_b1_some h
    refine r_iald hg dX12_eats_72 e16.2 e18 ?_
    refine r_aload_n hg 1 dX12_eats_73 rfl rfl ?_
    have e19 := ly_12_0 hX k_this
    refine r_getR hg dX12_eats_74 fl_X12_7 k_this rfl e19.1 ?_
    refine r_iload_n hg 0 dX12_eats_77 rfl rfl ?_
    refine r_bipush hg dX12_eats_78 cb_6 ?_
    refine r_iadd hg dX12_eats_80 ?_
    obtain ⟨v20, e21, h⟩ := q_b1_some h
    refine r_iald hg dX12_eats_81 e19.2 e21 ?_
    refine r_if_le hg 89 dX12_eats_82 (by decide) (fun c22 => ?_) (fun c22 => ?_)
    · rw [if_pos c22] at h
      refine r_iconst hg dX12_eats_89 ci_0 ?_
      refine r_sub hg [1, 0] rfl ?_
      exact p_X12_eats_90 hΓ hg hr hX k_this _ _ _ _ _ h
    · rw [if_neg c22] at h
      refine r_iconst hg dX12_eats_85 ci_1 ?_
      refine r_goto hg 90 dX12_eats_86 (by decide) ?_
      refine r_sub hg [1, 0] rfl ?_
      exact p_X12_eats_90 hΓ hg hr hX k_this _ _ _ _ _ h
  · rw [if_neg c7] at h
    refine r_aload_n hg 1 dX12_eats_19 rfl rfl ?_
    have e23 := ly_12_0 hX k_this
    refine r_getR hg dX12_eats_20 fl_X12_7 k_this rfl e23.1 ?_
    refine r_iload_n hg 0 dX12_eats_23 rfl rfl ?_
    refine r_iconst hg dX12_eats_24 ci_3 ?_
    refine r_iadd hg dX12_eats_25 ?_
    refine r_iconst hg dX12_eats_26 ci_0 ?_
    obtain ⟨I24, e25, h⟩ := q_b1_some h
    refine r_iast hg dX12_eats_27 e23.2 e25 ?_
    refine r_aload_n hg 1 dX12_eats_28 rfl rfl ?_
    have e26 := ly_12_0 hX k_this
    refine r_getR hg dX12_eats_29 fl_X12_7 k_this rfl e26.1 ?_
    refine r_iload_n hg 0 dX12_eats_32 rfl rfl ?_
    refine r_bipush hg dX12_eats_33 cb_6 ?_
    refine r_iadd hg dX12_eats_35 ?_
    refine r_dup2 hg dX12_eats_36 rfl rfl ?_
    obtain ⟨v27, e28, h⟩ := q_b1_some h
    refine r_iald hg dX12_eats_37 e26.2 e28 ?_
    refine r_iconst hg dX12_eats_38 ci_1 ?_
    refine r_iadd hg dX12_eats_39 ?_
    obtain ⟨I29, e30, h⟩ := q_b1_some h
    refine r_iast hg dX12_eats_40 e26.2 e30 ?_
    refine r_goto hg 92 dX12_eats_41 (by decide) ?_
    refine r_sub hg [1, 0] rfl ?_
    exact p_X12_eats_92 hΓ hg hr hX k_this _ _ h
