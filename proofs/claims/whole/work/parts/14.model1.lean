theorem dX12_becomes_0 : q_at cX12_becomes 0 (.aload_n 0) 1 1 := ⟨by decide +kernel, rfl⟩
theorem dX12_becomes_1 : q_at cX12_becomes 1 (.getfield 7) 3 4 := ⟨by decide +kernel, rfl⟩
theorem dX12_becomes_4 : q_at cX12_becomes 4 (.iload_n 1) 1 5 := ⟨by decide +kernel, rfl⟩
theorem dX12_becomes_5 : q_at cX12_becomes 5 (.iaload) 1 6 := ⟨by decide +kernel, rfl⟩
theorem dX12_becomes_6 : q_at cX12_becomes 6 (.istore_n 3) 1 7 := ⟨by decide +kernel, rfl⟩
theorem dX12_becomes_7 : q_at cX12_becomes 7 (.aload_n 0) 1 8 := ⟨by decide +kernel, rfl⟩
theorem dX12_becomes_8 : q_at cX12_becomes 8 (.getfield 7) 3 11 := ⟨by decide +kernel, rfl⟩
theorem dX12_becomes_11 : q_at cX12_becomes 11 (.iload_n 1) 1 12 := ⟨by decide +kernel, rfl⟩
theorem dX12_becomes_12 : q_at cX12_becomes 12 (.iload_n 2) 1 13 := ⟨by decide +kernel, rfl⟩
theorem dX12_becomes_13 : q_at cX12_becomes 13 (.iastore) 1 14 := ⟨by decide +kernel, rfl⟩
theorem dX12_becomes_14 : q_at cX12_becomes 14 (.iload_n 3) 1 15 := ⟨by decide +kernel, rfl⟩
theorem dX12_becomes_15 : q_at cX12_becomes 15 (.ireturn) 1 16 := ⟨by decide +kernel, rfl⟩
theorem dX12_blankOf_0 : q_at cX12_blankOf 0 (.iload_n 0) 1 1 := ⟨by decide +kernel, rfl⟩
theorem dX12_blankOf_1 : q_at cX12_blankOf 1 (.iconst 1) 1 2 := ⟨by decide +kernel, rfl⟩
theorem dX12_blankOf_2 : q_at cX12_blankOf 2 (.if_icmp .ne 9) 3 5 := ⟨by decide +kernel, rfl⟩
theorem dX12_blankOf_5 : q_at cX12_blankOf 5 (.sipush (-32768)) 3 8 := ⟨by decide +kernel, rfl⟩
theorem dX12_blankOf_8 : q_at cX12_blankOf 8 (.goto 6) 3 11 := ⟨by decide +kernel, rfl⟩
theorem dX12_blankOf_11 : q_at cX12_blankOf 11 (.ldc_w 374) 3 14 := ⟨by decide +kernel, rfl⟩
theorem dX12_blankOf_14 : q_at cX12_blankOf 14 (.ireturn) 1 15 := ⟨by decide +kernel, rfl⟩
theorem dX12_dueAt_0 : q_at cX12_dueAt 0 (.sipush 370) 3 3 := ⟨by decide +kernel, rfl⟩
theorem dX12_dueAt_3 : q_at cX12_dueAt 3 (.bipush 8) 2 5 := ⟨by decide +kernel, rfl⟩
theorem dX12_dueAt_5 : q_at cX12_dueAt 5 (.iload_n 1) 1 6 := ⟨by decide +kernel, rfl⟩
theorem dX12_dueAt_6 : q_at cX12_dueAt 6 (.imul) 1 7 := ⟨by decide +kernel, rfl⟩
theorem dX12_dueAt_7 : q_at cX12_dueAt 7 (.iadd) 1 8 := ⟨by decide +kernel, rfl⟩
theorem dX12_dueAt_8 : q_at cX12_dueAt 8 (.ireturn) 1 9 := ⟨by decide +kernel, rfl⟩
theorem dX12_dueIs_0 : q_at cX12_dueIs 0 (.aload_n 0) 1 1 := ⟨by decide +kernel, rfl⟩
theorem dX12_dueIs_1 : q_at cX12_dueIs 1 (.getfield 58) 3 4 := ⟨by decide +kernel, rfl⟩
theorem dX12_dueIs_4 : q_at cX12_dueIs 4 (.aload_n 0) 1 5 := ⟨by decide +kernel, rfl⟩
theorem dX12_dueIs_5 : q_at cX12_dueIs 5 (.getfield 434) 3 8 := ⟨by decide +kernel, rfl⟩
theorem dX12_dueIs_8 : q_at cX12_dueIs 8 (.iload_n 1) 1 9 := ⟨by decide +kernel, rfl⟩
theorem dX12_dueIs_9 : q_at cX12_dueIs 9 (.iastore) 1 10 := ⟨by decide +kernel, rfl⟩
theorem dX12_dueIs_10 : q_at cX12_dueIs 10 (.aload_n 0) 1 11 := ⟨by decide +kernel, rfl⟩
theorem dX12_dueIs_11 : q_at cX12_dueIs 11 (.getfield 58) 3 14 := ⟨by decide +kernel, rfl⟩
theorem dX12_dueIs_14 : q_at cX12_dueIs 14 (.aload_n 0) 1 15 := ⟨by decide +kernel, rfl⟩
theorem dX12_dueIs_15 : q_at cX12_dueIs 15 (.getfield 434) 3 18 := ⟨by decide +kernel, rfl⟩
theorem dX12_dueIs_18 : q_at cX12_dueIs 18 (.iconst 1) 1 19 := ⟨by decide +kernel, rfl⟩
theorem dX12_dueIs_19 : q_at cX12_dueIs 19 (.iadd) 1 20 := ⟨by decide +kernel, rfl⟩
theorem dX12_dueIs_20 : q_at cX12_dueIs 20 (.iload_n 2) 1 21 := ⟨by decide +kernel, rfl⟩
theorem dX12_dueIs_21 : q_at cX12_dueIs 21 (.iastore) 1 22 := ⟨by decide +kernel, rfl⟩
theorem dX12_dueIs_22 : q_at cX12_dueIs 22 (.aload_n 0) 1 23 := ⟨by decide +kernel, rfl⟩
theorem dX12_dueIs_23 : q_at cX12_dueIs 23 (.dup) 1 24 := ⟨by decide +kernel, rfl⟩
theorem dX12_dueIs_24 : q_at cX12_dueIs 24 (.getfield 434) 3 27 := ⟨by decide +kernel, rfl⟩
theorem dX12_dueIs_27 : q_at cX12_dueIs 27 (.iconst 2) 1 28 := ⟨by decide +kernel, rfl⟩
theorem dX12_dueIs_28 : q_at cX12_dueIs 28 (.iadd) 1 29 := ⟨by decide +kernel, rfl⟩
theorem dX12_dueIs_29 : q_at cX12_dueIs 29 (.putfield 434) 3 32 := ⟨by decide +kernel, rfl⟩
theorem dX12_dueIs_32 : q_at cX12_dueIs 32 (.return_) 1 33 := ⟨by decide +kernel, rfl⟩
theorem dX12_feed_0 : q_at cX12_feed 0 (.aload_n 0) 1 1 := ⟨by decide +kernel, rfl⟩
theorem dX12_feed_1 : q_at cX12_feed 1 (.getfield 215) 3 4 := ⟨by decide +kernel, rfl⟩
theorem dX12_feed_4 : q_at cX12_feed 4 (.bipush 12) 2 6 := ⟨by decide +kernel, rfl⟩
theorem dX12_feed_6 : q_at cX12_feed 6 (.iadd) 1 7 := ⟨by decide +kernel, rfl⟩
theorem dX12_feed_7 : q_at cX12_feed 7 (.bipush 96) 2 9 := ⟨by decide +kernel, rfl⟩
theorem dX12_feed_9 : q_at cX12_feed 9 (.if_icmp .le 6) 3 12 := ⟨by decide +kernel, rfl⟩
theorem dX12_feed_12 : q_at cX12_feed 12 (.ldc 98) 2 14 := ⟨by decide +kernel, rfl⟩
theorem dX12_feed_14 : q_at cX12_feed 14 (.ireturn) 1 15 := ⟨by decide +kernel, rfl⟩
theorem dX12_feed_15 : q_at cX12_feed 15 (.iconst 0) 1 16 := ⟨by decide +kernel, rfl⟩
theorem dX12_feed_16 : q_at cX12_feed 16 (.istore 4) 2 18 := ⟨by decide +kernel, rfl⟩
theorem dX12_feed_18 : q_at cX12_feed 18 (.iload 4) 2 20 := ⟨by decide +kernel, rfl⟩
theorem dX12_feed_20 : q_at cX12_feed 20 (.bipush 12) 2 22 := ⟨by decide +kernel, rfl⟩
theorem dX12_feed_22 : q_at cX12_feed 22 (.if_icmp .ge 69) 3 25 := ⟨by decide +kernel, rfl⟩
theorem dX12_feed_25 : q_at cX12_feed 25 (.iload 4) 2 27 := ⟨by decide +kernel, rfl⟩
theorem dX12_feed_27 : q_at cX12_feed 27 (.iconst 4) 1 28 := ⟨by decide +kernel, rfl⟩
theorem dX12_feed_28 : q_at cX12_feed 28 (.if_icmp .ge 7) 3 31 := ⟨by decide +kernel, rfl⟩
theorem dX12_feed_31 : q_at cX12_feed 31 (.iload_n 1) 1 32 := ⟨by decide +kernel, rfl⟩
theorem dX12_feed_32 : q_at cX12_feed 32 (.goto 15) 3 35 := ⟨by decide +kernel, rfl⟩
theorem dX12_feed_35 : q_at cX12_feed 35 (.iload 4) 2 37 := ⟨by decide +kernel, rfl⟩
theorem dX12_feed_37 : q_at cX12_feed 37 (.bipush 8) 2 39 := ⟨by decide +kernel, rfl⟩
theorem dX12_feed_39 : q_at cX12_feed 39 (.if_icmp .ge 7) 3 42 := ⟨by decide +kernel, rfl⟩
theorem dX12_feed_42 : q_at cX12_feed 42 (.iload_n 2) 1 43 := ⟨by decide +kernel, rfl⟩
theorem dX12_feed_43 : q_at cX12_feed 43 (.goto 4) 3 46 := ⟨by decide +kernel, rfl⟩
theorem dX12_feed_46 : q_at cX12_feed 46 (.iload_n 3) 1 47 := ⟨by decide +kernel, rfl⟩
theorem dX12_feed_47 : q_at cX12_feed 47 (.istore 5) 2 49 := ⟨by decide +kernel, rfl⟩
theorem dX12_feed_49 : q_at cX12_feed 49 (.aload_n 0) 1 50 := ⟨by decide +kernel, rfl⟩
theorem dX12_feed_50 : q_at cX12_feed 50 (.getfield 28) 3 53 := ⟨by decide +kernel, rfl⟩
theorem dX12_feed_53 : q_at cX12_feed 53 (.aload_n 0) 1 54 := ⟨by decide +kernel, rfl⟩
theorem dX12_feed_54 : q_at cX12_feed 54 (.getfield 215) 3 57 := ⟨by decide +kernel, rfl⟩
theorem dX12_feed_57 : q_at cX12_feed 57 (.iload 5) 2 59 := ⟨by decide +kernel, rfl⟩
theorem dX12_feed_59 : q_at cX12_feed 59 (.bipush 24) 2 61 := ⟨by decide +kernel, rfl⟩
theorem dX12_feed_61 : q_at cX12_feed 61 (.bipush 8) 2 63 := ⟨by decide +kernel, rfl⟩
theorem dX12_feed_63 : q_at cX12_feed 63 (.iload 4) 2 65 := ⟨by decide +kernel, rfl⟩
theorem dX12_feed_65 : q_at cX12_feed 65 (.iconst 4) 1 66 := ⟨by decide +kernel, rfl⟩
theorem dX12_feed_66 : q_at cX12_feed 66 (.irem) 1 67 := ⟨by decide +kernel, rfl⟩
theorem dX12_feed_67 : q_at cX12_feed 67 (.imul) 1 68 := ⟨by decide +kernel, rfl⟩
theorem dX12_feed_68 : q_at cX12_feed 68 (.isub) 1 69 := ⟨by decide +kernel, rfl⟩
theorem dX12_feed_69 : q_at cX12_feed 69 (.ishr) 1 70 := ⟨by decide +kernel, rfl⟩
theorem dX12_feed_70 : q_at cX12_feed 70 (.sipush 255) 3 73 := ⟨by decide +kernel, rfl⟩
theorem dX12_feed_73 : q_at cX12_feed 73 (.iand) 1 74 := ⟨by decide +kernel, rfl⟩
theorem dX12_feed_74 : q_at cX12_feed 74 (.iastore) 1 75 := ⟨by decide +kernel, rfl⟩
theorem dX12_feed_75 : q_at cX12_feed 75 (.aload_n 0) 1 76 := ⟨by decide +kernel, rfl⟩
theorem dX12_feed_76 : q_at cX12_feed 76 (.dup) 1 77 := ⟨by decide +kernel, rfl⟩
theorem dX12_feed_77 : q_at cX12_feed 77 (.getfield 215) 3 80 := ⟨by decide +kernel, rfl⟩
theorem dX12_feed_80 : q_at cX12_feed 80 (.iconst 1) 1 81 := ⟨by decide +kernel, rfl⟩
theorem dX12_feed_81 : q_at cX12_feed 81 (.iadd) 1 82 := ⟨by decide +kernel, rfl⟩
theorem dX12_feed_82 : q_at cX12_feed 82 (.putfield 215) 3 85 := ⟨by decide +kernel, rfl⟩
theorem dX12_feed_85 : q_at cX12_feed 85 (.iinc 4 1) 3 88 := ⟨by decide +kernel, rfl⟩
theorem dX12_feed_88 : q_at cX12_feed 88 (.goto (-70)) 3 91 := ⟨by decide +kernel, rfl⟩
theorem dX12_feed_91 : q_at cX12_feed 91 (.aload_n 0) 1 92 := ⟨by decide +kernel, rfl⟩
theorem dX12_feed_92 : q_at cX12_feed 92 (.getfield 215) 3 95 := ⟨by decide +kernel, rfl⟩
theorem dX12_feed_95 : q_at cX12_feed 95 (.ireturn) 1 96 := ⟨by decide +kernel, rfl⟩
theorem dX12_held_0 : q_at cX12_held 0 (.iload_n 0) 1 1 := ⟨by decide +kernel, rfl⟩
theorem dX12_held_1 : q_at cX12_held 1 (.iload_n 1) 1 2 := ⟨by decide +kernel, rfl⟩
theorem dX12_held_2 : q_at cX12_held 2 (.if_icmp .ge 7) 3 5 := ⟨by decide +kernel, rfl⟩
theorem dX12_held_5 : q_at cX12_held 5 (.iload_n 1) 1 6 := ⟨by decide +kernel, rfl⟩
theorem dX12_held_6 : q_at cX12_held 6 (.goto 13) 3 9 := ⟨by decide +kernel, rfl⟩
theorem dX12_held_9 : q_at cX12_held 9 (.iload_n 0) 1 10 := ⟨by decide +kernel, rfl⟩
theorem dX12_held_10 : q_at cX12_held 10 (.iload_n 2) 1 11 := ⟨by decide +kernel, rfl⟩
theorem dX12_held_11 : q_at cX12_held 11 (.if_icmp .le 7) 3 14 := ⟨by decide +kernel, rfl⟩
theorem dX12_held_14 : q_at cX12_held 14 (.iload_n 2) 1 15 := ⟨by decide +kernel, rfl⟩
theorem dX12_held_15 : q_at cX12_held 15 (.goto 4) 3 18 := ⟨by decide +kernel, rfl⟩
theorem dX12_held_18 : q_at cX12_held 18 (.iload_n 0) 1 19 := ⟨by decide +kernel, rfl⟩
theorem dX12_held_19 : q_at cX12_held 19 (.ireturn) 1 20 := ⟨by decide +kernel, rfl⟩
theorem dX12_isIn_0 : q_at cX12_isIn 0 (.lload_n 0) 1 1 := ⟨by decide +kernel, rfl⟩
theorem dX12_isIn_1 : q_at cX12_isIn 1 (.lload_n 2) 1 2 := ⟨by decide +kernel, rfl⟩
theorem dX12_isIn_2 : q_at cX12_isIn 2 (.lcmp) 1 3 := ⟨by decide +kernel, rfl⟩
theorem dX12_isIn_3 : q_at cX12_isIn 3 (.ifCond .lt 14) 3 6 := ⟨by decide +kernel, rfl⟩
theorem dX12_isIn_6 : q_at cX12_isIn 6 (.lload_n 0) 1 7 := ⟨by decide +kernel, rfl⟩
theorem dX12_isIn_7 : q_at cX12_isIn 7 (.lload 4) 2 9 := ⟨by decide +kernel, rfl⟩
theorem dX12_isIn_9 : q_at cX12_isIn 9 (.lcmp) 1 10 := ⟨by decide +kernel, rfl⟩
theorem dX12_isIn_10 : q_at cX12_isIn 10 (.ifCond .gt 7) 3 13 := ⟨by decide +kernel, rfl⟩
theorem dX12_isIn_13 : q_at cX12_isIn 13 (.iconst 1) 1 14 := ⟨by decide +kernel, rfl⟩
theorem dX12_isIn_14 : q_at cX12_isIn 14 (.goto 4) 3 17 := ⟨by decide +kernel, rfl⟩
theorem dX12_isIn_17 : q_at cX12_isIn 17 (.iconst 0) 1 18 := ⟨by decide +kernel, rfl⟩
theorem dX12_isIn_18 : q_at cX12_isIn 18 (.ireturn) 1 19 := ⟨by decide +kernel, rfl⟩
theorem dX12_isName_0 : q_at cX12_isName 0 (.iload_n 0) 1 1 := ⟨by decide +kernel, rfl⟩
theorem dX12_isName_1 : q_at cX12_isName 1 (.tableswitch 135 0 5 #[39, 57, 69, 81, 99, 117]) 39 40 := ⟨by decide +kernel, rfl⟩
theorem dX12_isName_40 : q_at cX12_isName 40 (.iload_n 1) 1 41 := ⟨by decide +kernel, rfl⟩
theorem dX12_isName_41 : q_at cX12_isName 41 (.bipush 116) 2 43 := ⟨by decide +kernel, rfl⟩
theorem dX12_isName_43 : q_at cX12_isName 43 (.if_icmp .eq 9) 3 46 := ⟨by decide +kernel, rfl⟩
theorem dX12_isName_46 : q_at cX12_isName 46 (.iload_n 1) 1 47 := ⟨by decide +kernel, rfl⟩
theorem dX12_isName_47 : q_at cX12_isName 47 (.bipush 115) 2 49 := ⟨by decide +kernel, rfl⟩
theorem dX12_isName_49 : q_at cX12_isName 49 (.if_icmp .ne 7) 3 52 := ⟨by decide +kernel, rfl⟩
theorem dX12_isName_52 : q_at cX12_isName 52 (.iconst 1) 1 53 := ⟨by decide +kernel, rfl⟩
theorem dX12_isName_53 : q_at cX12_isName 53 (.goto 4) 3 56 := ⟨by decide +kernel, rfl⟩
theorem dX12_isName_56 : q_at cX12_isName 56 (.iconst 0) 1 57 := ⟨by decide +kernel, rfl⟩
theorem dX12_isName_57 : q_at cX12_isName 57 (.ireturn) 1 58 := ⟨by decide +kernel, rfl⟩
theorem dX12_isName_58 : q_at cX12_isName 58 (.iload_n 1) 1 59 := ⟨by decide +kernel, rfl⟩
theorem dX12_isName_59 : q_at cX12_isName 59 (.bipush 101) 2 61 := ⟨by decide +kernel, rfl⟩
theorem dX12_isName_61 : q_at cX12_isName 61 (.if_icmp .ne 7) 3 64 := ⟨by decide +kernel, rfl⟩
theorem dX12_isName_64 : q_at cX12_isName 64 (.iconst 1) 1 65 := ⟨by decide +kernel, rfl⟩
theorem dX12_isName_65 : q_at cX12_isName 65 (.goto 4) 3 68 := ⟨by decide +kernel, rfl⟩
theorem dX12_isName_68 : q_at cX12_isName 68 (.iconst 0) 1 69 := ⟨by decide +kernel, rfl⟩
theorem dX12_isName_69 : q_at cX12_isName 69 (.ireturn) 1 70 := ⟨by decide +kernel, rfl⟩
theorem dX12_isName_70 : q_at cX12_isName 70 (.iload_n 1) 1 71 := ⟨by decide +kernel, rfl⟩
theorem dX12_isName_71 : q_at cX12_isName 71 (.bipush 119) 2 73 := ⟨by decide +kernel, rfl⟩
theorem dX12_isName_73 : q_at cX12_isName 73 (.if_icmp .ne 7) 3 76 := ⟨by decide +kernel, rfl⟩
theorem dX12_isName_76 : q_at cX12_isName 76 (.iconst 1) 1 77 := ⟨by decide +kernel, rfl⟩
theorem dX12_isName_77 : q_at cX12_isName 77 (.goto 4) 3 80 := ⟨by decide +kernel, rfl⟩
theorem dX12_isName_80 : q_at cX12_isName 80 (.iconst 0) 1 81 := ⟨by decide +kernel, rfl⟩
theorem dX12_isName_81 : q_at cX12_isName 81 (.ireturn) 1 82 := ⟨by decide +kernel, rfl⟩
theorem dX12_isName_82 : q_at cX12_isName 82 (.iload_n 1) 1 83 := ⟨by decide +kernel, rfl⟩
theorem dX12_isName_83 : q_at cX12_isName 83 (.bipush 108) 2 85 := ⟨by decide +kernel, rfl⟩
theorem dX12_isName_85 : q_at cX12_isName 85 (.if_icmp .eq 9) 3 88 := ⟨by decide +kernel, rfl⟩
theorem dX12_isName_88 : q_at cX12_isName 88 (.iload_n 1) 1 89 := ⟨by decide +kernel, rfl⟩
theorem dX12_isName_89 : q_at cX12_isName 89 (.bipush 119) 2 91 := ⟨by decide +kernel, rfl⟩
theorem dX12_isName_91 : q_at cX12_isName 91 (.if_icmp .ne 7) 3 94 := ⟨by decide +kernel, rfl⟩
theorem dX12_isName_94 : q_at cX12_isName 94 (.iconst 1) 1 95 := ⟨by decide +kernel, rfl⟩
theorem dX12_isName_95 : q_at cX12_isName 95 (.goto 4) 3 98 := ⟨by decide +kernel, rfl⟩
theorem dX12_isName_98 : q_at cX12_isName 98 (.iconst 0) 1 99 := ⟨by decide +kernel, rfl⟩
theorem dX12_isName_99 : q_at cX12_isName 99 (.ireturn) 1 100 := ⟨by decide +kernel, rfl⟩
theorem dX12_isName_100 : q_at cX12_isName 100 (.iload_n 1) 1 101 := ⟨by decide +kernel, rfl⟩
theorem dX12_isName_101 : q_at cX12_isName 101 (.bipush 97) 2 103 := ⟨by decide +kernel, rfl⟩
theorem dX12_isName_103 : q_at cX12_isName 103 (.if_icmp .eq 9) 3 106 := ⟨by decide +kernel, rfl⟩
theorem dX12_isName_106 : q_at cX12_isName 106 (.iload_n 1) 1 107 := ⟨by decide +kernel, rfl⟩
theorem dX12_isName_107 : q_at cX12_isName 107 (.bipush 98) 2 109 := ⟨by decide +kernel, rfl⟩
theorem dX12_isName_109 : q_at cX12_isName 109 (.if_icmp .ne 7) 3 112 := ⟨by decide +kernel, rfl⟩
theorem dX12_isName_112 : q_at cX12_isName 112 (.iconst 1) 1 113 := ⟨by decide +kernel, rfl⟩
theorem dX12_isName_113 : q_at cX12_isName 113 (.goto 4) 3 116 := ⟨by decide +kernel, rfl⟩
theorem dX12_isName_116 : q_at cX12_isName 116 (.iconst 0) 1 117 := ⟨by decide +kernel, rfl⟩
theorem dX12_isName_117 : q_at cX12_isName 117 (.ireturn) 1 118 := ⟨by decide +kernel, rfl⟩
theorem dX12_isName_118 : q_at cX12_isName 118 (.iload_n 1) 1 119 := ⟨by decide +kernel, rfl⟩
theorem dX12_isName_119 : q_at cX12_isName 119 (.bipush 98) 2 121 := ⟨by decide +kernel, rfl⟩
theorem dX12_isName_121 : q_at cX12_isName 121 (.if_icmp .eq 9) 3 124 := ⟨by decide +kernel, rfl⟩
theorem dX12_isName_124 : q_at cX12_isName 124 (.iload_n 1) 1 125 := ⟨by decide +kernel, rfl⟩
theorem dX12_isName_125 : q_at cX12_isName 125 (.bipush 100) 2 127 := ⟨by decide +kernel, rfl⟩
theorem dX12_isName_127 : q_at cX12_isName 127 (.if_icmp .ne 7) 3 130 := ⟨by decide +kernel, rfl⟩
theorem dX12_isName_130 : q_at cX12_isName 130 (.iconst 1) 1 131 := ⟨by decide +kernel, rfl⟩
theorem dX12_isName_131 : q_at cX12_isName 131 (.goto 4) 3 134 := ⟨by decide +kernel, rfl⟩
theorem dX12_isName_134 : q_at cX12_isName 134 (.iconst 0) 1 135 := ⟨by decide +kernel, rfl⟩
theorem dX12_isName_135 : q_at cX12_isName 135 (.ireturn) 1 136 := ⟨by decide +kernel, rfl⟩
theorem dX12_isName_136 : q_at cX12_isName 136 (.iload_n 1) 1 137 := ⟨by decide +kernel, rfl⟩
theorem dX12_isName_137 : q_at cX12_isName 137 (.bipush 109) 2 139 := ⟨by decide +kernel, rfl⟩
theorem dX12_isName_139 : q_at cX12_isName 139 (.if_icmp .eq 15) 3 142 := ⟨by decide +kernel, rfl⟩
theorem dX12_isName_142 : q_at cX12_isName 142 (.iload_n 1) 1 143 := ⟨by decide +kernel, rfl⟩
theorem dX12_isName_143 : q_at cX12_isName 143 (.bipush 112) 2 145 := ⟨by decide +kernel, rfl⟩
theorem dX12_isName_145 : q_at cX12_isName 145 (.if_icmp .eq 9) 3 148 := ⟨by decide +kernel, rfl⟩
theorem dX12_isName_148 : q_at cX12_isName 148 (.iload_n 1) 1 149 := ⟨by decide +kernel, rfl⟩
theorem dX12_isName_149 : q_at cX12_isName 149 (.bipush 116) 2 151 := ⟨by decide +kernel, rfl⟩
theorem dX12_isName_151 : q_at cX12_isName 151 (.if_icmp .ne 7) 3 154 := ⟨by decide +kernel, rfl⟩
theorem dX12_isName_154 : q_at cX12_isName 154 (.iconst 1) 1 155 := ⟨by decide +kernel, rfl⟩
theorem dX12_isName_155 : q_at cX12_isName 155 (.goto 4) 3 158 := ⟨by decide +kernel, rfl⟩
theorem dX12_isName_158 : q_at cX12_isName 158 (.iconst 0) 1 159 := ⟨by decide +kernel, rfl⟩
theorem dX12_isName_159 : q_at cX12_isName 159 (.ireturn) 1 160 := ⟨by decide +kernel, rfl⟩
theorem dX12_isSign_0 : q_at cX12_isSign 0 (.aload_n 0) 1 1 := ⟨by decide +kernel, rfl⟩
theorem dX12_isSign_1 : q_at cX12_isSign 1 (.getfield 229) 3 4 := ⟨by decide +kernel, rfl⟩
theorem dX12_isSign_4 : q_at cX12_isSign 4 (.iconst 3) 1 5 := ⟨by decide +kernel, rfl⟩
theorem dX12_isSign_5 : q_at cX12_isSign 5 (.if_icmp .ne 15) 3 8 := ⟨by decide +kernel, rfl⟩
theorem dX12_isSign_8 : q_at cX12_isSign 8 (.aload_n 0) 1 9 := ⟨by decide +kernel, rfl⟩
theorem dX12_isSign_9 : q_at cX12_isSign 9 (.getfield 238) 3 12 := ⟨by decide +kernel, rfl⟩
theorem dX12_isSign_12 : q_at cX12_isSign 12 (.iload_n 1) 1 13 := ⟨by decide +kernel, rfl⟩
theorem dX12_isSign_13 : q_at cX12_isSign 13 (.if_icmp .ne 7) 3 16 := ⟨by decide +kernel, rfl⟩
theorem dX12_isSign_16 : q_at cX12_isSign 16 (.iconst 1) 1 17 := ⟨by decide +kernel, rfl⟩
theorem dX12_isSign_17 : q_at cX12_isSign 17 (.goto 4) 3 20 := ⟨by decide +kernel, rfl⟩
theorem dX12_isSign_20 : q_at cX12_isSign 20 (.iconst 0) 1 21 := ⟨by decide +kernel, rfl⟩
theorem dX12_isSign_21 : q_at cX12_isSign 21 (.ireturn) 1 22 := ⟨by decide +kernel, rfl⟩
theorem dX12_isWordAt_0 : q_at cX12_isWordAt 0 (.iload 4) 2 2 := ⟨by decide +kernel, rfl⟩
theorem dX12_isWordAt_2 : q_at cX12_isWordAt 2 (.ifCond .ne 7) 3 5 := ⟨by decide +kernel, rfl⟩
theorem dX12_isWordAt_5 : q_at cX12_isWordAt 5 (.iconst 3) 1 6 := ⟨by decide +kernel, rfl⟩
theorem dX12_isWordAt_6 : q_at cX12_isWordAt 6 (.goto 4) 3 9 := ⟨by decide +kernel, rfl⟩
theorem dX12_isWordAt_9 : q_at cX12_isWordAt 9 (.iconst 4) 1 10 := ⟨by decide +kernel, rfl⟩
theorem dX12_isWordAt_10 : q_at cX12_isWordAt 10 (.istore 5) 2 12 := ⟨by decide +kernel, rfl⟩
theorem dX12_isWordAt_12 : q_at cX12_isWordAt 12 (.aload_n 0) 1 13 := ⟨by decide +kernel, rfl⟩
theorem dX12_isWordAt_13 : q_at cX12_isWordAt 13 (.getfield 229) 3 16 := ⟨by decide +kernel, rfl⟩
theorem dX12_isWordAt_16 : q_at cX12_isWordAt 16 (.iconst 1) 1 17 := ⟨by decide +kernel, rfl⟩
theorem dX12_isWordAt_17 : q_at cX12_isWordAt 17 (.if_icmp .ne 85) 3 20 := ⟨by decide +kernel, rfl⟩
theorem dX12_isWordAt_20 : q_at cX12_isWordAt 20 (.aload_n 0) 1 21 := ⟨by decide +kernel, rfl⟩
theorem dX12_isWordAt_21 : q_at cX12_isWordAt 21 (.getfield 226) 3 24 := ⟨by decide +kernel, rfl⟩
theorem dX12_isWordAt_24 : q_at cX12_isWordAt 24 (.aload_n 0) 1 25 := ⟨by decide +kernel, rfl⟩
theorem dX12_isWordAt_25 : q_at cX12_isWordAt 25 (.getfield 232) 3 28 := ⟨by decide +kernel, rfl⟩
theorem dX12_isWordAt_28 : q_at cX12_isWordAt 28 (.isub) 1 29 := ⟨by decide +kernel, rfl⟩
theorem dX12_isWordAt_29 : q_at cX12_isWordAt 29 (.iload 5) 2 31 := ⟨by decide +kernel, rfl⟩
theorem dX12_isWordAt_31 : q_at cX12_isWordAt 31 (.if_icmp .ne 71) 3 34 := ⟨by decide +kernel, rfl⟩
theorem dX12_isWordAt_34 : q_at cX12_isWordAt 34 (.aload_n 0) 1 35 := ⟨by decide +kernel, rfl⟩
theorem dX12_isWordAt_35 : q_at cX12_isWordAt 35 (.getfield 28) 3 38 := ⟨by decide +kernel, rfl⟩
theorem dX12_isWordAt_38 : q_at cX12_isWordAt 38 (.aload_n 0) 1 39 := ⟨by decide +kernel, rfl⟩
theorem dX12_isWordAt_39 : q_at cX12_isWordAt 39 (.getfield 232) 3 42 := ⟨by decide +kernel, rfl⟩
theorem dX12_isWordAt_42 : q_at cX12_isWordAt 42 (.iaload) 1 43 := ⟨by decide +kernel, rfl⟩
theorem dX12_isWordAt_43 : q_at cX12_isWordAt 43 (.iload_n 1) 1 44 := ⟨by decide +kernel, rfl⟩
theorem dX12_isWordAt_44 : q_at cX12_isWordAt 44 (.if_icmp .ne 58) 3 47 := ⟨by decide +kernel, rfl⟩
theorem dX12_isWordAt_47 : q_at cX12_isWordAt 47 (.aload_n 0) 1 48 := ⟨by decide +kernel, rfl⟩
theorem dX12_isWordAt_48 : q_at cX12_isWordAt 48 (.getfield 28) 3 51 := ⟨by decide +kernel, rfl⟩
theorem dX12_isWordAt_51 : q_at cX12_isWordAt 51 (.aload_n 0) 1 52 := ⟨by decide +kernel, rfl⟩
theorem dX12_isWordAt_52 : q_at cX12_isWordAt 52 (.getfield 232) 3 55 := ⟨by decide +kernel, rfl⟩
theorem dX12_isWordAt_55 : q_at cX12_isWordAt 55 (.iconst 1) 1 56 := ⟨by decide +kernel, rfl⟩
theorem dX12_isWordAt_56 : q_at cX12_isWordAt 56 (.iadd) 1 57 := ⟨by decide +kernel, rfl⟩
theorem dX12_isWordAt_57 : q_at cX12_isWordAt 57 (.iaload) 1 58 := ⟨by decide +kernel, rfl⟩
theorem dX12_isWordAt_58 : q_at cX12_isWordAt 58 (.iload_n 2) 1 59 := ⟨by decide +kernel, rfl⟩
theorem dX12_isWordAt_59 : q_at cX12_isWordAt 59 (.if_icmp .ne 43) 3 62 := ⟨by decide +kernel, rfl⟩
theorem dX12_isWordAt_62 : q_at cX12_isWordAt 62 (.aload_n 0) 1 63 := ⟨by decide +kernel, rfl⟩
theorem dX12_isWordAt_63 : q_at cX12_isWordAt 63 (.getfield 28) 3 66 := ⟨by decide +kernel, rfl⟩
theorem dX12_isWordAt_66 : q_at cX12_isWordAt 66 (.aload_n 0) 1 67 := ⟨by decide +kernel, rfl⟩
theorem dX12_isWordAt_67 : q_at cX12_isWordAt 67 (.getfield 232) 3 70 := ⟨by decide +kernel, rfl⟩
theorem dX12_isWordAt_70 : q_at cX12_isWordAt 70 (.iconst 2) 1 71 := ⟨by decide +kernel, rfl⟩
theorem dX12_isWordAt_71 : q_at cX12_isWordAt 71 (.iadd) 1 72 := ⟨by decide +kernel, rfl⟩
theorem dX12_isWordAt_72 : q_at cX12_isWordAt 72 (.iaload) 1 73 := ⟨by decide +kernel, rfl⟩
theorem dX12_isWordAt_73 : q_at cX12_isWordAt 73 (.iload_n 3) 1 74 := ⟨by decide +kernel, rfl⟩
theorem dX12_isWordAt_74 : q_at cX12_isWordAt 74 (.if_icmp .ne 28) 3 77 := ⟨by decide +kernel, rfl⟩
theorem dX12_isWordAt_77 : q_at cX12_isWordAt 77 (.iload 4) 2 79 := ⟨by decide +kernel, rfl⟩
theorem dX12_isWordAt_79 : q_at cX12_isWordAt 79 (.ifCond .eq 19) 3 82 := ⟨by decide +kernel, rfl⟩
theorem dX12_isWordAt_82 : q_at cX12_isWordAt 82 (.aload_n 0) 1 83 := ⟨by decide +kernel, rfl⟩
theorem dX12_isWordAt_83 : q_at cX12_isWordAt 83 (.getfield 28) 3 86 := ⟨by decide +kernel, rfl⟩
theorem dX12_isWordAt_86 : q_at cX12_isWordAt 86 (.aload_n 0) 1 87 := ⟨by decide +kernel, rfl⟩
theorem dX12_isWordAt_87 : q_at cX12_isWordAt 87 (.getfield 232) 3 90 := ⟨by decide +kernel, rfl⟩
theorem dX12_isWordAt_90 : q_at cX12_isWordAt 90 (.iconst 3) 1 91 := ⟨by decide +kernel, rfl⟩
theorem dX12_isWordAt_91 : q_at cX12_isWordAt 91 (.iadd) 1 92 := ⟨by decide +kernel, rfl⟩
theorem dX12_isWordAt_92 : q_at cX12_isWordAt 92 (.iaload) 1 93 := ⟨by decide +kernel, rfl⟩
theorem dX12_isWordAt_93 : q_at cX12_isWordAt 93 (.iload 4) 2 95 := ⟨by decide +kernel, rfl⟩
theorem dX12_isWordAt_95 : q_at cX12_isWordAt 95 (.if_icmp .ne 7) 3 98 := ⟨by decide +kernel, rfl⟩
theorem dX12_isWordAt_98 : q_at cX12_isWordAt 98 (.iconst 1) 1 99 := ⟨by decide +kernel, rfl⟩
theorem dX12_isWordAt_99 : q_at cX12_isWordAt 99 (.goto 4) 3 102 := ⟨by decide +kernel, rfl⟩
theorem dX12_isWordAt_102 : q_at cX12_isWordAt 102 (.iconst 0) 1 103 := ⟨by decide +kernel, rfl⟩
theorem dX12_isWordAt_103 : q_at cX12_isWordAt 103 (.ireturn) 1 104 := ⟨by decide +kernel, rfl⟩
theorem dX12_joined_0 : q_at cX12_joined 0 (.iload_n 0) 1 1 := ⟨by decide +kernel, rfl⟩
theorem dX12_joined_1 : q_at cX12_joined 1 (.tableswitch 196 38 62 #[182, 196, 196, 196, 123, 115, 196, 119, 196, 127, 196, 196, 196, 196, 196, 196, 196, 196, 196, 196, 196, 196, 149, 171, 160]) 115 116 := ⟨by decide +kernel, rfl⟩
theorem dX12_joined_116 : q_at cX12_joined 116 (.iload_n 1) 1 117 := ⟨by decide +kernel, rfl⟩
theorem dX12_joined_117 : q_at cX12_joined 117 (.iload_n 2) 1 118 := ⟨by decide +kernel, rfl⟩
theorem dX12_joined_118 : q_at cX12_joined 118 (.iadd) 1 119 := ⟨by decide +kernel, rfl⟩
theorem dX12_joined_119 : q_at cX12_joined 119 (.ireturn) 1 120 := ⟨by decide +kernel, rfl⟩
theorem dX12_joined_120 : q_at cX12_joined 120 (.iload_n 1) 1 121 := ⟨by decide +kernel, rfl⟩
theorem dX12_joined_121 : q_at cX12_joined 121 (.iload_n 2) 1 122 := ⟨by decide +kernel, rfl⟩
theorem dX12_joined_122 : q_at cX12_joined 122 (.isub) 1 123 := ⟨by decide +kernel, rfl⟩
theorem dX12_joined_123 : q_at cX12_joined 123 (.ireturn) 1 124 := ⟨by decide +kernel, rfl⟩
theorem dX12_joined_124 : q_at cX12_joined 124 (.iload_n 1) 1 125 := ⟨by decide +kernel, rfl⟩
theorem dX12_joined_125 : q_at cX12_joined 125 (.iload_n 2) 1 126 := ⟨by decide +kernel, rfl⟩
theorem dX12_joined_126 : q_at cX12_joined 126 (.imul) 1 127 := ⟨by decide +kernel, rfl⟩
theorem dX12_joined_127 : q_at cX12_joined 127 (.ireturn) 1 128 := ⟨by decide +kernel, rfl⟩
theorem dX12_joined_128 : q_at cX12_joined 128 (.iload_n 2) 1 129 := ⟨by decide +kernel, rfl⟩
theorem dX12_joined_129 : q_at cX12_joined 129 (.ifCond .ne 7) 3 132 := ⟨by decide +kernel, rfl⟩
theorem dX12_joined_132 : q_at cX12_joined 132 (.iconst 0) 1 133 := ⟨by decide +kernel, rfl⟩
theorem dX12_joined_133 : q_at cX12_joined 133 (.goto 16) 3 136 := ⟨by decide +kernel, rfl⟩
theorem dX12_joined_136 : q_at cX12_joined 136 (.iload_n 2) 1 137 := ⟨by decide +kernel, rfl⟩
theorem dX12_joined_137 : q_at cX12_joined 137 (.iconst (-1)) 1 138 := ⟨by decide +kernel, rfl⟩
theorem dX12_joined_138 : q_at cX12_joined 138 (.if_icmp .ne 8) 3 141 := ⟨by decide +kernel, rfl⟩
theorem dX12_joined_141 : q_at cX12_joined 141 (.iload_n 1) 1 142 := ⟨by decide +kernel, rfl⟩
theorem dX12_joined_142 : q_at cX12_joined 142 (.ineg) 1 143 := ⟨by decide +kernel, rfl⟩
theorem dX12_joined_143 : q_at cX12_joined 143 (.goto 6) 3 146 := ⟨by decide +kernel, rfl⟩
theorem dX12_joined_146 : q_at cX12_joined 146 (.iload_n 1) 1 147 := ⟨by decide +kernel, rfl⟩
theorem dX12_joined_147 : q_at cX12_joined 147 (.iload_n 2) 1 148 := ⟨by decide +kernel, rfl⟩
theorem dX12_joined_148 : q_at cX12_joined 148 (.idiv) 1 149 := ⟨by decide +kernel, rfl⟩
theorem dX12_joined_149 : q_at cX12_joined 149 (.ireturn) 1 150 := ⟨by decide +kernel, rfl⟩
theorem dX12_joined_150 : q_at cX12_joined 150 (.iload_n 1) 1 151 := ⟨by decide +kernel, rfl⟩
theorem dX12_joined_151 : q_at cX12_joined 151 (.iload_n 2) 1 152 := ⟨by decide +kernel, rfl⟩
theorem dX12_joined_152 : q_at cX12_joined 152 (.if_icmp .ge 7) 3 155 := ⟨by decide +kernel, rfl⟩
theorem dX12_joined_155 : q_at cX12_joined 155 (.iconst 1) 1 156 := ⟨by decide +kernel, rfl⟩
theorem dX12_joined_156 : q_at cX12_joined 156 (.goto 4) 3 159 := ⟨by decide +kernel, rfl⟩
theorem dX12_joined_159 : q_at cX12_joined 159 (.iconst 0) 1 160 := ⟨by decide +kernel, rfl⟩
theorem dX12_joined_160 : q_at cX12_joined 160 (.ireturn) 1 161 := ⟨by decide +kernel, rfl⟩
theorem dX12_joined_161 : q_at cX12_joined 161 (.iload_n 1) 1 162 := ⟨by decide +kernel, rfl⟩
theorem dX12_joined_162 : q_at cX12_joined 162 (.iload_n 2) 1 163 := ⟨by decide +kernel, rfl⟩
theorem dX12_joined_163 : q_at cX12_joined 163 (.if_icmp .le 7) 3 166 := ⟨by decide +kernel, rfl⟩
theorem dX12_joined_166 : q_at cX12_joined 166 (.iconst 1) 1 167 := ⟨by decide +kernel, rfl⟩
theorem dX12_joined_167 : q_at cX12_joined 167 (.goto 4) 3 170 := ⟨by decide +kernel, rfl⟩
theorem dX12_joined_170 : q_at cX12_joined 170 (.iconst 0) 1 171 := ⟨by decide +kernel, rfl⟩
theorem dX12_joined_171 : q_at cX12_joined 171 (.ireturn) 1 172 := ⟨by decide +kernel, rfl⟩
theorem dX12_joined_172 : q_at cX12_joined 172 (.iload_n 1) 1 173 := ⟨by decide +kernel, rfl⟩
theorem dX12_joined_173 : q_at cX12_joined 173 (.iload_n 2) 1 174 := ⟨by decide +kernel, rfl⟩
theorem dX12_joined_174 : q_at cX12_joined 174 (.if_icmp .ne 7) 3 177 := ⟨by decide +kernel, rfl⟩
theorem dX12_joined_177 : q_at cX12_joined 177 (.iconst 1) 1 178 := ⟨by decide +kernel, rfl⟩
theorem dX12_joined_178 : q_at cX12_joined 178 (.goto 4) 3 181 := ⟨by decide +kernel, rfl⟩
theorem dX12_joined_181 : q_at cX12_joined 181 (.iconst 0) 1 182 := ⟨by decide +kernel, rfl⟩
theorem dX12_joined_182 : q_at cX12_joined 182 (.ireturn) 1 183 := ⟨by decide +kernel, rfl⟩
theorem dX12_joined_183 : q_at cX12_joined 183 (.iload_n 1) 1 184 := ⟨by decide +kernel, rfl⟩
theorem dX12_joined_184 : q_at cX12_joined 184 (.ifCond .eq 11) 3 187 := ⟨by decide +kernel, rfl⟩
theorem dX12_joined_187 : q_at cX12_joined 187 (.iload_n 2) 1 188 := ⟨by decide +kernel, rfl⟩
theorem dX12_joined_188 : q_at cX12_joined 188 (.ifCond .eq 7) 3 191 := ⟨by decide +kernel, rfl⟩
theorem dX12_joined_191 : q_at cX12_joined 191 (.iconst 1) 1 192 := ⟨by decide +kernel, rfl⟩
theorem dX12_joined_192 : q_at cX12_joined 192 (.goto 4) 3 195 := ⟨by decide +kernel, rfl⟩
theorem dX12_joined_195 : q_at cX12_joined 195 (.iconst 0) 1 196 := ⟨by decide +kernel, rfl⟩
theorem dX12_joined_196 : q_at cX12_joined 196 (.ireturn) 1 197 := ⟨by decide +kernel, rfl⟩
theorem dX12_joined_197 : q_at cX12_joined 197 (.iload_n 1) 1 198 := ⟨by decide +kernel, rfl⟩
theorem dX12_joined_198 : q_at cX12_joined 198 (.ifCond .ne 7) 3 201 := ⟨by decide +kernel, rfl⟩
theorem dX12_joined_201 : q_at cX12_joined 201 (.iload_n 2) 1 202 := ⟨by decide +kernel, rfl⟩
theorem dX12_joined_202 : q_at cX12_joined 202 (.ifCond .eq 7) 3 205 := ⟨by decide +kernel, rfl⟩
theorem dX12_joined_205 : q_at cX12_joined 205 (.iconst 1) 1 206 := ⟨by decide +kernel, rfl⟩
theorem dX12_joined_206 : q_at cX12_joined 206 (.goto 4) 3 209 := ⟨by decide +kernel, rfl⟩
theorem dX12_joined_209 : q_at cX12_joined 209 (.iconst 0) 1 210 := ⟨by decide +kernel, rfl⟩
theorem dX12_joined_210 : q_at cX12_joined 210 (.ireturn) 1 211 := ⟨by decide +kernel, rfl⟩
theorem dX12_least_0 : q_at cX12_least 0 (.iload_n 0) 1 1 := ⟨by decide +kernel, rfl⟩
theorem dX12_least_1 : q_at cX12_least 1 (.iload_n 1) 1 2 := ⟨by decide +kernel, rfl⟩
theorem dX12_least_2 : q_at cX12_least 2 (.if_icmp .ge 7) 3 5 := ⟨by decide +kernel, rfl⟩
theorem dX12_least_5 : q_at cX12_least 5 (.iload_n 0) 1 6 := ⟨by decide +kernel, rfl⟩
theorem dX12_least_6 : q_at cX12_least 6 (.goto 4) 3 9 := ⟨by decide +kernel, rfl⟩
theorem dX12_least_9 : q_at cX12_least 9 (.iload_n 1) 1 10 := ⟨by decide +kernel, rfl⟩
theorem dX12_least_10 : q_at cX12_least 10 (.ireturn) 1 11 := ⟨by decide +kernel, rfl⟩
theorem dX12_manAt_0 : q_at cX12_manAt 0 (.bipush 80) 2 2 := ⟨by decide +kernel, rfl⟩
theorem dX12_manAt_2 : q_at cX12_manAt 2 (.bipush 24) 2 4 := ⟨by decide +kernel, rfl⟩
theorem dX12_manAt_4 : q_at cX12_manAt 4 (.iload_n 1) 1 5 := ⟨by decide +kernel, rfl⟩
theorem dX12_manAt_5 : q_at cX12_manAt 5 (.imul) 1 6 := ⟨by decide +kernel, rfl⟩
theorem dX12_manAt_6 : q_at cX12_manAt 6 (.iadd) 1 7 := ⟨by decide +kernel, rfl⟩
theorem dX12_manAt_7 : q_at cX12_manAt 7 (.ireturn) 1 8 := ⟨by decide +kernel, rfl⟩
theorem dX12_ones_0 : q_at cX12_ones 0 (.iconst 0) 1 1 := ⟨by decide +kernel, rfl⟩
theorem dX12_ones_1 : q_at cX12_ones 1 (.istore_n 1) 1 2 := ⟨by decide +kernel, rfl⟩
theorem dX12_ones_2 : q_at cX12_ones 2 (.iconst 0) 1 3 := ⟨by decide +kernel, rfl⟩
theorem dX12_ones_3 : q_at cX12_ones 3 (.istore_n 2) 1 4 := ⟨by decide +kernel, rfl⟩
theorem dX12_ones_4 : q_at cX12_ones 4 (.iload_n 2) 1 5 := ⟨by decide +kernel, rfl⟩
theorem dX12_ones_5 : q_at cX12_ones 5 (.bipush 16) 2 7 := ⟨by decide +kernel, rfl⟩
theorem dX12_ones_7 : q_at cX12_ones 7 (.if_icmp .ge 17) 3 10 := ⟨by decide +kernel, rfl⟩
theorem dX12_ones_10 : q_at cX12_ones 10 (.iload_n 1) 1 11 := ⟨by decide +kernel, rfl⟩
theorem dX12_ones_11 : q_at cX12_ones 11 (.iload_n 0) 1 12 := ⟨by decide +kernel, rfl⟩
theorem dX12_ones_12 : q_at cX12_ones 12 (.iload_n 2) 1 13 := ⟨by decide +kernel, rfl⟩
theorem dX12_ones_13 : q_at cX12_ones 13 (.ishr) 1 14 := ⟨by decide +kernel, rfl⟩
theorem dX12_ones_14 : q_at cX12_ones 14 (.iconst 1) 1 15 := ⟨by decide +kernel, rfl⟩
theorem dX12_ones_15 : q_at cX12_ones 15 (.iand) 1 16 := ⟨by decide +kernel, rfl⟩
theorem dX12_ones_16 : q_at cX12_ones 16 (.iadd) 1 17 := ⟨by decide +kernel, rfl⟩
theorem dX12_ones_17 : q_at cX12_ones 17 (.istore_n 1) 1 18 := ⟨by decide +kernel, rfl⟩
theorem dX12_ones_18 : q_at cX12_ones 18 (.iinc 2 1) 3 21 := ⟨by decide +kernel, rfl⟩
theorem dX12_ones_21 : q_at cX12_ones 21 (.goto (-17)) 3 24 := ⟨by decide +kernel, rfl⟩
theorem dX12_ones_24 : q_at cX12_ones 24 (.iload_n 1) 1 25 := ⟨by decide +kernel, rfl⟩
theorem dX12_ones_25 : q_at cX12_ones 25 (.ireturn) 1 26 := ⟨by decide +kernel, rfl⟩
theorem dX12_orNone_0 : q_at cX12_orNone 0 (.iload_n 0) 1 1 := ⟨by decide +kernel, rfl⟩
theorem dX12_orNone_1 : q_at cX12_orNone 1 (.ifCond .ge 8) 3 4 := ⟨by decide +kernel, rfl⟩
theorem dX12_orNone_4 : q_at cX12_orNone 4 (.ldc 61) 2 6 := ⟨by decide +kernel, rfl⟩
theorem dX12_orNone_6 : q_at cX12_orNone 6 (.goto 4) 3 9 := ⟨by decide +kernel, rfl⟩
theorem dX12_orNone_9 : q_at cX12_orNone 9 (.iload_n 0) 1 10 := ⟨by decide +kernel, rfl⟩
theorem dX12_orNone_10 : q_at cX12_orNone 10 (.ireturn) 1 11 := ⟨by decide +kernel, rfl⟩
theorem dX12_setAside_0 : q_at cX12_setAside 0 (.iconst 0) 1 1 := ⟨by decide +kernel, rfl⟩
theorem dX12_setAside_1 : q_at cX12_setAside 1 (.istore_n 3) 1 2 := ⟨by decide +kernel, rfl⟩
theorem dX12_setAside_2 : q_at cX12_setAside 2 (.iload_n 3) 1 3 := ⟨by decide +kernel, rfl⟩
theorem dX12_setAside_3 : q_at cX12_setAside 3 (.sipush 3580) 3 6 := ⟨by decide +kernel, rfl⟩
theorem dX12_setAside_6 : q_at cX12_setAside 6 (.if_icmp .ge 15) 3 9 := ⟨by decide +kernel, rfl⟩
theorem dX12_setAside_9 : q_at cX12_setAside 9 (.aload_n 2) 1 10 := ⟨by decide +kernel, rfl⟩
theorem dX12_setAside_10 : q_at cX12_setAside 10 (.iload_n 3) 1 11 := ⟨by decide +kernel, rfl⟩
theorem dX12_setAside_11 : q_at cX12_setAside 11 (.aload_n 1) 1 12 := ⟨by decide +kernel, rfl⟩
theorem dX12_setAside_12 : q_at cX12_setAside 12 (.iload_n 3) 1 13 := ⟨by decide +kernel, rfl⟩
theorem dX12_setAside_13 : q_at cX12_setAside 13 (.iaload) 1 14 := ⟨by decide +kernel, rfl⟩
theorem dX12_setAside_14 : q_at cX12_setAside 14 (.iastore) 1 15 := ⟨by decide +kernel, rfl⟩
theorem dX12_setAside_15 : q_at cX12_setAside 15 (.iinc 3 1) 3 18 := ⟨by decide +kernel, rfl⟩
theorem dX12_setAside_18 : q_at cX12_setAside 18 (.goto (-16)) 3 21 := ⟨by decide +kernel, rfl⟩
theorem dX12_setAside_21 : q_at cX12_setAside 21 (.return_) 1 22 := ⟨by decide +kernel, rfl⟩
theorem dX12_shopAt_0 : q_at cX12_shopAt 0 (.bipush 50) 2 2 := ⟨by decide +kernel, rfl⟩
theorem dX12_shopAt_2 : q_at cX12_shopAt 2 (.iconst 4) 1 3 := ⟨by decide +kernel, rfl⟩
theorem dX12_shopAt_3 : q_at cX12_shopAt 3 (.iload_n 1) 1 4 := ⟨by decide +kernel, rfl⟩
theorem dX12_shopAt_4 : q_at cX12_shopAt 4 (.imul) 1 5 := ⟨by decide +kernel, rfl⟩
theorem dX12_shopAt_5 : q_at cX12_shopAt 5 (.iadd) 1 6 := ⟨by decide +kernel, rfl⟩
theorem dX12_shopAt_6 : q_at cX12_shopAt 6 (.ireturn) 1 7 := ⟨by decide +kernel, rfl⟩
theorem dX12_step_0 : q_at cX12_step 0 (.aload_n 0) 1 1 := ⟨by decide +kernel, rfl⟩
theorem dX12_step_1 : q_at cX12_step 1 (.getfield 7) 3 4 := ⟨by decide +kernel, rfl⟩
theorem dX12_step_4 : q_at cX12_step 4 (.aload_n 0) 1 5 := ⟨by decide +kernel, rfl⟩
theorem dX12_step_5 : q_at cX12_step 5 (.getfield 251) 3 8 := ⟨by decide +kernel, rfl⟩
theorem dX12_step_8 : q_at cX12_step 8 (.iconst 2) 1 9 := ⟨by decide +kernel, rfl⟩
theorem dX12_step_9 : q_at cX12_step 9 (.aload_n 0) 1 10 := ⟨by decide +kernel, rfl⟩
theorem dX12_step_10 : q_at cX12_step 10 (.getfield 254) 3 13 := ⟨by decide +kernel, rfl⟩
theorem dX12_step_13 : q_at cX12_step 13 (.imul) 1 14 := ⟨by decide +kernel, rfl⟩
theorem dX12_step_14 : q_at cX12_step 14 (.iadd) 1 15 := ⟨by decide +kernel, rfl⟩
theorem dX12_step_15 : q_at cX12_step 15 (.iload_n 1) 1 16 := ⟨by decide +kernel, rfl⟩
theorem dX12_step_16 : q_at cX12_step 16 (.iastore) 1 17 := ⟨by decide +kernel, rfl⟩
theorem dX12_step_17 : q_at cX12_step 17 (.aload_n 0) 1 18 := ⟨by decide +kernel, rfl⟩
theorem dX12_step_18 : q_at cX12_step 18 (.getfield 7) 3 21 := ⟨by decide +kernel, rfl⟩
theorem dX12_step_21 : q_at cX12_step 21 (.aload_n 0) 1 22 := ⟨by decide +kernel, rfl⟩
theorem dX12_step_22 : q_at cX12_step 22 (.getfield 251) 3 25 := ⟨by decide +kernel, rfl⟩
theorem dX12_step_25 : q_at cX12_step 25 (.iconst 2) 1 26 := ⟨by decide +kernel, rfl⟩
theorem dX12_step_26 : q_at cX12_step 26 (.aload_n 0) 1 27 := ⟨by decide +kernel, rfl⟩
theorem dX12_step_27 : q_at cX12_step 27 (.getfield 254) 3 30 := ⟨by decide +kernel, rfl⟩
theorem dX12_step_30 : q_at cX12_step 30 (.imul) 1 31 := ⟨by decide +kernel, rfl⟩
theorem dX12_step_31 : q_at cX12_step 31 (.iadd) 1 32 := ⟨by decide +kernel, rfl⟩
theorem dX12_step_32 : q_at cX12_step 32 (.iconst 1) 1 33 := ⟨by decide +kernel, rfl⟩
theorem dX12_step_33 : q_at cX12_step 33 (.iadd) 1 34 := ⟨by decide +kernel, rfl⟩
theorem dX12_step_34 : q_at cX12_step 34 (.iload_n 2) 1 35 := ⟨by decide +kernel, rfl⟩
theorem dX12_step_35 : q_at cX12_step 35 (.iastore) 1 36 := ⟨by decide +kernel, rfl⟩
theorem dX12_step_36 : q_at cX12_step 36 (.aload_n 0) 1 37 := ⟨by decide +kernel, rfl⟩
theorem dX12_step_37 : q_at cX12_step 37 (.dup) 1 38 := ⟨by decide +kernel, rfl⟩
theorem dX12_step_38 : q_at cX12_step 38 (.getfield 254) 3 41 := ⟨by decide +kernel, rfl⟩
theorem dX12_step_41 : q_at cX12_step 41 (.iconst 1) 1 42 := ⟨by decide +kernel, rfl⟩
theorem dX12_step_42 : q_at cX12_step 42 (.iadd) 1 43 := ⟨by decide +kernel, rfl⟩
theorem dX12_step_43 : q_at cX12_step 43 (.putfield 254) 3 46 := ⟨by decide +kernel, rfl⟩
theorem dX12_step_46 : q_at cX12_step 46 (.return_) 1 47 := ⟨by decide +kernel, rfl⟩
theorem dX12_tell_0 : q_at cX12_tell 0 (.aload_n 0) 1 1 := ⟨by decide +kernel, rfl⟩
theorem dX12_tell_1 : q_at cX12_tell 1 (.getfield 431) 3 4 := ⟨by decide +kernel, rfl⟩
theorem dX12_tell_4 : q_at cX12_tell 4 (.bipush 60) 2 6 := ⟨by decide +kernel, rfl⟩
theorem dX12_tell_6 : q_at cX12_tell 6 (.if_icmp .ne 6) 3 9 := ⟨by decide +kernel, rfl⟩
theorem dX12_tell_9 : q_at cX12_tell 9 (.ldc 98) 2 11 := ⟨by decide +kernel, rfl⟩
theorem dX12_tell_11 : q_at cX12_tell 11 (.ireturn) 1 12 := ⟨by decide +kernel, rfl⟩
theorem dX12_tell_12 : q_at cX12_tell 12 (.aload_n 0) 1 13 := ⟨by decide +kernel, rfl⟩
theorem dX12_tell_13 : q_at cX12_tell 13 (.getfield 55) 3 16 := ⟨by decide +kernel, rfl⟩
theorem dX12_tell_16 : q_at cX12_tell 16 (.aload_n 0) 1 17 := ⟨by decide +kernel, rfl⟩
theorem dX12_tell_17 : q_at cX12_tell 17 (.getfield 431) 3 20 := ⟨by decide +kernel, rfl⟩
theorem dX12_tell_20 : q_at cX12_tell 20 (.iload_n 1) 1 21 := ⟨by decide +kernel, rfl⟩
theorem dX12_tell_21 : q_at cX12_tell 21 (.iastore) 1 22 := ⟨by decide +kernel, rfl⟩
theorem dX12_tell_22 : q_at cX12_tell 22 (.aload_n 0) 1 23 := ⟨by decide +kernel, rfl⟩
theorem dX12_tell_23 : q_at cX12_tell 23 (.dup) 1 24 := ⟨by decide +kernel, rfl⟩
theorem dX12_tell_24 : q_at cX12_tell 24 (.getfield 431) 3 27 := ⟨by decide +kernel, rfl⟩
theorem dX12_tell_27 : q_at cX12_tell 27 (.iconst 1) 1 28 := ⟨by decide +kernel, rfl⟩
theorem dX12_tell_28 : q_at cX12_tell 28 (.iadd) 1 29 := ⟨by decide +kernel, rfl⟩
theorem dX12_tell_29 : q_at cX12_tell 29 (.putfield 431) 3 32 := ⟨by decide +kernel, rfl⟩
theorem dX12_tell_32 : q_at cX12_tell 32 (.aload_n 0) 1 33 := ⟨by decide +kernel, rfl⟩
theorem dX12_tell_33 : q_at cX12_tell 33 (.getfield 431) 3 36 := ⟨by decide +kernel, rfl⟩
theorem dX12_tell_36 : q_at cX12_tell 36 (.ireturn) 1 37 := ⟨by decide +kernel, rfl⟩
theorem dX12_textAt_0 : q_at cX12_textAt 0 (.sipush 850) 3 3 := ⟨by decide +kernel, rfl⟩
theorem dX12_textAt_3 : q_at cX12_textAt 3 (.sipush 200) 3 6 := ⟨by decide +kernel, rfl⟩
theorem dX12_textAt_6 : q_at cX12_textAt 6 (.iload_n 1) 1 7 := ⟨by decide +kernel, rfl⟩
theorem dX12_textAt_7 : q_at cX12_textAt 7 (.imul) 1 8 := ⟨by decide +kernel, rfl⟩
theorem dX12_textAt_8 : q_at cX12_textAt 8 (.iadd) 1 9 := ⟨by decide +kernel, rfl⟩
theorem dX12_textAt_9 : q_at cX12_textAt 9 (.ireturn) 1 10 := ⟨by decide +kernel, rfl⟩
theorem dX12_week_0 : q_at cX12_week 0 (.aload_n 0) 1 1 := ⟨by decide +kernel, rfl⟩
theorem dX12_week_1 : q_at cX12_week 1 (.getfield 7) 3 4 := ⟨by decide +kernel, rfl⟩
theorem dX12_week_4 : q_at cX12_week 4 (.iconst 0) 1 5 := ⟨by decide +kernel, rfl⟩
theorem dX12_week_5 : q_at cX12_week 5 (.iaload) 1 6 := ⟨by decide +kernel, rfl⟩
theorem dX12_week_6 : q_at cX12_week 6 (.bipush 7) 2 8 := ⟨by decide +kernel, rfl⟩
theorem dX12_week_8 : q_at cX12_week 8 (.idiv) 1 9 := ⟨by decide +kernel, rfl⟩
theorem dX12_week_9 : q_at cX12_week 9 (.ireturn) 1 10 := ⟨by decide +kernel, rfl⟩
theorem dX12_back_0 : q_at cX12_back 0 (.aload_n 0) 1 1 := ⟨by decide +kernel, rfl⟩
theorem dX12_back_1 : q_at cX12_back 1 (.getfield 442) 3 4 := ⟨by decide +kernel, rfl⟩
theorem dX12_back_4 : q_at cX12_back 4 (.ifCond .ne 7) 3 7 := ⟨by decide +kernel, rfl⟩
theorem dX12_back_7 : q_at cX12_back 7 (.ldc_w 346) 3 10 := ⟨by decide +kernel, rfl⟩
theorem dX12_back_10 : q_at cX12_back 10 (.ireturn) 1 11 := ⟨by decide +kernel, rfl⟩
theorem dX12_back_11 : q_at cX12_back 11 (.aload_n 0) 1 12 := ⟨by decide +kernel, rfl⟩
theorem dX12_back_12 : q_at cX12_back 12 (.aload_n 0) 1 13 := ⟨by decide +kernel, rfl⟩
theorem dX12_back_13 : q_at cX12_back 13 (.getfield 13) 3 16 := ⟨by decide +kernel, rfl⟩
theorem dX12_back_16 : q_at cX12_back 16 (.aload_n 0) 1 17 := ⟨by decide +kernel, rfl⟩
theorem dX12_back_17 : q_at cX12_back 17 (.getfield 7) 3 20 := ⟨by decide +kernel, rfl⟩
theorem dX12_back_20 : q_at cX12_back 20 (.invokevirtual 365) 3 23 := ⟨by decide +kernel, rfl⟩
theorem dX12_back_23 : q_at cX12_back 23 (.aload_n 0) 1 24 := ⟨by decide +kernel, rfl⟩
theorem dX12_back_24 : q_at cX12_back 24 (.getfield 7) 3 27 := ⟨by decide +kernel, rfl⟩
theorem dX12_back_27 : q_at cX12_back 27 (.iconst 0) 1 28 := ⟨by decide +kernel, rfl⟩
theorem dX12_back_28 : q_at cX12_back 28 (.iaload) 1 29 := ⟨by decide +kernel, rfl⟩
theorem dX12_back_29 : q_at cX12_back 29 (.ireturn) 1 30 := ⟨by decide +kernel, rfl⟩
theorem dX12_breach_0 : q_at cX12_breach 0 (.iload_n 1) 1 1 := ⟨by decide +kernel, rfl⟩
theorem dX12_breach_1 : q_at cX12_breach 1 (.i2l) 1 2 := ⟨by decide +kernel, rfl⟩
theorem dX12_breach_2 : q_at cX12_breach 2 (.lconst 0) 1 3 := ⟨by decide +kernel, rfl⟩
theorem dX12_breach_3 : q_at cX12_breach 3 (.ldc2_w 102) 3 6 := ⟨by decide +kernel, rfl⟩
theorem dX12_breach_6 : q_at cX12_breach 6 (.invokestatic 64) 3 9 := ⟨by decide +kernel, rfl⟩
theorem dX12_breach_9 : q_at cX12_breach 9 (.ifCond .eq 28) 3 12 := ⟨by decide +kernel, rfl⟩
theorem dX12_breach_12 : q_at cX12_breach 12 (.iload_n 2) 1 13 := ⟨by decide +kernel, rfl⟩
theorem dX12_breach_13 : q_at cX12_breach 13 (.i2l) 1 14 := ⟨by decide +kernel, rfl⟩
theorem dX12_breach_14 : q_at cX12_breach 14 (.lconst 0) 1 15 := ⟨by decide +kernel, rfl⟩
theorem dX12_breach_15 : q_at cX12_breach 15 (.ldc2_w 311) 3 18 := ⟨by decide +kernel, rfl⟩
theorem dX12_breach_18 : q_at cX12_breach 18 (.invokestatic 64) 3 21 := ⟨by decide +kernel, rfl⟩
theorem dX12_breach_21 : q_at cX12_breach 21 (.ifCond .eq 16) 3 24 := ⟨by decide +kernel, rfl⟩
theorem dX12_breach_24 : q_at cX12_breach 24 (.iload_n 3) 1 25 := ⟨by decide +kernel, rfl⟩
theorem dX12_breach_25 : q_at cX12_breach 25 (.i2l) 1 26 := ⟨by decide +kernel, rfl⟩
theorem dX12_breach_26 : q_at cX12_breach 26 (.iload_n 2) 1 27 := ⟨by decide +kernel, rfl⟩
theorem dX12_breach_27 : q_at cX12_breach 27 (.i2l) 1 28 := ⟨by decide +kernel, rfl⟩
theorem dX12_breach_28 : q_at cX12_breach 28 (.ldc2_w 311) 3 31 := ⟨by decide +kernel, rfl⟩
theorem dX12_breach_31 : q_at cX12_breach 31 (.invokestatic 64) 3 34 := ⟨by decide +kernel, rfl⟩
theorem dX12_breach_34 : q_at cX12_breach 34 (.ifCond .ne 6) 3 37 := ⟨by decide +kernel, rfl⟩
theorem dX12_breach_37 : q_at cX12_breach 37 (.ldc 90) 2 39 := ⟨by decide +kernel, rfl⟩
theorem dX12_breach_39 : q_at cX12_breach 39 (.ireturn) 1 40 := ⟨by decide +kernel, rfl⟩
theorem dX12_breach_40 : q_at cX12_breach 40 (.aload_n 0) 1 41 := ⟨by decide +kernel, rfl⟩
theorem dX12_breach_41 : q_at cX12_breach 41 (.getfield 7) 3 44 := ⟨by decide +kernel, rfl⟩
theorem dX12_breach_44 : q_at cX12_breach 44 (.iconst 5) 1 45 := ⟨by decide +kernel, rfl⟩
theorem dX12_breach_45 : q_at cX12_breach 45 (.iaload) 1 46 := ⟨by decide +kernel, rfl⟩
theorem dX12_breach_46 : q_at cX12_breach 46 (.bipush 16) 2 48 := ⟨by decide +kernel, rfl⟩
theorem dX12_breach_48 : q_at cX12_breach 48 (.if_icmp .ne 6) 3 51 := ⟨by decide +kernel, rfl⟩
theorem dX12_breach_51 : q_at cX12_breach 51 (.ldc 98) 2 53 := ⟨by decide +kernel, rfl⟩
theorem dX12_breach_53 : q_at cX12_breach 53 (.ireturn) 1 54 := ⟨by decide +kernel, rfl⟩
theorem dX12_breach_54 : q_at cX12_breach 54 (.sipush 3300) 3 57 := ⟨by decide +kernel, rfl⟩
theorem dX12_breach_57 : q_at cX12_breach 57 (.iconst 3) 1 58 := ⟨by decide +kernel, rfl⟩
theorem dX12_breach_58 : q_at cX12_breach 58 (.aload_n 0) 1 59 := ⟨by decide +kernel, rfl⟩
theorem dX12_breach_59 : q_at cX12_breach 59 (.getfield 7) 3 62 := ⟨by decide +kernel, rfl⟩
theorem dX12_breach_62 : q_at cX12_breach 62 (.iconst 5) 1 63 := ⟨by decide +kernel, rfl⟩
theorem dX12_breach_63 : q_at cX12_breach 63 (.iaload) 1 64 := ⟨by decide +kernel, rfl⟩
theorem dX12_breach_64 : q_at cX12_breach 64 (.imul) 1 65 := ⟨by decide +kernel, rfl⟩
theorem dX12_breach_65 : q_at cX12_breach 65 (.iadd) 1 66 := ⟨by decide +kernel, rfl⟩
theorem dX12_breach_66 : q_at cX12_breach 66 (.istore 4) 2 68 := ⟨by decide +kernel, rfl⟩
theorem dX12_breach_68 : q_at cX12_breach 68 (.aload_n 0) 1 69 := ⟨by decide +kernel, rfl⟩
theorem dX12_breach_69 : q_at cX12_breach 69 (.getfield 7) 3 72 := ⟨by decide +kernel, rfl⟩
theorem dX12_breach_72 : q_at cX12_breach 72 (.iload 4) 2 74 := ⟨by decide +kernel, rfl⟩
theorem dX12_breach_74 : q_at cX12_breach 74 (.iload_n 1) 1 75 := ⟨by decide +kernel, rfl⟩
theorem dX12_breach_75 : q_at cX12_breach 75 (.iastore) 1 76 := ⟨by decide +kernel, rfl⟩
theorem dX12_breach_76 : q_at cX12_breach 76 (.aload_n 0) 1 77 := ⟨by decide +kernel, rfl⟩
theorem dX12_breach_77 : q_at cX12_breach 77 (.getfield 7) 3 80 := ⟨by decide +kernel, rfl⟩
theorem dX12_breach_80 : q_at cX12_breach 80 (.iload 4) 2 82 := ⟨by decide +kernel, rfl⟩
theorem dX12_breach_82 : q_at cX12_breach 82 (.iconst 1) 1 83 := ⟨by decide +kernel, rfl⟩
theorem dX12_breach_83 : q_at cX12_breach 83 (.iadd) 1 84 := ⟨by decide +kernel, rfl⟩
theorem dX12_breach_84 : q_at cX12_breach 84 (.iload_n 2) 1 85 := ⟨by decide +kernel, rfl⟩
theorem dX12_breach_85 : q_at cX12_breach 85 (.iastore) 1 86 := ⟨by decide +kernel, rfl⟩
theorem dX12_breach_86 : q_at cX12_breach 86 (.aload_n 0) 1 87 := ⟨by decide +kernel, rfl⟩
theorem dX12_breach_87 : q_at cX12_breach 87 (.getfield 7) 3 90 := ⟨by decide +kernel, rfl⟩
theorem dX12_breach_90 : q_at cX12_breach 90 (.iload 4) 2 92 := ⟨by decide +kernel, rfl⟩
theorem dX12_breach_92 : q_at cX12_breach 92 (.iconst 2) 1 93 := ⟨by decide +kernel, rfl⟩
theorem dX12_breach_93 : q_at cX12_breach 93 (.iadd) 1 94 := ⟨by decide +kernel, rfl⟩
theorem dX12_breach_94 : q_at cX12_breach 94 (.iload_n 3) 1 95 := ⟨by decide +kernel, rfl⟩
theorem dX12_breach_95 : q_at cX12_breach 95 (.iastore) 1 96 := ⟨by decide +kernel, rfl⟩
theorem dX12_breach_96 : q_at cX12_breach 96 (.aload_n 0) 1 97 := ⟨by decide +kernel, rfl⟩
theorem dX12_breach_97 : q_at cX12_breach 97 (.getfield 7) 3 100 := ⟨by decide +kernel, rfl⟩
theorem dX12_breach_100 : q_at cX12_breach 100 (.iconst 5) 1 101 := ⟨by decide +kernel, rfl⟩
theorem dX12_breach_101 : q_at cX12_breach 101 (.dup2) 1 102 := ⟨by decide +kernel, rfl⟩
theorem dX12_breach_102 : q_at cX12_breach 102 (.iaload) 1 103 := ⟨by decide +kernel, rfl⟩
theorem dX12_breach_103 : q_at cX12_breach 103 (.iconst 1) 1 104 := ⟨by decide +kernel, rfl⟩
theorem dX12_breach_104 : q_at cX12_breach 104 (.iadd) 1 105 := ⟨by decide +kernel, rfl⟩
theorem dX12_breach_105 : q_at cX12_breach 105 (.iastore) 1 106 := ⟨by decide +kernel, rfl⟩
theorem dX12_breach_106 : q_at cX12_breach 106 (.aload_n 0) 1 107 := ⟨by decide +kernel, rfl⟩
theorem dX12_breach_107 : q_at cX12_breach 107 (.getfield 7) 3 110 := ⟨by decide +kernel, rfl⟩
theorem dX12_breach_110 : q_at cX12_breach 110 (.iconst 5) 1 111 := ⟨by decide +kernel, rfl⟩
theorem dX12_breach_111 : q_at cX12_breach 111 (.iaload) 1 112 := ⟨by decide +kernel, rfl⟩
theorem dX12_breach_112 : q_at cX12_breach 112 (.iconst 1) 1 113 := ⟨by decide +kernel, rfl⟩
theorem dX12_breach_113 : q_at cX12_breach 113 (.isub) 1 114 := ⟨by decide +kernel, rfl⟩
theorem dX12_breach_114 : q_at cX12_breach 114 (.ireturn) 1 115 := ⟨by decide +kernel, rfl⟩
theorem dX12_choice_0 : q_at cX12_choice 0 (.iload_n 1) 1 1 := ⟨by decide +kernel, rfl⟩
theorem dX12_choice_1 : q_at cX12_choice 1 (.i2l) 1 2 := ⟨by decide +kernel, rfl⟩
theorem dX12_choice_2 : q_at cX12_choice 2 (.lconst 0) 1 3 := ⟨by decide +kernel, rfl⟩
theorem dX12_choice_3 : q_at cX12_choice 3 (.ldc2_w 344) 3 6 := ⟨by decide +kernel, rfl⟩
theorem dX12_choice_6 : q_at cX12_choice 6 (.invokestatic 64) 3 9 := ⟨by decide +kernel, rfl⟩
theorem dX12_choice_9 : q_at cX12_choice 9 (.ifCond .eq 27) 3 12 := ⟨by decide +kernel, rfl⟩
theorem dX12_choice_12 : q_at cX12_choice 12 (.iload_n 2) 1 13 := ⟨by decide +kernel, rfl⟩
theorem dX12_choice_13 : q_at cX12_choice 13 (.i2l) 1 14 := ⟨by decide +kernel, rfl⟩
theorem dX12_choice_14 : q_at cX12_choice 14 (.lconst 0) 1 15 := ⟨by decide +kernel, rfl⟩
theorem dX12_choice_15 : q_at cX12_choice 15 (.ldc2_w 82) 3 18 := ⟨by decide +kernel, rfl⟩
theorem dX12_choice_18 : q_at cX12_choice 18 (.invokestatic 64) 3 21 := ⟨by decide +kernel, rfl⟩
theorem dX12_choice_21 : q_at cX12_choice 21 (.ifCond .eq 15) 3 24 := ⟨by decide +kernel, rfl⟩
theorem dX12_choice_24 : q_at cX12_choice 24 (.iload_n 3) 1 25 := ⟨by decide +kernel, rfl⟩
theorem dX12_choice_25 : q_at cX12_choice 25 (.i2l) 1 26 := ⟨by decide +kernel, rfl⟩
theorem dX12_choice_26 : q_at cX12_choice 26 (.lconst 0) 1 27 := ⟨by decide +kernel, rfl⟩
theorem dX12_choice_27 : q_at cX12_choice 27 (.ldc2_w 401) 3 30 := ⟨by decide +kernel, rfl⟩
theorem dX12_choice_30 : q_at cX12_choice 30 (.invokestatic 64) 3 33 := ⟨by decide +kernel, rfl⟩
theorem dX12_choice_33 : q_at cX12_choice 33 (.ifCond .ne 6) 3 36 := ⟨by decide +kernel, rfl⟩
theorem dX12_choice_36 : q_at cX12_choice 36 (.ldc 90) 2 38 := ⟨by decide +kernel, rfl⟩
theorem dX12_choice_38 : q_at cX12_choice 38 (.ireturn) 1 39 := ⟨by decide +kernel, rfl⟩
theorem dX12_choice_39 : q_at cX12_choice 39 (.aload_n 0) 1 40 := ⟨by decide +kernel, rfl⟩
theorem dX12_choice_40 : q_at cX12_choice 40 (.getfield 7) 3 43 := ⟨by decide +kernel, rfl⟩
theorem dX12_choice_43 : q_at cX12_choice 43 (.bipush 6) 2 45 := ⟨by decide +kernel, rfl⟩
theorem dX12_choice_45 : q_at cX12_choice 45 (.iaload) 1 46 := ⟨by decide +kernel, rfl⟩
theorem dX12_choice_46 : q_at cX12_choice 46 (.bipush 8) 2 48 := ⟨by decide +kernel, rfl⟩
theorem dX12_choice_48 : q_at cX12_choice 48 (.if_icmp .ne 6) 3 51 := ⟨by decide +kernel, rfl⟩
theorem dX12_choice_51 : q_at cX12_choice 51 (.ldc 98) 2 53 := ⟨by decide +kernel, rfl⟩
theorem dX12_choice_53 : q_at cX12_choice 53 (.ireturn) 1 54 := ⟨by decide +kernel, rfl⟩
theorem dX12_choice_54 : q_at cX12_choice 54 (.sipush 3350) 3 57 := ⟨by decide +kernel, rfl⟩
theorem dX12_choice_57 : q_at cX12_choice 57 (.iconst 3) 1 58 := ⟨by decide +kernel, rfl⟩
theorem dX12_choice_58 : q_at cX12_choice 58 (.aload_n 0) 1 59 := ⟨by decide +kernel, rfl⟩
theorem dX12_choice_59 : q_at cX12_choice 59 (.getfield 7) 3 62 := ⟨by decide +kernel, rfl⟩
theorem dX12_choice_62 : q_at cX12_choice 62 (.bipush 6) 2 64 := ⟨by decide +kernel, rfl⟩
theorem dX12_choice_64 : q_at cX12_choice 64 (.iaload) 1 65 := ⟨by decide +kernel, rfl⟩
theorem dX12_choice_65 : q_at cX12_choice 65 (.imul) 1 66 := ⟨by decide +kernel, rfl⟩
theorem dX12_choice_66 : q_at cX12_choice 66 (.iadd) 1 67 := ⟨by decide +kernel, rfl⟩
theorem dX12_choice_67 : q_at cX12_choice 67 (.istore 4) 2 69 := ⟨by decide +kernel, rfl⟩
theorem dX12_choice_69 : q_at cX12_choice 69 (.aload_n 0) 1 70 := ⟨by decide +kernel, rfl⟩
theorem dX12_choice_70 : q_at cX12_choice 70 (.getfield 7) 3 73 := ⟨by decide +kernel, rfl⟩
theorem dX12_choice_73 : q_at cX12_choice 73 (.iload 4) 2 75 := ⟨by decide +kernel, rfl⟩
theorem dX12_choice_75 : q_at cX12_choice 75 (.iload_n 1) 1 76 := ⟨by decide +kernel, rfl⟩
theorem dX12_choice_76 : q_at cX12_choice 76 (.iastore) 1 77 := ⟨by decide +kernel, rfl⟩
theorem dX12_choice_77 : q_at cX12_choice 77 (.aload_n 0) 1 78 := ⟨by decide +kernel, rfl⟩
theorem dX12_choice_78 : q_at cX12_choice 78 (.getfield 7) 3 81 := ⟨by decide +kernel, rfl⟩
theorem dX12_choice_81 : q_at cX12_choice 81 (.iload 4) 2 83 := ⟨by decide +kernel, rfl⟩
theorem dX12_choice_83 : q_at cX12_choice 83 (.iconst 1) 1 84 := ⟨by decide +kernel, rfl⟩
theorem dX12_choice_84 : q_at cX12_choice 84 (.iadd) 1 85 := ⟨by decide +kernel, rfl⟩
theorem dX12_choice_85 : q_at cX12_choice 85 (.iload_n 2) 1 86 := ⟨by decide +kernel, rfl⟩
theorem dX12_choice_86 : q_at cX12_choice 86 (.iastore) 1 87 := ⟨by decide +kernel, rfl⟩
theorem dX12_choice_87 : q_at cX12_choice 87 (.aload_n 0) 1 88 := ⟨by decide +kernel, rfl⟩
theorem dX12_choice_88 : q_at cX12_choice 88 (.getfield 7) 3 91 := ⟨by decide +kernel, rfl⟩
theorem dX12_choice_91 : q_at cX12_choice 91 (.iload 4) 2 93 := ⟨by decide +kernel, rfl⟩
theorem dX12_choice_93 : q_at cX12_choice 93 (.iconst 2) 1 94 := ⟨by decide +kernel, rfl⟩
theorem dX12_choice_94 : q_at cX12_choice 94 (.iadd) 1 95 := ⟨by decide +kernel, rfl⟩
theorem dX12_choice_95 : q_at cX12_choice 95 (.iload_n 3) 1 96 := ⟨by decide +kernel, rfl⟩
theorem dX12_choice_96 : q_at cX12_choice 96 (.iastore) 1 97 := ⟨by decide +kernel, rfl⟩
theorem dX12_choice_97 : q_at cX12_choice 97 (.aload_n 0) 1 98 := ⟨by decide +kernel, rfl⟩
theorem dX12_choice_98 : q_at cX12_choice 98 (.getfield 7) 3 101 := ⟨by decide +kernel, rfl⟩
theorem dX12_choice_101 : q_at cX12_choice 101 (.bipush 6) 2 103 := ⟨by decide +kernel, rfl⟩
theorem dX12_choice_103 : q_at cX12_choice 103 (.dup2) 1 104 := ⟨by decide +kernel, rfl⟩
theorem dX12_choice_104 : q_at cX12_choice 104 (.iaload) 1 105 := ⟨by decide +kernel, rfl⟩
theorem dX12_choice_105 : q_at cX12_choice 105 (.iconst 1) 1 106 := ⟨by decide +kernel, rfl⟩
theorem dX12_choice_106 : q_at cX12_choice 106 (.iadd) 1 107 := ⟨by decide +kernel, rfl⟩
theorem dX12_choice_107 : q_at cX12_choice 107 (.iastore) 1 108 := ⟨by decide +kernel, rfl⟩
theorem dX12_choice_108 : q_at cX12_choice 108 (.aload_n 0) 1 109 := ⟨by decide +kernel, rfl⟩
theorem dX12_choice_109 : q_at cX12_choice 109 (.getfield 7) 3 112 := ⟨by decide +kernel, rfl⟩
theorem dX12_choice_112 : q_at cX12_choice 112 (.bipush 6) 2 114 := ⟨by decide +kernel, rfl⟩
theorem dX12_choice_114 : q_at cX12_choice 114 (.iaload) 1 115 := ⟨by decide +kernel, rfl⟩
theorem dX12_choice_115 : q_at cX12_choice 115 (.iconst 1) 1 116 := ⟨by decide +kernel, rfl⟩
theorem dX12_choice_116 : q_at cX12_choice 116 (.isub) 1 117 := ⟨by decide +kernel, rfl⟩
theorem dX12_choice_117 : q_at cX12_choice 117 (.ireturn) 1 118 := ⟨by decide +kernel, rfl⟩
theorem dX12_counts_0 : q_at cX12_counts 0 (.iconst (-1)) 1 1 := ⟨by decide +kernel, rfl⟩
theorem dX12_counts_1 : q_at cX12_counts 1 (.istore_n 2) 1 2 := ⟨by decide +kernel, rfl⟩
theorem dX12_counts_2 : q_at cX12_counts 2 (.iconst 0) 1 3 := ⟨by decide +kernel, rfl⟩
theorem dX12_counts_3 : q_at cX12_counts 3 (.istore_n 3) 1 4 := ⟨by decide +kernel, rfl⟩
theorem dX12_counts_4 : q_at cX12_counts 4 (.iload_n 3) 1 5 := ⟨by decide +kernel, rfl⟩
theorem dX12_counts_5 : q_at cX12_counts 5 (.aload_n 0) 1 6 := ⟨by decide +kernel, rfl⟩
theorem dX12_counts_6 : q_at cX12_counts 6 (.getfield 7) 3 9 := ⟨by decide +kernel, rfl⟩
theorem dX12_counts_9 : q_at cX12_counts 9 (.iconst 4) 1 10 := ⟨by decide +kernel, rfl⟩
theorem dX12_counts_10 : q_at cX12_counts 10 (.iaload) 1 11 := ⟨by decide +kernel, rfl⟩
theorem dX12_counts_11 : q_at cX12_counts 11 (.if_icmp .ge 95) 3 14 := ⟨by decide +kernel, rfl⟩
theorem dX12_counts_14 : q_at cX12_counts 14 (.aload_n 0) 1 15 := ⟨by decide +kernel, rfl⟩
theorem dX12_counts_15 : q_at cX12_counts 15 (.getfield 7) 3 18 := ⟨by decide +kernel, rfl⟩
theorem dX12_counts_18 : q_at cX12_counts 18 (.aload_n 0) 1 19 := ⟨by decide +kernel, rfl⟩
theorem dX12_counts_19 : q_at cX12_counts 19 (.iload_n 3) 1 20 := ⟨by decide +kernel, rfl⟩
theorem dX12_counts_20 : q_at cX12_counts 20 (.invokevirtual 297) 3 23 := ⟨by decide +kernel, rfl⟩
theorem dX12_counts_23 : q_at cX12_counts 23 (.iconst 0) 1 24 := ⟨by decide +kernel, rfl⟩
theorem dX12_counts_24 : q_at cX12_counts 24 (.iadd) 1 25 := ⟨by decide +kernel, rfl⟩
theorem dX12_counts_25 : q_at cX12_counts 25 (.iaload) 1 26 := ⟨by decide +kernel, rfl⟩
theorem dX12_counts_26 : q_at cX12_counts 26 (.iload_n 1) 1 27 := ⟨by decide +kernel, rfl⟩
theorem dX12_counts_27 : q_at cX12_counts 27 (.if_icmp .ne 28) 3 30 := ⟨by decide +kernel, rfl⟩
theorem dX12_counts_30 : q_at cX12_counts 30 (.aload_n 0) 1 31 := ⟨by decide +kernel, rfl⟩
theorem dX12_counts_31 : q_at cX12_counts 31 (.getfield 7) 3 34 := ⟨by decide +kernel, rfl⟩
theorem dX12_counts_34 : q_at cX12_counts 34 (.aload_n 0) 1 35 := ⟨by decide +kernel, rfl⟩
theorem dX12_counts_35 : q_at cX12_counts 35 (.iload_n 3) 1 36 := ⟨by decide +kernel, rfl⟩
theorem dX12_counts_36 : q_at cX12_counts 36 (.invokevirtual 297) 3 39 := ⟨by decide +kernel, rfl⟩
theorem dX12_counts_39 : q_at cX12_counts 39 (.iconst 1) 1 40 := ⟨by decide +kernel, rfl⟩
theorem dX12_counts_40 : q_at cX12_counts 40 (.iadd) 1 41 := ⟨by decide +kernel, rfl⟩
theorem dX12_counts_41 : q_at cX12_counts 41 (.iaload) 1 42 := ⟨by decide +kernel, rfl⟩
theorem dX12_counts_42 : q_at cX12_counts 42 (.aload_n 0) 1 43 := ⟨by decide +kernel, rfl⟩
theorem dX12_counts_43 : q_at cX12_counts 43 (.getfield 7) 3 46 := ⟨by decide +kernel, rfl⟩
theorem dX12_counts_46 : q_at cX12_counts 46 (.iconst 0) 1 47 := ⟨by decide +kernel, rfl⟩
theorem dX12_counts_47 : q_at cX12_counts 47 (.iaload) 1 48 := ⟨by decide +kernel, rfl⟩
theorem dX12_counts_48 : q_at cX12_counts 48 (.if_icmp .gt 7) 3 51 := ⟨by decide +kernel, rfl⟩
theorem dX12_counts_51 : q_at cX12_counts 51 (.iconst 1) 1 52 := ⟨by decide +kernel, rfl⟩
theorem dX12_counts_52 : q_at cX12_counts 52 (.goto 4) 3 55 := ⟨by decide +kernel, rfl⟩
theorem dX12_counts_55 : q_at cX12_counts 55 (.iconst 0) 1 56 := ⟨by decide +kernel, rfl⟩
theorem dX12_counts_56 : q_at cX12_counts 56 (.istore 4) 2 58 := ⟨by decide +kernel, rfl⟩
theorem dX12_counts_58 : q_at cX12_counts 58 (.iload 4) 2 60 := ⟨by decide +kernel, rfl⟩
theorem dX12_counts_60 : q_at cX12_counts 60 (.ifCond .eq 38) 3 63 := ⟨by decide +kernel, rfl⟩
theorem dX12_counts_63 : q_at cX12_counts 63 (.iload_n 2) 1 64 := ⟨by decide +kernel, rfl⟩
theorem dX12_counts_64 : q_at cX12_counts 64 (.ifCond .lt 30) 3 67 := ⟨by decide +kernel, rfl⟩
theorem dX12_counts_67 : q_at cX12_counts 67 (.aload_n 0) 1 68 := ⟨by decide +kernel, rfl⟩
theorem dX12_counts_68 : q_at cX12_counts 68 (.getfield 7) 3 71 := ⟨by decide +kernel, rfl⟩
theorem dX12_counts_71 : q_at cX12_counts 71 (.aload_n 0) 1 72 := ⟨by decide +kernel, rfl⟩
theorem dX12_counts_72 : q_at cX12_counts 72 (.iload_n 3) 1 73 := ⟨by decide +kernel, rfl⟩
theorem dX12_counts_73 : q_at cX12_counts 73 (.invokevirtual 297) 3 76 := ⟨by decide +kernel, rfl⟩
theorem dX12_counts_76 : q_at cX12_counts 76 (.iconst 1) 1 77 := ⟨by decide +kernel, rfl⟩
theorem dX12_counts_77 : q_at cX12_counts 77 (.iadd) 1 78 := ⟨by decide +kernel, rfl⟩
theorem dX12_counts_78 : q_at cX12_counts 78 (.iaload) 1 79 := ⟨by decide +kernel, rfl⟩
theorem dX12_counts_79 : q_at cX12_counts 79 (.aload_n 0) 1 80 := ⟨by decide +kernel, rfl⟩
theorem dX12_counts_80 : q_at cX12_counts 80 (.getfield 7) 3 83 := ⟨by decide +kernel, rfl⟩
theorem dX12_counts_83 : q_at cX12_counts 83 (.aload_n 0) 1 84 := ⟨by decide +kernel, rfl⟩
theorem dX12_counts_84 : q_at cX12_counts 84 (.iload_n 2) 1 85 := ⟨by decide +kernel, rfl⟩
theorem dX12_counts_85 : q_at cX12_counts 85 (.invokevirtual 297) 3 88 := ⟨by decide +kernel, rfl⟩
theorem dX12_counts_88 : q_at cX12_counts 88 (.iconst 1) 1 89 := ⟨by decide +kernel, rfl⟩
theorem dX12_counts_89 : q_at cX12_counts 89 (.iadd) 1 90 := ⟨by decide +kernel, rfl⟩
theorem dX12_counts_90 : q_at cX12_counts 90 (.iaload) 1 91 := ⟨by decide +kernel, rfl⟩
theorem dX12_counts_91 : q_at cX12_counts 91 (.if_icmp .lt 7) 3 94 := ⟨by decide +kernel, rfl⟩
theorem dX12_counts_94 : q_at cX12_counts 94 (.iload_n 3) 1 95 := ⟨by decide +kernel, rfl⟩
theorem dX12_counts_95 : q_at cX12_counts 95 (.goto 4) 3 98 := ⟨by decide +kernel, rfl⟩
theorem dX12_counts_98 : q_at cX12_counts 98 (.iload_n 2) 1 99 := ⟨by decide +kernel, rfl⟩
theorem dX12_counts_99 : q_at cX12_counts 99 (.istore_n 2) 1 100 := ⟨by decide +kernel, rfl⟩
theorem dX12_counts_100 : q_at cX12_counts 100 (.iinc 3 1) 3 103 := ⟨by decide +kernel, rfl⟩
theorem dX12_counts_103 : q_at cX12_counts 103 (.goto (-99)) 3 106 := ⟨by decide +kernel, rfl⟩
theorem dX12_counts_106 : q_at cX12_counts 106 (.iload_n 2) 1 107 := ⟨by decide +kernel, rfl⟩
theorem dX12_counts_107 : q_at cX12_counts 107 (.ireturn) 1 108 := ⟨by decide +kernel, rfl⟩
theorem dX12_earned_0 : q_at cX12_earned 0 (.aload_n 0) 1 1 := ⟨by decide +kernel, rfl⟩
theorem dX12_earned_1 : q_at cX12_earned 1 (.getfield 7) 3 4 := ⟨by decide +kernel, rfl⟩
theorem dX12_earned_4 : q_at cX12_earned 4 (.aload_n 0) 1 5 := ⟨by decide +kernel, rfl⟩
theorem dX12_earned_5 : q_at cX12_earned 5 (.aload_n 0) 1 6 := ⟨by decide +kernel, rfl⟩
theorem dX12_earned_6 : q_at cX12_earned 6 (.getfield 7) 3 9 := ⟨by decide +kernel, rfl⟩
theorem dX12_earned_9 : q_at cX12_earned 9 (.aload_n 0) 1 10 := ⟨by decide +kernel, rfl⟩
theorem dX12_earned_10 : q_at cX12_earned 10 (.iload_n 1) 1 11 := ⟨by decide +kernel, rfl⟩
theorem dX12_earned_11 : q_at cX12_earned 11 (.invokevirtual 68) 3 14 := ⟨by decide +kernel, rfl⟩
theorem dX12_earned_14 : q_at cX12_earned 14 (.bipush 10) 2 16 := ⟨by decide +kernel, rfl⟩
theorem dX12_earned_16 : q_at cX12_earned 16 (.iadd) 1 17 := ⟨by decide +kernel, rfl⟩
theorem dX12_earned_17 : q_at cX12_earned 17 (.iaload) 1 18 := ⟨by decide +kernel, rfl⟩
theorem dX12_earned_18 : q_at cX12_earned 18 (.invokevirtual 75) 3 21 := ⟨by decide +kernel, rfl⟩
theorem dX12_earned_21 : q_at cX12_earned 21 (.iconst 2) 1 22 := ⟨by decide +kernel, rfl⟩
theorem dX12_earned_22 : q_at cX12_earned 22 (.iadd) 1 23 := ⟨by decide +kernel, rfl⟩
theorem dX12_earned_23 : q_at cX12_earned 23 (.iaload) 1 24 := ⟨by decide +kernel, rfl⟩
theorem dX12_earned_24 : q_at cX12_earned 24 (.ireturn) 1 25 := ⟨by decide +kernel, rfl⟩
theorem dX12_end_0 : q_at cX12_end 0 (.iload_n 1) 1 1 := ⟨by decide +kernel, rfl⟩
theorem dX12_end_1 : q_at cX12_end 1 (.i2l) 1 2 := ⟨by decide +kernel, rfl⟩
theorem dX12_end_2 : q_at cX12_end 2 (.lconst 0) 1 3 := ⟨by decide +kernel, rfl⟩
theorem dX12_end_3 : q_at cX12_end 3 (.ldc2_w 102) 3 6 := ⟨by decide +kernel, rfl⟩
theorem dX12_end_6 : q_at cX12_end 6 (.invokestatic 64) 3 9 := ⟨by decide +kernel, rfl⟩
theorem dX12_end_9 : q_at cX12_end 9 (.ifCond .eq 61) 3 12 := ⟨by decide +kernel, rfl⟩
theorem dX12_end_12 : q_at cX12_end 12 (.iload_n 2) 1 13 := ⟨by decide +kernel, rfl⟩
theorem dX12_end_13 : q_at cX12_end 13 (.i2l) 1 14 := ⟨by decide +kernel, rfl⟩
theorem dX12_end_14 : q_at cX12_end 14 (.lconst 0) 1 15 := ⟨by decide +kernel, rfl⟩
theorem dX12_end_15 : q_at cX12_end 15 (.ldc2_w 102) 3 18 := ⟨by decide +kernel, rfl⟩
theorem dX12_end_18 : q_at cX12_end 18 (.invokestatic 64) 3 21 := ⟨by decide +kernel, rfl⟩
theorem dX12_end_21 : q_at cX12_end 21 (.ifCond .eq 49) 3 24 := ⟨by decide +kernel, rfl⟩
theorem dX12_end_24 : q_at cX12_end 24 (.iload_n 3) 1 25 := ⟨by decide +kernel, rfl⟩
theorem dX12_end_25 : q_at cX12_end 25 (.i2l) 1 26 := ⟨by decide +kernel, rfl⟩
theorem dX12_end_26 : q_at cX12_end 26 (.lconst 0) 1 27 := ⟨by decide +kernel, rfl⟩
theorem dX12_end_27 : q_at cX12_end 27 (.ldc2_w 125) 3 30 := ⟨by decide +kernel, rfl⟩
theorem dX12_end_30 : q_at cX12_end 30 (.invokestatic 64) 3 33 := ⟨by decide +kernel, rfl⟩
theorem dX12_end_33 : q_at cX12_end 33 (.ifCond .eq 37) 3 36 := ⟨by decide +kernel, rfl⟩
theorem dX12_end_36 : q_at cX12_end 36 (.iload 4) 2 38 := ⟨by decide +kernel, rfl⟩
theorem dX12_end_38 : q_at cX12_end 38 (.i2l) 1 39 := ⟨by decide +kernel, rfl⟩
theorem dX12_end_39 : q_at cX12_end 39 (.lconst 0) 1 40 := ⟨by decide +kernel, rfl⟩
theorem dX12_end_40 : q_at cX12_end 40 (.lconst 1) 1 41 := ⟨by decide +kernel, rfl⟩
theorem dX12_end_41 : q_at cX12_end 41 (.invokestatic 64) 3 44 := ⟨by decide +kernel, rfl⟩
theorem dX12_end_44 : q_at cX12_end 44 (.ifCond .eq 26) 3 47 := ⟨by decide +kernel, rfl⟩
theorem dX12_end_47 : q_at cX12_end 47 (.aload_n 0) 1 48 := ⟨by decide +kernel, rfl⟩
theorem dX12_end_48 : q_at cX12_end 48 (.sipush 3250) 3 51 := ⟨by decide +kernel, rfl⟩
theorem dX12_end_51 : q_at cX12_end 51 (.bipush 12) 2 53 := ⟨by decide +kernel, rfl⟩
theorem dX12_end_53 : q_at cX12_end 53 (.iload_n 1) 1 54 := ⟨by decide +kernel, rfl⟩
theorem dX12_end_54 : q_at cX12_end 54 (.imul) 1 55 := ⟨by decide +kernel, rfl⟩
theorem dX12_end_55 : q_at cX12_end 55 (.iadd) 1 56 := ⟨by decide +kernel, rfl⟩
theorem dX12_end_56 : q_at cX12_end 56 (.iconst 3) 1 57 := ⟨by decide +kernel, rfl⟩
theorem dX12_end_57 : q_at cX12_end 57 (.iload_n 2) 1 58 := ⟨by decide +kernel, rfl⟩
theorem dX12_end_58 : q_at cX12_end 58 (.imul) 1 59 := ⟨by decide +kernel, rfl⟩
theorem dX12_end_59 : q_at cX12_end 59 (.iadd) 1 60 := ⟨by decide +kernel, rfl⟩
theorem dX12_end_60 : q_at cX12_end 60 (.iload_n 3) 1 61 := ⟨by decide +kernel, rfl⟩
theorem dX12_end_61 : q_at cX12_end 61 (.iadd) 1 62 := ⟨by decide +kernel, rfl⟩
theorem dX12_end_62 : q_at cX12_end 62 (.iload 4) 2 64 := ⟨by decide +kernel, rfl⟩
theorem dX12_end_64 : q_at cX12_end 64 (.invokevirtual 86) 3 67 := ⟨by decide +kernel, rfl⟩
theorem dX12_end_67 : q_at cX12_end 67 (.goto 5) 3 70 := ⟨by decide +kernel, rfl⟩
theorem dX12_end_70 : q_at cX12_end 70 (.ldc 90) 2 72 := ⟨by decide +kernel, rfl⟩
theorem dX12_end_72 : q_at cX12_end 72 (.ireturn) 1 73 := ⟨by decide +kernel, rfl⟩
theorem dX12_findRound_0 : q_at cX12_findRound 0 (.iconst 0) 1 1 := ⟨by decide +kernel, rfl⟩
theorem dX12_findRound_1 : q_at cX12_findRound 1 (.istore_n 2) 1 2 := ⟨by decide +kernel, rfl⟩
theorem dX12_findRound_2 : q_at cX12_findRound 2 (.iload_n 2) 1 3 := ⟨by decide +kernel, rfl⟩
theorem dX12_findRound_3 : q_at cX12_findRound 3 (.bipush 28) 2 5 := ⟨by decide +kernel, rfl⟩
theorem dX12_findRound_5 : q_at cX12_findRound 5 (.if_icmp .ge 102) 3 8 := ⟨by decide +kernel, rfl⟩
theorem dX12_findRound_8 : q_at cX12_findRound 8 (.aload_n 0) 1 9 := ⟨by decide +kernel, rfl⟩
theorem dX12_findRound_9 : q_at cX12_findRound 9 (.getfield 40) 3 12 := ⟨by decide +kernel, rfl⟩
theorem dX12_findRound_12 : q_at cX12_findRound 12 (.iload_n 2) 1 13 := ⟨by decide +kernel, rfl⟩
theorem dX12_findRound_13 : q_at cX12_findRound 13 (.iconst 0) 1 14 := ⟨by decide +kernel, rfl⟩
theorem dX12_findRound_14 : q_at cX12_findRound 14 (.iastore) 1 15 := ⟨by decide +kernel, rfl⟩
theorem dX12_findRound_15 : q_at cX12_findRound 15 (.iconst 0) 1 16 := ⟨by decide +kernel, rfl⟩
theorem dX12_findRound_16 : q_at cX12_findRound 16 (.istore_n 3) 1 17 := ⟨by decide +kernel, rfl⟩
theorem dX12_findRound_17 : q_at cX12_findRound 17 (.iload_n 3) 1 18 := ⟨by decide +kernel, rfl⟩
theorem dX12_findRound_18 : q_at cX12_findRound 18 (.aload_n 0) 1 19 := ⟨by decide +kernel, rfl⟩
theorem dX12_findRound_19 : q_at cX12_findRound 19 (.getfield 7) 3 22 := ⟨by decide +kernel, rfl⟩
theorem dX12_findRound_22 : q_at cX12_findRound 22 (.iconst 5) 1 23 := ⟨by decide +kernel, rfl⟩
theorem dX12_findRound_23 : q_at cX12_findRound 23 (.iaload) 1 24 := ⟨by decide +kernel, rfl⟩
theorem dX12_findRound_24 : q_at cX12_findRound 24 (.if_icmp .ge 77) 3 27 := ⟨by decide +kernel, rfl⟩
theorem dX12_findRound_27 : q_at cX12_findRound 27 (.sipush 3300) 3 30 := ⟨by decide +kernel, rfl⟩
theorem dX12_findRound_30 : q_at cX12_findRound 30 (.iconst 3) 1 31 := ⟨by decide +kernel, rfl⟩
theorem dX12_findRound_31 : q_at cX12_findRound 31 (.iload_n 3) 1 32 := ⟨by decide +kernel, rfl⟩
theorem dX12_findRound_32 : q_at cX12_findRound 32 (.imul) 1 33 := ⟨by decide +kernel, rfl⟩
theorem dX12_findRound_33 : q_at cX12_findRound 33 (.iadd) 1 34 := ⟨by decide +kernel, rfl⟩
theorem dX12_findRound_34 : q_at cX12_findRound 34 (.istore 4) 2 36 := ⟨by decide +kernel, rfl⟩
theorem dX12_findRound_36 : q_at cX12_findRound 36 (.aload_n 0) 1 37 := ⟨by decide +kernel, rfl⟩
theorem dX12_findRound_37 : q_at cX12_findRound 37 (.getfield 40) 3 40 := ⟨by decide +kernel, rfl⟩
theorem dX12_findRound_40 : q_at cX12_findRound 40 (.iload_n 2) 1 41 := ⟨by decide +kernel, rfl⟩
theorem dX12_findRound_41 : q_at cX12_findRound 41 (.dup2) 1 42 := ⟨by decide +kernel, rfl⟩
theorem dX12_findRound_42 : q_at cX12_findRound 42 (.iaload) 1 43 := ⟨by decide +kernel, rfl⟩
theorem dX12_findRound_43 : q_at cX12_findRound 43 (.aload_n 0) 1 44 := ⟨by decide +kernel, rfl⟩
theorem dX12_findRound_44 : q_at cX12_findRound 44 (.getfield 7) 3 47 := ⟨by decide +kernel, rfl⟩
theorem dX12_findRound_47 : q_at cX12_findRound 47 (.iload 4) 2 49 := ⟨by decide +kernel, rfl⟩
theorem dX12_findRound_49 : q_at cX12_findRound 49 (.iaload) 1 50 := ⟨by decide +kernel, rfl⟩
theorem dX12_findRound_50 : q_at cX12_findRound 50 (.iload_n 2) 1 51 := ⟨by decide +kernel, rfl⟩
theorem dX12_findRound_51 : q_at cX12_findRound 51 (.iconst 4) 1 52 := ⟨by decide +kernel, rfl⟩
theorem dX12_findRound_52 : q_at cX12_findRound 52 (.irem) 1 53 := ⟨by decide +kernel, rfl⟩
theorem dX12_findRound_53 : q_at cX12_findRound 53 (.if_icmp .ne 39) 3 56 := ⟨by decide +kernel, rfl⟩
theorem dX12_findRound_56 : q_at cX12_findRound 56 (.iload_n 2) 1 57 := ⟨by decide +kernel, rfl⟩
theorem dX12_findRound_57 : q_at cX12_findRound 57 (.iconst 4) 1 58 := ⟨by decide +kernel, rfl⟩
theorem dX12_findRound_58 : q_at cX12_findRound 58 (.idiv) 1 59 := ⟨by decide +kernel, rfl⟩
theorem dX12_findRound_59 : q_at cX12_findRound 59 (.i2l) 1 60 := ⟨by decide +kernel, rfl⟩
theorem dX12_findRound_60 : q_at cX12_findRound 60 (.aload_n 0) 1 61 := ⟨by decide +kernel, rfl⟩
theorem dX12_findRound_61 : q_at cX12_findRound 61 (.getfield 7) 3 64 := ⟨by decide +kernel, rfl⟩
theorem dX12_findRound_64 : q_at cX12_findRound 64 (.iload 4) 2 66 := ⟨by decide +kernel, rfl⟩
theorem dX12_findRound_66 : q_at cX12_findRound 66 (.iconst 1) 1 67 := ⟨by decide +kernel, rfl⟩
theorem dX12_findRound_67 : q_at cX12_findRound 67 (.iadd) 1 68 := ⟨by decide +kernel, rfl⟩
theorem dX12_findRound_68 : q_at cX12_findRound 68 (.iaload) 1 69 := ⟨by decide +kernel, rfl⟩
theorem dX12_findRound_69 : q_at cX12_findRound 69 (.i2l) 1 70 := ⟨by decide +kernel, rfl⟩
theorem dX12_findRound_70 : q_at cX12_findRound 70 (.aload_n 0) 1 71 := ⟨by decide +kernel, rfl⟩
theorem dX12_findRound_71 : q_at cX12_findRound 71 (.getfield 7) 3 74 := ⟨by decide +kernel, rfl⟩
theorem dX12_findRound_74 : q_at cX12_findRound 74 (.iload 4) 2 76 := ⟨by decide +kernel, rfl⟩
theorem dX12_findRound_76 : q_at cX12_findRound 76 (.iconst 2) 1 77 := ⟨by decide +kernel, rfl⟩
theorem dX12_findRound_77 : q_at cX12_findRound 77 (.iadd) 1 78 := ⟨by decide +kernel, rfl⟩
theorem dX12_findRound_78 : q_at cX12_findRound 78 (.iaload) 1 79 := ⟨by decide +kernel, rfl⟩
theorem dX12_findRound_79 : q_at cX12_findRound 79 (.i2l) 1 80 := ⟨by decide +kernel, rfl⟩
theorem dX12_findRound_80 : q_at cX12_findRound 80 (.invokestatic 64) 3 83 := ⟨by decide +kernel, rfl⟩
theorem dX12_findRound_83 : q_at cX12_findRound 83 (.ifCond .eq 9) 3 86 := ⟨by decide +kernel, rfl⟩
theorem dX12_findRound_86 : q_at cX12_findRound 86 (.iconst 1) 1 87 := ⟨by decide +kernel, rfl⟩
theorem dX12_findRound_87 : q_at cX12_findRound 87 (.iload_n 3) 1 88 := ⟨by decide +kernel, rfl⟩
theorem dX12_findRound_88 : q_at cX12_findRound 88 (.ishl) 1 89 := ⟨by decide +kernel, rfl⟩
theorem dX12_findRound_89 : q_at cX12_findRound 89 (.goto 4) 3 92 := ⟨by decide +kernel, rfl⟩
theorem dX12_findRound_92 : q_at cX12_findRound 92 (.iconst 0) 1 93 := ⟨by decide +kernel, rfl⟩
theorem dX12_findRound_93 : q_at cX12_findRound 93 (.ior) 1 94 := ⟨by decide +kernel, rfl⟩
theorem dX12_findRound_94 : q_at cX12_findRound 94 (.iastore) 1 95 := ⟨by decide +kernel, rfl⟩
theorem dX12_findRound_95 : q_at cX12_findRound 95 (.iinc 3 1) 3 98 := ⟨by decide +kernel, rfl⟩
theorem dX12_findRound_98 : q_at cX12_findRound 98 (.goto (-81)) 3 101 := ⟨by decide +kernel, rfl⟩
theorem dX12_findRound_101 : q_at cX12_findRound 101 (.iinc 2 1) 3 104 := ⟨by decide +kernel, rfl⟩
theorem dX12_findRound_104 : q_at cX12_findRound 104 (.goto (-102)) 3 107 := ⟨by decide +kernel, rfl⟩
theorem dX12_findRound_107 : q_at cX12_findRound 107 (.iconst (-1)) 1 108 := ⟨by decide +kernel, rfl⟩
theorem dX12_findRound_108 : q_at cX12_findRound 108 (.istore_n 2) 1 109 := ⟨by decide +kernel, rfl⟩
theorem dX12_findRound_109 : q_at cX12_findRound 109 (.iconst 0) 1 110 := ⟨by decide +kernel, rfl⟩
theorem dX12_findRound_110 : q_at cX12_findRound 110 (.istore_n 3) 1 111 := ⟨by decide +kernel, rfl⟩
theorem dX12_findRound_111 : q_at cX12_findRound 111 (.iload_n 3) 1 112 := ⟨by decide +kernel, rfl⟩
theorem dX12_findRound_112 : q_at cX12_findRound 112 (.iconst 1) 1 113 := ⟨by decide +kernel, rfl⟩
theorem dX12_findRound_113 : q_at cX12_findRound 113 (.iconst 2) 1 114 := ⟨by decide +kernel, rfl⟩
theorem dX12_findRound_114 : q_at cX12_findRound 114 (.iload_n 1) 1 115 := ⟨by decide +kernel, rfl⟩
theorem dX12_findRound_115 : q_at cX12_findRound 115 (.imul) 1 116 := ⟨by decide +kernel, rfl⟩
theorem dX12_findRound_116 : q_at cX12_findRound 116 (.ishl) 1 117 := ⟨by decide +kernel, rfl⟩
theorem dX12_findRound_117 : q_at cX12_findRound 117 (.if_icmp .ge 74) 3 120 := ⟨by decide +kernel, rfl⟩
theorem dX12_findRound_120 : q_at cX12_findRound 120 (.iconst 0) 1 121 := ⟨by decide +kernel, rfl⟩
theorem dX12_findRound_121 : q_at cX12_findRound 121 (.istore 4) 2 123 := ⟨by decide +kernel, rfl⟩
theorem dX12_findRound_123 : q_at cX12_findRound 123 (.iconst 0) 1 124 := ⟨by decide +kernel, rfl⟩
theorem dX12_findRound_124 : q_at cX12_findRound 124 (.istore 5) 2 126 := ⟨by decide +kernel, rfl⟩
theorem dX12_findRound_126 : q_at cX12_findRound 126 (.iload 5) 2 128 := ⟨by decide +kernel, rfl⟩
theorem dX12_findRound_128 : q_at cX12_findRound 128 (.iload_n 1) 1 129 := ⟨by decide +kernel, rfl⟩
theorem dX12_findRound_129 : q_at cX12_findRound 129 (.if_icmp .ge 36) 3 132 := ⟨by decide +kernel, rfl⟩
theorem dX12_findRound_132 : q_at cX12_findRound 132 (.iload 4) 2 134 := ⟨by decide +kernel, rfl⟩
theorem dX12_findRound_134 : q_at cX12_findRound 134 (.aload_n 0) 1 135 := ⟨by decide +kernel, rfl⟩
theorem dX12_findRound_135 : q_at cX12_findRound 135 (.getfield 40) 3 138 := ⟨by decide +kernel, rfl⟩
theorem dX12_findRound_138 : q_at cX12_findRound 138 (.iconst 4) 1 139 := ⟨by decide +kernel, rfl⟩
theorem dX12_findRound_139 : q_at cX12_findRound 139 (.iload 5) 2 141 := ⟨by decide +kernel, rfl⟩
theorem dX12_findRound_141 : q_at cX12_findRound 141 (.imul) 1 142 := ⟨by decide +kernel, rfl⟩
theorem dX12_findRound_142 : q_at cX12_findRound 142 (.iload_n 3) 1 143 := ⟨by decide +kernel, rfl⟩
theorem dX12_findRound_143 : q_at cX12_findRound 143 (.iconst 2) 1 144 := ⟨by decide +kernel, rfl⟩
theorem dX12_findRound_144 : q_at cX12_findRound 144 (.iload_n 1) 1 145 := ⟨by decide +kernel, rfl⟩
theorem dX12_findRound_145 : q_at cX12_findRound 145 (.iconst 1) 1 146 := ⟨by decide +kernel, rfl⟩
theorem dX12_findRound_146 : q_at cX12_findRound 146 (.isub) 1 147 := ⟨by decide +kernel, rfl⟩
theorem dX12_findRound_147 : q_at cX12_findRound 147 (.iload 5) 2 149 := ⟨by decide +kernel, rfl⟩
theorem dX12_findRound_149 : q_at cX12_findRound 149 (.isub) 1 150 := ⟨by decide +kernel, rfl⟩
theorem dX12_findRound_150 : q_at cX12_findRound 150 (.imul) 1 151 := ⟨by decide +kernel, rfl⟩
theorem dX12_findRound_151 : q_at cX12_findRound 151 (.ishr) 1 152 := ⟨by decide +kernel, rfl⟩
theorem dX12_findRound_152 : q_at cX12_findRound 152 (.iconst 3) 1 153 := ⟨by decide +kernel, rfl⟩
theorem dX12_findRound_153 : q_at cX12_findRound 153 (.iand) 1 154 := ⟨by decide +kernel, rfl⟩
theorem dX12_findRound_154 : q_at cX12_findRound 154 (.iadd) 1 155 := ⟨by decide +kernel, rfl⟩
theorem dX12_findRound_155 : q_at cX12_findRound 155 (.iaload) 1 156 := ⟨by decide +kernel, rfl⟩
theorem dX12_findRound_156 : q_at cX12_findRound 156 (.ior) 1 157 := ⟨by decide +kernel, rfl⟩
theorem dX12_findRound_157 : q_at cX12_findRound 157 (.istore 4) 2 159 := ⟨by decide +kernel, rfl⟩
theorem dX12_findRound_159 : q_at cX12_findRound 159 (.iinc 5 1) 3 162 := ⟨by decide +kernel, rfl⟩
theorem dX12_findRound_162 : q_at cX12_findRound 162 (.goto (-36)) 3 165 := ⟨by decide +kernel, rfl⟩
theorem dX12_findRound_165 : q_at cX12_findRound 165 (.iload 4) 2 167 := ⟨by decide +kernel, rfl⟩
theorem dX12_findRound_167 : q_at cX12_findRound 167 (.invokestatic 392) 3 170 := ⟨by decide +kernel, rfl⟩
theorem dX12_findRound_170 : q_at cX12_findRound 170 (.iload_n 2) 1 171 := ⟨by decide +kernel, rfl⟩
theorem dX12_findRound_171 : q_at cX12_findRound 171 (.if_icmp .le 14) 3 174 := ⟨by decide +kernel, rfl⟩
theorem dX12_findRound_174 : q_at cX12_findRound 174 (.iload 4) 2 176 := ⟨by decide +kernel, rfl⟩
theorem dX12_findRound_176 : q_at cX12_findRound 176 (.invokestatic 392) 3 179 := ⟨by decide +kernel, rfl⟩
theorem dX12_findRound_179 : q_at cX12_findRound 179 (.istore_n 2) 1 180 := ⟨by decide +kernel, rfl⟩
theorem dX12_findRound_180 : q_at cX12_findRound 180 (.aload_n 0) 1 181 := ⟨by decide +kernel, rfl⟩
theorem dX12_findRound_181 : q_at cX12_findRound 181 (.iload_n 3) 1 182 := ⟨by decide +kernel, rfl⟩
theorem dX12_findRound_182 : q_at cX12_findRound 182 (.putfield 395) 3 185 := ⟨by decide +kernel, rfl⟩
theorem dX12_findRound_185 : q_at cX12_findRound 185 (.iinc 3 1) 3 188 := ⟨by decide +kernel, rfl⟩
theorem dX12_findRound_188 : q_at cX12_findRound 188 (.goto (-77)) 3 191 := ⟨by decide +kernel, rfl⟩
theorem dX12_findRound_191 : q_at cX12_findRound 191 (.iload_n 2) 1 192 := ⟨by decide +kernel, rfl⟩
theorem dX12_findRound_192 : q_at cX12_findRound 192 (.ireturn) 1 193 := ⟨by decide +kernel, rfl⟩
theorem dX12_gets_0 : q_at cX12_gets 0 (.aload_n 0) 1 1 := ⟨by decide +kernel, rfl⟩
theorem dX12_gets_1 : q_at cX12_gets 1 (.getfield 7) 3 4 := ⟨by decide +kernel, rfl⟩
theorem dX12_gets_4 : q_at cX12_gets 4 (.aload_n 0) 1 5 := ⟨by decide +kernel, rfl⟩
theorem dX12_gets_5 : q_at cX12_gets 5 (.iload_n 1) 1 6 := ⟨by decide +kernel, rfl⟩
theorem dX12_gets_6 : q_at cX12_gets 6 (.invokevirtual 68) 3 9 := ⟨by decide +kernel, rfl⟩
theorem dX12_gets_9 : q_at cX12_gets 9 (.iload_n 2) 1 10 := ⟨by decide +kernel, rfl⟩
theorem dX12_gets_10 : q_at cX12_gets 10 (.iadd) 1 11 := ⟨by decide +kernel, rfl⟩
theorem dX12_gets_11 : q_at cX12_gets 11 (.ldc 183) 2 13 := ⟨by decide +kernel, rfl⟩
theorem dX12_gets_13 : q_at cX12_gets 13 (.aload_n 0) 1 14 := ⟨by decide +kernel, rfl⟩
theorem dX12_gets_14 : q_at cX12_gets 14 (.getfield 7) 3 17 := ⟨by decide +kernel, rfl⟩
theorem dX12_gets_17 : q_at cX12_gets 17 (.aload_n 0) 1 18 := ⟨by decide +kernel, rfl⟩
theorem dX12_gets_18 : q_at cX12_gets 18 (.iload_n 1) 1 19 := ⟨by decide +kernel, rfl⟩
theorem dX12_gets_19 : q_at cX12_gets 19 (.invokevirtual 68) 3 22 := ⟨by decide +kernel, rfl⟩
theorem dX12_gets_22 : q_at cX12_gets 22 (.iload_n 2) 1 23 := ⟨by decide +kernel, rfl⟩
theorem dX12_gets_23 : q_at cX12_gets 23 (.iadd) 1 24 := ⟨by decide +kernel, rfl⟩
theorem dX12_gets_24 : q_at cX12_gets 24 (.iaload) 1 25 := ⟨by decide +kernel, rfl⟩
theorem dX12_gets_25 : q_at cX12_gets 25 (.iload_n 3) 1 26 := ⟨by decide +kernel, rfl⟩
theorem dX12_gets_26 : q_at cX12_gets 26 (.iadd) 1 27 := ⟨by decide +kernel, rfl⟩
theorem dX12_gets_27 : q_at cX12_gets 27 (.invokestatic 138) 3 30 := ⟨by decide +kernel, rfl⟩
theorem dX12_gets_30 : q_at cX12_gets 30 (.iastore) 1 31 := ⟨by decide +kernel, rfl⟩
theorem dX12_gets_31 : q_at cX12_gets 31 (.return_) 1 32 := ⟨by decide +kernel, rfl⟩
theorem dX12_isDigit_0 : q_at cX12_isDigit 0 (.iload_n 1) 1 1 := ⟨by decide +kernel, rfl⟩
theorem dX12_isDigit_1 : q_at cX12_isDigit 1 (.aload_n 0) 1 2 := ⟨by decide +kernel, rfl⟩
theorem dX12_isDigit_2 : q_at cX12_isDigit 2 (.getfield 215) 3 5 := ⟨by decide +kernel, rfl⟩
theorem dX12_isDigit_5 : q_at cX12_isDigit 5 (.if_icmp .ge 26) 3 8 := ⟨by decide +kernel, rfl⟩
theorem dX12_isDigit_8 : q_at cX12_isDigit 8 (.aload_n 0) 1 9 := ⟨by decide +kernel, rfl⟩
theorem dX12_isDigit_9 : q_at cX12_isDigit 9 (.getfield 28) 3 12 := ⟨by decide +kernel, rfl⟩
theorem dX12_isDigit_12 : q_at cX12_isDigit 12 (.iload_n 1) 1 13 := ⟨by decide +kernel, rfl⟩
theorem dX12_isDigit_13 : q_at cX12_isDigit 13 (.iaload) 1 14 := ⟨by decide +kernel, rfl⟩
theorem dX12_isDigit_14 : q_at cX12_isDigit 14 (.i2l) 1 15 := ⟨by decide +kernel, rfl⟩
theorem dX12_isDigit_15 : q_at cX12_isDigit 15 (.ldc2_w 222) 3 18 := ⟨by decide +kernel, rfl⟩
theorem dX12_isDigit_18 : q_at cX12_isDigit 18 (.ldc2_w 224) 3 21 := ⟨by decide +kernel, rfl⟩
theorem dX12_isDigit_21 : q_at cX12_isDigit 21 (.invokestatic 64) 3 24 := ⟨by decide +kernel, rfl⟩
theorem dX12_isDigit_24 : q_at cX12_isDigit 24 (.ifCond .eq 7) 3 27 := ⟨by decide +kernel, rfl⟩
theorem dX12_isDigit_27 : q_at cX12_isDigit 27 (.iconst 1) 1 28 := ⟨by decide +kernel, rfl⟩
theorem dX12_isDigit_28 : q_at cX12_isDigit 28 (.goto 4) 3 31 := ⟨by decide +kernel, rfl⟩
theorem dX12_isDigit_31 : q_at cX12_isDigit 31 (.iconst 0) 1 32 := ⟨by decide +kernel, rfl⟩
theorem dX12_isDigit_32 : q_at cX12_isDigit 32 (.ireturn) 1 33 := ⟨by decide +kernel, rfl⟩
theorem dX12_isDue_0 : q_at cX12_isDue 0 (.iload_n 1) 1 1 := ⟨by decide +kernel, rfl⟩
theorem dX12_isDue_1 : q_at cX12_isDue 1 (.i2l) 1 2 := ⟨by decide +kernel, rfl⟩
theorem dX12_isDue_2 : q_at cX12_isDue 2 (.lconst 0) 1 3 := ⟨by decide +kernel, rfl⟩
theorem dX12_isDue_3 : q_at cX12_isDue 3 (.aload_n 0) 1 4 := ⟨by decide +kernel, rfl⟩
theorem dX12_isDue_4 : q_at cX12_isDue 4 (.getfield 7) 3 7 := ⟨by decide +kernel, rfl⟩
theorem dX12_isDue_7 : q_at cX12_isDue 7 (.iconst 3) 1 8 := ⟨by decide +kernel, rfl⟩
theorem dX12_isDue_8 : q_at cX12_isDue 8 (.iaload) 1 9 := ⟨by decide +kernel, rfl⟩
theorem dX12_isDue_9 : q_at cX12_isDue 9 (.iconst 1) 1 10 := ⟨by decide +kernel, rfl⟩
theorem dX12_isDue_10 : q_at cX12_isDue 10 (.isub) 1 11 := ⟨by decide +kernel, rfl⟩
theorem dX12_isDue_11 : q_at cX12_isDue 11 (.i2l) 1 12 := ⟨by decide +kernel, rfl⟩
theorem dX12_isDue_12 : q_at cX12_isDue 12 (.invokestatic 64) 3 15 := ⟨by decide +kernel, rfl⟩
theorem dX12_isDue_15 : q_at cX12_isDue 15 (.ireturn) 1 16 := ⟨by decide +kernel, rfl⟩
theorem dX12_isFund_0 : q_at cX12_isFund 0 (.iload_n 0) 1 1 := ⟨by decide +kernel, rfl⟩
theorem dX12_isFund_1 : q_at cX12_isFund 1 (.i2l) 1 2 := ⟨by decide +kernel, rfl⟩
theorem dX12_isFund_2 : q_at cX12_isFund 2 (.lconst 0) 1 3 := ⟨by decide +kernel, rfl⟩
theorem dX12_isFund_3 : q_at cX12_isFund 3 (.ldc2_w 127) 3 6 := ⟨by decide +kernel, rfl⟩
theorem dX12_isFund_6 : q_at cX12_isFund 6 (.invokestatic 64) 3 9 := ⟨by decide +kernel, rfl⟩
theorem dX12_isFund_9 : q_at cX12_isFund 9 (.ifCond .eq 19) 3 12 := ⟨by decide +kernel, rfl⟩
theorem dX12_isFund_12 : q_at cX12_isFund 12 (.iload_n 1) 1 13 := ⟨by decide +kernel, rfl⟩
theorem dX12_isFund_13 : q_at cX12_isFund 13 (.i2l) 1 14 := ⟨by decide +kernel, rfl⟩
theorem dX12_isFund_14 : q_at cX12_isFund 14 (.lconst 0) 1 15 := ⟨by decide +kernel, rfl⟩
theorem dX12_isFund_15 : q_at cX12_isFund 15 (.ldc2_w 82) 3 18 := ⟨by decide +kernel, rfl⟩
theorem dX12_isFund_18 : q_at cX12_isFund 18 (.invokestatic 64) 3 21 := ⟨by decide +kernel, rfl⟩
theorem dX12_isFund_21 : q_at cX12_isFund 21 (.ifCond .eq 7) 3 24 := ⟨by decide +kernel, rfl⟩
theorem dX12_isFund_24 : q_at cX12_isFund 24 (.iconst 1) 1 25 := ⟨by decide +kernel, rfl⟩
theorem dX12_isFund_25 : q_at cX12_isFund 25 (.goto 4) 3 28 := ⟨by decide +kernel, rfl⟩
theorem dX12_isFund_28 : q_at cX12_isFund 28 (.iconst 0) 1 29 := ⟨by decide +kernel, rfl⟩
theorem dX12_isFund_29 : q_at cX12_isFund 29 (.ireturn) 1 30 := ⟨by decide +kernel, rfl⟩
theorem dX12_isGone_0 : q_at cX12_isGone 0 (.aload_n 0) 1 1 := ⟨by decide +kernel, rfl⟩
theorem dX12_isGone_1 : q_at cX12_isGone 1 (.getfield 7) 3 4 := ⟨by decide +kernel, rfl⟩
theorem dX12_isGone_4 : q_at cX12_isGone 4 (.aload_n 0) 1 5 := ⟨by decide +kernel, rfl⟩
theorem dX12_isGone_5 : q_at cX12_isGone 5 (.iload_n 1) 1 6 := ⟨by decide +kernel, rfl⟩
theorem dX12_isGone_6 : q_at cX12_isGone 6 (.invokevirtual 68) 3 9 := ⟨by decide +kernel, rfl⟩
theorem dX12_isGone_9 : q_at cX12_isGone 9 (.bipush 9) 2 11 := ⟨by decide +kernel, rfl⟩
theorem dX12_isGone_11 : q_at cX12_isGone 11 (.iadd) 1 12 := ⟨by decide +kernel, rfl⟩
theorem dX12_isGone_12 : q_at cX12_isGone 12 (.iaload) 1 13 := ⟨by decide +kernel, rfl⟩
theorem dX12_isGone_13 : q_at cX12_isGone 13 (.iconst 1) 1 14 := ⟨by decide +kernel, rfl⟩
theorem dX12_isGone_14 : q_at cX12_isGone 14 (.if_icmp .ne 7) 3 17 := ⟨by decide +kernel, rfl⟩
theorem dX12_isGone_17 : q_at cX12_isGone 17 (.iconst 1) 1 18 := ⟨by decide +kernel, rfl⟩
theorem dX12_isGone_18 : q_at cX12_isGone 18 (.goto 4) 3 21 := ⟨by decide +kernel, rfl⟩
theorem dX12_isGone_21 : q_at cX12_isGone 21 (.iconst 0) 1 22 := ⟨by decide +kernel, rfl⟩
theorem dX12_isGone_22 : q_at cX12_isGone 22 (.ireturn) 1 23 := ⟨by decide +kernel, rfl⟩
theorem dX12_isLetter_0 : q_at cX12_isLetter 0 (.iload_n 1) 1 1 := ⟨by decide +kernel, rfl⟩
theorem dX12_isLetter_1 : q_at cX12_isLetter 1 (.aload_n 0) 1 2 := ⟨by decide +kernel, rfl⟩
theorem dX12_isLetter_2 : q_at cX12_isLetter 2 (.getfield 215) 3 5 := ⟨by decide +kernel, rfl⟩
theorem dX12_isLetter_5 : q_at cX12_isLetter 5 (.if_icmp .ge 26) 3 8 := ⟨by decide +kernel, rfl⟩
theorem dX12_isLetter_8 : q_at cX12_isLetter 8 (.aload_n 0) 1 9 := ⟨by decide +kernel, rfl⟩
theorem dX12_isLetter_9 : q_at cX12_isLetter 9 (.getfield 28) 3 12 := ⟨by decide +kernel, rfl⟩
theorem dX12_isLetter_12 : q_at cX12_isLetter 12 (.iload_n 1) 1 13 := ⟨by decide +kernel, rfl⟩
theorem dX12_isLetter_13 : q_at cX12_isLetter 13 (.iaload) 1 14 := ⟨by decide +kernel, rfl⟩
theorem dX12_isLetter_14 : q_at cX12_isLetter 14 (.i2l) 1 15 := ⟨by decide +kernel, rfl⟩
theorem dX12_isLetter_15 : q_at cX12_isLetter 15 (.ldc2_w 218) 3 18 := ⟨by decide +kernel, rfl⟩
theorem dX12_isLetter_18 : q_at cX12_isLetter 18 (.ldc2_w 220) 3 21 := ⟨by decide +kernel, rfl⟩
theorem dX12_isLetter_21 : q_at cX12_isLetter 21 (.invokestatic 64) 3 24 := ⟨by decide +kernel, rfl⟩
theorem dX12_isLetter_24 : q_at cX12_isLetter 24 (.ifCond .eq 7) 3 27 := ⟨by decide +kernel, rfl⟩
theorem dX12_isLetter_27 : q_at cX12_isLetter 27 (.iconst 1) 1 28 := ⟨by decide +kernel, rfl⟩
theorem dX12_isLetter_28 : q_at cX12_isLetter 28 (.goto 4) 3 31 := ⟨by decide +kernel, rfl⟩
theorem dX12_isLetter_31 : q_at cX12_isLetter 31 (.iconst 0) 1 32 := ⟨by decide +kernel, rfl⟩
theorem dX12_isLetter_32 : q_at cX12_isLetter 32 (.ireturn) 1 33 := ⟨by decide +kernel, rfl⟩
theorem dX12_isMan_0 : q_at cX12_isMan 0 (.iload_n 1) 1 1 := ⟨by decide +kernel, rfl⟩
theorem dX12_isMan_1 : q_at cX12_isMan 1 (.i2l) 1 2 := ⟨by decide +kernel, rfl⟩
theorem dX12_isMan_2 : q_at cX12_isMan 2 (.lconst 0) 1 3 := ⟨by decide +kernel, rfl⟩
theorem dX12_isMan_3 : q_at cX12_isMan 3 (.aload_n 0) 1 4 := ⟨by decide +kernel, rfl⟩
theorem dX12_isMan_4 : q_at cX12_isMan 4 (.getfield 7) 3 7 := ⟨by decide +kernel, rfl⟩
theorem dX12_isMan_7 : q_at cX12_isMan 7 (.iconst 2) 1 8 := ⟨by decide +kernel, rfl⟩
theorem dX12_isMan_8 : q_at cX12_isMan 8 (.iaload) 1 9 := ⟨by decide +kernel, rfl⟩
theorem dX12_isMan_9 : q_at cX12_isMan 9 (.iconst 1) 1 10 := ⟨by decide +kernel, rfl⟩
theorem dX12_isMan_10 : q_at cX12_isMan 10 (.isub) 1 11 := ⟨by decide +kernel, rfl⟩
theorem dX12_isMan_11 : q_at cX12_isMan 11 (.i2l) 1 12 := ⟨by decide +kernel, rfl⟩
theorem dX12_isMan_12 : q_at cX12_isMan 12 (.invokestatic 64) 3 15 := ⟨by decide +kernel, rfl⟩
theorem dX12_isMan_15 : q_at cX12_isMan 15 (.ireturn) 1 16 := ⟨by decide +kernel, rfl⟩
theorem dX12_isPit_0 : q_at cX12_isPit 0 (.iload_n 0) 1 1 := ⟨by decide +kernel, rfl⟩
theorem dX12_isPit_1 : q_at cX12_isPit 1 (.i2l) 1 2 := ⟨by decide +kernel, rfl⟩
theorem dX12_isPit_2 : q_at cX12_isPit 2 (.lconst 0) 1 3 := ⟨by decide +kernel, rfl⟩
theorem dX12_isPit_3 : q_at cX12_isPit 3 (.ldc2_w 62) 3 6 := ⟨by decide +kernel, rfl⟩
theorem dX12_isPit_6 : q_at cX12_isPit 6 (.invokestatic 64) 3 9 := ⟨by decide +kernel, rfl⟩
theorem dX12_isPit_9 : q_at cX12_isPit 9 (.ireturn) 1 10 := ⟨by decide +kernel, rfl⟩
theorem dX12_isShop_0 : q_at cX12_isShop 0 (.iload_n 1) 1 1 := ⟨by decide +kernel, rfl⟩
theorem dX12_isShop_1 : q_at cX12_isShop 1 (.i2l) 1 2 := ⟨by decide +kernel, rfl⟩
theorem dX12_isShop_2 : q_at cX12_isShop 2 (.lconst 0) 1 3 := ⟨by decide +kernel, rfl⟩
theorem dX12_isShop_3 : q_at cX12_isShop 3 (.aload_n 0) 1 4 := ⟨by decide +kernel, rfl⟩
theorem dX12_isShop_4 : q_at cX12_isShop 4 (.getfield 7) 3 7 := ⟨by decide +kernel, rfl⟩
theorem dX12_isShop_7 : q_at cX12_isShop 7 (.iconst 1) 1 8 := ⟨by decide +kernel, rfl⟩
theorem dX12_isShop_8 : q_at cX12_isShop 8 (.iaload) 1 9 := ⟨by decide +kernel, rfl⟩
theorem dX12_isShop_9 : q_at cX12_isShop 9 (.iconst 1) 1 10 := ⟨by decide +kernel, rfl⟩
theorem dX12_isShop_10 : q_at cX12_isShop 10 (.isub) 1 11 := ⟨by decide +kernel, rfl⟩
theorem dX12_isShop_11 : q_at cX12_isShop 11 (.i2l) 1 12 := ⟨by decide +kernel, rfl⟩
theorem dX12_isShop_12 : q_at cX12_isShop 12 (.invokestatic 64) 3 15 := ⟨by decide +kernel, rfl⟩
theorem dX12_isShop_15 : q_at cX12_isShop 15 (.ireturn) 1 16 := ⟨by decide +kernel, rfl⟩
theorem dX12_isText_0 : q_at cX12_isText 0 (.iload_n 1) 1 1 := ⟨by decide +kernel, rfl⟩
theorem dX12_isText_1 : q_at cX12_isText 1 (.i2l) 1 2 := ⟨by decide +kernel, rfl⟩
theorem dX12_isText_2 : q_at cX12_isText 2 (.lconst 0) 1 3 := ⟨by decide +kernel, rfl⟩
theorem dX12_isText_3 : q_at cX12_isText 3 (.aload_n 0) 1 4 := ⟨by decide +kernel, rfl⟩
theorem dX12_isText_4 : q_at cX12_isText 4 (.getfield 7) 3 7 := ⟨by decide +kernel, rfl⟩
theorem dX12_isText_7 : q_at cX12_isText 7 (.iconst 4) 1 8 := ⟨by decide +kernel, rfl⟩
theorem dX12_isText_8 : q_at cX12_isText 8 (.iaload) 1 9 := ⟨by decide +kernel, rfl⟩
theorem dX12_isText_9 : q_at cX12_isText 9 (.iconst 1) 1 10 := ⟨by decide +kernel, rfl⟩
theorem dX12_isText_10 : q_at cX12_isText 10 (.isub) 1 11 := ⟨by decide +kernel, rfl⟩
theorem dX12_isText_11 : q_at cX12_isText 11 (.i2l) 1 12 := ⟨by decide +kernel, rfl⟩
theorem dX12_isText_12 : q_at cX12_isText 12 (.invokestatic 64) 3 15 := ⟨by decide +kernel, rfl⟩
theorem dX12_isText_15 : q_at cX12_isText 15 (.ireturn) 1 16 := ⟨by decide +kernel, rfl⟩
theorem dX12_isTown_0 : q_at cX12_isTown 0 (.aload_n 0) 1 1 := ⟨by decide +kernel, rfl⟩
theorem dX12_isTown_1 : q_at cX12_isTown 1 (.getfield 7) 3 4 := ⟨by decide +kernel, rfl⟩
theorem dX12_isTown_4 : q_at cX12_isTown 4 (.aload_n 0) 1 5 := ⟨by decide +kernel, rfl⟩
theorem dX12_isTown_5 : q_at cX12_isTown 5 (.iload_n 1) 1 6 := ⟨by decide +kernel, rfl⟩
theorem dX12_isTown_6 : q_at cX12_isTown 6 (.invokevirtual 72) 3 9 := ⟨by decide +kernel, rfl⟩
theorem dX12_isTown_9 : q_at cX12_isTown 9 (.iaload) 1 10 := ⟨by decide +kernel, rfl⟩
theorem dX12_isTown_10 : q_at cX12_isTown 10 (.iconst 1) 1 11 := ⟨by decide +kernel, rfl⟩
theorem dX12_isTown_11 : q_at cX12_isTown 11 (.if_icmp .ne 7) 3 14 := ⟨by decide +kernel, rfl⟩
theorem dX12_isTown_14 : q_at cX12_isTown 14 (.iconst 1) 1 15 := ⟨by decide +kernel, rfl⟩
theorem dX12_isTown_15 : q_at cX12_isTown 15 (.goto 4) 3 18 := ⟨by decide +kernel, rfl⟩
theorem dX12_isTown_18 : q_at cX12_isTown 18 (.iconst 0) 1 19 := ⟨by decide +kernel, rfl⟩
theorem dX12_isTown_19 : q_at cX12_isTown 19 (.ireturn) 1 20 := ⟨by decide +kernel, rfl⟩
theorem dX12_keep_0 : q_at cX12_keep 0 (.aload_n 0) 1 1 := ⟨by decide +kernel, rfl⟩
theorem dX12_keep_1 : q_at cX12_keep 1 (.iconst 1) 1 2 := ⟨by decide +kernel, rfl⟩
theorem dX12_keep_2 : q_at cX12_keep 2 (.putfield 442) 3 5 := ⟨by decide +kernel, rfl⟩
theorem dX12_keep_5 : q_at cX12_keep 5 (.aload_n 0) 1 6 := ⟨by decide +kernel, rfl⟩
theorem dX12_keep_6 : q_at cX12_keep 6 (.aload_n 0) 1 7 := ⟨by decide +kernel, rfl⟩
theorem dX12_keep_7 : q_at cX12_keep 7 (.getfield 7) 3 10 := ⟨by decide +kernel, rfl⟩
theorem dX12_keep_10 : q_at cX12_keep 10 (.aload_n 0) 1 11 := ⟨by decide +kernel, rfl⟩
theorem dX12_keep_11 : q_at cX12_keep 11 (.getfield 13) 3 14 := ⟨by decide +kernel, rfl⟩
theorem dX12_keep_14 : q_at cX12_keep 14 (.invokevirtual 365) 3 17 := ⟨by decide +kernel, rfl⟩
theorem dX12_keep_17 : q_at cX12_keep 17 (.aload_n 0) 1 18 := ⟨by decide +kernel, rfl⟩
theorem dX12_keep_18 : q_at cX12_keep 18 (.getfield 7) 3 21 := ⟨by decide +kernel, rfl⟩
theorem dX12_keep_21 : q_at cX12_keep 21 (.iconst 0) 1 22 := ⟨by decide +kernel, rfl⟩
theorem dX12_keep_22 : q_at cX12_keep 22 (.iaload) 1 23 := ⟨by decide +kernel, rfl⟩
theorem dX12_keep_23 : q_at cX12_keep 23 (.ireturn) 1 24 := ⟨by decide +kernel, rfl⟩
theorem dX12_key_0 : q_at cX12_key 0 (.aload_n 0) 1 1 := ⟨by decide +kernel, rfl⟩
theorem dX12_key_1 : q_at cX12_key 1 (.bipush 119) 2 3 := ⟨by decide +kernel, rfl⟩
theorem dX12_key_3 : q_at cX12_key 3 (.bipush 97) 2 5 := ⟨by decide +kernel, rfl⟩
theorem dX12_key_5 : q_at cX12_key 5 (.bipush 103) 2 7 := ⟨by decide +kernel, rfl⟩
theorem dX12_key_7 : q_at cX12_key 7 (.bipush 101) 2 9 := ⟨by decide +kernel, rfl⟩
theorem dX12_key_9 : q_at cX12_key 9 (.invokevirtual 247) 3 12 := ⟨by decide +kernel, rfl⟩
theorem dX12_key_12 : q_at cX12_key 12 (.ifCond .eq 7) 3 15 := ⟨by decide +kernel, rfl⟩
theorem dX12_key_15 : q_at cX12_key 15 (.iconst 0) 1 16 := ⟨by decide +kernel, rfl⟩
theorem dX12_key_16 : q_at cX12_key 16 (.goto 117) 3 19 := ⟨by decide +kernel, rfl⟩
theorem dX12_key_19 : q_at cX12_key 19 (.aload_n 0) 1 20 := ⟨by decide +kernel, rfl⟩
theorem dX12_key_20 : q_at cX12_key 20 (.bipush 115) 2 22 := ⟨by decide +kernel, rfl⟩
theorem dX12_key_22 : q_at cX12_key 22 (.bipush 116) 2 24 := ⟨by decide +kernel, rfl⟩
theorem dX12_key_24 : q_at cX12_key 24 (.bipush 111) 2 26 := ⟨by decide +kernel, rfl⟩
theorem dX12_key_26 : q_at cX12_key 26 (.bipush 112) 2 28 := ⟨by decide +kernel, rfl⟩
theorem dX12_key_28 : q_at cX12_key 28 (.invokevirtual 247) 3 31 := ⟨by decide +kernel, rfl⟩
theorem dX12_key_31 : q_at cX12_key 31 (.ifCond .eq 7) 3 34 := ⟨by decide +kernel, rfl⟩
theorem dX12_key_34 : q_at cX12_key 34 (.iconst 1) 1 35 := ⟨by decide +kernel, rfl⟩
theorem dX12_key_35 : q_at cX12_key 35 (.goto 98) 3 38 := ⟨by decide +kernel, rfl⟩
theorem dX12_key_38 : q_at cX12_key 38 (.aload_n 0) 1 39 := ⟨by decide +kernel, rfl⟩
theorem dX12_key_39 : q_at cX12_key 39 (.bipush 100) 2 41 := ⟨by decide +kernel, rfl⟩
theorem dX12_key_41 : q_at cX12_key 41 (.bipush 117) 2 43 := ⟨by decide +kernel, rfl⟩
theorem dX12_key_43 : q_at cX12_key 43 (.bipush 101) 2 45 := ⟨by decide +kernel, rfl⟩
theorem dX12_key_45 : q_at cX12_key 45 (.iconst 0) 1 46 := ⟨by decide +kernel, rfl⟩
theorem dX12_key_46 : q_at cX12_key 46 (.invokevirtual 247) 3 49 := ⟨by decide +kernel, rfl⟩
theorem dX12_key_49 : q_at cX12_key 49 (.ifCond .eq 7) 3 52 := ⟨by decide +kernel, rfl⟩
theorem dX12_key_52 : q_at cX12_key 52 (.iconst 2) 1 53 := ⟨by decide +kernel, rfl⟩
theorem dX12_key_53 : q_at cX12_key 53 (.goto 80) 3 56 := ⟨by decide +kernel, rfl⟩
theorem dX12_key_56 : q_at cX12_key 56 (.aload_n 0) 1 57 := ⟨by decide +kernel, rfl⟩
theorem dX12_key_57 : q_at cX12_key 57 (.bipush 99) 2 59 := ⟨by decide +kernel, rfl⟩
theorem dX12_key_59 : q_at cX12_key 59 (.bipush 111) 2 61 := ⟨by decide +kernel, rfl⟩
theorem dX12_key_61 : q_at cX12_key 61 (.bipush 105) 2 63 := ⟨by decide +kernel, rfl⟩
theorem dX12_key_63 : q_at cX12_key 63 (.bipush 110) 2 65 := ⟨by decide +kernel, rfl⟩
theorem dX12_key_65 : q_at cX12_key 65 (.invokevirtual 247) 3 68 := ⟨by decide +kernel, rfl⟩
theorem dX12_key_68 : q_at cX12_key 68 (.ifCond .eq 7) 3 71 := ⟨by decide +kernel, rfl⟩
theorem dX12_key_71 : q_at cX12_key 71 (.iconst 3) 1 72 := ⟨by decide +kernel, rfl⟩
theorem dX12_key_72 : q_at cX12_key 72 (.goto 61) 3 75 := ⟨by decide +kernel, rfl⟩
theorem dX12_key_75 : q_at cX12_key 75 (.aload_n 0) 1 76 := ⟨by decide +kernel, rfl⟩
theorem dX12_key_76 : q_at cX12_key 76 (.bipush 102) 2 78 := ⟨by decide +kernel, rfl⟩
theorem dX12_key_78 : q_at cX12_key 78 (.bipush 105) 2 80 := ⟨by decide +kernel, rfl⟩
theorem dX12_key_80 : q_at cX12_key 80 (.bipush 110) 2 82 := ⟨by decide +kernel, rfl⟩
theorem dX12_key_82 : q_at cX12_key 82 (.bipush 101) 2 84 := ⟨by decide +kernel, rfl⟩
theorem dX12_key_84 : q_at cX12_key 84 (.invokevirtual 247) 3 87 := ⟨by decide +kernel, rfl⟩
theorem dX12_key_87 : q_at cX12_key 87 (.ifCond .eq 7) 3 90 := ⟨by decide +kernel, rfl⟩
theorem dX12_key_90 : q_at cX12_key 90 (.iconst 4) 1 91 := ⟨by decide +kernel, rfl⟩
theorem dX12_key_91 : q_at cX12_key 91 (.goto 42) 3 94 := ⟨by decide +kernel, rfl⟩
theorem dX12_key_94 : q_at cX12_key 94 (.aload_n 0) 1 95 := ⟨by decide +kernel, rfl⟩
theorem dX12_key_95 : q_at cX12_key 95 (.bipush 107) 2 97 := ⟨by decide +kernel, rfl⟩
theorem dX12_key_97 : q_at cX12_key 97 (.bipush 101) 2 99 := ⟨by decide +kernel, rfl⟩
theorem dX12_key_99 : q_at cX12_key 99 (.bipush 101) 2 101 := ⟨by decide +kernel, rfl⟩
theorem dX12_key_101 : q_at cX12_key 101 (.bipush 112) 2 103 := ⟨by decide +kernel, rfl⟩
theorem dX12_key_103 : q_at cX12_key 103 (.invokevirtual 247) 3 106 := ⟨by decide +kernel, rfl⟩
theorem dX12_key_106 : q_at cX12_key 106 (.ifCond .eq 7) 3 109 := ⟨by decide +kernel, rfl⟩
theorem dX12_key_109 : q_at cX12_key 109 (.iconst 5) 1 110 := ⟨by decide +kernel, rfl⟩
theorem dX12_key_110 : q_at cX12_key 110 (.goto 23) 3 113 := ⟨by decide +kernel, rfl⟩
theorem dX12_key_113 : q_at cX12_key 113 (.aload_n 0) 1 114 := ⟨by decide +kernel, rfl⟩
theorem dX12_key_114 : q_at cX12_key 114 (.bipush 97) 2 116 := ⟨by decide +kernel, rfl⟩
theorem dX12_key_116 : q_at cX12_key 116 (.bipush 99) 2 118 := ⟨by decide +kernel, rfl⟩
theorem dX12_key_118 : q_at cX12_key 118 (.bipush 116) 2 120 := ⟨by decide +kernel, rfl⟩
theorem dX12_key_120 : q_at cX12_key 120 (.iconst 0) 1 121 := ⟨by decide +kernel, rfl⟩
theorem dX12_key_121 : q_at cX12_key 121 (.invokevirtual 247) 3 124 := ⟨by decide +kernel, rfl⟩
theorem dX12_key_124 : q_at cX12_key 124 (.ifCond .eq 8) 3 127 := ⟨by decide +kernel, rfl⟩
theorem dX12_key_127 : q_at cX12_key 127 (.bipush 6) 2 129 := ⟨by decide +kernel, rfl⟩
theorem dX12_key_129 : q_at cX12_key 129 (.goto 4) 3 132 := ⟨by decide +kernel, rfl⟩
theorem dX12_key_132 : q_at cX12_key 132 (.iconst (-1)) 1 133 := ⟨by decide +kernel, rfl⟩
theorem dX12_key_133 : q_at cX12_key 133 (.ireturn) 1 134 := ⟨by decide +kernel, rfl⟩
theorem dX12_knows_0 : q_at cX12_knows 0 (.aload_n 0) 1 1 := ⟨by decide +kernel, rfl⟩
theorem dX12_knows_1 : q_at cX12_knows 1 (.getfield 7) 3 4 := ⟨by decide +kernel, rfl⟩
theorem dX12_knows_4 : q_at cX12_knows 4 (.aload_n 0) 1 5 := ⟨by decide +kernel, rfl⟩
theorem dX12_knows_5 : q_at cX12_knows 5 (.iload_n 1) 1 6 := ⟨by decide +kernel, rfl⟩
theorem dX12_knows_6 : q_at cX12_knows 6 (.invokevirtual 68) 3 9 := ⟨by decide +kernel, rfl⟩
theorem dX12_knows_9 : q_at cX12_knows 9 (.bipush 12) 2 11 := ⟨by decide +kernel, rfl⟩
theorem dX12_knows_11 : q_at cX12_knows 11 (.iadd) 1 12 := ⟨by decide +kernel, rfl⟩
theorem dX12_knows_12 : q_at cX12_knows 12 (.iload_n 2) 1 13 := ⟨by decide +kernel, rfl⟩
theorem dX12_knows_13 : q_at cX12_knows 13 (.iadd) 1 14 := ⟨by decide +kernel, rfl⟩
theorem dX12_knows_14 : q_at cX12_knows 14 (.aload_n 0) 1 15 := ⟨by decide +kernel, rfl⟩
theorem dX12_knows_15 : q_at cX12_knows 15 (.getfield 7) 3 18 := ⟨by decide +kernel, rfl⟩
theorem dX12_knows_18 : q_at cX12_knows 18 (.aload_n 0) 1 19 := ⟨by decide +kernel, rfl⟩
theorem dX12_knows_19 : q_at cX12_knows 19 (.iload_n 2) 1 20 := ⟨by decide +kernel, rfl⟩
theorem dX12_knows_20 : q_at cX12_knows 20 (.invokevirtual 72) 3 23 := ⟨by decide +kernel, rfl⟩
theorem dX12_knows_23 : q_at cX12_knows 23 (.iconst 1) 1 24 := ⟨by decide +kernel, rfl⟩
theorem dX12_knows_24 : q_at cX12_knows 24 (.iadd) 1 25 := ⟨by decide +kernel, rfl⟩
theorem dX12_knows_25 : q_at cX12_knows 25 (.iaload) 1 26 := ⟨by decide +kernel, rfl⟩
theorem dX12_knows_26 : q_at cX12_knows 26 (.iastore) 1 27 := ⟨by decide +kernel, rfl⟩
theorem dX12_knows_27 : q_at cX12_knows 27 (.aload_n 0) 1 28 := ⟨by decide +kernel, rfl⟩
theorem dX12_knows_28 : q_at cX12_knows 28 (.getfield 7) 3 31 := ⟨by decide +kernel, rfl⟩
theorem dX12_knows_31 : q_at cX12_knows 31 (.aload_n 0) 1 32 := ⟨by decide +kernel, rfl⟩
theorem dX12_knows_32 : q_at cX12_knows 32 (.iload_n 1) 1 33 := ⟨by decide +kernel, rfl⟩
theorem dX12_knows_33 : q_at cX12_knows 33 (.invokevirtual 68) 3 36 := ⟨by decide +kernel, rfl⟩
theorem dX12_knows_36 : q_at cX12_knows 36 (.bipush 18) 2 38 := ⟨by decide +kernel, rfl⟩
theorem dX12_knows_38 : q_at cX12_knows 38 (.iadd) 1 39 := ⟨by decide +kernel, rfl⟩
theorem dX12_knows_39 : q_at cX12_knows 39 (.iload_n 2) 1 40 := ⟨by decide +kernel, rfl⟩
theorem dX12_knows_40 : q_at cX12_knows 40 (.iadd) 1 41 := ⟨by decide +kernel, rfl⟩
theorem dX12_knows_41 : q_at cX12_knows 41 (.aload_n 0) 1 42 := ⟨by decide +kernel, rfl⟩
theorem dX12_knows_42 : q_at cX12_knows 42 (.getfield 7) 3 45 := ⟨by decide +kernel, rfl⟩
theorem dX12_knows_45 : q_at cX12_knows 45 (.iconst 0) 1 46 := ⟨by decide +kernel, rfl⟩
theorem dX12_knows_46 : q_at cX12_knows 46 (.iaload) 1 47 := ⟨by decide +kernel, rfl⟩
theorem dX12_knows_47 : q_at cX12_knows 47 (.iastore) 1 48 := ⟨by decide +kernel, rfl⟩
theorem dX12_knows_48 : q_at cX12_knows 48 (.return_) 1 49 := ⟨by decide +kernel, rfl⟩
theorem dX12_lack_0 : q_at cX12_lack 0 (.aload_n 0) 1 1 := ⟨by decide +kernel, rfl⟩
theorem dX12_lack_1 : q_at cX12_lack 1 (.iload_n 1) 1 2 := ⟨by decide +kernel, rfl⟩
theorem dX12_lack_2 : q_at cX12_lack 2 (.invokevirtual 68) 3 5 := ⟨by decide +kernel, rfl⟩
theorem dX12_lack_5 : q_at cX12_lack 5 (.istore_n 2) 1 6 := ⟨by decide +kernel, rfl⟩
theorem dX12_lack_6 : q_at cX12_lack 6 (.aload_n 0) 1 7 := ⟨by decide +kernel, rfl⟩
theorem dX12_lack_7 : q_at cX12_lack 7 (.getfield 7) 3 10 := ⟨by decide +kernel, rfl⟩
theorem dX12_lack_10 : q_at cX12_lack 10 (.iload_n 2) 1 11 := ⟨by decide +kernel, rfl⟩
theorem dX12_lack_11 : q_at cX12_lack 11 (.iconst 3) 1 12 := ⟨by decide +kernel, rfl⟩
theorem dX12_lack_12 : q_at cX12_lack 12 (.iadd) 1 13 := ⟨by decide +kernel, rfl⟩
theorem dX12_lack_13 : q_at cX12_lack 13 (.iaload) 1 14 := ⟨by decide +kernel, rfl⟩
theorem dX12_lack_14 : q_at cX12_lack 14 (.aload_n 0) 1 15 := ⟨by decide +kernel, rfl⟩
theorem dX12_lack_15 : q_at cX12_lack 15 (.getfield 7) 3 18 := ⟨by decide +kernel, rfl⟩
theorem dX12_lack_18 : q_at cX12_lack 18 (.iload_n 2) 1 19 := ⟨by decide +kernel, rfl⟩
theorem dX12_lack_19 : q_at cX12_lack 19 (.iconst 2) 1 20 := ⟨by decide +kernel, rfl⟩
theorem dX12_lack_20 : q_at cX12_lack 20 (.iadd) 1 21 := ⟨by decide +kernel, rfl⟩
theorem dX12_lack_21 : q_at cX12_lack 21 (.iaload) 1 22 := ⟨by decide +kernel, rfl⟩
theorem dX12_lack_22 : q_at cX12_lack 22 (.if_icmp .ge 23) 3 25 := ⟨by decide +kernel, rfl⟩
theorem dX12_lack_25 : q_at cX12_lack 25 (.aload_n 0) 1 26 := ⟨by decide +kernel, rfl⟩
theorem dX12_lack_26 : q_at cX12_lack 26 (.getfield 7) 3 29 := ⟨by decide +kernel, rfl⟩
theorem dX12_lack_29 : q_at cX12_lack 29 (.iload_n 2) 1 30 := ⟨by decide +kernel, rfl⟩
theorem dX12_lack_30 : q_at cX12_lack 30 (.iconst 2) 1 31 := ⟨by decide +kernel, rfl⟩
theorem dX12_lack_31 : q_at cX12_lack 31 (.iadd) 1 32 := ⟨by decide +kernel, rfl⟩
theorem dX12_lack_32 : q_at cX12_lack 32 (.iaload) 1 33 := ⟨by decide +kernel, rfl⟩
theorem dX12_lack_33 : q_at cX12_lack 33 (.aload_n 0) 1 34 := ⟨by decide +kernel, rfl⟩
theorem dX12_lack_34 : q_at cX12_lack 34 (.getfield 7) 3 37 := ⟨by decide +kernel, rfl⟩
theorem dX12_lack_37 : q_at cX12_lack 37 (.iload_n 2) 1 38 := ⟨by decide +kernel, rfl⟩
theorem dX12_lack_38 : q_at cX12_lack 38 (.iconst 3) 1 39 := ⟨by decide +kernel, rfl⟩
theorem dX12_lack_39 : q_at cX12_lack 39 (.iadd) 1 40 := ⟨by decide +kernel, rfl⟩
theorem dX12_lack_40 : q_at cX12_lack 40 (.iaload) 1 41 := ⟨by decide +kernel, rfl⟩
theorem dX12_lack_41 : q_at cX12_lack 41 (.isub) 1 42 := ⟨by decide +kernel, rfl⟩
theorem dX12_lack_42 : q_at cX12_lack 42 (.goto 4) 3 45 := ⟨by decide +kernel, rfl⟩
theorem dX12_lack_45 : q_at cX12_lack 45 (.iconst 0) 1 46 := ⟨by decide +kernel, rfl⟩
theorem dX12_lack_46 : q_at cX12_lack 46 (.ireturn) 1 47 := ⟨by decide +kernel, rfl⟩
theorem dX12_newDue_0 : q_at cX12_newDue 0 (.aload_n 0) 1 1 := ⟨by decide +kernel, rfl⟩
theorem dX12_newDue_1 : q_at cX12_newDue 1 (.aload_n 0) 1 2 := ⟨by decide +kernel, rfl⟩
theorem dX12_newDue_2 : q_at cX12_newDue 2 (.getfield 7) 3 5 := ⟨by decide +kernel, rfl⟩
theorem dX12_newDue_5 : q_at cX12_newDue 5 (.iconst 3) 1 6 := ⟨by decide +kernel, rfl⟩
theorem dX12_newDue_6 : q_at cX12_newDue 6 (.iaload) 1 7 := ⟨by decide +kernel, rfl⟩
theorem dX12_newDue_7 : q_at cX12_newDue 7 (.invokevirtual 75) 3 10 := ⟨by decide +kernel, rfl⟩
theorem dX12_newDue_10 : q_at cX12_newDue 10 (.istore 5) 2 12 := ⟨by decide +kernel, rfl⟩
theorem dX12_newDue_12 : q_at cX12_newDue 12 (.aload_n 0) 1 13 := ⟨by decide +kernel, rfl⟩
theorem dX12_newDue_13 : q_at cX12_newDue 13 (.getfield 7) 3 16 := ⟨by decide +kernel, rfl⟩
theorem dX12_newDue_16 : q_at cX12_newDue 16 (.iload 5) 2 18 := ⟨by decide +kernel, rfl⟩
theorem dX12_newDue_18 : q_at cX12_newDue 18 (.iload_n 1) 1 19 := ⟨by decide +kernel, rfl⟩
theorem dX12_newDue_19 : q_at cX12_newDue 19 (.iastore) 1 20 := ⟨by decide +kernel, rfl⟩
theorem dX12_newDue_20 : q_at cX12_newDue 20 (.aload_n 0) 1 21 := ⟨by decide +kernel, rfl⟩
theorem dX12_newDue_21 : q_at cX12_newDue 21 (.getfield 7) 3 24 := ⟨by decide +kernel, rfl⟩
theorem dX12_newDue_24 : q_at cX12_newDue 24 (.iload 5) 2 26 := ⟨by decide +kernel, rfl⟩
theorem dX12_newDue_26 : q_at cX12_newDue 26 (.iconst 1) 1 27 := ⟨by decide +kernel, rfl⟩
theorem dX12_newDue_27 : q_at cX12_newDue 27 (.iadd) 1 28 := ⟨by decide +kernel, rfl⟩
theorem dX12_newDue_28 : q_at cX12_newDue 28 (.iload_n 2) 1 29 := ⟨by decide +kernel, rfl⟩
theorem dX12_newDue_29 : q_at cX12_newDue 29 (.iastore) 1 30 := ⟨by decide +kernel, rfl⟩
theorem dX12_newDue_30 : q_at cX12_newDue 30 (.aload_n 0) 1 31 := ⟨by decide +kernel, rfl⟩
theorem dX12_newDue_31 : q_at cX12_newDue 31 (.getfield 7) 3 34 := ⟨by decide +kernel, rfl⟩
theorem dX12_newDue_34 : q_at cX12_newDue 34 (.iload 5) 2 36 := ⟨by decide +kernel, rfl⟩
theorem dX12_newDue_36 : q_at cX12_newDue 36 (.iconst 2) 1 37 := ⟨by decide +kernel, rfl⟩
theorem dX12_newDue_37 : q_at cX12_newDue 37 (.iadd) 1 38 := ⟨by decide +kernel, rfl⟩
theorem dX12_newDue_38 : q_at cX12_newDue 38 (.iload_n 3) 1 39 := ⟨by decide +kernel, rfl⟩
theorem dX12_newDue_39 : q_at cX12_newDue 39 (.iastore) 1 40 := ⟨by decide +kernel, rfl⟩
theorem dX12_newDue_40 : q_at cX12_newDue 40 (.aload_n 0) 1 41 := ⟨by decide +kernel, rfl⟩
theorem dX12_newDue_41 : q_at cX12_newDue 41 (.getfield 7) 3 44 := ⟨by decide +kernel, rfl⟩
theorem dX12_newDue_44 : q_at cX12_newDue 44 (.iload 5) 2 46 := ⟨by decide +kernel, rfl⟩
theorem dX12_newDue_46 : q_at cX12_newDue 46 (.iconst 3) 1 47 := ⟨by decide +kernel, rfl⟩
theorem dX12_newDue_47 : q_at cX12_newDue 47 (.iadd) 1 48 := ⟨by decide +kernel, rfl⟩
theorem dX12_newDue_48 : q_at cX12_newDue 48 (.iload 4) 2 50 := ⟨by decide +kernel, rfl⟩
theorem dX12_newDue_50 : q_at cX12_newDue 50 (.iastore) 1 51 := ⟨by decide +kernel, rfl⟩
theorem dX12_newDue_51 : q_at cX12_newDue 51 (.aload_n 0) 1 52 := ⟨by decide +kernel, rfl⟩
theorem dX12_newDue_52 : q_at cX12_newDue 52 (.getfield 7) 3 55 := ⟨by decide +kernel, rfl⟩
theorem dX12_newDue_55 : q_at cX12_newDue 55 (.iload 5) 2 57 := ⟨by decide +kernel, rfl⟩
theorem dX12_newDue_57 : q_at cX12_newDue 57 (.iconst 4) 1 58 := ⟨by decide +kernel, rfl⟩
theorem dX12_newDue_58 : q_at cX12_newDue 58 (.iadd) 1 59 := ⟨by decide +kernel, rfl⟩
theorem dX12_newDue_59 : q_at cX12_newDue 59 (.aload_n 0) 1 60 := ⟨by decide +kernel, rfl⟩
theorem dX12_newDue_60 : q_at cX12_newDue 60 (.getfield 7) 3 63 := ⟨by decide +kernel, rfl⟩
theorem dX12_newDue_63 : q_at cX12_newDue 63 (.iconst 0) 1 64 := ⟨by decide +kernel, rfl⟩
theorem dX12_newDue_64 : q_at cX12_newDue 64 (.iaload) 1 65 := ⟨by decide +kernel, rfl⟩
theorem dX12_newDue_65 : q_at cX12_newDue 65 (.iastore) 1 66 := ⟨by decide +kernel, rfl⟩
theorem dX12_newDue_66 : q_at cX12_newDue 66 (.aload_n 0) 1 67 := ⟨by decide +kernel, rfl⟩
theorem dX12_newDue_67 : q_at cX12_newDue 67 (.getfield 7) 3 70 := ⟨by decide +kernel, rfl⟩
theorem dX12_newDue_70 : q_at cX12_newDue 70 (.iload 5) 2 72 := ⟨by decide +kernel, rfl⟩
theorem dX12_newDue_72 : q_at cX12_newDue 72 (.iconst 5) 1 73 := ⟨by decide +kernel, rfl⟩
theorem dX12_newDue_73 : q_at cX12_newDue 73 (.iadd) 1 74 := ⟨by decide +kernel, rfl⟩
theorem dX12_newDue_74 : q_at cX12_newDue 74 (.iconst 0) 1 75 := ⟨by decide +kernel, rfl⟩
theorem dX12_newDue_75 : q_at cX12_newDue 75 (.iastore) 1 76 := ⟨by decide +kernel, rfl⟩
theorem dX12_newDue_76 : q_at cX12_newDue 76 (.aload_n 0) 1 77 := ⟨by decide +kernel, rfl⟩
theorem dX12_newDue_77 : q_at cX12_newDue 77 (.getfield 7) 3 80 := ⟨by decide +kernel, rfl⟩
theorem dX12_newDue_80 : q_at cX12_newDue 80 (.iload 5) 2 82 := ⟨by decide +kernel, rfl⟩
theorem dX12_newDue_82 : q_at cX12_newDue 82 (.bipush 6) 2 84 := ⟨by decide +kernel, rfl⟩
theorem dX12_newDue_84 : q_at cX12_newDue 84 (.iadd) 1 85 := ⟨by decide +kernel, rfl⟩
theorem dX12_newDue_85 : q_at cX12_newDue 85 (.iconst (-1)) 1 86 := ⟨by decide +kernel, rfl⟩
theorem dX12_newDue_86 : q_at cX12_newDue 86 (.iastore) 1 87 := ⟨by decide +kernel, rfl⟩
theorem dX12_newDue_87 : q_at cX12_newDue 87 (.aload_n 0) 1 88 := ⟨by decide +kernel, rfl⟩
theorem dX12_newDue_88 : q_at cX12_newDue 88 (.getfield 7) 3 91 := ⟨by decide +kernel, rfl⟩
theorem dX12_newDue_91 : q_at cX12_newDue 91 (.iload 5) 2 93 := ⟨by decide +kernel, rfl⟩
theorem dX12_newDue_93 : q_at cX12_newDue 93 (.bipush 7) 2 95 := ⟨by decide +kernel, rfl⟩
theorem dX12_newDue_95 : q_at cX12_newDue 95 (.iadd) 1 96 := ⟨by decide +kernel, rfl⟩
theorem dX12_newDue_96 : q_at cX12_newDue 96 (.iconst 0) 1 97 := ⟨by decide +kernel, rfl⟩
theorem dX12_newDue_97 : q_at cX12_newDue 97 (.iastore) 1 98 := ⟨by decide +kernel, rfl⟩
theorem dX12_newDue_98 : q_at cX12_newDue 98 (.aload_n 0) 1 99 := ⟨by decide +kernel, rfl⟩
theorem dX12_newDue_99 : q_at cX12_newDue 99 (.getfield 7) 3 102 := ⟨by decide +kernel, rfl⟩
theorem dX12_newDue_102 : q_at cX12_newDue 102 (.iconst 3) 1 103 := ⟨by decide +kernel, rfl⟩
theorem dX12_newDue_103 : q_at cX12_newDue 103 (.dup2) 1 104 := ⟨by decide +kernel, rfl⟩
theorem dX12_newDue_104 : q_at cX12_newDue 104 (.iaload) 1 105 := ⟨by decide +kernel, rfl⟩
theorem dX12_newDue_105 : q_at cX12_newDue 105 (.iconst 1) 1 106 := ⟨by decide +kernel, rfl⟩
theorem dX12_newDue_106 : q_at cX12_newDue 106 (.iadd) 1 107 := ⟨by decide +kernel, rfl⟩
theorem dX12_newDue_107 : q_at cX12_newDue 107 (.iastore) 1 108 := ⟨by decide +kernel, rfl⟩
theorem dX12_newDue_108 : q_at cX12_newDue 108 (.aload_n 0) 1 109 := ⟨by decide +kernel, rfl⟩
theorem dX12_newDue_109 : q_at cX12_newDue 109 (.getfield 7) 3 112 := ⟨by decide +kernel, rfl⟩
theorem dX12_newDue_112 : q_at cX12_newDue 112 (.iconst 3) 1 113 := ⟨by decide +kernel, rfl⟩
theorem dX12_newDue_113 : q_at cX12_newDue 113 (.iaload) 1 114 := ⟨by decide +kernel, rfl⟩
theorem dX12_newDue_114 : q_at cX12_newDue 114 (.iconst 1) 1 115 := ⟨by decide +kernel, rfl⟩
theorem dX12_newDue_115 : q_at cX12_newDue 115 (.isub) 1 116 := ⟨by decide +kernel, rfl⟩
theorem dX12_newDue_116 : q_at cX12_newDue 116 (.ireturn) 1 117 := ⟨by decide +kernel, rfl⟩
theorem dX12_owedBy_0 : q_at cX12_owedBy 0 (.aload_n 0) 1 1 := ⟨by decide +kernel, rfl⟩
theorem dX12_owedBy_1 : q_at cX12_owedBy 1 (.getfield 7) 3 4 := ⟨by decide +kernel, rfl⟩
theorem dX12_owedBy_4 : q_at cX12_owedBy 4 (.aload_n 0) 1 5 := ⟨by decide +kernel, rfl⟩
theorem dX12_owedBy_5 : q_at cX12_owedBy 5 (.aload_n 0) 1 6 := ⟨by decide +kernel, rfl⟩
theorem dX12_owedBy_6 : q_at cX12_owedBy 6 (.getfield 7) 3 9 := ⟨by decide +kernel, rfl⟩
theorem dX12_owedBy_9 : q_at cX12_owedBy 9 (.aload_n 0) 1 10 := ⟨by decide +kernel, rfl⟩
theorem dX12_owedBy_10 : q_at cX12_owedBy 10 (.iload_n 1) 1 11 := ⟨by decide +kernel, rfl⟩
theorem dX12_owedBy_11 : q_at cX12_owedBy 11 (.invokevirtual 68) 3 14 := ⟨by decide +kernel, rfl⟩
theorem dX12_owedBy_14 : q_at cX12_owedBy 14 (.bipush 11) 2 16 := ⟨by decide +kernel, rfl⟩
theorem dX12_owedBy_16 : q_at cX12_owedBy 16 (.iadd) 1 17 := ⟨by decide +kernel, rfl⟩
theorem dX12_owedBy_17 : q_at cX12_owedBy 17 (.iaload) 1 18 := ⟨by decide +kernel, rfl⟩
theorem dX12_owedBy_18 : q_at cX12_owedBy 18 (.invokevirtual 75) 3 21 := ⟨by decide +kernel, rfl⟩
theorem dX12_owedBy_21 : q_at cX12_owedBy 21 (.iconst 2) 1 22 := ⟨by decide +kernel, rfl⟩
theorem dX12_owedBy_22 : q_at cX12_owedBy 22 (.iadd) 1 23 := ⟨by decide +kernel, rfl⟩
theorem dX12_owedBy_23 : q_at cX12_owedBy 23 (.iaload) 1 24 := ⟨by decide +kernel, rfl⟩
theorem dX12_owedBy_24 : q_at cX12_owedBy 24 (.ireturn) 1 25 := ⟨by decide +kernel, rfl⟩
theorem dX12_readBy_0 : q_at cX12_readBy 0 (.aload_n 0) 1 1 := ⟨by decide +kernel, rfl⟩
theorem dX12_readBy_1 : q_at cX12_readBy 1 (.getfield 19) 3 4 := ⟨by decide +kernel, rfl⟩
theorem dX12_readBy_4 : q_at cX12_readBy 4 (.iload_n 1) 1 5 := ⟨by decide +kernel, rfl⟩
theorem dX12_readBy_5 : q_at cX12_readBy 5 (.iaload) 1 6 := ⟨by decide +kernel, rfl⟩
theorem dX12_readBy_6 : q_at cX12_readBy 6 (.ifCond .lt 13) 3 9 := ⟨by decide +kernel, rfl⟩
theorem dX12_readBy_9 : q_at cX12_readBy 9 (.iload_n 2) 1 10 := ⟨by decide +kernel, rfl⟩
theorem dX12_readBy_10 : q_at cX12_readBy 10 (.aload_n 0) 1 11 := ⟨by decide +kernel, rfl⟩
theorem dX12_readBy_11 : q_at cX12_readBy 11 (.getfield 22) 3 14 := ⟨by decide +kernel, rfl⟩
theorem dX12_readBy_14 : q_at cX12_readBy 14 (.iload_n 1) 1 15 := ⟨by decide +kernel, rfl⟩
theorem dX12_readBy_15 : q_at cX12_readBy 15 (.iaload) 1 16 := ⟨by decide +kernel, rfl⟩
theorem dX12_readBy_16 : q_at cX12_readBy 16 (.if_icmp .lt 7) 3 19 := ⟨by decide +kernel, rfl⟩
theorem dX12_readBy_19 : q_at cX12_readBy 19 (.iconst (-1)) 1 20 := ⟨by decide +kernel, rfl⟩
theorem dX12_readBy_20 : q_at cX12_readBy 20 (.goto 4) 3 23 := ⟨by decide +kernel, rfl⟩
theorem dX12_readBy_23 : q_at cX12_readBy 23 (.iload_n 2) 1 24 := ⟨by decide +kernel, rfl⟩
theorem dX12_readBy_24 : q_at cX12_readBy 24 (.istore_n 3) 1 25 := ⟨by decide +kernel, rfl⟩
theorem dX12_readBy_25 : q_at cX12_readBy 25 (.iload_n 3) 1 26 := ⟨by decide +kernel, rfl⟩
theorem dX12_readBy_26 : q_at cX12_readBy 26 (.ifCond .lt 32) 3 29 := ⟨by decide +kernel, rfl⟩
theorem dX12_readBy_29 : q_at cX12_readBy 29 (.aload_n 0) 1 30 := ⟨by decide +kernel, rfl⟩
theorem dX12_readBy_30 : q_at cX12_readBy 30 (.getfield 25) 3 33 := ⟨by decide +kernel, rfl⟩
theorem dX12_readBy_33 : q_at cX12_readBy 33 (.bipush 30) 2 35 := ⟨by decide +kernel, rfl⟩
theorem dX12_readBy_35 : q_at cX12_readBy 35 (.iload_n 1) 1 36 := ⟨by decide +kernel, rfl⟩
theorem dX12_readBy_36 : q_at cX12_readBy 36 (.imul) 1 37 := ⟨by decide +kernel, rfl⟩
theorem dX12_readBy_37 : q_at cX12_readBy 37 (.iload_n 3) 1 38 := ⟨by decide +kernel, rfl⟩
theorem dX12_readBy_38 : q_at cX12_readBy 38 (.iadd) 1 39 := ⟨by decide +kernel, rfl⟩
theorem dX12_readBy_39 : q_at cX12_readBy 39 (.iaload) 1 40 := ⟨by decide +kernel, rfl⟩
theorem dX12_readBy_40 : q_at cX12_readBy 40 (.aload_n 0) 1 41 := ⟨by decide +kernel, rfl⟩
theorem dX12_readBy_41 : q_at cX12_readBy 41 (.getfield 19) 3 44 := ⟨by decide +kernel, rfl⟩
theorem dX12_readBy_44 : q_at cX12_readBy 44 (.iload_n 1) 1 45 := ⟨by decide +kernel, rfl⟩
theorem dX12_readBy_45 : q_at cX12_readBy 45 (.iaload) 1 46 := ⟨by decide +kernel, rfl⟩
theorem dX12_readBy_46 : q_at cX12_readBy 46 (.invokestatic 380) 3 49 := ⟨by decide +kernel, rfl⟩
theorem dX12_readBy_49 : q_at cX12_readBy 49 (.if_icmp .ne 9) 3 52 := ⟨by decide +kernel, rfl⟩
theorem dX12_readBy_52 : q_at cX12_readBy 52 (.iinc 3 (-1)) 3 55 := ⟨by decide +kernel, rfl⟩
theorem dX12_readBy_55 : q_at cX12_readBy 55 (.goto (-30)) 3 58 := ⟨by decide +kernel, rfl⟩
theorem dX12_readBy_58 : q_at cX12_readBy 58 (.iload_n 3) 1 59 := ⟨by decide +kernel, rfl⟩
theorem dX12_readBy_59 : q_at cX12_readBy 59 (.ireturn) 1 60 := ⟨by decide +kernel, rfl⟩
theorem dX12_rule_0 : q_at cX12_rule 0 (.iload_n 1) 1 1 := ⟨by decide +kernel, rfl⟩
theorem dX12_rule_1 : q_at cX12_rule 1 (.i2l) 1 2 := ⟨by decide +kernel, rfl⟩
theorem dX12_rule_2 : q_at cX12_rule 2 (.lconst 0) 1 3 := ⟨by decide +kernel, rfl⟩
theorem dX12_rule_3 : q_at cX12_rule 3 (.ldc2_w 125) 3 6 := ⟨by decide +kernel, rfl⟩
theorem dX12_rule_6 : q_at cX12_rule 6 (.invokestatic 64) 3 9 := ⟨by decide +kernel, rfl⟩
theorem dX12_rule_9 : q_at cX12_rule 9 (.ifCond .eq 38) 3 12 := ⟨by decide +kernel, rfl⟩
theorem dX12_rule_12 : q_at cX12_rule 12 (.iload_n 2) 1 13 := ⟨by decide +kernel, rfl⟩
theorem dX12_rule_13 : q_at cX12_rule 13 (.i2l) 1 14 := ⟨by decide +kernel, rfl⟩
theorem dX12_rule_14 : q_at cX12_rule 14 (.lconst 0) 1 15 := ⟨by decide +kernel, rfl⟩
theorem dX12_rule_15 : q_at cX12_rule 15 (.iload_n 1) 1 16 := ⟨by decide +kernel, rfl⟩
theorem dX12_rule_16 : q_at cX12_rule 16 (.iconst 1) 1 17 := ⟨by decide +kernel, rfl⟩
theorem dX12_rule_17 : q_at cX12_rule 17 (.if_icmp .ne 9) 3 20 := ⟨by decide +kernel, rfl⟩
theorem dX12_rule_20 : q_at cX12_rule 20 (.ldc2_w 96) 3 23 := ⟨by decide +kernel, rfl⟩
theorem dX12_rule_23 : q_at cX12_rule 23 (.goto 6) 3 26 := ⟨by decide +kernel, rfl⟩
theorem dX12_rule_26 : q_at cX12_rule 26 (.ldc2_w 127) 3 29 := ⟨by decide +kernel, rfl⟩
theorem dX12_rule_29 : q_at cX12_rule 29 (.invokestatic 64) 3 32 := ⟨by decide +kernel, rfl⟩
theorem dX12_rule_32 : q_at cX12_rule 32 (.ifCond .eq 15) 3 35 := ⟨by decide +kernel, rfl⟩
theorem dX12_rule_35 : q_at cX12_rule 35 (.aload_n 0) 1 36 := ⟨by decide +kernel, rfl⟩
theorem dX12_rule_36 : q_at cX12_rule 36 (.bipush 7) 2 38 := ⟨by decide +kernel, rfl⟩
theorem dX12_rule_38 : q_at cX12_rule 38 (.iload_n 1) 1 39 := ⟨by decide +kernel, rfl⟩
theorem dX12_rule_39 : q_at cX12_rule 39 (.iadd) 1 40 := ⟨by decide +kernel, rfl⟩
theorem dX12_rule_40 : q_at cX12_rule 40 (.iload_n 2) 1 41 := ⟨by decide +kernel, rfl⟩
theorem dX12_rule_41 : q_at cX12_rule 41 (.invokevirtual 86) 3 44 := ⟨by decide +kernel, rfl⟩
theorem dX12_rule_44 : q_at cX12_rule 44 (.goto 5) 3 47 := ⟨by decide +kernel, rfl⟩
theorem dX12_rule_47 : q_at cX12_rule 47 (.ldc 90) 2 49 := ⟨by decide +kernel, rfl⟩
theorem dX12_rule_49 : q_at cX12_rule 49 (.ireturn) 1 50 := ⟨by decide +kernel, rfl⟩
theorem dX12_shop_0 : q_at cX12_shop 0 (.iload_n 1) 1 1 := ⟨by decide +kernel, rfl⟩
theorem dX12_shop_1 : q_at cX12_shop 1 (.i2l) 1 2 := ⟨by decide +kernel, rfl⟩
theorem dX12_shop_2 : q_at cX12_shop 2 (.lconst 0) 1 3 := ⟨by decide +kernel, rfl⟩
theorem dX12_shop_3 : q_at cX12_shop 3 (.lconst 1) 1 4 := ⟨by decide +kernel, rfl⟩
theorem dX12_shop_4 : q_at cX12_shop 4 (.invokestatic 64) 3 7 := ⟨by decide +kernel, rfl⟩
theorem dX12_shop_7 : q_at cX12_shop 7 (.ifCond .eq 48) 3 10 := ⟨by decide +kernel, rfl⟩
theorem dX12_shop_10 : q_at cX12_shop 10 (.iload_n 2) 1 11 := ⟨by decide +kernel, rfl⟩
theorem dX12_shop_11 : q_at cX12_shop 11 (.i2l) 1 12 := ⟨by decide +kernel, rfl⟩
theorem dX12_shop_12 : q_at cX12_shop 12 (.lconst 1) 1 13 := ⟨by decide +kernel, rfl⟩
theorem dX12_shop_13 : q_at cX12_shop 13 (.ldc2_w 82) 3 16 := ⟨by decide +kernel, rfl⟩
theorem dX12_shop_16 : q_at cX12_shop 16 (.invokestatic 64) 3 19 := ⟨by decide +kernel, rfl⟩
theorem dX12_shop_19 : q_at cX12_shop 19 (.ifCond .eq 36) 3 22 := ⟨by decide +kernel, rfl⟩
theorem dX12_shop_22 : q_at cX12_shop 22 (.iload_n 3) 1 23 := ⟨by decide +kernel, rfl⟩
theorem dX12_shop_23 : q_at cX12_shop 23 (.i2l) 1 24 := ⟨by decide +kernel, rfl⟩
theorem dX12_shop_24 : q_at cX12_shop 24 (.lconst 0) 1 25 := ⟨by decide +kernel, rfl⟩
theorem dX12_shop_25 : q_at cX12_shop 25 (.ldc2_w 96) 3 28 := ⟨by decide +kernel, rfl⟩
theorem dX12_shop_28 : q_at cX12_shop 28 (.invokestatic 64) 3 31 := ⟨by decide +kernel, rfl⟩
theorem dX12_shop_31 : q_at cX12_shop 31 (.ifCond .eq 24) 3 34 := ⟨by decide +kernel, rfl⟩
theorem dX12_shop_34 : q_at cX12_shop 34 (.iload 4) 2 36 := ⟨by decide +kernel, rfl⟩
theorem dX12_shop_36 : q_at cX12_shop 36 (.i2l) 1 37 := ⟨by decide +kernel, rfl⟩
theorem dX12_shop_37 : q_at cX12_shop 37 (.lconst 0) 1 38 := ⟨by decide +kernel, rfl⟩
theorem dX12_shop_38 : q_at cX12_shop 38 (.iload_n 1) 1 39 := ⟨by decide +kernel, rfl⟩
theorem dX12_shop_39 : q_at cX12_shop 39 (.ifCond .ne 7) 3 42 := ⟨by decide +kernel, rfl⟩
theorem dX12_shop_42 : q_at cX12_shop 42 (.lconst 0) 1 43 := ⟨by decide +kernel, rfl⟩
theorem dX12_shop_43 : q_at cX12_shop 43 (.goto 6) 3 46 := ⟨by decide +kernel, rfl⟩
theorem dX12_shop_46 : q_at cX12_shop 46 (.ldc2_w 82) 3 49 := ⟨by decide +kernel, rfl⟩
theorem dX12_shop_49 : q_at cX12_shop 49 (.invokestatic 64) 3 52 := ⟨by decide +kernel, rfl⟩
theorem dX12_shop_52 : q_at cX12_shop 52 (.ifCond .ne 6) 3 55 := ⟨by decide +kernel, rfl⟩
theorem dX12_shop_55 : q_at cX12_shop 55 (.ldc 90) 2 57 := ⟨by decide +kernel, rfl⟩
theorem dX12_shop_57 : q_at cX12_shop 57 (.ireturn) 1 58 := ⟨by decide +kernel, rfl⟩
theorem dX12_shop_58 : q_at cX12_shop 58 (.aload_n 0) 1 59 := ⟨by decide +kernel, rfl⟩
theorem dX12_shop_59 : q_at cX12_shop 59 (.getfield 7) 3 62 := ⟨by decide +kernel, rfl⟩
theorem dX12_shop_62 : q_at cX12_shop 62 (.iconst 1) 1 63 := ⟨by decide +kernel, rfl⟩
theorem dX12_shop_63 : q_at cX12_shop 63 (.iaload) 1 64 := ⟨by decide +kernel, rfl⟩
theorem dX12_shop_64 : q_at cX12_shop 64 (.bipush 6) 2 66 := ⟨by decide +kernel, rfl⟩
theorem dX12_shop_66 : q_at cX12_shop 66 (.if_icmp .ne 6) 3 69 := ⟨by decide +kernel, rfl⟩
theorem dX12_shop_69 : q_at cX12_shop 69 (.ldc 98) 2 71 := ⟨by decide +kernel, rfl⟩
theorem dX12_shop_71 : q_at cX12_shop 71 (.ireturn) 1 72 := ⟨by decide +kernel, rfl⟩
theorem dX12_shop_72 : q_at cX12_shop 72 (.aload_n 0) 1 73 := ⟨by decide +kernel, rfl⟩
theorem dX12_shop_73 : q_at cX12_shop 73 (.aload_n 0) 1 74 := ⟨by decide +kernel, rfl⟩
theorem dX12_shop_74 : q_at cX12_shop 74 (.getfield 7) 3 77 := ⟨by decide +kernel, rfl⟩
theorem dX12_shop_77 : q_at cX12_shop 77 (.iconst 1) 1 78 := ⟨by decide +kernel, rfl⟩
theorem dX12_shop_78 : q_at cX12_shop 78 (.iaload) 1 79 := ⟨by decide +kernel, rfl⟩
theorem dX12_shop_79 : q_at cX12_shop 79 (.invokevirtual 72) 3 82 := ⟨by decide +kernel, rfl⟩
theorem dX12_shop_82 : q_at cX12_shop 82 (.istore 5) 2 84 := ⟨by decide +kernel, rfl⟩
theorem dX12_shop_84 : q_at cX12_shop 84 (.aload_n 0) 1 85 := ⟨by decide +kernel, rfl⟩
theorem dX12_shop_85 : q_at cX12_shop 85 (.getfield 7) 3 88 := ⟨by decide +kernel, rfl⟩
theorem dX12_shop_88 : q_at cX12_shop 88 (.iload 5) 2 90 := ⟨by decide +kernel, rfl⟩
theorem dX12_shop_90 : q_at cX12_shop 90 (.iload_n 1) 1 91 := ⟨by decide +kernel, rfl⟩
theorem dX12_shop_91 : q_at cX12_shop 91 (.iastore) 1 92 := ⟨by decide +kernel, rfl⟩
theorem dX12_shop_92 : q_at cX12_shop 92 (.aload_n 0) 1 93 := ⟨by decide +kernel, rfl⟩
theorem dX12_shop_93 : q_at cX12_shop 93 (.getfield 7) 3 96 := ⟨by decide +kernel, rfl⟩
theorem dX12_shop_96 : q_at cX12_shop 96 (.iload 5) 2 98 := ⟨by decide +kernel, rfl⟩
theorem dX12_shop_98 : q_at cX12_shop 98 (.iconst 1) 1 99 := ⟨by decide +kernel, rfl⟩
theorem dX12_shop_99 : q_at cX12_shop 99 (.iadd) 1 100 := ⟨by decide +kernel, rfl⟩
theorem dX12_shop_100 : q_at cX12_shop 100 (.iload_n 2) 1 101 := ⟨by decide +kernel, rfl⟩
theorem dX12_shop_101 : q_at cX12_shop 101 (.iastore) 1 102 := ⟨by decide +kernel, rfl⟩
theorem dX12_shop_102 : q_at cX12_shop 102 (.aload_n 0) 1 103 := ⟨by decide +kernel, rfl⟩
theorem dX12_shop_103 : q_at cX12_shop 103 (.getfield 7) 3 106 := ⟨by decide +kernel, rfl⟩
theorem dX12_shop_106 : q_at cX12_shop 106 (.iload 5) 2 108 := ⟨by decide +kernel, rfl⟩
theorem dX12_shop_108 : q_at cX12_shop 108 (.iconst 2) 1 109 := ⟨by decide +kernel, rfl⟩
theorem dX12_shop_109 : q_at cX12_shop 109 (.iadd) 1 110 := ⟨by decide +kernel, rfl⟩
theorem dX12_shop_110 : q_at cX12_shop 110 (.iload_n 3) 1 111 := ⟨by decide +kernel, rfl⟩
theorem dX12_shop_111 : q_at cX12_shop 111 (.iastore) 1 112 := ⟨by decide +kernel, rfl⟩
theorem dX12_shop_112 : q_at cX12_shop 112 (.aload_n 0) 1 113 := ⟨by decide +kernel, rfl⟩
theorem dX12_shop_113 : q_at cX12_shop 113 (.getfield 7) 3 116 := ⟨by decide +kernel, rfl⟩
theorem dX12_shop_116 : q_at cX12_shop 116 (.iload 5) 2 118 := ⟨by decide +kernel, rfl⟩
theorem dX12_shop_118 : q_at cX12_shop 118 (.iconst 3) 1 119 := ⟨by decide +kernel, rfl⟩
theorem dX12_shop_119 : q_at cX12_shop 119 (.iadd) 1 120 := ⟨by decide +kernel, rfl⟩
theorem dX12_shop_120 : q_at cX12_shop 120 (.iload 4) 2 122 := ⟨by decide +kernel, rfl⟩
theorem dX12_shop_122 : q_at cX12_shop 122 (.iastore) 1 123 := ⟨by decide +kernel, rfl⟩
theorem dX12_shop_123 : q_at cX12_shop 123 (.aload_n 0) 1 124 := ⟨by decide +kernel, rfl⟩
theorem dX12_shop_124 : q_at cX12_shop 124 (.getfield 7) 3 127 := ⟨by decide +kernel, rfl⟩
theorem dX12_shop_127 : q_at cX12_shop 127 (.iconst 1) 1 128 := ⟨by decide +kernel, rfl⟩
theorem dX12_shop_128 : q_at cX12_shop 128 (.dup2) 1 129 := ⟨by decide +kernel, rfl⟩
theorem dX12_shop_129 : q_at cX12_shop 129 (.iaload) 1 130 := ⟨by decide +kernel, rfl⟩
theorem dX12_shop_130 : q_at cX12_shop 130 (.iconst 1) 1 131 := ⟨by decide +kernel, rfl⟩
theorem dX12_shop_131 : q_at cX12_shop 131 (.iadd) 1 132 := ⟨by decide +kernel, rfl⟩
theorem dX12_shop_132 : q_at cX12_shop 132 (.iastore) 1 133 := ⟨by decide +kernel, rfl⟩
theorem dX12_shop_133 : q_at cX12_shop 133 (.aload_n 0) 1 134 := ⟨by decide +kernel, rfl⟩
theorem dX12_shop_134 : q_at cX12_shop 134 (.getfield 7) 3 137 := ⟨by decide +kernel, rfl⟩
theorem dX12_shop_137 : q_at cX12_shop 137 (.iconst 1) 1 138 := ⟨by decide +kernel, rfl⟩
theorem dX12_shop_138 : q_at cX12_shop 138 (.iaload) 1 139 := ⟨by decide +kernel, rfl⟩
theorem dX12_shop_139 : q_at cX12_shop 139 (.iconst 1) 1 140 := ⟨by decide +kernel, rfl⟩
theorem dX12_shop_140 : q_at cX12_shop 140 (.isub) 1 141 := ⟨by decide +kernel, rfl⟩
theorem dX12_shop_141 : q_at cX12_shop 141 (.ireturn) 1 142 := ⟨by decide +kernel, rfl⟩
theorem dX12_trim_0 : q_at cX12_trim 0 (.iload_n 1) 1 1 := ⟨by decide +kernel, rfl⟩
theorem dX12_trim_1 : q_at cX12_trim 1 (.i2l) 1 2 := ⟨by decide +kernel, rfl⟩
theorem dX12_trim_2 : q_at cX12_trim 2 (.lconst 0) 1 3 := ⟨by decide +kernel, rfl⟩
theorem dX12_trim_3 : q_at cX12_trim 3 (.aload_n 0) 1 4 := ⟨by decide +kernel, rfl⟩
theorem dX12_trim_4 : q_at cX12_trim 4 (.getfield 215) 3 7 := ⟨by decide +kernel, rfl⟩
theorem dX12_trim_7 : q_at cX12_trim 7 (.i2l) 1 8 := ⟨by decide +kernel, rfl⟩
theorem dX12_trim_8 : q_at cX12_trim 8 (.invokestatic 64) 3 11 := ⟨by decide +kernel, rfl⟩
theorem dX12_trim_11 : q_at cX12_trim 11 (.ifCond .ne 6) 3 14 := ⟨by decide +kernel, rfl⟩
theorem dX12_trim_14 : q_at cX12_trim 14 (.ldc 90) 2 16 := ⟨by decide +kernel, rfl⟩
theorem dX12_trim_16 : q_at cX12_trim 16 (.ireturn) 1 17 := ⟨by decide +kernel, rfl⟩
theorem dX12_trim_17 : q_at cX12_trim 17 (.aload_n 0) 1 18 := ⟨by decide +kernel, rfl⟩
theorem dX12_trim_18 : q_at cX12_trim 18 (.iload_n 1) 1 19 := ⟨by decide +kernel, rfl⟩
theorem dX12_trim_19 : q_at cX12_trim 19 (.putfield 215) 3 22 := ⟨by decide +kernel, rfl⟩
theorem dX12_trim_22 : q_at cX12_trim 22 (.iload_n 1) 1 23 := ⟨by decide +kernel, rfl⟩
theorem dX12_trim_23 : q_at cX12_trim 23 (.ireturn) 1 24 := ⟨by decide +kernel, rfl⟩
theorem dX12_worked_0 : q_at cX12_worked 0 (.iconst 0) 1 1 := ⟨by decide +kernel, rfl⟩
theorem dX12_worked_1 : q_at cX12_worked 1 (.istore_n 2) 1 2 := ⟨by decide +kernel, rfl⟩
theorem dX12_worked_2 : q_at cX12_worked 2 (.iconst 0) 1 3 := ⟨by decide +kernel, rfl⟩
theorem dX12_worked_3 : q_at cX12_worked 3 (.istore_n 3) 1 4 := ⟨by decide +kernel, rfl⟩
theorem dX12_worked_4 : q_at cX12_worked 4 (.iload_n 3) 1 5 := ⟨by decide +kernel, rfl⟩
theorem dX12_worked_5 : q_at cX12_worked 5 (.aload_n 0) 1 6 := ⟨by decide +kernel, rfl⟩
theorem dX12_worked_6 : q_at cX12_worked 6 (.getfield 7) 3 9 := ⟨by decide +kernel, rfl⟩
theorem dX12_worked_9 : q_at cX12_worked 9 (.aload_n 0) 1 10 := ⟨by decide +kernel, rfl⟩
theorem dX12_worked_10 : q_at cX12_worked 10 (.iload_n 1) 1 11 := ⟨by decide +kernel, rfl⟩
theorem dX12_worked_11 : q_at cX12_worked 11 (.invokevirtual 297) 3 14 := ⟨by decide +kernel, rfl⟩
theorem dX12_worked_14 : q_at cX12_worked 14 (.iconst 3) 1 15 := ⟨by decide +kernel, rfl⟩
theorem dX12_worked_15 : q_at cX12_worked 15 (.iadd) 1 16 := ⟨by decide +kernel, rfl⟩
theorem dX12_worked_16 : q_at cX12_worked 16 (.iaload) 1 17 := ⟨by decide +kernel, rfl⟩
theorem dX12_worked_17 : q_at cX12_worked 17 (.if_icmp .ge 146) 3 20 := ⟨by decide +kernel, rfl⟩
theorem dX12_worked_20 : q_at cX12_worked 20 (.aload_n 0) 1 21 := ⟨by decide +kernel, rfl⟩
theorem dX12_worked_21 : q_at cX12_worked 21 (.getfield 7) 3 24 := ⟨by decide +kernel, rfl⟩
theorem dX12_worked_24 : q_at cX12_worked 24 (.aload_n 0) 1 25 := ⟨by decide +kernel, rfl⟩
theorem dX12_worked_25 : q_at cX12_worked 25 (.iload_n 1) 1 26 := ⟨by decide +kernel, rfl⟩
theorem dX12_worked_26 : q_at cX12_worked 26 (.invokevirtual 297) 3 29 := ⟨by decide +kernel, rfl⟩
theorem dX12_worked_29 : q_at cX12_worked 29 (.iconst 4) 1 30 := ⟨by decide +kernel, rfl⟩
theorem dX12_worked_30 : q_at cX12_worked 30 (.iadd) 1 31 := ⟨by decide +kernel, rfl⟩
theorem dX12_worked_31 : q_at cX12_worked 31 (.iconst 2) 1 32 := ⟨by decide +kernel, rfl⟩
theorem dX12_worked_32 : q_at cX12_worked 32 (.iload_n 3) 1 33 := ⟨by decide +kernel, rfl⟩
theorem dX12_worked_33 : q_at cX12_worked 33 (.imul) 1 34 := ⟨by decide +kernel, rfl⟩
theorem dX12_worked_34 : q_at cX12_worked 34 (.iadd) 1 35 := ⟨by decide +kernel, rfl⟩
theorem dX12_worked_35 : q_at cX12_worked 35 (.iaload) 1 36 := ⟨by decide +kernel, rfl⟩
theorem dX12_worked_36 : q_at cX12_worked 36 (.istore 4) 2 38 := ⟨by decide +kernel, rfl⟩
theorem dX12_worked_38 : q_at cX12_worked 38 (.aload_n 0) 1 39 := ⟨by decide +kernel, rfl⟩
theorem dX12_worked_39 : q_at cX12_worked 39 (.getfield 7) 3 42 := ⟨by decide +kernel, rfl⟩
theorem dX12_worked_42 : q_at cX12_worked 42 (.aload_n 0) 1 43 := ⟨by decide +kernel, rfl⟩
theorem dX12_worked_43 : q_at cX12_worked 43 (.iload_n 1) 1 44 := ⟨by decide +kernel, rfl⟩
theorem dX12_worked_44 : q_at cX12_worked 44 (.invokevirtual 297) 3 47 := ⟨by decide +kernel, rfl⟩
theorem dX12_worked_47 : q_at cX12_worked 47 (.iconst 4) 1 48 := ⟨by decide +kernel, rfl⟩
theorem dX12_worked_48 : q_at cX12_worked 48 (.iadd) 1 49 := ⟨by decide +kernel, rfl⟩
theorem dX12_worked_49 : q_at cX12_worked 49 (.iconst 2) 1 50 := ⟨by decide +kernel, rfl⟩
theorem dX12_worked_50 : q_at cX12_worked 50 (.iload_n 3) 1 51 := ⟨by decide +kernel, rfl⟩
theorem dX12_worked_51 : q_at cX12_worked 51 (.imul) 1 52 := ⟨by decide +kernel, rfl⟩
theorem dX12_worked_52 : q_at cX12_worked 52 (.iadd) 1 53 := ⟨by decide +kernel, rfl⟩
theorem dX12_worked_53 : q_at cX12_worked 53 (.iconst 1) 1 54 := ⟨by decide +kernel, rfl⟩
theorem dX12_worked_54 : q_at cX12_worked 54 (.iadd) 1 55 := ⟨by decide +kernel, rfl⟩
theorem dX12_worked_55 : q_at cX12_worked 55 (.iaload) 1 56 := ⟨by decide +kernel, rfl⟩
theorem dX12_worked_56 : q_at cX12_worked 56 (.istore 5) 2 58 := ⟨by decide +kernel, rfl⟩
theorem dX12_worked_58 : q_at cX12_worked 58 (.iload 4) 2 60 := ⟨by decide +kernel, rfl⟩
theorem dX12_worked_60 : q_at cX12_worked 60 (.iconst 2) 1 61 := ⟨by decide +kernel, rfl⟩
theorem dX12_worked_61 : q_at cX12_worked 61 (.if_icmp .eq 32) 3 64 := ⟨by decide +kernel, rfl⟩
theorem dX12_worked_64 : q_at cX12_worked 64 (.aload_n 0) 1 65 := ⟨by decide +kernel, rfl⟩
theorem dX12_worked_65 : q_at cX12_worked 65 (.getfield 34) 3 68 := ⟨by decide +kernel, rfl⟩
theorem dX12_worked_68 : q_at cX12_worked 68 (.iload_n 2) 1 69 := ⟨by decide +kernel, rfl⟩
theorem dX12_worked_69 : q_at cX12_worked 69 (.iload 4) 2 71 := ⟨by decide +kernel, rfl⟩
theorem dX12_worked_71 : q_at cX12_worked 71 (.ifCond .ne 8) 3 74 := ⟨by decide +kernel, rfl⟩
theorem dX12_worked_74 : q_at cX12_worked 74 (.iload 5) 2 76 := ⟨by decide +kernel, rfl⟩
theorem dX12_worked_76 : q_at cX12_worked 76 (.goto 10) 3 79 := ⟨by decide +kernel, rfl⟩
theorem dX12_worked_79 : q_at cX12_worked 79 (.aload_n 0) 1 80 := ⟨by decide +kernel, rfl⟩
theorem dX12_worked_80 : q_at cX12_worked 80 (.getfield 31) 3 83 := ⟨by decide +kernel, rfl⟩
theorem dX12_worked_83 : q_at cX12_worked 83 (.iload 5) 2 85 := ⟨by decide +kernel, rfl⟩
theorem dX12_worked_85 : q_at cX12_worked 85 (.iaload) 1 86 := ⟨by decide +kernel, rfl⟩
theorem dX12_worked_86 : q_at cX12_worked 86 (.iastore) 1 87 := ⟨by decide +kernel, rfl⟩
theorem dX12_worked_87 : q_at cX12_worked 87 (.iinc 2 1) 3 90 := ⟨by decide +kernel, rfl⟩
theorem dX12_worked_90 : q_at cX12_worked 90 (.goto 67) 3 93 := ⟨by decide +kernel, rfl⟩
theorem dX12_worked_93 : q_at cX12_worked 93 (.iload 5) 2 95 := ⟨by decide +kernel, rfl⟩
theorem dX12_worked_95 : q_at cX12_worked 95 (.bipush 33) 2 97 := ⟨by decide +kernel, rfl⟩
theorem dX12_worked_97 : q_at cX12_worked 97 (.if_icmp .ne 30) 3 100 := ⟨by decide +kernel, rfl⟩
theorem dX12_worked_100 : q_at cX12_worked 100 (.aload_n 0) 1 101 := ⟨by decide +kernel, rfl⟩
theorem dX12_worked_101 : q_at cX12_worked 101 (.getfield 34) 3 104 := ⟨by decide +kernel, rfl⟩
theorem dX12_worked_104 : q_at cX12_worked 104 (.iload_n 2) 1 105 := ⟨by decide +kernel, rfl⟩
theorem dX12_worked_105 : q_at cX12_worked 105 (.iconst 1) 1 106 := ⟨by decide +kernel, rfl⟩
theorem dX12_worked_106 : q_at cX12_worked 106 (.isub) 1 107 := ⟨by decide +kernel, rfl⟩
theorem dX12_worked_107 : q_at cX12_worked 107 (.aload_n 0) 1 108 := ⟨by decide +kernel, rfl⟩
theorem dX12_worked_108 : q_at cX12_worked 108 (.getfield 34) 3 111 := ⟨by decide +kernel, rfl⟩
theorem dX12_worked_111 : q_at cX12_worked 111 (.iload_n 2) 1 112 := ⟨by decide +kernel, rfl⟩
theorem dX12_worked_112 : q_at cX12_worked 112 (.iconst 1) 1 113 := ⟨by decide +kernel, rfl⟩
theorem dX12_worked_113 : q_at cX12_worked 113 (.isub) 1 114 := ⟨by decide +kernel, rfl⟩
theorem dX12_worked_114 : q_at cX12_worked 114 (.iaload) 1 115 := ⟨by decide +kernel, rfl⟩
theorem dX12_worked_115 : q_at cX12_worked 115 (.ifCond .ne 7) 3 118 := ⟨by decide +kernel, rfl⟩
theorem dX12_worked_118 : q_at cX12_worked 118 (.iconst 1) 1 119 := ⟨by decide +kernel, rfl⟩
theorem dX12_worked_119 : q_at cX12_worked 119 (.goto 4) 3 122 := ⟨by decide +kernel, rfl⟩
theorem dX12_worked_122 : q_at cX12_worked 122 (.iconst 0) 1 123 := ⟨by decide +kernel, rfl⟩
theorem dX12_worked_123 : q_at cX12_worked 123 (.iastore) 1 124 := ⟨by decide +kernel, rfl⟩
theorem dX12_worked_124 : q_at cX12_worked 124 (.goto 33) 3 127 := ⟨by decide +kernel, rfl⟩
theorem dX12_worked_127 : q_at cX12_worked 127 (.iinc 2 (-1)) 3 130 := ⟨by decide +kernel, rfl⟩
theorem dX12_worked_130 : q_at cX12_worked 130 (.aload_n 0) 1 131 := ⟨by decide +kernel, rfl⟩
theorem dX12_worked_131 : q_at cX12_worked 131 (.getfield 34) 3 134 := ⟨by decide +kernel, rfl⟩
theorem dX12_worked_134 : q_at cX12_worked 134 (.iload_n 2) 1 135 := ⟨by decide +kernel, rfl⟩
theorem dX12_worked_135 : q_at cX12_worked 135 (.iconst 1) 1 136 := ⟨by decide +kernel, rfl⟩
theorem dX12_worked_136 : q_at cX12_worked 136 (.isub) 1 137 := ⟨by decide +kernel, rfl⟩
theorem dX12_worked_137 : q_at cX12_worked 137 (.iload 5) 2 139 := ⟨by decide +kernel, rfl⟩
theorem dX12_worked_139 : q_at cX12_worked 139 (.aload_n 0) 1 140 := ⟨by decide +kernel, rfl⟩
theorem dX12_worked_140 : q_at cX12_worked 140 (.getfield 34) 3 143 := ⟨by decide +kernel, rfl⟩
theorem dX12_worked_143 : q_at cX12_worked 143 (.iload_n 2) 1 144 := ⟨by decide +kernel, rfl⟩
theorem dX12_worked_144 : q_at cX12_worked 144 (.iconst 1) 1 145 := ⟨by decide +kernel, rfl⟩
theorem dX12_worked_145 : q_at cX12_worked 145 (.isub) 1 146 := ⟨by decide +kernel, rfl⟩
theorem dX12_worked_146 : q_at cX12_worked 146 (.iaload) 1 147 := ⟨by decide +kernel, rfl⟩
theorem dX12_worked_147 : q_at cX12_worked 147 (.aload_n 0) 1 148 := ⟨by decide +kernel, rfl⟩
theorem dX12_worked_148 : q_at cX12_worked 148 (.getfield 34) 3 151 := ⟨by decide +kernel, rfl⟩
theorem dX12_worked_151 : q_at cX12_worked 151 (.iload_n 2) 1 152 := ⟨by decide +kernel, rfl⟩
theorem dX12_worked_152 : q_at cX12_worked 152 (.iaload) 1 153 := ⟨by decide +kernel, rfl⟩
theorem dX12_worked_153 : q_at cX12_worked 153 (.invokestatic 319) 3 156 := ⟨by decide +kernel, rfl⟩
theorem dX12_worked_156 : q_at cX12_worked 156 (.iastore) 1 157 := ⟨by decide +kernel, rfl⟩
theorem dX12_worked_157 : q_at cX12_worked 157 (.iinc 3 1) 3 160 := ⟨by decide +kernel, rfl⟩
theorem dX12_worked_160 : q_at cX12_worked 160 (.goto (-156)) 3 163 := ⟨by decide +kernel, rfl⟩
theorem dX12_worked_163 : q_at cX12_worked 163 (.aload_n 0) 1 164 := ⟨by decide +kernel, rfl⟩
theorem dX12_worked_164 : q_at cX12_worked 164 (.getfield 34) 3 167 := ⟨by decide +kernel, rfl⟩
theorem dX12_worked_167 : q_at cX12_worked 167 (.iconst 0) 1 168 := ⟨by decide +kernel, rfl⟩
theorem dX12_worked_168 : q_at cX12_worked 168 (.iaload) 1 169 := ⟨by decide +kernel, rfl⟩
theorem dX12_worked_169 : q_at cX12_worked 169 (.ireturn) 1 170 := ⟨by decide +kernel, rfl⟩
theorem dX12_actBy_0 : q_at cX12_actBy 0 (.aload_n 0) 1 1 := ⟨by decide +kernel, rfl⟩
theorem dX12_actBy_1 : q_at cX12_actBy 1 (.getfield 31) 3 4 := ⟨by decide +kernel, rfl⟩
theorem dX12_actBy_4 : q_at cX12_actBy 4 (.bipush 109) 2 6 := ⟨by decide +kernel, rfl⟩
theorem dX12_actBy_6 : q_at cX12_actBy 6 (.iload_n 2) 1 7 := ⟨by decide +kernel, rfl⟩
theorem dX12_actBy_7 : q_at cX12_actBy 7 (.iastore) 1 8 := ⟨by decide +kernel, rfl⟩
theorem dX12_actBy_8 : q_at cX12_actBy 8 (.aload_n 0) 1 9 := ⟨by decide +kernel, rfl⟩
theorem dX12_actBy_9 : q_at cX12_actBy 9 (.getfield 31) 3 12 := ⟨by decide +kernel, rfl⟩
theorem dX12_actBy_12 : q_at cX12_actBy 12 (.bipush 112) 2 14 := ⟨by decide +kernel, rfl⟩
theorem dX12_actBy_14 : q_at cX12_actBy 14 (.iload_n 3) 1 15 := ⟨by decide +kernel, rfl⟩
theorem dX12_actBy_15 : q_at cX12_actBy 15 (.iastore) 1 16 := ⟨by decide +kernel, rfl⟩
theorem dX12_actBy_16 : q_at cX12_actBy 16 (.aload_n 0) 1 17 := ⟨by decide +kernel, rfl⟩
theorem dX12_actBy_17 : q_at cX12_actBy 17 (.getfield 31) 3 20 := ⟨by decide +kernel, rfl⟩
theorem dX12_actBy_20 : q_at cX12_actBy 20 (.bipush 116) 2 22 := ⟨by decide +kernel, rfl⟩
theorem dX12_actBy_22 : q_at cX12_actBy 22 (.iload 4) 2 24 := ⟨by decide +kernel, rfl⟩
theorem dX12_actBy_24 : q_at cX12_actBy 24 (.iastore) 1 25 := ⟨by decide +kernel, rfl⟩
theorem dX12_actBy_25 : q_at cX12_actBy 25 (.iload_n 1) 1 26 := ⟨by decide +kernel, rfl⟩
theorem dX12_actBy_26 : q_at cX12_actBy 26 (.ifCond .ge 7) 3 29 := ⟨by decide +kernel, rfl⟩
theorem dX12_actBy_29 : q_at cX12_actBy 29 (.iconst 0) 1 30 := ⟨by decide +kernel, rfl⟩
theorem dX12_actBy_30 : q_at cX12_actBy 30 (.goto 8) 3 33 := ⟨by decide +kernel, rfl⟩
theorem dX12_actBy_33 : q_at cX12_actBy 33 (.aload_n 0) 1 34 := ⟨by decide +kernel, rfl⟩
theorem dX12_actBy_34 : q_at cX12_actBy 34 (.iload_n 1) 1 35 := ⟨by decide +kernel, rfl⟩
theorem dX12_actBy_35 : q_at cX12_actBy 35 (.invokevirtual 322) 3 38 := ⟨by decide +kernel, rfl⟩
theorem dX12_actBy_38 : q_at cX12_actBy 38 (.ireturn) 1 39 := ⟨by decide +kernel, rfl⟩
theorem dX12_all_0 : q_at cX12_all 0 (.iload_n 1) 1 1 := ⟨by decide +kernel, rfl⟩
theorem dX12_all_1 : q_at cX12_all 1 (.ifCond .lt 13) 3 4 := ⟨by decide +kernel, rfl⟩
theorem dX12_all_4 : q_at cX12_all 4 (.iload_n 2) 1 5 := ⟨by decide +kernel, rfl⟩
theorem dX12_all_5 : q_at cX12_all 5 (.i2l) 1 6 := ⟨by decide +kernel, rfl⟩
theorem dX12_all_6 : q_at cX12_all 6 (.lconst 0) 1 7 := ⟨by decide +kernel, rfl⟩
theorem dX12_all_7 : q_at cX12_all 7 (.lconst 1) 1 8 := ⟨by decide +kernel, rfl⟩
theorem dX12_all_8 : q_at cX12_all 8 (.invokestatic 64) 3 11 := ⟨by decide +kernel, rfl⟩
theorem dX12_all_11 : q_at cX12_all 11 (.ifCond .ne 6) 3 14 := ⟨by decide +kernel, rfl⟩
theorem dX12_all_14 : q_at cX12_all 14 (.ldc 90) 2 16 := ⟨by decide +kernel, rfl⟩
theorem dX12_all_16 : q_at cX12_all 16 (.ireturn) 1 17 := ⟨by decide +kernel, rfl⟩
theorem dX12_all_17 : q_at cX12_all 17 (.iconst 0) 1 18 := ⟨by decide +kernel, rfl⟩
theorem dX12_all_18 : q_at cX12_all 18 (.istore_n 3) 1 19 := ⟨by decide +kernel, rfl⟩
theorem dX12_all_19 : q_at cX12_all 19 (.iconst 0) 1 20 := ⟨by decide +kernel, rfl⟩
theorem dX12_all_20 : q_at cX12_all 20 (.istore 4) 2 22 := ⟨by decide +kernel, rfl⟩
theorem dX12_all_22 : q_at cX12_all 22 (.iconst 0) 1 23 := ⟨by decide +kernel, rfl⟩
theorem dX12_all_23 : q_at cX12_all 23 (.istore 5) 2 25 := ⟨by decide +kernel, rfl⟩
theorem dX12_all_25 : q_at cX12_all 25 (.iload 5) 2 27 := ⟨by decide +kernel, rfl⟩
theorem dX12_all_27 : q_at cX12_all 27 (.bipush 8) 2 29 := ⟨by decide +kernel, rfl⟩
theorem dX12_all_29 : q_at cX12_all 29 (.if_icmp .ge 58) 3 32 := ⟨by decide +kernel, rfl⟩
theorem dX12_all_32 : q_at cX12_all 32 (.aload_n 0) 1 33 := ⟨by decide +kernel, rfl⟩
theorem dX12_all_33 : q_at cX12_all 33 (.iload 5) 2 35 := ⟨by decide +kernel, rfl⟩
theorem dX12_all_35 : q_at cX12_all 35 (.iload_n 1) 1 36 := ⟨by decide +kernel, rfl⟩
theorem dX12_all_36 : q_at cX12_all 36 (.invokevirtual 383) 3 39 := ⟨by decide +kernel, rfl⟩
theorem dX12_all_39 : q_at cX12_all 39 (.istore 6) 2 41 := ⟨by decide +kernel, rfl⟩
theorem dX12_all_41 : q_at cX12_all 41 (.iload_n 3) 1 42 := ⟨by decide +kernel, rfl⟩
theorem dX12_all_42 : q_at cX12_all 42 (.iload 6) 2 44 := ⟨by decide +kernel, rfl⟩
theorem dX12_all_44 : q_at cX12_all 44 (.ifCond .ge 7) 3 47 := ⟨by decide +kernel, rfl⟩
theorem dX12_all_47 : q_at cX12_all 47 (.iconst 0) 1 48 := ⟨by decide +kernel, rfl⟩
theorem dX12_all_48 : q_at cX12_all 48 (.goto 16) 3 51 := ⟨by decide +kernel, rfl⟩
theorem dX12_all_51 : q_at cX12_all 51 (.aload_n 0) 1 52 := ⟨by decide +kernel, rfl⟩
theorem dX12_all_52 : q_at cX12_all 52 (.getfield 25) 3 55 := ⟨by decide +kernel, rfl⟩
theorem dX12_all_55 : q_at cX12_all 55 (.bipush 30) 2 57 := ⟨by decide +kernel, rfl⟩
theorem dX12_all_57 : q_at cX12_all 57 (.iload 5) 2 59 := ⟨by decide +kernel, rfl⟩
theorem dX12_all_59 : q_at cX12_all 59 (.imul) 1 60 := ⟨by decide +kernel, rfl⟩
theorem dX12_all_60 : q_at cX12_all 60 (.iload 6) 2 62 := ⟨by decide +kernel, rfl⟩
theorem dX12_all_62 : q_at cX12_all 62 (.iadd) 1 63 := ⟨by decide +kernel, rfl⟩
theorem dX12_all_63 : q_at cX12_all 63 (.iaload) 1 64 := ⟨by decide +kernel, rfl⟩
theorem dX12_all_64 : q_at cX12_all 64 (.iadd) 1 65 := ⟨by decide +kernel, rfl⟩
theorem dX12_all_65 : q_at cX12_all 65 (.istore_n 3) 1 66 := ⟨by decide +kernel, rfl⟩
theorem dX12_all_66 : q_at cX12_all 66 (.iload 4) 2 68 := ⟨by decide +kernel, rfl⟩
theorem dX12_all_68 : q_at cX12_all 68 (.iload 6) 2 70 := ⟨by decide +kernel, rfl⟩
theorem dX12_all_70 : q_at cX12_all 70 (.ifCond .ge 7) 3 73 := ⟨by decide +kernel, rfl⟩
theorem dX12_all_73 : q_at cX12_all 73 (.iconst 1) 1 74 := ⟨by decide +kernel, rfl⟩
theorem dX12_all_74 : q_at cX12_all 74 (.goto 4) 3 77 := ⟨by decide +kernel, rfl⟩
theorem dX12_all_77 : q_at cX12_all 77 (.iconst 0) 1 78 := ⟨by decide +kernel, rfl⟩
theorem dX12_all_78 : q_at cX12_all 78 (.iadd) 1 79 := ⟨by decide +kernel, rfl⟩
theorem dX12_all_79 : q_at cX12_all 79 (.istore 4) 2 81 := ⟨by decide +kernel, rfl⟩
theorem dX12_all_81 : q_at cX12_all 81 (.iinc 5 1) 3 84 := ⟨by decide +kernel, rfl⟩
theorem dX12_all_84 : q_at cX12_all 84 (.goto (-59)) 3 87 := ⟨by decide +kernel, rfl⟩
theorem dX12_all_87 : q_at cX12_all 87 (.iload_n 2) 1 88 := ⟨by decide +kernel, rfl⟩
theorem dX12_all_88 : q_at cX12_all 88 (.ifCond .ne 7) 3 91 := ⟨by decide +kernel, rfl⟩
theorem dX12_all_91 : q_at cX12_all 91 (.iload_n 3) 1 92 := ⟨by decide +kernel, rfl⟩
theorem dX12_all_92 : q_at cX12_all 92 (.goto 5) 3 95 := ⟨by decide +kernel, rfl⟩
theorem dX12_all_95 : q_at cX12_all 95 (.iload 4) 2 97 := ⟨by decide +kernel, rfl⟩
theorem dX12_all_97 : q_at cX12_all 97 (.ireturn) 1 98 := ⟨by decide +kernel, rfl⟩
theorem dX12_allEarned_0 : q_at cX12_allEarned 0 (.iconst 0) 1 1 := ⟨by decide +kernel, rfl⟩
theorem dX12_allEarned_1 : q_at cX12_allEarned 1 (.istore_n 1) 1 2 := ⟨by decide +kernel, rfl⟩
theorem dX12_allEarned_2 : q_at cX12_allEarned 2 (.iconst 0) 1 3 := ⟨by decide +kernel, rfl⟩
theorem dX12_allEarned_3 : q_at cX12_allEarned 3 (.istore_n 2) 1 4 := ⟨by decide +kernel, rfl⟩
theorem dX12_allEarned_4 : q_at cX12_allEarned 4 (.iload_n 2) 1 5 := ⟨by decide +kernel, rfl⟩
theorem dX12_allEarned_5 : q_at cX12_allEarned 5 (.aload_n 0) 1 6 := ⟨by decide +kernel, rfl⟩
theorem dX12_allEarned_6 : q_at cX12_allEarned 6 (.getfield 7) 3 9 := ⟨by decide +kernel, rfl⟩
theorem dX12_allEarned_9 : q_at cX12_allEarned 9 (.iconst 2) 1 10 := ⟨by decide +kernel, rfl⟩
theorem dX12_allEarned_10 : q_at cX12_allEarned 10 (.iaload) 1 11 := ⟨by decide +kernel, rfl⟩
theorem dX12_allEarned_11 : q_at cX12_allEarned 11 (.if_icmp .ge 17) 3 14 := ⟨by decide +kernel, rfl⟩
theorem dX12_allEarned_14 : q_at cX12_allEarned 14 (.iload_n 1) 1 15 := ⟨by decide +kernel, rfl⟩
theorem dX12_allEarned_15 : q_at cX12_allEarned 15 (.aload_n 0) 1 16 := ⟨by decide +kernel, rfl⟩
theorem dX12_allEarned_16 : q_at cX12_allEarned 16 (.iload_n 2) 1 17 := ⟨by decide +kernel, rfl⟩
theorem dX12_allEarned_17 : q_at cX12_allEarned 17 (.invokevirtual 115) 3 20 := ⟨by decide +kernel, rfl⟩
theorem dX12_allEarned_20 : q_at cX12_allEarned 20 (.iadd) 1 21 := ⟨by decide +kernel, rfl⟩
theorem dX12_allEarned_21 : q_at cX12_allEarned 21 (.istore_n 1) 1 22 := ⟨by decide +kernel, rfl⟩
theorem dX12_allEarned_22 : q_at cX12_allEarned 22 (.iinc 2 1) 3 25 := ⟨by decide +kernel, rfl⟩
theorem dX12_allEarned_25 : q_at cX12_allEarned 25 (.goto (-21)) 3 28 := ⟨by decide +kernel, rfl⟩
theorem dX12_allEarned_28 : q_at cX12_allEarned 28 (.iload_n 1) 1 29 := ⟨by decide +kernel, rfl⟩
theorem dX12_allEarned_29 : q_at cX12_allEarned 29 (.ireturn) 1 30 := ⟨by decide +kernel, rfl⟩
theorem dX12_as_0 : q_at cX12_as 0 (.aload_n 0) 1 1 := ⟨by decide +kernel, rfl⟩
theorem dX12_as_1 : q_at cX12_as 1 (.iload_n 1) 1 2 := ⟨by decide +kernel, rfl⟩
theorem dX12_as_2 : q_at cX12_as 2 (.invokevirtual 353) 3 5 := ⟨by decide +kernel, rfl⟩
theorem dX12_as_5 : q_at cX12_as 5 (.ifCond .eq 15) 3 8 := ⟨by decide +kernel, rfl⟩
theorem dX12_as_8 : q_at cX12_as 8 (.iload_n 2) 1 9 := ⟨by decide +kernel, rfl⟩
theorem dX12_as_9 : q_at cX12_as 9 (.i2l) 1 10 := ⟨by decide +kernel, rfl⟩
theorem dX12_as_10 : q_at cX12_as 10 (.lconst 0) 1 11 := ⟨by decide +kernel, rfl⟩
theorem dX12_as_11 : q_at cX12_as 11 (.ldc2_w 311) 3 14 := ⟨by decide +kernel, rfl⟩
theorem dX12_as_14 : q_at cX12_as 14 (.invokestatic 64) 3 17 := ⟨by decide +kernel, rfl⟩
theorem dX12_as_17 : q_at cX12_as 17 (.ifCond .ne 6) 3 20 := ⟨by decide +kernel, rfl⟩
theorem dX12_as_20 : q_at cX12_as 20 (.ldc 90) 2 22 := ⟨by decide +kernel, rfl⟩
theorem dX12_as_22 : q_at cX12_as 22 (.ireturn) 1 23 := ⟨by decide +kernel, rfl⟩
theorem dX12_as_23 : q_at cX12_as 23 (.aload_n 0) 1 24 := ⟨by decide +kernel, rfl⟩
theorem dX12_as_24 : q_at cX12_as 24 (.getfield 7) 3 27 := ⟨by decide +kernel, rfl⟩
theorem dX12_as_27 : q_at cX12_as 27 (.aload_n 0) 1 28 := ⟨by decide +kernel, rfl⟩
theorem dX12_as_28 : q_at cX12_as 28 (.iload_n 1) 1 29 := ⟨by decide +kernel, rfl⟩
theorem dX12_as_29 : q_at cX12_as 29 (.invokevirtual 75) 3 32 := ⟨by decide +kernel, rfl⟩
theorem dX12_as_32 : q_at cX12_as 32 (.iaload) 1 33 := ⟨by decide +kernel, rfl⟩
theorem dX12_as_33 : q_at cX12_as 33 (.istore_n 3) 1 34 := ⟨by decide +kernel, rfl⟩
theorem dX12_as_34 : q_at cX12_as 34 (.iload_n 2) 1 35 := ⟨by decide +kernel, rfl⟩
theorem dX12_as_35 : q_at cX12_as 35 (.ifCond .eq 28) 3 38 := ⟨by decide +kernel, rfl⟩
theorem dX12_as_38 : q_at cX12_as 38 (.iload_n 2) 1 39 := ⟨by decide +kernel, rfl⟩
theorem dX12_as_39 : q_at cX12_as 39 (.iload_n 3) 1 40 := ⟨by decide +kernel, rfl⟩
theorem dX12_as_40 : q_at cX12_as 40 (.if_icmp .eq 23) 3 43 := ⟨by decide +kernel, rfl⟩
theorem dX12_as_43 : q_at cX12_as 43 (.iload_n 2) 1 44 := ⟨by decide +kernel, rfl⟩
theorem dX12_as_44 : q_at cX12_as 44 (.iconst 1) 1 45 := ⟨by decide +kernel, rfl⟩
theorem dX12_as_45 : q_at cX12_as 45 (.if_icmp .ne 8) 3 48 := ⟨by decide +kernel, rfl⟩
theorem dX12_as_48 : q_at cX12_as 48 (.iload_n 3) 1 49 := ⟨by decide +kernel, rfl⟩
theorem dX12_as_49 : q_at cX12_as 49 (.iconst 3) 1 50 := ⟨by decide +kernel, rfl⟩
theorem dX12_as_50 : q_at cX12_as 50 (.if_icmp .le 13) 3 53 := ⟨by decide +kernel, rfl⟩
theorem dX12_as_53 : q_at cX12_as 53 (.iload_n 2) 1 54 := ⟨by decide +kernel, rfl⟩
theorem dX12_as_54 : q_at cX12_as 54 (.iconst 2) 1 55 := ⟨by decide +kernel, rfl⟩
theorem dX12_as_55 : q_at cX12_as 55 (.if_icmp .ne 12) 3 58 := ⟨by decide +kernel, rfl⟩
theorem dX12_as_58 : q_at cX12_as 58 (.iload_n 3) 1 59 := ⟨by decide +kernel, rfl⟩
theorem dX12_as_59 : q_at cX12_as 59 (.iconst 3) 1 60 := ⟨by decide +kernel, rfl⟩
theorem dX12_as_60 : q_at cX12_as 60 (.if_icmp .ne 7) 3 63 := ⟨by decide +kernel, rfl⟩
theorem dX12_as_63 : q_at cX12_as 63 (.iconst 1) 1 64 := ⟨by decide +kernel, rfl⟩
theorem dX12_as_64 : q_at cX12_as 64 (.goto 4) 3 67 := ⟨by decide +kernel, rfl⟩
theorem dX12_as_67 : q_at cX12_as 67 (.iconst 0) 1 68 := ⟨by decide +kernel, rfl⟩
theorem dX12_as_68 : q_at cX12_as 68 (.istore 4) 2 70 := ⟨by decide +kernel, rfl⟩
theorem dX12_as_70 : q_at cX12_as 70 (.iload 4) 2 72 := ⟨by decide +kernel, rfl⟩
theorem dX12_as_72 : q_at cX12_as 72 (.ifCond .eq 18) 3 75 := ⟨by decide +kernel, rfl⟩
theorem dX12_as_75 : q_at cX12_as 75 (.aload_n 0) 1 76 := ⟨by decide +kernel, rfl⟩
theorem dX12_as_76 : q_at cX12_as 76 (.getfield 7) 3 79 := ⟨by decide +kernel, rfl⟩
theorem dX12_as_79 : q_at cX12_as 79 (.aload_n 0) 1 80 := ⟨by decide +kernel, rfl⟩
theorem dX12_as_80 : q_at cX12_as 80 (.iload_n 1) 1 81 := ⟨by decide +kernel, rfl⟩
theorem dX12_as_81 : q_at cX12_as 81 (.invokevirtual 75) 3 84 := ⟨by decide +kernel, rfl⟩
theorem dX12_as_84 : q_at cX12_as 84 (.iconst 2) 1 85 := ⟨by decide +kernel, rfl⟩
theorem dX12_as_85 : q_at cX12_as 85 (.iadd) 1 86 := ⟨by decide +kernel, rfl⟩
theorem dX12_as_86 : q_at cX12_as 86 (.iaload) 1 87 := ⟨by decide +kernel, rfl⟩
theorem dX12_as_87 : q_at cX12_as 87 (.goto 6) 3 90 := ⟨by decide +kernel, rfl⟩
theorem dX12_as_90 : q_at cX12_as 90 (.ldc_w 356) 3 93 := ⟨by decide +kernel, rfl⟩
theorem dX12_as_93 : q_at cX12_as 93 (.ireturn) 1 94 := ⟨by decide +kernel, rfl⟩
theorem dX12_at_0 : q_at cX12_at 0 (.iload_n 1) 1 1 := ⟨by decide +kernel, rfl⟩
theorem dX12_at_1 : q_at cX12_at 1 (.i2l) 1 2 := ⟨by decide +kernel, rfl⟩
theorem dX12_at_2 : q_at cX12_at 2 (.lconst 1) 1 3 := ⟨by decide +kernel, rfl⟩
theorem dX12_at_3 : q_at cX12_at 3 (.ldc2_w 62) 3 6 := ⟨by decide +kernel, rfl⟩
theorem dX12_at_6 : q_at cX12_at 6 (.invokestatic 64) 3 9 := ⟨by decide +kernel, rfl⟩
theorem dX12_at_9 : q_at cX12_at 9 (.ifCond .eq 16) 3 12 := ⟨by decide +kernel, rfl⟩
theorem dX12_at_12 : q_at cX12_at 12 (.iload_n 2) 1 13 := ⟨by decide +kernel, rfl⟩
theorem dX12_at_13 : q_at cX12_at 13 (.i2l) 1 14 := ⟨by decide +kernel, rfl⟩
theorem dX12_at_14 : q_at cX12_at 14 (.lconst 0) 1 15 := ⟨by decide +kernel, rfl⟩
theorem dX12_at_15 : q_at cX12_at 15 (.iload_n 1) 1 16 := ⟨by decide +kernel, rfl⟩
theorem dX12_at_16 : q_at cX12_at 16 (.iconst 1) 1 17 := ⟨by decide +kernel, rfl⟩
theorem dX12_at_17 : q_at cX12_at 17 (.isub) 1 18 := ⟨by decide +kernel, rfl⟩
theorem dX12_at_18 : q_at cX12_at 18 (.i2l) 1 19 := ⟨by decide +kernel, rfl⟩
theorem dX12_at_19 : q_at cX12_at 19 (.invokestatic 64) 3 22 := ⟨by decide +kernel, rfl⟩
theorem dX12_at_22 : q_at cX12_at 22 (.ifCond .ne 6) 3 25 := ⟨by decide +kernel, rfl⟩
theorem dX12_at_25 : q_at cX12_at 25 (.ldc 90) 2 27 := ⟨by decide +kernel, rfl⟩
theorem dX12_at_27 : q_at cX12_at 27 (.ireturn) 1 28 := ⟨by decide +kernel, rfl⟩
theorem dX12_at_28 : q_at cX12_at 28 (.aload_n 0) 1 29 := ⟨by decide +kernel, rfl⟩
theorem dX12_at_29 : q_at cX12_at 29 (.iload_n 1) 1 30 := ⟨by decide +kernel, rfl⟩
theorem dX12_at_30 : q_at cX12_at 30 (.invokevirtual 398) 3 33 := ⟨by decide +kernel, rfl⟩
theorem dX12_at_33 : q_at cX12_at 33 (.istore_n 3) 1 34 := ⟨by decide +kernel, rfl⟩
theorem dX12_at_34 : q_at cX12_at 34 (.aload_n 0) 1 35 := ⟨by decide +kernel, rfl⟩
theorem dX12_at_35 : q_at cX12_at 35 (.getfield 395) 3 38 := ⟨by decide +kernel, rfl⟩
theorem dX12_at_38 : q_at cX12_at 38 (.iconst 2) 1 39 := ⟨by decide +kernel, rfl⟩
theorem dX12_at_39 : q_at cX12_at 39 (.iload_n 1) 1 40 := ⟨by decide +kernel, rfl⟩
theorem dX12_at_40 : q_at cX12_at 40 (.iconst 1) 1 41 := ⟨by decide +kernel, rfl⟩
theorem dX12_at_41 : q_at cX12_at 41 (.isub) 1 42 := ⟨by decide +kernel, rfl⟩
theorem dX12_at_42 : q_at cX12_at 42 (.iload_n 2) 1 43 := ⟨by decide +kernel, rfl⟩
theorem dX12_at_43 : q_at cX12_at 43 (.isub) 1 44 := ⟨by decide +kernel, rfl⟩
theorem dX12_at_44 : q_at cX12_at 44 (.imul) 1 45 := ⟨by decide +kernel, rfl⟩
theorem dX12_at_45 : q_at cX12_at 45 (.ishr) 1 46 := ⟨by decide +kernel, rfl⟩
theorem dX12_at_46 : q_at cX12_at 46 (.iconst 3) 1 47 := ⟨by decide +kernel, rfl⟩
theorem dX12_at_47 : q_at cX12_at 47 (.iand) 1 48 := ⟨by decide +kernel, rfl⟩
theorem dX12_at_48 : q_at cX12_at 48 (.ireturn) 1 49 := ⟨by decide +kernel, rfl⟩
theorem dX12_be_0 : q_at cX12_be 0 (.iload_n 2) 1 1 := ⟨by decide +kernel, rfl⟩
theorem dX12_be_1 : q_at cX12_be 1 (.ifCond .ne 10) 3 4 := ⟨by decide +kernel, rfl⟩
theorem dX12_be_4 : q_at cX12_be 4 (.iload_n 3) 1 5 := ⟨by decide +kernel, rfl⟩
theorem dX12_be_5 : q_at cX12_be 5 (.invokestatic 78) 3 8 := ⟨by decide +kernel, rfl⟩
theorem dX12_be_8 : q_at cX12_be 8 (.goto 68) 3 11 := ⟨by decide +kernel, rfl⟩
theorem dX12_be_11 : q_at cX12_be 11 (.iload_n 2) 1 12 := ⟨by decide +kernel, rfl⟩
theorem dX12_be_12 : q_at cX12_be 12 (.iconst 1) 1 13 := ⟨by decide +kernel, rfl⟩
theorem dX12_be_13 : q_at cX12_be 13 (.if_icmp .ne 15) 3 16 := ⟨by decide +kernel, rfl⟩
theorem dX12_be_16 : q_at cX12_be 16 (.iload_n 3) 1 17 := ⟨by decide +kernel, rfl⟩
theorem dX12_be_17 : q_at cX12_be 17 (.i2l) 1 18 := ⟨by decide +kernel, rfl⟩
theorem dX12_be_18 : q_at cX12_be 18 (.lconst 0) 1 19 := ⟨by decide +kernel, rfl⟩
theorem dX12_be_19 : q_at cX12_be 19 (.ldc2_w 104) 3 22 := ⟨by decide +kernel, rfl⟩
theorem dX12_be_22 : q_at cX12_be 22 (.invokestatic 64) 3 25 := ⟨by decide +kernel, rfl⟩
theorem dX12_be_25 : q_at cX12_be 25 (.goto 51) 3 28 := ⟨by decide +kernel, rfl⟩
theorem dX12_be_28 : q_at cX12_be 28 (.iload_n 2) 1 29 := ⟨by decide +kernel, rfl⟩
theorem dX12_be_29 : q_at cX12_be 29 (.iconst 2) 1 30 := ⟨by decide +kernel, rfl⟩
theorem dX12_be_30 : q_at cX12_be 30 (.if_icmp .ne 15) 3 33 := ⟨by decide +kernel, rfl⟩
theorem dX12_be_33 : q_at cX12_be 33 (.iload_n 3) 1 34 := ⟨by decide +kernel, rfl⟩
theorem dX12_be_34 : q_at cX12_be 34 (.i2l) 1 35 := ⟨by decide +kernel, rfl⟩
theorem dX12_be_35 : q_at cX12_be 35 (.lconst 1) 1 36 := ⟨by decide +kernel, rfl⟩
theorem dX12_be_36 : q_at cX12_be 36 (.ldc2_w 104) 3 39 := ⟨by decide +kernel, rfl⟩
theorem dX12_be_39 : q_at cX12_be 39 (.invokestatic 64) 3 42 := ⟨by decide +kernel, rfl⟩
theorem dX12_be_42 : q_at cX12_be 42 (.goto 34) 3 45 := ⟨by decide +kernel, rfl⟩
theorem dX12_be_45 : q_at cX12_be 45 (.iload_n 2) 1 46 := ⟨by decide +kernel, rfl⟩
theorem dX12_be_46 : q_at cX12_be 46 (.i2l) 1 47 := ⟨by decide +kernel, rfl⟩
theorem dX12_be_47 : q_at cX12_be 47 (.ldc2_w 102) 3 50 := ⟨by decide +kernel, rfl⟩
theorem dX12_be_50 : q_at cX12_be 50 (.ldc2_w 91) 3 53 := ⟨by decide +kernel, rfl⟩
theorem dX12_be_53 : q_at cX12_be 53 (.invokestatic 64) 3 56 := ⟨by decide +kernel, rfl⟩
theorem dX12_be_56 : q_at cX12_be 56 (.ifCond .eq 19) 3 59 := ⟨by decide +kernel, rfl⟩
theorem dX12_be_59 : q_at cX12_be 59 (.iload_n 3) 1 60 := ⟨by decide +kernel, rfl⟩
theorem dX12_be_60 : q_at cX12_be 60 (.i2l) 1 61 := ⟨by decide +kernel, rfl⟩
theorem dX12_be_61 : q_at cX12_be 61 (.lconst 0) 1 62 := ⟨by decide +kernel, rfl⟩
theorem dX12_be_62 : q_at cX12_be 62 (.ldc2_w 96) 3 65 := ⟨by decide +kernel, rfl⟩
theorem dX12_be_65 : q_at cX12_be 65 (.invokestatic 64) 3 68 := ⟨by decide +kernel, rfl⟩
theorem dX12_be_68 : q_at cX12_be 68 (.ifCond .eq 7) 3 71 := ⟨by decide +kernel, rfl⟩
theorem dX12_be_71 : q_at cX12_be 71 (.iconst 1) 1 72 := ⟨by decide +kernel, rfl⟩
theorem dX12_be_72 : q_at cX12_be 72 (.goto 4) 3 75 := ⟨by decide +kernel, rfl⟩
theorem dX12_be_75 : q_at cX12_be 75 (.iconst 0) 1 76 := ⟨by decide +kernel, rfl⟩
theorem dX12_be_76 : q_at cX12_be 76 (.istore 4) 2 78 := ⟨by decide +kernel, rfl⟩
theorem dX12_be_78 : q_at cX12_be 78 (.aload_n 0) 1 79 := ⟨by decide +kernel, rfl⟩
theorem dX12_be_79 : q_at cX12_be 79 (.iload_n 1) 1 80 := ⟨by decide +kernel, rfl⟩
theorem dX12_be_80 : q_at cX12_be 80 (.invokevirtual 110) 3 83 := ⟨by decide +kernel, rfl⟩
theorem dX12_be_83 : q_at cX12_be 83 (.ifCond .eq 23) 3 86 := ⟨by decide +kernel, rfl⟩
theorem dX12_be_86 : q_at cX12_be 86 (.iload 4) 2 88 := ⟨by decide +kernel, rfl⟩
theorem dX12_be_88 : q_at cX12_be 88 (.ifCond .eq 18) 3 91 := ⟨by decide +kernel, rfl⟩
theorem dX12_be_91 : q_at cX12_be 91 (.aload_n 0) 1 92 := ⟨by decide +kernel, rfl⟩
theorem dX12_be_92 : q_at cX12_be 92 (.aload_n 0) 1 93 := ⟨by decide +kernel, rfl⟩
theorem dX12_be_93 : q_at cX12_be 93 (.iload_n 1) 1 94 := ⟨by decide +kernel, rfl⟩
theorem dX12_be_94 : q_at cX12_be 94 (.invokevirtual 68) 3 97 := ⟨by decide +kernel, rfl⟩
theorem dX12_be_97 : q_at cX12_be 97 (.iload_n 2) 1 98 := ⟨by decide +kernel, rfl⟩
theorem dX12_be_98 : q_at cX12_be 98 (.iadd) 1 99 := ⟨by decide +kernel, rfl⟩
theorem dX12_be_99 : q_at cX12_be 99 (.iload_n 3) 1 100 := ⟨by decide +kernel, rfl⟩
theorem dX12_be_100 : q_at cX12_be 100 (.invokevirtual 86) 3 103 := ⟨by decide +kernel, rfl⟩
theorem dX12_be_103 : q_at cX12_be 103 (.goto 5) 3 106 := ⟨by decide +kernel, rfl⟩
theorem dX12_be_106 : q_at cX12_be 106 (.ldc 90) 2 108 := ⟨by decide +kernel, rfl⟩
theorem dX12_be_108 : q_at cX12_be 108 (.ireturn) 1 109 := ⟨by decide +kernel, rfl⟩
theorem dX12_book_0 : q_at cX12_book 0 (.iload_n 1) 1 1 := ⟨by decide +kernel, rfl⟩
theorem dX12_book_1 : q_at cX12_book 1 (.invokestatic 78) 3 4 := ⟨by decide +kernel, rfl⟩
theorem dX12_book_4 : q_at cX12_book 4 (.ifCond .eq 25) 3 7 := ⟨by decide +kernel, rfl⟩
theorem dX12_book_7 : q_at cX12_book 7 (.iload_n 2) 1 8 := ⟨by decide +kernel, rfl⟩
theorem dX12_book_8 : q_at cX12_book 8 (.i2l) 1 9 := ⟨by decide +kernel, rfl⟩
theorem dX12_book_9 : q_at cX12_book 9 (.ldc2_w 375) 3 12 := ⟨by decide +kernel, rfl⟩
theorem dX12_book_12 : q_at cX12_book 12 (.lconst 1) 1 13 := ⟨by decide +kernel, rfl⟩
theorem dX12_book_13 : q_at cX12_book 13 (.invokestatic 64) 3 16 := ⟨by decide +kernel, rfl⟩
theorem dX12_book_16 : q_at cX12_book 16 (.ifCond .eq 13) 3 19 := ⟨by decide +kernel, rfl⟩
theorem dX12_book_19 : q_at cX12_book 19 (.iload_n 2) 1 20 := ⟨by decide +kernel, rfl⟩
theorem dX12_book_20 : q_at cX12_book 20 (.ifCond .lt 12) 3 23 := ⟨by decide +kernel, rfl⟩
theorem dX12_book_23 : q_at cX12_book 23 (.iload_n 3) 1 24 := ⟨by decide +kernel, rfl⟩
theorem dX12_book_24 : q_at cX12_book 24 (.bipush 30) 2 26 := ⟨by decide +kernel, rfl⟩
theorem dX12_book_26 : q_at cX12_book 26 (.if_icmp .le 6) 3 29 := ⟨by decide +kernel, rfl⟩
theorem dX12_book_29 : q_at cX12_book 29 (.ldc 90) 2 31 := ⟨by decide +kernel, rfl⟩
theorem dX12_book_31 : q_at cX12_book 31 (.ireturn) 1 32 := ⟨by decide +kernel, rfl⟩
theorem dX12_book_32 : q_at cX12_book 32 (.iload_n 2) 1 33 := ⟨by decide +kernel, rfl⟩
theorem dX12_book_33 : q_at cX12_book 33 (.ifCond .lt 11) 3 36 := ⟨by decide +kernel, rfl⟩
theorem dX12_book_36 : q_at cX12_book 36 (.iload_n 3) 1 37 := ⟨by decide +kernel, rfl⟩
theorem dX12_book_37 : q_at cX12_book 37 (.ifCond .ge 7) 3 40 := ⟨by decide +kernel, rfl⟩
theorem dX12_book_40 : q_at cX12_book 40 (.ldc_w 377) 3 43 := ⟨by decide +kernel, rfl⟩
theorem dX12_book_43 : q_at cX12_book 43 (.ireturn) 1 44 := ⟨by decide +kernel, rfl⟩
theorem dX12_book_44 : q_at cX12_book 44 (.aload_n 0) 1 45 := ⟨by decide +kernel, rfl⟩
theorem dX12_book_45 : q_at cX12_book 45 (.getfield 19) 3 48 := ⟨by decide +kernel, rfl⟩
theorem dX12_book_48 : q_at cX12_book 48 (.iload_n 1) 1 49 := ⟨by decide +kernel, rfl⟩
theorem dX12_book_49 : q_at cX12_book 49 (.iload_n 2) 1 50 := ⟨by decide +kernel, rfl⟩
theorem dX12_book_50 : q_at cX12_book 50 (.iastore) 1 51 := ⟨by decide +kernel, rfl⟩
theorem dX12_book_51 : q_at cX12_book 51 (.aload_n 0) 1 52 := ⟨by decide +kernel, rfl⟩
theorem dX12_book_52 : q_at cX12_book 52 (.getfield 22) 3 55 := ⟨by decide +kernel, rfl⟩
theorem dX12_book_55 : q_at cX12_book 55 (.iload_n 1) 1 56 := ⟨by decide +kernel, rfl⟩
theorem dX12_book_56 : q_at cX12_book 56 (.iload_n 2) 1 57 := ⟨by decide +kernel, rfl⟩
theorem dX12_book_57 : q_at cX12_book 57 (.ifCond .ge 7) 3 60 := ⟨by decide +kernel, rfl⟩
theorem dX12_book_60 : q_at cX12_book 60 (.iconst 0) 1 61 := ⟨by decide +kernel, rfl⟩
theorem dX12_book_61 : q_at cX12_book 61 (.goto 4) 3 64 := ⟨by decide +kernel, rfl⟩
theorem dX12_book_64 : q_at cX12_book 64 (.iload_n 3) 1 65 := ⟨by decide +kernel, rfl⟩
theorem dX12_book_65 : q_at cX12_book 65 (.iastore) 1 66 := ⟨by decide +kernel, rfl⟩
theorem dX12_book_66 : q_at cX12_book 66 (.iconst 0) 1 67 := ⟨by decide +kernel, rfl⟩
theorem dX12_book_67 : q_at cX12_book 67 (.istore 4) 2 69 := ⟨by decide +kernel, rfl⟩
theorem dX12_book_69 : q_at cX12_book 69 (.iload 4) 2 71 := ⟨by decide +kernel, rfl⟩
theorem dX12_book_71 : q_at cX12_book 71 (.bipush 30) 2 73 := ⟨by decide +kernel, rfl⟩
theorem dX12_book_73 : q_at cX12_book 73 (.if_icmp .ge 22) 3 76 := ⟨by decide +kernel, rfl⟩
theorem dX12_book_76 : q_at cX12_book 76 (.aload_n 0) 1 77 := ⟨by decide +kernel, rfl⟩
theorem dX12_book_77 : q_at cX12_book 77 (.getfield 25) 3 80 := ⟨by decide +kernel, rfl⟩
theorem dX12_book_80 : q_at cX12_book 80 (.bipush 30) 2 82 := ⟨by decide +kernel, rfl⟩
theorem dX12_book_82 : q_at cX12_book 82 (.iload_n 1) 1 83 := ⟨by decide +kernel, rfl⟩
theorem dX12_book_83 : q_at cX12_book 83 (.imul) 1 84 := ⟨by decide +kernel, rfl⟩
theorem dX12_book_84 : q_at cX12_book 84 (.iload 4) 2 86 := ⟨by decide +kernel, rfl⟩
theorem dX12_book_86 : q_at cX12_book 86 (.iadd) 1 87 := ⟨by decide +kernel, rfl⟩
theorem dX12_book_87 : q_at cX12_book 87 (.iconst 0) 1 88 := ⟨by decide +kernel, rfl⟩
theorem dX12_book_88 : q_at cX12_book 88 (.iastore) 1 89 := ⟨by decide +kernel, rfl⟩
theorem dX12_book_89 : q_at cX12_book 89 (.iinc 4 1) 3 92 := ⟨by decide +kernel, rfl⟩
theorem dX12_book_92 : q_at cX12_book 92 (.goto (-23)) 3 95 := ⟨by decide +kernel, rfl⟩
theorem dX12_book_95 : q_at cX12_book 95 (.aload_n 0) 1 96 := ⟨by decide +kernel, rfl⟩
theorem dX12_book_96 : q_at cX12_book 96 (.getfield 22) 3 99 := ⟨by decide +kernel, rfl⟩
theorem dX12_book_99 : q_at cX12_book 99 (.iload_n 1) 1 100 := ⟨by decide +kernel, rfl⟩
theorem dX12_book_100 : q_at cX12_book 100 (.iaload) 1 101 := ⟨by decide +kernel, rfl⟩
theorem dX12_book_101 : q_at cX12_book 101 (.ireturn) 1 102 := ⟨by decide +kernel, rfl⟩
theorem dX12_bound_0 : q_at cX12_bound 0 (.aload_n 0) 1 1 := ⟨by decide +kernel, rfl⟩
theorem dX12_bound_1 : q_at cX12_bound 1 (.iload_n 1) 1 2 := ⟨by decide +kernel, rfl⟩
theorem dX12_bound_2 : q_at cX12_bound 2 (.invokevirtual 110) 3 5 := ⟨by decide +kernel, rfl⟩
theorem dX12_bound_5 : q_at cX12_bound 5 (.ifCond .eq 27) 3 8 := ⟨by decide +kernel, rfl⟩
theorem dX12_bound_8 : q_at cX12_bound 8 (.iload_n 2) 1 9 := ⟨by decide +kernel, rfl⟩
theorem dX12_bound_9 : q_at cX12_bound 9 (.i2l) 1 10 := ⟨by decide +kernel, rfl⟩
theorem dX12_bound_10 : q_at cX12_bound 10 (.lconst 0) 1 11 := ⟨by decide +kernel, rfl⟩
theorem dX12_bound_11 : q_at cX12_bound 11 (.ldc2_w 127) 3 14 := ⟨by decide +kernel, rfl⟩
theorem dX12_bound_14 : q_at cX12_bound 14 (.invokestatic 64) 3 17 := ⟨by decide +kernel, rfl⟩
theorem dX12_bound_17 : q_at cX12_bound 17 (.ifCond .eq 15) 3 20 := ⟨by decide +kernel, rfl⟩
theorem dX12_bound_20 : q_at cX12_bound 20 (.iload_n 3) 1 21 := ⟨by decide +kernel, rfl⟩
theorem dX12_bound_21 : q_at cX12_bound 21 (.i2l) 1 22 := ⟨by decide +kernel, rfl⟩
theorem dX12_bound_22 : q_at cX12_bound 22 (.lconst 1) 1 23 := ⟨by decide +kernel, rfl⟩
theorem dX12_bound_23 : q_at cX12_bound 23 (.ldc2_w 82) 3 26 := ⟨by decide +kernel, rfl⟩
theorem dX12_bound_26 : q_at cX12_bound 26 (.invokestatic 64) 3 29 := ⟨by decide +kernel, rfl⟩
theorem dX12_bound_29 : q_at cX12_bound 29 (.ifCond .ne 6) 3 32 := ⟨by decide +kernel, rfl⟩
theorem dX12_bound_32 : q_at cX12_bound 32 (.ldc 90) 2 34 := ⟨by decide +kernel, rfl⟩
theorem dX12_bound_34 : q_at cX12_bound 34 (.ireturn) 1 35 := ⟨by decide +kernel, rfl⟩
theorem dX12_bound_35 : q_at cX12_bound 35 (.iconst 0) 1 36 := ⟨by decide +kernel, rfl⟩
theorem dX12_bound_36 : q_at cX12_bound 36 (.istore 4) 2 38 := ⟨by decide +kernel, rfl⟩
theorem dX12_bound_38 : q_at cX12_bound 38 (.iload 4) 2 40 := ⟨by decide +kernel, rfl⟩
theorem dX12_bound_40 : q_at cX12_bound 40 (.aload_n 0) 1 41 := ⟨by decide +kernel, rfl⟩
theorem dX12_bound_41 : q_at cX12_bound 41 (.getfield 7) 3 44 := ⟨by decide +kernel, rfl⟩
theorem dX12_bound_44 : q_at cX12_bound 44 (.iconst 1) 1 45 := ⟨by decide +kernel, rfl⟩
theorem dX12_bound_45 : q_at cX12_bound 45 (.iaload) 1 46 := ⟨by decide +kernel, rfl⟩
theorem dX12_bound_46 : q_at cX12_bound 46 (.if_icmp .ge 18) 3 49 := ⟨by decide +kernel, rfl⟩
theorem dX12_bound_49 : q_at cX12_bound 49 (.aload_n 0) 1 50 := ⟨by decide +kernel, rfl⟩
theorem dX12_bound_50 : q_at cX12_bound 50 (.iload 4) 2 52 := ⟨by decide +kernel, rfl⟩
theorem dX12_bound_52 : q_at cX12_bound 52 (.invokevirtual 132) 3 55 := ⟨by decide +kernel, rfl⟩
theorem dX12_bound_55 : q_at cX12_bound 55 (.ifCond .eq 9) 3 58 := ⟨by decide +kernel, rfl⟩
theorem dX12_bound_58 : q_at cX12_bound 58 (.iinc 4 1) 3 61 := ⟨by decide +kernel, rfl⟩
theorem dX12_bound_61 : q_at cX12_bound 61 (.goto (-23)) 3 64 := ⟨by decide +kernel, rfl⟩
theorem dX12_bound_64 : q_at cX12_bound 64 (.iload 4) 2 66 := ⟨by decide +kernel, rfl⟩
theorem dX12_bound_66 : q_at cX12_bound 66 (.aload_n 0) 1 67 := ⟨by decide +kernel, rfl⟩
theorem dX12_bound_67 : q_at cX12_bound 67 (.getfield 7) 3 70 := ⟨by decide +kernel, rfl⟩
theorem dX12_bound_70 : q_at cX12_bound 70 (.iconst 1) 1 71 := ⟨by decide +kernel, rfl⟩
theorem dX12_bound_71 : q_at cX12_bound 71 (.iaload) 1 72 := ⟨by decide +kernel, rfl⟩
theorem dX12_bound_72 : q_at cX12_bound 72 (.if_icmp .ne 6) 3 75 := ⟨by decide +kernel, rfl⟩
theorem dX12_bound_75 : q_at cX12_bound 75 (.ldc 61) 2 77 := ⟨by decide +kernel, rfl⟩
theorem dX12_bound_77 : q_at cX12_bound 77 (.ireturn) 1 78 := ⟨by decide +kernel, rfl⟩
theorem dX12_bound_78 : q_at cX12_bound 78 (.aload_n 0) 1 79 := ⟨by decide +kernel, rfl⟩
theorem dX12_bound_79 : q_at cX12_bound 79 (.iload_n 1) 1 80 := ⟨by decide +kernel, rfl⟩
theorem dX12_bound_80 : q_at cX12_bound 80 (.invokevirtual 118) 3 83 := ⟨by decide +kernel, rfl⟩
theorem dX12_bound_83 : q_at cX12_bound 83 (.i2l) 1 84 := ⟨by decide +kernel, rfl⟩
theorem dX12_bound_84 : q_at cX12_bound 84 (.lstore 5) 2 86 := ⟨by decide +kernel, rfl⟩
theorem dX12_bound_86 : q_at cX12_bound 86 (.iconst 1) 1 87 := ⟨by decide +kernel, rfl⟩
theorem dX12_bound_87 : q_at cX12_bound 87 (.istore 7) 2 89 := ⟨by decide +kernel, rfl⟩
theorem dX12_bound_89 : q_at cX12_bound 89 (.iload 7) 2 91 := ⟨by decide +kernel, rfl⟩
theorem dX12_bound_91 : q_at cX12_bound 91 (.sipush 1000) 3 94 := ⟨by decide +kernel, rfl⟩
theorem dX12_bound_94 : q_at cX12_bound 94 (.if_icmp .gt 87) 3 97 := ⟨by decide +kernel, rfl⟩
theorem dX12_bound_97 : q_at cX12_bound 97 (.lload 5) 2 99 := ⟨by decide +kernel, rfl⟩
theorem dX12_bound_99 : q_at cX12_bound 99 (.aload_n 0) 1 100 := ⟨by decide +kernel, rfl⟩
theorem dX12_bound_100 : q_at cX12_bound 100 (.getfield 7) 3 103 := ⟨by decide +kernel, rfl⟩
theorem dX12_bound_103 : q_at cX12_bound 103 (.aload_n 0) 1 104 := ⟨by decide +kernel, rfl⟩
theorem dX12_bound_104 : q_at cX12_bound 104 (.iload 4) 2 106 := ⟨by decide +kernel, rfl⟩
theorem dX12_bound_106 : q_at cX12_bound 106 (.invokevirtual 72) 3 109 := ⟨by decide +kernel, rfl⟩
theorem dX12_bound_109 : q_at cX12_bound 109 (.iconst 1) 1 110 := ⟨by decide +kernel, rfl⟩
theorem dX12_bound_110 : q_at cX12_bound 110 (.iadd) 1 111 := ⟨by decide +kernel, rfl⟩
theorem dX12_bound_111 : q_at cX12_bound 111 (.iaload) 1 112 := ⟨by decide +kernel, rfl⟩
theorem dX12_bound_112 : q_at cX12_bound 112 (.aload_n 0) 1 113 := ⟨by decide +kernel, rfl⟩
theorem dX12_bound_113 : q_at cX12_bound 113 (.getfield 7) 3 116 := ⟨by decide +kernel, rfl⟩
theorem dX12_bound_116 : q_at cX12_bound 116 (.aload_n 0) 1 117 := ⟨by decide +kernel, rfl⟩
theorem dX12_bound_117 : q_at cX12_bound 117 (.iload_n 1) 1 118 := ⟨by decide +kernel, rfl⟩
theorem dX12_bound_118 : q_at cX12_bound 118 (.invokevirtual 68) 3 121 := ⟨by decide +kernel, rfl⟩
theorem dX12_bound_121 : q_at cX12_bound 121 (.iconst 2) 1 122 := ⟨by decide +kernel, rfl⟩
theorem dX12_bound_122 : q_at cX12_bound 122 (.iadd) 1 123 := ⟨by decide +kernel, rfl⟩
theorem dX12_bound_123 : q_at cX12_bound 123 (.iaload) 1 124 := ⟨by decide +kernel, rfl⟩
theorem dX12_bound_124 : q_at cX12_bound 124 (.imul) 1 125 := ⟨by decide +kernel, rfl⟩
theorem dX12_bound_125 : q_at cX12_bound 125 (.bipush 7) 2 127 := ⟨by decide +kernel, rfl⟩
theorem dX12_bound_127 : q_at cX12_bound 127 (.imul) 1 128 := ⟨by decide +kernel, rfl⟩
theorem dX12_bound_128 : q_at cX12_bound 128 (.i2l) 1 129 := ⟨by decide +kernel, rfl⟩
theorem dX12_bound_129 : q_at cX12_bound 129 (.ladd) 1 130 := ⟨by decide +kernel, rfl⟩
theorem dX12_bound_130 : q_at cX12_bound 130 (.lstore 5) 2 132 := ⟨by decide +kernel, rfl⟩
theorem dX12_bound_132 : q_at cX12_bound 132 (.lload 5) 2 134 := ⟨by decide +kernel, rfl⟩
theorem dX12_bound_134 : q_at cX12_bound 134 (.iload 7) 2 136 := ⟨by decide +kernel, rfl⟩
theorem dX12_bound_136 : q_at cX12_bound 136 (.iload_n 3) 1 137 := ⟨by decide +kernel, rfl⟩
theorem dX12_bound_137 : q_at cX12_bound 137 (.irem) 1 138 := ⟨by decide +kernel, rfl⟩
theorem dX12_bound_138 : q_at cX12_bound 138 (.ifCond .ne 8) 3 141 := ⟨by decide +kernel, rfl⟩
theorem dX12_bound_141 : q_at cX12_bound 141 (.iload_n 2) 1 142 := ⟨by decide +kernel, rfl⟩
theorem dX12_bound_142 : q_at cX12_bound 142 (.i2l) 1 143 := ⟨by decide +kernel, rfl⟩
theorem dX12_bound_143 : q_at cX12_bound 143 (.goto 4) 3 146 := ⟨by decide +kernel, rfl⟩
theorem dX12_bound_146 : q_at cX12_bound 146 (.lconst 0) 1 147 := ⟨by decide +kernel, rfl⟩
theorem dX12_bound_147 : q_at cX12_bound 147 (.lsub) 1 148 := ⟨by decide +kernel, rfl⟩
theorem dX12_bound_148 : q_at cX12_bound 148 (.lstore 5) 2 150 := ⟨by decide +kernel, rfl⟩
theorem dX12_bound_150 : q_at cX12_bound 150 (.lload 5) 2 152 := ⟨by decide +kernel, rfl⟩
theorem dX12_bound_152 : q_at cX12_bound 152 (.lconst 0) 1 153 := ⟨by decide +kernel, rfl⟩
theorem dX12_bound_153 : q_at cX12_bound 153 (.lcmp) 1 154 := ⟨by decide +kernel, rfl⟩
theorem dX12_bound_154 : q_at cX12_bound 154 (.ifCond .ge 7) 3 157 := ⟨by decide +kernel, rfl⟩
theorem dX12_bound_157 : q_at cX12_bound 157 (.lconst 0) 1 158 := ⟨by decide +kernel, rfl⟩
theorem dX12_bound_158 : q_at cX12_bound 158 (.goto 5) 3 161 := ⟨by decide +kernel, rfl⟩
theorem dX12_bound_161 : q_at cX12_bound 161 (.lload 5) 2 163 := ⟨by decide +kernel, rfl⟩
theorem dX12_bound_163 : q_at cX12_bound 163 (.lstore 5) 2 165 := ⟨by decide +kernel, rfl⟩
theorem dX12_bound_165 : q_at cX12_bound 165 (.lload 5) 2 167 := ⟨by decide +kernel, rfl⟩
theorem dX12_bound_167 : q_at cX12_bound 167 (.lconst 0) 1 168 := ⟨by decide +kernel, rfl⟩
theorem dX12_bound_168 : q_at cX12_bound 168 (.lcmp) 1 169 := ⟨by decide +kernel, rfl⟩
theorem dX12_bound_169 : q_at cX12_bound 169 (.ifCond .ne 6) 3 172 := ⟨by decide +kernel, rfl⟩
theorem dX12_bound_172 : q_at cX12_bound 172 (.iload 7) 2 174 := ⟨by decide +kernel, rfl⟩
theorem dX12_bound_174 : q_at cX12_bound 174 (.ireturn) 1 175 := ⟨by decide +kernel, rfl⟩
theorem dX12_bound_175 : q_at cX12_bound 175 (.iinc 7 1) 3 178 := ⟨by decide +kernel, rfl⟩
theorem dX12_bound_178 : q_at cX12_bound 178 (.goto (-89)) 3 181 := ⟨by decide +kernel, rfl⟩
theorem dX12_bound_181 : q_at cX12_bound 181 (.ldc 61) 2 183 := ⟨by decide +kernel, rfl⟩
theorem dX12_bound_183 : q_at cX12_bound 183 (.ireturn) 1 184 := ⟨by decide +kernel, rfl⟩
theorem dX12_cheapest_0 : q_at cX12_cheapest 0 (.iconst (-1)) 1 1 := ⟨by decide +kernel, rfl⟩
theorem dX12_cheapest_1 : q_at cX12_cheapest 1 (.istore_n 2) 1 2 := ⟨by decide +kernel, rfl⟩
theorem dX12_cheapest_2 : q_at cX12_cheapest 2 (.iconst 0) 1 3 := ⟨by decide +kernel, rfl⟩
theorem dX12_cheapest_3 : q_at cX12_cheapest 3 (.istore_n 3) 1 4 := ⟨by decide +kernel, rfl⟩
theorem dX12_cheapest_4 : q_at cX12_cheapest 4 (.iconst 0) 1 5 := ⟨by decide +kernel, rfl⟩
theorem dX12_cheapest_5 : q_at cX12_cheapest 5 (.istore 4) 2 7 := ⟨by decide +kernel, rfl⟩
theorem dX12_cheapest_7 : q_at cX12_cheapest 7 (.iload 4) 2 9 := ⟨by decide +kernel, rfl⟩
theorem dX12_cheapest_9 : q_at cX12_cheapest 9 (.aload_n 0) 1 10 := ⟨by decide +kernel, rfl⟩
theorem dX12_cheapest_10 : q_at cX12_cheapest 10 (.getfield 7) 3 13 := ⟨by decide +kernel, rfl⟩
theorem dX12_cheapest_13 : q_at cX12_cheapest 13 (.iconst 1) 1 14 := ⟨by decide +kernel, rfl⟩
theorem dX12_cheapest_14 : q_at cX12_cheapest 14 (.iaload) 1 15 := ⟨by decide +kernel, rfl⟩
theorem dX12_cheapest_15 : q_at cX12_cheapest 15 (.if_icmp .ge 94) 3 18 := ⟨by decide +kernel, rfl⟩
theorem dX12_cheapest_18 : q_at cX12_cheapest 18 (.aload_n 0) 1 19 := ⟨by decide +kernel, rfl⟩
theorem dX12_cheapest_19 : q_at cX12_cheapest 19 (.iload 4) 2 21 := ⟨by decide +kernel, rfl⟩
theorem dX12_cheapest_21 : q_at cX12_cheapest 21 (.invokevirtual 132) 3 24 := ⟨by decide +kernel, rfl⟩
theorem dX12_cheapest_24 : q_at cX12_cheapest 24 (.ifCond .eq 79) 3 27 := ⟨by decide +kernel, rfl⟩
theorem dX12_cheapest_27 : q_at cX12_cheapest 27 (.aload_n 0) 1 28 := ⟨by decide +kernel, rfl⟩
theorem dX12_cheapest_28 : q_at cX12_cheapest 28 (.getfield 7) 3 31 := ⟨by decide +kernel, rfl⟩
theorem dX12_cheapest_31 : q_at cX12_cheapest 31 (.aload_n 0) 1 32 := ⟨by decide +kernel, rfl⟩
theorem dX12_cheapest_32 : q_at cX12_cheapest 32 (.iload_n 1) 1 33 := ⟨by decide +kernel, rfl⟩
theorem dX12_cheapest_33 : q_at cX12_cheapest 33 (.invokevirtual 68) 3 36 := ⟨by decide +kernel, rfl⟩
theorem dX12_cheapest_36 : q_at cX12_cheapest 36 (.bipush 18) 2 38 := ⟨by decide +kernel, rfl⟩
theorem dX12_cheapest_38 : q_at cX12_cheapest 38 (.iadd) 1 39 := ⟨by decide +kernel, rfl⟩
theorem dX12_cheapest_39 : q_at cX12_cheapest 39 (.iload 4) 2 41 := ⟨by decide +kernel, rfl⟩
theorem dX12_cheapest_41 : q_at cX12_cheapest 41 (.iadd) 1 42 := ⟨by decide +kernel, rfl⟩
theorem dX12_cheapest_42 : q_at cX12_cheapest 42 (.iaload) 1 43 := ⟨by decide +kernel, rfl⟩
theorem dX12_cheapest_43 : q_at cX12_cheapest 43 (.ifCond .ge 6) 3 46 := ⟨by decide +kernel, rfl⟩
theorem dX12_cheapest_46 : q_at cX12_cheapest 46 (.goto 57) 3 49 := ⟨by decide +kernel, rfl⟩
theorem dX12_cheapest_49 : q_at cX12_cheapest 49 (.aload_n 0) 1 50 := ⟨by decide +kernel, rfl⟩
theorem dX12_cheapest_50 : q_at cX12_cheapest 50 (.getfield 7) 3 53 := ⟨by decide +kernel, rfl⟩
theorem dX12_cheapest_53 : q_at cX12_cheapest 53 (.aload_n 0) 1 54 := ⟨by decide +kernel, rfl⟩
theorem dX12_cheapest_54 : q_at cX12_cheapest 54 (.iload_n 1) 1 55 := ⟨by decide +kernel, rfl⟩
theorem dX12_cheapest_55 : q_at cX12_cheapest 55 (.invokevirtual 68) 3 58 := ⟨by decide +kernel, rfl⟩
theorem dX12_cheapest_58 : q_at cX12_cheapest 58 (.bipush 12) 2 60 := ⟨by decide +kernel, rfl⟩
theorem dX12_cheapest_60 : q_at cX12_cheapest 60 (.iadd) 1 61 := ⟨by decide +kernel, rfl⟩
theorem dX12_cheapest_61 : q_at cX12_cheapest 61 (.iload 4) 2 63 := ⟨by decide +kernel, rfl⟩
theorem dX12_cheapest_63 : q_at cX12_cheapest 63 (.iadd) 1 64 := ⟨by decide +kernel, rfl⟩
theorem dX12_cheapest_64 : q_at cX12_cheapest 64 (.iaload) 1 65 := ⟨by decide +kernel, rfl⟩
theorem dX12_cheapest_65 : q_at cX12_cheapest 65 (.aload_n 0) 1 66 := ⟨by decide +kernel, rfl⟩
theorem dX12_cheapest_66 : q_at cX12_cheapest 66 (.iload_n 1) 1 67 := ⟨by decide +kernel, rfl⟩
theorem dX12_cheapest_67 : q_at cX12_cheapest 67 (.invokevirtual 135) 3 70 := ⟨by decide +kernel, rfl⟩
theorem dX12_cheapest_70 : q_at cX12_cheapest 70 (.imul) 1 71 := ⟨by decide +kernel, rfl⟩
theorem dX12_cheapest_71 : q_at cX12_cheapest 71 (.aload_n 0) 1 72 := ⟨by decide +kernel, rfl⟩
theorem dX12_cheapest_72 : q_at cX12_cheapest 72 (.getfield 7) 3 75 := ⟨by decide +kernel, rfl⟩
theorem dX12_cheapest_75 : q_at cX12_cheapest 75 (.aload_n 0) 1 76 := ⟨by decide +kernel, rfl⟩
theorem dX12_cheapest_76 : q_at cX12_cheapest 76 (.iload 4) 2 78 := ⟨by decide +kernel, rfl⟩
theorem dX12_cheapest_78 : q_at cX12_cheapest 78 (.invokevirtual 72) 3 81 := ⟨by decide +kernel, rfl⟩
theorem dX12_cheapest_81 : q_at cX12_cheapest 81 (.iconst 3) 1 82 := ⟨by decide +kernel, rfl⟩
theorem dX12_cheapest_82 : q_at cX12_cheapest 82 (.iadd) 1 83 := ⟨by decide +kernel, rfl⟩
theorem dX12_cheapest_83 : q_at cX12_cheapest 83 (.iaload) 1 84 := ⟨by decide +kernel, rfl⟩
theorem dX12_cheapest_84 : q_at cX12_cheapest 84 (.iadd) 1 85 := ⟨by decide +kernel, rfl⟩
theorem dX12_cheapest_85 : q_at cX12_cheapest 85 (.istore 5) 2 87 := ⟨by decide +kernel, rfl⟩
theorem dX12_cheapest_87 : q_at cX12_cheapest 87 (.iload_n 2) 1 88 := ⟨by decide +kernel, rfl⟩
theorem dX12_cheapest_88 : q_at cX12_cheapest 88 (.ifCond .lt 9) 3 91 := ⟨by decide +kernel, rfl⟩
theorem dX12_cheapest_91 : q_at cX12_cheapest 91 (.iload 5) 2 93 := ⟨by decide +kernel, rfl⟩
theorem dX12_cheapest_93 : q_at cX12_cheapest 93 (.iload_n 3) 1 94 := ⟨by decide +kernel, rfl⟩
theorem dX12_cheapest_94 : q_at cX12_cheapest 94 (.if_icmp .ge 9) 3 97 := ⟨by decide +kernel, rfl⟩
theorem dX12_cheapest_97 : q_at cX12_cheapest 97 (.iload 4) 2 99 := ⟨by decide +kernel, rfl⟩
theorem dX12_cheapest_99 : q_at cX12_cheapest 99 (.istore_n 2) 1 100 := ⟨by decide +kernel, rfl⟩
theorem dX12_cheapest_100 : q_at cX12_cheapest 100 (.iload 5) 2 102 := ⟨by decide +kernel, rfl⟩
theorem dX12_cheapest_102 : q_at cX12_cheapest 102 (.istore_n 3) 1 103 := ⟨by decide +kernel, rfl⟩
theorem dX12_cheapest_103 : q_at cX12_cheapest 103 (.iinc 4 1) 3 106 := ⟨by decide +kernel, rfl⟩
theorem dX12_cheapest_106 : q_at cX12_cheapest 106 (.goto (-99)) 3 109 := ⟨by decide +kernel, rfl⟩
theorem dX12_cheapest_109 : q_at cX12_cheapest 109 (.iload_n 2) 1 110 := ⟨by decide +kernel, rfl⟩
theorem dX12_cheapest_110 : q_at cX12_cheapest 110 (.ireturn) 1 111 := ⟨by decide +kernel, rfl⟩
theorem dX12_coinFor_0 : q_at cX12_coinFor 0 (.aload_n 0) 1 1 := ⟨by decide +kernel, rfl⟩
theorem dX12_coinFor_1 : q_at cX12_coinFor 1 (.iconst 3) 1 2 := ⟨by decide +kernel, rfl⟩
theorem dX12_coinFor_2 : q_at cX12_coinFor 2 (.invokevirtual 313) 3 5 := ⟨by decide +kernel, rfl⟩
theorem dX12_coinFor_5 : q_at cX12_coinFor 5 (.istore_n 3) 1 6 := ⟨by decide +kernel, rfl⟩
theorem dX12_coinFor_6 : q_at cX12_coinFor 6 (.aload_n 0) 1 7 := ⟨by decide +kernel, rfl⟩
theorem dX12_coinFor_7 : q_at cX12_coinFor 7 (.getfield 31) 3 10 := ⟨by decide +kernel, rfl⟩
theorem dX12_coinFor_10 : q_at cX12_coinFor 10 (.bipush 108) 2 12 := ⟨by decide +kernel, rfl⟩
theorem dX12_coinFor_12 : q_at cX12_coinFor 12 (.iload_n 1) 1 13 := ⟨by decide +kernel, rfl⟩
theorem dX12_coinFor_13 : q_at cX12_coinFor 13 (.iastore) 1 14 := ⟨by decide +kernel, rfl⟩
theorem dX12_coinFor_14 : q_at cX12_coinFor 14 (.aload_n 0) 1 15 := ⟨by decide +kernel, rfl⟩
theorem dX12_coinFor_15 : q_at cX12_coinFor 15 (.getfield 31) 3 18 := ⟨by decide +kernel, rfl⟩
theorem dX12_coinFor_18 : q_at cX12_coinFor 18 (.bipush 119) 2 20 := ⟨by decide +kernel, rfl⟩
theorem dX12_coinFor_20 : q_at cX12_coinFor 20 (.iload_n 2) 1 21 := ⟨by decide +kernel, rfl⟩
theorem dX12_coinFor_21 : q_at cX12_coinFor 21 (.iastore) 1 22 := ⟨by decide +kernel, rfl⟩
theorem dX12_coinFor_22 : q_at cX12_coinFor 22 (.iload_n 3) 1 23 := ⟨by decide +kernel, rfl⟩
theorem dX12_coinFor_23 : q_at cX12_coinFor 23 (.ifCond .ge 8) 3 26 := ⟨by decide +kernel, rfl⟩
theorem dX12_coinFor_26 : q_at cX12_coinFor 26 (.bipush 100) 2 28 := ⟨by decide +kernel, rfl⟩
theorem dX12_coinFor_28 : q_at cX12_coinFor 28 (.goto 8) 3 31 := ⟨by decide +kernel, rfl⟩
theorem dX12_coinFor_31 : q_at cX12_coinFor 31 (.aload_n 0) 1 32 := ⟨by decide +kernel, rfl⟩
theorem dX12_coinFor_32 : q_at cX12_coinFor 32 (.iload_n 3) 1 33 := ⟨by decide +kernel, rfl⟩
theorem dX12_coinFor_33 : q_at cX12_coinFor 33 (.invokevirtual 322) 3 36 := ⟨by decide +kernel, rfl⟩
theorem dX12_coinFor_36 : q_at cX12_coinFor 36 (.iconst 0) 1 37 := ⟨by decide +kernel, rfl⟩
theorem dX12_coinFor_37 : q_at cX12_coinFor 37 (.bipush 100) 2 39 := ⟨by decide +kernel, rfl⟩
theorem dX12_coinFor_39 : q_at cX12_coinFor 39 (.invokestatic 325) 3 42 := ⟨by decide +kernel, rfl⟩
theorem dX12_coinFor_42 : q_at cX12_coinFor 42 (.ireturn) 1 43 := ⟨by decide +kernel, rfl⟩
theorem dX12_companyLasts_0 : q_at cX12_companyLasts 0 (.iconst 0) 1 1 := ⟨by decide +kernel, rfl⟩
theorem dX12_companyLasts_1 : q_at cX12_companyLasts 1 (.istore_n 2) 1 2 := ⟨by decide +kernel, rfl⟩
theorem dX12_companyLasts_2 : q_at cX12_companyLasts 2 (.iconst 0) 1 3 := ⟨by decide +kernel, rfl⟩
theorem dX12_companyLasts_3 : q_at cX12_companyLasts 3 (.istore_n 3) 1 4 := ⟨by decide +kernel, rfl⟩
theorem dX12_companyLasts_4 : q_at cX12_companyLasts 4 (.iload_n 3) 1 5 := ⟨by decide +kernel, rfl⟩
theorem dX12_companyLasts_5 : q_at cX12_companyLasts 5 (.aload_n 0) 1 6 := ⟨by decide +kernel, rfl⟩
theorem dX12_companyLasts_6 : q_at cX12_companyLasts 6 (.getfield 7) 3 9 := ⟨by decide +kernel, rfl⟩
theorem dX12_companyLasts_9 : q_at cX12_companyLasts 9 (.iconst 2) 1 10 := ⟨by decide +kernel, rfl⟩
theorem dX12_companyLasts_10 : q_at cX12_companyLasts 10 (.iaload) 1 11 := ⟨by decide +kernel, rfl⟩
theorem dX12_companyLasts_11 : q_at cX12_companyLasts 11 (.if_icmp .ge 73) 3 14 := ⟨by decide +kernel, rfl⟩
theorem dX12_companyLasts_14 : q_at cX12_companyLasts 14 (.aload_n 0) 1 15 := ⟨by decide +kernel, rfl⟩
theorem dX12_companyLasts_15 : q_at cX12_companyLasts 15 (.iload_n 3) 1 16 := ⟨by decide +kernel, rfl⟩
theorem dX12_companyLasts_16 : q_at cX12_companyLasts 16 (.invokevirtual 68) 3 19 := ⟨by decide +kernel, rfl⟩
theorem dX12_companyLasts_19 : q_at cX12_companyLasts 19 (.istore 4) 2 21 := ⟨by decide +kernel, rfl⟩
theorem dX12_companyLasts_21 : q_at cX12_companyLasts 21 (.iload_n 2) 1 22 := ⟨by decide +kernel, rfl⟩
theorem dX12_companyLasts_22 : q_at cX12_companyLasts 22 (.aload_n 0) 1 23 := ⟨by decide +kernel, rfl⟩
theorem dX12_companyLasts_23 : q_at cX12_companyLasts 23 (.iload_n 3) 1 24 := ⟨by decide +kernel, rfl⟩
theorem dX12_companyLasts_24 : q_at cX12_companyLasts 24 (.invokevirtual 93) 3 27 := ⟨by decide +kernel, rfl⟩
theorem dX12_companyLasts_27 : q_at cX12_companyLasts 27 (.ifCond .ne 18) 3 30 := ⟨by decide +kernel, rfl⟩
theorem dX12_companyLasts_30 : q_at cX12_companyLasts 30 (.iload_n 1) 1 31 := ⟨by decide +kernel, rfl⟩
theorem dX12_companyLasts_31 : q_at cX12_companyLasts 31 (.aload_n 0) 1 32 := ⟨by decide +kernel, rfl⟩
theorem dX12_companyLasts_32 : q_at cX12_companyLasts 32 (.getfield 7) 3 35 := ⟨by decide +kernel, rfl⟩
theorem dX12_companyLasts_35 : q_at cX12_companyLasts 35 (.iload 4) 2 37 := ⟨by decide +kernel, rfl⟩
theorem dX12_companyLasts_37 : q_at cX12_companyLasts 37 (.iaload) 1 38 := ⟨by decide +kernel, rfl⟩
theorem dX12_companyLasts_38 : q_at cX12_companyLasts 38 (.ishr) 1 39 := ⟨by decide +kernel, rfl⟩
theorem dX12_companyLasts_39 : q_at cX12_companyLasts 39 (.iconst 1) 1 40 := ⟨by decide +kernel, rfl⟩
theorem dX12_companyLasts_40 : q_at cX12_companyLasts 40 (.iand) 1 41 := ⟨by decide +kernel, rfl⟩
theorem dX12_companyLasts_41 : q_at cX12_companyLasts 41 (.iconst 1) 1 42 := ⟨by decide +kernel, rfl⟩
theorem dX12_companyLasts_42 : q_at cX12_companyLasts 42 (.if_icmp .ne 7) 3 45 := ⟨by decide +kernel, rfl⟩
theorem dX12_companyLasts_45 : q_at cX12_companyLasts 45 (.iconst 0) 1 46 := ⟨by decide +kernel, rfl⟩
theorem dX12_companyLasts_46 : q_at cX12_companyLasts 46 (.goto 30) 3 49 := ⟨by decide +kernel, rfl⟩
theorem dX12_companyLasts_49 : q_at cX12_companyLasts 49 (.aload_n 0) 1 50 := ⟨by decide +kernel, rfl⟩
theorem dX12_companyLasts_50 : q_at cX12_companyLasts 50 (.getfield 7) 3 53 := ⟨by decide +kernel, rfl⟩
theorem dX12_companyLasts_53 : q_at cX12_companyLasts 53 (.iload 4) 2 55 := ⟨by decide +kernel, rfl⟩
theorem dX12_companyLasts_55 : q_at cX12_companyLasts 55 (.iconst 1) 1 56 := ⟨by decide +kernel, rfl⟩
theorem dX12_companyLasts_56 : q_at cX12_companyLasts 56 (.iadd) 1 57 := ⟨by decide +kernel, rfl⟩
theorem dX12_companyLasts_57 : q_at cX12_companyLasts 57 (.iaload) 1 58 := ⟨by decide +kernel, rfl⟩
theorem dX12_companyLasts_58 : q_at cX12_companyLasts 58 (.aload_n 0) 1 59 := ⟨by decide +kernel, rfl⟩
theorem dX12_companyLasts_59 : q_at cX12_companyLasts 59 (.getfield 7) 3 62 := ⟨by decide +kernel, rfl⟩
theorem dX12_companyLasts_62 : q_at cX12_companyLasts 62 (.bipush 10) 2 64 := ⟨by decide +kernel, rfl⟩
theorem dX12_companyLasts_64 : q_at cX12_companyLasts 64 (.iconst 5) 1 65 := ⟨by decide +kernel, rfl⟩
theorem dX12_companyLasts_65 : q_at cX12_companyLasts 65 (.aload_n 0) 1 66 := ⟨by decide +kernel, rfl⟩
theorem dX12_companyLasts_66 : q_at cX12_companyLasts 66 (.getfield 7) 3 69 := ⟨by decide +kernel, rfl⟩
theorem dX12_companyLasts_69 : q_at cX12_companyLasts 69 (.iload 4) 2 71 := ⟨by decide +kernel, rfl⟩
theorem dX12_companyLasts_71 : q_at cX12_companyLasts 71 (.iaload) 1 72 := ⟨by decide +kernel, rfl⟩
theorem dX12_companyLasts_72 : q_at cX12_companyLasts 72 (.imul) 1 73 := ⟨by decide +kernel, rfl⟩
theorem dX12_companyLasts_73 : q_at cX12_companyLasts 73 (.iadd) 1 74 := ⟨by decide +kernel, rfl⟩
theorem dX12_companyLasts_74 : q_at cX12_companyLasts 74 (.iaload) 1 75 := ⟨by decide +kernel, rfl⟩
theorem dX12_companyLasts_75 : q_at cX12_companyLasts 75 (.imul) 1 76 := ⟨by decide +kernel, rfl⟩
theorem dX12_companyLasts_76 : q_at cX12_companyLasts 76 (.iadd) 1 77 := ⟨by decide +kernel, rfl⟩
theorem dX12_companyLasts_77 : q_at cX12_companyLasts 77 (.istore_n 2) 1 78 := ⟨by decide +kernel, rfl⟩
theorem dX12_companyLasts_78 : q_at cX12_companyLasts 78 (.iinc 3 1) 3 81 := ⟨by decide +kernel, rfl⟩
theorem dX12_companyLasts_81 : q_at cX12_companyLasts 81 (.goto (-77)) 3 84 := ⟨by decide +kernel, rfl⟩
theorem dX12_companyLasts_84 : q_at cX12_companyLasts 84 (.aload_n 0) 1 85 := ⟨by decide +kernel, rfl⟩
theorem dX12_companyLasts_85 : q_at cX12_companyLasts 85 (.getfield 7) 3 88 := ⟨by decide +kernel, rfl⟩
theorem dX12_companyLasts_88 : q_at cX12_companyLasts 88 (.bipush 9) 2 90 := ⟨by decide +kernel, rfl⟩
theorem dX12_companyLasts_90 : q_at cX12_companyLasts 90 (.iaload) 1 91 := ⟨by decide +kernel, rfl⟩
theorem dX12_companyLasts_91 : q_at cX12_companyLasts 91 (.iload_n 2) 1 92 := ⟨by decide +kernel, rfl⟩
theorem dX12_companyLasts_92 : q_at cX12_companyLasts 92 (.isub) 1 93 := ⟨by decide +kernel, rfl⟩
theorem dX12_companyLasts_93 : q_at cX12_companyLasts 93 (.istore_n 3) 1 94 := ⟨by decide +kernel, rfl⟩
theorem dX12_companyLasts_94 : q_at cX12_companyLasts 94 (.iload_n 3) 1 95 := ⟨by decide +kernel, rfl⟩
theorem dX12_companyLasts_95 : q_at cX12_companyLasts 95 (.ifCond .gt 9) 3 98 := ⟨by decide +kernel, rfl⟩
theorem dX12_companyLasts_98 : q_at cX12_companyLasts 98 (.sipush 999) 3 101 := ⟨by decide +kernel, rfl⟩
theorem dX12_companyLasts_101 : q_at cX12_companyLasts 101 (.goto 18) 3 104 := ⟨by decide +kernel, rfl⟩
theorem dX12_companyLasts_104 : q_at cX12_companyLasts 104 (.sipush 999) 3 107 := ⟨by decide +kernel, rfl⟩
theorem dX12_companyLasts_107 : q_at cX12_companyLasts 107 (.aload_n 0) 1 108 := ⟨by decide +kernel, rfl⟩
theorem dX12_companyLasts_108 : q_at cX12_companyLasts 108 (.getfield 7) 3 111 := ⟨by decide +kernel, rfl⟩
theorem dX12_companyLasts_111 : q_at cX12_companyLasts 111 (.bipush 8) 2 113 := ⟨by decide +kernel, rfl⟩
theorem dX12_companyLasts_113 : q_at cX12_companyLasts 113 (.iaload) 1 114 := ⟨by decide +kernel, rfl⟩
theorem dX12_companyLasts_114 : q_at cX12_companyLasts 114 (.iload_n 3) 1 115 := ⟨by decide +kernel, rfl⟩
theorem dX12_companyLasts_115 : q_at cX12_companyLasts 115 (.idiv) 1 116 := ⟨by decide +kernel, rfl⟩
theorem dX12_companyLasts_116 : q_at cX12_companyLasts 116 (.invokestatic 138) 3 119 := ⟨by decide +kernel, rfl⟩
theorem dX12_companyLasts_119 : q_at cX12_companyLasts 119 (.ireturn) 1 120 := ⟨by decide +kernel, rfl⟩
theorem dX12_copy_0 : q_at cX12_copy 0 (.iload_n 1) 1 1 := ⟨by decide +kernel, rfl⟩
theorem dX12_copy_1 : q_at cX12_copy 1 (.invokestatic 78) 3 4 := ⟨by decide +kernel, rfl⟩
theorem dX12_copy_4 : q_at cX12_copy 4 (.ifCond .eq 10) 3 7 := ⟨by decide +kernel, rfl⟩
theorem dX12_copy_7 : q_at cX12_copy 7 (.iload_n 3) 1 8 := ⟨by decide +kernel, rfl⟩
theorem dX12_copy_8 : q_at cX12_copy 8 (.invokestatic 78) 3 11 := ⟨by decide +kernel, rfl⟩
theorem dX12_copy_11 : q_at cX12_copy 11 (.ifCond .ne 6) 3 14 := ⟨by decide +kernel, rfl⟩
theorem dX12_copy_14 : q_at cX12_copy 14 (.ldc 90) 2 16 := ⟨by decide +kernel, rfl⟩
theorem dX12_copy_16 : q_at cX12_copy 16 (.ireturn) 1 17 := ⟨by decide +kernel, rfl⟩
theorem dX12_copy_17 : q_at cX12_copy 17 (.aload_n 0) 1 18 := ⟨by decide +kernel, rfl⟩
theorem dX12_copy_18 : q_at cX12_copy 18 (.getfield 19) 3 21 := ⟨by decide +kernel, rfl⟩
theorem dX12_copy_21 : q_at cX12_copy 21 (.iload_n 1) 1 22 := ⟨by decide +kernel, rfl⟩
theorem dX12_copy_22 : q_at cX12_copy 22 (.iaload) 1 23 := ⟨by decide +kernel, rfl⟩
theorem dX12_copy_23 : q_at cX12_copy 23 (.ifCond .lt 12) 3 26 := ⟨by decide +kernel, rfl⟩
theorem dX12_copy_26 : q_at cX12_copy 26 (.aload_n 0) 1 27 := ⟨by decide +kernel, rfl⟩
theorem dX12_copy_27 : q_at cX12_copy 27 (.getfield 19) 3 30 := ⟨by decide +kernel, rfl⟩
theorem dX12_copy_30 : q_at cX12_copy 30 (.iload_n 3) 1 31 := ⟨by decide +kernel, rfl⟩
theorem dX12_copy_31 : q_at cX12_copy 31 (.iaload) 1 32 := ⟨by decide +kernel, rfl⟩
theorem dX12_copy_32 : q_at cX12_copy 32 (.ifCond .ge 7) 3 35 := ⟨by decide +kernel, rfl⟩
theorem dX12_copy_35 : q_at cX12_copy 35 (.ldc_w 378) 3 38 := ⟨by decide +kernel, rfl⟩
theorem dX12_copy_38 : q_at cX12_copy 38 (.ireturn) 1 39 := ⟨by decide +kernel, rfl⟩
theorem dX12_copy_39 : q_at cX12_copy 39 (.aload_n 0) 1 40 := ⟨by decide +kernel, rfl⟩
theorem dX12_copy_40 : q_at cX12_copy 40 (.getfield 19) 3 43 := ⟨by decide +kernel, rfl⟩
theorem dX12_copy_43 : q_at cX12_copy 43 (.iload_n 1) 1 44 := ⟨by decide +kernel, rfl⟩
theorem dX12_copy_44 : q_at cX12_copy 44 (.iaload) 1 45 := ⟨by decide +kernel, rfl⟩
theorem dX12_copy_45 : q_at cX12_copy 45 (.aload_n 0) 1 46 := ⟨by decide +kernel, rfl⟩
theorem dX12_copy_46 : q_at cX12_copy 46 (.getfield 19) 3 49 := ⟨by decide +kernel, rfl⟩
theorem dX12_copy_49 : q_at cX12_copy 49 (.iload_n 3) 1 50 := ⟨by decide +kernel, rfl⟩
theorem dX12_copy_50 : q_at cX12_copy 50 (.iaload) 1 51 := ⟨by decide +kernel, rfl⟩
theorem dX12_copy_51 : q_at cX12_copy 51 (.if_icmp .eq 7) 3 54 := ⟨by decide +kernel, rfl⟩
theorem dX12_copy_54 : q_at cX12_copy 54 (.ldc_w 356) 3 57 := ⟨by decide +kernel, rfl⟩
theorem dX12_copy_57 : q_at cX12_copy 57 (.ireturn) 1 58 := ⟨by decide +kernel, rfl⟩
theorem dX12_copy_58 : q_at cX12_copy 58 (.iload_n 2) 1 59 := ⟨by decide +kernel, rfl⟩
theorem dX12_copy_59 : q_at cX12_copy 59 (.ifCond .lt 48) 3 62 := ⟨by decide +kernel, rfl⟩
theorem dX12_copy_62 : q_at cX12_copy 62 (.iload 4) 2 64 := ⟨by decide +kernel, rfl⟩
theorem dX12_copy_64 : q_at cX12_copy 64 (.ifCond .lt 43) 3 67 := ⟨by decide +kernel, rfl⟩
theorem dX12_copy_67 : q_at cX12_copy 67 (.iload 5) 2 69 := ⟨by decide +kernel, rfl⟩
theorem dX12_copy_69 : q_at cX12_copy 69 (.ifCond .lt 38) 3 72 := ⟨by decide +kernel, rfl⟩
theorem dX12_copy_72 : q_at cX12_copy 72 (.iload_n 2) 1 73 := ⟨by decide +kernel, rfl⟩
theorem dX12_copy_73 : q_at cX12_copy 73 (.i2l) 1 74 := ⟨by decide +kernel, rfl⟩
theorem dX12_copy_74 : q_at cX12_copy 74 (.iload 5) 2 76 := ⟨by decide +kernel, rfl⟩
theorem dX12_copy_76 : q_at cX12_copy 76 (.i2l) 1 77 := ⟨by decide +kernel, rfl⟩
theorem dX12_copy_77 : q_at cX12_copy 77 (.ladd) 1 78 := ⟨by decide +kernel, rfl⟩
theorem dX12_copy_78 : q_at cX12_copy 78 (.aload_n 0) 1 79 := ⟨by decide +kernel, rfl⟩
theorem dX12_copy_79 : q_at cX12_copy 79 (.getfield 22) 3 82 := ⟨by decide +kernel, rfl⟩
theorem dX12_copy_82 : q_at cX12_copy 82 (.iload_n 1) 1 83 := ⟨by decide +kernel, rfl⟩
theorem dX12_copy_83 : q_at cX12_copy 83 (.iaload) 1 84 := ⟨by decide +kernel, rfl⟩
theorem dX12_copy_84 : q_at cX12_copy 84 (.i2l) 1 85 := ⟨by decide +kernel, rfl⟩
theorem dX12_copy_85 : q_at cX12_copy 85 (.lcmp) 1 86 := ⟨by decide +kernel, rfl⟩
theorem dX12_copy_86 : q_at cX12_copy 86 (.ifCond .gt 21) 3 89 := ⟨by decide +kernel, rfl⟩
theorem dX12_copy_89 : q_at cX12_copy 89 (.iload 4) 2 91 := ⟨by decide +kernel, rfl⟩
theorem dX12_copy_91 : q_at cX12_copy 91 (.i2l) 1 92 := ⟨by decide +kernel, rfl⟩
theorem dX12_copy_92 : q_at cX12_copy 92 (.iload 5) 2 94 := ⟨by decide +kernel, rfl⟩
theorem dX12_copy_94 : q_at cX12_copy 94 (.i2l) 1 95 := ⟨by decide +kernel, rfl⟩
theorem dX12_copy_95 : q_at cX12_copy 95 (.ladd) 1 96 := ⟨by decide +kernel, rfl⟩
theorem dX12_copy_96 : q_at cX12_copy 96 (.aload_n 0) 1 97 := ⟨by decide +kernel, rfl⟩
theorem dX12_copy_97 : q_at cX12_copy 97 (.getfield 22) 3 100 := ⟨by decide +kernel, rfl⟩
theorem dX12_copy_100 : q_at cX12_copy 100 (.iload_n 3) 1 101 := ⟨by decide +kernel, rfl⟩
theorem dX12_copy_101 : q_at cX12_copy 101 (.iaload) 1 102 := ⟨by decide +kernel, rfl⟩
theorem dX12_copy_102 : q_at cX12_copy 102 (.i2l) 1 103 := ⟨by decide +kernel, rfl⟩
theorem dX12_copy_103 : q_at cX12_copy 103 (.lcmp) 1 104 := ⟨by decide +kernel, rfl⟩
theorem dX12_copy_104 : q_at cX12_copy 104 (.ifCond .le 7) 3 107 := ⟨by decide +kernel, rfl⟩
theorem dX12_copy_107 : q_at cX12_copy 107 (.ldc_w 379) 3 110 := ⟨by decide +kernel, rfl⟩
theorem dX12_copy_110 : q_at cX12_copy 110 (.ireturn) 1 111 := ⟨by decide +kernel, rfl⟩
theorem dX12_copy_111 : q_at cX12_copy 111 (.iconst 0) 1 112 := ⟨by decide +kernel, rfl⟩
theorem dX12_copy_112 : q_at cX12_copy 112 (.istore 6) 2 114 := ⟨by decide +kernel, rfl⟩
theorem dX12_copy_114 : q_at cX12_copy 114 (.iload 6) 2 116 := ⟨by decide +kernel, rfl⟩
theorem dX12_copy_116 : q_at cX12_copy 116 (.iload 5) 2 118 := ⟨by decide +kernel, rfl⟩
theorem dX12_copy_118 : q_at cX12_copy 118 (.if_icmp .ge 30) 3 121 := ⟨by decide +kernel, rfl⟩
theorem dX12_copy_121 : q_at cX12_copy 121 (.aload_n 0) 1 122 := ⟨by decide +kernel, rfl⟩
theorem dX12_copy_122 : q_at cX12_copy 122 (.getfield 37) 3 125 := ⟨by decide +kernel, rfl⟩
theorem dX12_copy_125 : q_at cX12_copy 125 (.iload 6) 2 127 := ⟨by decide +kernel, rfl⟩
theorem dX12_copy_127 : q_at cX12_copy 127 (.aload_n 0) 1 128 := ⟨by decide +kernel, rfl⟩
theorem dX12_copy_128 : q_at cX12_copy 128 (.getfield 25) 3 131 := ⟨by decide +kernel, rfl⟩
theorem dX12_copy_131 : q_at cX12_copy 131 (.bipush 30) 2 133 := ⟨by decide +kernel, rfl⟩
theorem dX12_copy_133 : q_at cX12_copy 133 (.iload_n 1) 1 134 := ⟨by decide +kernel, rfl⟩
theorem dX12_copy_134 : q_at cX12_copy 134 (.imul) 1 135 := ⟨by decide +kernel, rfl⟩
theorem dX12_copy_135 : q_at cX12_copy 135 (.iload_n 2) 1 136 := ⟨by decide +kernel, rfl⟩
theorem dX12_copy_136 : q_at cX12_copy 136 (.iadd) 1 137 := ⟨by decide +kernel, rfl⟩
theorem dX12_copy_137 : q_at cX12_copy 137 (.iload 6) 2 139 := ⟨by decide +kernel, rfl⟩
theorem dX12_copy_139 : q_at cX12_copy 139 (.iadd) 1 140 := ⟨by decide +kernel, rfl⟩
theorem dX12_copy_140 : q_at cX12_copy 140 (.iaload) 1 141 := ⟨by decide +kernel, rfl⟩
theorem dX12_copy_141 : q_at cX12_copy 141 (.iastore) 1 142 := ⟨by decide +kernel, rfl⟩
theorem dX12_copy_142 : q_at cX12_copy 142 (.iinc 6 1) 3 145 := ⟨by decide +kernel, rfl⟩
theorem dX12_copy_145 : q_at cX12_copy 145 (.goto (-31)) 3 148 := ⟨by decide +kernel, rfl⟩
theorem dX12_copy_148 : q_at cX12_copy 148 (.iconst 0) 1 149 := ⟨by decide +kernel, rfl⟩
theorem dX12_copy_149 : q_at cX12_copy 149 (.istore 6) 2 151 := ⟨by decide +kernel, rfl⟩
theorem dX12_copy_151 : q_at cX12_copy 151 (.iload 6) 2 153 := ⟨by decide +kernel, rfl⟩
theorem dX12_copy_153 : q_at cX12_copy 153 (.iload 5) 2 155 := ⟨by decide +kernel, rfl⟩
theorem dX12_copy_155 : q_at cX12_copy 155 (.if_icmp .ge 31) 3 158 := ⟨by decide +kernel, rfl⟩
theorem dX12_copy_158 : q_at cX12_copy 158 (.aload_n 0) 1 159 := ⟨by decide +kernel, rfl⟩
theorem dX12_copy_159 : q_at cX12_copy 159 (.getfield 25) 3 162 := ⟨by decide +kernel, rfl⟩
theorem dX12_copy_162 : q_at cX12_copy 162 (.bipush 30) 2 164 := ⟨by decide +kernel, rfl⟩
theorem dX12_copy_164 : q_at cX12_copy 164 (.iload_n 3) 1 165 := ⟨by decide +kernel, rfl⟩
theorem dX12_copy_165 : q_at cX12_copy 165 (.imul) 1 166 := ⟨by decide +kernel, rfl⟩
theorem dX12_copy_166 : q_at cX12_copy 166 (.iload 4) 2 168 := ⟨by decide +kernel, rfl⟩
theorem dX12_copy_168 : q_at cX12_copy 168 (.iadd) 1 169 := ⟨by decide +kernel, rfl⟩
theorem dX12_copy_169 : q_at cX12_copy 169 (.iload 6) 2 171 := ⟨by decide +kernel, rfl⟩
theorem dX12_copy_171 : q_at cX12_copy 171 (.iadd) 1 172 := ⟨by decide +kernel, rfl⟩
theorem dX12_copy_172 : q_at cX12_copy 172 (.aload_n 0) 1 173 := ⟨by decide +kernel, rfl⟩
theorem dX12_copy_173 : q_at cX12_copy 173 (.getfield 37) 3 176 := ⟨by decide +kernel, rfl⟩
theorem dX12_copy_176 : q_at cX12_copy 176 (.iload 6) 2 178 := ⟨by decide +kernel, rfl⟩
theorem dX12_copy_178 : q_at cX12_copy 178 (.iaload) 1 179 := ⟨by decide +kernel, rfl⟩
theorem dX12_copy_179 : q_at cX12_copy 179 (.iastore) 1 180 := ⟨by decide +kernel, rfl⟩
theorem dX12_copy_180 : q_at cX12_copy 180 (.iinc 6 1) 3 183 := ⟨by decide +kernel, rfl⟩
theorem dX12_copy_183 : q_at cX12_copy 183 (.goto (-32)) 3 186 := ⟨by decide +kernel, rfl⟩
theorem dX12_copy_186 : q_at cX12_copy 186 (.iload 5) 2 188 := ⟨by decide +kernel, rfl⟩
theorem dX12_copy_188 : q_at cX12_copy 188 (.ireturn) 1 189 := ⟨by decide +kernel, rfl⟩
theorem dX12_dueFor_0 : q_at cX12_dueFor 0 (.aload_n 0) 1 1 := ⟨by decide +kernel, rfl⟩
theorem dX12_dueFor_1 : q_at cX12_dueFor 1 (.iconst 2) 1 2 := ⟨by decide +kernel, rfl⟩
theorem dX12_dueFor_2 : q_at cX12_dueFor 2 (.invokevirtual 313) 3 5 := ⟨by decide +kernel, rfl⟩
theorem dX12_dueFor_5 : q_at cX12_dueFor 5 (.istore_n 2) 1 6 := ⟨by decide +kernel, rfl⟩
theorem dX12_dueFor_6 : q_at cX12_dueFor 6 (.aload_n 0) 1 7 := ⟨by decide +kernel, rfl⟩
theorem dX12_dueFor_7 : q_at cX12_dueFor 7 (.getfield 31) 3 10 := ⟨by decide +kernel, rfl⟩
theorem dX12_dueFor_10 : q_at cX12_dueFor 10 (.bipush 119) 2 12 := ⟨by decide +kernel, rfl⟩
theorem dX12_dueFor_12 : q_at cX12_dueFor 12 (.iload_n 1) 1 13 := ⟨by decide +kernel, rfl⟩
theorem dX12_dueFor_13 : q_at cX12_dueFor 13 (.iastore) 1 14 := ⟨by decide +kernel, rfl⟩
theorem dX12_dueFor_14 : q_at cX12_dueFor 14 (.iload_n 2) 1 15 := ⟨by decide +kernel, rfl⟩
theorem dX12_dueFor_15 : q_at cX12_dueFor 15 (.ifCond .ge 7) 3 18 := ⟨by decide +kernel, rfl⟩
theorem dX12_dueFor_18 : q_at cX12_dueFor 18 (.iconst 1) 1 19 := ⟨by decide +kernel, rfl⟩
theorem dX12_dueFor_19 : q_at cX12_dueFor 19 (.goto 8) 3 22 := ⟨by decide +kernel, rfl⟩
theorem dX12_dueFor_22 : q_at cX12_dueFor 22 (.aload_n 0) 1 23 := ⟨by decide +kernel, rfl⟩
theorem dX12_dueFor_23 : q_at cX12_dueFor 23 (.iload_n 2) 1 24 := ⟨by decide +kernel, rfl⟩
theorem dX12_dueFor_24 : q_at cX12_dueFor 24 (.invokevirtual 322) 3 27 := ⟨by decide +kernel, rfl⟩
theorem dX12_dueFor_27 : q_at cX12_dueFor 27 (.iconst 1) 1 28 := ⟨by decide +kernel, rfl⟩
theorem dX12_dueFor_28 : q_at cX12_dueFor 28 (.bipush 99) 2 30 := ⟨by decide +kernel, rfl⟩
theorem dX12_dueFor_30 : q_at cX12_dueFor 30 (.invokestatic 325) 3 33 := ⟨by decide +kernel, rfl⟩
theorem dX12_dueFor_33 : q_at cX12_dueFor 33 (.ireturn) 1 34 := ⟨by decide +kernel, rfl⟩
def f_X12_becomes (this : Nat) (x1 : Int32) (x2 : Int32) (I : qI) : Option (Int32 × qI) :=
  q_b1 (q_rd I (this + 1) 3580 x1) fun v2 =>
  q_b1 (q_wr I (this + 1) 3580 x1 x2) fun I5 =>
  some (v2, I5)
set_option maxRecDepth 100000 in
set_option maxHeartbeats 4000000 in
theorem s_X12_becomes {l : Launch} {Γ : qC} (hΓ : q_gm Γ) {X : qX} (hX : q_Lay X) {this : Nat} {x1 : Int32} {x2 : Int32} (k_this : q_kd X this = some (14, 42)) {I : qI} {z : Int32 × qI} (h : f_X12_becomes this x1 x2 I = some z) : q_Sem l Γ (q_rm 2 0 0) yX12_becomes cX12_becomes 4 (some .int) [.ref this, .int x1, .int x2] I X (some (.int z.1), z.2, X) := by
  refine q_met (by decide) (Nat.le_of_ble_eq_true rfl) (fun g hg hr => ?_)
  unfold f_X12_becomes at h
  show g 0 0 0 [(0, .ref this), (1, .int x1), (2, .int x2)] [] I X
  refine r_aload_n hg 0 dX12_becomes_0 rfl rfl ?_
  have e1 := ly_12_0 hX k_this
  refine r_getR hg dX12_becomes_1 fl_X12_7 k_this rfl e1.1 ?_
  refine r_iload_n hg 1 dX12_becomes_4 rfl rfl ?_
  obtain ⟨v2, e3, h⟩ := q_b1_some h
  refine r_iald hg dX12_becomes_5 e1.2 e3 ?_
  refine r_istore_n hg (L' := [(3, .int v2), (0, .ref this), (1, .int x1), (2, .int x2)]) dX12_becomes_6 rfl (by decide) rfl ?_
  refine r_aload_n hg 1 dX12_becomes_7 rfl rfl ?_
  have e4 := ly_12_0 hX k_this
  refine r_getR hg dX12_becomes_8 fl_X12_7 k_this rfl e4.1 ?_
  refine r_iload_n hg 2 dX12_becomes_11 rfl rfl ?_
  refine r_iload_n hg 3 dX12_becomes_12 rfl rfl ?_
  obtain ⟨I5, e6, h⟩ := q_b1_some h
  refine r_iast hg dX12_becomes_13 e4.2 e6 ?_
  refine r_iload_n hg 0 dX12_becomes_14 rfl rfl ?_
  exact r_ireturn hr dX12_becomes_15 ⟨Nat.zero_le _, Nat.zero_le _⟩ ⟨_, rfl, rfl⟩ (by cases h; rfl)

def f_X12_blankOf (x0 : Int32) : Option (Int32) :=
  if x0 = (nI 1) then
    some ((-32768))
  else
    some ((-2147483648))
set_option maxRecDepth 100000 in
set_option maxHeartbeats 4000000 in
theorem s_X12_blankOf {l : Launch} {Γ : qC} (hΓ : q_gm Γ) {X : qX} (hX : q_Lay X) {x0 : Int32} {I : qI} {z : Int32} (h : f_X12_blankOf x0 = some z) : q_Sem l Γ (q_rm 2 0 0) yX12_blankOf cX12_blankOf 1 (some .int) [.int x0] I X (some (.int z), I, X) := by
  refine q_met (by decide) (Nat.le_of_ble_eq_true rfl) (fun g hg hr => ?_)
  unfold f_X12_blankOf at h
  show g 0 0 0 [(0, .int x0)] [] I X
  refine r_iload_n hg 0 dX12_blankOf_0 rfl rfl ?_
  refine r_iconst hg dX12_blankOf_1 ci_1 ?_
  refine r_icmp_ne hg 11 dX12_blankOf_2 (by decide) (fun c1 => ?_) (fun c1 => ?_)
  · rw [if_neg c1] at h
    refine r_ldcw hg dX12_blankOf_11 kc_X12_374 ?_
    exact r_ireturn hr dX12_blankOf_14 ⟨Nat.zero_le _, Nat.zero_le _⟩ ⟨_, rfl, rfl⟩ (by cases h; rfl)
  · rw [if_pos (Classical.not_not.mp c1)] at h
    refine r_sipush hg dX12_blankOf_5 cs_m32768 ?_
    refine r_goto hg 14 dX12_blankOf_8 (by decide) ?_
    exact r_ireturn hr dX12_blankOf_14 ⟨Nat.zero_le _, Nat.zero_le _⟩ ⟨_, rfl, rfl⟩ (by cases h; rfl)

def f_X12_dueAt (this : Nat) (x1 : Int32) : Option (Int32) :=
  some (((nI 370) + ((nI 8) * x1)))
set_option maxRecDepth 100000 in
set_option maxHeartbeats 4000000 in
theorem s_X12_dueAt {l : Launch} {Γ : qC} (hΓ : q_gm Γ) {X : qX} (hX : q_Lay X) {this : Nat} {x1 : Int32} (k_this : q_kd X this = some (14, 42)) {I : qI} {z : Int32} (h : f_X12_dueAt this x1 = some z) : q_Sem l Γ (q_rm 2 0 0) yX12_dueAt cX12_dueAt 2 (some .int) [.ref this, .int x1] I X (some (.int z), I, X) := by
  refine q_met (by decide) (Nat.le_of_ble_eq_true rfl) (fun g hg hr => ?_)
  unfold f_X12_dueAt at h
  show g 0 0 0 [(0, .ref this), (1, .int x1)] [] I X
  refine r_sipush hg dX12_dueAt_0 cs_370 ?_
  refine r_bipush hg dX12_dueAt_3 cb_8 ?_
  refine r_iload_n hg 1 dX12_dueAt_5 rfl rfl ?_
  refine r_imul hg dX12_dueAt_6 ?_
  refine r_iadd hg dX12_dueAt_7 ?_
  exact r_ireturn hr dX12_dueAt_8 ⟨Nat.zero_le _, Nat.zero_le _⟩ ⟨_, rfl, rfl⟩ (by cases h; rfl)

def f_X12_dueIs (this : Nat) (x1 : Int32) (x2 : Int32) (I : qI) : Option (qI) :=
  q_b1 (q_wr I (this + 17) 60 (I this 41) x1) fun I2 =>
  q_b1 (q_wr I2 (this + 17) 60 ((I2 this 41) + (nI 1)) x2) fun I5 =>
  q_b1 (some (q_up I5 this 41 ((I5 this 41) + (nI 2)))) fun I7 =>
  some (I7)
set_option maxRecDepth 100000 in
set_option maxHeartbeats 4000000 in
theorem s_X12_dueIs {l : Launch} {Γ : qC} (hΓ : q_gm Γ) {X : qX} (hX : q_Lay X) {this : Nat} {x1 : Int32} {x2 : Int32} (k_this : q_kd X this = some (14, 42)) {I : qI} {z : qI} (h : f_X12_dueIs this x1 x2 I = some z) : q_Sem l Γ (q_rm 2 0 0) yX12_dueIs cX12_dueIs 3 none [.ref this, .int x1, .int x2] I X (none, z, X) := by
  refine q_met (by decide) (Nat.le_of_ble_eq_true rfl) (fun g hg hr => ?_)
  unfold f_X12_dueIs at h
  show g 0 0 0 [(0, .ref this), (1, .int x1), (2, .int x2)] [] I X
  refine r_aload_n hg 0 dX12_dueIs_0 rfl rfl ?_
  have e1 := ly_12_40 hX k_this
  refine r_getR hg dX12_dueIs_1 fl_X12_58 k_this rfl e1.1 ?_
  refine r_aload_n hg 0 dX12_dueIs_4 rfl rfl ?_
  refine r_getI hg dX12_dueIs_5 fl_X12_434 k_this rfl ?_
  refine r_iload_n hg 1 dX12_dueIs_8 rfl rfl ?_
  obtain ⟨I2, e3, h⟩ := q_b1_some h
  refine r_iast hg dX12_dueIs_9 e1.2 e3 ?_
  refine r_aload_n hg 0 dX12_dueIs_10 rfl rfl ?_
  have e4 := ly_12_40 hX k_this
  refine r_getR hg dX12_dueIs_11 fl_X12_58 k_this rfl e4.1 ?_
  refine r_aload_n hg 0 dX12_dueIs_14 rfl rfl ?_
  refine r_getI hg dX12_dueIs_15 fl_X12_434 k_this rfl ?_
  refine r_iconst hg dX12_dueIs_18 ci_1 ?_
  refine r_iadd hg dX12_dueIs_19 ?_
  refine r_iload_n hg 2 dX12_dueIs_20 rfl rfl ?_
  obtain ⟨I5, e6, h⟩ := q_b1_some h
  refine r_iast hg dX12_dueIs_21 e4.2 e6 ?_
  refine r_aload_n hg 0 dX12_dueIs_22 rfl rfl ?_
  refine r_dup hg dX12_dueIs_23 rfl ?_
  refine r_getI hg dX12_dueIs_24 fl_X12_434 k_this rfl ?_
  refine r_iconst hg dX12_dueIs_27 ci_2 ?_
  refine r_iadd hg dX12_dueIs_28 ?_
  obtain ⟨I7, e8, h⟩ := q_b1_some h
  obtain rfl := Option.some.inj e8
  refine r_putI hg dX12_dueIs_29 fl_X12_434 k_this rfl ⟨rfl, rfl⟩ ?_
  exact r_return hr dX12_dueIs_32 ⟨Nat.zero_le _, Nat.zero_le _⟩ rfl (by cases h; rfl)

def b_X12_feed_47 (this : Nat) (x1 : Int32) (x2 : Int32) (x3 : Int32) (k18 : Int32 → qI → Option (Int32 × qI)) (x4 : Int32) (s0 : Int32) (I : qI) : Option (Int32 × qI) :=
  q_b1 (q_wr I (this + 7) 96 (I this 14) ((s0 >>> (((nI 24) - ((nI 8) * (q_rem x4 (nI 4)))) &&& 31)) &&& (nI 255))) fun I2 =>
  q_b1 (some (q_up I2 this 14 ((I2 this 14) + (nI 1)))) fun I4 =>
  k18 (x4 + (nI 1)) I4
set_option maxRecDepth 100000 in
set_option maxHeartbeats 4000000 in
theorem p_X12_feed_47 {l : Launch} {Γ : qC} {g : qG} {z : Int32 × qI} {this : Nat} {x1 : Int32} {x2 : Int32} {x3 : Int32} {X : qX} (hΓ : q_gm Γ) (hg : q_Ok l Γ RX12 cX12_feed 6 (q_rm 2 0 0) "feed" (some .int) g) (hr : q_Rt cX12_feed (some .int) (q_rm 2 0 0) (some (.int z.1), z.2, X) g) (hX : q_Lay X) (k_this : q_kd X this = some (14, 42)) {k18 : Int32 → qI → Option (Int32 × qI)} (hk18 : ∀ (x4 : Int32) (I : qI), k18 x4 I = some z → g 0 0 18 [(0, .ref this), (1, .int x1), (2, .int x2), (3, .int x3), (4, .int x4)] [] I X) (x4 : Int32) (s0 : Int32) (I : qI) (h : b_X12_feed_47 this x1 x2 x3 k18 x4 s0 I = some z) : g 0 0 47 [(0, .ref this), (1, .int x1), (2, .int x2), (3, .int x3), (4, .int x4)] [.int s0] I X := by
  unfold b_X12_feed_47 at h
  refine r_istore hg (L' := [(5, .int s0), (0, .ref this), (1, .int x1), (2, .int x2), (3, .int x3), (4, .int x4)]) dX12_feed_47 (by decide) rfl ?_
  refine r_aload_n hg 1 dX12_feed_49 rfl rfl ?_
  have e1 := ly_12_13 hX k_this
  refine r_getR hg dX12_feed_50 fl_X12_28 k_this rfl e1.1 ?_
  refine r_aload_n hg 1 dX12_feed_53 rfl rfl ?_
  refine r_getI hg dX12_feed_54 fl_X12_215 k_this rfl ?_
  refine r_iload hg 0 dX12_feed_57 rfl ?_
  refine r_bipush hg dX12_feed_59 cb_24 ?_
  refine r_bipush hg dX12_feed_61 cb_8 ?_
  refine r_iload hg 5 dX12_feed_63 rfl ?_
  refine r_iconst hg dX12_feed_65 ci_4 ?_
  refine r_iremq hg dX12_feed_66 nz_4 ?_
  refine r_imul hg dX12_feed_67 ?_
  refine r_isub hg dX12_feed_68 ?_
  refine r_ishr hg dX12_feed_69 ?_
  refine r_sipush hg dX12_feed_70 cs_255 ?_
  refine r_iand hg dX12_feed_73 ?_
  obtain ⟨I2, e3, h⟩ := q_b1_some h
  refine r_iast hg dX12_feed_74 e1.2 e3 ?_
  refine r_aload_n hg 1 dX12_feed_75 rfl rfl ?_
  refine r_dup hg dX12_feed_76 rfl ?_
  refine r_getI hg dX12_feed_77 fl_X12_215 k_this rfl ?_
  refine r_iconst hg dX12_feed_80 ci_1 ?_
  refine r_iadd hg dX12_feed_81 ?_
  obtain ⟨I4, e5, h⟩ := q_b1_some h
  obtain rfl := Option.some.inj e5
  refine r_putI hg dX12_feed_82 fl_X12_215 k_this rfl ⟨rfl, rfl⟩ ?_
  refine r_iinc hg 5 (v := (x4 + (nI 1))) (L' := [(4, .int (x4 + (nI 1))), (5, .int s0), (0, .ref this), (1, .int x1), (2, .int x2), (3, .int x3)]) dX12_feed_85 rfl (by rw [ci_1]) (by decide) rfl ?_
  refine r_goto hg 18 dX12_feed_88 (by decide) ?_
  refine r_sub hg [2, 3, 4, 5, 0] rfl ?_
  exact hk18 _ _ h
def b_X12_feed_18 (this : Nat) (x1 : Int32) (x2 : Int32) (x3 : Int32) (k18 : Int32 → qI → Option (Int32 × qI)) (x4 : Int32) (I : qI) : Option (Int32 × qI) :=
  if (nI 12) ≤ x4 then
    some ((I this 14), I)
  else
    if (nI 4) ≤ x4 then
      if (nI 8) ≤ x4 then
        b_X12_feed_47 this x1 x2 x3 k18 x4 x3 I
      else
        b_X12_feed_47 this x1 x2 x3 k18 x4 x2 I
    else
      b_X12_feed_47 this x1 x2 x3 k18 x4 x1 I
set_option maxRecDepth 100000 in
set_option maxHeartbeats 4000000 in
theorem p_X12_feed_18 {l : Launch} {Γ : qC} {g : qG} {z : Int32 × qI} {this : Nat} {x1 : Int32} {x2 : Int32} {x3 : Int32} {X : qX} (hΓ : q_gm Γ) (hg : q_Ok l Γ RX12 cX12_feed 6 (q_rm 2 0 0) "feed" (some .int) g) (hr : q_Rt cX12_feed (some .int) (q_rm 2 0 0) (some (.int z.1), z.2, X) g) (hX : q_Lay X) (k_this : q_kd X this = some (14, 42)) {k18 : Int32 → qI → Option (Int32 × qI)} (hk18 : ∀ (x4 : Int32) (I : qI), k18 x4 I = some z → g 0 0 18 [(0, .ref this), (1, .int x1), (2, .int x2), (3, .int x3), (4, .int x4)] [] I X) (x4 : Int32) (I : qI) (h : b_X12_feed_18 this x1 x2 x3 k18 x4 I = some z) : g 0 0 18 [(0, .ref this), (1, .int x1), (2, .int x2), (3, .int x3), (4, .int x4)] [] I X := by
  unfold b_X12_feed_18 at h
  refine r_iload hg 4 dX12_feed_18 rfl ?_
  refine r_bipush hg dX12_feed_20 cb_12 ?_
  refine r_icmp_ge hg 91 dX12_feed_22 (by decide) (fun c1 => ?_) (fun c1 => ?_)
  · rw [if_pos c1] at h
    refine r_aload_n hg 0 dX12_feed_91 rfl rfl ?_
    refine r_getI hg dX12_feed_92 fl_X12_215 k_this rfl ?_
    exact r_ireturn hr dX12_feed_95 ⟨Nat.zero_le _, Nat.zero_le _⟩ ⟨_, rfl, rfl⟩ (by cases h; rfl)
  · rw [if_neg c1] at h
    refine r_iload hg 4 dX12_feed_25 rfl ?_
    refine r_iconst hg dX12_feed_27 ci_4 ?_
    refine r_icmp_ge hg 35 dX12_feed_28 (by decide) (fun c2 => ?_) (fun c2 => ?_)
    · rw [if_pos c2] at h
      refine r_iload hg 4 dX12_feed_35 rfl ?_
      refine r_bipush hg dX12_feed_37 cb_8 ?_
      refine r_icmp_ge hg 46 dX12_feed_39 (by decide) (fun c3 => ?_) (fun c3 => ?_)
      · rw [if_pos c3] at h
        refine r_iload_n hg 3 dX12_feed_46 rfl rfl ?_
        exact p_X12_feed_47 hΓ hg hr hX k_this hk18 _ _ _ h
      · rw [if_neg c3] at h
        refine r_iload_n hg 2 dX12_feed_42 rfl rfl ?_
        refine r_goto hg 47 dX12_feed_43 (by decide) ?_
        exact p_X12_feed_47 hΓ hg hr hX k_this hk18 _ _ _ h
    · rw [if_neg c2] at h
      refine r_iload_n hg 1 dX12_feed_31 rfl rfl ?_
      refine r_goto hg 47 dX12_feed_32 (by decide) ?_
      exact p_X12_feed_47 hΓ hg hr hX k_this hk18 _ _ _ h
theorem pl_X12_feed_18 {l : Launch} {Γ : qC} {g : qG} {z : Int32 × qI} {this : Nat} {x1 : Int32} {x2 : Int32} {x3 : Int32} {X : qX} (hΓ : q_gm Γ) (hg : q_Ok l Γ RX12 cX12_feed 6 (q_rm 2 0 0) "feed" (some .int) g) (hr : q_Rt cX12_feed (some .int) (q_rm 2 0 0) (some (.int z.1), z.2, X) g) (hX : q_Lay X) (k_this : q_kd X this = some (14, 42)) : ∀ (n : Nat) (x4 : Int32) (I : qI), q_fix (fun _ _ => none) (b_X12_feed_18 this x1 x2 x3) n x4 I = some z → g 0 0 18 [(0, .ref this), (1, .int x1), (2, .int x2), (3, .int x3), (4, .int x4)] [] I X := by
  intro n
  induction n with
  | zero =>
    intro x4 I h
    cases (show (none : Option (Int32 × qI)) = some z from h)
  | succ n ih =>
    intro x4 I h
    exact p_X12_feed_18 hΓ hg hr hX k_this ih _ _ h
def f_X12_feed (this : Nat) (x1 : Int32) (x2 : Int32) (x3 : Int32) (I : qI) : Option (Int32 × qI) :=
  if ((I this 14) + (nI 12)) ≤ (nI 96) then
    q_fix (fun _ _ => none) (b_X12_feed_18 this x1 x2 x3) q_fu (nI 0) I
  else
    some ((-1000000003), I)
set_option maxRecDepth 100000 in
set_option maxHeartbeats 4000000 in
theorem s_X12_feed {l : Launch} {Γ : qC} (hΓ : q_gm Γ) {X : qX} (hX : q_Lay X) {this : Nat} {x1 : Int32} {x2 : Int32} {x3 : Int32} (k_this : q_kd X this = some (14, 42)) {I : qI} {z : Int32 × qI} (h : f_X12_feed this x1 x2 x3 I = some z) : q_Sem l Γ (q_rm 2 0 0) yX12_feed cX12_feed 6 (some .int) [.ref this, .int x1, .int x2, .int x3] I X (some (.int z.1), z.2, X) := by
  refine q_met (by decide) (Nat.le_of_ble_eq_true rfl) (fun g hg hr => ?_)
  unfold f_X12_feed at h
  show g 0 0 0 [(0, .ref this), (1, .int x1), (2, .int x2), (3, .int x3)] [] I X
  refine r_aload_n hg 0 dX12_feed_0 rfl rfl ?_
  refine r_getI hg dX12_feed_1 fl_X12_215 k_this rfl ?_
  refine r_bipush hg dX12_feed_4 cb_12 ?_
  refine r_iadd hg dX12_feed_6 ?_
  refine r_bipush hg dX12_feed_7 cb_96 ?_
  refine r_icmp_le hg 15 dX12_feed_9 (by decide) (fun c1 => ?_) (fun c1 => ?_)
  · rw [if_pos c1] at h
    refine r_iconst hg dX12_feed_15 ci_0 ?_
    refine r_istore hg (L' := [(4, .int (nI 0)), (0, .ref this), (1, .int x1), (2, .int x2), (3, .int x3)]) dX12_feed_16 (by decide) rfl ?_
    refine r_sub hg [1, 2, 3, 4, 0] rfl ?_
    exact pl_X12_feed_18 hΓ hg hr hX k_this _ _ _ h
  · rw [if_neg c1] at h
    refine r_ldc hg dX12_feed_12 kc_X12_98 ?_
    exact r_ireturn hr dX12_feed_14 ⟨Nat.zero_le _, Nat.zero_le _⟩ ⟨_, rfl, rfl⟩ (by cases h; rfl)

def f_X12_held (x0 : Int32) (x1 : Int32) (x2 : Int32) : Option (Int32) :=
  if x1 ≤ x0 then
    if x0 ≤ x2 then
      some (x0)
    else
      some (x2)
  else
    some (x1)
set_option maxRecDepth 100000 in
set_option maxHeartbeats 4000000 in
theorem s_X12_held {l : Launch} {Γ : qC} (hΓ : q_gm Γ) {X : qX} (hX : q_Lay X) {x0 : Int32} {x1 : Int32} {x2 : Int32} {I : qI} {z : Int32} (h : f_X12_held x0 x1 x2 = some z) : q_Sem l Γ (q_rm 2 0 0) yX12_held cX12_held 3 (some .int) [.int x0, .int x1, .int x2] I X (some (.int z), I, X) := by
  refine q_met (by decide) (Nat.le_of_ble_eq_true rfl) (fun g hg hr => ?_)
  unfold f_X12_held at h
  show g 0 0 0 [(0, .int x0), (1, .int x1), (2, .int x2)] [] I X
  refine r_iload_n hg 0 dX12_held_0 rfl rfl ?_
  refine r_iload_n hg 1 dX12_held_1 rfl rfl ?_
  refine r_icmp_ge hg 9 dX12_held_2 (by decide) (fun c1 => ?_) (fun c1 => ?_)
  · rw [if_pos c1] at h
    refine r_iload_n hg 0 dX12_held_9 rfl rfl ?_
    refine r_iload_n hg 2 dX12_held_10 rfl rfl ?_
    refine r_icmp_le hg 18 dX12_held_11 (by decide) (fun c2 => ?_) (fun c2 => ?_)
    · rw [if_pos c2] at h
      refine r_iload_n hg 0 dX12_held_18 rfl rfl ?_
      exact r_ireturn hr dX12_held_19 ⟨Nat.zero_le _, Nat.zero_le _⟩ ⟨_, rfl, rfl⟩ (by cases h; rfl)
    · rw [if_neg c2] at h
      refine r_iload_n hg 2 dX12_held_14 rfl rfl ?_
      refine r_goto hg 19 dX12_held_15 (by decide) ?_
      exact r_ireturn hr dX12_held_19 ⟨Nat.zero_le _, Nat.zero_le _⟩ ⟨_, rfl, rfl⟩ (by cases h; rfl)
  · rw [if_neg c1] at h
    refine r_iload_n hg 1 dX12_held_5 rfl rfl ?_
    refine r_goto hg 19 dX12_held_6 (by decide) ?_
    exact r_ireturn hr dX12_held_19 ⟨Nat.zero_le _, Nat.zero_le _⟩ ⟨_, rfl, rfl⟩ (by cases h; rfl)

def f_X12_isIn (x0 : Int64) (x2 : Int64) (x4 : Int64) : Option (Int32) :=
  if (lg_cmp x0 x2) < 0 then
    some ((nI 0))
  else
    if 0 < (lg_cmp x0 x4) then
      some ((nI 0))
    else
      some ((nI 1))
set_option maxRecDepth 100000 in
set_option maxHeartbeats 4000000 in
theorem s_X12_isIn {l : Launch} {Γ : qC} (hΓ : q_gm Γ) {X : qX} (hX : q_Lay X) {x0 : Int64} {x2 : Int64} {x4 : Int64} {I : qI} {z : Int32} (h : f_X12_isIn x0 x2 x4 = some z) : q_Sem l Γ (q_rm 2 0 0) yX12_isIn cX12_isIn 6 (some .boolean) [.long x0, .long x2, .long x4] I X (some (.int z), I, X) := by
  refine q_met (by decide) (Nat.le_of_ble_eq_true rfl) (fun g hg hr => ?_)
  unfold f_X12_isIn at h
  show g 0 0 0 [(0, .long x0), (2, .long x2), (4, .long x4)] [] I X
  refine r_lload_n hg 0 dX12_isIn_0 rfl rfl ?_
  refine r_lload_n hg 1 dX12_isIn_1 rfl rfl ?_
  refine r_lcmp hg dX12_isIn_2 ?_
  refine r_if_lt hg 17 dX12_isIn_3 (by decide) (fun c1 => ?_) (fun c1 => ?_)
  · rw [if_pos c1] at h
    refine r_iconst hg dX12_isIn_17 ci_0 ?_
    exact r_ireturn hr dX12_isIn_18 ⟨Nat.zero_le _, Nat.zero_le _⟩ ⟨_, rfl, bz_0.1⟩ (by cases h; rfl)
  · rw [if_neg c1] at h
    refine r_lload_n hg 0 dX12_isIn_6 rfl rfl ?_
    refine r_lload hg 2 dX12_isIn_7 rfl ?_
    refine r_lcmp hg dX12_isIn_9 ?_
    refine r_if_gt hg 17 dX12_isIn_10 (by decide) (fun c2 => ?_) (fun c2 => ?_)
    · rw [if_pos c2] at h
      refine r_iconst hg dX12_isIn_17 ci_0 ?_
      exact r_ireturn hr dX12_isIn_18 ⟨Nat.zero_le _, Nat.zero_le _⟩ ⟨_, rfl, bz_0.1⟩ (by cases h; rfl)
    · rw [if_neg c2] at h
      refine r_iconst hg dX12_isIn_13 ci_1 ?_
      refine r_goto hg 18 dX12_isIn_14 (by decide) ?_
      exact r_ireturn hr dX12_isIn_18 ⟨Nat.zero_le _, Nat.zero_le _⟩ ⟨_, rfl, bz_1.1⟩ (by cases h; rfl)

def f_X12_isName (x0 : Int32) (x1 : Int32) : Option (Int32) :=
  if x0 = (nI 0) then
    if x1 = (nI 116) then
      some ((nI 1))
    else
      if x1 = (nI 115) then
        some ((nI 1))
      else
        some ((nI 0))
  else
  if x0 = (nI 1) then
    if x1 = (nI 101) then
      some ((nI 1))
    else
      some ((nI 0))
  else
  if x0 = (nI 2) then
    if x1 = (nI 119) then
      some ((nI 1))
    else
      some ((nI 0))
  else
  if x0 = (nI 3) then
    if x1 = (nI 108) then
      some ((nI 1))
    else
      if x1 = (nI 119) then
        some ((nI 1))
      else
        some ((nI 0))
  else
  if x0 = (nI 4) then
    if x1 = (nI 97) then
      some ((nI 1))
    else
      if x1 = (nI 98) then
        some ((nI 1))
      else
        some ((nI 0))
  else
  if x0 = (nI 5) then
    if x1 = (nI 98) then
      some ((nI 1))
    else
      if x1 = (nI 100) then
        some ((nI 1))
      else
        some ((nI 0))
  else
  if x1 = (nI 109) then
    some ((nI 1))
  else
    if x1 = (nI 112) then
      some ((nI 1))
    else
      if x1 = (nI 116) then
        some ((nI 1))
      else
        some ((nI 0))
set_option maxRecDepth 100000 in
set_option maxHeartbeats 4000000 in
theorem s_X12_isName {l : Launch} {Γ : qC} (hΓ : q_gm Γ) {X : qX} (hX : q_Lay X) {x0 : Int32} {x1 : Int32} {I : qI} {z : Int32} (h : f_X12_isName x0 x1 = some z) : q_Sem l Γ (q_rm 2 0 0) yX12_isName cX12_isName 2 (some .boolean) [.int x0, .int x1] I X (some (.int z), I, X) := by
  refine q_met (by decide) (Nat.le_of_ble_eq_true rfl) (fun g hg hr => ?_)
  unfold f_X12_isName at h
  show g 0 0 0 [(0, .int x0), (1, .int x1)] [] I X
  refine r_iload_n hg 0 dX12_isName_0 rfl rfl ?_
  by_cases c1 : x0 = (nI 0)
  · rw [if_pos c1] at h
    refine r_tab hg 40 dX12_isName_1 rfl (by rw [c1] <;> decide +kernel) (by decide) ?_
    refine r_iload_n hg 1 dX12_isName_40 rfl rfl ?_
    refine r_bipush hg dX12_isName_41 cb_116 ?_
    refine r_icmp_eq hg 52 dX12_isName_43 (by decide) (fun c2 => ?_) (fun c2 => ?_)
    · rw [if_pos c2] at h
      refine r_iconst hg dX12_isName_52 ci_1 ?_
      refine r_goto hg 57 dX12_isName_53 (by decide) ?_
      exact r_ireturn hr dX12_isName_57 ⟨Nat.zero_le _, Nat.zero_le _⟩ ⟨_, rfl, bz_1.1⟩ (by cases h; rfl)
    · rw [if_neg c2] at h
      refine r_iload_n hg 1 dX12_isName_46 rfl rfl ?_
      refine r_bipush hg dX12_isName_47 cb_115 ?_
      refine r_icmp_ne hg 56 dX12_isName_49 (by decide) (fun c3 => ?_) (fun c3 => ?_)
      · rw [if_neg c3] at h
        refine r_iconst hg dX12_isName_56 ci_0 ?_
        exact r_ireturn hr dX12_isName_57 ⟨Nat.zero_le _, Nat.zero_le _⟩ ⟨_, rfl, bz_0.1⟩ (by cases h; rfl)
      · rw [if_pos (Classical.not_not.mp c3)] at h
        refine r_iconst hg dX12_isName_52 ci_1 ?_
        refine r_goto hg 57 dX12_isName_53 (by decide) ?_
        exact r_ireturn hr dX12_isName_57 ⟨Nat.zero_le _, Nat.zero_le _⟩ ⟨_, rfl, bz_1.1⟩ (by cases h; rfl)
  rw [if_neg c1] at h
  by_cases c4 : x0 = (nI 1)
  · rw [if_pos c4] at h
    refine r_tab hg 58 dX12_isName_1 rfl (by rw [c4] <;> decide +kernel) (by decide) ?_
    refine r_iload_n hg 1 dX12_isName_58 rfl rfl ?_
    refine r_bipush hg dX12_isName_59 cb_101 ?_
    refine r_icmp_ne hg 68 dX12_isName_61 (by decide) (fun c5 => ?_) (fun c5 => ?_)
    · rw [if_neg c5] at h
      refine r_iconst hg dX12_isName_68 ci_0 ?_
      exact r_ireturn hr dX12_isName_69 ⟨Nat.zero_le _, Nat.zero_le _⟩ ⟨_, rfl, bz_0.1⟩ (by cases h; rfl)
    · rw [if_pos (Classical.not_not.mp c5)] at h
      refine r_iconst hg dX12_isName_64 ci_1 ?_
      refine r_goto hg 69 dX12_isName_65 (by decide) ?_
      exact r_ireturn hr dX12_isName_69 ⟨Nat.zero_le _, Nat.zero_le _⟩ ⟨_, rfl, bz_1.1⟩ (by cases h; rfl)
  rw [if_neg c4] at h
  by_cases c6 : x0 = (nI 2)
  · rw [if_pos c6] at h
    refine r_tab hg 70 dX12_isName_1 rfl (by rw [c6] <;> decide +kernel) (by decide) ?_
    refine r_iload_n hg 1 dX12_isName_70 rfl rfl ?_
    refine r_bipush hg dX12_isName_71 cb_119 ?_
    refine r_icmp_ne hg 80 dX12_isName_73 (by decide) (fun c7 => ?_) (fun c7 => ?_)
    · rw [if_neg c7] at h
      refine r_iconst hg dX12_isName_80 ci_0 ?_
      exact r_ireturn hr dX12_isName_81 ⟨Nat.zero_le _, Nat.zero_le _⟩ ⟨_, rfl, bz_0.1⟩ (by cases h; rfl)
    · rw [if_pos (Classical.not_not.mp c7)] at h
      refine r_iconst hg dX12_isName_76 ci_1 ?_
      refine r_goto hg 81 dX12_isName_77 (by decide) ?_
      exact r_ireturn hr dX12_isName_81 ⟨Nat.zero_le _, Nat.zero_le _⟩ ⟨_, rfl, bz_1.1⟩ (by cases h; rfl)
  rw [if_neg c6] at h
  by_cases c8 : x0 = (nI 3)
  · rw [if_pos c8] at h
    refine r_tab hg 82 dX12_isName_1 rfl (by rw [c8] <;> decide +kernel) (by decide) ?_
    refine r_iload_n hg 1 dX12_isName_82 rfl rfl ?_
    refine r_bipush hg dX12_isName_83 cb_108 ?_
    refine r_icmp_eq hg 94 dX12_isName_85 (by decide) (fun c9 => ?_) (fun c9 => ?_)
    · rw [if_pos c9] at h
      refine r_iconst hg dX12_isName_94 ci_1 ?_
      refine r_goto hg 99 dX12_isName_95 (by decide) ?_
      exact r_ireturn hr dX12_isName_99 ⟨Nat.zero_le _, Nat.zero_le _⟩ ⟨_, rfl, bz_1.1⟩ (by cases h; rfl)
    · rw [if_neg c9] at h
      refine r_iload_n hg 1 dX12_isName_88 rfl rfl ?_
      refine r_bipush hg dX12_isName_89 cb_119 ?_
      refine r_icmp_ne hg 98 dX12_isName_91 (by decide) (fun c10 => ?_) (fun c10 => ?_)
      · rw [if_neg c10] at h
        refine r_iconst hg dX12_isName_98 ci_0 ?_
        exact r_ireturn hr dX12_isName_99 ⟨Nat.zero_le _, Nat.zero_le _⟩ ⟨_, rfl, bz_0.1⟩ (by cases h; rfl)
      · rw [if_pos (Classical.not_not.mp c10)] at h
        refine r_iconst hg dX12_isName_94 ci_1 ?_
        refine r_goto hg 99 dX12_isName_95 (by decide) ?_
        exact r_ireturn hr dX12_isName_99 ⟨Nat.zero_le _, Nat.zero_le _⟩ ⟨_, rfl, bz_1.1⟩ (by cases h; rfl)
  rw [if_neg c8] at h
  by_cases c11 : x0 = (nI 4)
  · rw [if_pos c11] at h
    refine r_tab hg 100 dX12_isName_1 rfl (by rw [c11] <;> decide +kernel) (by decide) ?_
    refine r_iload_n hg 1 dX12_isName_100 rfl rfl ?_
    refine r_bipush hg dX12_isName_101 cb_97 ?_
    refine r_icmp_eq hg 112 dX12_isName_103 (by decide) (fun c12 => ?_) (fun c12 => ?_)
    · rw [if_pos c12] at h
      refine r_iconst hg dX12_isName_112 ci_1 ?_
      refine r_goto hg 117 dX12_isName_113 (by decide) ?_
      exact r_ireturn hr dX12_isName_117 ⟨Nat.zero_le _, Nat.zero_le _⟩ ⟨_, rfl, bz_1.1⟩ (by cases h; rfl)
    · rw [if_neg c12] at h
      refine r_iload_n hg 1 dX12_isName_106 rfl rfl ?_
      refine r_bipush hg dX12_isName_107 cb_98 ?_
      refine r_icmp_ne hg 116 dX12_isName_109 (by decide) (fun c13 => ?_) (fun c13 => ?_)
      · rw [if_neg c13] at h
        refine r_iconst hg dX12_isName_116 ci_0 ?_
        exact r_ireturn hr dX12_isName_117 ⟨Nat.zero_le _, Nat.zero_le _⟩ ⟨_, rfl, bz_0.1⟩ (by cases h; rfl)
      · rw [if_pos (Classical.not_not.mp c13)] at h
        refine r_iconst hg dX12_isName_112 ci_1 ?_
        refine r_goto hg 117 dX12_isName_113 (by decide) ?_
        exact r_ireturn hr dX12_isName_117 ⟨Nat.zero_le _, Nat.zero_le _⟩ ⟨_, rfl, bz_1.1⟩ (by cases h; rfl)
  rw [if_neg c11] at h
  by_cases c14 : x0 = (nI 5)
  · rw [if_pos c14] at h
    refine r_tab hg 118 dX12_isName_1 rfl (by rw [c14] <;> decide +kernel) (by decide) ?_
    refine r_iload_n hg 1 dX12_isName_118 rfl rfl ?_
    refine r_bipush hg dX12_isName_119 cb_98 ?_
    refine r_icmp_eq hg 130 dX12_isName_121 (by decide) (fun c15 => ?_) (fun c15 => ?_)
    · rw [if_pos c15] at h
      refine r_iconst hg dX12_isName_130 ci_1 ?_
      refine r_goto hg 135 dX12_isName_131 (by decide) ?_
      exact r_ireturn hr dX12_isName_135 ⟨Nat.zero_le _, Nat.zero_le _⟩ ⟨_, rfl, bz_1.1⟩ (by cases h; rfl)
    · rw [if_neg c15] at h
      refine r_iload_n hg 1 dX12_isName_124 rfl rfl ?_
      refine r_bipush hg dX12_isName_125 cb_100 ?_
      refine r_icmp_ne hg 134 dX12_isName_127 (by decide) (fun c16 => ?_) (fun c16 => ?_)
      · rw [if_neg c16] at h
        refine r_iconst hg dX12_isName_134 ci_0 ?_
        exact r_ireturn hr dX12_isName_135 ⟨Nat.zero_le _, Nat.zero_le _⟩ ⟨_, rfl, bz_0.1⟩ (by cases h; rfl)
      · rw [if_pos (Classical.not_not.mp c16)] at h
        refine r_iconst hg dX12_isName_130 ci_1 ?_
        refine r_goto hg 135 dX12_isName_131 (by decide) ?_
        exact r_ireturn hr dX12_isName_135 ⟨Nat.zero_le _, Nat.zero_le _⟩ ⟨_, rfl, bz_1.1⟩ (by cases h; rfl)
  rw [if_neg c14] at h
  refine r_tab hg 136 dX12_isName_1 rfl (q_tab_d (fun k hk ho => ?_)) (by decide) ?_
  · have hk : k < 6 := hk
    rcases (show k = 0 ∨ k = 1 ∨ k = 2 ∨ k = 3 ∨ k = 4 ∨ k = 5 by omega) with rfl | rfl | rfl | rfl | rfl | rfl
    · exact lv_neT c1 (by decide +kernel)
    · exact lv_neT c4 (by decide +kernel)
    · exact lv_neT c6 (by decide +kernel)
    · exact lv_neT c8 (by decide +kernel)
    · exact lv_neT c11 (by decide +kernel)
    · exact lv_neT c14 (by decide +kernel)
  refine r_iload_n hg 1 dX12_isName_136 rfl rfl ?_
  refine r_bipush hg dX12_isName_137 cb_109 ?_
  refine r_icmp_eq hg 154 dX12_isName_139 (by decide) (fun c17 => ?_) (fun c17 => ?_)
  · rw [if_pos c17] at h
    refine r_iconst hg dX12_isName_154 ci_1 ?_
    refine r_goto hg 159 dX12_isName_155 (by decide) ?_
    exact r_ireturn hr dX12_isName_159 ⟨Nat.zero_le _, Nat.zero_le _⟩ ⟨_, rfl, bz_1.1⟩ (by cases h; rfl)
  · rw [if_neg c17] at h
    refine r_iload_n hg 1 dX12_isName_142 rfl rfl ?_
    refine r_bipush hg dX12_isName_143 cb_112 ?_
    refine r_icmp_eq hg 154 dX12_isName_145 (by decide) (fun c18 => ?_) (fun c18 => ?_)
    · rw [if_pos c18] at h
      refine r_iconst hg dX12_isName_154 ci_1 ?_
      refine r_goto hg 159 dX12_isName_155 (by decide) ?_
      exact r_ireturn hr dX12_isName_159 ⟨Nat.zero_le _, Nat.zero_le _⟩ ⟨_, rfl, bz_1.1⟩ (by cases h; rfl)
    · rw [if_neg c18] at h
      refine r_iload_n hg 1 dX12_isName_148 rfl rfl ?_
      refine r_bipush hg dX12_isName_149 cb_116 ?_
      refine r_icmp_ne hg 158 dX12_isName_151 (by decide) (fun c19 => ?_) (fun c19 => ?_)
      · rw [if_neg c19] at h
        refine r_iconst hg dX12_isName_158 ci_0 ?_
        exact r_ireturn hr dX12_isName_159 ⟨Nat.zero_le _, Nat.zero_le _⟩ ⟨_, rfl, bz_0.1⟩ (by cases h; rfl)
      · rw [if_pos (Classical.not_not.mp c19)] at h
        refine r_iconst hg dX12_isName_154 ci_1 ?_
        refine r_goto hg 159 dX12_isName_155 (by decide) ?_
        exact r_ireturn hr dX12_isName_159 ⟨Nat.zero_le _, Nat.zero_le _⟩ ⟨_, rfl, bz_1.1⟩ (by cases h; rfl)

def f_X12_isSign (this : Nat) (x1 : Int32) (I : qI) : Option (Int32) :=
  if (I this 17) = (nI 3) then
    if (I this 19) = x1 then
      some ((nI 1))
    else
      some ((nI 0))
  else
    some ((nI 0))
set_option maxRecDepth 100000 in
set_option maxHeartbeats 4000000 in
theorem s_X12_isSign {l : Launch} {Γ : qC} (hΓ : q_gm Γ) {X : qX} (hX : q_Lay X) {this : Nat} {x1 : Int32} (k_this : q_kd X this = some (14, 42)) {I : qI} {z : Int32} (h : f_X12_isSign this x1 I = some z) : q_Sem l Γ (q_rm 2 0 0) yX12_isSign cX12_isSign 2 (some .boolean) [.ref this, .int x1] I X (some (.int z), I, X) := by
  refine q_met (by decide) (Nat.le_of_ble_eq_true rfl) (fun g hg hr => ?_)
  unfold f_X12_isSign at h
  show g 0 0 0 [(0, .ref this), (1, .int x1)] [] I X
  refine r_aload_n hg 0 dX12_isSign_0 rfl rfl ?_
  refine r_getI hg dX12_isSign_1 fl_X12_229 k_this rfl ?_
  refine r_iconst hg dX12_isSign_4 ci_3 ?_
  refine r_icmp_ne hg 20 dX12_isSign_5 (by decide) (fun c1 => ?_) (fun c1 => ?_)
  · rw [if_neg c1] at h
    refine r_iconst hg dX12_isSign_20 ci_0 ?_
    exact r_ireturn hr dX12_isSign_21 ⟨Nat.zero_le _, Nat.zero_le _⟩ ⟨_, rfl, bz_0.1⟩ (by cases h; rfl)
  · rw [if_pos (Classical.not_not.mp c1)] at h
    refine r_aload_n hg 0 dX12_isSign_8 rfl rfl ?_
    refine r_getI hg dX12_isSign_9 fl_X12_238 k_this rfl ?_
    refine r_iload_n hg 1 dX12_isSign_12 rfl rfl ?_
    refine r_icmp_ne hg 20 dX12_isSign_13 (by decide) (fun c2 => ?_) (fun c2 => ?_)
    · rw [if_neg c2] at h
      refine r_iconst hg dX12_isSign_20 ci_0 ?_
      exact r_ireturn hr dX12_isSign_21 ⟨Nat.zero_le _, Nat.zero_le _⟩ ⟨_, rfl, bz_0.1⟩ (by cases h; rfl)
    · rw [if_pos (Classical.not_not.mp c2)] at h
      refine r_iconst hg dX12_isSign_16 ci_1 ?_
      refine r_goto hg 21 dX12_isSign_17 (by decide) ?_
      exact r_ireturn hr dX12_isSign_21 ⟨Nat.zero_le _, Nat.zero_le _⟩ ⟨_, rfl, bz_1.1⟩ (by cases h; rfl)

def b_X12_isWordAt_10 (this : Nat) (x1 : Int32) (x2 : Int32) (x3 : Int32) (x4 : Int32) (I : qI) (s0 : Int32) : Option (Int32) :=
  if (I this 17) = (nI 1) then
    if ((I this 16) - (I this 15)) = s0 then
      q_b1 (q_rd I (this + 7) 96 (I this 15)) fun v4 =>
      if v4 = x1 then
        q_b1 (q_rd I (this + 7) 96 ((I this 15) + (nI 1))) fun v8 =>
        if v8 = x2 then
          q_b1 (q_rd I (this + 7) 96 ((I this 15) + (nI 2))) fun v12 =>
          if v12 = x3 then
            if x4 = 0 then
              some ((nI 1))
            else
              q_b1 (q_rd I (this + 7) 96 ((I this 15) + (nI 3))) fun v17 =>
              if v17 = x4 then
                some ((nI 1))
              else
                some ((nI 0))
          else
            some ((nI 0))
        else
          some ((nI 0))
      else
        some ((nI 0))
    else
      some ((nI 0))
  else
    some ((nI 0))
set_option maxRecDepth 100000 in
set_option maxHeartbeats 4000000 in
theorem p_X12_isWordAt_10 {l : Launch} {Γ : qC} {g : qG} {z : Int32} {this : Nat} {x1 : Int32} {x2 : Int32} {x3 : Int32} {x4 : Int32} {X : qX} {I : qI} (hΓ : q_gm Γ) (hg : q_Ok l Γ RX12 cX12_isWordAt 6 (q_rm 2 0 0) "isWordAt" (some .boolean) g) (hr : q_Rt cX12_isWordAt (some .boolean) (q_rm 2 0 0) (some (.int z), I, X) g) (hX : q_Lay X) (k_this : q_kd X this = some (14, 42)) (s0 : Int32) (h : b_X12_isWordAt_10 this x1 x2 x3 x4 I s0 = some z) : g 0 0 10 [(0, .ref this), (1, .int x1), (2, .int x2), (3, .int x3), (4, .int x4)] [.int s0] I X := by
  unfold b_X12_isWordAt_10 at h
  refine r_istore hg (L' := [(5, .int s0), (0, .ref this), (1, .int x1), (2, .int x2), (3, .int x3), (4, .int x4)]) dX12_isWordAt_10 (by decide) rfl ?_
  refine r_aload_n hg 1 dX12_isWordAt_12 rfl rfl ?_
  refine r_getI hg dX12_isWordAt_13 fl_X12_229 k_this rfl ?_
  refine r_iconst hg dX12_isWordAt_16 ci_1 ?_
  refine r_icmp_ne hg 102 dX12_isWordAt_17 (by decide) (fun c1 => ?_) (fun c1 => ?_)
  · rw [if_neg c1] at h
    refine r_iconst hg dX12_isWordAt_102 ci_0 ?_
    exact r_ireturn hr dX12_isWordAt_103 ⟨Nat.zero_le _, Nat.zero_le _⟩ ⟨_, rfl, bz_0.1⟩ (by cases h; rfl)
  · rw [if_pos (Classical.not_not.mp c1)] at h
    refine r_aload_n hg 1 dX12_isWordAt_20 rfl rfl ?_
    refine r_getI hg dX12_isWordAt_21 fl_X12_226 k_this rfl ?_
    refine r_aload_n hg 1 dX12_isWordAt_24 rfl rfl ?_
    refine r_getI hg dX12_isWordAt_25 fl_X12_232 k_this rfl ?_
    refine r_isub hg dX12_isWordAt_28 ?_
    refine r_iload hg 0 dX12_isWordAt_29 rfl ?_
    refine r_icmp_ne hg 102 dX12_isWordAt_31 (by decide) (fun c2 => ?_) (fun c2 => ?_)
    · rw [if_neg c2] at h
      refine r_iconst hg dX12_isWordAt_102 ci_0 ?_
      exact r_ireturn hr dX12_isWordAt_103 ⟨Nat.zero_le _, Nat.zero_le _⟩ ⟨_, rfl, bz_0.1⟩ (by cases h; rfl)
    · rw [if_pos (Classical.not_not.mp c2)] at h
      refine r_aload_n hg 1 dX12_isWordAt_34 rfl rfl ?_
      have e3 := ly_12_13 hX k_this
      refine r_getR hg dX12_isWordAt_35 fl_X12_28 k_this rfl e3.1 ?_
      refine r_aload_n hg 1 dX12_isWordAt_38 rfl rfl ?_
      refine r_getI hg dX12_isWordAt_39 fl_X12_232 k_this rfl ?_
      obtain ⟨v4, e5, h⟩ := q_b1_some h
      refine r_iald hg dX12_isWordAt_42 e3.2 e5 ?_
      refine r_iload_n hg 2 dX12_isWordAt_43 rfl rfl ?_
      refine r_icmp_ne hg 102 dX12_isWordAt_44 (by decide) (fun c6 => ?_) (fun c6 => ?_)
      · rw [if_neg c6] at h
        refine r_iconst hg dX12_isWordAt_102 ci_0 ?_
        exact r_ireturn hr dX12_isWordAt_103 ⟨Nat.zero_le _, Nat.zero_le _⟩ ⟨_, rfl, bz_0.1⟩ (by cases h; rfl)
      · rw [if_pos (Classical.not_not.mp c6)] at h
        refine r_aload_n hg 1 dX12_isWordAt_47 rfl rfl ?_
        have e7 := ly_12_13 hX k_this
        refine r_getR hg dX12_isWordAt_48 fl_X12_28 k_this rfl e7.1 ?_
        refine r_aload_n hg 1 dX12_isWordAt_51 rfl rfl ?_
        refine r_getI hg dX12_isWordAt_52 fl_X12_232 k_this rfl ?_
        refine r_iconst hg dX12_isWordAt_55 ci_1 ?_
        refine r_iadd hg dX12_isWordAt_56 ?_
        obtain ⟨v8, e9, h⟩ := q_b1_some h
        refine r_iald hg dX12_isWordAt_57 e7.2 e9 ?_
        refine r_iload_n hg 3 dX12_isWordAt_58 rfl rfl ?_
        refine r_icmp_ne hg 102 dX12_isWordAt_59 (by decide) (fun c10 => ?_) (fun c10 => ?_)
        · rw [if_neg c10] at h
          refine r_iconst hg dX12_isWordAt_102 ci_0 ?_
          exact r_ireturn hr dX12_isWordAt_103 ⟨Nat.zero_le _, Nat.zero_le _⟩ ⟨_, rfl, bz_0.1⟩ (by cases h; rfl)
        · rw [if_pos (Classical.not_not.mp c10)] at h
          refine r_aload_n hg 1 dX12_isWordAt_62 rfl rfl ?_
          have e11 := ly_12_13 hX k_this
          refine r_getR hg dX12_isWordAt_63 fl_X12_28 k_this rfl e11.1 ?_
          refine r_aload_n hg 1 dX12_isWordAt_66 rfl rfl ?_
          refine r_getI hg dX12_isWordAt_67 fl_X12_232 k_this rfl ?_
          refine r_iconst hg dX12_isWordAt_70 ci_2 ?_
          refine r_iadd hg dX12_isWordAt_71 ?_
          obtain ⟨v12, e13, h⟩ := q_b1_some h
          refine r_iald hg dX12_isWordAt_72 e11.2 e13 ?_
          refine r_iload_n hg 4 dX12_isWordAt_73 rfl rfl ?_
          refine r_icmp_ne hg 102 dX12_isWordAt_74 (by decide) (fun c14 => ?_) (fun c14 => ?_)
          · rw [if_neg c14] at h
            refine r_iconst hg dX12_isWordAt_102 ci_0 ?_
            exact r_ireturn hr dX12_isWordAt_103 ⟨Nat.zero_le _, Nat.zero_le _⟩ ⟨_, rfl, bz_0.1⟩ (by cases h; rfl)
          · rw [if_pos (Classical.not_not.mp c14)] at h
            refine r_iload hg 5 dX12_isWordAt_77 rfl ?_
            refine r_if_eq hg 98 dX12_isWordAt_79 (by decide) (fun c15 => ?_) (fun c15 => ?_)
            · rw [if_pos c15] at h
              refine r_iconst hg dX12_isWordAt_98 ci_1 ?_
              refine r_goto hg 103 dX12_isWordAt_99 (by decide) ?_
              exact r_ireturn hr dX12_isWordAt_103 ⟨Nat.zero_le _, Nat.zero_le _⟩ ⟨_, rfl, bz_1.1⟩ (by cases h; rfl)
            · rw [if_neg c15] at h
              refine r_aload_n hg 1 dX12_isWordAt_82 rfl rfl ?_
              have e16 := ly_12_13 hX k_this
              refine r_getR hg dX12_isWordAt_83 fl_X12_28 k_this rfl e16.1 ?_
              refine r_aload_n hg 1 dX12_isWordAt_86 rfl rfl ?_
              refine r_getI hg dX12_isWordAt_87 fl_X12_232 k_this rfl ?_
              refine r_iconst hg dX12_isWordAt_90 ci_3 ?_
              refine r_iadd hg dX12_isWordAt_91 ?_
              obtain ⟨v17, e18, h⟩ := q_b1_some h
              refine r_iald hg dX12_isWordAt_92 e16.2 e18 ?_
              refine r_iload hg 5 dX12_isWordAt_93 rfl ?_
              refine r_icmp_ne hg 102 dX12_isWordAt_95 (by decide) (fun c19 => ?_) (fun c19 => ?_)
              · rw [if_neg c19] at h
                refine r_iconst hg dX12_isWordAt_102 ci_0 ?_
                exact r_ireturn hr dX12_isWordAt_103 ⟨Nat.zero_le _, Nat.zero_le _⟩ ⟨_, rfl, bz_0.1⟩ (by cases h; rfl)
              · rw [if_pos (Classical.not_not.mp c19)] at h
                refine r_iconst hg dX12_isWordAt_98 ci_1 ?_
                refine r_goto hg 103 dX12_isWordAt_99 (by decide) ?_
                exact r_ireturn hr dX12_isWordAt_103 ⟨Nat.zero_le _, Nat.zero_le _⟩ ⟨_, rfl, bz_1.1⟩ (by cases h; rfl)
def f_X12_isWordAt (this : Nat) (x1 : Int32) (x2 : Int32) (x3 : Int32) (x4 : Int32) (I : qI) : Option (Int32) :=
  if x4 = 0 then
    b_X12_isWordAt_10 this x1 x2 x3 x4 I (nI 3)
  else
    b_X12_isWordAt_10 this x1 x2 x3 x4 I (nI 4)
set_option maxRecDepth 100000 in
set_option maxHeartbeats 4000000 in
theorem s_X12_isWordAt {l : Launch} {Γ : qC} (hΓ : q_gm Γ) {X : qX} (hX : q_Lay X) {this : Nat} {x1 : Int32} {x2 : Int32} {x3 : Int32} {x4 : Int32} (k_this : q_kd X this = some (14, 42)) {I : qI} {z : Int32} (h : f_X12_isWordAt this x1 x2 x3 x4 I = some z) : q_Sem l Γ (q_rm 2 0 0) yX12_isWordAt cX12_isWordAt 6 (some .boolean) [.ref this, .int x1, .int x2, .int x3, .int x4] I X (some (.int z), I, X) := by
  refine q_met (by decide) (Nat.le_of_ble_eq_true rfl) (fun g hg hr => ?_)
  unfold f_X12_isWordAt at h
  show g 0 0 0 [(0, .ref this), (1, .int x1), (2, .int x2), (3, .int x3), (4, .int x4)] [] I X
  refine r_iload hg 4 dX12_isWordAt_0 rfl ?_
  refine r_if_ne hg 9 dX12_isWordAt_2 (by decide) (fun c1 => ?_) (fun c1 => ?_)
  · rw [if_neg c1] at h
    refine r_iconst hg dX12_isWordAt_9 ci_4 ?_
    exact p_X12_isWordAt_10 hΓ hg hr hX k_this _ h
  · rw [if_pos (Classical.not_not.mp c1)] at h
    refine r_iconst hg dX12_isWordAt_5 ci_3 ?_
    refine r_goto hg 10 dX12_isWordAt_6 (by decide) ?_
    exact p_X12_isWordAt_10 hΓ hg hr hX k_this _ h

def f_X12_joined (x0 : Int32) (x1 : Int32) (x2 : Int32) : Option (Int32) :=
  if x0 = (nI 38) then
    if x1 = 0 then
      some ((nI 0))
    else
      if x2 = 0 then
        some ((nI 0))
      else
        some ((nI 1))
  else
  if x0 = (nI 42) then
    some ((x1 * x2))
  else
  if x0 = (nI 43) then
    some ((x1 + x2))
  else
  if x0 = (nI 45) then
    some ((x1 - x2))
  else
  if x0 = (nI 47) then
    if x2 = 0 then
      some ((nI 0))
    else
      if x2 = (-1) then
        some ((-x1))
      else
        if x2 = 0 then none else
        some ((x1 / x2))
  else
  if x0 = (nI 60) then
    if x2 ≤ x1 then
      some ((nI 0))
    else
      some ((nI 1))
  else
  if x0 = (nI 61) then
    if x1 = x2 then
      some ((nI 1))
    else
      some ((nI 0))
  else
  if x0 = (nI 62) then
    if x1 ≤ x2 then
      some ((nI 0))
    else
      some ((nI 1))
  else
  if x1 = 0 then
    if x2 = 0 then
      some ((nI 0))
    else
      some ((nI 1))
  else
    some ((nI 1))
set_option maxRecDepth 100000 in
set_option maxHeartbeats 4000000 in
theorem s_X12_joined {l : Launch} {Γ : qC} (hΓ : q_gm Γ) {X : qX} (hX : q_Lay X) {x0 : Int32} {x1 : Int32} {x2 : Int32} {I : qI} {z : Int32} (h : f_X12_joined x0 x1 x2 = some z) : q_Sem l Γ (q_rm 2 0 0) yX12_joined cX12_joined 3 (some .int) [.int x0, .int x1, .int x2] I X (some (.int z), I, X) := by
  refine q_met (by decide) (Nat.le_of_ble_eq_true rfl) (fun g hg hr => ?_)
  unfold f_X12_joined at h
  show g 0 0 0 [(0, .int x0), (1, .int x1), (2, .int x2)] [] I X
  refine r_iload_n hg 0 dX12_joined_0 rfl rfl ?_
  by_cases c1 : x0 = (nI 38)
  · rw [if_pos c1] at h
    refine r_tab hg 183 dX12_joined_1 rfl (by rw [c1] <;> decide +kernel) (by decide) ?_
    refine r_iload_n hg 1 dX12_joined_183 rfl rfl ?_
    refine r_if_eq hg 195 dX12_joined_184 (by decide) (fun c2 => ?_) (fun c2 => ?_)
    · rw [if_pos c2] at h
      refine r_iconst hg dX12_joined_195 ci_0 ?_
      exact r_ireturn hr dX12_joined_196 ⟨Nat.zero_le _, Nat.zero_le _⟩ ⟨_, rfl, rfl⟩ (by cases h; rfl)
    · rw [if_neg c2] at h
      refine r_iload_n hg 2 dX12_joined_187 rfl rfl ?_
      refine r_if_eq hg 195 dX12_joined_188 (by decide) (fun c3 => ?_) (fun c3 => ?_)
      · rw [if_pos c3] at h
        refine r_iconst hg dX12_joined_195 ci_0 ?_
        exact r_ireturn hr dX12_joined_196 ⟨Nat.zero_le _, Nat.zero_le _⟩ ⟨_, rfl, rfl⟩ (by cases h; rfl)
      · rw [if_neg c3] at h
        refine r_iconst hg dX12_joined_191 ci_1 ?_
        refine r_goto hg 196 dX12_joined_192 (by decide) ?_
        exact r_ireturn hr dX12_joined_196 ⟨Nat.zero_le _, Nat.zero_le _⟩ ⟨_, rfl, rfl⟩ (by cases h; rfl)
  rw [if_neg c1] at h
  by_cases c4 : x0 = (nI 42)
  · rw [if_pos c4] at h
    refine r_tab hg 124 dX12_joined_1 rfl (by rw [c4] <;> decide +kernel) (by decide) ?_
    refine r_iload_n hg 1 dX12_joined_124 rfl rfl ?_
    refine r_iload_n hg 2 dX12_joined_125 rfl rfl ?_
    refine r_imul hg dX12_joined_126 ?_
    exact r_ireturn hr dX12_joined_127 ⟨Nat.zero_le _, Nat.zero_le _⟩ ⟨_, rfl, rfl⟩ (by cases h; rfl)
  rw [if_neg c4] at h
  by_cases c5 : x0 = (nI 43)
  · rw [if_pos c5] at h
    refine r_tab hg 116 dX12_joined_1 rfl (by rw [c5] <;> decide +kernel) (by decide) ?_
    refine r_iload_n hg 1 dX12_joined_116 rfl rfl ?_
    refine r_iload_n hg 2 dX12_joined_117 rfl rfl ?_
    refine r_iadd hg dX12_joined_118 ?_
    exact r_ireturn hr dX12_joined_119 ⟨Nat.zero_le _, Nat.zero_le _⟩ ⟨_, rfl, rfl⟩ (by cases h; rfl)
  rw [if_neg c5] at h
  by_cases c6 : x0 = (nI 45)
  · rw [if_pos c6] at h
    refine r_tab hg 120 dX12_joined_1 rfl (by rw [c6] <;> decide +kernel) (by decide) ?_
    refine r_iload_n hg 1 dX12_joined_120 rfl rfl ?_
    refine r_iload_n hg 2 dX12_joined_121 rfl rfl ?_
    refine r_isub hg dX12_joined_122 ?_
    exact r_ireturn hr dX12_joined_123 ⟨Nat.zero_le _, Nat.zero_le _⟩ ⟨_, rfl, rfl⟩ (by cases h; rfl)
  rw [if_neg c6] at h
  by_cases c7 : x0 = (nI 47)
  · rw [if_pos c7] at h
    refine r_tab hg 128 dX12_joined_1 rfl (by rw [c7] <;> decide +kernel) (by decide) ?_
    refine r_iload_n hg 2 dX12_joined_128 rfl rfl ?_
    refine r_if_ne hg 136 dX12_joined_129 (by decide) (fun c8 => ?_) (fun c8 => ?_)
    · rw [if_neg c8] at h
      refine r_iload_n hg 2 dX12_joined_136 rfl rfl ?_
      refine r_iconst hg dX12_joined_137 ci_m1 ?_
      refine r_icmp_ne hg 146 dX12_joined_138 (by decide) (fun c9 => ?_) (fun c9 => ?_)
      · rw [if_neg c9] at h
        refine r_iload_n hg 1 dX12_joined_146 rfl rfl ?_
        refine r_iload_n hg 2 dX12_joined_147 rfl rfl ?_
        by_cases c10 : x2 = 0
        · rw [if_pos c10] at h; cases h
        rw [if_neg c10] at h
        refine r_idiv hg dX12_joined_148 c10 ?_
        exact r_ireturn hr dX12_joined_149 ⟨Nat.zero_le _, Nat.zero_le _⟩ ⟨_, rfl, rfl⟩ (by cases h; rfl)
      · rw [if_pos (Classical.not_not.mp c9)] at h
        refine r_iload_n hg 1 dX12_joined_141 rfl rfl ?_
        refine r_ineg hg dX12_joined_142 ?_
        refine r_goto hg 149 dX12_joined_143 (by decide) ?_
        exact r_ireturn hr dX12_joined_149 ⟨Nat.zero_le _, Nat.zero_le _⟩ ⟨_, rfl, rfl⟩ (by cases h; rfl)
    · rw [if_pos (Classical.not_not.mp c8)] at h
      refine r_iconst hg dX12_joined_132 ci_0 ?_
      refine r_goto hg 149 dX12_joined_133 (by decide) ?_
      exact r_ireturn hr dX12_joined_149 ⟨Nat.zero_le _, Nat.zero_le _⟩ ⟨_, rfl, rfl⟩ (by cases h; rfl)
  rw [if_neg c7] at h
  by_cases c11 : x0 = (nI 60)
  · rw [if_pos c11] at h
    refine r_tab hg 150 dX12_joined_1 rfl (by rw [c11] <;> decide +kernel) (by decide) ?_
    refine r_iload_n hg 1 dX12_joined_150 rfl rfl ?_
    refine r_iload_n hg 2 dX12_joined_151 rfl rfl ?_
    refine r_icmp_ge hg 159 dX12_joined_152 (by decide) (fun c12 => ?_) (fun c12 => ?_)
    · rw [if_pos c12] at h
      refine r_iconst hg dX12_joined_159 ci_0 ?_
      exact r_ireturn hr dX12_joined_160 ⟨Nat.zero_le _, Nat.zero_le _⟩ ⟨_, rfl, rfl⟩ (by cases h; rfl)
    · rw [if_neg c12] at h
      refine r_iconst hg dX12_joined_155 ci_1 ?_
      refine r_goto hg 160 dX12_joined_156 (by decide) ?_
      exact r_ireturn hr dX12_joined_160 ⟨Nat.zero_le _, Nat.zero_le _⟩ ⟨_, rfl, rfl⟩ (by cases h; rfl)
  rw [if_neg c11] at h
  by_cases c13 : x0 = (nI 61)
  · rw [if_pos c13] at h
    refine r_tab hg 172 dX12_joined_1 rfl (by rw [c13] <;> decide +kernel) (by decide) ?_
    refine r_iload_n hg 1 dX12_joined_172 rfl rfl ?_
    refine r_iload_n hg 2 dX12_joined_173 rfl rfl ?_
    refine r_icmp_ne hg 181 dX12_joined_174 (by decide) (fun c14 => ?_) (fun c14 => ?_)
    · rw [if_neg c14] at h
      refine r_iconst hg dX12_joined_181 ci_0 ?_
      exact r_ireturn hr dX12_joined_182 ⟨Nat.zero_le _, Nat.zero_le _⟩ ⟨_, rfl, rfl⟩ (by cases h; rfl)
    · rw [if_pos (Classical.not_not.mp c14)] at h
      refine r_iconst hg dX12_joined_177 ci_1 ?_
      refine r_goto hg 182 dX12_joined_178 (by decide) ?_
      exact r_ireturn hr dX12_joined_182 ⟨Nat.zero_le _, Nat.zero_le _⟩ ⟨_, rfl, rfl⟩ (by cases h; rfl)
  rw [if_neg c13] at h
  by_cases c15 : x0 = (nI 62)
  · rw [if_pos c15] at h
    refine r_tab hg 161 dX12_joined_1 rfl (by rw [c15] <;> decide +kernel) (by decide) ?_
    refine r_iload_n hg 1 dX12_joined_161 rfl rfl ?_
    refine r_iload_n hg 2 dX12_joined_162 rfl rfl ?_
    refine r_icmp_le hg 170 dX12_joined_163 (by decide) (fun c16 => ?_) (fun c16 => ?_)
    · rw [if_pos c16] at h
      refine r_iconst hg dX12_joined_170 ci_0 ?_
      exact r_ireturn hr dX12_joined_171 ⟨Nat.zero_le _, Nat.zero_le _⟩ ⟨_, rfl, rfl⟩ (by cases h; rfl)
    · rw [if_neg c16] at h
      refine r_iconst hg dX12_joined_166 ci_1 ?_
      refine r_goto hg 171 dX12_joined_167 (by decide) ?_
      exact r_ireturn hr dX12_joined_171 ⟨Nat.zero_le _, Nat.zero_le _⟩ ⟨_, rfl, rfl⟩ (by cases h; rfl)
  rw [if_neg c15] at h
  refine r_tab hg 197 dX12_joined_1 rfl (q_tab_d (fun k hk ho => ?_)) (by decide) ?_
  · have hk : k < 25 := hk
    rcases (show k = 0 ∨ k = 1 ∨ k = 2 ∨ k = 3 ∨ k = 4 ∨ k = 5 ∨ k = 6 ∨ k = 7 ∨ k = 8 ∨ k = 9 ∨ k = 10 ∨ k = 11 ∨ k = 12 ∨ k = 13 ∨ k = 14 ∨ k = 15 ∨ k = 16 ∨ k = 17 ∨ k = 18 ∨ k = 19 ∨ k = 20 ∨ k = 21 ∨ k = 22 ∨ k = 23 ∨ k = 24 by omega) with rfl | rfl | rfl | rfl | rfl | rfl | rfl | rfl | rfl | rfl | rfl | rfl | rfl | rfl | rfl | rfl | rfl | rfl | rfl | rfl | rfl | rfl | rfl | rfl | rfl
    · exact lv_neT c1 (by decide +kernel)
    · exact absurd rfl ho
    · exact absurd rfl ho
    · exact absurd rfl ho
    · exact lv_neT c4 (by decide +kernel)
    · exact lv_neT c5 (by decide +kernel)
    · exact absurd rfl ho
    · exact lv_neT c6 (by decide +kernel)
    · exact absurd rfl ho
    · exact lv_neT c7 (by decide +kernel)
    · exact absurd rfl ho
    · exact absurd rfl ho
    · exact absurd rfl ho
    · exact absurd rfl ho
    · exact absurd rfl ho
    · exact absurd rfl ho
    · exact absurd rfl ho
    · exact absurd rfl ho
    · exact absurd rfl ho
    · exact absurd rfl ho
    · exact absurd rfl ho
    · exact absurd rfl ho
    · exact lv_neT c11 (by decide +kernel)
    · exact lv_neT c13 (by decide +kernel)
    · exact lv_neT c15 (by decide +kernel)
  refine r_iload_n hg 1 dX12_joined_197 rfl rfl ?_
  refine r_if_ne hg 205 dX12_joined_198 (by decide) (fun c17 => ?_) (fun c17 => ?_)
  · rw [if_neg c17] at h
    refine r_iconst hg dX12_joined_205 ci_1 ?_
    refine r_goto hg 210 dX12_joined_206 (by decide) ?_
    exact r_ireturn hr dX12_joined_210 ⟨Nat.zero_le _, Nat.zero_le _⟩ ⟨_, rfl, rfl⟩ (by cases h; rfl)
  · rw [if_pos (Classical.not_not.mp c17)] at h
    refine r_iload_n hg 2 dX12_joined_201 rfl rfl ?_
    refine r_if_eq hg 209 dX12_joined_202 (by decide) (fun c18 => ?_) (fun c18 => ?_)
    · rw [if_pos c18] at h
      refine r_iconst hg dX12_joined_209 ci_0 ?_
      exact r_ireturn hr dX12_joined_210 ⟨Nat.zero_le _, Nat.zero_le _⟩ ⟨_, rfl, rfl⟩ (by cases h; rfl)
    · rw [if_neg c18] at h
      refine r_iconst hg dX12_joined_205 ci_1 ?_
      refine r_goto hg 210 dX12_joined_206 (by decide) ?_
      exact r_ireturn hr dX12_joined_210 ⟨Nat.zero_le _, Nat.zero_le _⟩ ⟨_, rfl, rfl⟩ (by cases h; rfl)

def f_X12_least (x0 : Int32) (x1 : Int32) : Option (Int32) :=
  if x1 ≤ x0 then
    some (x1)
  else
    some (x0)
set_option maxRecDepth 100000 in
set_option maxHeartbeats 4000000 in
theorem s_X12_least {l : Launch} {Γ : qC} (hΓ : q_gm Γ) {X : qX} (hX : q_Lay X) {x0 : Int32} {x1 : Int32} {I : qI} {z : Int32} (h : f_X12_least x0 x1 = some z) : q_Sem l Γ (q_rm 2 0 0) yX12_least cX12_least 2 (some .int) [.int x0, .int x1] I X (some (.int z), I, X) := by
  refine q_met (by decide) (Nat.le_of_ble_eq_true rfl) (fun g hg hr => ?_)
  unfold f_X12_least at h
  show g 0 0 0 [(0, .int x0), (1, .int x1)] [] I X
  refine r_iload_n hg 0 dX12_least_0 rfl rfl ?_
  refine r_iload_n hg 1 dX12_least_1 rfl rfl ?_
  refine r_icmp_ge hg 9 dX12_least_2 (by decide) (fun c1 => ?_) (fun c1 => ?_)
  · rw [if_pos c1] at h
    refine r_iload_n hg 1 dX12_least_9 rfl rfl ?_
    exact r_ireturn hr dX12_least_10 ⟨Nat.zero_le _, Nat.zero_le _⟩ ⟨_, rfl, rfl⟩ (by cases h; rfl)
  · rw [if_neg c1] at h
    refine r_iload_n hg 0 dX12_least_5 rfl rfl ?_
    refine r_goto hg 10 dX12_least_6 (by decide) ?_
    exact r_ireturn hr dX12_least_10 ⟨Nat.zero_le _, Nat.zero_le _⟩ ⟨_, rfl, rfl⟩ (by cases h; rfl)

def f_X12_manAt (this : Nat) (x1 : Int32) : Option (Int32) :=
  some (((nI 80) + ((nI 24) * x1)))
set_option maxRecDepth 100000 in
set_option maxHeartbeats 4000000 in
theorem s_X12_manAt {l : Launch} {Γ : qC} (hΓ : q_gm Γ) {X : qX} (hX : q_Lay X) {this : Nat} {x1 : Int32} (k_this : q_kd X this = some (14, 42)) {I : qI} {z : Int32} (h : f_X12_manAt this x1 = some z) : q_Sem l Γ (q_rm 2 0 0) yX12_manAt cX12_manAt 2 (some .int) [.ref this, .int x1] I X (some (.int z), I, X) := by
  refine q_met (by decide) (Nat.le_of_ble_eq_true rfl) (fun g hg hr => ?_)
  unfold f_X12_manAt at h
  show g 0 0 0 [(0, .ref this), (1, .int x1)] [] I X
  refine r_bipush hg dX12_manAt_0 cb_80 ?_
  refine r_bipush hg dX12_manAt_2 cb_24 ?_
  refine r_iload_n hg 1 dX12_manAt_4 rfl rfl ?_
  refine r_imul hg dX12_manAt_5 ?_
  refine r_iadd hg dX12_manAt_6 ?_
  exact r_ireturn hr dX12_manAt_7 ⟨Nat.zero_le _, Nat.zero_le _⟩ ⟨_, rfl, rfl⟩ (by cases h; rfl)

def b_X12_ones_4 (x0 : Int32) (k4 : Int32 → Int32 → Option (Int32)) (x1 : Int32) (x2 : Int32) : Option (Int32) :=
  if (nI 16) ≤ x2 then
    some (x1)
  else
    k4 (x1 + ((x0 >>> (x2 &&& 31)) &&& (nI 1))) (x2 + (nI 1))
set_option maxRecDepth 100000 in
set_option maxHeartbeats 4000000 in
theorem p_X12_ones_4 {l : Launch} {Γ : qC} {g : qG} {z : Int32} {x0 : Int32} {X : qX} {I : qI} (hΓ : q_gm Γ) (hg : q_Ok l Γ RX12 cX12_ones 3 (q_rm 2 0 0) "ones" (some .int) g) (hr : q_Rt cX12_ones (some .int) (q_rm 2 0 0) (some (.int z), I, X) g) (hX : q_Lay X) {k4 : Int32 → Int32 → Option (Int32)} (hk4 : ∀ (x1 : Int32) (x2 : Int32), k4 x1 x2 = some z → g 0 0 4 [(0, .int x0), (1, .int x1), (2, .int x2)] [] I X) (x1 : Int32) (x2 : Int32) (h : b_X12_ones_4 x0 k4 x1 x2 = some z) : g 0 0 4 [(0, .int x0), (1, .int x1), (2, .int x2)] [] I X := by
  unfold b_X12_ones_4 at h
  refine r_iload_n hg 2 dX12_ones_4 rfl rfl ?_
  refine r_bipush hg dX12_ones_5 cb_16 ?_
  refine r_icmp_ge hg 24 dX12_ones_7 (by decide) (fun c1 => ?_) (fun c1 => ?_)
  · rw [if_pos c1] at h
    refine r_iload_n hg 1 dX12_ones_24 rfl rfl ?_
    exact r_ireturn hr dX12_ones_25 ⟨Nat.zero_le _, Nat.zero_le _⟩ ⟨_, rfl, rfl⟩ (by cases h; rfl)
  · rw [if_neg c1] at h
    refine r_iload_n hg 1 dX12_ones_10 rfl rfl ?_
    refine r_iload_n hg 0 dX12_ones_11 rfl rfl ?_
    refine r_iload_n hg 2 dX12_ones_12 rfl rfl ?_
    refine r_ishr hg dX12_ones_13 ?_
    refine r_iconst hg dX12_ones_14 ci_1 ?_
    refine r_iand hg dX12_ones_15 ?_
    refine r_iadd hg dX12_ones_16 ?_
    refine r_istore_n hg (L' := [(1, .int (x1 + ((x0 >>> (x2 &&& 31)) &&& (nI 1)))), (0, .int x0), (2, .int x2)]) dX12_ones_17 rfl (by decide) rfl ?_
    refine r_iinc hg 2 (v := (x2 + (nI 1))) (L' := [(2, .int (x2 + (nI 1))), (1, .int (x1 + ((x0 >>> (x2 &&& 31)) &&& (nI 1)))), (0, .int x0)]) dX12_ones_18 rfl (by rw [ci_1]) (by decide) rfl ?_
    refine r_goto hg 4 dX12_ones_21 (by decide) ?_
    refine r_sub hg [2, 1, 0] rfl ?_
    exact hk4 _ _ h
theorem pl_X12_ones_4 {l : Launch} {Γ : qC} {g : qG} {z : Int32} {x0 : Int32} {X : qX} {I : qI} (hΓ : q_gm Γ) (hg : q_Ok l Γ RX12 cX12_ones 3 (q_rm 2 0 0) "ones" (some .int) g) (hr : q_Rt cX12_ones (some .int) (q_rm 2 0 0) (some (.int z), I, X) g) (hX : q_Lay X) : ∀ (n : Nat) (x1 : Int32) (x2 : Int32), q_fix (fun _ _ => none) (b_X12_ones_4 x0) n x1 x2 = some z → g 0 0 4 [(0, .int x0), (1, .int x1), (2, .int x2)] [] I X := by
  intro n
  induction n with
  | zero =>
    intro x1 x2 h
    cases (show (none : Option (Int32)) = some z from h)
  | succ n ih =>
    intro x1 x2 h
    exact p_X12_ones_4 hΓ hg hr hX ih _ _ h
def f_X12_ones (x0 : Int32) : Option (Int32) :=
  q_fix (fun _ _ => none) (b_X12_ones_4 x0) q_fu (nI 0) (nI 0)
set_option maxRecDepth 100000 in
set_option maxHeartbeats 4000000 in
theorem s_X12_ones {l : Launch} {Γ : qC} (hΓ : q_gm Γ) {X : qX} (hX : q_Lay X) {x0 : Int32} {I : qI} {z : Int32} (h : f_X12_ones x0 = some z) : q_Sem l Γ (q_rm 2 0 0) yX12_ones cX12_ones 3 (some .int) [.int x0] I X (some (.int z), I, X) := by
  refine q_met (by decide) (Nat.le_of_ble_eq_true rfl) (fun g hg hr => ?_)
  unfold f_X12_ones at h
  show g 0 0 0 [(0, .int x0)] [] I X
  refine r_iconst hg dX12_ones_0 ci_0 ?_
  refine r_istore_n hg (L' := [(1, .int (nI 0)), (0, .int x0)]) dX12_ones_1 rfl (by decide) rfl ?_
  refine r_iconst hg dX12_ones_2 ci_0 ?_
  refine r_istore_n hg (L' := [(2, .int (nI 0)), (1, .int (nI 0)), (0, .int x0)]) dX12_ones_3 rfl (by decide) rfl ?_
  refine r_sub hg [2, 1, 0] rfl ?_
  exact pl_X12_ones_4 hΓ hg hr hX _ _ _ h

def f_X12_orNone (x0 : Int32) : Option (Int32) :=
  if 0 ≤ x0 then
    some (x0)
  else
    some ((-1000000005))
set_option maxRecDepth 100000 in
set_option maxHeartbeats 4000000 in
theorem s_X12_orNone {l : Launch} {Γ : qC} (hΓ : q_gm Γ) {X : qX} (hX : q_Lay X) {x0 : Int32} {I : qI} {z : Int32} (h : f_X12_orNone x0 = some z) : q_Sem l Γ (q_rm 2 0 0) yX12_orNone cX12_orNone 1 (some .int) [.int x0] I X (some (.int z), I, X) := by
  refine q_met (by decide) (Nat.le_of_ble_eq_true rfl) (fun g hg hr => ?_)
  unfold f_X12_orNone at h
  show g 0 0 0 [(0, .int x0)] [] I X
  refine r_iload_n hg 0 dX12_orNone_0 rfl rfl ?_
  refine r_if_ge hg 9 dX12_orNone_1 (by decide) (fun c1 => ?_) (fun c1 => ?_)
  · rw [if_pos c1] at h
    refine r_iload_n hg 0 dX12_orNone_9 rfl rfl ?_
    exact r_ireturn hr dX12_orNone_10 ⟨Nat.zero_le _, Nat.zero_le _⟩ ⟨_, rfl, rfl⟩ (by cases h; rfl)
  · rw [if_neg c1] at h
    refine r_ldc hg dX12_orNone_4 kc_X12_61 ?_
    refine r_goto hg 10 dX12_orNone_6 (by decide) ?_
    exact r_ireturn hr dX12_orNone_10 ⟨Nat.zero_le _, Nat.zero_le _⟩ ⟨_, rfl, rfl⟩ (by cases h; rfl)

def b_X12_setAside_2 (this : Nat) (x1 : Option Nat) (x2 : Option Nat) (X : qX) (k2 : Int32 → qI → Option (qI)) (x3 : Int32) (I : qI) : Option (qI) :=
  if (nI 3580) ≤ x3 then
    some (I)
  else
    q_b2 (q_arr X x1) fun a2 n3 =>
    q_b1 (q_rd I a2 n3 x3) fun v7 =>
    q_b2 (q_arr X x2) fun a9 n10 =>
    q_b1 (q_wr I a9 n10 x3 v7) fun I14 =>
    k2 (x3 + (nI 1)) I14
set_option maxRecDepth 100000 in
set_option maxHeartbeats 4000000 in
theorem p_X12_setAside_2 {l : Launch} {Γ : qC} {g : qG} {z : qI} {this : Nat} {x1 : Option Nat} {x2 : Option Nat} {X : qX} (hΓ : q_gm Γ) (hg : q_Ok l Γ RX12 cX12_setAside 4 (q_rm 2 0 0) "setAside" none g) (hr : q_Rt cX12_setAside none (q_rm 2 0 0) (none, z, X) g) (hX : q_Lay X) (k_this : q_kd X this = some (14, 42)) {k2 : Int32 → qI → Option (qI)} (hk2 : ∀ (x3 : Int32) (I : qI), k2 x3 I = some z → g 0 0 2 [(1, va_rf x1), (2, va_rf x2), (3, .int x3)] [] I X) (x3 : Int32) (I : qI) (h : b_X12_setAside_2 this x1 x2 X k2 x3 I = some z) : g 0 0 2 [(1, va_rf x1), (2, va_rf x2), (3, .int x3)] [] I X := by
  unfold b_X12_setAside_2 at h
  refine r_iload_n hg 2 dX12_setAside_2 rfl rfl ?_
  refine r_sipush hg dX12_setAside_3 cs_3580 ?_
  refine r_icmp_ge hg 21 dX12_setAside_6 (by decide) (fun c1 => ?_) (fun c1 => ?_)
  · rw [if_pos c1] at h
    exact r_return hr dX12_setAside_21 ⟨Nat.zero_le _, Nat.zero_le _⟩ rfl (by cases h; rfl)
  · rw [if_neg c1] at h
    refine r_aloadq_n hg 1 dX12_setAside_9 rfl rfl ?_
    refine r_iload_n hg 2 dX12_setAside_10 rfl rfl ?_
    refine r_aloadq_n hg 0 dX12_setAside_11 rfl rfl ?_
    refine r_iload_n hg 2 dX12_setAside_12 rfl rfl ?_
    replace h := q_b2_some h
    obtain ⟨a2, n3, e4, h⟩ := h
    obtain ⟨e6, k5⟩ := q_arr_some e4
    subst e6
    replace h := q_b1_some h; obtain ⟨v7, e8, h⟩ := h
    refine r_iald hg dX12_setAside_13 k5 e8 ?_
    replace h := q_b2_some h
    obtain ⟨a9, n10, e11, h⟩ := h
    obtain ⟨e13, k12⟩ := q_arr_some e11
    subst e13
    replace h := q_b1_some h; obtain ⟨I14, e15, h⟩ := h
    refine r_iast hg dX12_setAside_14 k12 e15 ?_
    refine r_iinc hg 2 (v := (x3 + (nI 1))) (L' := [(3, .int (x3 + (nI 1))), (1, .ref a2), (2, .ref a9)]) dX12_setAside_15 rfl (by rw [ci_1]) (by decide) rfl ?_
    refine r_goto hg 2 dX12_setAside_18 (by decide) ?_
    refine r_sub hg [1, 2, 0] rfl ?_
    exact hk2 _ _ h
theorem pl_X12_setAside_2 {l : Launch} {Γ : qC} {g : qG} {z : qI} {this : Nat} {x1 : Option Nat} {x2 : Option Nat} {X : qX} (hΓ : q_gm Γ) (hg : q_Ok l Γ RX12 cX12_setAside 4 (q_rm 2 0 0) "setAside" none g) (hr : q_Rt cX12_setAside none (q_rm 2 0 0) (none, z, X) g) (hX : q_Lay X) (k_this : q_kd X this = some (14, 42)) : ∀ (n : Nat) (x3 : Int32) (I : qI), q_fix (fun _ _ => none) (b_X12_setAside_2 this x1 x2 X) n x3 I = some z → g 0 0 2 [(1, va_rf x1), (2, va_rf x2), (3, .int x3)] [] I X := by
  intro n
  induction n with
  | zero =>
    intro x3 I h
    cases (show (none : Option (qI)) = some z from h)
  | succ n ih =>
    intro x3 I h
    exact p_X12_setAside_2 hΓ hg hr hX k_this ih _ _ h
def f_X12_setAside (this : Nat) (x1 : Option Nat) (x2 : Option Nat) (X : qX) (I : qI) : Option (qI) :=
  q_fix (fun _ _ => none) (b_X12_setAside_2 this x1 x2 X) q_fu (nI 0) I
set_option maxRecDepth 100000 in
set_option maxHeartbeats 4000000 in
theorem s_X12_setAside {l : Launch} {Γ : qC} (hΓ : q_gm Γ) {X : qX} (hX : q_Lay X) {this : Nat} {x1 : Option Nat} {x2 : Option Nat} (k_this : q_kd X this = some (14, 42)) {I : qI} {z : qI} (h : f_X12_setAside this x1 x2 X I = some z) : q_Sem l Γ (q_rm 2 0 0) yX12_setAside cX12_setAside 4 none [.ref this, va_rf x1, va_rf x2] I X (none, z, X) := by
  refine q_met (by decide) (by cases x1 <;> cases x2 <;> exact Nat.le_of_ble_eq_true rfl) (fun g hg hr => ?_)
  unfold f_X12_setAside at h
  have eL : lv_args 0 [.ref this, va_rf x1, va_rf x2] = [(0, .ref this), (1, va_rf x1), (2, va_rf x2)] := by cases x1 <;> cases x2 <;> rfl
  rw [eL]
  refine r_iconst hg dX12_setAside_0 ci_0 ?_
  refine r_istore_n hg (i0 := 3) (L' := [(3, .int (nI 0)), (0, .ref this), (1, va_rf x1), (2, va_rf x2)]) dX12_setAside_1 rfl (by decide) (by simp [List.filter, q_cat_rf]) ?_
  refine r_sub hg [2, 3, 0] rfl ?_
  exact pl_X12_setAside_2 hΓ hg hr hX k_this _ _ _ h

def f_X12_shopAt (this : Nat) (x1 : Int32) : Option (Int32) :=
  some (((nI 50) + ((nI 4) * x1)))
set_option maxRecDepth 100000 in
set_option maxHeartbeats 4000000 in
theorem s_X12_shopAt {l : Launch} {Γ : qC} (hΓ : q_gm Γ) {X : qX} (hX : q_Lay X) {this : Nat} {x1 : Int32} (k_this : q_kd X this = some (14, 42)) {I : qI} {z : Int32} (h : f_X12_shopAt this x1 = some z) : q_Sem l Γ (q_rm 2 0 0) yX12_shopAt cX12_shopAt 2 (some .int) [.ref this, .int x1] I X (some (.int z), I, X) := by
  refine q_met (by decide) (Nat.le_of_ble_eq_true rfl) (fun g hg hr => ?_)
  unfold f_X12_shopAt at h
  show g 0 0 0 [(0, .ref this), (1, .int x1)] [] I X
  refine r_bipush hg dX12_shopAt_0 cb_50 ?_
  refine r_iconst hg dX12_shopAt_2 ci_4 ?_
  refine r_iload_n hg 1 dX12_shopAt_3 rfl rfl ?_
  refine r_imul hg dX12_shopAt_4 ?_
  refine r_iadd hg dX12_shopAt_5 ?_
  exact r_ireturn hr dX12_shopAt_6 ⟨Nat.zero_le _, Nat.zero_le _⟩ ⟨_, rfl, rfl⟩ (by cases h; rfl)

def f_X12_step (this : Nat) (x1 : Int32) (x2 : Int32) (I : qI) : Option (qI) :=
  q_b1 (q_wr I (this + 1) 3580 ((I this 23) + ((nI 2) * (I this 22))) x1) fun I2 =>
  q_b1 (q_wr I2 (this + 1) 3580 (((I2 this 23) + ((nI 2) * (I2 this 22))) + (nI 1)) x2) fun I5 =>
  q_b1 (some (q_up I5 this 22 ((I5 this 22) + (nI 1)))) fun I7 =>
  some (I7)
set_option maxRecDepth 100000 in
set_option maxHeartbeats 4000000 in
theorem s_X12_step {l : Launch} {Γ : qC} (hΓ : q_gm Γ) {X : qX} (hX : q_Lay X) {this : Nat} {x1 : Int32} {x2 : Int32} (k_this : q_kd X this = some (14, 42)) {I : qI} {z : qI} (h : f_X12_step this x1 x2 I = some z) : q_Sem l Γ (q_rm 2 0 0) yX12_step cX12_step 3 none [.ref this, .int x1, .int x2] I X (none, z, X) := by
  refine q_met (by decide) (Nat.le_of_ble_eq_true rfl) (fun g hg hr => ?_)
  unfold f_X12_step at h
  show g 0 0 0 [(0, .ref this), (1, .int x1), (2, .int x2)] [] I X
  refine r_aload_n hg 0 dX12_step_0 rfl rfl ?_
  have e1 := ly_12_0 hX k_this
  refine r_getR hg dX12_step_1 fl_X12_7 k_this rfl e1.1 ?_
  refine r_aload_n hg 0 dX12_step_4 rfl rfl ?_
  refine r_getI hg dX12_step_5 fl_X12_251 k_this rfl ?_
  refine r_iconst hg dX12_step_8 ci_2 ?_
  refine r_aload_n hg 0 dX12_step_9 rfl rfl ?_
  refine r_getI hg dX12_step_10 fl_X12_254 k_this rfl ?_
  refine r_imul hg dX12_step_13 ?_
  refine r_iadd hg dX12_step_14 ?_
  refine r_iload_n hg 1 dX12_step_15 rfl rfl ?_
  obtain ⟨I2, e3, h⟩ := q_b1_some h
  refine r_iast hg dX12_step_16 e1.2 e3 ?_
  refine r_aload_n hg 0 dX12_step_17 rfl rfl ?_
  have e4 := ly_12_0 hX k_this
  refine r_getR hg dX12_step_18 fl_X12_7 k_this rfl e4.1 ?_
  refine r_aload_n hg 0 dX12_step_21 rfl rfl ?_
  refine r_getI hg dX12_step_22 fl_X12_251 k_this rfl ?_
  refine r_iconst hg dX12_step_25 ci_2 ?_
  refine r_aload_n hg 0 dX12_step_26 rfl rfl ?_
  refine r_getI hg dX12_step_27 fl_X12_254 k_this rfl ?_
  refine r_imul hg dX12_step_30 ?_
  refine r_iadd hg dX12_step_31 ?_
  refine r_iconst hg dX12_step_32 ci_1 ?_
  refine r_iadd hg dX12_step_33 ?_
  refine r_iload_n hg 2 dX12_step_34 rfl rfl ?_
  obtain ⟨I5, e6, h⟩ := q_b1_some h
  refine r_iast hg dX12_step_35 e4.2 e6 ?_
  refine r_aload_n hg 0 dX12_step_36 rfl rfl ?_
  refine r_dup hg dX12_step_37 rfl ?_
  refine r_getI hg dX12_step_38 fl_X12_254 k_this rfl ?_
  refine r_iconst hg dX12_step_41 ci_1 ?_
  refine r_iadd hg dX12_step_42 ?_
  obtain ⟨I7, e8, h⟩ := q_b1_some h
  obtain rfl := Option.some.inj e8
  refine r_putI hg dX12_step_43 fl_X12_254 k_this rfl ⟨rfl, rfl⟩ ?_
  exact r_return hr dX12_step_46 ⟨Nat.zero_le _, Nat.zero_le _⟩ rfl (by cases h; rfl)

def f_X12_tell (this : Nat) (x1 : Int32) (I : qI) : Option (Int32 × qI) :=
  if (I this 39) = (nI 60) then
    some ((-1000000003), I)
  else
    q_b1 (q_wr I (this + 16) 60 (I this 39) x1) fun I3 =>
    q_b1 (some (q_up I3 this 39 ((I3 this 39) + (nI 1)))) fun I5 =>
    some ((I5 this 39), I5)
set_option maxRecDepth 100000 in
set_option maxHeartbeats 4000000 in
theorem s_X12_tell {l : Launch} {Γ : qC} (hΓ : q_gm Γ) {X : qX} (hX : q_Lay X) {this : Nat} {x1 : Int32} (k_this : q_kd X this = some (14, 42)) {I : qI} {z : Int32 × qI} (h : f_X12_tell this x1 I = some z) : q_Sem l Γ (q_rm 2 0 0) yX12_tell cX12_tell 2 (some .int) [.ref this, .int x1] I X (some (.int z.1), z.2, X) := by
  refine q_met (by decide) (Nat.le_of_ble_eq_true rfl) (fun g hg hr => ?_)
  unfold f_X12_tell at h
  show g 0 0 0 [(0, .ref this), (1, .int x1)] [] I X
  refine r_aload_n hg 0 dX12_tell_0 rfl rfl ?_
  refine r_getI hg dX12_tell_1 fl_X12_431 k_this rfl ?_
  refine r_bipush hg dX12_tell_4 cb_60 ?_
  refine r_icmp_ne hg 12 dX12_tell_6 (by decide) (fun c1 => ?_) (fun c1 => ?_)
  · rw [if_neg c1] at h
    refine r_aload_n hg 0 dX12_tell_12 rfl rfl ?_
    have e2 := ly_12_38 hX k_this
    refine r_getR hg dX12_tell_13 fl_X12_55 k_this rfl e2.1 ?_
    refine r_aload_n hg 0 dX12_tell_16 rfl rfl ?_
    refine r_getI hg dX12_tell_17 fl_X12_431 k_this rfl ?_
    refine r_iload_n hg 1 dX12_tell_20 rfl rfl ?_
    obtain ⟨I3, e4, h⟩ := q_b1_some h
    refine r_iast hg dX12_tell_21 e2.2 e4 ?_
    refine r_aload_n hg 0 dX12_tell_22 rfl rfl ?_
    refine r_dup hg dX12_tell_23 rfl ?_
    refine r_getI hg dX12_tell_24 fl_X12_431 k_this rfl ?_
    refine r_iconst hg dX12_tell_27 ci_1 ?_
    refine r_iadd hg dX12_tell_28 ?_
    obtain ⟨I5, e6, h⟩ := q_b1_some h
    obtain rfl := Option.some.inj e6
    refine r_putI hg dX12_tell_29 fl_X12_431 k_this rfl ⟨rfl, rfl⟩ ?_
    refine r_aload_n hg 0 dX12_tell_32 rfl rfl ?_
    refine r_getI hg dX12_tell_33 fl_X12_431 k_this rfl ?_
    exact r_ireturn hr dX12_tell_36 ⟨Nat.zero_le _, Nat.zero_le _⟩ ⟨_, rfl, rfl⟩ (by cases h; rfl)
  · rw [if_pos (Classical.not_not.mp c1)] at h
    refine r_ldc hg dX12_tell_9 kc_X12_98 ?_
    exact r_ireturn hr dX12_tell_11 ⟨Nat.zero_le _, Nat.zero_le _⟩ ⟨_, rfl, rfl⟩ (by cases h; rfl)

def f_X12_textAt (this : Nat) (x1 : Int32) : Option (Int32) :=
  some (((nI 850) + ((nI 200) * x1)))
set_option maxRecDepth 100000 in
set_option maxHeartbeats 4000000 in
theorem s_X12_textAt {l : Launch} {Γ : qC} (hΓ : q_gm Γ) {X : qX} (hX : q_Lay X) {this : Nat} {x1 : Int32} (k_this : q_kd X this = some (14, 42)) {I : qI} {z : Int32} (h : f_X12_textAt this x1 = some z) : q_Sem l Γ (q_rm 2 0 0) yX12_textAt cX12_textAt 2 (some .int) [.ref this, .int x1] I X (some (.int z), I, X) := by
  refine q_met (by decide) (Nat.le_of_ble_eq_true rfl) (fun g hg hr => ?_)
  unfold f_X12_textAt at h
  show g 0 0 0 [(0, .ref this), (1, .int x1)] [] I X
  refine r_sipush hg dX12_textAt_0 cs_850 ?_
  refine r_sipush hg dX12_textAt_3 cs_200 ?_
  refine r_iload_n hg 1 dX12_textAt_6 rfl rfl ?_
  refine r_imul hg dX12_textAt_7 ?_
  refine r_iadd hg dX12_textAt_8 ?_
  exact r_ireturn hr dX12_textAt_9 ⟨Nat.zero_le _, Nat.zero_le _⟩ ⟨_, rfl, rfl⟩ (by cases h; rfl)

def f_X12_week (this : Nat) (I : qI) : Option (Int32) :=
  q_b1 (q_rd I (this + 1) 3580 (nI 0)) fun v2 =>
  some ((v2 / (nI 7)))
set_option maxRecDepth 100000 in
set_option maxHeartbeats 4000000 in
theorem s_X12_week {l : Launch} {Γ : qC} (hΓ : q_gm Γ) {X : qX} (hX : q_Lay X) {this : Nat} (k_this : q_kd X this = some (14, 42)) {I : qI} {z : Int32} (h : f_X12_week this I = some z) : q_Sem l Γ (q_rm 2 0 0) yX12_week cX12_week 1 (some .int) [.ref this] I X (some (.int z), I, X) := by
  refine q_met (by decide) (Nat.le_of_ble_eq_true rfl) (fun g hg hr => ?_)
  unfold f_X12_week at h
  show g 0 0 0 [(0, .ref this)] [] I X
  refine r_aload_n hg 0 dX12_week_0 rfl rfl ?_
  have e1 := ly_12_0 hX k_this
  refine r_getR hg dX12_week_1 fl_X12_7 k_this rfl e1.1 ?_
  refine r_iconst hg dX12_week_4 ci_0 ?_
  obtain ⟨v2, e3, h⟩ := q_b1_some h
  refine r_iald hg dX12_week_5 e1.2 e3 ?_
  refine r_bipush hg dX12_week_6 cb_7 ?_
  refine r_idiv hg dX12_week_8 nz_7 ?_
  exact r_ireturn hr dX12_week_9 ⟨Nat.zero_le _, Nat.zero_le _⟩ ⟨_, rfl, rfl⟩ (by cases h; rfl)

def f_X12_back (this : Nat) (X : qX) (I : qI) : Option (Int32 × qI) :=
  if (I this 3) = 0 then
    some ((-1000000002), I)
  else
    q_b1 (f_X12_setAside this (some (this + 2)) (some (this + 1)) X I) fun I4 =>
    q_b1 (q_rd I4 (this + 1) 3580 (nI 0)) fun v7 =>
    some (v7, I4)
set_option maxRecDepth 100000 in
set_option maxHeartbeats 4000000 in
theorem s_X12_back {l : Launch} {Γ : qC} (hΓ : q_gm Γ) {X : qX} (hX : q_Lay X) {this : Nat} (k_this : q_kd X this = some (14, 42)) {I : qI} {z : Int32 × qI} (h : f_X12_back this X I = some z) : q_Sem l Γ (q_rm 3 0 0) yX12_back cX12_back 1 (some .int) [.ref this] I X (some (.int z.1), z.2, X) := by
  refine q_met (by decide) (Nat.le_of_ble_eq_true rfl) (fun g hg hr => ?_)
  unfold f_X12_back at h
  show g 0 0 0 [(0, .ref this)] [] I X
  refine r_aload_n hg 0 dX12_back_0 rfl rfl ?_
  refine r_getI hg dX12_back_1 fl_X12_442 k_this rfl ?_
  refine r_if_ne hg 11 dX12_back_4 (by decide) (fun c1 => ?_) (fun c1 => ?_)
  · rw [if_neg c1] at h
    refine r_aload_n hg 0 dX12_back_11 rfl rfl ?_
    refine r_aload_n hg 0 dX12_back_12 rfl rfl ?_
    have e2 := ly_12_1 hX k_this
    refine r_getR hg dX12_back_13 fl_X12_13 k_this rfl e2.1 ?_
    refine r_aload_n hg 0 dX12_back_16 rfl rfl ?_
    have e3 := ly_12_0 hX k_this
    refine r_getR hg dX12_back_17 fl_X12_7 k_this rfl e3.1 ?_
    obtain ⟨I4, e5, h⟩ := q_b1_some h
    refine r_cV2v hg dX12_back_20 mt_X12_setAside ml_X12_365 mv_X12_setAside k_this (s_X12_setAside hΓ hX k_this e5) (q_room (Nat.le_of_ble_eq_true rfl) (Nat.le_of_ble_eq_true rfl)) ⟨Nat.zero_le _, Nat.zero_le _⟩ (Nat.le_of_ble_eq_true rfl) ?_
    refine r_aload_n hg 0 dX12_back_23 rfl rfl ?_
    have e6 := ly_12_0 hX k_this
    refine r_getR hg dX12_back_24 fl_X12_7 k_this rfl e6.1 ?_
    refine r_iconst hg dX12_back_27 ci_0 ?_
    obtain ⟨v7, e8, h⟩ := q_b1_some h
    refine r_iald hg dX12_back_28 e6.2 e8 ?_
    exact r_ireturn hr dX12_back_29 ⟨Nat.zero_le _, Nat.zero_le _⟩ ⟨_, rfl, rfl⟩ (by cases h; rfl)
  · rw [if_pos (Classical.not_not.mp c1)] at h
    refine r_ldcw hg dX12_back_7 kc_X12_346 ?_
    exact r_ireturn hr dX12_back_10 ⟨Nat.zero_le _, Nat.zero_le _⟩ ⟨_, rfl, rfl⟩ (by cases h; rfl)

def f_X12_breach (this : Nat) (x1 : Int32) (x2 : Int32) (x3 : Int32) (I : qI) : Option (Int32 × qI) :=
  q_b1 (f_X12_isIn x1.toInt64 (0 : Int64) (3 : Int64)) fun v1 =>
  if v1 = 0 then
    some ((-1000000001), I)
  else
    q_b1 (f_X12_isIn x2.toInt64 (0 : Int64) (6 : Int64)) fun v4 =>
    if v4 = 0 then
      some ((-1000000001), I)
    else
      q_b1 (f_X12_isIn x3.toInt64 x2.toInt64 (6 : Int64)) fun v7 =>
      if v7 = 0 then
        some ((-1000000001), I)
      else
        q_b1 (q_rd I (this + 1) 3580 (nI 5)) fun v11 =>
        if v11 = (nI 16) then
          some ((-1000000003), I)
        else
          q_b1 (q_rd I (this + 1) 3580 (nI 5)) fun v15 =>
          q_b1 (q_wr I (this + 1) 3580 ((nI 3300) + ((nI 3) * v15)) x1) fun I18 =>
          q_b1 (q_wr I18 (this + 1) 3580 (((nI 3300) + ((nI 3) * v15)) + (nI 1)) x2) fun I21 =>
          q_b1 (q_wr I21 (this + 1) 3580 (((nI 3300) + ((nI 3) * v15)) + (nI 2)) x3) fun I24 =>
          q_b1 (q_rd I24 (this + 1) 3580 (nI 5)) fun v27 =>
          q_b1 (q_wr I24 (this + 1) 3580 (nI 5) (v27 + (nI 1))) fun I29 =>
          q_b1 (q_rd I29 (this + 1) 3580 (nI 5)) fun v32 =>
          some ((v32 - (nI 1)), I29)
set_option maxRecDepth 100000 in
set_option maxHeartbeats 4000000 in
theorem s_X12_breach {l : Launch} {Γ : qC} (hΓ : q_gm Γ) {X : qX} (hX : q_Lay X) {this : Nat} {x1 : Int32} {x2 : Int32} {x3 : Int32} (k_this : q_kd X this = some (14, 42)) {I : qI} {z : Int32 × qI} (h : f_X12_breach this x1 x2 x3 I = some z) : q_Sem l Γ (q_rm 3 0 0) yX12_breach cX12_breach 5 (some .int) [.ref this, .int x1, .int x2, .int x3] I X (some (.int z.1), z.2, X) := by
  refine q_met (by decide) (Nat.le_of_ble_eq_true rfl) (fun g hg hr => ?_)
  unfold f_X12_breach at h
  show g 0 0 0 [(0, .ref this), (1, .int x1), (2, .int x2), (3, .int x3)] [] I X
  refine r_iload_n hg 1 dX12_breach_0 rfl rfl ?_
  refine r_i2l hg dX12_breach_1 ?_
  refine r_lconst hg dX12_breach_2 lc_0 ?_
  refine r_ldc2 hg dX12_breach_3 kl_X12_102 ?_
  obtain ⟨v1, e2, h⟩ := q_b1_some h
  refine r_cS3i hg dX12_breach_6 mt_X12_isIn ⟨ml_X12_64, mst_X12_isIn⟩ (s_X12_isIn hΓ hX e2) (q_room (Nat.le_of_ble_eq_true rfl) (Nat.le_of_ble_eq_true rfl)) ⟨Nat.zero_le _, Nat.zero_le _⟩ (Nat.le_of_ble_eq_true rfl) ?_
  refine r_if_eq hg 37 dX12_breach_9 (by decide) (fun c3 => ?_) (fun c3 => ?_)
  · rw [if_pos c3] at h
    refine r_ldc hg dX12_breach_37 kc_X12_90 ?_
    exact r_ireturn hr dX12_breach_39 ⟨Nat.zero_le _, Nat.zero_le _⟩ ⟨_, rfl, rfl⟩ (by cases h; rfl)
  · rw [if_neg c3] at h
    refine r_iload_n hg 2 dX12_breach_12 rfl rfl ?_
    refine r_i2l hg dX12_breach_13 ?_
    refine r_lconst hg dX12_breach_14 lc_0 ?_
    refine r_ldc2 hg dX12_breach_15 kl_X12_311 ?_
    obtain ⟨v4, e5, h⟩ := q_b1_some h
    refine r_cS3i hg dX12_breach_18 mt_X12_isIn ⟨ml_X12_64, mst_X12_isIn⟩ (s_X12_isIn hΓ hX e5) (q_room (Nat.le_of_ble_eq_true rfl) (Nat.le_of_ble_eq_true rfl)) ⟨Nat.zero_le _, Nat.zero_le _⟩ (Nat.le_of_ble_eq_true rfl) ?_
    refine r_if_eq hg 37 dX12_breach_21 (by decide) (fun c6 => ?_) (fun c6 => ?_)
    · rw [if_pos c6] at h
      refine r_ldc hg dX12_breach_37 kc_X12_90 ?_
      exact r_ireturn hr dX12_breach_39 ⟨Nat.zero_le _, Nat.zero_le _⟩ ⟨_, rfl, rfl⟩ (by cases h; rfl)
    · rw [if_neg c6] at h
      refine r_iload_n hg 3 dX12_breach_24 rfl rfl ?_
      refine r_i2l hg dX12_breach_25 ?_
      refine r_iload_n hg 2 dX12_breach_26 rfl rfl ?_
      refine r_i2l hg dX12_breach_27 ?_
      refine r_ldc2 hg dX12_breach_28 kl_X12_311 ?_
      obtain ⟨v7, e8, h⟩ := q_b1_some h
      refine r_cS3i hg dX12_breach_31 mt_X12_isIn ⟨ml_X12_64, mst_X12_isIn⟩ (s_X12_isIn hΓ hX e8) (q_room (Nat.le_of_ble_eq_true rfl) (Nat.le_of_ble_eq_true rfl)) ⟨Nat.zero_le _, Nat.zero_le _⟩ (Nat.le_of_ble_eq_true rfl) ?_
      refine r_if_ne hg 40 dX12_breach_34 (by decide) (fun c9 => ?_) (fun c9 => ?_)
      · rw [if_neg c9] at h
        refine r_aload_n hg 0 dX12_breach_40 rfl rfl ?_
        have e10 := ly_12_0 hX k_this
        refine r_getR hg dX12_breach_41 fl_X12_7 k_this rfl e10.1 ?_
        refine r_iconst hg dX12_breach_44 ci_5 ?_
        obtain ⟨v11, e12, h⟩ := q_b1_some h
        refine r_iald hg dX12_breach_45 e10.2 e12 ?_
        refine r_bipush hg dX12_breach_46 cb_16 ?_
        refine r_icmp_ne hg 54 dX12_breach_48 (by decide) (fun c13 => ?_) (fun c13 => ?_)
        · rw [if_neg c13] at h
          refine r_sipush hg dX12_breach_54 cs_3300 ?_
          refine r_iconst hg dX12_breach_57 ci_3 ?_
          refine r_aload_n hg 0 dX12_breach_58 rfl rfl ?_
          have e14 := ly_12_0 hX k_this
          refine r_getR hg dX12_breach_59 fl_X12_7 k_this rfl e14.1 ?_
          refine r_iconst hg dX12_breach_62 ci_5 ?_
          obtain ⟨v15, e16, h⟩ := q_b1_some h
          refine r_iald hg dX12_breach_63 e14.2 e16 ?_
          refine r_imul hg dX12_breach_64 ?_
          refine r_iadd hg dX12_breach_65 ?_
          refine r_istore hg (L' := [(4, .int ((nI 3300) + ((nI 3) * v15))), (0, .ref this), (1, .int x1), (2, .int x2), (3, .int x3)]) dX12_breach_66 (by decide) rfl ?_
          refine r_aload_n hg 1 dX12_breach_68 rfl rfl ?_
          have e17 := ly_12_0 hX k_this
          refine r_getR hg dX12_breach_69 fl_X12_7 k_this rfl e17.1 ?_
          refine r_iload hg 0 dX12_breach_72 rfl ?_
          refine r_iload_n hg 2 dX12_breach_74 rfl rfl ?_
          obtain ⟨I18, e19, h⟩ := q_b1_some h
          refine r_iast hg dX12_breach_75 e17.2 e19 ?_
          refine r_aload_n hg 1 dX12_breach_76 rfl rfl ?_
          have e20 := ly_12_0 hX k_this
          refine r_getR hg dX12_breach_77 fl_X12_7 k_this rfl e20.1 ?_
          refine r_iload hg 0 dX12_breach_80 rfl ?_
          refine r_iconst hg dX12_breach_82 ci_1 ?_
          refine r_iadd hg dX12_breach_83 ?_
          refine r_iload_n hg 3 dX12_breach_84 rfl rfl ?_
          obtain ⟨I21, e22, h⟩ := q_b1_some h
          refine r_iast hg dX12_breach_85 e20.2 e22 ?_
          refine r_aload_n hg 1 dX12_breach_86 rfl rfl ?_
          have e23 := ly_12_0 hX k_this
          refine r_getR hg dX12_breach_87 fl_X12_7 k_this rfl e23.1 ?_
          refine r_iload hg 0 dX12_breach_90 rfl ?_
          refine r_iconst hg dX12_breach_92 ci_2 ?_
          refine r_iadd hg dX12_breach_93 ?_
          refine r_iload_n hg 4 dX12_breach_94 rfl rfl ?_
          obtain ⟨I24, e25, h⟩ := q_b1_some h
          refine r_iast hg dX12_breach_95 e23.2 e25 ?_
          refine r_aload_n hg 1 dX12_breach_96 rfl rfl ?_
          have e26 := ly_12_0 hX k_this
          refine r_getR hg dX12_breach_97 fl_X12_7 k_this rfl e26.1 ?_
          refine r_iconst hg dX12_breach_100 ci_5 ?_
          refine r_dup2 hg dX12_breach_101 rfl rfl ?_
          obtain ⟨v27, e28, h⟩ := q_b1_some h
          refine r_iald hg dX12_breach_102 e26.2 e28 ?_
          refine r_iconst hg dX12_breach_103 ci_1 ?_
          refine r_iadd hg dX12_breach_104 ?_
          obtain ⟨I29, e30, h⟩ := q_b1_some h
          refine r_iast hg dX12_breach_105 e26.2 e30 ?_
          refine r_aload_n hg 1 dX12_breach_106 rfl rfl ?_
          have e31 := ly_12_0 hX k_this
          refine r_getR hg dX12_breach_107 fl_X12_7 k_this rfl e31.1 ?_
          refine r_iconst hg dX12_breach_110 ci_5 ?_
          obtain ⟨v32, e33, h⟩ := q_b1_some h
          refine r_iald hg dX12_breach_111 e31.2 e33 ?_
          refine r_iconst hg dX12_breach_112 ci_1 ?_
          refine r_isub hg dX12_breach_113 ?_
          exact r_ireturn hr dX12_breach_114 ⟨Nat.zero_le _, Nat.zero_le _⟩ ⟨_, rfl, rfl⟩ (by cases h; rfl)
        · rw [if_pos (Classical.not_not.mp c13)] at h
          refine r_ldc hg dX12_breach_51 kc_X12_98 ?_
          exact r_ireturn hr dX12_breach_53 ⟨Nat.zero_le _, Nat.zero_le _⟩ ⟨_, rfl, rfl⟩ (by cases h; rfl)
      · rw [if_pos (Classical.not_not.mp c9)] at h
        refine r_ldc hg dX12_breach_37 kc_X12_90 ?_
        exact r_ireturn hr dX12_breach_39 ⟨Nat.zero_le _, Nat.zero_le _⟩ ⟨_, rfl, rfl⟩ (by cases h; rfl)

def f_X12_choice (this : Nat) (x1 : Int32) (x2 : Int32) (x3 : Int32) (I : qI) : Option (Int32 × qI) :=
  q_b1 (f_X12_isIn x1.toInt64 (0 : Int64) (999 : Int64)) fun v1 =>
  if v1 = 0 then
    some ((-1000000001), I)
  else
    q_b1 (f_X12_isIn x2.toInt64 (0 : Int64) (99 : Int64)) fun v4 =>
    if v4 = 0 then
      some ((-1000000001), I)
    else
      q_b1 (f_X12_isIn x3.toInt64 (0 : Int64) (255 : Int64)) fun v7 =>
      if v7 = 0 then
        some ((-1000000001), I)
      else
        q_b1 (q_rd I (this + 1) 3580 (nI 6)) fun v11 =>
        if v11 = (nI 8) then
          some ((-1000000003), I)
        else
          q_b1 (q_rd I (this + 1) 3580 (nI 6)) fun v15 =>
          q_b1 (q_wr I (this + 1) 3580 ((nI 3350) + ((nI 3) * v15)) x1) fun I18 =>
          q_b1 (q_wr I18 (this + 1) 3580 (((nI 3350) + ((nI 3) * v15)) + (nI 1)) x2) fun I21 =>
          q_b1 (q_wr I21 (this + 1) 3580 (((nI 3350) + ((nI 3) * v15)) + (nI 2)) x3) fun I24 =>
          q_b1 (q_rd I24 (this + 1) 3580 (nI 6)) fun v27 =>
          q_b1 (q_wr I24 (this + 1) 3580 (nI 6) (v27 + (nI 1))) fun I29 =>
          q_b1 (q_rd I29 (this + 1) 3580 (nI 6)) fun v32 =>
          some ((v32 - (nI 1)), I29)
set_option maxRecDepth 100000 in
set_option maxHeartbeats 4000000 in
theorem s_X12_choice {l : Launch} {Γ : qC} (hΓ : q_gm Γ) {X : qX} (hX : q_Lay X) {this : Nat} {x1 : Int32} {x2 : Int32} {x3 : Int32} (k_this : q_kd X this = some (14, 42)) {I : qI} {z : Int32 × qI} (h : f_X12_choice this x1 x2 x3 I = some z) : q_Sem l Γ (q_rm 3 0 0) yX12_choice cX12_choice 5 (some .int) [.ref this, .int x1, .int x2, .int x3] I X (some (.int z.1), z.2, X) := by
  refine q_met (by decide) (Nat.le_of_ble_eq_true rfl) (fun g hg hr => ?_)
  unfold f_X12_choice at h
  show g 0 0 0 [(0, .ref this), (1, .int x1), (2, .int x2), (3, .int x3)] [] I X
  refine r_iload_n hg 1 dX12_choice_0 rfl rfl ?_
  refine r_i2l hg dX12_choice_1 ?_
  refine r_lconst hg dX12_choice_2 lc_0 ?_
  refine r_ldc2 hg dX12_choice_3 kl_X12_344 ?_
  obtain ⟨v1, e2, h⟩ := q_b1_some h
  refine r_cS3i hg dX12_choice_6 mt_X12_isIn ⟨ml_X12_64, mst_X12_isIn⟩ (s_X12_isIn hΓ hX e2) (q_room (Nat.le_of_ble_eq_true rfl) (Nat.le_of_ble_eq_true rfl)) ⟨Nat.zero_le _, Nat.zero_le _⟩ (Nat.le_of_ble_eq_true rfl) ?_
  refine r_if_eq hg 36 dX12_choice_9 (by decide) (fun c3 => ?_) (fun c3 => ?_)
  · rw [if_pos c3] at h
    refine r_ldc hg dX12_choice_36 kc_X12_90 ?_
    exact r_ireturn hr dX12_choice_38 ⟨Nat.zero_le _, Nat.zero_le _⟩ ⟨_, rfl, rfl⟩ (by cases h; rfl)
  · rw [if_neg c3] at h
    refine r_iload_n hg 2 dX12_choice_12 rfl rfl ?_
    refine r_i2l hg dX12_choice_13 ?_
    refine r_lconst hg dX12_choice_14 lc_0 ?_
    refine r_ldc2 hg dX12_choice_15 kl_X12_82 ?_
    obtain ⟨v4, e5, h⟩ := q_b1_some h
    refine r_cS3i hg dX12_choice_18 mt_X12_isIn ⟨ml_X12_64, mst_X12_isIn⟩ (s_X12_isIn hΓ hX e5) (q_room (Nat.le_of_ble_eq_true rfl) (Nat.le_of_ble_eq_true rfl)) ⟨Nat.zero_le _, Nat.zero_le _⟩ (Nat.le_of_ble_eq_true rfl) ?_
    refine r_if_eq hg 36 dX12_choice_21 (by decide) (fun c6 => ?_) (fun c6 => ?_)
    · rw [if_pos c6] at h
      refine r_ldc hg dX12_choice_36 kc_X12_90 ?_
      exact r_ireturn hr dX12_choice_38 ⟨Nat.zero_le _, Nat.zero_le _⟩ ⟨_, rfl, rfl⟩ (by cases h; rfl)
    · rw [if_neg c6] at h
      refine r_iload_n hg 3 dX12_choice_24 rfl rfl ?_
      refine r_i2l hg dX12_choice_25 ?_
      refine r_lconst hg dX12_choice_26 lc_0 ?_
      refine r_ldc2 hg dX12_choice_27 kl_X12_401 ?_
      obtain ⟨v7, e8, h⟩ := q_b1_some h
      refine r_cS3i hg dX12_choice_30 mt_X12_isIn ⟨ml_X12_64, mst_X12_isIn⟩ (s_X12_isIn hΓ hX e8) (q_room (Nat.le_of_ble_eq_true rfl) (Nat.le_of_ble_eq_true rfl)) ⟨Nat.zero_le _, Nat.zero_le _⟩ (Nat.le_of_ble_eq_true rfl) ?_
      refine r_if_ne hg 39 dX12_choice_33 (by decide) (fun c9 => ?_) (fun c9 => ?_)
      · rw [if_neg c9] at h
        refine r_aload_n hg 0 dX12_choice_39 rfl rfl ?_
        have e10 := ly_12_0 hX k_this
        refine r_getR hg dX12_choice_40 fl_X12_7 k_this rfl e10.1 ?_
        refine r_bipush hg dX12_choice_43 cb_6 ?_
        obtain ⟨v11, e12, h⟩ := q_b1_some h
        refine r_iald hg dX12_choice_45 e10.2 e12 ?_
        refine r_bipush hg dX12_choice_46 cb_8 ?_
        refine r_icmp_ne hg 54 dX12_choice_48 (by decide) (fun c13 => ?_) (fun c13 => ?_)
        · rw [if_neg c13] at h
          refine r_sipush hg dX12_choice_54 cs_3350 ?_
          refine r_iconst hg dX12_choice_57 ci_3 ?_
          refine r_aload_n hg 0 dX12_choice_58 rfl rfl ?_
          have e14 := ly_12_0 hX k_this
          refine r_getR hg dX12_choice_59 fl_X12_7 k_this rfl e14.1 ?_
          refine r_bipush hg dX12_choice_62 cb_6 ?_
          obtain ⟨v15, e16, h⟩ := q_b1_some h
          refine r_iald hg dX12_choice_64 e14.2 e16 ?_
          refine r_imul hg dX12_choice_65 ?_
          refine r_iadd hg dX12_choice_66 ?_
          refine r_istore hg (L' := [(4, .int ((nI 3350) + ((nI 3) * v15))), (0, .ref this), (1, .int x1), (2, .int x2), (3, .int x3)]) dX12_choice_67 (by decide) rfl ?_
          refine r_aload_n hg 1 dX12_choice_69 rfl rfl ?_
          have e17 := ly_12_0 hX k_this
          refine r_getR hg dX12_choice_70 fl_X12_7 k_this rfl e17.1 ?_
          refine r_iload hg 0 dX12_choice_73 rfl ?_
          refine r_iload_n hg 2 dX12_choice_75 rfl rfl ?_
          obtain ⟨I18, e19, h⟩ := q_b1_some h
          refine r_iast hg dX12_choice_76 e17.2 e19 ?_
          refine r_aload_n hg 1 dX12_choice_77 rfl rfl ?_
          have e20 := ly_12_0 hX k_this
          refine r_getR hg dX12_choice_78 fl_X12_7 k_this rfl e20.1 ?_
          refine r_iload hg 0 dX12_choice_81 rfl ?_
          refine r_iconst hg dX12_choice_83 ci_1 ?_
          refine r_iadd hg dX12_choice_84 ?_
          refine r_iload_n hg 3 dX12_choice_85 rfl rfl ?_
          obtain ⟨I21, e22, h⟩ := q_b1_some h
          refine r_iast hg dX12_choice_86 e20.2 e22 ?_
          refine r_aload_n hg 1 dX12_choice_87 rfl rfl ?_
          have e23 := ly_12_0 hX k_this
          refine r_getR hg dX12_choice_88 fl_X12_7 k_this rfl e23.1 ?_
          refine r_iload hg 0 dX12_choice_91 rfl ?_
          refine r_iconst hg dX12_choice_93 ci_2 ?_
          refine r_iadd hg dX12_choice_94 ?_
          refine r_iload_n hg 4 dX12_choice_95 rfl rfl ?_
          obtain ⟨I24, e25, h⟩ := q_b1_some h
          refine r_iast hg dX12_choice_96 e23.2 e25 ?_
          refine r_aload_n hg 1 dX12_choice_97 rfl rfl ?_
          have e26 := ly_12_0 hX k_this
          refine r_getR hg dX12_choice_98 fl_X12_7 k_this rfl e26.1 ?_
          refine r_bipush hg dX12_choice_101 cb_6 ?_
          refine r_dup2 hg dX12_choice_103 rfl rfl ?_
          obtain ⟨v27, e28, h⟩ := q_b1_some h
          refine r_iald hg dX12_choice_104 e26.2 e28 ?_
          refine r_iconst hg dX12_choice_105 ci_1 ?_
          refine r_iadd hg dX12_choice_106 ?_
          obtain ⟨I29, e30, h⟩ := q_b1_some h
          refine r_iast hg dX12_choice_107 e26.2 e30 ?_
          refine r_aload_n hg 1 dX12_choice_108 rfl rfl ?_
          have e31 := ly_12_0 hX k_this
          refine r_getR hg dX12_choice_109 fl_X12_7 k_this rfl e31.1 ?_
          refine r_bipush hg dX12_choice_112 cb_6 ?_
          obtain ⟨v32, e33, h⟩ := q_b1_some h
          refine r_iald hg dX12_choice_114 e31.2 e33 ?_
          refine r_iconst hg dX12_choice_115 ci_1 ?_
          refine r_isub hg dX12_choice_116 ?_
          exact r_ireturn hr dX12_choice_117 ⟨Nat.zero_le _, Nat.zero_le _⟩ ⟨_, rfl, rfl⟩ (by cases h; rfl)
        · rw [if_pos (Classical.not_not.mp c13)] at h
          refine r_ldc hg dX12_choice_51 kc_X12_98 ?_
          exact r_ireturn hr dX12_choice_53 ⟨Nat.zero_le _, Nat.zero_le _⟩ ⟨_, rfl, rfl⟩ (by cases h; rfl)
      · rw [if_pos (Classical.not_not.mp c9)] at h
        refine r_ldc hg dX12_choice_36 kc_X12_90 ?_
        exact r_ireturn hr dX12_choice_38 ⟨Nat.zero_le _, Nat.zero_le _⟩ ⟨_, rfl, rfl⟩ (by cases h; rfl)

def b_X12_counts_99 (this : Nat) (x1 : Int32) (I : qI) (k4 : Int32 → Int32 → Option (Int32)) (x3 : Int32) (s0 : Int32) : Option (Int32) :=
  k4 s0 (x3 + (nI 1))
set_option maxRecDepth 100000 in
set_option maxHeartbeats 4000000 in
theorem p_X12_counts_99 {l : Launch} {Γ : qC} {g : qG} {z : Int32} {this : Nat} {x1 : Int32} {X : qX} {I : qI} (hΓ : q_gm Γ) (hg : q_Ok l Γ RX12 cX12_counts 5 (q_rm 3 0 0) "counts" (some .int) g) (hr : q_Rt cX12_counts (some .int) (q_rm 3 0 0) (some (.int z), I, X) g) (hX : q_Lay X) (k_this : q_kd X this = some (14, 42)) {k4 : Int32 → Int32 → Option (Int32)} (hk4 : ∀ (x2 : Int32) (x3 : Int32), k4 x2 x3 = some z → g 0 0 4 [(0, .ref this), (1, .int x1), (2, .int x2), (3, .int x3)] [] I X) (x3 : Int32) (s0 : Int32) (h : b_X12_counts_99 this x1 I k4 x3 s0 = some z) : g 0 0 99 [(0, .ref this), (1, .int x1), (3, .int x3)] [.int s0] I X := by
  unfold b_X12_counts_99 at h
  refine r_istore_n hg (L' := [(2, .int s0), (0, .ref this), (1, .int x1), (3, .int x3)]) dX12_counts_99 rfl (by decide) rfl ?_
  refine r_iinc hg 3 (v := (x3 + (nI 1))) (L' := [(3, .int (x3 + (nI 1))), (2, .int s0), (0, .ref this), (1, .int x1)]) dX12_counts_100 rfl (by rw [ci_1]) (by decide) rfl ?_
  refine r_goto hg 4 dX12_counts_103 (by decide) ?_
  refine r_sub hg [2, 3, 1, 0] rfl ?_
  exact hk4 _ _ h
def b_X12_counts_98 (this : Nat) (x1 : Int32) (I : qI) (k4 : Int32 → Int32 → Option (Int32)) (x2 : Int32) (x3 : Int32) : Option (Int32) :=
  b_X12_counts_99 this x1 I k4 x3 x2
set_option maxRecDepth 100000 in
set_option maxHeartbeats 4000000 in
theorem p_X12_counts_98 {l : Launch} {Γ : qC} {g : qG} {z : Int32} {this : Nat} {x1 : Int32} {X : qX} {I : qI} (hΓ : q_gm Γ) (hg : q_Ok l Γ RX12 cX12_counts 5 (q_rm 3 0 0) "counts" (some .int) g) (hr : q_Rt cX12_counts (some .int) (q_rm 3 0 0) (some (.int z), I, X) g) (hX : q_Lay X) (k_this : q_kd X this = some (14, 42)) {k4 : Int32 → Int32 → Option (Int32)} (hk4 : ∀ (x2 : Int32) (x3 : Int32), k4 x2 x3 = some z → g 0 0 4 [(0, .ref this), (1, .int x1), (2, .int x2), (3, .int x3)] [] I X) (x2 : Int32) (x3 : Int32) (h : b_X12_counts_98 this x1 I k4 x2 x3 = some z) : g 0 0 98 [(0, .ref this), (1, .int x1), (2, .int x2), (3, .int x3)] [] I X := by
  unfold b_X12_counts_98 at h
  refine r_iload_n hg 2 dX12_counts_98 rfl rfl ?_
  refine r_sub hg [0, 1, 3] rfl ?_
  exact p_X12_counts_99 hΓ hg hr hX k_this hk4 _ _ h
def b_X12_counts_94 (this : Nat) (x1 : Int32) (I : qI) (k4 : Int32 → Int32 → Option (Int32)) (x3 : Int32) : Option (Int32) :=
  b_X12_counts_99 this x1 I k4 x3 x3
set_option maxRecDepth 100000 in
set_option maxHeartbeats 4000000 in
theorem p_X12_counts_94 {l : Launch} {Γ : qC} {g : qG} {z : Int32} {this : Nat} {x1 : Int32} {X : qX} {I : qI} (hΓ : q_gm Γ) (hg : q_Ok l Γ RX12 cX12_counts 5 (q_rm 3 0 0) "counts" (some .int) g) (hr : q_Rt cX12_counts (some .int) (q_rm 3 0 0) (some (.int z), I, X) g) (hX : q_Lay X) (k_this : q_kd X this = some (14, 42)) {k4 : Int32 → Int32 → Option (Int32)} (hk4 : ∀ (x2 : Int32) (x3 : Int32), k4 x2 x3 = some z → g 0 0 4 [(0, .ref this), (1, .int x1), (2, .int x2), (3, .int x3)] [] I X) (x3 : Int32) (h : b_X12_counts_94 this x1 I k4 x3 = some z) : g 0 0 94 [(0, .ref this), (1, .int x1), (3, .int x3)] [] I X := by
  unfold b_X12_counts_94 at h
  refine r_iload_n hg 2 dX12_counts_94 rfl rfl ?_
  refine r_goto hg 99 dX12_counts_95 (by decide) ?_
  exact p_X12_counts_99 hΓ hg hr hX k_this hk4 _ _ h
def b_X12_counts_56 (this : Nat) (x1 : Int32) (I : qI) (k4 : Int32 → Int32 → Option (Int32)) (x2 : Int32) (x3 : Int32) (s0 : Int32) : Option (Int32) :=
  if s0 = 0 then
    b_X12_counts_98 this x1 I k4 x2 x3
  else
    if x2 < 0 then
      b_X12_counts_94 this x1 I k4 x3
    else
      q_b1 (f_X12_textAt this x3) fun v4 =>
      q_b1 (q_rd I (this + 1) 3580 (v4 + (nI 1))) fun v6 =>
      q_b1 (f_X12_textAt this x2) fun v9 =>
      q_b1 (q_rd I (this + 1) 3580 (v9 + (nI 1))) fun v11 =>
      if v6 < v11 then
        b_X12_counts_98 this x1 I k4 x2 x3
      else
        b_X12_counts_94 this x1 I k4 x3
set_option maxRecDepth 100000 in
set_option maxHeartbeats 4000000 in
theorem p_X12_counts_56 {l : Launch} {Γ : qC} {g : qG} {z : Int32} {this : Nat} {x1 : Int32} {X : qX} {I : qI} (hΓ : q_gm Γ) (hg : q_Ok l Γ RX12 cX12_counts 5 (q_rm 3 0 0) "counts" (some .int) g) (hr : q_Rt cX12_counts (some .int) (q_rm 3 0 0) (some (.int z), I, X) g) (hX : q_Lay X) (k_this : q_kd X this = some (14, 42)) {k4 : Int32 → Int32 → Option (Int32)} (hk4 : ∀ (x2 : Int32) (x3 : Int32), k4 x2 x3 = some z → g 0 0 4 [(0, .ref this), (1, .int x1), (2, .int x2), (3, .int x3)] [] I X) (x2 : Int32) (x3 : Int32) (s0 : Int32) (h : b_X12_counts_56 this x1 I k4 x2 x3 s0 = some z) : g 0 0 56 [(0, .ref this), (1, .int x1), (2, .int x2), (3, .int x3)] [.int s0] I X := by
  unfold b_X12_counts_56 at h
  refine r_istore hg (L' := [(4, .int s0), (0, .ref this), (1, .int x1), (2, .int x2), (3, .int x3)]) dX12_counts_56 (by decide) rfl ?_
  refine r_iload hg 0 dX12_counts_58 rfl ?_
  refine r_if_eq hg 98 dX12_counts_60 (by decide) (fun c1 => ?_) (fun c1 => ?_)
  · rw [if_pos c1] at h
    refine r_sub hg [1, 2, 3, 4] rfl ?_
    exact p_X12_counts_98 hΓ hg hr hX k_this hk4 _ _ h
  · rw [if_neg c1] at h
    refine r_iload_n hg 3 dX12_counts_63 rfl rfl ?_
    refine r_if_lt hg 94 dX12_counts_64 (by decide) (fun c2 => ?_) (fun c2 => ?_)
    · rw [if_pos c2] at h
      refine r_sub hg [1, 2, 4] rfl ?_
      exact p_X12_counts_94 hΓ hg hr hX k_this hk4 _ h
    · rw [if_neg c2] at h
      refine r_aload_n hg 1 dX12_counts_67 rfl rfl ?_
      have e3 := ly_12_0 hX k_this
      refine r_getR hg dX12_counts_68 fl_X12_7 k_this rfl e3.1 ?_
      refine r_aload_n hg 1 dX12_counts_71 rfl rfl ?_
      refine r_iload_n hg 4 dX12_counts_72 rfl rfl ?_
      obtain ⟨v4, e5, h⟩ := q_b1_some h
      refine r_cV1i hg dX12_counts_73 mt_X12_textAt ml_X12_297 mv_X12_textAt k_this (s_X12_textAt hΓ hX k_this e5) (q_room (Nat.le_of_ble_eq_true rfl) (Nat.le_of_ble_eq_true rfl)) ⟨Nat.zero_le _, Nat.zero_le _⟩ (Nat.le_of_ble_eq_true rfl) ?_
      refine r_iconst hg dX12_counts_76 ci_1 ?_
      refine r_iadd hg dX12_counts_77 ?_
      obtain ⟨v6, e7, h⟩ := q_b1_some h
      refine r_iald hg dX12_counts_78 e3.2 e7 ?_
      refine r_aload_n hg 1 dX12_counts_79 rfl rfl ?_
      have e8 := ly_12_0 hX k_this
      refine r_getR hg dX12_counts_80 fl_X12_7 k_this rfl e8.1 ?_
      refine r_aload_n hg 1 dX12_counts_83 rfl rfl ?_
      refine r_iload_n hg 3 dX12_counts_84 rfl rfl ?_
      obtain ⟨v9, e10, h⟩ := q_b1_some h
      refine r_cV1i hg dX12_counts_85 mt_X12_textAt ml_X12_297 mv_X12_textAt k_this (s_X12_textAt hΓ hX k_this e10) (q_room (Nat.le_of_ble_eq_true rfl) (Nat.le_of_ble_eq_true rfl)) ⟨Nat.zero_le _, Nat.zero_le _⟩ (Nat.le_of_ble_eq_true rfl) ?_
      refine r_iconst hg dX12_counts_88 ci_1 ?_
      refine r_iadd hg dX12_counts_89 ?_
      obtain ⟨v11, e12, h⟩ := q_b1_some h
      refine r_iald hg dX12_counts_90 e8.2 e12 ?_
      refine r_icmp_lt hg 98 dX12_counts_91 (by decide) (fun c13 => ?_) (fun c13 => ?_)
      · rw [if_pos c13] at h
        refine r_sub hg [1, 2, 3, 4] rfl ?_
        exact p_X12_counts_98 hΓ hg hr hX k_this hk4 _ _ h
      · rw [if_neg c13] at h
        refine r_sub hg [1, 2, 4] rfl ?_
        exact p_X12_counts_94 hΓ hg hr hX k_this hk4 _ h
def b_X12_counts_55 (this : Nat) (x1 : Int32) (I : qI) (k4 : Int32 → Int32 → Option (Int32)) (x2 : Int32) (x3 : Int32) : Option (Int32) :=
  b_X12_counts_56 this x1 I k4 x2 x3 (nI 0)
set_option maxRecDepth 100000 in
set_option maxHeartbeats 4000000 in
theorem p_X12_counts_55 {l : Launch} {Γ : qC} {g : qG} {z : Int32} {this : Nat} {x1 : Int32} {X : qX} {I : qI} (hΓ : q_gm Γ) (hg : q_Ok l Γ RX12 cX12_counts 5 (q_rm 3 0 0) "counts" (some .int) g) (hr : q_Rt cX12_counts (some .int) (q_rm 3 0 0) (some (.int z), I, X) g) (hX : q_Lay X) (k_this : q_kd X this = some (14, 42)) {k4 : Int32 → Int32 → Option (Int32)} (hk4 : ∀ (x2 : Int32) (x3 : Int32), k4 x2 x3 = some z → g 0 0 4 [(0, .ref this), (1, .int x1), (2, .int x2), (3, .int x3)] [] I X) (x2 : Int32) (x3 : Int32) (h : b_X12_counts_55 this x1 I k4 x2 x3 = some z) : g 0 0 55 [(0, .ref this), (1, .int x1), (2, .int x2), (3, .int x3)] [] I X := by
  unfold b_X12_counts_55 at h
  refine r_iconst hg dX12_counts_55 ci_0 ?_
  exact p_X12_counts_56 hΓ hg hr hX k_this hk4 _ _ _ h
def b_X12_counts_4 (this : Nat) (x1 : Int32) (I : qI) (k4 : Int32 → Int32 → Option (Int32)) (x2 : Int32) (x3 : Int32) : Option (Int32) :=
  q_b1 (q_rd I (this + 1) 3580 (nI 4)) fun v2 =>
  if v2 ≤ x3 then
    some (x2)
  else
    q_b1 (f_X12_textAt this x3) fun v6 =>
    q_b1 (q_rd I (this + 1) 3580 (v6 + (nI 0))) fun v8 =>
    if v8 = x1 then
      q_b1 (f_X12_textAt this x3) fun v12 =>
      q_b1 (q_rd I (this + 1) 3580 (v12 + (nI 1))) fun v14 =>
      q_b1 (q_rd I (this + 1) 3580 (nI 0)) fun v17 =>
      if v17 < v14 then
        b_X12_counts_55 this x1 I k4 x2 x3
      else
        b_X12_counts_56 this x1 I k4 x2 x3 (nI 1)
    else
      b_X12_counts_55 this x1 I k4 x2 x3
set_option maxRecDepth 100000 in
set_option maxHeartbeats 4000000 in
theorem p_X12_counts_4 {l : Launch} {Γ : qC} {g : qG} {z : Int32} {this : Nat} {x1 : Int32} {X : qX} {I : qI} (hΓ : q_gm Γ) (hg : q_Ok l Γ RX12 cX12_counts 5 (q_rm 3 0 0) "counts" (some .int) g) (hr : q_Rt cX12_counts (some .int) (q_rm 3 0 0) (some (.int z), I, X) g) (hX : q_Lay X) (k_this : q_kd X this = some (14, 42)) {k4 : Int32 → Int32 → Option (Int32)} (hk4 : ∀ (x2 : Int32) (x3 : Int32), k4 x2 x3 = some z → g 0 0 4 [(0, .ref this), (1, .int x1), (2, .int x2), (3, .int x3)] [] I X) (x2 : Int32) (x3 : Int32) (h : b_X12_counts_4 this x1 I k4 x2 x3 = some z) : g 0 0 4 [(0, .ref this), (1, .int x1), (2, .int x2), (3, .int x3)] [] I X := by
  unfold b_X12_counts_4 at h
  refine r_iload_n hg 3 dX12_counts_4 rfl rfl ?_
  refine r_aload_n hg 0 dX12_counts_5 rfl rfl ?_
  have e1 := ly_12_0 hX k_this
  refine r_getR hg dX12_counts_6 fl_X12_7 k_this rfl e1.1 ?_
  refine r_iconst hg dX12_counts_9 ci_4 ?_
  obtain ⟨v2, e3, h⟩ := q_b1_some h
  refine r_iald hg dX12_counts_10 e1.2 e3 ?_
  refine r_icmp_ge hg 106 dX12_counts_11 (by decide) (fun c4 => ?_) (fun c4 => ?_)
  · rw [if_pos c4] at h
    refine r_iload_n hg 2 dX12_counts_106 rfl rfl ?_
    exact r_ireturn hr dX12_counts_107 ⟨Nat.zero_le _, Nat.zero_le _⟩ ⟨_, rfl, rfl⟩ (by cases h; rfl)
  · rw [if_neg c4] at h
    refine r_aload_n hg 0 dX12_counts_14 rfl rfl ?_
    have e5 := ly_12_0 hX k_this
    refine r_getR hg dX12_counts_15 fl_X12_7 k_this rfl e5.1 ?_
    refine r_aload_n hg 0 dX12_counts_18 rfl rfl ?_
    refine r_iload_n hg 3 dX12_counts_19 rfl rfl ?_
    obtain ⟨v6, e7, h⟩ := q_b1_some h
    refine r_cV1i hg dX12_counts_20 mt_X12_textAt ml_X12_297 mv_X12_textAt k_this (s_X12_textAt hΓ hX k_this e7) (q_room (Nat.le_of_ble_eq_true rfl) (Nat.le_of_ble_eq_true rfl)) ⟨Nat.zero_le _, Nat.zero_le _⟩ (Nat.le_of_ble_eq_true rfl) ?_
    refine r_iconst hg dX12_counts_23 ci_0 ?_
    refine r_iadd hg dX12_counts_24 ?_
    obtain ⟨v8, e9, h⟩ := q_b1_some h
    refine r_iald hg dX12_counts_25 e5.2 e9 ?_
    refine r_iload_n hg 1 dX12_counts_26 rfl rfl ?_
    refine r_icmp_ne hg 55 dX12_counts_27 (by decide) (fun c10 => ?_) (fun c10 => ?_)
    · rw [if_neg c10] at h
      exact p_X12_counts_55 hΓ hg hr hX k_this hk4 _ _ h
    · rw [if_pos (Classical.not_not.mp c10)] at h
      refine r_aload_n hg 0 dX12_counts_30 rfl rfl ?_
      have e11 := ly_12_0 hX k_this
      refine r_getR hg dX12_counts_31 fl_X12_7 k_this rfl e11.1 ?_
      refine r_aload_n hg 0 dX12_counts_34 rfl rfl ?_
      refine r_iload_n hg 3 dX12_counts_35 rfl rfl ?_
      obtain ⟨v12, e13, h⟩ := q_b1_some h
      refine r_cV1i hg dX12_counts_36 mt_X12_textAt ml_X12_297 mv_X12_textAt k_this (s_X12_textAt hΓ hX k_this e13) (q_room (Nat.le_of_ble_eq_true rfl) (Nat.le_of_ble_eq_true rfl)) ⟨Nat.zero_le _, Nat.zero_le _⟩ (Nat.le_of_ble_eq_true rfl) ?_
      refine r_iconst hg dX12_counts_39 ci_1 ?_
      refine r_iadd hg dX12_counts_40 ?_
      obtain ⟨v14, e15, h⟩ := q_b1_some h
      refine r_iald hg dX12_counts_41 e11.2 e15 ?_
      refine r_aload_n hg 0 dX12_counts_42 rfl rfl ?_
      have e16 := ly_12_0 hX k_this
      refine r_getR hg dX12_counts_43 fl_X12_7 k_this rfl e16.1 ?_
      refine r_iconst hg dX12_counts_46 ci_0 ?_
      obtain ⟨v17, e18, h⟩ := q_b1_some h
      refine r_iald hg dX12_counts_47 e16.2 e18 ?_
      refine r_icmp_gt hg 55 dX12_counts_48 (by decide) (fun c19 => ?_) (fun c19 => ?_)
      · rw [if_pos c19] at h
        exact p_X12_counts_55 hΓ hg hr hX k_this hk4 _ _ h
      · rw [if_neg c19] at h
        refine r_iconst hg dX12_counts_51 ci_1 ?_
        refine r_goto hg 56 dX12_counts_52 (by decide) ?_
        exact p_X12_counts_56 hΓ hg hr hX k_this hk4 _ _ _ h
theorem pl_X12_counts_4 {l : Launch} {Γ : qC} {g : qG} {z : Int32} {this : Nat} {x1 : Int32} {X : qX} {I : qI} (hΓ : q_gm Γ) (hg : q_Ok l Γ RX12 cX12_counts 5 (q_rm 3 0 0) "counts" (some .int) g) (hr : q_Rt cX12_counts (some .int) (q_rm 3 0 0) (some (.int z), I, X) g) (hX : q_Lay X) (k_this : q_kd X this = some (14, 42)) : ∀ (n : Nat) (x2 : Int32) (x3 : Int32), q_fix (fun _ _ => none) (b_X12_counts_4 this x1 I) n x2 x3 = some z → g 0 0 4 [(0, .ref this), (1, .int x1), (2, .int x2), (3, .int x3)] [] I X := by
  intro n
  induction n with
  | zero =>
    intro x2 x3 h
    cases (show (none : Option (Int32)) = some z from h)
  | succ n ih =>
    intro x2 x3 h
    exact p_X12_counts_4 hΓ hg hr hX k_this ih _ _ h
def f_X12_counts (this : Nat) (x1 : Int32) (I : qI) : Option (Int32) :=
  q_fix (fun _ _ => none) (b_X12_counts_4 this x1 I) q_fu (-1) (nI 0)
set_option maxRecDepth 100000 in
set_option maxHeartbeats 4000000 in
theorem s_X12_counts {l : Launch} {Γ : qC} (hΓ : q_gm Γ) {X : qX} (hX : q_Lay X) {this : Nat} {x1 : Int32} (k_this : q_kd X this = some (14, 42)) {I : qI} {z : Int32} (h : f_X12_counts this x1 I = some z) : q_Sem l Γ (q_rm 3 0 0) yX12_counts cX12_counts 5 (some .int) [.ref this, .int x1] I X (some (.int z), I, X) := by
  refine q_met (by decide) (Nat.le_of_ble_eq_true rfl) (fun g hg hr => ?_)
  unfold f_X12_counts at h
  show g 0 0 0 [(0, .ref this), (1, .int x1)] [] I X
  refine r_iconst hg dX12_counts_0 ci_m1 ?_
  refine r_istore_n hg (L' := [(2, .int (-1)), (0, .ref this), (1, .int x1)]) dX12_counts_1 rfl (by decide) rfl ?_
  refine r_iconst hg dX12_counts_2 ci_0 ?_
  refine r_istore_n hg (L' := [(3, .int (nI 0)), (2, .int (-1)), (0, .ref this), (1, .int x1)]) dX12_counts_3 rfl (by decide) rfl ?_
  refine r_sub hg [2, 3, 1, 0] rfl ?_
  exact pl_X12_counts_4 hΓ hg hr hX k_this _ _ _ h

def f_X12_earned (this : Nat) (x1 : Int32) (I : qI) : Option (Int32) :=
  q_b1 (f_X12_manAt this x1) fun v3 =>
  q_b1 (q_rd I (this + 1) 3580 (v3 + (nI 10))) fun v5 =>
  q_b1 (f_X12_dueAt this v5) fun v7 =>
  q_b1 (q_rd I (this + 1) 3580 (v7 + (nI 2))) fun v9 =>
  some (v9)
set_option maxRecDepth 100000 in
set_option maxHeartbeats 4000000 in
theorem s_X12_earned {l : Launch} {Γ : qC} (hΓ : q_gm Γ) {X : qX} (hX : q_Lay X) {this : Nat} {x1 : Int32} (k_this : q_kd X this = some (14, 42)) {I : qI} {z : Int32} (h : f_X12_earned this x1 I = some z) : q_Sem l Γ (q_rm 3 0 0) yX12_earned cX12_earned 2 (some .int) [.ref this, .int x1] I X (some (.int z), I, X) := by
  refine q_met (by decide) (Nat.le_of_ble_eq_true rfl) (fun g hg hr => ?_)
  unfold f_X12_earned at h
  show g 0 0 0 [(0, .ref this), (1, .int x1)] [] I X
  refine r_aload_n hg 0 dX12_earned_0 rfl rfl ?_
  have e1 := ly_12_0 hX k_this
  refine r_getR hg dX12_earned_1 fl_X12_7 k_this rfl e1.1 ?_
  refine r_aload_n hg 0 dX12_earned_4 rfl rfl ?_
  refine r_aload_n hg 0 dX12_earned_5 rfl rfl ?_
  have e2 := ly_12_0 hX k_this
  refine r_getR hg dX12_earned_6 fl_X12_7 k_this rfl e2.1 ?_
  refine r_aload_n hg 0 dX12_earned_9 rfl rfl ?_
  refine r_iload_n hg 1 dX12_earned_10 rfl rfl ?_
  obtain ⟨v3, e4, h⟩ := q_b1_some h
  refine r_cV1i hg dX12_earned_11 mt_X12_manAt ml_X12_68 mv_X12_manAt k_this (s_X12_manAt hΓ hX k_this e4) (q_room (Nat.le_of_ble_eq_true rfl) (Nat.le_of_ble_eq_true rfl)) ⟨Nat.zero_le _, Nat.zero_le _⟩ (Nat.le_of_ble_eq_true rfl) ?_
  refine r_bipush hg dX12_earned_14 cb_10 ?_
  refine r_iadd hg dX12_earned_16 ?_
  obtain ⟨v5, e6, h⟩ := q_b1_some h
  refine r_iald hg dX12_earned_17 e2.2 e6 ?_
  obtain ⟨v7, e8, h⟩ := q_b1_some h
  refine r_cV1i hg dX12_earned_18 mt_X12_dueAt ml_X12_75 mv_X12_dueAt k_this (s_X12_dueAt hΓ hX k_this e8) (q_room (Nat.le_of_ble_eq_true rfl) (Nat.le_of_ble_eq_true rfl)) ⟨Nat.zero_le _, Nat.zero_le _⟩ (Nat.le_of_ble_eq_true rfl) ?_
  refine r_iconst hg dX12_earned_21 ci_2 ?_
  refine r_iadd hg dX12_earned_22 ?_
  obtain ⟨v9, e10, h⟩ := q_b1_some h
  refine r_iald hg dX12_earned_23 e1.2 e10 ?_
  exact r_ireturn hr dX12_earned_24 ⟨Nat.zero_le _, Nat.zero_le _⟩ ⟨_, rfl, rfl⟩ (by cases h; rfl)

def f_X12_end (this : Nat) (x1 : Int32) (x2 : Int32) (x3 : Int32) (x4 : Int32) (I : qI) : Option (Int32 × qI) :=
  q_b1 (f_X12_isIn x1.toInt64 (0 : Int64) (3 : Int64)) fun v1 =>
  if v1 = 0 then
    some ((-1000000001), I)
  else
    q_b1 (f_X12_isIn x2.toInt64 (0 : Int64) (3 : Int64)) fun v4 =>
    if v4 = 0 then
      some ((-1000000001), I)
    else
      q_b1 (f_X12_isIn x3.toInt64 (0 : Int64) (2 : Int64)) fun v7 =>
      if v7 = 0 then
        some ((-1000000001), I)
      else
        q_b1 (f_X12_isIn x4.toInt64 (0 : Int64) (1 : Int64)) fun v10 =>
        if v10 = 0 then
          some ((-1000000001), I)
        else
          q_b2 (f_X12_becomes this ((((nI 3250) + ((nI 12) * x1)) + ((nI 3) * x2)) + x3) x4 I) fun v13 I14 =>
          some (v13, I14)
set_option maxRecDepth 100000 in
set_option maxHeartbeats 4000000 in
theorem s_X12_end {l : Launch} {Γ : qC} (hΓ : q_gm Γ) {X : qX} (hX : q_Lay X) {this : Nat} {x1 : Int32} {x2 : Int32} {x3 : Int32} {x4 : Int32} (k_this : q_kd X this = some (14, 42)) {I : qI} {z : Int32 × qI} (h : f_X12_end this x1 x2 x3 x4 I = some z) : q_Sem l Γ (q_rm 3 0 0) yX12_end cX12_end 5 (some .int) [.ref this, .int x1, .int x2, .int x3, .int x4] I X (some (.int z.1), z.2, X) := by
  refine q_met (by decide) (Nat.le_of_ble_eq_true rfl) (fun g hg hr => ?_)
  unfold f_X12_end at h
  show g 0 0 0 [(0, .ref this), (1, .int x1), (2, .int x2), (3, .int x3), (4, .int x4)] [] I X
  refine r_iload_n hg 1 dX12_end_0 rfl rfl ?_
  refine r_i2l hg dX12_end_1 ?_
  refine r_lconst hg dX12_end_2 lc_0 ?_
  refine r_ldc2 hg dX12_end_3 kl_X12_102 ?_
  obtain ⟨v1, e2, h⟩ := q_b1_some h
  refine r_cS3i hg dX12_end_6 mt_X12_isIn ⟨ml_X12_64, mst_X12_isIn⟩ (s_X12_isIn hΓ hX e2) (q_room (Nat.le_of_ble_eq_true rfl) (Nat.le_of_ble_eq_true rfl)) ⟨Nat.zero_le _, Nat.zero_le _⟩ (Nat.le_of_ble_eq_true rfl) ?_
  refine r_if_eq hg 70 dX12_end_9 (by decide) (fun c3 => ?_) (fun c3 => ?_)
  · rw [if_pos c3] at h
    refine r_ldc hg dX12_end_70 kc_X12_90 ?_
    exact r_ireturn hr dX12_end_72 ⟨Nat.zero_le _, Nat.zero_le _⟩ ⟨_, rfl, rfl⟩ (by cases h; rfl)
  · rw [if_neg c3] at h
    refine r_iload_n hg 2 dX12_end_12 rfl rfl ?_
    refine r_i2l hg dX12_end_13 ?_
    refine r_lconst hg dX12_end_14 lc_0 ?_
    refine r_ldc2 hg dX12_end_15 kl_X12_102 ?_
    obtain ⟨v4, e5, h⟩ := q_b1_some h
    refine r_cS3i hg dX12_end_18 mt_X12_isIn ⟨ml_X12_64, mst_X12_isIn⟩ (s_X12_isIn hΓ hX e5) (q_room (Nat.le_of_ble_eq_true rfl) (Nat.le_of_ble_eq_true rfl)) ⟨Nat.zero_le _, Nat.zero_le _⟩ (Nat.le_of_ble_eq_true rfl) ?_
    refine r_if_eq hg 70 dX12_end_21 (by decide) (fun c6 => ?_) (fun c6 => ?_)
    · rw [if_pos c6] at h
      refine r_ldc hg dX12_end_70 kc_X12_90 ?_
      exact r_ireturn hr dX12_end_72 ⟨Nat.zero_le _, Nat.zero_le _⟩ ⟨_, rfl, rfl⟩ (by cases h; rfl)
    · rw [if_neg c6] at h
      refine r_iload_n hg 3 dX12_end_24 rfl rfl ?_
      refine r_i2l hg dX12_end_25 ?_
      refine r_lconst hg dX12_end_26 lc_0 ?_
      refine r_ldc2 hg dX12_end_27 kl_X12_125 ?_
      obtain ⟨v7, e8, h⟩ := q_b1_some h
      refine r_cS3i hg dX12_end_30 mt_X12_isIn ⟨ml_X12_64, mst_X12_isIn⟩ (s_X12_isIn hΓ hX e8) (q_room (Nat.le_of_ble_eq_true rfl) (Nat.le_of_ble_eq_true rfl)) ⟨Nat.zero_le _, Nat.zero_le _⟩ (Nat.le_of_ble_eq_true rfl) ?_
      refine r_if_eq hg 70 dX12_end_33 (by decide) (fun c9 => ?_) (fun c9 => ?_)
      · rw [if_pos c9] at h
        refine r_ldc hg dX12_end_70 kc_X12_90 ?_
        exact r_ireturn hr dX12_end_72 ⟨Nat.zero_le _, Nat.zero_le _⟩ ⟨_, rfl, rfl⟩ (by cases h; rfl)
      · rw [if_neg c9] at h
        refine r_iload hg 4 dX12_end_36 rfl ?_
        refine r_i2l hg dX12_end_38 ?_
        refine r_lconst hg dX12_end_39 lc_0 ?_
        refine r_lconst hg dX12_end_40 lc_1 ?_
        obtain ⟨v10, e11, h⟩ := q_b1_some h
        refine r_cS3i hg dX12_end_41 mt_X12_isIn ⟨ml_X12_64, mst_X12_isIn⟩ (s_X12_isIn hΓ hX e11) (q_room (Nat.le_of_ble_eq_true rfl) (Nat.le_of_ble_eq_true rfl)) ⟨Nat.zero_le _, Nat.zero_le _⟩ (Nat.le_of_ble_eq_true rfl) ?_
        refine r_if_eq hg 70 dX12_end_44 (by decide) (fun c12 => ?_) (fun c12 => ?_)
        · rw [if_pos c12] at h
          refine r_ldc hg dX12_end_70 kc_X12_90 ?_
          exact r_ireturn hr dX12_end_72 ⟨Nat.zero_le _, Nat.zero_le _⟩ ⟨_, rfl, rfl⟩ (by cases h; rfl)
        · rw [if_neg c12] at h
          refine r_aload_n hg 0 dX12_end_47 rfl rfl ?_
          refine r_sipush hg dX12_end_48 cs_3250 ?_
          refine r_bipush hg dX12_end_51 cb_12 ?_
          refine r_iload_n hg 1 dX12_end_53 rfl rfl ?_
          refine r_imul hg dX12_end_54 ?_
          refine r_iadd hg dX12_end_55 ?_
          refine r_iconst hg dX12_end_56 ci_3 ?_
          refine r_iload_n hg 2 dX12_end_57 rfl rfl ?_
          refine r_imul hg dX12_end_58 ?_
          refine r_iadd hg dX12_end_59 ?_
          refine r_iload_n hg 3 dX12_end_60 rfl rfl ?_
          refine r_iadd hg dX12_end_61 ?_
          refine r_iload hg 4 dX12_end_62 rfl ?_
          obtain ⟨v13, I14, e15, h⟩ := q_b2_some h
          refine r_cV2i hg dX12_end_64 mt_X12_becomes ml_X12_86 mv_X12_becomes k_this (s_X12_becomes hΓ hX k_this e15) (q_room (Nat.le_of_ble_eq_true rfl) (Nat.le_of_ble_eq_true rfl)) ⟨Nat.zero_le _, Nat.zero_le _⟩ (Nat.le_of_ble_eq_true rfl) ?_
          refine r_goto hg 72 dX12_end_67 (by decide) ?_
          exact r_ireturn hr dX12_end_72 ⟨Nat.zero_le _, Nat.zero_le _⟩ ⟨_, rfl, rfl⟩ (by cases h; rfl)

def b_X12_findRound_185 (this : Nat) (x1 : Int32) (k111 : Int32 → Int32 → qI → Option (Int32 × qI)) (x2 : Int32) (x3 : Int32) (I : qI) : Option (Int32 × qI) :=
  k111 x2 (x3 + (nI 1)) I
set_option maxRecDepth 100000 in
set_option maxHeartbeats 4000000 in
theorem p_X12_findRound_185 {l : Launch} {Γ : qC} {g : qG} {z : Int32 × qI} {this : Nat} {x1 : Int32} {X : qX} (hΓ : q_gm Γ) (hg : q_Ok l Γ RX12 cX12_findRound 6 (q_rm 3 0 0) "findRound" (some .int) g) (hr : q_Rt cX12_findRound (some .int) (q_rm 3 0 0) (some (.int z.1), z.2, X) g) (hX : q_Lay X) (k_this : q_kd X this = some (14, 42)) {k111 : Int32 → Int32 → qI → Option (Int32 × qI)} (hk111 : ∀ (x2 : Int32) (x3 : Int32) (I : qI), k111 x2 x3 I = some z → g 0 0 111 [(0, .ref this), (1, .int x1), (2, .int x2), (3, .int x3)] [] I X) (x2 : Int32) (x3 : Int32) (I : qI) (h : b_X12_findRound_185 this x1 k111 x2 x3 I = some z) : g 0 0 185 [(0, .ref this), (1, .int x1), (2, .int x2), (3, .int x3)] [] I X := by
  unfold b_X12_findRound_185 at h
  refine r_iinc hg 3 (v := (x3 + (nI 1))) (L' := [(3, .int (x3 + (nI 1))), (0, .ref this), (1, .int x1), (2, .int x2)]) dX12_findRound_185 rfl (by rw [ci_1]) (by decide) rfl ?_
  refine r_goto hg 111 dX12_findRound_188 (by decide) ?_
  refine r_sub hg [1, 2, 3, 0] rfl ?_
  exact hk111 _ _ _ h
def b_X12_findRound_126 (this : Nat) (x1 : Int32) (k111 : Int32 → Int32 → qI → Option (Int32 × qI)) (k126 : Int32 → Int32 → Int32 → Int32 → qI → Option (Int32 × qI)) (x2 : Int32) (x3 : Int32) (x4 : Int32) (x5 : Int32) (I : qI) : Option (Int32 × qI) :=
  if x1 ≤ x5 then
    q_b1 (f_X12_ones x4) fun v2 =>
    if v2 ≤ x2 then
      b_X12_findRound_185 this x1 k111 x2 x3 I
    else
      q_b1 (f_X12_ones x4) fun v5 =>
      q_b1 (some (q_up I this 30 x3)) fun I7 =>
      b_X12_findRound_185 this x1 k111 v5 x3 I7
  else
    q_b1 (q_rd I (this + 11) 28 (((nI 4) * x5) + ((x3 >>> (((nI 2) * ((x1 - (nI 1)) - x5)) &&& 31)) &&& (nI 3)))) fun v10 =>
    k126 x2 x3 (x4 ||| v10) (x5 + (nI 1)) I
set_option maxRecDepth 100000 in
set_option maxHeartbeats 4000000 in
theorem p_X12_findRound_126 {l : Launch} {Γ : qC} {g : qG} {z : Int32 × qI} {this : Nat} {x1 : Int32} {X : qX} (hΓ : q_gm Γ) (hg : q_Ok l Γ RX12 cX12_findRound 6 (q_rm 3 0 0) "findRound" (some .int) g) (hr : q_Rt cX12_findRound (some .int) (q_rm 3 0 0) (some (.int z.1), z.2, X) g) (hX : q_Lay X) (k_this : q_kd X this = some (14, 42)) {k111 : Int32 → Int32 → qI → Option (Int32 × qI)} (hk111 : ∀ (x2 : Int32) (x3 : Int32) (I : qI), k111 x2 x3 I = some z → g 0 0 111 [(0, .ref this), (1, .int x1), (2, .int x2), (3, .int x3)] [] I X) {k126 : Int32 → Int32 → Int32 → Int32 → qI → Option (Int32 × qI)} (hk126 : ∀ (x2 : Int32) (x3 : Int32) (x4 : Int32) (x5 : Int32) (I : qI), k126 x2 x3 x4 x5 I = some z → g 0 0 126 [(0, .ref this), (1, .int x1), (2, .int x2), (3, .int x3), (4, .int x4), (5, .int x5)] [] I X) (x2 : Int32) (x3 : Int32) (x4 : Int32) (x5 : Int32) (I : qI) (h : b_X12_findRound_126 this x1 k111 k126 x2 x3 x4 x5 I = some z) : g 0 0 126 [(0, .ref this), (1, .int x1), (2, .int x2), (3, .int x3), (4, .int x4), (5, .int x5)] [] I X := by
  unfold b_X12_findRound_126 at h
  refine r_iload hg 5 dX12_findRound_126 rfl ?_
  refine r_iload_n hg 1 dX12_findRound_128 rfl rfl ?_
  refine r_icmp_ge hg 165 dX12_findRound_129 (by decide) (fun c1 => ?_) (fun c1 => ?_)
  · rw [if_pos c1] at h
    refine r_iload hg 4 dX12_findRound_165 rfl ?_
    obtain ⟨v2, e3, h⟩ := q_b1_some h
    refine r_cS1i hg dX12_findRound_167 mt_X12_ones ⟨ml_X12_392, mst_X12_ones⟩ (s_X12_ones hΓ hX e3) (q_room (Nat.le_of_ble_eq_true rfl) (Nat.le_of_ble_eq_true rfl)) ⟨Nat.zero_le _, Nat.zero_le _⟩ (Nat.le_of_ble_eq_true rfl) ?_
    refine r_iload_n hg 2 dX12_findRound_170 rfl rfl ?_
    refine r_icmp_le hg 185 dX12_findRound_171 (by decide) (fun c4 => ?_) (fun c4 => ?_)
    · rw [if_pos c4] at h
      refine r_sub hg [0, 1, 2, 3] rfl ?_
      exact p_X12_findRound_185 hΓ hg hr hX k_this hk111 _ _ _ h
    · rw [if_neg c4] at h
      refine r_iload hg 4 dX12_findRound_174 rfl ?_
      obtain ⟨v5, e6, h⟩ := q_b1_some h
      refine r_cS1i hg dX12_findRound_176 mt_X12_ones ⟨ml_X12_392, mst_X12_ones⟩ (s_X12_ones hΓ hX e6) (q_room (Nat.le_of_ble_eq_true rfl) (Nat.le_of_ble_eq_true rfl)) ⟨Nat.zero_le _, Nat.zero_le _⟩ (Nat.le_of_ble_eq_true rfl) ?_
      refine r_istore_n hg (L' := [(2, .int v5), (0, .ref this), (1, .int x1), (3, .int x3), (4, .int x4), (5, .int x5)]) dX12_findRound_179 rfl (by decide) rfl ?_
      refine r_aload_n hg 1 dX12_findRound_180 rfl rfl ?_
      refine r_iload_n hg 3 dX12_findRound_181 rfl rfl ?_
      obtain ⟨I7, e8, h⟩ := q_b1_some h
      obtain rfl := Option.some.inj e8
      refine r_putI hg dX12_findRound_182 fl_X12_395 k_this rfl ⟨rfl, rfl⟩ ?_
      refine r_sub hg [1, 2, 0, 3] rfl ?_
      exact p_X12_findRound_185 hΓ hg hr hX k_this hk111 _ _ _ h
  · rw [if_neg c1] at h
    refine r_iload hg 4 dX12_findRound_132 rfl ?_
    refine r_aload_n hg 0 dX12_findRound_134 rfl rfl ?_
    have e9 := ly_12_29 hX k_this
    refine r_getR hg dX12_findRound_135 fl_X12_40 k_this rfl e9.1 ?_
    refine r_iconst hg dX12_findRound_138 ci_4 ?_
    refine r_iload hg 5 dX12_findRound_139 rfl ?_
    refine r_imul hg dX12_findRound_141 ?_
    refine r_iload_n hg 3 dX12_findRound_142 rfl rfl ?_
    refine r_iconst hg dX12_findRound_143 ci_2 ?_
    refine r_iload_n hg 1 dX12_findRound_144 rfl rfl ?_
    refine r_iconst hg dX12_findRound_145 ci_1 ?_
    refine r_isub hg dX12_findRound_146 ?_
    refine r_iload hg 5 dX12_findRound_147 rfl ?_
    refine r_isub hg dX12_findRound_149 ?_
    refine r_imul hg dX12_findRound_150 ?_
    refine r_ishr hg dX12_findRound_151 ?_
    refine r_iconst hg dX12_findRound_152 ci_3 ?_
    refine r_iand hg dX12_findRound_153 ?_
    refine r_iadd hg dX12_findRound_154 ?_
    obtain ⟨v10, e11, h⟩ := q_b1_some h
    refine r_iald hg dX12_findRound_155 e9.2 e11 ?_
    refine r_ior hg dX12_findRound_156 ?_
    refine r_istore hg (L' := [(4, .int (x4 ||| v10)), (0, .ref this), (1, .int x1), (2, .int x2), (3, .int x3), (5, .int x5)]) dX12_findRound_157 (by decide) rfl ?_
    refine r_iinc hg 5 (v := (x5 + (nI 1))) (L' := [(5, .int (x5 + (nI 1))), (4, .int (x4 ||| v10)), (0, .ref this), (1, .int x1), (2, .int x2), (3, .int x3)]) dX12_findRound_159 rfl (by rw [ci_1]) (by decide) rfl ?_
    refine r_goto hg 126 dX12_findRound_162 (by decide) ?_
    refine r_sub hg [2, 3, 4, 5, 1, 0] rfl ?_
    exact hk126 _ _ _ _ _ h
theorem pl_X12_findRound_126 {l : Launch} {Γ : qC} {g : qG} {z : Int32 × qI} {this : Nat} {x1 : Int32} {X : qX} (hΓ : q_gm Γ) (hg : q_Ok l Γ RX12 cX12_findRound 6 (q_rm 3 0 0) "findRound" (some .int) g) (hr : q_Rt cX12_findRound (some .int) (q_rm 3 0 0) (some (.int z.1), z.2, X) g) (hX : q_Lay X) (k_this : q_kd X this = some (14, 42)) {k111 : Int32 → Int32 → qI → Option (Int32 × qI)} (hk111 : ∀ (x2 : Int32) (x3 : Int32) (I : qI), k111 x2 x3 I = some z → g 0 0 111 [(0, .ref this), (1, .int x1), (2, .int x2), (3, .int x3)] [] I X) : ∀ (n : Nat) (x2 : Int32) (x3 : Int32) (x4 : Int32) (x5 : Int32) (I : qI), q_fix (fun _ _ _ _ _ => none) (b_X12_findRound_126 this x1 k111) n x2 x3 x4 x5 I = some z → g 0 0 126 [(0, .ref this), (1, .int x1), (2, .int x2), (3, .int x3), (4, .int x4), (5, .int x5)] [] I X := by
  intro n
  induction n with
  | zero =>
    intro x2 x3 x4 x5 I h
    cases (show (none : Option (Int32 × qI)) = some z from h)
  | succ n ih =>
    intro x2 x3 x4 x5 I h
    exact p_X12_findRound_126 hΓ hg hr hX k_this hk111 ih _ _ _ _ _ h
def b_X12_findRound_111 (this : Nat) (x1 : Int32) (k111 : Int32 → Int32 → qI → Option (Int32 × qI)) (x2 : Int32) (x3 : Int32) (I : qI) : Option (Int32 × qI) :=
  if ((nI 1) <<< (((nI 2) * x1) &&& 31)) ≤ x3 then
    some (x2, I)
  else
    q_fix (fun _ _ _ _ _ => none) (b_X12_findRound_126 this x1 k111) q_fu x2 x3 (nI 0) (nI 0) I
set_option maxRecDepth 100000 in
set_option maxHeartbeats 4000000 in
theorem p_X12_findRound_111 {l : Launch} {Γ : qC} {g : qG} {z : Int32 × qI} {this : Nat} {x1 : Int32} {X : qX} (hΓ : q_gm Γ) (hg : q_Ok l Γ RX12 cX12_findRound 6 (q_rm 3 0 0) "findRound" (some .int) g) (hr : q_Rt cX12_findRound (some .int) (q_rm 3 0 0) (some (.int z.1), z.2, X) g) (hX : q_Lay X) (k_this : q_kd X this = some (14, 42)) {k111 : Int32 → Int32 → qI → Option (Int32 × qI)} (hk111 : ∀ (x2 : Int32) (x3 : Int32) (I : qI), k111 x2 x3 I = some z → g 0 0 111 [(0, .ref this), (1, .int x1), (2, .int x2), (3, .int x3)] [] I X) (x2 : Int32) (x3 : Int32) (I : qI) (h : b_X12_findRound_111 this x1 k111 x2 x3 I = some z) : g 0 0 111 [(0, .ref this), (1, .int x1), (2, .int x2), (3, .int x3)] [] I X := by
  unfold b_X12_findRound_111 at h
  refine r_iload_n hg 3 dX12_findRound_111 rfl rfl ?_
  refine r_iconst hg dX12_findRound_112 ci_1 ?_
  refine r_iconst hg dX12_findRound_113 ci_2 ?_
  refine r_iload_n hg 1 dX12_findRound_114 rfl rfl ?_
  refine r_imul hg dX12_findRound_115 ?_
  refine r_ishl hg dX12_findRound_116 ?_
  refine r_icmp_ge hg 191 dX12_findRound_117 (by decide) (fun c1 => ?_) (fun c1 => ?_)
  · rw [if_pos c1] at h
    refine r_iload_n hg 2 dX12_findRound_191 rfl rfl ?_
    exact r_ireturn hr dX12_findRound_192 ⟨Nat.zero_le _, Nat.zero_le _⟩ ⟨_, rfl, rfl⟩ (by cases h; rfl)
  · rw [if_neg c1] at h
    refine r_iconst hg dX12_findRound_120 ci_0 ?_
    refine r_istore hg (L' := [(4, .int (nI 0)), (0, .ref this), (1, .int x1), (2, .int x2), (3, .int x3)]) dX12_findRound_121 (by decide) rfl ?_
    refine r_iconst hg dX12_findRound_123 ci_0 ?_
    refine r_istore hg (L' := [(5, .int (nI 0)), (4, .int (nI 0)), (0, .ref this), (1, .int x1), (2, .int x2), (3, .int x3)]) dX12_findRound_124 (by decide) rfl ?_
    refine r_sub hg [2, 3, 4, 5, 1, 0] rfl ?_
    exact pl_X12_findRound_126 hΓ hg hr hX k_this hk111 _ _ _ _ _ _ h
theorem pl_X12_findRound_111 {l : Launch} {Γ : qC} {g : qG} {z : Int32 × qI} {this : Nat} {x1 : Int32} {X : qX} (hΓ : q_gm Γ) (hg : q_Ok l Γ RX12 cX12_findRound 6 (q_rm 3 0 0) "findRound" (some .int) g) (hr : q_Rt cX12_findRound (some .int) (q_rm 3 0 0) (some (.int z.1), z.2, X) g) (hX : q_Lay X) (k_this : q_kd X this = some (14, 42)) : ∀ (n : Nat) (x2 : Int32) (x3 : Int32) (I : qI), q_fix (fun _ _ _ => none) (b_X12_findRound_111 this x1) n x2 x3 I = some z → g 0 0 111 [(0, .ref this), (1, .int x1), (2, .int x2), (3, .int x3)] [] I X := by
  intro n
  induction n with
  | zero =>
    intro x2 x3 I h
    cases (show (none : Option (Int32 × qI)) = some z from h)
  | succ n ih =>
    intro x2 x3 I h
    exact p_X12_findRound_111 hΓ hg hr hX k_this ih _ _ _ h
def b_X12_findRound_93 (this : Nat) (x1 : Int32) (k2 : Int32 → qI → Option (Int32 × qI)) (k17 : Int32 → Int32 → qI → Option (Int32 × qI)) (x2 : Int32) (x3 : Int32) (s1 : Int32) (s2 : Int32) (s3 : Int32) (I : qI) : Option (Int32 × qI) :=
  q_b1 (q_wr I (this + 11) 28 s1 (s2 ||| s3)) fun I2 =>
  k17 x2 (x3 + (nI 1)) I2
set_option maxRecDepth 100000 in
set_option maxHeartbeats 4000000 in
theorem p_X12_findRound_93 {l : Launch} {Γ : qC} {g : qG} {z : Int32 × qI} {this : Nat} {x1 : Int32} {X : qX} (hΓ : q_gm Γ) (hg : q_Ok l Γ RX12 cX12_findRound 6 (q_rm 3 0 0) "findRound" (some .int) g) (hr : q_Rt cX12_findRound (some .int) (q_rm 3 0 0) (some (.int z.1), z.2, X) g) (hX : q_Lay X) (k_this : q_kd X this = some (14, 42)) {k2 : Int32 → qI → Option (Int32 × qI)} (hk2 : ∀ (x2 : Int32) (I : qI), k2 x2 I = some z → g 0 0 2 [(0, .ref this), (1, .int x1), (2, .int x2)] [] I X) {k17 : Int32 → Int32 → qI → Option (Int32 × qI)} (hk17 : ∀ (x2 : Int32) (x3 : Int32) (I : qI), k17 x2 x3 I = some z → g 0 0 17 [(0, .ref this), (1, .int x1), (2, .int x2), (3, .int x3)] [] I X) (x2 : Int32) (x3 : Int32) (s1 : Int32) (s2 : Int32) (s3 : Int32) (I : qI) (h : b_X12_findRound_93 this x1 k2 k17 x2 x3 s1 s2 s3 I = some z) : g 0 0 93 [(0, .ref this), (1, .int x1), (2, .int x2), (3, .int x3)] [.int s3, .int s2, .int s1, .ref (this + 11)] I X := by
  unfold b_X12_findRound_93 at h
  have e1 := ly_12_29 hX k_this
  refine r_ior hg dX12_findRound_93 ?_
  obtain ⟨I2, e3, h⟩ := q_b1_some h
  refine r_iast hg dX12_findRound_94 e1.2 e3 ?_
  refine r_iinc hg 3 (v := (x3 + (nI 1))) (L' := [(3, .int (x3 + (nI 1))), (0, .ref this), (1, .int x1), (2, .int x2)]) dX12_findRound_95 rfl (by rw [ci_1]) (by decide) rfl ?_
  refine r_goto hg 17 dX12_findRound_98 (by decide) ?_
  refine r_sub hg [1, 2, 3, 0] rfl ?_
  exact hk17 _ _ _ h
def b_X12_findRound_92 (this : Nat) (x1 : Int32) (k2 : Int32 → qI → Option (Int32 × qI)) (k17 : Int32 → Int32 → qI → Option (Int32 × qI)) (x2 : Int32) (x3 : Int32) (s1 : Int32) (s2 : Int32) (I : qI) : Option (Int32 × qI) :=
  b_X12_findRound_93 this x1 k2 k17 x2 x3 s1 s2 (nI 0) I
set_option maxRecDepth 100000 in
set_option maxHeartbeats 4000000 in
theorem p_X12_findRound_92 {l : Launch} {Γ : qC} {g : qG} {z : Int32 × qI} {this : Nat} {x1 : Int32} {X : qX} (hΓ : q_gm Γ) (hg : q_Ok l Γ RX12 cX12_findRound 6 (q_rm 3 0 0) "findRound" (some .int) g) (hr : q_Rt cX12_findRound (some .int) (q_rm 3 0 0) (some (.int z.1), z.2, X) g) (hX : q_Lay X) (k_this : q_kd X this = some (14, 42)) {k2 : Int32 → qI → Option (Int32 × qI)} (hk2 : ∀ (x2 : Int32) (I : qI), k2 x2 I = some z → g 0 0 2 [(0, .ref this), (1, .int x1), (2, .int x2)] [] I X) {k17 : Int32 → Int32 → qI → Option (Int32 × qI)} (hk17 : ∀ (x2 : Int32) (x3 : Int32) (I : qI), k17 x2 x3 I = some z → g 0 0 17 [(0, .ref this), (1, .int x1), (2, .int x2), (3, .int x3)] [] I X) (x2 : Int32) (x3 : Int32) (s1 : Int32) (s2 : Int32) (I : qI) (h : b_X12_findRound_92 this x1 k2 k17 x2 x3 s1 s2 I = some z) : g 0 0 92 [(0, .ref this), (1, .int x1), (2, .int x2), (3, .int x3)] [.int s2, .int s1, .ref (this + 11)] I X := by
  unfold b_X12_findRound_92 at h
  have e1 := ly_12_29 hX k_this
  refine r_iconst hg dX12_findRound_92 ci_0 ?_
  exact p_X12_findRound_93 hΓ hg hr hX k_this hk2 hk17 _ _ _ _ _ _ h
def b_X12_findRound_17 (this : Nat) (x1 : Int32) (k2 : Int32 → qI → Option (Int32 × qI)) (k17 : Int32 → Int32 → qI → Option (Int32 × qI)) (x2 : Int32) (x3 : Int32) (I : qI) : Option (Int32 × qI) :=
  q_b1 (q_rd I (this + 1) 3580 (nI 5)) fun v2 =>
  if v2 ≤ x3 then
    k2 (x2 + (nI 1)) I
  else
    q_b1 (q_rd I (this + 11) 28 x2) fun v6 =>
    q_b1 (q_rd I (this + 1) 3580 ((nI 3300) + ((nI 3) * x3))) fun v9 =>
    if v9 = (q_rem x2 (nI 4)) then
      q_b1 (q_rd I (this + 1) 3580 (((nI 3300) + ((nI 3) * x3)) + (nI 1))) fun v13 =>
      q_b1 (q_rd I (this + 1) 3580 (((nI 3300) + ((nI 3) * x3)) + (nI 2))) fun v16 =>
      q_b1 (f_X12_isIn ((x2 / (nI 4)).toInt64) v13.toInt64 v16.toInt64) fun v18 =>
      if v18 = 0 then
        b_X12_findRound_92 this x1 k2 k17 x2 x3 x2 v6 I
      else
        b_X12_findRound_93 this x1 k2 k17 x2 x3 x2 v6 ((nI 1) <<< (x3 &&& 31)) I
    else
      b_X12_findRound_92 this x1 k2 k17 x2 x3 x2 v6 I
set_option maxRecDepth 100000 in
set_option maxHeartbeats 4000000 in
theorem p_X12_findRound_17 {l : Launch} {Γ : qC} {g : qG} {z : Int32 × qI} {this : Nat} {x1 : Int32} {X : qX} (hΓ : q_gm Γ) (hg : q_Ok l Γ RX12 cX12_findRound 6 (q_rm 3 0 0) "findRound" (some .int) g) (hr : q_Rt cX12_findRound (some .int) (q_rm 3 0 0) (some (.int z.1), z.2, X) g) (hX : q_Lay X) (k_this : q_kd X this = some (14, 42)) {k2 : Int32 → qI → Option (Int32 × qI)} (hk2 : ∀ (x2 : Int32) (I : qI), k2 x2 I = some z → g 0 0 2 [(0, .ref this), (1, .int x1), (2, .int x2)] [] I X) {k17 : Int32 → Int32 → qI → Option (Int32 × qI)} (hk17 : ∀ (x2 : Int32) (x3 : Int32) (I : qI), k17 x2 x3 I = some z → g 0 0 17 [(0, .ref this), (1, .int x1), (2, .int x2), (3, .int x3)] [] I X) (x2 : Int32) (x3 : Int32) (I : qI) (h : b_X12_findRound_17 this x1 k2 k17 x2 x3 I = some z) : g 0 0 17 [(0, .ref this), (1, .int x1), (2, .int x2), (3, .int x3)] [] I X := by
  unfold b_X12_findRound_17 at h
  refine r_iload_n hg 3 dX12_findRound_17 rfl rfl ?_
  refine r_aload_n hg 0 dX12_findRound_18 rfl rfl ?_
  have e1 := ly_12_0 hX k_this
  refine r_getR hg dX12_findRound_19 fl_X12_7 k_this rfl e1.1 ?_
  refine r_iconst hg dX12_findRound_22 ci_5 ?_
  obtain ⟨v2, e3, h⟩ := q_b1_some h
  refine r_iald hg dX12_findRound_23 e1.2 e3 ?_
  refine r_icmp_ge hg 101 dX12_findRound_24 (by decide) (fun c4 => ?_) (fun c4 => ?_)
  · rw [if_pos c4] at h
    refine r_iinc hg 2 (v := (x2 + (nI 1))) (L' := [(2, .int (x2 + (nI 1))), (0, .ref this), (1, .int x1), (3, .int x3)]) dX12_findRound_101 rfl (by rw [ci_1]) (by decide) rfl ?_
    refine r_goto hg 2 dX12_findRound_104 (by decide) ?_
    refine r_sub hg [1, 2, 0] rfl ?_
    exact hk2 _ _ h
  · rw [if_neg c4] at h
    refine r_sipush hg dX12_findRound_27 cs_3300 ?_
    refine r_iconst hg dX12_findRound_30 ci_3 ?_
    refine r_iload_n hg 3 dX12_findRound_31 rfl rfl ?_
    refine r_imul hg dX12_findRound_32 ?_
    refine r_iadd hg dX12_findRound_33 ?_
    refine r_istore hg (L' := [(4, .int ((nI 3300) + ((nI 3) * x3))), (0, .ref this), (1, .int x1), (2, .int x2), (3, .int x3)]) dX12_findRound_34 (by decide) rfl ?_
    refine r_aload_n hg 1 dX12_findRound_36 rfl rfl ?_
    have e5 := ly_12_29 hX k_this
    refine r_getR hg dX12_findRound_37 fl_X12_40 k_this rfl e5.1 ?_
    refine r_iload_n hg 3 dX12_findRound_40 rfl rfl ?_
    refine r_dup2 hg dX12_findRound_41 rfl rfl ?_
    obtain ⟨v6, e7, h⟩ := q_b1_some h
    refine r_iald hg dX12_findRound_42 e5.2 e7 ?_
    refine r_aload_n hg 1 dX12_findRound_43 rfl rfl ?_
    have e8 := ly_12_0 hX k_this
    refine r_getR hg dX12_findRound_44 fl_X12_7 k_this rfl e8.1 ?_
    refine r_iload hg 0 dX12_findRound_47 rfl ?_
    obtain ⟨v9, e10, h⟩ := q_b1_some h
    refine r_iald hg dX12_findRound_49 e8.2 e10 ?_
    refine r_iload_n hg 3 dX12_findRound_50 rfl rfl ?_
    refine r_iconst hg dX12_findRound_51 ci_4 ?_
    refine r_iremq hg dX12_findRound_52 nz_4 ?_
    refine r_icmp_ne hg 92 dX12_findRound_53 (by decide) (fun c11 => ?_) (fun c11 => ?_)
    · rw [if_neg c11] at h
      refine r_sub hg [1, 2, 3, 4] rfl ?_
      exact p_X12_findRound_92 hΓ hg hr hX k_this hk2 hk17 _ _ _ _ _ h
    · rw [if_pos (Classical.not_not.mp c11)] at h
      refine r_iload_n hg 3 dX12_findRound_56 rfl rfl ?_
      refine r_iconst hg dX12_findRound_57 ci_4 ?_
      refine r_idiv hg dX12_findRound_58 nz_4 ?_
      refine r_i2l hg dX12_findRound_59 ?_
      refine r_aload_n hg 1 dX12_findRound_60 rfl rfl ?_
      have e12 := ly_12_0 hX k_this
      refine r_getR hg dX12_findRound_61 fl_X12_7 k_this rfl e12.1 ?_
      refine r_iload hg 0 dX12_findRound_64 rfl ?_
      refine r_iconst hg dX12_findRound_66 ci_1 ?_
      refine r_iadd hg dX12_findRound_67 ?_
      obtain ⟨v13, e14, h⟩ := q_b1_some h
      refine r_iald hg dX12_findRound_68 e12.2 e14 ?_
      refine r_i2l hg dX12_findRound_69 ?_
      refine r_aload_n hg 1 dX12_findRound_70 rfl rfl ?_
      have e15 := ly_12_0 hX k_this
      refine r_getR hg dX12_findRound_71 fl_X12_7 k_this rfl e15.1 ?_
      refine r_iload hg 0 dX12_findRound_74 rfl ?_
      refine r_iconst hg dX12_findRound_76 ci_2 ?_
      refine r_iadd hg dX12_findRound_77 ?_
      obtain ⟨v16, e17, h⟩ := q_b1_some h
      refine r_iald hg dX12_findRound_78 e15.2 e17 ?_
      refine r_i2l hg dX12_findRound_79 ?_
      obtain ⟨v18, e19, h⟩ := q_b1_some h
      refine r_cS3i hg dX12_findRound_80 mt_X12_isIn ⟨ml_X12_64, mst_X12_isIn⟩ (s_X12_isIn hΓ hX e19) (q_room (Nat.le_of_ble_eq_true rfl) (Nat.le_of_ble_eq_true rfl)) ⟨Nat.zero_le _, Nat.zero_le _⟩ (Nat.le_of_ble_eq_true rfl) ?_
      refine r_if_eq hg 92 dX12_findRound_83 (by decide) (fun c20 => ?_) (fun c20 => ?_)
      · rw [if_pos c20] at h
        refine r_sub hg [1, 2, 3, 4] rfl ?_
        exact p_X12_findRound_92 hΓ hg hr hX k_this hk2 hk17 _ _ _ _ _ h
      · rw [if_neg c20] at h
        refine r_iconst hg dX12_findRound_86 ci_1 ?_
        refine r_iload_n hg 4 dX12_findRound_87 rfl rfl ?_
        refine r_ishl hg dX12_findRound_88 ?_
        refine r_goto hg 93 dX12_findRound_89 (by decide) ?_
        refine r_sub hg [1, 2, 3, 4] rfl ?_
        exact p_X12_findRound_93 hΓ hg hr hX k_this hk2 hk17 _ _ _ _ _ _ h
theorem pl_X12_findRound_17 {l : Launch} {Γ : qC} {g : qG} {z : Int32 × qI} {this : Nat} {x1 : Int32} {X : qX} (hΓ : q_gm Γ) (hg : q_Ok l Γ RX12 cX12_findRound 6 (q_rm 3 0 0) "findRound" (some .int) g) (hr : q_Rt cX12_findRound (some .int) (q_rm 3 0 0) (some (.int z.1), z.2, X) g) (hX : q_Lay X) (k_this : q_kd X this = some (14, 42)) {k2 : Int32 → qI → Option (Int32 × qI)} (hk2 : ∀ (x2 : Int32) (I : qI), k2 x2 I = some z → g 0 0 2 [(0, .ref this), (1, .int x1), (2, .int x2)] [] I X) : ∀ (n : Nat) (x2 : Int32) (x3 : Int32) (I : qI), q_fix (fun _ _ _ => none) (b_X12_findRound_17 this x1 k2) n x2 x3 I = some z → g 0 0 17 [(0, .ref this), (1, .int x1), (2, .int x2), (3, .int x3)] [] I X := by
  intro n
  induction n with
  | zero =>
    intro x2 x3 I h
    cases (show (none : Option (Int32 × qI)) = some z from h)
  | succ n ih =>
    intro x2 x3 I h
    exact p_X12_findRound_17 hΓ hg hr hX k_this hk2 ih _ _ _ h
def b_X12_findRound_2 (this : Nat) (x1 : Int32) (k2 : Int32 → qI → Option (Int32 × qI)) (x2 : Int32) (I : qI) : Option (Int32 × qI) :=
  if (nI 28) ≤ x2 then
    q_fix (fun _ _ _ => none) (b_X12_findRound_111 this x1) q_fu (-1) (nI 0) I
  else
    q_b1 (q_wr I (this + 11) 28 x2 (nI 0)) fun I3 =>
    q_fix (fun _ _ _ => none) (b_X12_findRound_17 this x1 k2) q_fu x2 (nI 0) I3
set_option maxRecDepth 100000 in
set_option maxHeartbeats 4000000 in
theorem p_X12_findRound_2 {l : Launch} {Γ : qC} {g : qG} {z : Int32 × qI} {this : Nat} {x1 : Int32} {X : qX} (hΓ : q_gm Γ) (hg : q_Ok l Γ RX12 cX12_findRound 6 (q_rm 3 0 0) "findRound" (some .int) g) (hr : q_Rt cX12_findRound (some .int) (q_rm 3 0 0) (some (.int z.1), z.2, X) g) (hX : q_Lay X) (k_this : q_kd X this = some (14, 42)) {k2 : Int32 → qI → Option (Int32 × qI)} (hk2 : ∀ (x2 : Int32) (I : qI), k2 x2 I = some z → g 0 0 2 [(0, .ref this), (1, .int x1), (2, .int x2)] [] I X) (x2 : Int32) (I : qI) (h : b_X12_findRound_2 this x1 k2 x2 I = some z) : g 0 0 2 [(0, .ref this), (1, .int x1), (2, .int x2)] [] I X := by
  unfold b_X12_findRound_2 at h
  refine r_iload_n hg 2 dX12_findRound_2 rfl rfl ?_
  refine r_bipush hg dX12_findRound_3 cb_28 ?_
  refine r_icmp_ge hg 107 dX12_findRound_5 (by decide) (fun c1 => ?_) (fun c1 => ?_)
  · rw [if_pos c1] at h
    refine r_iconst hg dX12_findRound_107 ci_m1 ?_
    refine r_istore_n hg (L' := [(2, .int (-1)), (0, .ref this), (1, .int x1)]) dX12_findRound_108 rfl (by decide) rfl ?_
    refine r_iconst hg dX12_findRound_109 ci_0 ?_
    refine r_istore_n hg (L' := [(3, .int (nI 0)), (2, .int (-1)), (0, .ref this), (1, .int x1)]) dX12_findRound_110 rfl (by decide) rfl ?_
    refine r_sub hg [2, 3, 1, 0] rfl ?_
    exact pl_X12_findRound_111 hΓ hg hr hX k_this _ _ _ _ h
  · rw [if_neg c1] at h
    refine r_aload_n hg 0 dX12_findRound_8 rfl rfl ?_
    have e2 := ly_12_29 hX k_this
    refine r_getR hg dX12_findRound_9 fl_X12_40 k_this rfl e2.1 ?_
    refine r_iload_n hg 2 dX12_findRound_12 rfl rfl ?_
    refine r_iconst hg dX12_findRound_13 ci_0 ?_
    obtain ⟨I3, e4, h⟩ := q_b1_some h
    refine r_iast hg dX12_findRound_14 e2.2 e4 ?_
    refine r_iconst hg dX12_findRound_15 ci_0 ?_
    refine r_istore_n hg (L' := [(3, .int (nI 0)), (0, .ref this), (1, .int x1), (2, .int x2)]) dX12_findRound_16 rfl (by decide) rfl ?_
    refine r_sub hg [1, 2, 3, 0] rfl ?_
    exact pl_X12_findRound_17 hΓ hg hr hX k_this hk2 _ _ _ _ h
theorem pl_X12_findRound_2 {l : Launch} {Γ : qC} {g : qG} {z : Int32 × qI} {this : Nat} {x1 : Int32} {X : qX} (hΓ : q_gm Γ) (hg : q_Ok l Γ RX12 cX12_findRound 6 (q_rm 3 0 0) "findRound" (some .int) g) (hr : q_Rt cX12_findRound (some .int) (q_rm 3 0 0) (some (.int z.1), z.2, X) g) (hX : q_Lay X) (k_this : q_kd X this = some (14, 42)) : ∀ (n : Nat) (x2 : Int32) (I : qI), q_fix (fun _ _ => none) (b_X12_findRound_2 this x1) n x2 I = some z → g 0 0 2 [(0, .ref this), (1, .int x1), (2, .int x2)] [] I X := by
  intro n
  induction n with
  | zero =>
    intro x2 I h
    cases (show (none : Option (Int32 × qI)) = some z from h)
  | succ n ih =>
    intro x2 I h
    exact p_X12_findRound_2 hΓ hg hr hX k_this ih _ _ h
def f_X12_findRound (this : Nat) (x1 : Int32) (I : qI) : Option (Int32 × qI) :=
  q_fix (fun _ _ => none) (b_X12_findRound_2 this x1) q_fu (nI 0) I
set_option maxRecDepth 100000 in
set_option maxHeartbeats 4000000 in
theorem s_X12_findRound {l : Launch} {Γ : qC} (hΓ : q_gm Γ) {X : qX} (hX : q_Lay X) {this : Nat} {x1 : Int32} (k_this : q_kd X this = some (14, 42)) {I : qI} {z : Int32 × qI} (h : f_X12_findRound this x1 I = some z) : q_Sem l Γ (q_rm 3 0 0) yX12_findRound cX12_findRound 6 (some .int) [.ref this, .int x1] I X (some (.int z.1), z.2, X) := by
  refine q_met (by decide) (Nat.le_of_ble_eq_true rfl) (fun g hg hr => ?_)
  unfold f_X12_findRound at h
  show g 0 0 0 [(0, .ref this), (1, .int x1)] [] I X
  refine r_iconst hg dX12_findRound_0 ci_0 ?_
  refine r_istore_n hg (L' := [(2, .int (nI 0)), (0, .ref this), (1, .int x1)]) dX12_findRound_1 rfl (by decide) rfl ?_
  refine r_sub hg [1, 2, 0] rfl ?_
  exact pl_X12_findRound_2 hΓ hg hr hX k_this _ _ _ h

def f_X12_gets (this : Nat) (x1 : Int32) (x2 : Int32) (x3 : Int32) (I : qI) : Option (qI) :=
  q_b1 (f_X12_manAt this x1) fun v2 =>
  q_b1 (f_X12_manAt this x1) fun v5 =>
  q_b1 (q_rd I (this + 1) 3580 (v5 + x2)) fun v7 =>
  q_b1 (f_X12_least (nI 99999) (v7 + x3)) fun v9 =>
  q_b1 (q_wr I (this + 1) 3580 (v2 + x2) v9) fun I11 =>
  some (I11)
set_option maxRecDepth 100000 in
set_option maxHeartbeats 4000000 in
theorem s_X12_gets {l : Launch} {Γ : qC} (hΓ : q_gm Γ) {X : qX} (hX : q_Lay X) {this : Nat} {x1 : Int32} {x2 : Int32} {x3 : Int32} (k_this : q_kd X this = some (14, 42)) {I : qI} {z : qI} (h : f_X12_gets this x1 x2 x3 I = some z) : q_Sem l Γ (q_rm 3 0 0) yX12_gets cX12_gets 4 none [.ref this, .int x1, .int x2, .int x3] I X (none, z, X) := by
  refine q_met (by decide) (Nat.le_of_ble_eq_true rfl) (fun g hg hr => ?_)
  unfold f_X12_gets at h
  show g 0 0 0 [(0, .ref this), (1, .int x1), (2, .int x2), (3, .int x3)] [] I X
  refine r_aload_n hg 0 dX12_gets_0 rfl rfl ?_
  have e1 := ly_12_0 hX k_this
  refine r_getR hg dX12_gets_1 fl_X12_7 k_this rfl e1.1 ?_
  refine r_aload_n hg 0 dX12_gets_4 rfl rfl ?_
  refine r_iload_n hg 1 dX12_gets_5 rfl rfl ?_
  obtain ⟨v2, e3, h⟩ := q_b1_some h
  refine r_cV1i hg dX12_gets_6 mt_X12_manAt ml_X12_68 mv_X12_manAt k_this (s_X12_manAt hΓ hX k_this e3) (q_room (Nat.le_of_ble_eq_true rfl) (Nat.le_of_ble_eq_true rfl)) ⟨Nat.zero_le _, Nat.zero_le _⟩ (Nat.le_of_ble_eq_true rfl) ?_
  refine r_iload_n hg 2 dX12_gets_9 rfl rfl ?_
  refine r_iadd hg dX12_gets_10 ?_
  refine r_ldc hg dX12_gets_11 kc_X12_183 ?_
  refine r_aload_n hg 0 dX12_gets_13 rfl rfl ?_
  have e4 := ly_12_0 hX k_this
  refine r_getR hg dX12_gets_14 fl_X12_7 k_this rfl e4.1 ?_
  refine r_aload_n hg 0 dX12_gets_17 rfl rfl ?_
  refine r_iload_n hg 1 dX12_gets_18 rfl rfl ?_
  obtain ⟨v5, e6, h⟩ := q_b1_some h
  refine r_cV1i hg dX12_gets_19 mt_X12_manAt ml_X12_68 mv_X12_manAt k_this (s_X12_manAt hΓ hX k_this e6) (q_room (Nat.le_of_ble_eq_true rfl) (Nat.le_of_ble_eq_true rfl)) ⟨Nat.zero_le _, Nat.zero_le _⟩ (Nat.le_of_ble_eq_true rfl) ?_
  refine r_iload_n hg 2 dX12_gets_22 rfl rfl ?_
  refine r_iadd hg dX12_gets_23 ?_
  obtain ⟨v7, e8, h⟩ := q_b1_some h
  refine r_iald hg dX12_gets_24 e4.2 e8 ?_
  refine r_iload_n hg 3 dX12_gets_25 rfl rfl ?_
  refine r_iadd hg dX12_gets_26 ?_
  obtain ⟨v9, e10, h⟩ := q_b1_some h
  refine r_cS2i hg dX12_gets_27 mt_X12_least ⟨ml_X12_138, mst_X12_least⟩ (s_X12_least hΓ hX e10) (q_room (Nat.le_of_ble_eq_true rfl) (Nat.le_of_ble_eq_true rfl)) ⟨Nat.zero_le _, Nat.zero_le _⟩ (Nat.le_of_ble_eq_true rfl) ?_
  obtain ⟨I11, e12, h⟩ := q_b1_some h
  refine r_iast hg dX12_gets_30 e1.2 e12 ?_
  exact r_return hr dX12_gets_31 ⟨Nat.zero_le _, Nat.zero_le _⟩ rfl (by cases h; rfl)

def f_X12_isDigit (this : Nat) (x1 : Int32) (I : qI) : Option (Int32) :=
  if (I this 14) ≤ x1 then
    some ((nI 0))
  else
    q_b1 (q_rd I (this + 7) 96 x1) fun v3 =>
    q_b1 (f_X12_isIn v3.toInt64 (48 : Int64) (57 : Int64)) fun v5 =>
    if v5 = 0 then
      some ((nI 0))
    else
      some ((nI 1))
set_option maxRecDepth 100000 in
set_option maxHeartbeats 4000000 in
theorem s_X12_isDigit {l : Launch} {Γ : qC} (hΓ : q_gm Γ) {X : qX} (hX : q_Lay X) {this : Nat} {x1 : Int32} (k_this : q_kd X this = some (14, 42)) {I : qI} {z : Int32} (h : f_X12_isDigit this x1 I = some z) : q_Sem l Γ (q_rm 3 0 0) yX12_isDigit cX12_isDigit 2 (some .boolean) [.ref this, .int x1] I X (some (.int z), I, X) := by
  refine q_met (by decide) (Nat.le_of_ble_eq_true rfl) (fun g hg hr => ?_)
  unfold f_X12_isDigit at h
  show g 0 0 0 [(0, .ref this), (1, .int x1)] [] I X
  refine r_iload_n hg 1 dX12_isDigit_0 rfl rfl ?_
  refine r_aload_n hg 0 dX12_isDigit_1 rfl rfl ?_
  refine r_getI hg dX12_isDigit_2 fl_X12_215 k_this rfl ?_
  refine r_icmp_ge hg 31 dX12_isDigit_5 (by decide) (fun c1 => ?_) (fun c1 => ?_)
  · rw [if_pos c1] at h
    refine r_iconst hg dX12_isDigit_31 ci_0 ?_
    exact r_ireturn hr dX12_isDigit_32 ⟨Nat.zero_le _, Nat.zero_le _⟩ ⟨_, rfl, bz_0.1⟩ (by cases h; rfl)
  · rw [if_neg c1] at h
    refine r_aload_n hg 0 dX12_isDigit_8 rfl rfl ?_
    have e2 := ly_12_13 hX k_this
    refine r_getR hg dX12_isDigit_9 fl_X12_28 k_this rfl e2.1 ?_
    refine r_iload_n hg 1 dX12_isDigit_12 rfl rfl ?_
    obtain ⟨v3, e4, h⟩ := q_b1_some h
    refine r_iald hg dX12_isDigit_13 e2.2 e4 ?_
    refine r_i2l hg dX12_isDigit_14 ?_
    refine r_ldc2 hg dX12_isDigit_15 kl_X12_222 ?_
    refine r_ldc2 hg dX12_isDigit_18 kl_X12_224 ?_
    obtain ⟨v5, e6, h⟩ := q_b1_some h
    refine r_cS3i hg dX12_isDigit_21 mt_X12_isIn ⟨ml_X12_64, mst_X12_isIn⟩ (s_X12_isIn hΓ hX e6) (q_room (Nat.le_of_ble_eq_true rfl) (Nat.le_of_ble_eq_true rfl)) ⟨Nat.zero_le _, Nat.zero_le _⟩ (Nat.le_of_ble_eq_true rfl) ?_
    refine r_if_eq hg 31 dX12_isDigit_24 (by decide) (fun c7 => ?_) (fun c7 => ?_)
    · rw [if_pos c7] at h
      refine r_iconst hg dX12_isDigit_31 ci_0 ?_
      exact r_ireturn hr dX12_isDigit_32 ⟨Nat.zero_le _, Nat.zero_le _⟩ ⟨_, rfl, bz_0.1⟩ (by cases h; rfl)
    · rw [if_neg c7] at h
      refine r_iconst hg dX12_isDigit_27 ci_1 ?_
      refine r_goto hg 32 dX12_isDigit_28 (by decide) ?_
      exact r_ireturn hr dX12_isDigit_32 ⟨Nat.zero_le _, Nat.zero_le _⟩ ⟨_, rfl, bz_1.1⟩ (by cases h; rfl)

def f_X12_isDue (this : Nat) (x1 : Int32) (I : qI) : Option (Int32) :=
  q_b1 (q_rd I (this + 1) 3580 (nI 3)) fun v2 =>
  q_b1 (f_X12_isIn x1.toInt64 (0 : Int64) ((v2 - (nI 1)).toInt64)) fun v4 =>
  q_b1 (q_bz v4) fun _ =>
  some (v4)
set_option maxRecDepth 100000 in
set_option maxHeartbeats 4000000 in
theorem s_X12_isDue {l : Launch} {Γ : qC} (hΓ : q_gm Γ) {X : qX} (hX : q_Lay X) {this : Nat} {x1 : Int32} (k_this : q_kd X this = some (14, 42)) {I : qI} {z : Int32} (h : f_X12_isDue this x1 I = some z) : q_Sem l Γ (q_rm 3 0 0) yX12_isDue cX12_isDue 2 (some .boolean) [.ref this, .int x1] I X (some (.int z), I, X) := by
  refine q_met (by decide) (Nat.le_of_ble_eq_true rfl) (fun g hg hr => ?_)
  unfold f_X12_isDue at h
  show g 0 0 0 [(0, .ref this), (1, .int x1)] [] I X
  refine r_iload_n hg 1 dX12_isDue_0 rfl rfl ?_
  refine r_i2l hg dX12_isDue_1 ?_
  refine r_lconst hg dX12_isDue_2 lc_0 ?_
  refine r_aload_n hg 0 dX12_isDue_3 rfl rfl ?_
  have e1 := ly_12_0 hX k_this
  refine r_getR hg dX12_isDue_4 fl_X12_7 k_this rfl e1.1 ?_
  refine r_iconst hg dX12_isDue_7 ci_3 ?_
  obtain ⟨v2, e3, h⟩ := q_b1_some h
  refine r_iald hg dX12_isDue_8 e1.2 e3 ?_
  refine r_iconst hg dX12_isDue_9 ci_1 ?_
  refine r_isub hg dX12_isDue_10 ?_
  refine r_i2l hg dX12_isDue_11 ?_
  obtain ⟨v4, e5, h⟩ := q_b1_some h
  refine r_cS3i hg dX12_isDue_12 mt_X12_isIn ⟨ml_X12_64, mst_X12_isIn⟩ (s_X12_isIn hΓ hX e5) (q_room (Nat.le_of_ble_eq_true rfl) (Nat.le_of_ble_eq_true rfl)) ⟨Nat.zero_le _, Nat.zero_le _⟩ (Nat.le_of_ble_eq_true rfl) ?_
  obtain ⟨u8, e6, h⟩ := q_b1_some h
  obtain ⟨rfl, e7⟩ := q_bz_some e6
  exact r_ireturn hr dX12_isDue_15 ⟨Nat.zero_le _, Nat.zero_le _⟩ ⟨_, rfl, (q_bz_n e7).1⟩ (by cases h; rfl)

def f_X12_isFund (x0 : Int32) (x1 : Int32) : Option (Int32) :=
  q_b1 (f_X12_isIn x0.toInt64 (0 : Int64) (9999 : Int64)) fun v1 =>
  if v1 = 0 then
    some ((nI 0))
  else
    q_b1 (f_X12_isIn x1.toInt64 (0 : Int64) (99 : Int64)) fun v4 =>
    if v4 = 0 then
      some ((nI 0))
    else
      some ((nI 1))
set_option maxRecDepth 100000 in
set_option maxHeartbeats 4000000 in
theorem s_X12_isFund {l : Launch} {Γ : qC} (hΓ : q_gm Γ) {X : qX} (hX : q_Lay X) {x0 : Int32} {x1 : Int32} {I : qI} {z : Int32} (h : f_X12_isFund x0 x1 = some z) : q_Sem l Γ (q_rm 3 0 0) yX12_isFund cX12_isFund 2 (some .boolean) [.int x0, .int x1] I X (some (.int z), I, X) := by
  refine q_met (by decide) (Nat.le_of_ble_eq_true rfl) (fun g hg hr => ?_)
  unfold f_X12_isFund at h
  show g 0 0 0 [(0, .int x0), (1, .int x1)] [] I X
  refine r_iload_n hg 0 dX12_isFund_0 rfl rfl ?_
  refine r_i2l hg dX12_isFund_1 ?_
  refine r_lconst hg dX12_isFund_2 lc_0 ?_
  refine r_ldc2 hg dX12_isFund_3 kl_X12_127 ?_
  obtain ⟨v1, e2, h⟩ := q_b1_some h
  refine r_cS3i hg dX12_isFund_6 mt_X12_isIn ⟨ml_X12_64, mst_X12_isIn⟩ (s_X12_isIn hΓ hX e2) (q_room (Nat.le_of_ble_eq_true rfl) (Nat.le_of_ble_eq_true rfl)) ⟨Nat.zero_le _, Nat.zero_le _⟩ (Nat.le_of_ble_eq_true rfl) ?_
  refine r_if_eq hg 28 dX12_isFund_9 (by decide) (fun c3 => ?_) (fun c3 => ?_)
  · rw [if_pos c3] at h
    refine r_iconst hg dX12_isFund_28 ci_0 ?_
    exact r_ireturn hr dX12_isFund_29 ⟨Nat.zero_le _, Nat.zero_le _⟩ ⟨_, rfl, bz_0.1⟩ (by cases h; rfl)
  · rw [if_neg c3] at h
    refine r_iload_n hg 1 dX12_isFund_12 rfl rfl ?_
    refine r_i2l hg dX12_isFund_13 ?_
    refine r_lconst hg dX12_isFund_14 lc_0 ?_
    refine r_ldc2 hg dX12_isFund_15 kl_X12_82 ?_
    obtain ⟨v4, e5, h⟩ := q_b1_some h
    refine r_cS3i hg dX12_isFund_18 mt_X12_isIn ⟨ml_X12_64, mst_X12_isIn⟩ (s_X12_isIn hΓ hX e5) (q_room (Nat.le_of_ble_eq_true rfl) (Nat.le_of_ble_eq_true rfl)) ⟨Nat.zero_le _, Nat.zero_le _⟩ (Nat.le_of_ble_eq_true rfl) ?_
    refine r_if_eq hg 28 dX12_isFund_21 (by decide) (fun c6 => ?_) (fun c6 => ?_)
    · rw [if_pos c6] at h
      refine r_iconst hg dX12_isFund_28 ci_0 ?_
      exact r_ireturn hr dX12_isFund_29 ⟨Nat.zero_le _, Nat.zero_le _⟩ ⟨_, rfl, bz_0.1⟩ (by cases h; rfl)
    · rw [if_neg c6] at h
      refine r_iconst hg dX12_isFund_24 ci_1 ?_
      refine r_goto hg 29 dX12_isFund_25 (by decide) ?_
      exact r_ireturn hr dX12_isFund_29 ⟨Nat.zero_le _, Nat.zero_le _⟩ ⟨_, rfl, bz_1.1⟩ (by cases h; rfl)

def f_X12_isGone (this : Nat) (x1 : Int32) (I : qI) : Option (Int32) :=
  q_b1 (f_X12_manAt this x1) fun v2 =>
  q_b1 (q_rd I (this + 1) 3580 (v2 + (nI 9))) fun v4 =>
  if v4 = (nI 1) then
    some ((nI 1))
  else
    some ((nI 0))
set_option maxRecDepth 100000 in
set_option maxHeartbeats 4000000 in
theorem s_X12_isGone {l : Launch} {Γ : qC} (hΓ : q_gm Γ) {X : qX} (hX : q_Lay X) {this : Nat} {x1 : Int32} (k_this : q_kd X this = some (14, 42)) {I : qI} {z : Int32} (h : f_X12_isGone this x1 I = some z) : q_Sem l Γ (q_rm 3 0 0) yX12_isGone cX12_isGone 2 (some .boolean) [.ref this, .int x1] I X (some (.int z), I, X) := by
  refine q_met (by decide) (Nat.le_of_ble_eq_true rfl) (fun g hg hr => ?_)
  unfold f_X12_isGone at h
  show g 0 0 0 [(0, .ref this), (1, .int x1)] [] I X
  refine r_aload_n hg 0 dX12_isGone_0 rfl rfl ?_
  have e1 := ly_12_0 hX k_this
  refine r_getR hg dX12_isGone_1 fl_X12_7 k_this rfl e1.1 ?_
  refine r_aload_n hg 0 dX12_isGone_4 rfl rfl ?_
  refine r_iload_n hg 1 dX12_isGone_5 rfl rfl ?_
  obtain ⟨v2, e3, h⟩ := q_b1_some h
  refine r_cV1i hg dX12_isGone_6 mt_X12_manAt ml_X12_68 mv_X12_manAt k_this (s_X12_manAt hΓ hX k_this e3) (q_room (Nat.le_of_ble_eq_true rfl) (Nat.le_of_ble_eq_true rfl)) ⟨Nat.zero_le _, Nat.zero_le _⟩ (Nat.le_of_ble_eq_true rfl) ?_
  refine r_bipush hg dX12_isGone_9 cb_9 ?_
  refine r_iadd hg dX12_isGone_11 ?_
  obtain ⟨v4, e5, h⟩ := q_b1_some h
  refine r_iald hg dX12_isGone_12 e1.2 e5 ?_
  refine r_iconst hg dX12_isGone_13 ci_1 ?_
  refine r_icmp_ne hg 21 dX12_isGone_14 (by decide) (fun c6 => ?_) (fun c6 => ?_)
  · rw [if_neg c6] at h
    refine r_iconst hg dX12_isGone_21 ci_0 ?_
    exact r_ireturn hr dX12_isGone_22 ⟨Nat.zero_le _, Nat.zero_le _⟩ ⟨_, rfl, bz_0.1⟩ (by cases h; rfl)
  · rw [if_pos (Classical.not_not.mp c6)] at h
    refine r_iconst hg dX12_isGone_17 ci_1 ?_
    refine r_goto hg 22 dX12_isGone_18 (by decide) ?_
    exact r_ireturn hr dX12_isGone_22 ⟨Nat.zero_le _, Nat.zero_le _⟩ ⟨_, rfl, bz_1.1⟩ (by cases h; rfl)

def f_X12_isLetter (this : Nat) (x1 : Int32) (I : qI) : Option (Int32) :=
  if (I this 14) ≤ x1 then
    some ((nI 0))
  else
    q_b1 (q_rd I (this + 7) 96 x1) fun v3 =>
    q_b1 (f_X12_isIn v3.toInt64 (97 : Int64) (122 : Int64)) fun v5 =>
    if v5 = 0 then
      some ((nI 0))
    else
      some ((nI 1))
set_option maxRecDepth 100000 in
set_option maxHeartbeats 4000000 in
theorem s_X12_isLetter {l : Launch} {Γ : qC} (hΓ : q_gm Γ) {X : qX} (hX : q_Lay X) {this : Nat} {x1 : Int32} (k_this : q_kd X this = some (14, 42)) {I : qI} {z : Int32} (h : f_X12_isLetter this x1 I = some z) : q_Sem l Γ (q_rm 3 0 0) yX12_isLetter cX12_isLetter 2 (some .boolean) [.ref this, .int x1] I X (some (.int z), I, X) := by
  refine q_met (by decide) (Nat.le_of_ble_eq_true rfl) (fun g hg hr => ?_)
  unfold f_X12_isLetter at h
  show g 0 0 0 [(0, .ref this), (1, .int x1)] [] I X
  refine r_iload_n hg 1 dX12_isLetter_0 rfl rfl ?_
  refine r_aload_n hg 0 dX12_isLetter_1 rfl rfl ?_
  refine r_getI hg dX12_isLetter_2 fl_X12_215 k_this rfl ?_
  refine r_icmp_ge hg 31 dX12_isLetter_5 (by decide) (fun c1 => ?_) (fun c1 => ?_)
  · rw [if_pos c1] at h
    refine r_iconst hg dX12_isLetter_31 ci_0 ?_
    exact r_ireturn hr dX12_isLetter_32 ⟨Nat.zero_le _, Nat.zero_le _⟩ ⟨_, rfl, bz_0.1⟩ (by cases h; rfl)
  · rw [if_neg c1] at h
    refine r_aload_n hg 0 dX12_isLetter_8 rfl rfl ?_
    have e2 := ly_12_13 hX k_this
    refine r_getR hg dX12_isLetter_9 fl_X12_28 k_this rfl e2.1 ?_
    refine r_iload_n hg 1 dX12_isLetter_12 rfl rfl ?_
    obtain ⟨v3, e4, h⟩ := q_b1_some h
    refine r_iald hg dX12_isLetter_13 e2.2 e4 ?_
    refine r_i2l hg dX12_isLetter_14 ?_
    refine r_ldc2 hg dX12_isLetter_15 kl_X12_218 ?_
    refine r_ldc2 hg dX12_isLetter_18 kl_X12_220 ?_
    obtain ⟨v5, e6, h⟩ := q_b1_some h
    refine r_cS3i hg dX12_isLetter_21 mt_X12_isIn ⟨ml_X12_64, mst_X12_isIn⟩ (s_X12_isIn hΓ hX e6) (q_room (Nat.le_of_ble_eq_true rfl) (Nat.le_of_ble_eq_true rfl)) ⟨Nat.zero_le _, Nat.zero_le _⟩ (Nat.le_of_ble_eq_true rfl) ?_
    refine r_if_eq hg 31 dX12_isLetter_24 (by decide) (fun c7 => ?_) (fun c7 => ?_)
    · rw [if_pos c7] at h
      refine r_iconst hg dX12_isLetter_31 ci_0 ?_
      exact r_ireturn hr dX12_isLetter_32 ⟨Nat.zero_le _, Nat.zero_le _⟩ ⟨_, rfl, bz_0.1⟩ (by cases h; rfl)
    · rw [if_neg c7] at h
      refine r_iconst hg dX12_isLetter_27 ci_1 ?_
      refine r_goto hg 32 dX12_isLetter_28 (by decide) ?_
      exact r_ireturn hr dX12_isLetter_32 ⟨Nat.zero_le _, Nat.zero_le _⟩ ⟨_, rfl, bz_1.1⟩ (by cases h; rfl)

def f_X12_isMan (this : Nat) (x1 : Int32) (I : qI) : Option (Int32) :=
  q_b1 (q_rd I (this + 1) 3580 (nI 2)) fun v2 =>
  q_b1 (f_X12_isIn x1.toInt64 (0 : Int64) ((v2 - (nI 1)).toInt64)) fun v4 =>
  q_b1 (q_bz v4) fun _ =>
  some (v4)
set_option maxRecDepth 100000 in
set_option maxHeartbeats 4000000 in
theorem s_X12_isMan {l : Launch} {Γ : qC} (hΓ : q_gm Γ) {X : qX} (hX : q_Lay X) {this : Nat} {x1 : Int32} (k_this : q_kd X this = some (14, 42)) {I : qI} {z : Int32} (h : f_X12_isMan this x1 I = some z) : q_Sem l Γ (q_rm 3 0 0) yX12_isMan cX12_isMan 2 (some .boolean) [.ref this, .int x1] I X (some (.int z), I, X) := by
  refine q_met (by decide) (Nat.le_of_ble_eq_true rfl) (fun g hg hr => ?_)
  unfold f_X12_isMan at h
  show g 0 0 0 [(0, .ref this), (1, .int x1)] [] I X
  refine r_iload_n hg 1 dX12_isMan_0 rfl rfl ?_
  refine r_i2l hg dX12_isMan_1 ?_
  refine r_lconst hg dX12_isMan_2 lc_0 ?_
  refine r_aload_n hg 0 dX12_isMan_3 rfl rfl ?_
  have e1 := ly_12_0 hX k_this
  refine r_getR hg dX12_isMan_4 fl_X12_7 k_this rfl e1.1 ?_
  refine r_iconst hg dX12_isMan_7 ci_2 ?_
  obtain ⟨v2, e3, h⟩ := q_b1_some h
  refine r_iald hg dX12_isMan_8 e1.2 e3 ?_
  refine r_iconst hg dX12_isMan_9 ci_1 ?_
  refine r_isub hg dX12_isMan_10 ?_
  refine r_i2l hg dX12_isMan_11 ?_
  obtain ⟨v4, e5, h⟩ := q_b1_some h
  refine r_cS3i hg dX12_isMan_12 mt_X12_isIn ⟨ml_X12_64, mst_X12_isIn⟩ (s_X12_isIn hΓ hX e5) (q_room (Nat.le_of_ble_eq_true rfl) (Nat.le_of_ble_eq_true rfl)) ⟨Nat.zero_le _, Nat.zero_le _⟩ (Nat.le_of_ble_eq_true rfl) ?_
  obtain ⟨u8, e6, h⟩ := q_b1_some h
  obtain ⟨rfl, e7⟩ := q_bz_some e6
  exact r_ireturn hr dX12_isMan_15 ⟨Nat.zero_le _, Nat.zero_le _⟩ ⟨_, rfl, (q_bz_n e7).1⟩ (by cases h; rfl)

def f_X12_isPit (x0 : Int32) : Option (Int32) :=
  q_b1 (f_X12_isIn x0.toInt64 (0 : Int64) (7 : Int64)) fun v1 =>
  q_b1 (q_bz v1) fun _ =>
  some (v1)
set_option maxRecDepth 100000 in
set_option maxHeartbeats 4000000 in
theorem s_X12_isPit {l : Launch} {Γ : qC} (hΓ : q_gm Γ) {X : qX} (hX : q_Lay X) {x0 : Int32} {I : qI} {z : Int32} (h : f_X12_isPit x0 = some z) : q_Sem l Γ (q_rm 3 0 0) yX12_isPit cX12_isPit 1 (some .boolean) [.int x0] I X (some (.int z), I, X) := by
  refine q_met (by decide) (Nat.le_of_ble_eq_true rfl) (fun g hg hr => ?_)
  unfold f_X12_isPit at h
  show g 0 0 0 [(0, .int x0)] [] I X
  refine r_iload_n hg 0 dX12_isPit_0 rfl rfl ?_
  refine r_i2l hg dX12_isPit_1 ?_
  refine r_lconst hg dX12_isPit_2 lc_0 ?_
  refine r_ldc2 hg dX12_isPit_3 kl_X12_62 ?_
  obtain ⟨v1, e2, h⟩ := q_b1_some h
  refine r_cS3i hg dX12_isPit_6 mt_X12_isIn ⟨ml_X12_64, mst_X12_isIn⟩ (s_X12_isIn hΓ hX e2) (q_room (Nat.le_of_ble_eq_true rfl) (Nat.le_of_ble_eq_true rfl)) ⟨Nat.zero_le _, Nat.zero_le _⟩ (Nat.le_of_ble_eq_true rfl) ?_
  obtain ⟨u5, e3, h⟩ := q_b1_some h
  obtain ⟨rfl, e4⟩ := q_bz_some e3
  exact r_ireturn hr dX12_isPit_9 ⟨Nat.zero_le _, Nat.zero_le _⟩ ⟨_, rfl, (q_bz_n e4).1⟩ (by cases h; rfl)

def f_X12_isShop (this : Nat) (x1 : Int32) (I : qI) : Option (Int32) :=
  q_b1 (q_rd I (this + 1) 3580 (nI 1)) fun v2 =>
  q_b1 (f_X12_isIn x1.toInt64 (0 : Int64) ((v2 - (nI 1)).toInt64)) fun v4 =>
  q_b1 (q_bz v4) fun _ =>
  some (v4)
set_option maxRecDepth 100000 in
set_option maxHeartbeats 4000000 in
theorem s_X12_isShop {l : Launch} {Γ : qC} (hΓ : q_gm Γ) {X : qX} (hX : q_Lay X) {this : Nat} {x1 : Int32} (k_this : q_kd X this = some (14, 42)) {I : qI} {z : Int32} (h : f_X12_isShop this x1 I = some z) : q_Sem l Γ (q_rm 3 0 0) yX12_isShop cX12_isShop 2 (some .boolean) [.ref this, .int x1] I X (some (.int z), I, X) := by
  refine q_met (by decide) (Nat.le_of_ble_eq_true rfl) (fun g hg hr => ?_)
  unfold f_X12_isShop at h
  show g 0 0 0 [(0, .ref this), (1, .int x1)] [] I X
  refine r_iload_n hg 1 dX12_isShop_0 rfl rfl ?_
  refine r_i2l hg dX12_isShop_1 ?_
  refine r_lconst hg dX12_isShop_2 lc_0 ?_
  refine r_aload_n hg 0 dX12_isShop_3 rfl rfl ?_
  have e1 := ly_12_0 hX k_this
  refine r_getR hg dX12_isShop_4 fl_X12_7 k_this rfl e1.1 ?_
  refine r_iconst hg dX12_isShop_7 ci_1 ?_
  obtain ⟨v2, e3, h⟩ := q_b1_some h
  refine r_iald hg dX12_isShop_8 e1.2 e3 ?_
  refine r_iconst hg dX12_isShop_9 ci_1 ?_
  refine r_isub hg dX12_isShop_10 ?_
  refine r_i2l hg dX12_isShop_11 ?_
  obtain ⟨v4, e5, h⟩ := q_b1_some h
  refine r_cS3i hg dX12_isShop_12 mt_X12_isIn ⟨ml_X12_64, mst_X12_isIn⟩ (s_X12_isIn hΓ hX e5) (q_room (Nat.le_of_ble_eq_true rfl) (Nat.le_of_ble_eq_true rfl)) ⟨Nat.zero_le _, Nat.zero_le _⟩ (Nat.le_of_ble_eq_true rfl) ?_
  obtain ⟨u8, e6, h⟩ := q_b1_some h
  obtain ⟨rfl, e7⟩ := q_bz_some e6
  exact r_ireturn hr dX12_isShop_15 ⟨Nat.zero_le _, Nat.zero_le _⟩ ⟨_, rfl, (q_bz_n e7).1⟩ (by cases h; rfl)

def f_X12_isText (this : Nat) (x1 : Int32) (I : qI) : Option (Int32) :=
  q_b1 (q_rd I (this + 1) 3580 (nI 4)) fun v2 =>
  q_b1 (f_X12_isIn x1.toInt64 (0 : Int64) ((v2 - (nI 1)).toInt64)) fun v4 =>
  q_b1 (q_bz v4) fun _ =>
  some (v4)
set_option maxRecDepth 100000 in
set_option maxHeartbeats 4000000 in
theorem s_X12_isText {l : Launch} {Γ : qC} (hΓ : q_gm Γ) {X : qX} (hX : q_Lay X) {this : Nat} {x1 : Int32} (k_this : q_kd X this = some (14, 42)) {I : qI} {z : Int32} (h : f_X12_isText this x1 I = some z) : q_Sem l Γ (q_rm 3 0 0) yX12_isText cX12_isText 2 (some .boolean) [.ref this, .int x1] I X (some (.int z), I, X) := by
  refine q_met (by decide) (Nat.le_of_ble_eq_true rfl) (fun g hg hr => ?_)
  unfold f_X12_isText at h
  show g 0 0 0 [(0, .ref this), (1, .int x1)] [] I X
  refine r_iload_n hg 1 dX12_isText_0 rfl rfl ?_
  refine r_i2l hg dX12_isText_1 ?_
  refine r_lconst hg dX12_isText_2 lc_0 ?_
  refine r_aload_n hg 0 dX12_isText_3 rfl rfl ?_
  have e1 := ly_12_0 hX k_this
  refine r_getR hg dX12_isText_4 fl_X12_7 k_this rfl e1.1 ?_
  refine r_iconst hg dX12_isText_7 ci_4 ?_
  obtain ⟨v2, e3, h⟩ := q_b1_some h
  refine r_iald hg dX12_isText_8 e1.2 e3 ?_
  refine r_iconst hg dX12_isText_9 ci_1 ?_
  refine r_isub hg dX12_isText_10 ?_
  refine r_i2l hg dX12_isText_11 ?_
  obtain ⟨v4, e5, h⟩ := q_b1_some h
  refine r_cS3i hg dX12_isText_12 mt_X12_isIn ⟨ml_X12_64, mst_X12_isIn⟩ (s_X12_isIn hΓ hX e5) (q_room (Nat.le_of_ble_eq_true rfl) (Nat.le_of_ble_eq_true rfl)) ⟨Nat.zero_le _, Nat.zero_le _⟩ (Nat.le_of_ble_eq_true rfl) ?_
  obtain ⟨u8, e6, h⟩ := q_b1_some h
  obtain ⟨rfl, e7⟩ := q_bz_some e6
  exact r_ireturn hr dX12_isText_15 ⟨Nat.zero_le _, Nat.zero_le _⟩ ⟨_, rfl, (q_bz_n e7).1⟩ (by cases h; rfl)

def f_X12_isTown (this : Nat) (x1 : Int32) (I : qI) : Option (Int32) :=
  q_b1 (f_X12_shopAt this x1) fun v2 =>
  q_b1 (q_rd I (this + 1) 3580 v2) fun v4 =>
  if v4 = (nI 1) then
    some ((nI 1))
  else
    some ((nI 0))
set_option maxRecDepth 100000 in
set_option maxHeartbeats 4000000 in
theorem s_X12_isTown {l : Launch} {Γ : qC} (hΓ : q_gm Γ) {X : qX} (hX : q_Lay X) {this : Nat} {x1 : Int32} (k_this : q_kd X this = some (14, 42)) {I : qI} {z : Int32} (h : f_X12_isTown this x1 I = some z) : q_Sem l Γ (q_rm 3 0 0) yX12_isTown cX12_isTown 2 (some .boolean) [.ref this, .int x1] I X (some (.int z), I, X) := by
  refine q_met (by decide) (Nat.le_of_ble_eq_true rfl) (fun g hg hr => ?_)
  unfold f_X12_isTown at h
  show g 0 0 0 [(0, .ref this), (1, .int x1)] [] I X
  refine r_aload_n hg 0 dX12_isTown_0 rfl rfl ?_
  have e1 := ly_12_0 hX k_this
  refine r_getR hg dX12_isTown_1 fl_X12_7 k_this rfl e1.1 ?_
  refine r_aload_n hg 0 dX12_isTown_4 rfl rfl ?_
  refine r_iload_n hg 1 dX12_isTown_5 rfl rfl ?_
  obtain ⟨v2, e3, h⟩ := q_b1_some h
  refine r_cV1i hg dX12_isTown_6 mt_X12_shopAt ml_X12_72 mv_X12_shopAt k_this (s_X12_shopAt hΓ hX k_this e3) (q_room (Nat.le_of_ble_eq_true rfl) (Nat.le_of_ble_eq_true rfl)) ⟨Nat.zero_le _, Nat.zero_le _⟩ (Nat.le_of_ble_eq_true rfl) ?_
  obtain ⟨v4, e5, h⟩ := q_b1_some h
  refine r_iald hg dX12_isTown_9 e1.2 e5 ?_
  refine r_iconst hg dX12_isTown_10 ci_1 ?_
  refine r_icmp_ne hg 18 dX12_isTown_11 (by decide) (fun c6 => ?_) (fun c6 => ?_)
  · rw [if_neg c6] at h
    refine r_iconst hg dX12_isTown_18 ci_0 ?_
    exact r_ireturn hr dX12_isTown_19 ⟨Nat.zero_le _, Nat.zero_le _⟩ ⟨_, rfl, bz_0.1⟩ (by cases h; rfl)
  · rw [if_pos (Classical.not_not.mp c6)] at h
    refine r_iconst hg dX12_isTown_14 ci_1 ?_
    refine r_goto hg 19 dX12_isTown_15 (by decide) ?_
    exact r_ireturn hr dX12_isTown_19 ⟨Nat.zero_le _, Nat.zero_le _⟩ ⟨_, rfl, bz_1.1⟩ (by cases h; rfl)

def f_X12_keep (this : Nat) (X : qX) (I : qI) : Option (Int32 × qI) :=
  q_b1 (some (q_up I this 3 (nI 1))) fun I1 =>
  q_b1 (f_X12_setAside this (some (this + 1)) (some (this + 2)) X I1) fun I5 =>
  q_b1 (q_rd I5 (this + 1) 3580 (nI 0)) fun v8 =>
  some (v8, I5)
set_option maxRecDepth 100000 in
set_option maxHeartbeats 4000000 in
theorem s_X12_keep {l : Launch} {Γ : qC} (hΓ : q_gm Γ) {X : qX} (hX : q_Lay X) {this : Nat} (k_this : q_kd X this = some (14, 42)) {I : qI} {z : Int32 × qI} (h : f_X12_keep this X I = some z) : q_Sem l Γ (q_rm 3 0 0) yX12_keep cX12_keep 1 (some .int) [.ref this] I X (some (.int z.1), z.2, X) := by
  refine q_met (by decide) (Nat.le_of_ble_eq_true rfl) (fun g hg hr => ?_)
  unfold f_X12_keep at h
  show g 0 0 0 [(0, .ref this)] [] I X
  refine r_aload_n hg 0 dX12_keep_0 rfl rfl ?_
  refine r_iconst hg dX12_keep_1 ci_1 ?_
  obtain ⟨I1, e2, h⟩ := q_b1_some h
  obtain rfl := Option.some.inj e2
  refine r_putI hg dX12_keep_2 fl_X12_442 k_this rfl bz_1 ?_
  refine r_aload_n hg 0 dX12_keep_5 rfl rfl ?_
  refine r_aload_n hg 0 dX12_keep_6 rfl rfl ?_
  have e3 := ly_12_0 hX k_this
  refine r_getR hg dX12_keep_7 fl_X12_7 k_this rfl e3.1 ?_
  refine r_aload_n hg 0 dX12_keep_10 rfl rfl ?_
  have e4 := ly_12_1 hX k_this
  refine r_getR hg dX12_keep_11 fl_X12_13 k_this rfl e4.1 ?_
  obtain ⟨I5, e6, h⟩ := q_b1_some h
  refine r_cV2v hg dX12_keep_14 mt_X12_setAside ml_X12_365 mv_X12_setAside k_this (s_X12_setAside hΓ hX k_this e6) (q_room (Nat.le_of_ble_eq_true rfl) (Nat.le_of_ble_eq_true rfl)) ⟨Nat.zero_le _, Nat.zero_le _⟩ (Nat.le_of_ble_eq_true rfl) ?_
  refine r_aload_n hg 0 dX12_keep_17 rfl rfl ?_
  have e7 := ly_12_0 hX k_this
  refine r_getR hg dX12_keep_18 fl_X12_7 k_this rfl e7.1 ?_
  refine r_iconst hg dX12_keep_21 ci_0 ?_
  obtain ⟨v8, e9, h⟩ := q_b1_some h
  refine r_iald hg dX12_keep_22 e7.2 e9 ?_
  exact r_ireturn hr dX12_keep_23 ⟨Nat.zero_le _, Nat.zero_le _⟩ ⟨_, rfl, rfl⟩ (by cases h; rfl)

def f_X12_key (this : Nat) (I : qI) : Option (Int32) :=
  q_b1 (f_X12_isWordAt this (nI 119) (nI 97) (nI 103) (nI 101) I) fun v1 =>
  if v1 = 0 then
    q_b1 (f_X12_isWordAt this (nI 115) (nI 116) (nI 111) (nI 112) I) fun v4 =>
    if v4 = 0 then
      q_b1 (f_X12_isWordAt this (nI 100) (nI 117) (nI 101) (nI 0) I) fun v7 =>
      if v7 = 0 then
        q_b1 (f_X12_isWordAt this (nI 99) (nI 111) (nI 105) (nI 110) I) fun v10 =>
        if v10 = 0 then
          q_b1 (f_X12_isWordAt this (nI 102) (nI 105) (nI 110) (nI 101) I) fun v13 =>
          if v13 = 0 then
            q_b1 (f_X12_isWordAt this (nI 107) (nI 101) (nI 101) (nI 112) I) fun v16 =>
            if v16 = 0 then
              q_b1 (f_X12_isWordAt this (nI 97) (nI 99) (nI 116) (nI 0) I) fun v19 =>
              if v19 = 0 then
                some ((-1))
              else
                some ((nI 6))
            else
              some ((nI 5))
          else
            some ((nI 4))
        else
          some ((nI 3))
      else
        some ((nI 2))
    else
      some ((nI 1))
  else
    some ((nI 0))
set_option maxRecDepth 100000 in
set_option maxHeartbeats 4000000 in
theorem s_X12_key {l : Launch} {Γ : qC} (hΓ : q_gm Γ) {X : qX} (hX : q_Lay X) {this : Nat} (k_this : q_kd X this = some (14, 42)) {I : qI} {z : Int32} (h : f_X12_key this I = some z) : q_Sem l Γ (q_rm 3 0 0) yX12_key cX12_key 1 (some .int) [.ref this] I X (some (.int z), I, X) := by
  refine q_met (by decide) (Nat.le_of_ble_eq_true rfl) (fun g hg hr => ?_)
  unfold f_X12_key at h
  show g 0 0 0 [(0, .ref this)] [] I X
  refine r_aload_n hg 0 dX12_key_0 rfl rfl ?_
  refine r_bipush hg dX12_key_1 cb_119 ?_
  refine r_bipush hg dX12_key_3 cb_97 ?_
  refine r_bipush hg dX12_key_5 cb_103 ?_
  refine r_bipush hg dX12_key_7 cb_101 ?_
  obtain ⟨v1, e2, h⟩ := q_b1_some h
  refine r_cV4i hg dX12_key_9 mt_X12_isWordAt ml_X12_247 mv_X12_isWordAt k_this (s_X12_isWordAt hΓ hX k_this e2) (q_room (Nat.le_of_ble_eq_true rfl) (Nat.le_of_ble_eq_true rfl)) ⟨Nat.zero_le _, Nat.zero_le _⟩ (Nat.le_of_ble_eq_true rfl) ?_
  refine r_if_eq hg 19 dX12_key_12 (by decide) (fun c3 => ?_) (fun c3 => ?_)
  · rw [if_pos c3] at h
    refine r_aload_n hg 0 dX12_key_19 rfl rfl ?_
    refine r_bipush hg dX12_key_20 cb_115 ?_
    refine r_bipush hg dX12_key_22 cb_116 ?_
    refine r_bipush hg dX12_key_24 cb_111 ?_
    refine r_bipush hg dX12_key_26 cb_112 ?_
    obtain ⟨v4, e5, h⟩ := q_b1_some h
    refine r_cV4i hg dX12_key_28 mt_X12_isWordAt ml_X12_247 mv_X12_isWordAt k_this (s_X12_isWordAt hΓ hX k_this e5) (q_room (Nat.le_of_ble_eq_true rfl) (Nat.le_of_ble_eq_true rfl)) ⟨Nat.zero_le _, Nat.zero_le _⟩ (Nat.le_of_ble_eq_true rfl) ?_
    refine r_if_eq hg 38 dX12_key_31 (by decide) (fun c6 => ?_) (fun c6 => ?_)
    · rw [if_pos c6] at h
      refine r_aload_n hg 0 dX12_key_38 rfl rfl ?_
      refine r_bipush hg dX12_key_39 cb_100 ?_
      refine r_bipush hg dX12_key_41 cb_117 ?_
      refine r_bipush hg dX12_key_43 cb_101 ?_
      refine r_iconst hg dX12_key_45 ci_0 ?_
      obtain ⟨v7, e8, h⟩ := q_b1_some h
      refine r_cV4i hg dX12_key_46 mt_X12_isWordAt ml_X12_247 mv_X12_isWordAt k_this (s_X12_isWordAt hΓ hX k_this e8) (q_room (Nat.le_of_ble_eq_true rfl) (Nat.le_of_ble_eq_true rfl)) ⟨Nat.zero_le _, Nat.zero_le _⟩ (Nat.le_of_ble_eq_true rfl) ?_
      refine r_if_eq hg 56 dX12_key_49 (by decide) (fun c9 => ?_) (fun c9 => ?_)
      · rw [if_pos c9] at h
        refine r_aload_n hg 0 dX12_key_56 rfl rfl ?_
        refine r_bipush hg dX12_key_57 cb_99 ?_
        refine r_bipush hg dX12_key_59 cb_111 ?_
        refine r_bipush hg dX12_key_61 cb_105 ?_
        refine r_bipush hg dX12_key_63 cb_110 ?_
        obtain ⟨v10, e11, h⟩ := q_b1_some h
        refine r_cV4i hg dX12_key_65 mt_X12_isWordAt ml_X12_247 mv_X12_isWordAt k_this (s_X12_isWordAt hΓ hX k_this e11) (q_room (Nat.le_of_ble_eq_true rfl) (Nat.le_of_ble_eq_true rfl)) ⟨Nat.zero_le _, Nat.zero_le _⟩ (Nat.le_of_ble_eq_true rfl) ?_
        refine r_if_eq hg 75 dX12_key_68 (by decide) (fun c12 => ?_) (fun c12 => ?_)
        · rw [if_pos c12] at h
          refine r_aload_n hg 0 dX12_key_75 rfl rfl ?_
          refine r_bipush hg dX12_key_76 cb_102 ?_
          refine r_bipush hg dX12_key_78 cb_105 ?_
          refine r_bipush hg dX12_key_80 cb_110 ?_
          refine r_bipush hg dX12_key_82 cb_101 ?_
          obtain ⟨v13, e14, h⟩ := q_b1_some h
          refine r_cV4i hg dX12_key_84 mt_X12_isWordAt ml_X12_247 mv_X12_isWordAt k_this (s_X12_isWordAt hΓ hX k_this e14) (q_room (Nat.le_of_ble_eq_true rfl) (Nat.le_of_ble_eq_true rfl)) ⟨Nat.zero_le _, Nat.zero_le _⟩ (Nat.le_of_ble_eq_true rfl) ?_
          refine r_if_eq hg 94 dX12_key_87 (by decide) (fun c15 => ?_) (fun c15 => ?_)
          · rw [if_pos c15] at h
            refine r_aload_n hg 0 dX12_key_94 rfl rfl ?_
            refine r_bipush hg dX12_key_95 cb_107 ?_
            refine r_bipush hg dX12_key_97 cb_101 ?_
            refine r_bipush hg dX12_key_99 cb_101 ?_
            refine r_bipush hg dX12_key_101 cb_112 ?_
            obtain ⟨v16, e17, h⟩ := q_b1_some h
            refine r_cV4i hg dX12_key_103 mt_X12_isWordAt ml_X12_247 mv_X12_isWordAt k_this (s_X12_isWordAt hΓ hX k_this e17) (q_room (Nat.le_of_ble_eq_true rfl) (Nat.le_of_ble_eq_true rfl)) ⟨Nat.zero_le _, Nat.zero_le _⟩ (Nat.le_of_ble_eq_true rfl) ?_
            refine r_if_eq hg 113 dX12_key_106 (by decide) (fun c18 => ?_) (fun c18 => ?_)
            · rw [if_pos c18] at h
              refine r_aload_n hg 0 dX12_key_113 rfl rfl ?_
              refine r_bipush hg dX12_key_114 cb_97 ?_
              refine r_bipush hg dX12_key_116 cb_99 ?_
              refine r_bipush hg dX12_key_118 cb_116 ?_
              refine r_iconst hg dX12_key_120 ci_0 ?_
              obtain ⟨v19, e20, h⟩ := q_b1_some h
              refine r_cV4i hg dX12_key_121 mt_X12_isWordAt ml_X12_247 mv_X12_isWordAt k_this (s_X12_isWordAt hΓ hX k_this e20) (q_room (Nat.le_of_ble_eq_true rfl) (Nat.le_of_ble_eq_true rfl)) ⟨Nat.zero_le _, Nat.zero_le _⟩ (Nat.le_of_ble_eq_true rfl) ?_
              refine r_if_eq hg 132 dX12_key_124 (by decide) (fun c21 => ?_) (fun c21 => ?_)
              · rw [if_pos c21] at h
                refine r_iconst hg dX12_key_132 ci_m1 ?_
                exact r_ireturn hr dX12_key_133 ⟨Nat.zero_le _, Nat.zero_le _⟩ ⟨_, rfl, rfl⟩ (by cases h; rfl)
              · rw [if_neg c21] at h
                refine r_bipush hg dX12_key_127 cb_6 ?_
                refine r_goto hg 133 dX12_key_129 (by decide) ?_
                exact r_ireturn hr dX12_key_133 ⟨Nat.zero_le _, Nat.zero_le _⟩ ⟨_, rfl, rfl⟩ (by cases h; rfl)
            · rw [if_neg c18] at h
              refine r_iconst hg dX12_key_109 ci_5 ?_
              refine r_goto hg 133 dX12_key_110 (by decide) ?_
              exact r_ireturn hr dX12_key_133 ⟨Nat.zero_le _, Nat.zero_le _⟩ ⟨_, rfl, rfl⟩ (by cases h; rfl)
          · rw [if_neg c15] at h
            refine r_iconst hg dX12_key_90 ci_4 ?_
            refine r_goto hg 133 dX12_key_91 (by decide) ?_
            exact r_ireturn hr dX12_key_133 ⟨Nat.zero_le _, Nat.zero_le _⟩ ⟨_, rfl, rfl⟩ (by cases h; rfl)
        · rw [if_neg c12] at h
          refine r_iconst hg dX12_key_71 ci_3 ?_
          refine r_goto hg 133 dX12_key_72 (by decide) ?_
          exact r_ireturn hr dX12_key_133 ⟨Nat.zero_le _, Nat.zero_le _⟩ ⟨_, rfl, rfl⟩ (by cases h; rfl)
      · rw [if_neg c9] at h
        refine r_iconst hg dX12_key_52 ci_2 ?_
        refine r_goto hg 133 dX12_key_53 (by decide) ?_
        exact r_ireturn hr dX12_key_133 ⟨Nat.zero_le _, Nat.zero_le _⟩ ⟨_, rfl, rfl⟩ (by cases h; rfl)
    · rw [if_neg c6] at h
      refine r_iconst hg dX12_key_34 ci_1 ?_
      refine r_goto hg 133 dX12_key_35 (by decide) ?_
      exact r_ireturn hr dX12_key_133 ⟨Nat.zero_le _, Nat.zero_le _⟩ ⟨_, rfl, rfl⟩ (by cases h; rfl)
  · rw [if_neg c3] at h
    refine r_iconst hg dX12_key_15 ci_0 ?_
    refine r_goto hg 133 dX12_key_16 (by decide) ?_
    exact r_ireturn hr dX12_key_133 ⟨Nat.zero_le _, Nat.zero_le _⟩ ⟨_, rfl, rfl⟩ (by cases h; rfl)

def f_X12_knows (this : Nat) (x1 : Int32) (x2 : Int32) (I : qI) : Option (qI) :=
  q_b1 (f_X12_manAt this x1) fun v2 =>
  q_b1 (f_X12_shopAt this x2) fun v5 =>
  q_b1 (q_rd I (this + 1) 3580 (v5 + (nI 1))) fun v7 =>
  q_b1 (q_wr I (this + 1) 3580 ((v2 + (nI 12)) + x2) v7) fun I9 =>
  q_b1 (f_X12_manAt this x1) fun v12 =>
  q_b1 (q_rd I9 (this + 1) 3580 (nI 0)) fun v15 =>
  q_b1 (q_wr I9 (this + 1) 3580 ((v12 + (nI 18)) + x2) v15) fun I17 =>
  some (I17)
set_option maxRecDepth 100000 in
set_option maxHeartbeats 4000000 in
theorem s_X12_knows {l : Launch} {Γ : qC} (hΓ : q_gm Γ) {X : qX} (hX : q_Lay X) {this : Nat} {x1 : Int32} {x2 : Int32} (k_this : q_kd X this = some (14, 42)) {I : qI} {z : qI} (h : f_X12_knows this x1 x2 I = some z) : q_Sem l Γ (q_rm 3 0 0) yX12_knows cX12_knows 3 none [.ref this, .int x1, .int x2] I X (none, z, X) := by
  refine q_met (by decide) (Nat.le_of_ble_eq_true rfl) (fun g hg hr => ?_)
  unfold f_X12_knows at h
  show g 0 0 0 [(0, .ref this), (1, .int x1), (2, .int x2)] [] I X
  refine r_aload_n hg 0 dX12_knows_0 rfl rfl ?_
  have e1 := ly_12_0 hX k_this
  refine r_getR hg dX12_knows_1 fl_X12_7 k_this rfl e1.1 ?_
  refine r_aload_n hg 0 dX12_knows_4 rfl rfl ?_
  refine r_iload_n hg 1 dX12_knows_5 rfl rfl ?_
  obtain ⟨v2, e3, h⟩ := q_b1_some h
  refine r_cV1i hg dX12_knows_6 mt_X12_manAt ml_X12_68 mv_X12_manAt k_this (s_X12_manAt hΓ hX k_this e3) (q_room (Nat.le_of_ble_eq_true rfl) (Nat.le_of_ble_eq_true rfl)) ⟨Nat.zero_le _, Nat.zero_le _⟩ (Nat.le_of_ble_eq_true rfl) ?_
  refine r_bipush hg dX12_knows_9 cb_12 ?_
  refine r_iadd hg dX12_knows_11 ?_
  refine r_iload_n hg 2 dX12_knows_12 rfl rfl ?_
  refine r_iadd hg dX12_knows_13 ?_
  refine r_aload_n hg 0 dX12_knows_14 rfl rfl ?_
  have e4 := ly_12_0 hX k_this
  refine r_getR hg dX12_knows_15 fl_X12_7 k_this rfl e4.1 ?_
  refine r_aload_n hg 0 dX12_knows_18 rfl rfl ?_
  refine r_iload_n hg 2 dX12_knows_19 rfl rfl ?_
  obtain ⟨v5, e6, h⟩ := q_b1_some h
  refine r_cV1i hg dX12_knows_20 mt_X12_shopAt ml_X12_72 mv_X12_shopAt k_this (s_X12_shopAt hΓ hX k_this e6) (q_room (Nat.le_of_ble_eq_true rfl) (Nat.le_of_ble_eq_true rfl)) ⟨Nat.zero_le _, Nat.zero_le _⟩ (Nat.le_of_ble_eq_true rfl) ?_
  refine r_iconst hg dX12_knows_23 ci_1 ?_
  refine r_iadd hg dX12_knows_24 ?_
  obtain ⟨v7, e8, h⟩ := q_b1_some h
  refine r_iald hg dX12_knows_25 e4.2 e8 ?_
  obtain ⟨I9, e10, h⟩ := q_b1_some h
  refine r_iast hg dX12_knows_26 e1.2 e10 ?_
  refine r_aload_n hg 0 dX12_knows_27 rfl rfl ?_
  have e11 := ly_12_0 hX k_this
  refine r_getR hg dX12_knows_28 fl_X12_7 k_this rfl e11.1 ?_
  refine r_aload_n hg 0 dX12_knows_31 rfl rfl ?_
  refine r_iload_n hg 1 dX12_knows_32 rfl rfl ?_
  obtain ⟨v12, e13, h⟩ := q_b1_some h
  refine r_cV1i hg dX12_knows_33 mt_X12_manAt ml_X12_68 mv_X12_manAt k_this (s_X12_manAt hΓ hX k_this e13) (q_room (Nat.le_of_ble_eq_true rfl) (Nat.le_of_ble_eq_true rfl)) ⟨Nat.zero_le _, Nat.zero_le _⟩ (Nat.le_of_ble_eq_true rfl) ?_
  refine r_bipush hg dX12_knows_36 cb_18 ?_
  refine r_iadd hg dX12_knows_38 ?_
  refine r_iload_n hg 2 dX12_knows_39 rfl rfl ?_
  refine r_iadd hg dX12_knows_40 ?_
  refine r_aload_n hg 0 dX12_knows_41 rfl rfl ?_
  have e14 := ly_12_0 hX k_this
  refine r_getR hg dX12_knows_42 fl_X12_7 k_this rfl e14.1 ?_
  refine r_iconst hg dX12_knows_45 ci_0 ?_
  obtain ⟨v15, e16, h⟩ := q_b1_some h
  refine r_iald hg dX12_knows_46 e14.2 e16 ?_
  obtain ⟨I17, e18, h⟩ := q_b1_some h
  refine r_iast hg dX12_knows_47 e11.2 e18 ?_
  exact r_return hr dX12_knows_48 ⟨Nat.zero_le _, Nat.zero_le _⟩ rfl (by cases h; rfl)

def f_X12_lack (this : Nat) (x1 : Int32) (I : qI) : Option (Int32) :=
  q_b1 (f_X12_manAt this x1) fun v1 =>
  q_b1 (q_rd I (this + 1) 3580 (v1 + (nI 3))) fun v4 =>
  q_b1 (q_rd I (this + 1) 3580 (v1 + (nI 2))) fun v7 =>
  if v7 ≤ v4 then
    some ((nI 0))
  else
    q_b1 (q_rd I (this + 1) 3580 (v1 + (nI 2))) fun v11 =>
    q_b1 (q_rd I (this + 1) 3580 (v1 + (nI 3))) fun v14 =>
    some ((v11 - v14))
set_option maxRecDepth 100000 in
set_option maxHeartbeats 4000000 in
theorem s_X12_lack {l : Launch} {Γ : qC} (hΓ : q_gm Γ) {X : qX} (hX : q_Lay X) {this : Nat} {x1 : Int32} (k_this : q_kd X this = some (14, 42)) {I : qI} {z : Int32} (h : f_X12_lack this x1 I = some z) : q_Sem l Γ (q_rm 3 0 0) yX12_lack cX12_lack 3 (some .int) [.ref this, .int x1] I X (some (.int z), I, X) := by
  refine q_met (by decide) (Nat.le_of_ble_eq_true rfl) (fun g hg hr => ?_)
  unfold f_X12_lack at h
  show g 0 0 0 [(0, .ref this), (1, .int x1)] [] I X
  refine r_aload_n hg 0 dX12_lack_0 rfl rfl ?_
  refine r_iload_n hg 1 dX12_lack_1 rfl rfl ?_
  obtain ⟨v1, e2, h⟩ := q_b1_some h
  refine r_cV1i hg dX12_lack_2 mt_X12_manAt ml_X12_68 mv_X12_manAt k_this (s_X12_manAt hΓ hX k_this e2) (q_room (Nat.le_of_ble_eq_true rfl) (Nat.le_of_ble_eq_true rfl)) ⟨Nat.zero_le _, Nat.zero_le _⟩ (Nat.le_of_ble_eq_true rfl) ?_
  refine r_istore_n hg (L' := [(2, .int v1), (0, .ref this), (1, .int x1)]) dX12_lack_5 rfl (by decide) rfl ?_
  refine r_aload_n hg 1 dX12_lack_6 rfl rfl ?_
  have e3 := ly_12_0 hX k_this
  refine r_getR hg dX12_lack_7 fl_X12_7 k_this rfl e3.1 ?_
  refine r_iload_n hg 0 dX12_lack_10 rfl rfl ?_
  refine r_iconst hg dX12_lack_11 ci_3 ?_
  refine r_iadd hg dX12_lack_12 ?_
  obtain ⟨v4, e5, h⟩ := q_b1_some h
  refine r_iald hg dX12_lack_13 e3.2 e5 ?_
  refine r_aload_n hg 1 dX12_lack_14 rfl rfl ?_
  have e6 := ly_12_0 hX k_this
  refine r_getR hg dX12_lack_15 fl_X12_7 k_this rfl e6.1 ?_
  refine r_iload_n hg 0 dX12_lack_18 rfl rfl ?_
  refine r_iconst hg dX12_lack_19 ci_2 ?_
  refine r_iadd hg dX12_lack_20 ?_
  obtain ⟨v7, e8, h⟩ := q_b1_some h
  refine r_iald hg dX12_lack_21 e6.2 e8 ?_
  refine r_icmp_ge hg 45 dX12_lack_22 (by decide) (fun c9 => ?_) (fun c9 => ?_)
  · rw [if_pos c9] at h
    refine r_iconst hg dX12_lack_45 ci_0 ?_
    exact r_ireturn hr dX12_lack_46 ⟨Nat.zero_le _, Nat.zero_le _⟩ ⟨_, rfl, rfl⟩ (by cases h; rfl)
  · rw [if_neg c9] at h
    refine r_aload_n hg 1 dX12_lack_25 rfl rfl ?_
    have e10 := ly_12_0 hX k_this
    refine r_getR hg dX12_lack_26 fl_X12_7 k_this rfl e10.1 ?_
    refine r_iload_n hg 0 dX12_lack_29 rfl rfl ?_
    refine r_iconst hg dX12_lack_30 ci_2 ?_
    refine r_iadd hg dX12_lack_31 ?_
    obtain ⟨v11, e12, h⟩ := q_b1_some h
    refine r_iald hg dX12_lack_32 e10.2 e12 ?_
    refine r_aload_n hg 1 dX12_lack_33 rfl rfl ?_
    have e13 := ly_12_0 hX k_this
    refine r_getR hg dX12_lack_34 fl_X12_7 k_this rfl e13.1 ?_
    refine r_iload_n hg 0 dX12_lack_37 rfl rfl ?_
    refine r_iconst hg dX12_lack_38 ci_3 ?_
    refine r_iadd hg dX12_lack_39 ?_
    obtain ⟨v14, e15, h⟩ := q_b1_some h
    refine r_iald hg dX12_lack_40 e13.2 e15 ?_
    refine r_isub hg dX12_lack_41 ?_
    refine r_goto hg 46 dX12_lack_42 (by decide) ?_
    exact r_ireturn hr dX12_lack_46 ⟨Nat.zero_le _, Nat.zero_le _⟩ ⟨_, rfl, rfl⟩ (by cases h; rfl)

def f_X12_newDue (this : Nat) (x1 : Int32) (x2 : Int32) (x3 : Int32) (x4 : Int32) (I : qI) : Option (Int32 × qI) :=
  q_b1 (q_rd I (this + 1) 3580 (nI 3)) fun v2 =>
  q_b1 (f_X12_dueAt this v2) fun v4 =>
  q_b1 (q_wr I (this + 1) 3580 v4 x1) fun I7 =>
  q_b1 (q_wr I7 (this + 1) 3580 (v4 + (nI 1)) x2) fun I10 =>
  q_b1 (q_wr I10 (this + 1) 3580 (v4 + (nI 2)) x3) fun I13 =>
  q_b1 (q_wr I13 (this + 1) 3580 (v4 + (nI 3)) x4) fun I16 =>
  q_b1 (q_rd I16 (this + 1) 3580 (nI 0)) fun v20 =>
  q_b1 (q_wr I16 (this + 1) 3580 (v4 + (nI 4)) v20) fun I22 =>
  q_b1 (q_wr I22 (this + 1) 3580 (v4 + (nI 5)) (nI 0)) fun I25 =>
  q_b1 (q_wr I25 (this + 1) 3580 (v4 + (nI 6)) (-1)) fun I28 =>
  q_b1 (q_wr I28 (this + 1) 3580 (v4 + (nI 7)) (nI 0)) fun I31 =>
  q_b1 (q_rd I31 (this + 1) 3580 (nI 3)) fun v34 =>
  q_b1 (q_wr I31 (this + 1) 3580 (nI 3) (v34 + (nI 1))) fun I36 =>
  q_b1 (q_rd I36 (this + 1) 3580 (nI 3)) fun v39 =>
  some ((v39 - (nI 1)), I36)
set_option maxRecDepth 100000 in
set_option maxHeartbeats 4000000 in
theorem s_X12_newDue {l : Launch} {Γ : qC} (hΓ : q_gm Γ) {X : qX} (hX : q_Lay X) {this : Nat} {x1 : Int32} {x2 : Int32} {x3 : Int32} {x4 : Int32} (k_this : q_kd X this = some (14, 42)) {I : qI} {z : Int32 × qI} (h : f_X12_newDue this x1 x2 x3 x4 I = some z) : q_Sem l Γ (q_rm 3 0 0) yX12_newDue cX12_newDue 6 (some .int) [.ref this, .int x1, .int x2, .int x3, .int x4] I X (some (.int z.1), z.2, X) := by
  refine q_met (by decide) (Nat.le_of_ble_eq_true rfl) (fun g hg hr => ?_)
  unfold f_X12_newDue at h
  show g 0 0 0 [(0, .ref this), (1, .int x1), (2, .int x2), (3, .int x3), (4, .int x4)] [] I X
  refine r_aload_n hg 0 dX12_newDue_0 rfl rfl ?_
  refine r_aload_n hg 0 dX12_newDue_1 rfl rfl ?_
  have e1 := ly_12_0 hX k_this
  refine r_getR hg dX12_newDue_2 fl_X12_7 k_this rfl e1.1 ?_
  refine r_iconst hg dX12_newDue_5 ci_3 ?_
  obtain ⟨v2, e3, h⟩ := q_b1_some h
  refine r_iald hg dX12_newDue_6 e1.2 e3 ?_
  obtain ⟨v4, e5, h⟩ := q_b1_some h
  refine r_cV1i hg dX12_newDue_7 mt_X12_dueAt ml_X12_75 mv_X12_dueAt k_this (s_X12_dueAt hΓ hX k_this e5) (q_room (Nat.le_of_ble_eq_true rfl) (Nat.le_of_ble_eq_true rfl)) ⟨Nat.zero_le _, Nat.zero_le _⟩ (Nat.le_of_ble_eq_true rfl) ?_
  refine r_istore hg (L' := [(5, .int v4), (0, .ref this), (1, .int x1), (2, .int x2), (3, .int x3), (4, .int x4)]) dX12_newDue_10 (by decide) rfl ?_
  refine r_aload_n hg 1 dX12_newDue_12 rfl rfl ?_
  have e6 := ly_12_0 hX k_this
  refine r_getR hg dX12_newDue_13 fl_X12_7 k_this rfl e6.1 ?_
  refine r_iload hg 0 dX12_newDue_16 rfl ?_
  refine r_iload_n hg 2 dX12_newDue_18 rfl rfl ?_
  obtain ⟨I7, e8, h⟩ := q_b1_some h
  refine r_iast hg dX12_newDue_19 e6.2 e8 ?_
  refine r_aload_n hg 1 dX12_newDue_20 rfl rfl ?_
  have e9 := ly_12_0 hX k_this
  refine r_getR hg dX12_newDue_21 fl_X12_7 k_this rfl e9.1 ?_
  refine r_iload hg 0 dX12_newDue_24 rfl ?_
  refine r_iconst hg dX12_newDue_26 ci_1 ?_
  refine r_iadd hg dX12_newDue_27 ?_
  refine r_iload_n hg 3 dX12_newDue_28 rfl rfl ?_
  obtain ⟨I10, e11, h⟩ := q_b1_some h
  refine r_iast hg dX12_newDue_29 e9.2 e11 ?_
  refine r_aload_n hg 1 dX12_newDue_30 rfl rfl ?_
  have e12 := ly_12_0 hX k_this
  refine r_getR hg dX12_newDue_31 fl_X12_7 k_this rfl e12.1 ?_
  refine r_iload hg 0 dX12_newDue_34 rfl ?_
  refine r_iconst hg dX12_newDue_36 ci_2 ?_
  refine r_iadd hg dX12_newDue_37 ?_
  refine r_iload_n hg 4 dX12_newDue_38 rfl rfl ?_
  obtain ⟨I13, e14, h⟩ := q_b1_some h
  refine r_iast hg dX12_newDue_39 e12.2 e14 ?_
  refine r_aload_n hg 1 dX12_newDue_40 rfl rfl ?_
  have e15 := ly_12_0 hX k_this
  refine r_getR hg dX12_newDue_41 fl_X12_7 k_this rfl e15.1 ?_
  refine r_iload hg 0 dX12_newDue_44 rfl ?_
  refine r_iconst hg dX12_newDue_46 ci_3 ?_
  refine r_iadd hg dX12_newDue_47 ?_
  refine r_iload hg 5 dX12_newDue_48 rfl ?_
  obtain ⟨I16, e17, h⟩ := q_b1_some h
  refine r_iast hg dX12_newDue_50 e15.2 e17 ?_
  refine r_aload_n hg 1 dX12_newDue_51 rfl rfl ?_
  have e18 := ly_12_0 hX k_this
  refine r_getR hg dX12_newDue_52 fl_X12_7 k_this rfl e18.1 ?_
  refine r_iload hg 0 dX12_newDue_55 rfl ?_
  refine r_iconst hg dX12_newDue_57 ci_4 ?_
  refine r_iadd hg dX12_newDue_58 ?_
  refine r_aload_n hg 1 dX12_newDue_59 rfl rfl ?_
  have e19 := ly_12_0 hX k_this
  refine r_getR hg dX12_newDue_60 fl_X12_7 k_this rfl e19.1 ?_
  refine r_iconst hg dX12_newDue_63 ci_0 ?_
  obtain ⟨v20, e21, h⟩ := q_b1_some h
  refine r_iald hg dX12_newDue_64 e19.2 e21 ?_
  obtain ⟨I22, e23, h⟩ := q_b1_some h
  refine r_iast hg dX12_newDue_65 e18.2 e23 ?_
  refine r_aload_n hg 1 dX12_newDue_66 rfl rfl ?_
  have e24 := ly_12_0 hX k_this
  refine r_getR hg dX12_newDue_67 fl_X12_7 k_this rfl e24.1 ?_
  refine r_iload hg 0 dX12_newDue_70 rfl ?_
  refine r_iconst hg dX12_newDue_72 ci_5 ?_
  refine r_iadd hg dX12_newDue_73 ?_
  refine r_iconst hg dX12_newDue_74 ci_0 ?_
  obtain ⟨I25, e26, h⟩ := q_b1_some h
  refine r_iast hg dX12_newDue_75 e24.2 e26 ?_
  refine r_aload_n hg 1 dX12_newDue_76 rfl rfl ?_
  have e27 := ly_12_0 hX k_this
  refine r_getR hg dX12_newDue_77 fl_X12_7 k_this rfl e27.1 ?_
  refine r_iload hg 0 dX12_newDue_80 rfl ?_
  refine r_bipush hg dX12_newDue_82 cb_6 ?_
  refine r_iadd hg dX12_newDue_84 ?_
  refine r_iconst hg dX12_newDue_85 ci_m1 ?_
  obtain ⟨I28, e29, h⟩ := q_b1_some h
  refine r_iast hg dX12_newDue_86 e27.2 e29 ?_
  refine r_aload_n hg 1 dX12_newDue_87 rfl rfl ?_
  have e30 := ly_12_0 hX k_this
  refine r_getR hg dX12_newDue_88 fl_X12_7 k_this rfl e30.1 ?_
  refine r_iload hg 0 dX12_newDue_91 rfl ?_
  refine r_bipush hg dX12_newDue_93 cb_7 ?_
  refine r_iadd hg dX12_newDue_95 ?_
  refine r_iconst hg dX12_newDue_96 ci_0 ?_
  obtain ⟨I31, e32, h⟩ := q_b1_some h
  refine r_iast hg dX12_newDue_97 e30.2 e32 ?_
  refine r_aload_n hg 1 dX12_newDue_98 rfl rfl ?_
  have e33 := ly_12_0 hX k_this
  refine r_getR hg dX12_newDue_99 fl_X12_7 k_this rfl e33.1 ?_
  refine r_iconst hg dX12_newDue_102 ci_3 ?_
  refine r_dup2 hg dX12_newDue_103 rfl rfl ?_
  obtain ⟨v34, e35, h⟩ := q_b1_some h
  refine r_iald hg dX12_newDue_104 e33.2 e35 ?_
  refine r_iconst hg dX12_newDue_105 ci_1 ?_
  refine r_iadd hg dX12_newDue_106 ?_
  obtain ⟨I36, e37, h⟩ := q_b1_some h
  refine r_iast hg dX12_newDue_107 e33.2 e37 ?_
  refine r_aload_n hg 1 dX12_newDue_108 rfl rfl ?_
  have e38 := ly_12_0 hX k_this
  refine r_getR hg dX12_newDue_109 fl_X12_7 k_this rfl e38.1 ?_
  refine r_iconst hg dX12_newDue_112 ci_3 ?_
  obtain ⟨v39, e40, h⟩ := q_b1_some h
  refine r_iald hg dX12_newDue_113 e38.2 e40 ?_
  refine r_iconst hg dX12_newDue_114 ci_1 ?_
  refine r_isub hg dX12_newDue_115 ?_
  exact r_ireturn hr dX12_newDue_116 ⟨Nat.zero_le _, Nat.zero_le _⟩ ⟨_, rfl, rfl⟩ (by cases h; rfl)

def f_X12_owedBy (this : Nat) (x1 : Int32) (I : qI) : Option (Int32) :=
  q_b1 (f_X12_manAt this x1) fun v3 =>
  q_b1 (q_rd I (this + 1) 3580 (v3 + (nI 11))) fun v5 =>
  q_b1 (f_X12_dueAt this v5) fun v7 =>
  q_b1 (q_rd I (this + 1) 3580 (v7 + (nI 2))) fun v9 =>
  some (v9)
set_option maxRecDepth 100000 in
set_option maxHeartbeats 4000000 in
theorem s_X12_owedBy {l : Launch} {Γ : qC} (hΓ : q_gm Γ) {X : qX} (hX : q_Lay X) {this : Nat} {x1 : Int32} (k_this : q_kd X this = some (14, 42)) {I : qI} {z : Int32} (h : f_X12_owedBy this x1 I = some z) : q_Sem l Γ (q_rm 3 0 0) yX12_owedBy cX12_owedBy 2 (some .int) [.ref this, .int x1] I X (some (.int z), I, X) := by
  refine q_met (by decide) (Nat.le_of_ble_eq_true rfl) (fun g hg hr => ?_)
  unfold f_X12_owedBy at h
  show g 0 0 0 [(0, .ref this), (1, .int x1)] [] I X
  refine r_aload_n hg 0 dX12_owedBy_0 rfl rfl ?_
  have e1 := ly_12_0 hX k_this
  refine r_getR hg dX12_owedBy_1 fl_X12_7 k_this rfl e1.1 ?_
  refine r_aload_n hg 0 dX12_owedBy_4 rfl rfl ?_
  refine r_aload_n hg 0 dX12_owedBy_5 rfl rfl ?_
  have e2 := ly_12_0 hX k_this
  refine r_getR hg dX12_owedBy_6 fl_X12_7 k_this rfl e2.1 ?_
  refine r_aload_n hg 0 dX12_owedBy_9 rfl rfl ?_
  refine r_iload_n hg 1 dX12_owedBy_10 rfl rfl ?_
  obtain ⟨v3, e4, h⟩ := q_b1_some h
  refine r_cV1i hg dX12_owedBy_11 mt_X12_manAt ml_X12_68 mv_X12_manAt k_this (s_X12_manAt hΓ hX k_this e4) (q_room (Nat.le_of_ble_eq_true rfl) (Nat.le_of_ble_eq_true rfl)) ⟨Nat.zero_le _, Nat.zero_le _⟩ (Nat.le_of_ble_eq_true rfl) ?_
  refine r_bipush hg dX12_owedBy_14 cb_11 ?_
  refine r_iadd hg dX12_owedBy_16 ?_
  obtain ⟨v5, e6, h⟩ := q_b1_some h
  refine r_iald hg dX12_owedBy_17 e2.2 e6 ?_
  obtain ⟨v7, e8, h⟩ := q_b1_some h
  refine r_cV1i hg dX12_owedBy_18 mt_X12_dueAt ml_X12_75 mv_X12_dueAt k_this (s_X12_dueAt hΓ hX k_this e8) (q_room (Nat.le_of_ble_eq_true rfl) (Nat.le_of_ble_eq_true rfl)) ⟨Nat.zero_le _, Nat.zero_le _⟩ (Nat.le_of_ble_eq_true rfl) ?_
  refine r_iconst hg dX12_owedBy_21 ci_2 ?_
  refine r_iadd hg dX12_owedBy_22 ?_
  obtain ⟨v9, e10, h⟩ := q_b1_some h
  refine r_iald hg dX12_owedBy_23 e1.2 e10 ?_
  exact r_ireturn hr dX12_owedBy_24 ⟨Nat.zero_le _, Nat.zero_le _⟩ ⟨_, rfl, rfl⟩ (by cases h; rfl)

def b_X12_readBy_25 (this : Nat) (x1 : Int32) (x2 : Int32) (I : qI) (k25 : Int32 → Option (Int32)) (x3 : Int32) : Option (Int32) :=
  if x3 < 0 then
    some (x3)
  else
    q_b1 (q_rd I (this + 6) 240 (((nI 30) * x1) + x3)) fun v3 =>
    q_b1 (q_rd I (this + 4) 8 x1) fun v6 =>
    q_b1 (f_X12_blankOf v6) fun v8 =>
    if v3 = v8 then
      k25 (x3 + (-1))
    else
      some (x3)
set_option maxRecDepth 100000 in
set_option maxHeartbeats 4000000 in
theorem p_X12_readBy_25 {l : Launch} {Γ : qC} {g : qG} {z : Int32} {this : Nat} {x1 : Int32} {x2 : Int32} {X : qX} {I : qI} (hΓ : q_gm Γ) (hg : q_Ok l Γ RX12 cX12_readBy 4 (q_rm 3 0 0) "readBy" (some .int) g) (hr : q_Rt cX12_readBy (some .int) (q_rm 3 0 0) (some (.int z), I, X) g) (hX : q_Lay X) (k_this : q_kd X this = some (14, 42)) {k25 : Int32 → Option (Int32)} (hk25 : ∀ (x3 : Int32), k25 x3 = some z → g 0 0 25 [(0, .ref this), (1, .int x1), (3, .int x3)] [] I X) (x3 : Int32) (h : b_X12_readBy_25 this x1 x2 I k25 x3 = some z) : g 0 0 25 [(0, .ref this), (1, .int x1), (3, .int x3)] [] I X := by
  unfold b_X12_readBy_25 at h
  refine r_iload_n hg 2 dX12_readBy_25 rfl rfl ?_
  refine r_if_lt hg 58 dX12_readBy_26 (by decide) (fun c1 => ?_) (fun c1 => ?_)
  · rw [if_pos c1] at h
    refine r_iload_n hg 2 dX12_readBy_58 rfl rfl ?_
    exact r_ireturn hr dX12_readBy_59 ⟨Nat.zero_le _, Nat.zero_le _⟩ ⟨_, rfl, rfl⟩ (by cases h; rfl)
  · rw [if_neg c1] at h
    refine r_aload_n hg 0 dX12_readBy_29 rfl rfl ?_
    have e2 := ly_12_6 hX k_this
    refine r_getR hg dX12_readBy_30 fl_X12_25 k_this rfl e2.1 ?_
    refine r_bipush hg dX12_readBy_33 cb_30 ?_
    refine r_iload_n hg 1 dX12_readBy_35 rfl rfl ?_
    refine r_imul hg dX12_readBy_36 ?_
    refine r_iload_n hg 2 dX12_readBy_37 rfl rfl ?_
    refine r_iadd hg dX12_readBy_38 ?_
    obtain ⟨v3, e4, h⟩ := q_b1_some h
    refine r_iald hg dX12_readBy_39 e2.2 e4 ?_
    refine r_aload_n hg 0 dX12_readBy_40 rfl rfl ?_
    have e5 := ly_12_4 hX k_this
    refine r_getR hg dX12_readBy_41 fl_X12_19 k_this rfl e5.1 ?_
    refine r_iload_n hg 1 dX12_readBy_44 rfl rfl ?_
    obtain ⟨v6, e7, h⟩ := q_b1_some h
    refine r_iald hg dX12_readBy_45 e5.2 e7 ?_
    obtain ⟨v8, e9, h⟩ := q_b1_some h
    refine r_cS1i hg dX12_readBy_46 mt_X12_blankOf ⟨ml_X12_380, mst_X12_blankOf⟩ (s_X12_blankOf hΓ hX e9) (q_room (Nat.le_of_ble_eq_true rfl) (Nat.le_of_ble_eq_true rfl)) ⟨Nat.zero_le _, Nat.zero_le _⟩ (Nat.le_of_ble_eq_true rfl) ?_
    refine r_icmp_ne hg 58 dX12_readBy_49 (by decide) (fun c10 => ?_) (fun c10 => ?_)
    · rw [if_neg c10] at h
      refine r_iload_n hg 2 dX12_readBy_58 rfl rfl ?_
      exact r_ireturn hr dX12_readBy_59 ⟨Nat.zero_le _, Nat.zero_le _⟩ ⟨_, rfl, rfl⟩ (by cases h; rfl)
    · rw [if_pos (Classical.not_not.mp c10)] at h
      refine r_iinc hg 2 (v := (x3 + (-1))) (L' := [(3, .int (x3 + (-1))), (0, .ref this), (1, .int x1)]) dX12_readBy_52 rfl (by rw [ci_m1]) (by decide) rfl ?_
      refine r_goto hg 25 dX12_readBy_55 (by decide) ?_
      refine r_sub hg [1, 2, 0] rfl ?_
      exact hk25 _ h
theorem pl_X12_readBy_25 {l : Launch} {Γ : qC} {g : qG} {z : Int32} {this : Nat} {x1 : Int32} {x2 : Int32} {X : qX} {I : qI} (hΓ : q_gm Γ) (hg : q_Ok l Γ RX12 cX12_readBy 4 (q_rm 3 0 0) "readBy" (some .int) g) (hr : q_Rt cX12_readBy (some .int) (q_rm 3 0 0) (some (.int z), I, X) g) (hX : q_Lay X) (k_this : q_kd X this = some (14, 42)) : ∀ (n : Nat) (x3 : Int32), q_fix (fun _ => none) (b_X12_readBy_25 this x1 x2 I) n x3 = some z → g 0 0 25 [(0, .ref this), (1, .int x1), (3, .int x3)] [] I X := by
  intro n
  induction n with
  | zero =>
    intro x3 h
    cases (show (none : Option (Int32)) = some z from h)
  | succ n ih =>
    intro x3 h
    exact p_X12_readBy_25 hΓ hg hr hX k_this ih _ h
def b_X12_readBy_24 (this : Nat) (x1 : Int32) (x2 : Int32) (I : qI) (s0 : Int32) : Option (Int32) :=
  q_fix (fun _ => none) (b_X12_readBy_25 this x1 x2 I) q_fu s0
set_option maxRecDepth 100000 in
set_option maxHeartbeats 4000000 in
theorem p_X12_readBy_24 {l : Launch} {Γ : qC} {g : qG} {z : Int32} {this : Nat} {x1 : Int32} {x2 : Int32} {X : qX} {I : qI} (hΓ : q_gm Γ) (hg : q_Ok l Γ RX12 cX12_readBy 4 (q_rm 3 0 0) "readBy" (some .int) g) (hr : q_Rt cX12_readBy (some .int) (q_rm 3 0 0) (some (.int z), I, X) g) (hX : q_Lay X) (k_this : q_kd X this = some (14, 42)) (s0 : Int32) (h : b_X12_readBy_24 this x1 x2 I s0 = some z) : g 0 0 24 [(0, .ref this), (1, .int x1)] [.int s0] I X := by
  unfold b_X12_readBy_24 at h
  refine r_istore_n hg (L' := [(3, .int s0), (0, .ref this), (1, .int x1)]) dX12_readBy_24 rfl (by decide) rfl ?_
  refine r_sub hg [1, 2, 0] rfl ?_
  exact pl_X12_readBy_25 hΓ hg hr hX k_this _ _ h
def b_X12_readBy_19 (this : Nat) (x1 : Int32) (x2 : Int32) (I : qI) : Option (Int32) :=
  b_X12_readBy_24 this x1 x2 I (-1)
set_option maxRecDepth 100000 in
set_option maxHeartbeats 4000000 in
theorem p_X12_readBy_19 {l : Launch} {Γ : qC} {g : qG} {z : Int32} {this : Nat} {x1 : Int32} {x2 : Int32} {X : qX} {I : qI} (hΓ : q_gm Γ) (hg : q_Ok l Γ RX12 cX12_readBy 4 (q_rm 3 0 0) "readBy" (some .int) g) (hr : q_Rt cX12_readBy (some .int) (q_rm 3 0 0) (some (.int z), I, X) g) (hX : q_Lay X) (k_this : q_kd X this = some (14, 42)) (h : b_X12_readBy_19 this x1 x2 I = some z) : g 0 0 19 [(0, .ref this), (1, .int x1)] [] I X := by
  unfold b_X12_readBy_19 at h
  refine r_iconst hg dX12_readBy_19 ci_m1 ?_
  refine r_goto hg 24 dX12_readBy_20 (by decide) ?_
  exact p_X12_readBy_24 hΓ hg hr hX k_this _ h
def f_X12_readBy (this : Nat) (x1 : Int32) (x2 : Int32) (I : qI) : Option (Int32) :=
  q_b1 (q_rd I (this + 4) 8 x1) fun v2 =>
  if v2 < 0 then
    b_X12_readBy_19 this x1 x2 I 
  else
    q_b1 (q_rd I (this + 5) 8 x1) fun v6 =>
    if x2 < v6 then
      b_X12_readBy_24 this x1 x2 I x2
    else
      b_X12_readBy_19 this x1 x2 I 
set_option maxRecDepth 100000 in
set_option maxHeartbeats 4000000 in
theorem s_X12_readBy {l : Launch} {Γ : qC} (hΓ : q_gm Γ) {X : qX} (hX : q_Lay X) {this : Nat} {x1 : Int32} {x2 : Int32} (k_this : q_kd X this = some (14, 42)) {I : qI} {z : Int32} (h : f_X12_readBy this x1 x2 I = some z) : q_Sem l Γ (q_rm 3 0 0) yX12_readBy cX12_readBy 4 (some .int) [.ref this, .int x1, .int x2] I X (some (.int z), I, X) := by
  refine q_met (by decide) (Nat.le_of_ble_eq_true rfl) (fun g hg hr => ?_)
  unfold f_X12_readBy at h
  show g 0 0 0 [(0, .ref this), (1, .int x1), (2, .int x2)] [] I X
  refine r_aload_n hg 0 dX12_readBy_0 rfl rfl ?_
  have e1 := ly_12_4 hX k_this
  refine r_getR hg dX12_readBy_1 fl_X12_19 k_this rfl e1.1 ?_
  refine r_iload_n hg 1 dX12_readBy_4 rfl rfl ?_
  obtain ⟨v2, e3, h⟩ := q_b1_some h
  refine r_iald hg dX12_readBy_5 e1.2 e3 ?_
  refine r_if_lt hg 19 dX12_readBy_6 (by decide) (fun c4 => ?_) (fun c4 => ?_)
  · rw [if_pos c4] at h
    refine r_sub hg [0, 1] rfl ?_
    exact p_X12_readBy_19 hΓ hg hr hX k_this  h
  · rw [if_neg c4] at h
    refine r_iload_n hg 2 dX12_readBy_9 rfl rfl ?_
    refine r_aload_n hg 0 dX12_readBy_10 rfl rfl ?_
    have e5 := ly_12_5 hX k_this
    refine r_getR hg dX12_readBy_11 fl_X12_22 k_this rfl e5.1 ?_
    refine r_iload_n hg 1 dX12_readBy_14 rfl rfl ?_
    obtain ⟨v6, e7, h⟩ := q_b1_some h
    refine r_iald hg dX12_readBy_15 e5.2 e7 ?_
    refine r_icmp_lt hg 23 dX12_readBy_16 (by decide) (fun c8 => ?_) (fun c8 => ?_)
    · rw [if_pos c8] at h
      refine r_iload_n hg 2 dX12_readBy_23 rfl rfl ?_
      refine r_sub hg [0, 1] rfl ?_
      exact p_X12_readBy_24 hΓ hg hr hX k_this _ h
    · rw [if_neg c8] at h
      refine r_sub hg [0, 1] rfl ?_
      exact p_X12_readBy_19 hΓ hg hr hX k_this  h

def b_X12_rule_29 (this : Nat) (x1 : Int32) (x2 : Int32) (s0 : Int64) (s1 : Int64) (s2 : Int64) (I : qI) : Option (Int32 × qI) :=
  q_b1 (f_X12_isIn s0 s1 s2) fun v1 =>
  if v1 = 0 then
    some ((-1000000001), I)
  else
    q_b2 (f_X12_becomes this ((nI 7) + x1) x2 I) fun v4 I5 =>
    some (v4, I5)
set_option maxRecDepth 100000 in
set_option maxHeartbeats 4000000 in
theorem p_X12_rule_29 {l : Launch} {Γ : qC} {g : qG} {z : Int32 × qI} {this : Nat} {x1 : Int32} {x2 : Int32} {X : qX} (hΓ : q_gm Γ) (hg : q_Ok l Γ RX12 cX12_rule 3 (q_rm 3 0 0) "rule" (some .int) g) (hr : q_Rt cX12_rule (some .int) (q_rm 3 0 0) (some (.int z.1), z.2, X) g) (hX : q_Lay X) (k_this : q_kd X this = some (14, 42)) (s0 : Int64) (s1 : Int64) (s2 : Int64) (I : qI) (h : b_X12_rule_29 this x1 x2 s0 s1 s2 I = some z) : g 0 0 29 [(0, .ref this), (1, .int x1), (2, .int x2)] [.long s2, .long s1, .long s0] I X := by
  unfold b_X12_rule_29 at h
  obtain ⟨v1, e2, h⟩ := q_b1_some h
  refine r_cS3i hg dX12_rule_29 mt_X12_isIn ⟨ml_X12_64, mst_X12_isIn⟩ (s_X12_isIn hΓ hX e2) (q_room (Nat.le_of_ble_eq_true rfl) (Nat.le_of_ble_eq_true rfl)) ⟨Nat.zero_le _, Nat.zero_le _⟩ (Nat.le_of_ble_eq_true rfl) ?_
  refine r_if_eq hg 47 dX12_rule_32 (by decide) (fun c3 => ?_) (fun c3 => ?_)
  · rw [if_pos c3] at h
    refine r_ldc hg dX12_rule_47 kc_X12_90 ?_
    exact r_ireturn hr dX12_rule_49 ⟨Nat.zero_le _, Nat.zero_le _⟩ ⟨_, rfl, rfl⟩ (by cases h; rfl)
  · rw [if_neg c3] at h
    refine r_aload_n hg 0 dX12_rule_35 rfl rfl ?_
    refine r_bipush hg dX12_rule_36 cb_7 ?_
    refine r_iload_n hg 1 dX12_rule_38 rfl rfl ?_
    refine r_iadd hg dX12_rule_39 ?_
    refine r_iload_n hg 2 dX12_rule_40 rfl rfl ?_
    obtain ⟨v4, I5, e6, h⟩ := q_b2_some h
    refine r_cV2i hg dX12_rule_41 mt_X12_becomes ml_X12_86 mv_X12_becomes k_this (s_X12_becomes hΓ hX k_this e6) (q_room (Nat.le_of_ble_eq_true rfl) (Nat.le_of_ble_eq_true rfl)) ⟨Nat.zero_le _, Nat.zero_le _⟩ (Nat.le_of_ble_eq_true rfl) ?_
    refine r_goto hg 49 dX12_rule_44 (by decide) ?_
    exact r_ireturn hr dX12_rule_49 ⟨Nat.zero_le _, Nat.zero_le _⟩ ⟨_, rfl, rfl⟩ (by cases h; rfl)
def f_X12_rule (this : Nat) (x1 : Int32) (x2 : Int32) (I : qI) : Option (Int32 × qI) :=
  q_b1 (f_X12_isIn x1.toInt64 (0 : Int64) (2 : Int64)) fun v1 =>
  if v1 = 0 then
    some ((-1000000001), I)
  else
    if x1 = (nI 1) then
      b_X12_rule_29 this x1 x2 x2.toInt64 (0 : Int64) (99999 : Int64) I
    else
      b_X12_rule_29 this x1 x2 x2.toInt64 (0 : Int64) (9999 : Int64) I
set_option maxRecDepth 100000 in
set_option maxHeartbeats 4000000 in
theorem s_X12_rule {l : Launch} {Γ : qC} (hΓ : q_gm Γ) {X : qX} (hX : q_Lay X) {this : Nat} {x1 : Int32} {x2 : Int32} (k_this : q_kd X this = some (14, 42)) {I : qI} {z : Int32 × qI} (h : f_X12_rule this x1 x2 I = some z) : q_Sem l Γ (q_rm 3 0 0) yX12_rule cX12_rule 3 (some .int) [.ref this, .int x1, .int x2] I X (some (.int z.1), z.2, X) := by
  refine q_met (by decide) (Nat.le_of_ble_eq_true rfl) (fun g hg hr => ?_)
  unfold f_X12_rule at h
  show g 0 0 0 [(0, .ref this), (1, .int x1), (2, .int x2)] [] I X
  refine r_iload_n hg 1 dX12_rule_0 rfl rfl ?_
  refine r_i2l hg dX12_rule_1 ?_
  refine r_lconst hg dX12_rule_2 lc_0 ?_
  refine r_ldc2 hg dX12_rule_3 kl_X12_125 ?_
  obtain ⟨v1, e2, h⟩ := q_b1_some h
  refine r_cS3i hg dX12_rule_6 mt_X12_isIn ⟨ml_X12_64, mst_X12_isIn⟩ (s_X12_isIn hΓ hX e2) (q_room (Nat.le_of_ble_eq_true rfl) (Nat.le_of_ble_eq_true rfl)) ⟨Nat.zero_le _, Nat.zero_le _⟩ (Nat.le_of_ble_eq_true rfl) ?_
  refine r_if_eq hg 47 dX12_rule_9 (by decide) (fun c3 => ?_) (fun c3 => ?_)
  · rw [if_pos c3] at h
    refine r_ldc hg dX12_rule_47 kc_X12_90 ?_
    exact r_ireturn hr dX12_rule_49 ⟨Nat.zero_le _, Nat.zero_le _⟩ ⟨_, rfl, rfl⟩ (by cases h; rfl)
  · rw [if_neg c3] at h
    refine r_iload_n hg 2 dX12_rule_12 rfl rfl ?_
    refine r_i2l hg dX12_rule_13 ?_
    refine r_lconst hg dX12_rule_14 lc_0 ?_
    refine r_iload_n hg 1 dX12_rule_15 rfl rfl ?_
    refine r_iconst hg dX12_rule_16 ci_1 ?_
    refine r_icmp_ne hg 26 dX12_rule_17 (by decide) (fun c4 => ?_) (fun c4 => ?_)
    · rw [if_neg c4] at h
      refine r_ldc2 hg dX12_rule_26 kl_X12_127 ?_
      exact p_X12_rule_29 hΓ hg hr hX k_this _ _ _ _ h
    · rw [if_pos (Classical.not_not.mp c4)] at h
      refine r_ldc2 hg dX12_rule_20 kl_X12_96 ?_
      refine r_goto hg 29 dX12_rule_23 (by decide) ?_
      exact p_X12_rule_29 hΓ hg hr hX k_this _ _ _ _ h

def b_X12_shop_49 (this : Nat) (x1 : Int32) (x2 : Int32) (x3 : Int32) (x4 : Int32) (s0 : Int64) (s1 : Int64) (s2 : Int64) (I : qI) : Option (Int32 × qI) :=
  q_b1 (f_X12_isIn s0 s1 s2) fun v1 =>
  if v1 = 0 then
    some ((-1000000001), I)
  else
    q_b1 (q_rd I (this + 1) 3580 (nI 1)) fun v5 =>
    if v5 = (nI 6) then
      some ((-1000000003), I)
    else
      q_b1 (q_rd I (this + 1) 3580 (nI 1)) fun v9 =>
      q_b1 (f_X12_shopAt this v9) fun v11 =>
      q_b1 (q_wr I (this + 1) 3580 v11 x1) fun I14 =>
      q_b1 (q_wr I14 (this + 1) 3580 (v11 + (nI 1)) x2) fun I17 =>
      q_b1 (q_wr I17 (this + 1) 3580 (v11 + (nI 2)) x3) fun I20 =>
      q_b1 (q_wr I20 (this + 1) 3580 (v11 + (nI 3)) x4) fun I23 =>
      q_b1 (q_rd I23 (this + 1) 3580 (nI 1)) fun v26 =>
      q_b1 (q_wr I23 (this + 1) 3580 (nI 1) (v26 + (nI 1))) fun I28 =>
      q_b1 (q_rd I28 (this + 1) 3580 (nI 1)) fun v31 =>
      some ((v31 - (nI 1)), I28)
set_option maxRecDepth 100000 in
set_option maxHeartbeats 4000000 in
theorem p_X12_shop_49 {l : Launch} {Γ : qC} {g : qG} {z : Int32 × qI} {this : Nat} {x1 : Int32} {x2 : Int32} {x3 : Int32} {x4 : Int32} {X : qX} (hΓ : q_gm Γ) (hg : q_Ok l Γ RX12 cX12_shop 6 (q_rm 3 0 0) "shop" (some .int) g) (hr : q_Rt cX12_shop (some .int) (q_rm 3 0 0) (some (.int z.1), z.2, X) g) (hX : q_Lay X) (k_this : q_kd X this = some (14, 42)) (s0 : Int64) (s1 : Int64) (s2 : Int64) (I : qI) (h : b_X12_shop_49 this x1 x2 x3 x4 s0 s1 s2 I = some z) : g 0 0 49 [(0, .ref this), (1, .int x1), (2, .int x2), (3, .int x3), (4, .int x4)] [.long s2, .long s1, .long s0] I X := by
  unfold b_X12_shop_49 at h
  obtain ⟨v1, e2, h⟩ := q_b1_some h
  refine r_cS3i hg dX12_shop_49 mt_X12_isIn ⟨ml_X12_64, mst_X12_isIn⟩ (s_X12_isIn hΓ hX e2) (q_room (Nat.le_of_ble_eq_true rfl) (Nat.le_of_ble_eq_true rfl)) ⟨Nat.zero_le _, Nat.zero_le _⟩ (Nat.le_of_ble_eq_true rfl) ?_
  refine r_if_ne hg 58 dX12_shop_52 (by decide) (fun c3 => ?_) (fun c3 => ?_)
  · rw [if_neg c3] at h
    refine r_aload_n hg 0 dX12_shop_58 rfl rfl ?_
    have e4 := ly_12_0 hX k_this
    refine r_getR hg dX12_shop_59 fl_X12_7 k_this rfl e4.1 ?_
    refine r_iconst hg dX12_shop_62 ci_1 ?_
    obtain ⟨v5, e6, h⟩ := q_b1_some h
    refine r_iald hg dX12_shop_63 e4.2 e6 ?_
    refine r_bipush hg dX12_shop_64 cb_6 ?_
    refine r_icmp_ne hg 72 dX12_shop_66 (by decide) (fun c7 => ?_) (fun c7 => ?_)
    · rw [if_neg c7] at h
      refine r_aload_n hg 0 dX12_shop_72 rfl rfl ?_
      refine r_aload_n hg 0 dX12_shop_73 rfl rfl ?_
      have e8 := ly_12_0 hX k_this
      refine r_getR hg dX12_shop_74 fl_X12_7 k_this rfl e8.1 ?_
      refine r_iconst hg dX12_shop_77 ci_1 ?_
      obtain ⟨v9, e10, h⟩ := q_b1_some h
      refine r_iald hg dX12_shop_78 e8.2 e10 ?_
      obtain ⟨v11, e12, h⟩ := q_b1_some h
      refine r_cV1i hg dX12_shop_79 mt_X12_shopAt ml_X12_72 mv_X12_shopAt k_this (s_X12_shopAt hΓ hX k_this e12) (q_room (Nat.le_of_ble_eq_true rfl) (Nat.le_of_ble_eq_true rfl)) ⟨Nat.zero_le _, Nat.zero_le _⟩ (Nat.le_of_ble_eq_true rfl) ?_
      refine r_istore hg (L' := [(5, .int v11), (0, .ref this), (1, .int x1), (2, .int x2), (3, .int x3), (4, .int x4)]) dX12_shop_82 (by decide) rfl ?_
      refine r_aload_n hg 1 dX12_shop_84 rfl rfl ?_
      have e13 := ly_12_0 hX k_this
      refine r_getR hg dX12_shop_85 fl_X12_7 k_this rfl e13.1 ?_
      refine r_iload hg 0 dX12_shop_88 rfl ?_
      refine r_iload_n hg 2 dX12_shop_90 rfl rfl ?_
      obtain ⟨I14, e15, h⟩ := q_b1_some h
      refine r_iast hg dX12_shop_91 e13.2 e15 ?_
      refine r_aload_n hg 1 dX12_shop_92 rfl rfl ?_
      have e16 := ly_12_0 hX k_this
      refine r_getR hg dX12_shop_93 fl_X12_7 k_this rfl e16.1 ?_
      refine r_iload hg 0 dX12_shop_96 rfl ?_
      refine r_iconst hg dX12_shop_98 ci_1 ?_
      refine r_iadd hg dX12_shop_99 ?_
      refine r_iload_n hg 3 dX12_shop_100 rfl rfl ?_
      obtain ⟨I17, e18, h⟩ := q_b1_some h
      refine r_iast hg dX12_shop_101 e16.2 e18 ?_
      refine r_aload_n hg 1 dX12_shop_102 rfl rfl ?_
      have e19 := ly_12_0 hX k_this
      refine r_getR hg dX12_shop_103 fl_X12_7 k_this rfl e19.1 ?_
      refine r_iload hg 0 dX12_shop_106 rfl ?_
      refine r_iconst hg dX12_shop_108 ci_2 ?_
      refine r_iadd hg dX12_shop_109 ?_
      refine r_iload_n hg 4 dX12_shop_110 rfl rfl ?_
      obtain ⟨I20, e21, h⟩ := q_b1_some h
      refine r_iast hg dX12_shop_111 e19.2 e21 ?_
      refine r_aload_n hg 1 dX12_shop_112 rfl rfl ?_
      have e22 := ly_12_0 hX k_this
      refine r_getR hg dX12_shop_113 fl_X12_7 k_this rfl e22.1 ?_
      refine r_iload hg 0 dX12_shop_116 rfl ?_
      refine r_iconst hg dX12_shop_118 ci_3 ?_
      refine r_iadd hg dX12_shop_119 ?_
      refine r_iload hg 5 dX12_shop_120 rfl ?_
      obtain ⟨I23, e24, h⟩ := q_b1_some h
      refine r_iast hg dX12_shop_122 e22.2 e24 ?_
      refine r_aload_n hg 1 dX12_shop_123 rfl rfl ?_
      have e25 := ly_12_0 hX k_this
      refine r_getR hg dX12_shop_124 fl_X12_7 k_this rfl e25.1 ?_
      refine r_iconst hg dX12_shop_127 ci_1 ?_
      refine r_dup2 hg dX12_shop_128 rfl rfl ?_
      obtain ⟨v26, e27, h⟩ := q_b1_some h
      refine r_iald hg dX12_shop_129 e25.2 e27 ?_
      refine r_iconst hg dX12_shop_130 ci_1 ?_
      refine r_iadd hg dX12_shop_131 ?_
      obtain ⟨I28, e29, h⟩ := q_b1_some h
      refine r_iast hg dX12_shop_132 e25.2 e29 ?_
      refine r_aload_n hg 1 dX12_shop_133 rfl rfl ?_
      have e30 := ly_12_0 hX k_this
      refine r_getR hg dX12_shop_134 fl_X12_7 k_this rfl e30.1 ?_
      refine r_iconst hg dX12_shop_137 ci_1 ?_
      obtain ⟨v31, e32, h⟩ := q_b1_some h
      refine r_iald hg dX12_shop_138 e30.2 e32 ?_
      refine r_iconst hg dX12_shop_139 ci_1 ?_
      refine r_isub hg dX12_shop_140 ?_
      exact r_ireturn hr dX12_shop_141 ⟨Nat.zero_le _, Nat.zero_le _⟩ ⟨_, rfl, rfl⟩ (by cases h; rfl)
    · rw [if_pos (Classical.not_not.mp c7)] at h
      refine r_ldc hg dX12_shop_69 kc_X12_98 ?_
      exact r_ireturn hr dX12_shop_71 ⟨Nat.zero_le _, Nat.zero_le _⟩ ⟨_, rfl, rfl⟩ (by cases h; rfl)
  · rw [if_pos (Classical.not_not.mp c3)] at h
    refine r_ldc hg dX12_shop_55 kc_X12_90 ?_
    exact r_ireturn hr dX12_shop_57 ⟨Nat.zero_le _, Nat.zero_le _⟩ ⟨_, rfl, rfl⟩ (by cases h; rfl)
def f_X12_shop (this : Nat) (x1 : Int32) (x2 : Int32) (x3 : Int32) (x4 : Int32) (I : qI) : Option (Int32 × qI) :=
  q_b1 (f_X12_isIn x1.toInt64 (0 : Int64) (1 : Int64)) fun v1 =>
  if v1 = 0 then
    some ((-1000000001), I)
  else
    q_b1 (f_X12_isIn x2.toInt64 (1 : Int64) (99 : Int64)) fun v4 =>
    if v4 = 0 then
      some ((-1000000001), I)
    else
      q_b1 (f_X12_isIn x3.toInt64 (0 : Int64) (99999 : Int64)) fun v7 =>
      if v7 = 0 then
        some ((-1000000001), I)
      else
        if x1 = 0 then
          b_X12_shop_49 this x1 x2 x3 x4 x4.toInt64 (0 : Int64) (0 : Int64) I
        else
          b_X12_shop_49 this x1 x2 x3 x4 x4.toInt64 (0 : Int64) (99 : Int64) I
set_option maxRecDepth 100000 in
set_option maxHeartbeats 4000000 in
theorem s_X12_shop {l : Launch} {Γ : qC} (hΓ : q_gm Γ) {X : qX} (hX : q_Lay X) {this : Nat} {x1 : Int32} {x2 : Int32} {x3 : Int32} {x4 : Int32} (k_this : q_kd X this = some (14, 42)) {I : qI} {z : Int32 × qI} (h : f_X12_shop this x1 x2 x3 x4 I = some z) : q_Sem l Γ (q_rm 3 0 0) yX12_shop cX12_shop 6 (some .int) [.ref this, .int x1, .int x2, .int x3, .int x4] I X (some (.int z.1), z.2, X) := by
  refine q_met (by decide) (Nat.le_of_ble_eq_true rfl) (fun g hg hr => ?_)
  unfold f_X12_shop at h
  show g 0 0 0 [(0, .ref this), (1, .int x1), (2, .int x2), (3, .int x3), (4, .int x4)] [] I X
  refine r_iload_n hg 1 dX12_shop_0 rfl rfl ?_
  refine r_i2l hg dX12_shop_1 ?_
  refine r_lconst hg dX12_shop_2 lc_0 ?_
  refine r_lconst hg dX12_shop_3 lc_1 ?_
  obtain ⟨v1, e2, h⟩ := q_b1_some h
  refine r_cS3i hg dX12_shop_4 mt_X12_isIn ⟨ml_X12_64, mst_X12_isIn⟩ (s_X12_isIn hΓ hX e2) (q_room (Nat.le_of_ble_eq_true rfl) (Nat.le_of_ble_eq_true rfl)) ⟨Nat.zero_le _, Nat.zero_le _⟩ (Nat.le_of_ble_eq_true rfl) ?_
  refine r_if_eq hg 55 dX12_shop_7 (by decide) (fun c3 => ?_) (fun c3 => ?_)
  · rw [if_pos c3] at h
    refine r_ldc hg dX12_shop_55 kc_X12_90 ?_
    exact r_ireturn hr dX12_shop_57 ⟨Nat.zero_le _, Nat.zero_le _⟩ ⟨_, rfl, rfl⟩ (by cases h; rfl)
  · rw [if_neg c3] at h
    refine r_iload_n hg 2 dX12_shop_10 rfl rfl ?_
    refine r_i2l hg dX12_shop_11 ?_
    refine r_lconst hg dX12_shop_12 lc_1 ?_
    refine r_ldc2 hg dX12_shop_13 kl_X12_82 ?_
    obtain ⟨v4, e5, h⟩ := q_b1_some h
    refine r_cS3i hg dX12_shop_16 mt_X12_isIn ⟨ml_X12_64, mst_X12_isIn⟩ (s_X12_isIn hΓ hX e5) (q_room (Nat.le_of_ble_eq_true rfl) (Nat.le_of_ble_eq_true rfl)) ⟨Nat.zero_le _, Nat.zero_le _⟩ (Nat.le_of_ble_eq_true rfl) ?_
    refine r_if_eq hg 55 dX12_shop_19 (by decide) (fun c6 => ?_) (fun c6 => ?_)
    · rw [if_pos c6] at h
      refine r_ldc hg dX12_shop_55 kc_X12_90 ?_
      exact r_ireturn hr dX12_shop_57 ⟨Nat.zero_le _, Nat.zero_le _⟩ ⟨_, rfl, rfl⟩ (by cases h; rfl)
    · rw [if_neg c6] at h
      refine r_iload_n hg 3 dX12_shop_22 rfl rfl ?_
      refine r_i2l hg dX12_shop_23 ?_
      refine r_lconst hg dX12_shop_24 lc_0 ?_
      refine r_ldc2 hg dX12_shop_25 kl_X12_96 ?_
      obtain ⟨v7, e8, h⟩ := q_b1_some h
      refine r_cS3i hg dX12_shop_28 mt_X12_isIn ⟨ml_X12_64, mst_X12_isIn⟩ (s_X12_isIn hΓ hX e8) (q_room (Nat.le_of_ble_eq_true rfl) (Nat.le_of_ble_eq_true rfl)) ⟨Nat.zero_le _, Nat.zero_le _⟩ (Nat.le_of_ble_eq_true rfl) ?_
      refine r_if_eq hg 55 dX12_shop_31 (by decide) (fun c9 => ?_) (fun c9 => ?_)
      · rw [if_pos c9] at h
        refine r_ldc hg dX12_shop_55 kc_X12_90 ?_
        exact r_ireturn hr dX12_shop_57 ⟨Nat.zero_le _, Nat.zero_le _⟩ ⟨_, rfl, rfl⟩ (by cases h; rfl)
      · rw [if_neg c9] at h
        refine r_iload hg 4 dX12_shop_34 rfl ?_
        refine r_i2l hg dX12_shop_36 ?_
        refine r_lconst hg dX12_shop_37 lc_0 ?_
        refine r_iload_n hg 1 dX12_shop_38 rfl rfl ?_
        refine r_if_ne hg 46 dX12_shop_39 (by decide) (fun c10 => ?_) (fun c10 => ?_)
        · rw [if_neg c10] at h
          refine r_ldc2 hg dX12_shop_46 kl_X12_82 ?_
          exact p_X12_shop_49 hΓ hg hr hX k_this _ _ _ _ h
        · rw [if_pos (Classical.not_not.mp c10)] at h
          refine r_lconst hg dX12_shop_42 lc_0 ?_
          refine r_goto hg 49 dX12_shop_43 (by decide) ?_
          exact p_X12_shop_49 hΓ hg hr hX k_this _ _ _ _ h

def f_X12_trim (this : Nat) (x1 : Int32) (I : qI) : Option (Int32 × qI) :=
  q_b1 (f_X12_isIn x1.toInt64 (0 : Int64) ((I this 14).toInt64)) fun v1 =>
  if v1 = 0 then
    some ((-1000000001), I)
  else
    q_b1 (some (q_up I this 14 x1)) fun I4 =>
    some (x1, I4)
set_option maxRecDepth 100000 in
set_option maxHeartbeats 4000000 in
theorem s_X12_trim {l : Launch} {Γ : qC} (hΓ : q_gm Γ) {X : qX} (hX : q_Lay X) {this : Nat} {x1 : Int32} (k_this : q_kd X this = some (14, 42)) {I : qI} {z : Int32 × qI} (h : f_X12_trim this x1 I = some z) : q_Sem l Γ (q_rm 3 0 0) yX12_trim cX12_trim 2 (some .int) [.ref this, .int x1] I X (some (.int z.1), z.2, X) := by
  refine q_met (by decide) (Nat.le_of_ble_eq_true rfl) (fun g hg hr => ?_)
  unfold f_X12_trim at h
  show g 0 0 0 [(0, .ref this), (1, .int x1)] [] I X
  refine r_iload_n hg 1 dX12_trim_0 rfl rfl ?_
  refine r_i2l hg dX12_trim_1 ?_
  refine r_lconst hg dX12_trim_2 lc_0 ?_
  refine r_aload_n hg 0 dX12_trim_3 rfl rfl ?_
  refine r_getI hg dX12_trim_4 fl_X12_215 k_this rfl ?_
  refine r_i2l hg dX12_trim_7 ?_
  obtain ⟨v1, e2, h⟩ := q_b1_some h
  refine r_cS3i hg dX12_trim_8 mt_X12_isIn ⟨ml_X12_64, mst_X12_isIn⟩ (s_X12_isIn hΓ hX e2) (q_room (Nat.le_of_ble_eq_true rfl) (Nat.le_of_ble_eq_true rfl)) ⟨Nat.zero_le _, Nat.zero_le _⟩ (Nat.le_of_ble_eq_true rfl) ?_
  refine r_if_ne hg 17 dX12_trim_11 (by decide) (fun c3 => ?_) (fun c3 => ?_)
  · rw [if_neg c3] at h
    refine r_aload_n hg 0 dX12_trim_17 rfl rfl ?_
    refine r_iload_n hg 1 dX12_trim_18 rfl rfl ?_
    obtain ⟨I4, e5, h⟩ := q_b1_some h
    obtain rfl := Option.some.inj e5
    refine r_putI hg dX12_trim_19 fl_X12_215 k_this rfl ⟨rfl, rfl⟩ ?_
    refine r_iload_n hg 1 dX12_trim_22 rfl rfl ?_
    exact r_ireturn hr dX12_trim_23 ⟨Nat.zero_le _, Nat.zero_le _⟩ ⟨_, rfl, rfl⟩ (by cases h; rfl)
  · rw [if_pos (Classical.not_not.mp c3)] at h
    refine r_ldc hg dX12_trim_14 kc_X12_90 ?_
    exact r_ireturn hr dX12_trim_16 ⟨Nat.zero_le _, Nat.zero_le _⟩ ⟨_, rfl, rfl⟩ (by cases h; rfl)

def b_X12_worked_157 (this : Nat) (x1 : Int32) (k4 : Int32 → Int32 → qI → Option (Int32 × qI)) (x2 : Int32) (x3 : Int32) (I : qI) : Option (Int32 × qI) :=
  k4 x2 (x3 + (nI 1)) I
set_option maxRecDepth 100000 in
set_option maxHeartbeats 4000000 in
theorem p_X12_worked_157 {l : Launch} {Γ : qC} {g : qG} {z : Int32 × qI} {this : Nat} {x1 : Int32} {X : qX} (hΓ : q_gm Γ) (hg : q_Ok l Γ RX12 cX12_worked 6 (q_rm 3 0 0) "worked" (some .int) g) (hr : q_Rt cX12_worked (some .int) (q_rm 3 0 0) (some (.int z.1), z.2, X) g) (hX : q_Lay X) (k_this : q_kd X this = some (14, 42)) {k4 : Int32 → Int32 → qI → Option (Int32 × qI)} (hk4 : ∀ (x2 : Int32) (x3 : Int32) (I : qI), k4 x2 x3 I = some z → g 0 0 4 [(0, .ref this), (1, .int x1), (2, .int x2), (3, .int x3)] [] I X) (x2 : Int32) (x3 : Int32) (I : qI) (h : b_X12_worked_157 this x1 k4 x2 x3 I = some z) : g 0 0 157 [(0, .ref this), (1, .int x1), (2, .int x2), (3, .int x3)] [] I X := by
  unfold b_X12_worked_157 at h
  refine r_iinc hg 3 (v := (x3 + (nI 1))) (L' := [(3, .int (x3 + (nI 1))), (0, .ref this), (1, .int x1), (2, .int x2)]) dX12_worked_157 rfl (by rw [ci_1]) (by decide) rfl ?_
  refine r_goto hg 4 dX12_worked_160 (by decide) ?_
  refine r_sub hg [1, 2, 3, 0] rfl ?_
  exact hk4 _ _ _ h
def b_X12_worked_123 (this : Nat) (x1 : Int32) (k4 : Int32 → Int32 → qI → Option (Int32 × qI)) (x2 : Int32) (x3 : Int32) (s1 : Int32) (s2 : Int32) (I : qI) : Option (Int32 × qI) :=
  q_b1 (q_wr I (this + 9) 100 s1 s2) fun I2 =>
  b_X12_worked_157 this x1 k4 x2 x3 I2
set_option maxRecDepth 100000 in
set_option maxHeartbeats 4000000 in
theorem p_X12_worked_123 {l : Launch} {Γ : qC} {g : qG} {z : Int32 × qI} {this : Nat} {x1 : Int32} {X : qX} (hΓ : q_gm Γ) (hg : q_Ok l Γ RX12 cX12_worked 6 (q_rm 3 0 0) "worked" (some .int) g) (hr : q_Rt cX12_worked (some .int) (q_rm 3 0 0) (some (.int z.1), z.2, X) g) (hX : q_Lay X) (k_this : q_kd X this = some (14, 42)) {k4 : Int32 → Int32 → qI → Option (Int32 × qI)} (hk4 : ∀ (x2 : Int32) (x3 : Int32) (I : qI), k4 x2 x3 I = some z → g 0 0 4 [(0, .ref this), (1, .int x1), (2, .int x2), (3, .int x3)] [] I X) (x2 : Int32) (x3 : Int32) (s1 : Int32) (s2 : Int32) (I : qI) (h : b_X12_worked_123 this x1 k4 x2 x3 s1 s2 I = some z) : g 0 0 123 [(0, .ref this), (1, .int x1), (2, .int x2), (3, .int x3)] [.int s2, .int s1, .ref (this + 9)] I X := by
  unfold b_X12_worked_123 at h
  have e1 := ly_12_27 hX k_this
  obtain ⟨I2, e3, h⟩ := q_b1_some h
  refine r_iast hg dX12_worked_123 e1.2 e3 ?_
  refine r_goto hg 157 dX12_worked_124 (by decide) ?_
  exact p_X12_worked_157 hΓ hg hr hX k_this hk4 _ _ _ h
def b_X12_worked_86 (this : Nat) (x1 : Int32) (k4 : Int32 → Int32 → qI → Option (Int32 × qI)) (x2 : Int32) (x3 : Int32) (s1 : Int32) (s2 : Int32) (I : qI) : Option (Int32 × qI) :=
  q_b1 (q_wr I (this + 9) 100 s1 s2) fun I2 =>
  b_X12_worked_157 this x1 k4 (x2 + (nI 1)) x3 I2
set_option maxRecDepth 100000 in
set_option maxHeartbeats 4000000 in
theorem p_X12_worked_86 {l : Launch} {Γ : qC} {g : qG} {z : Int32 × qI} {this : Nat} {x1 : Int32} {X : qX} (hΓ : q_gm Γ) (hg : q_Ok l Γ RX12 cX12_worked 6 (q_rm 3 0 0) "worked" (some .int) g) (hr : q_Rt cX12_worked (some .int) (q_rm 3 0 0) (some (.int z.1), z.2, X) g) (hX : q_Lay X) (k_this : q_kd X this = some (14, 42)) {k4 : Int32 → Int32 → qI → Option (Int32 × qI)} (hk4 : ∀ (x2 : Int32) (x3 : Int32) (I : qI), k4 x2 x3 I = some z → g 0 0 4 [(0, .ref this), (1, .int x1), (2, .int x2), (3, .int x3)] [] I X) (x2 : Int32) (x3 : Int32) (s1 : Int32) (s2 : Int32) (I : qI) (h : b_X12_worked_86 this x1 k4 x2 x3 s1 s2 I = some z) : g 0 0 86 [(0, .ref this), (1, .int x1), (2, .int x2), (3, .int x3)] [.int s2, .int s1, .ref (this + 9)] I X := by
  unfold b_X12_worked_86 at h
  have e1 := ly_12_27 hX k_this
  obtain ⟨I2, e3, h⟩ := q_b1_some h
  refine r_iast hg dX12_worked_86 e1.2 e3 ?_
  refine r_iinc hg 2 (v := (x2 + (nI 1))) (L' := [(2, .int (x2 + (nI 1))), (0, .ref this), (1, .int x1), (3, .int x3)]) dX12_worked_87 rfl (by rw [ci_1]) (by decide) rfl ?_
  refine r_goto hg 157 dX12_worked_90 (by decide) ?_
  refine r_sub hg [1, 2, 0, 3] rfl ?_
  exact p_X12_worked_157 hΓ hg hr hX k_this hk4 _ _ _ h
def b_X12_worked_4 (this : Nat) (x1 : Int32) (k4 : Int32 → Int32 → qI → Option (Int32 × qI)) (x2 : Int32) (x3 : Int32) (I : qI) : Option (Int32 × qI) :=
  q_b1 (f_X12_textAt this x1) fun v2 =>
  q_b1 (q_rd I (this + 1) 3580 (v2 + (nI 3))) fun v4 =>
  if v4 ≤ x3 then
    q_b1 (q_rd I (this + 9) 100 (nI 0)) fun v8 =>
    some (v8, I)
  else
    q_b1 (f_X12_textAt this x1) fun v11 =>
    q_b1 (q_rd I (this + 1) 3580 ((v11 + (nI 4)) + ((nI 2) * x3))) fun v13 =>
    q_b1 (f_X12_textAt this x1) fun v16 =>
    q_b1 (q_rd I (this + 1) 3580 (((v16 + (nI 4)) + ((nI 2) * x3)) + (nI 1))) fun v18 =>
    if v13 = (nI 2) then
      if v18 = (nI 33) then
        q_b1 (q_rd I (this + 9) 100 (x2 - (nI 1))) fun v35 =>
        if v35 = 0 then
          b_X12_worked_123 this x1 k4 x2 x3 (x2 - (nI 1)) (nI 1) I
        else
          b_X12_worked_123 this x1 k4 x2 x3 (x2 - (nI 1)) (nI 0) I
      else
        q_b1 (q_rd I (this + 9) 100 ((x2 + (-1)) - (nI 1))) fun v24 =>
        q_b1 (q_rd I (this + 9) 100 (x2 + (-1))) fun v27 =>
        q_b1 (f_X12_joined v18 v24 v27) fun v29 =>
        q_b1 (q_wr I (this + 9) 100 ((x2 + (-1)) - (nI 1)) v29) fun I31 =>
        b_X12_worked_157 this x1 k4 (x2 + (-1)) x3 I31
    else
      if v13 = 0 then
        b_X12_worked_86 this x1 k4 x2 x3 x2 v18 I
      else
        q_b1 (q_rd I (this + 8) 128 v18) fun v41 =>
        b_X12_worked_86 this x1 k4 x2 x3 x2 v41 I
set_option maxRecDepth 100000 in
set_option maxHeartbeats 4000000 in
theorem p_X12_worked_4 {l : Launch} {Γ : qC} {g : qG} {z : Int32 × qI} {this : Nat} {x1 : Int32} {X : qX} (hΓ : q_gm Γ) (hg : q_Ok l Γ RX12 cX12_worked 6 (q_rm 3 0 0) "worked" (some .int) g) (hr : q_Rt cX12_worked (some .int) (q_rm 3 0 0) (some (.int z.1), z.2, X) g) (hX : q_Lay X) (k_this : q_kd X this = some (14, 42)) {k4 : Int32 → Int32 → qI → Option (Int32 × qI)} (hk4 : ∀ (x2 : Int32) (x3 : Int32) (I : qI), k4 x2 x3 I = some z → g 0 0 4 [(0, .ref this), (1, .int x1), (2, .int x2), (3, .int x3)] [] I X) (x2 : Int32) (x3 : Int32) (I : qI) (h : b_X12_worked_4 this x1 k4 x2 x3 I = some z) : g 0 0 4 [(0, .ref this), (1, .int x1), (2, .int x2), (3, .int x3)] [] I X := by
  unfold b_X12_worked_4 at h
  refine r_iload_n hg 3 dX12_worked_4 rfl rfl ?_
  refine r_aload_n hg 0 dX12_worked_5 rfl rfl ?_
  have e1 := ly_12_0 hX k_this
  refine r_getR hg dX12_worked_6 fl_X12_7 k_this rfl e1.1 ?_
  refine r_aload_n hg 0 dX12_worked_9 rfl rfl ?_
  refine r_iload_n hg 1 dX12_worked_10 rfl rfl ?_
  obtain ⟨v2, e3, h⟩ := q_b1_some h
  refine r_cV1i hg dX12_worked_11 mt_X12_textAt ml_X12_297 mv_X12_textAt k_this (s_X12_textAt hΓ hX k_this e3) (q_room (Nat.le_of_ble_eq_true rfl) (Nat.le_of_ble_eq_true rfl)) ⟨Nat.zero_le _, Nat.zero_le _⟩ (Nat.le_of_ble_eq_true rfl) ?_
  refine r_iconst hg dX12_worked_14 ci_3 ?_
  refine r_iadd hg dX12_worked_15 ?_
  obtain ⟨v4, e5, h⟩ := q_b1_some h
  refine r_iald hg dX12_worked_16 e1.2 e5 ?_
  refine r_icmp_ge hg 163 dX12_worked_17 (by decide) (fun c6 => ?_) (fun c6 => ?_)
  · rw [if_pos c6] at h
    refine r_aload_n hg 0 dX12_worked_163 rfl rfl ?_
    have e7 := ly_12_27 hX k_this
    refine r_getR hg dX12_worked_164 fl_X12_34 k_this rfl e7.1 ?_
    refine r_iconst hg dX12_worked_167 ci_0 ?_
    obtain ⟨v8, e9, h⟩ := q_b1_some h
    refine r_iald hg dX12_worked_168 e7.2 e9 ?_
    exact r_ireturn hr dX12_worked_169 ⟨Nat.zero_le _, Nat.zero_le _⟩ ⟨_, rfl, rfl⟩ (by cases h; rfl)
  · rw [if_neg c6] at h
    refine r_aload_n hg 0 dX12_worked_20 rfl rfl ?_
    have e10 := ly_12_0 hX k_this
    refine r_getR hg dX12_worked_21 fl_X12_7 k_this rfl e10.1 ?_
    refine r_aload_n hg 0 dX12_worked_24 rfl rfl ?_
    refine r_iload_n hg 1 dX12_worked_25 rfl rfl ?_
    obtain ⟨v11, e12, h⟩ := q_b1_some h
    refine r_cV1i hg dX12_worked_26 mt_X12_textAt ml_X12_297 mv_X12_textAt k_this (s_X12_textAt hΓ hX k_this e12) (q_room (Nat.le_of_ble_eq_true rfl) (Nat.le_of_ble_eq_true rfl)) ⟨Nat.zero_le _, Nat.zero_le _⟩ (Nat.le_of_ble_eq_true rfl) ?_
    refine r_iconst hg dX12_worked_29 ci_4 ?_
    refine r_iadd hg dX12_worked_30 ?_
    refine r_iconst hg dX12_worked_31 ci_2 ?_
    refine r_iload_n hg 3 dX12_worked_32 rfl rfl ?_
    refine r_imul hg dX12_worked_33 ?_
    refine r_iadd hg dX12_worked_34 ?_
    obtain ⟨v13, e14, h⟩ := q_b1_some h
    refine r_iald hg dX12_worked_35 e10.2 e14 ?_
    refine r_istore hg (L' := [(4, .int v13), (0, .ref this), (1, .int x1), (2, .int x2), (3, .int x3)]) dX12_worked_36 (by decide) rfl ?_
    refine r_aload_n hg 1 dX12_worked_38 rfl rfl ?_
    have e15 := ly_12_0 hX k_this
    refine r_getR hg dX12_worked_39 fl_X12_7 k_this rfl e15.1 ?_
    refine r_aload_n hg 1 dX12_worked_42 rfl rfl ?_
    refine r_iload_n hg 2 dX12_worked_43 rfl rfl ?_
    obtain ⟨v16, e17, h⟩ := q_b1_some h
    refine r_cV1i hg dX12_worked_44 mt_X12_textAt ml_X12_297 mv_X12_textAt k_this (s_X12_textAt hΓ hX k_this e17) (q_room (Nat.le_of_ble_eq_true rfl) (Nat.le_of_ble_eq_true rfl)) ⟨Nat.zero_le _, Nat.zero_le _⟩ (Nat.le_of_ble_eq_true rfl) ?_
    refine r_iconst hg dX12_worked_47 ci_4 ?_
    refine r_iadd hg dX12_worked_48 ?_
    refine r_iconst hg dX12_worked_49 ci_2 ?_
    refine r_iload_n hg 4 dX12_worked_50 rfl rfl ?_
    refine r_imul hg dX12_worked_51 ?_
    refine r_iadd hg dX12_worked_52 ?_
    refine r_iconst hg dX12_worked_53 ci_1 ?_
    refine r_iadd hg dX12_worked_54 ?_
    obtain ⟨v18, e19, h⟩ := q_b1_some h
    refine r_iald hg dX12_worked_55 e15.2 e19 ?_
    refine r_istore hg (L' := [(5, .int v18), (4, .int v13), (0, .ref this), (1, .int x1), (2, .int x2), (3, .int x3)]) dX12_worked_56 (by decide) rfl ?_
    refine r_iload hg 1 dX12_worked_58 rfl ?_
    refine r_iconst hg dX12_worked_60 ci_2 ?_
    refine r_icmp_eq hg 93 dX12_worked_61 (by decide) (fun c20 => ?_) (fun c20 => ?_)
    · rw [if_pos c20] at h
      refine r_iload hg 0 dX12_worked_93 rfl ?_
      refine r_bipush hg dX12_worked_95 cb_33 ?_
      refine r_icmp_ne hg 127 dX12_worked_97 (by decide) (fun c21 => ?_) (fun c21 => ?_)
      · rw [if_neg c21] at h
        refine r_iinc hg 4 (v := (x2 + (-1))) (L' := [(2, .int (x2 + (-1))), (5, .int v18), (4, .int v13), (0, .ref this), (1, .int x1), (3, .int x3)]) dX12_worked_127 rfl (by rw [ci_m1]) (by decide) rfl ?_
        refine r_aload_n hg 3 dX12_worked_130 rfl rfl ?_
        have e22 := ly_12_27 hX k_this
        refine r_getR hg dX12_worked_131 fl_X12_34 k_this rfl e22.1 ?_
        refine r_iload_n hg 0 dX12_worked_134 rfl rfl ?_
        refine r_iconst hg dX12_worked_135 ci_1 ?_
        refine r_isub hg dX12_worked_136 ?_
        refine r_iload hg 1 dX12_worked_137 rfl ?_
        refine r_aload_n hg 3 dX12_worked_139 rfl rfl ?_
        have e23 := ly_12_27 hX k_this
        refine r_getR hg dX12_worked_140 fl_X12_34 k_this rfl e23.1 ?_
        refine r_iload_n hg 0 dX12_worked_143 rfl rfl ?_
        refine r_iconst hg dX12_worked_144 ci_1 ?_
        refine r_isub hg dX12_worked_145 ?_
        obtain ⟨v24, e25, h⟩ := q_b1_some h
        refine r_iald hg dX12_worked_146 e23.2 e25 ?_
        refine r_aload_n hg 3 dX12_worked_147 rfl rfl ?_
        have e26 := ly_12_27 hX k_this
        refine r_getR hg dX12_worked_148 fl_X12_34 k_this rfl e26.1 ?_
        refine r_iload_n hg 0 dX12_worked_151 rfl rfl ?_
        obtain ⟨v27, e28, h⟩ := q_b1_some h
        refine r_iald hg dX12_worked_152 e26.2 e28 ?_
        obtain ⟨v29, e30, h⟩ := q_b1_some h
        refine r_cS3i hg dX12_worked_153 mt_X12_joined ⟨ml_X12_319, mst_X12_joined⟩ (s_X12_joined hΓ hX e30) (q_room (Nat.le_of_ble_eq_true rfl) (Nat.le_of_ble_eq_true rfl)) ⟨Nat.zero_le _, Nat.zero_le _⟩ (Nat.le_of_ble_eq_true rfl) ?_
        obtain ⟨I31, e32, h⟩ := q_b1_some h
        refine r_iast hg dX12_worked_156 e22.2 e32 ?_
        refine r_sub hg [3, 4, 0, 5] rfl ?_
        exact p_X12_worked_157 hΓ hg hr hX k_this hk4 _ _ _ h
      · rw [if_pos (Classical.not_not.mp c21)] at h
        refine r_aload_n hg 2 dX12_worked_100 rfl rfl ?_
        have e33 := ly_12_27 hX k_this
        refine r_getR hg dX12_worked_101 fl_X12_34 k_this rfl e33.1 ?_
        refine r_iload_n hg 4 dX12_worked_104 rfl rfl ?_
        refine r_iconst hg dX12_worked_105 ci_1 ?_
        refine r_isub hg dX12_worked_106 ?_
        refine r_aload_n hg 2 dX12_worked_107 rfl rfl ?_
        have e34 := ly_12_27 hX k_this
        refine r_getR hg dX12_worked_108 fl_X12_34 k_this rfl e34.1 ?_
        refine r_iload_n hg 4 dX12_worked_111 rfl rfl ?_
        refine r_iconst hg dX12_worked_112 ci_1 ?_
        refine r_isub hg dX12_worked_113 ?_
        obtain ⟨v35, e36, h⟩ := q_b1_some h
        refine r_iald hg dX12_worked_114 e34.2 e36 ?_
        refine r_if_ne hg 122 dX12_worked_115 (by decide) (fun c37 => ?_) (fun c37 => ?_)
        · rw [if_neg c37] at h
          refine r_iconst hg dX12_worked_122 ci_0 ?_
          refine r_sub hg [2, 3, 4, 5] rfl ?_
          exact p_X12_worked_123 hΓ hg hr hX k_this hk4 _ _ _ _ _ h
        · rw [if_pos (Classical.not_not.mp c37)] at h
          refine r_iconst hg dX12_worked_118 ci_1 ?_
          refine r_goto hg 123 dX12_worked_119 (by decide) ?_
          refine r_sub hg [2, 3, 4, 5] rfl ?_
          exact p_X12_worked_123 hΓ hg hr hX k_this hk4 _ _ _ _ _ h
    · rw [if_neg c20] at h
      refine r_aload_n hg 2 dX12_worked_64 rfl rfl ?_
      have e38 := ly_12_27 hX k_this
      refine r_getR hg dX12_worked_65 fl_X12_34 k_this rfl e38.1 ?_
      refine r_iload_n hg 4 dX12_worked_68 rfl rfl ?_
      refine r_iload hg 1 dX12_worked_69 rfl ?_
      refine r_if_ne hg 79 dX12_worked_71 (by decide) (fun c39 => ?_) (fun c39 => ?_)
      · rw [if_neg c39] at h
        refine r_aload_n hg 2 dX12_worked_79 rfl rfl ?_
        have e40 := ly_12_26 hX k_this
        refine r_getR hg dX12_worked_80 fl_X12_31 k_this rfl e40.1 ?_
        refine r_iload hg 0 dX12_worked_83 rfl ?_
        obtain ⟨v41, e42, h⟩ := q_b1_some h
        refine r_iald hg dX12_worked_85 e40.2 e42 ?_
        refine r_sub hg [2, 3, 4, 5] rfl ?_
        exact p_X12_worked_86 hΓ hg hr hX k_this hk4 _ _ _ _ _ h
      · rw [if_pos (Classical.not_not.mp c39)] at h
        refine r_iload hg 0 dX12_worked_74 rfl ?_
        refine r_goto hg 86 dX12_worked_76 (by decide) ?_
        refine r_sub hg [2, 3, 4, 5] rfl ?_
        exact p_X12_worked_86 hΓ hg hr hX k_this hk4 _ _ _ _ _ h
theorem pl_X12_worked_4 {l : Launch} {Γ : qC} {g : qG} {z : Int32 × qI} {this : Nat} {x1 : Int32} {X : qX} (hΓ : q_gm Γ) (hg : q_Ok l Γ RX12 cX12_worked 6 (q_rm 3 0 0) "worked" (some .int) g) (hr : q_Rt cX12_worked (some .int) (q_rm 3 0 0) (some (.int z.1), z.2, X) g) (hX : q_Lay X) (k_this : q_kd X this = some (14, 42)) : ∀ (n : Nat) (x2 : Int32) (x3 : Int32) (I : qI), q_fix (fun _ _ _ => none) (b_X12_worked_4 this x1) n x2 x3 I = some z → g 0 0 4 [(0, .ref this), (1, .int x1), (2, .int x2), (3, .int x3)] [] I X := by
  intro n
  induction n with
  | zero =>
    intro x2 x3 I h
    cases (show (none : Option (Int32 × qI)) = some z from h)
  | succ n ih =>
    intro x2 x3 I h
    exact p_X12_worked_4 hΓ hg hr hX k_this ih _ _ _ h
def f_X12_worked (this : Nat) (x1 : Int32) (I : qI) : Option (Int32 × qI) :=
  q_fix (fun _ _ _ => none) (b_X12_worked_4 this x1) q_fu (nI 0) (nI 0) I
set_option maxRecDepth 100000 in
set_option maxHeartbeats 4000000 in
theorem s_X12_worked {l : Launch} {Γ : qC} (hΓ : q_gm Γ) {X : qX} (hX : q_Lay X) {this : Nat} {x1 : Int32} (k_this : q_kd X this = some (14, 42)) {I : qI} {z : Int32 × qI} (h : f_X12_worked this x1 I = some z) : q_Sem l Γ (q_rm 3 0 0) yX12_worked cX12_worked 6 (some .int) [.ref this, .int x1] I X (some (.int z.1), z.2, X) := by
  refine q_met (by decide) (Nat.le_of_ble_eq_true rfl) (fun g hg hr => ?_)
  unfold f_X12_worked at h
  show g 0 0 0 [(0, .ref this), (1, .int x1)] [] I X
  refine r_iconst hg dX12_worked_0 ci_0 ?_
  refine r_istore_n hg (L' := [(2, .int (nI 0)), (0, .ref this), (1, .int x1)]) dX12_worked_1 rfl (by decide) rfl ?_
  refine r_iconst hg dX12_worked_2 ci_0 ?_
  refine r_istore_n hg (L' := [(3, .int (nI 0)), (2, .int (nI 0)), (0, .ref this), (1, .int x1)]) dX12_worked_3 rfl (by decide) rfl ?_
  refine r_sub hg [2, 3, 1, 0] rfl ?_
  exact pl_X12_worked_4 hΓ hg hr hX k_this _ _ _ _ h

def f_X12_actBy (this : Nat) (x1 : Int32) (x2 : Int32) (x3 : Int32) (x4 : Int32) (I : qI) : Option (Int32 × qI) :=
  q_b1 (q_wr I (this + 8) 128 (nI 109) x2) fun I2 =>
  q_b1 (q_wr I2 (this + 8) 128 (nI 112) x3) fun I5 =>
  q_b1 (q_wr I5 (this + 8) 128 (nI 116) x4) fun I8 =>
  if 0 ≤ x1 then
    q_b2 (f_X12_worked this x1 I8) fun v11 I12 =>
    some (v11, I12)
  else
    some ((nI 0), I8)
set_option maxRecDepth 100000 in
set_option maxHeartbeats 4000000 in
theorem s_X12_actBy {l : Launch} {Γ : qC} (hΓ : q_gm Γ) {X : qX} (hX : q_Lay X) {this : Nat} {x1 : Int32} {x2 : Int32} {x3 : Int32} {x4 : Int32} (k_this : q_kd X this = some (14, 42)) {I : qI} {z : Int32 × qI} (h : f_X12_actBy this x1 x2 x3 x4 I = some z) : q_Sem l Γ (q_rm 4 0 0) yX12_actBy cX12_actBy 5 (some .int) [.ref this, .int x1, .int x2, .int x3, .int x4] I X (some (.int z.1), z.2, X) := by
  refine q_met (by decide) (Nat.le_of_ble_eq_true rfl) (fun g hg hr => ?_)
  unfold f_X12_actBy at h
  show g 0 0 0 [(0, .ref this), (1, .int x1), (2, .int x2), (3, .int x3), (4, .int x4)] [] I X
  refine r_aload_n hg 0 dX12_actBy_0 rfl rfl ?_
  have e1 := ly_12_26 hX k_this
  refine r_getR hg dX12_actBy_1 fl_X12_31 k_this rfl e1.1 ?_
  refine r_bipush hg dX12_actBy_4 cb_109 ?_
  refine r_iload_n hg 2 dX12_actBy_6 rfl rfl ?_
  obtain ⟨I2, e3, h⟩ := q_b1_some h
  refine r_iast hg dX12_actBy_7 e1.2 e3 ?_
  refine r_aload_n hg 0 dX12_actBy_8 rfl rfl ?_
  have e4 := ly_12_26 hX k_this
  refine r_getR hg dX12_actBy_9 fl_X12_31 k_this rfl e4.1 ?_
  refine r_bipush hg dX12_actBy_12 cb_112 ?_
  refine r_iload_n hg 3 dX12_actBy_14 rfl rfl ?_
  obtain ⟨I5, e6, h⟩ := q_b1_some h
  refine r_iast hg dX12_actBy_15 e4.2 e6 ?_
  refine r_aload_n hg 0 dX12_actBy_16 rfl rfl ?_
  have e7 := ly_12_26 hX k_this
  refine r_getR hg dX12_actBy_17 fl_X12_31 k_this rfl e7.1 ?_
  refine r_bipush hg dX12_actBy_20 cb_116 ?_
  refine r_iload hg 4 dX12_actBy_22 rfl ?_
  obtain ⟨I8, e9, h⟩ := q_b1_some h
  refine r_iast hg dX12_actBy_24 e7.2 e9 ?_
  refine r_iload_n hg 1 dX12_actBy_25 rfl rfl ?_
  refine r_if_ge hg 33 dX12_actBy_26 (by decide) (fun c10 => ?_) (fun c10 => ?_)
  · rw [if_pos c10] at h
    refine r_aload_n hg 0 dX12_actBy_33 rfl rfl ?_
    refine r_iload_n hg 1 dX12_actBy_34 rfl rfl ?_
    obtain ⟨v11, I12, e13, h⟩ := q_b2_some h
    refine r_cV1i hg dX12_actBy_35 mt_X12_worked ml_X12_322 mv_X12_worked k_this (s_X12_worked hΓ hX k_this e13) (q_room (Nat.le_of_ble_eq_true rfl) (Nat.le_of_ble_eq_true rfl)) ⟨Nat.zero_le _, Nat.zero_le _⟩ (Nat.le_of_ble_eq_true rfl) ?_
    exact r_ireturn hr dX12_actBy_38 ⟨Nat.zero_le _, Nat.zero_le _⟩ ⟨_, rfl, rfl⟩ (by cases h; rfl)
  · rw [if_neg c10] at h
    refine r_iconst hg dX12_actBy_29 ci_0 ?_
    refine r_goto hg 38 dX12_actBy_30 (by decide) ?_
    exact r_ireturn hr dX12_actBy_38 ⟨Nat.zero_le _, Nat.zero_le _⟩ ⟨_, rfl, rfl⟩ (by cases h; rfl)

def b_X12_all_78 (this : Nat) (x1 : Int32) (x2 : Int32) (I : qI) (k25 : Int32 → Int32 → Int32 → Option (Int32)) (x3 : Int32) (x5 : Int32) (s0 : Int32) (s1 : Int32) : Option (Int32) :=
  k25 x3 (s0 + s1) (x5 + (nI 1))
set_option maxRecDepth 100000 in
set_option maxHeartbeats 4000000 in
theorem p_X12_all_78 {l : Launch} {Γ : qC} {g : qG} {z : Int32} {this : Nat} {x1 : Int32} {x2 : Int32} {X : qX} {I : qI} (hΓ : q_gm Γ) (hg : q_Ok l Γ RX12 cX12_all 7 (q_rm 4 0 0) "all" (some .int) g) (hr : q_Rt cX12_all (some .int) (q_rm 4 0 0) (some (.int z), I, X) g) (hX : q_Lay X) (k_this : q_kd X this = some (14, 42)) {k25 : Int32 → Int32 → Int32 → Option (Int32)} (hk25 : ∀ (x3 : Int32) (x4 : Int32) (x5 : Int32), k25 x3 x4 x5 = some z → g 0 0 25 [(0, .ref this), (1, .int x1), (2, .int x2), (3, .int x3), (4, .int x4), (5, .int x5)] [] I X) (x3 : Int32) (x5 : Int32) (s0 : Int32) (s1 : Int32) (h : b_X12_all_78 this x1 x2 I k25 x3 x5 s0 s1 = some z) : g 0 0 78 [(0, .ref this), (1, .int x1), (2, .int x2), (3, .int x3), (5, .int x5)] [.int s1, .int s0] I X := by
  unfold b_X12_all_78 at h
  refine r_iadd hg dX12_all_78 ?_
  refine r_istore hg (L' := [(4, .int (s0 + s1)), (0, .ref this), (1, .int x1), (2, .int x2), (3, .int x3), (5, .int x5)]) dX12_all_79 (by decide) rfl ?_
  refine r_iinc hg 5 (v := (x5 + (nI 1))) (L' := [(5, .int (x5 + (nI 1))), (4, .int (s0 + s1)), (0, .ref this), (1, .int x1), (2, .int x2), (3, .int x3)]) dX12_all_81 rfl (by rw [ci_1]) (by decide) rfl ?_
  refine r_goto hg 25 dX12_all_84 (by decide) ?_
  refine r_sub hg [2, 3, 4, 5, 1, 0] rfl ?_
  exact hk25 _ _ _ h
def b_X12_all_64 (this : Nat) (x1 : Int32) (x2 : Int32) (I : qI) (k25 : Int32 → Int32 → Int32 → Option (Int32)) (x4 : Int32) (x5 : Int32) (x6 : Int32) (s0 : Int32) (s1 : Int32) : Option (Int32) :=
  if 0 ≤ x6 then
    b_X12_all_78 this x1 x2 I k25 (s0 + s1) x5 x4 (nI 0)
  else
    b_X12_all_78 this x1 x2 I k25 (s0 + s1) x5 x4 (nI 1)
set_option maxRecDepth 100000 in
set_option maxHeartbeats 4000000 in
theorem p_X12_all_64 {l : Launch} {Γ : qC} {g : qG} {z : Int32} {this : Nat} {x1 : Int32} {x2 : Int32} {X : qX} {I : qI} (hΓ : q_gm Γ) (hg : q_Ok l Γ RX12 cX12_all 7 (q_rm 4 0 0) "all" (some .int) g) (hr : q_Rt cX12_all (some .int) (q_rm 4 0 0) (some (.int z), I, X) g) (hX : q_Lay X) (k_this : q_kd X this = some (14, 42)) {k25 : Int32 → Int32 → Int32 → Option (Int32)} (hk25 : ∀ (x3 : Int32) (x4 : Int32) (x5 : Int32), k25 x3 x4 x5 = some z → g 0 0 25 [(0, .ref this), (1, .int x1), (2, .int x2), (3, .int x3), (4, .int x4), (5, .int x5)] [] I X) (x4 : Int32) (x5 : Int32) (x6 : Int32) (s0 : Int32) (s1 : Int32) (h : b_X12_all_64 this x1 x2 I k25 x4 x5 x6 s0 s1 = some z) : g 0 0 64 [(0, .ref this), (1, .int x1), (2, .int x2), (4, .int x4), (5, .int x5), (6, .int x6)] [.int s1, .int s0] I X := by
  unfold b_X12_all_64 at h
  refine r_iadd hg dX12_all_64 ?_
  refine r_istore_n hg (L' := [(3, .int (s0 + s1)), (0, .ref this), (1, .int x1), (2, .int x2), (4, .int x4), (5, .int x5), (6, .int x6)]) dX12_all_65 rfl (by decide) rfl ?_
  refine r_iload hg 4 dX12_all_66 rfl ?_
  refine r_iload hg 6 dX12_all_68 rfl ?_
  refine r_if_ge hg 77 dX12_all_70 (by decide) (fun c1 => ?_) (fun c1 => ?_)
  · rw [if_pos c1] at h
    refine r_iconst hg dX12_all_77 ci_0 ?_
    refine r_sub hg [1, 2, 3, 0, 5] rfl ?_
    exact p_X12_all_78 hΓ hg hr hX k_this hk25 _ _ _ _ h
  · rw [if_neg c1] at h
    refine r_iconst hg dX12_all_73 ci_1 ?_
    refine r_goto hg 78 dX12_all_74 (by decide) ?_
    refine r_sub hg [1, 2, 3, 0, 5] rfl ?_
    exact p_X12_all_78 hΓ hg hr hX k_this hk25 _ _ _ _ h
def b_X12_all_25 (this : Nat) (x1 : Int32) (x2 : Int32) (I : qI) (k25 : Int32 → Int32 → Int32 → Option (Int32)) (x3 : Int32) (x4 : Int32) (x5 : Int32) : Option (Int32) :=
  if (nI 8) ≤ x5 then
    if x2 = 0 then
      some (x3)
    else
      some (x4)
  else
    q_b1 (f_X12_readBy this x5 x1 I) fun v3 =>
    if 0 ≤ v3 then
      q_b1 (q_rd I (this + 6) 240 (((nI 30) * x5) + v3)) fun v7 =>
      b_X12_all_64 this x1 x2 I k25 x4 x5 v3 x3 v7
    else
      b_X12_all_64 this x1 x2 I k25 x4 x5 v3 x3 (nI 0)
set_option maxRecDepth 100000 in
set_option maxHeartbeats 4000000 in
theorem p_X12_all_25 {l : Launch} {Γ : qC} {g : qG} {z : Int32} {this : Nat} {x1 : Int32} {x2 : Int32} {X : qX} {I : qI} (hΓ : q_gm Γ) (hg : q_Ok l Γ RX12 cX12_all 7 (q_rm 4 0 0) "all" (some .int) g) (hr : q_Rt cX12_all (some .int) (q_rm 4 0 0) (some (.int z), I, X) g) (hX : q_Lay X) (k_this : q_kd X this = some (14, 42)) {k25 : Int32 → Int32 → Int32 → Option (Int32)} (hk25 : ∀ (x3 : Int32) (x4 : Int32) (x5 : Int32), k25 x3 x4 x5 = some z → g 0 0 25 [(0, .ref this), (1, .int x1), (2, .int x2), (3, .int x3), (4, .int x4), (5, .int x5)] [] I X) (x3 : Int32) (x4 : Int32) (x5 : Int32) (h : b_X12_all_25 this x1 x2 I k25 x3 x4 x5 = some z) : g 0 0 25 [(0, .ref this), (1, .int x1), (2, .int x2), (3, .int x3), (4, .int x4), (5, .int x5)] [] I X := by
  unfold b_X12_all_25 at h
  refine r_iload hg 5 dX12_all_25 rfl ?_
  refine r_bipush hg dX12_all_27 cb_8 ?_
  refine r_icmp_ge hg 87 dX12_all_29 (by decide) (fun c1 => ?_) (fun c1 => ?_)
  · rw [if_pos c1] at h
    refine r_iload_n hg 2 dX12_all_87 rfl rfl ?_
    refine r_if_ne hg 95 dX12_all_88 (by decide) (fun c2 => ?_) (fun c2 => ?_)
    · rw [if_neg c2] at h
      refine r_iload hg 4 dX12_all_95 rfl ?_
      exact r_ireturn hr dX12_all_97 ⟨Nat.zero_le _, Nat.zero_le _⟩ ⟨_, rfl, rfl⟩ (by cases h; rfl)
    · rw [if_pos (Classical.not_not.mp c2)] at h
      refine r_iload_n hg 3 dX12_all_91 rfl rfl ?_
      refine r_goto hg 97 dX12_all_92 (by decide) ?_
      exact r_ireturn hr dX12_all_97 ⟨Nat.zero_le _, Nat.zero_le _⟩ ⟨_, rfl, rfl⟩ (by cases h; rfl)
  · rw [if_neg c1] at h
    refine r_aload_n hg 0 dX12_all_32 rfl rfl ?_
    refine r_iload hg 5 dX12_all_33 rfl ?_
    refine r_iload_n hg 1 dX12_all_35 rfl rfl ?_
    obtain ⟨v3, e4, h⟩ := q_b1_some h
    refine r_cV2i hg dX12_all_36 mt_X12_readBy ml_X12_383 mv_X12_readBy k_this (s_X12_readBy hΓ hX k_this e4) (q_room (Nat.le_of_ble_eq_true rfl) (Nat.le_of_ble_eq_true rfl)) ⟨Nat.zero_le _, Nat.zero_le _⟩ (Nat.le_of_ble_eq_true rfl) ?_
    refine r_istore hg (L' := [(6, .int v3), (0, .ref this), (1, .int x1), (2, .int x2), (3, .int x3), (4, .int x4), (5, .int x5)]) dX12_all_39 (by decide) rfl ?_
    refine r_iload_n hg 4 dX12_all_41 rfl rfl ?_
    refine r_iload hg 0 dX12_all_42 rfl ?_
    refine r_if_ge hg 51 dX12_all_44 (by decide) (fun c5 => ?_) (fun c5 => ?_)
    · rw [if_pos c5] at h
      refine r_aload_n hg 1 dX12_all_51 rfl rfl ?_
      have e6 := ly_12_6 hX k_this
      refine r_getR hg dX12_all_52 fl_X12_25 k_this rfl e6.1 ?_
      refine r_bipush hg dX12_all_55 cb_30 ?_
      refine r_iload hg 6 dX12_all_57 rfl ?_
      refine r_imul hg dX12_all_59 ?_
      refine r_iload hg 0 dX12_all_60 rfl ?_
      refine r_iadd hg dX12_all_62 ?_
      obtain ⟨v7, e8, h⟩ := q_b1_some h
      refine r_iald hg dX12_all_63 e6.2 e8 ?_
      refine r_sub hg [1, 2, 3, 5, 6, 0] rfl ?_
      exact p_X12_all_64 hΓ hg hr hX k_this hk25 _ _ _ _ _ h
    · rw [if_neg c5] at h
      refine r_iconst hg dX12_all_47 ci_0 ?_
      refine r_goto hg 64 dX12_all_48 (by decide) ?_
      refine r_sub hg [1, 2, 3, 5, 6, 0] rfl ?_
      exact p_X12_all_64 hΓ hg hr hX k_this hk25 _ _ _ _ _ h
theorem pl_X12_all_25 {l : Launch} {Γ : qC} {g : qG} {z : Int32} {this : Nat} {x1 : Int32} {x2 : Int32} {X : qX} {I : qI} (hΓ : q_gm Γ) (hg : q_Ok l Γ RX12 cX12_all 7 (q_rm 4 0 0) "all" (some .int) g) (hr : q_Rt cX12_all (some .int) (q_rm 4 0 0) (some (.int z), I, X) g) (hX : q_Lay X) (k_this : q_kd X this = some (14, 42)) : ∀ (n : Nat) (x3 : Int32) (x4 : Int32) (x5 : Int32), q_fix (fun _ _ _ => none) (b_X12_all_25 this x1 x2 I) n x3 x4 x5 = some z → g 0 0 25 [(0, .ref this), (1, .int x1), (2, .int x2), (3, .int x3), (4, .int x4), (5, .int x5)] [] I X := by
  intro n
  induction n with
  | zero =>
    intro x3 x4 x5 h
    cases (show (none : Option (Int32)) = some z from h)
  | succ n ih =>
    intro x3 x4 x5 h
    exact p_X12_all_25 hΓ hg hr hX k_this ih _ _ _ h
def f_X12_all (this : Nat) (x1 : Int32) (x2 : Int32) (I : qI) : Option (Int32) :=
  if x1 < 0 then
    some ((-1000000001))
  else
    q_b1 (f_X12_isIn x2.toInt64 (0 : Int64) (1 : Int64)) fun v2 =>
    if v2 = 0 then
      some ((-1000000001))
    else
      q_fix (fun _ _ _ => none) (b_X12_all_25 this x1 x2 I) q_fu (nI 0) (nI 0) (nI 0)
set_option maxRecDepth 100000 in
set_option maxHeartbeats 4000000 in
theorem s_X12_all {l : Launch} {Γ : qC} (hΓ : q_gm Γ) {X : qX} (hX : q_Lay X) {this : Nat} {x1 : Int32} {x2 : Int32} (k_this : q_kd X this = some (14, 42)) {I : qI} {z : Int32} (h : f_X12_all this x1 x2 I = some z) : q_Sem l Γ (q_rm 4 0 0) yX12_all cX12_all 7 (some .int) [.ref this, .int x1, .int x2] I X (some (.int z), I, X) := by
  refine q_met (by decide) (Nat.le_of_ble_eq_true rfl) (fun g hg hr => ?_)
  unfold f_X12_all at h
  show g 0 0 0 [(0, .ref this), (1, .int x1), (2, .int x2)] [] I X
  refine r_iload_n hg 1 dX12_all_0 rfl rfl ?_
  refine r_if_lt hg 14 dX12_all_1 (by decide) (fun c1 => ?_) (fun c1 => ?_)
  · rw [if_pos c1] at h
    refine r_ldc hg dX12_all_14 kc_X12_90 ?_
    exact r_ireturn hr dX12_all_16 ⟨Nat.zero_le _, Nat.zero_le _⟩ ⟨_, rfl, rfl⟩ (by cases h; rfl)
  · rw [if_neg c1] at h
    refine r_iload_n hg 2 dX12_all_4 rfl rfl ?_
    refine r_i2l hg dX12_all_5 ?_
    refine r_lconst hg dX12_all_6 lc_0 ?_
    refine r_lconst hg dX12_all_7 lc_1 ?_
    obtain ⟨v2, e3, h⟩ := q_b1_some h
    refine r_cS3i hg dX12_all_8 mt_X12_isIn ⟨ml_X12_64, mst_X12_isIn⟩ (s_X12_isIn hΓ hX e3) (q_room (Nat.le_of_ble_eq_true rfl) (Nat.le_of_ble_eq_true rfl)) ⟨Nat.zero_le _, Nat.zero_le _⟩ (Nat.le_of_ble_eq_true rfl) ?_
    refine r_if_ne hg 17 dX12_all_11 (by decide) (fun c4 => ?_) (fun c4 => ?_)
    · rw [if_neg c4] at h
      refine r_iconst hg dX12_all_17 ci_0 ?_
      refine r_istore_n hg (L' := [(3, .int (nI 0)), (0, .ref this), (1, .int x1), (2, .int x2)]) dX12_all_18 rfl (by decide) rfl ?_
      refine r_iconst hg dX12_all_19 ci_0 ?_
      refine r_istore hg (L' := [(4, .int (nI 0)), (3, .int (nI 0)), (0, .ref this), (1, .int x1), (2, .int x2)]) dX12_all_20 (by decide) rfl ?_
      refine r_iconst hg dX12_all_22 ci_0 ?_
      refine r_istore hg (L' := [(5, .int (nI 0)), (4, .int (nI 0)), (3, .int (nI 0)), (0, .ref this), (1, .int x1), (2, .int x2)]) dX12_all_23 (by decide) rfl ?_
      refine r_sub hg [3, 4, 5, 2, 1, 0] rfl ?_
      exact pl_X12_all_25 hΓ hg hr hX k_this _ _ _ _ h
    · rw [if_pos (Classical.not_not.mp c4)] at h
      refine r_ldc hg dX12_all_14 kc_X12_90 ?_
      exact r_ireturn hr dX12_all_16 ⟨Nat.zero_le _, Nat.zero_le _⟩ ⟨_, rfl, rfl⟩ (by cases h; rfl)

def b_X12_allEarned_4 (this : Nat) (I : qI) (k4 : Int32 → Int32 → Option (Int32)) (x1 : Int32) (x2 : Int32) : Option (Int32) :=
  q_b1 (q_rd I (this + 1) 3580 (nI 2)) fun v2 =>
  if v2 ≤ x2 then
    some (x1)
  else
    q_b1 (f_X12_earned this x2 I) fun v5 =>
    k4 (x1 + v5) (x2 + (nI 1))
set_option maxRecDepth 100000 in
set_option maxHeartbeats 4000000 in
theorem p_X12_allEarned_4 {l : Launch} {Γ : qC} {g : qG} {z : Int32} {this : Nat} {X : qX} {I : qI} (hΓ : q_gm Γ) (hg : q_Ok l Γ RX12 cX12_allEarned 3 (q_rm 4 0 0) "allEarned" (some .int) g) (hr : q_Rt cX12_allEarned (some .int) (q_rm 4 0 0) (some (.int z), I, X) g) (hX : q_Lay X) (k_this : q_kd X this = some (14, 42)) {k4 : Int32 → Int32 → Option (Int32)} (hk4 : ∀ (x1 : Int32) (x2 : Int32), k4 x1 x2 = some z → g 0 0 4 [(0, .ref this), (1, .int x1), (2, .int x2)] [] I X) (x1 : Int32) (x2 : Int32) (h : b_X12_allEarned_4 this I k4 x1 x2 = some z) : g 0 0 4 [(0, .ref this), (1, .int x1), (2, .int x2)] [] I X := by
  unfold b_X12_allEarned_4 at h
  refine r_iload_n hg 2 dX12_allEarned_4 rfl rfl ?_
  refine r_aload_n hg 0 dX12_allEarned_5 rfl rfl ?_
  have e1 := ly_12_0 hX k_this
  refine r_getR hg dX12_allEarned_6 fl_X12_7 k_this rfl e1.1 ?_
  refine r_iconst hg dX12_allEarned_9 ci_2 ?_
  obtain ⟨v2, e3, h⟩ := q_b1_some h
  refine r_iald hg dX12_allEarned_10 e1.2 e3 ?_
  refine r_icmp_ge hg 28 dX12_allEarned_11 (by decide) (fun c4 => ?_) (fun c4 => ?_)
  · rw [if_pos c4] at h
    refine r_iload_n hg 1 dX12_allEarned_28 rfl rfl ?_
    exact r_ireturn hr dX12_allEarned_29 ⟨Nat.zero_le _, Nat.zero_le _⟩ ⟨_, rfl, rfl⟩ (by cases h; rfl)
  · rw [if_neg c4] at h
    refine r_iload_n hg 1 dX12_allEarned_14 rfl rfl ?_
    refine r_aload_n hg 0 dX12_allEarned_15 rfl rfl ?_
    refine r_iload_n hg 2 dX12_allEarned_16 rfl rfl ?_
    obtain ⟨v5, e6, h⟩ := q_b1_some h
    refine r_cV1i hg dX12_allEarned_17 mt_X12_earned ml_X12_115 mv_X12_earned k_this (s_X12_earned hΓ hX k_this e6) (q_room (Nat.le_of_ble_eq_true rfl) (Nat.le_of_ble_eq_true rfl)) ⟨Nat.zero_le _, Nat.zero_le _⟩ (Nat.le_of_ble_eq_true rfl) ?_
    refine r_iadd hg dX12_allEarned_20 ?_
    refine r_istore_n hg (L' := [(1, .int (x1 + v5)), (0, .ref this), (2, .int x2)]) dX12_allEarned_21 rfl (by decide) rfl ?_
    refine r_iinc hg 2 (v := (x2 + (nI 1))) (L' := [(2, .int (x2 + (nI 1))), (1, .int (x1 + v5)), (0, .ref this)]) dX12_allEarned_22 rfl (by rw [ci_1]) (by decide) rfl ?_
    refine r_goto hg 4 dX12_allEarned_25 (by decide) ?_
    refine r_sub hg [2, 1, 0] rfl ?_
    exact hk4 _ _ h
theorem pl_X12_allEarned_4 {l : Launch} {Γ : qC} {g : qG} {z : Int32} {this : Nat} {X : qX} {I : qI} (hΓ : q_gm Γ) (hg : q_Ok l Γ RX12 cX12_allEarned 3 (q_rm 4 0 0) "allEarned" (some .int) g) (hr : q_Rt cX12_allEarned (some .int) (q_rm 4 0 0) (some (.int z), I, X) g) (hX : q_Lay X) (k_this : q_kd X this = some (14, 42)) : ∀ (n : Nat) (x1 : Int32) (x2 : Int32), q_fix (fun _ _ => none) (b_X12_allEarned_4 this I) n x1 x2 = some z → g 0 0 4 [(0, .ref this), (1, .int x1), (2, .int x2)] [] I X := by
  intro n
  induction n with
  | zero =>
    intro x1 x2 h
    cases (show (none : Option (Int32)) = some z from h)
  | succ n ih =>
    intro x1 x2 h
    exact p_X12_allEarned_4 hΓ hg hr hX k_this ih _ _ h
def f_X12_allEarned (this : Nat) (I : qI) : Option (Int32) :=
  q_fix (fun _ _ => none) (b_X12_allEarned_4 this I) q_fu (nI 0) (nI 0)
set_option maxRecDepth 100000 in
set_option maxHeartbeats 4000000 in
theorem s_X12_allEarned {l : Launch} {Γ : qC} (hΓ : q_gm Γ) {X : qX} (hX : q_Lay X) {this : Nat} (k_this : q_kd X this = some (14, 42)) {I : qI} {z : Int32} (h : f_X12_allEarned this I = some z) : q_Sem l Γ (q_rm 4 0 0) yX12_allEarned cX12_allEarned 3 (some .int) [.ref this] I X (some (.int z), I, X) := by
  refine q_met (by decide) (Nat.le_of_ble_eq_true rfl) (fun g hg hr => ?_)
  unfold f_X12_allEarned at h
  show g 0 0 0 [(0, .ref this)] [] I X
  refine r_iconst hg dX12_allEarned_0 ci_0 ?_
  refine r_istore_n hg (L' := [(1, .int (nI 0)), (0, .ref this)]) dX12_allEarned_1 rfl (by decide) rfl ?_
  refine r_iconst hg dX12_allEarned_2 ci_0 ?_
  refine r_istore_n hg (L' := [(2, .int (nI 0)), (1, .int (nI 0)), (0, .ref this)]) dX12_allEarned_3 rfl (by decide) rfl ?_
  refine r_sub hg [2, 1, 0] rfl ?_
  exact pl_X12_allEarned_4 hΓ hg hr hX k_this _ _ _ h

def b_X12_as_68 (this : Nat) (x1 : Int32) (x2 : Int32) (I : qI) (s0 : Int32) : Option (Int32) :=
  if s0 = 0 then
    some ((-1000000012))
  else
    q_b1 (f_X12_dueAt this x1) fun v3 =>
    q_b1 (q_rd I (this + 1) 3580 (v3 + (nI 2))) fun v5 =>
    some (v5)
set_option maxRecDepth 100000 in
set_option maxHeartbeats 4000000 in
theorem p_X12_as_68 {l : Launch} {Γ : qC} {g : qG} {z : Int32} {this : Nat} {x1 : Int32} {x2 : Int32} {X : qX} {I : qI} (hΓ : q_gm Γ) (hg : q_Ok l Γ RX12 cX12_as 5 (q_rm 4 0 0) "as" (some .int) g) (hr : q_Rt cX12_as (some .int) (q_rm 4 0 0) (some (.int z), I, X) g) (hX : q_Lay X) (k_this : q_kd X this = some (14, 42)) (s0 : Int32) (h : b_X12_as_68 this x1 x2 I s0 = some z) : g 0 0 68 [(0, .ref this), (1, .int x1)] [.int s0] I X := by
  unfold b_X12_as_68 at h
  refine r_istore hg (L' := [(4, .int s0), (0, .ref this), (1, .int x1)]) dX12_as_68 (by decide) rfl ?_
  refine r_iload hg 0 dX12_as_70 rfl ?_
  refine r_if_eq hg 90 dX12_as_72 (by decide) (fun c1 => ?_) (fun c1 => ?_)
  · rw [if_pos c1] at h
    refine r_ldcw hg dX12_as_90 kc_X12_356 ?_
    exact r_ireturn hr dX12_as_93 ⟨Nat.zero_le _, Nat.zero_le _⟩ ⟨_, rfl, rfl⟩ (by cases h; rfl)
  · rw [if_neg c1] at h
    refine r_aload_n hg 1 dX12_as_75 rfl rfl ?_
    have e2 := ly_12_0 hX k_this
    refine r_getR hg dX12_as_76 fl_X12_7 k_this rfl e2.1 ?_
    refine r_aload_n hg 1 dX12_as_79 rfl rfl ?_
    refine r_iload_n hg 2 dX12_as_80 rfl rfl ?_
    obtain ⟨v3, e4, h⟩ := q_b1_some h
    refine r_cV1i hg dX12_as_81 mt_X12_dueAt ml_X12_75 mv_X12_dueAt k_this (s_X12_dueAt hΓ hX k_this e4) (q_room (Nat.le_of_ble_eq_true rfl) (Nat.le_of_ble_eq_true rfl)) ⟨Nat.zero_le _, Nat.zero_le _⟩ (Nat.le_of_ble_eq_true rfl) ?_
    refine r_iconst hg dX12_as_84 ci_2 ?_
    refine r_iadd hg dX12_as_85 ?_
    obtain ⟨v5, e6, h⟩ := q_b1_some h
    refine r_iald hg dX12_as_86 e2.2 e6 ?_
    refine r_goto hg 93 dX12_as_87 (by decide) ?_
    exact r_ireturn hr dX12_as_93 ⟨Nat.zero_le _, Nat.zero_le _⟩ ⟨_, rfl, rfl⟩ (by cases h; rfl)
def b_X12_as_63 (this : Nat) (x1 : Int32) (x2 : Int32) (I : qI) : Option (Int32) :=
  b_X12_as_68 this x1 x2 I (nI 1)
set_option maxRecDepth 100000 in
set_option maxHeartbeats 4000000 in
theorem p_X12_as_63 {l : Launch} {Γ : qC} {g : qG} {z : Int32} {this : Nat} {x1 : Int32} {x2 : Int32} {X : qX} {I : qI} (hΓ : q_gm Γ) (hg : q_Ok l Γ RX12 cX12_as 5 (q_rm 4 0 0) "as" (some .int) g) (hr : q_Rt cX12_as (some .int) (q_rm 4 0 0) (some (.int z), I, X) g) (hX : q_Lay X) (k_this : q_kd X this = some (14, 42)) (h : b_X12_as_63 this x1 x2 I = some z) : g 0 0 63 [(0, .ref this), (1, .int x1)] [] I X := by
  unfold b_X12_as_63 at h
  refine r_iconst hg dX12_as_63 ci_1 ?_
  refine r_goto hg 68 dX12_as_64 (by decide) ?_
  exact p_X12_as_68 hΓ hg hr hX k_this _ h
def b_X12_as_67 (this : Nat) (x1 : Int32) (x2 : Int32) (I : qI) : Option (Int32) :=
  b_X12_as_68 this x1 x2 I (nI 0)
set_option maxRecDepth 100000 in
set_option maxHeartbeats 4000000 in
theorem p_X12_as_67 {l : Launch} {Γ : qC} {g : qG} {z : Int32} {this : Nat} {x1 : Int32} {x2 : Int32} {X : qX} {I : qI} (hΓ : q_gm Γ) (hg : q_Ok l Γ RX12 cX12_as 5 (q_rm 4 0 0) "as" (some .int) g) (hr : q_Rt cX12_as (some .int) (q_rm 4 0 0) (some (.int z), I, X) g) (hX : q_Lay X) (k_this : q_kd X this = some (14, 42)) (h : b_X12_as_67 this x1 x2 I = some z) : g 0 0 67 [(0, .ref this), (1, .int x1)] [] I X := by
  unfold b_X12_as_67 at h
  refine r_iconst hg dX12_as_67 ci_0 ?_
  exact p_X12_as_68 hΓ hg hr hX k_this _ h
def b_X12_as_53 (this : Nat) (x1 : Int32) (x2 : Int32) (I : qI) (x3 : Int32) : Option (Int32) :=
  if x2 = (nI 2) then
    if x3 = (nI 3) then
      b_X12_as_63 this x1 x2 I 
    else
      b_X12_as_67 this x1 x2 I 
  else
    b_X12_as_67 this x1 x2 I 
set_option maxRecDepth 100000 in
set_option maxHeartbeats 4000000 in
theorem p_X12_as_53 {l : Launch} {Γ : qC} {g : qG} {z : Int32} {this : Nat} {x1 : Int32} {x2 : Int32} {X : qX} {I : qI} (hΓ : q_gm Γ) (hg : q_Ok l Γ RX12 cX12_as 5 (q_rm 4 0 0) "as" (some .int) g) (hr : q_Rt cX12_as (some .int) (q_rm 4 0 0) (some (.int z), I, X) g) (hX : q_Lay X) (k_this : q_kd X this = some (14, 42)) (x3 : Int32) (h : b_X12_as_53 this x1 x2 I x3 = some z) : g 0 0 53 [(0, .ref this), (1, .int x1), (2, .int x2), (3, .int x3)] [] I X := by
  unfold b_X12_as_53 at h
  refine r_iload_n hg 2 dX12_as_53 rfl rfl ?_
  refine r_iconst hg dX12_as_54 ci_2 ?_
  refine r_icmp_ne hg 67 dX12_as_55 (by decide) (fun c1 => ?_) (fun c1 => ?_)
  · rw [if_neg c1] at h
    refine r_sub hg [0, 1] rfl ?_
    exact p_X12_as_67 hΓ hg hr hX k_this  h
  · rw [if_pos (Classical.not_not.mp c1)] at h
    refine r_iload_n hg 3 dX12_as_58 rfl rfl ?_
    refine r_iconst hg dX12_as_59 ci_3 ?_
    refine r_icmp_ne hg 67 dX12_as_60 (by decide) (fun c2 => ?_) (fun c2 => ?_)
    · rw [if_neg c2] at h
      refine r_sub hg [0, 1] rfl ?_
      exact p_X12_as_67 hΓ hg hr hX k_this  h
    · rw [if_pos (Classical.not_not.mp c2)] at h
      refine r_sub hg [0, 1] rfl ?_
      exact p_X12_as_63 hΓ hg hr hX k_this  h
def f_X12_as (this : Nat) (x1 : Int32) (x2 : Int32) (I : qI) : Option (Int32) :=
  q_b1 (f_X12_isDue this x1 I) fun v1 =>
  if v1 = 0 then
    some ((-1000000001))
  else
    q_b1 (f_X12_isIn x2.toInt64 (0 : Int64) (6 : Int64)) fun v4 =>
    if v4 = 0 then
      some ((-1000000001))
    else
      q_b1 (f_X12_dueAt this x1) fun v8 =>
      q_b1 (q_rd I (this + 1) 3580 v8) fun v10 =>
      if x2 = 0 then
        b_X12_as_63 this x1 x2 I 
      else
        if x2 = v10 then
          b_X12_as_63 this x1 x2 I 
        else
          if x2 = (nI 1) then
            if v10 ≤ (nI 3) then
              b_X12_as_63 this x1 x2 I 
            else
              b_X12_as_53 this x1 x2 I v10
          else
            b_X12_as_53 this x1 x2 I v10
set_option maxRecDepth 100000 in
set_option maxHeartbeats 4000000 in
theorem s_X12_as {l : Launch} {Γ : qC} (hΓ : q_gm Γ) {X : qX} (hX : q_Lay X) {this : Nat} {x1 : Int32} {x2 : Int32} (k_this : q_kd X this = some (14, 42)) {I : qI} {z : Int32} (h : f_X12_as this x1 x2 I = some z) : q_Sem l Γ (q_rm 4 0 0) yX12_as cX12_as 5 (some .int) [.ref this, .int x1, .int x2] I X (some (.int z), I, X) := by
  refine q_met (by decide) (Nat.le_of_ble_eq_true rfl) (fun g hg hr => ?_)
  unfold f_X12_as at h
  show g 0 0 0 [(0, .ref this), (1, .int x1), (2, .int x2)] [] I X
  refine r_aload_n hg 0 dX12_as_0 rfl rfl ?_
  refine r_iload_n hg 1 dX12_as_1 rfl rfl ?_
  obtain ⟨v1, e2, h⟩ := q_b1_some h
  refine r_cV1i hg dX12_as_2 mt_X12_isDue ml_X12_353 mv_X12_isDue k_this (s_X12_isDue hΓ hX k_this e2) (q_room (Nat.le_of_ble_eq_true rfl) (Nat.le_of_ble_eq_true rfl)) ⟨Nat.zero_le _, Nat.zero_le _⟩ (Nat.le_of_ble_eq_true rfl) ?_
  refine r_if_eq hg 20 dX12_as_5 (by decide) (fun c3 => ?_) (fun c3 => ?_)
  · rw [if_pos c3] at h
    refine r_ldc hg dX12_as_20 kc_X12_90 ?_
    exact r_ireturn hr dX12_as_22 ⟨Nat.zero_le _, Nat.zero_le _⟩ ⟨_, rfl, rfl⟩ (by cases h; rfl)
  · rw [if_neg c3] at h
    refine r_iload_n hg 2 dX12_as_8 rfl rfl ?_
    refine r_i2l hg dX12_as_9 ?_
    refine r_lconst hg dX12_as_10 lc_0 ?_
    refine r_ldc2 hg dX12_as_11 kl_X12_311 ?_
    obtain ⟨v4, e5, h⟩ := q_b1_some h
    refine r_cS3i hg dX12_as_14 mt_X12_isIn ⟨ml_X12_64, mst_X12_isIn⟩ (s_X12_isIn hΓ hX e5) (q_room (Nat.le_of_ble_eq_true rfl) (Nat.le_of_ble_eq_true rfl)) ⟨Nat.zero_le _, Nat.zero_le _⟩ (Nat.le_of_ble_eq_true rfl) ?_
    refine r_if_ne hg 23 dX12_as_17 (by decide) (fun c6 => ?_) (fun c6 => ?_)
    · rw [if_neg c6] at h
      refine r_aload_n hg 0 dX12_as_23 rfl rfl ?_
      have e7 := ly_12_0 hX k_this
      refine r_getR hg dX12_as_24 fl_X12_7 k_this rfl e7.1 ?_
      refine r_aload_n hg 0 dX12_as_27 rfl rfl ?_
      refine r_iload_n hg 1 dX12_as_28 rfl rfl ?_
      obtain ⟨v8, e9, h⟩ := q_b1_some h
      refine r_cV1i hg dX12_as_29 mt_X12_dueAt ml_X12_75 mv_X12_dueAt k_this (s_X12_dueAt hΓ hX k_this e9) (q_room (Nat.le_of_ble_eq_true rfl) (Nat.le_of_ble_eq_true rfl)) ⟨Nat.zero_le _, Nat.zero_le _⟩ (Nat.le_of_ble_eq_true rfl) ?_
      obtain ⟨v10, e11, h⟩ := q_b1_some h
      refine r_iald hg dX12_as_32 e7.2 e11 ?_
      refine r_istore_n hg (L' := [(3, .int v10), (0, .ref this), (1, .int x1), (2, .int x2)]) dX12_as_33 rfl (by decide) rfl ?_
      refine r_iload_n hg 3 dX12_as_34 rfl rfl ?_
      refine r_if_eq hg 63 dX12_as_35 (by decide) (fun c12 => ?_) (fun c12 => ?_)
      · rw [if_pos c12] at h
        refine r_sub hg [1, 2] rfl ?_
        exact p_X12_as_63 hΓ hg hr hX k_this  h
      · rw [if_neg c12] at h
        refine r_iload_n hg 3 dX12_as_38 rfl rfl ?_
        refine r_iload_n hg 0 dX12_as_39 rfl rfl ?_
        refine r_icmp_eq hg 63 dX12_as_40 (by decide) (fun c13 => ?_) (fun c13 => ?_)
        · rw [if_pos c13] at h
          refine r_sub hg [1, 2] rfl ?_
          exact p_X12_as_63 hΓ hg hr hX k_this  h
        · rw [if_neg c13] at h
          refine r_iload_n hg 3 dX12_as_43 rfl rfl ?_
          refine r_iconst hg dX12_as_44 ci_1 ?_
          refine r_icmp_ne hg 53 dX12_as_45 (by decide) (fun c14 => ?_) (fun c14 => ?_)
          · rw [if_neg c14] at h
            refine r_sub hg [1, 2, 3, 0] rfl ?_
            exact p_X12_as_53 hΓ hg hr hX k_this _ h
          · rw [if_pos (Classical.not_not.mp c14)] at h
            refine r_iload_n hg 0 dX12_as_48 rfl rfl ?_
            refine r_iconst hg dX12_as_49 ci_3 ?_
            refine r_icmp_le hg 63 dX12_as_50 (by decide) (fun c15 => ?_) (fun c15 => ?_)
            · rw [if_pos c15] at h
              refine r_sub hg [1, 2] rfl ?_
              exact p_X12_as_63 hΓ hg hr hX k_this  h
            · rw [if_neg c15] at h
              refine r_sub hg [1, 2, 3, 0] rfl ?_
              exact p_X12_as_53 hΓ hg hr hX k_this _ h
    · rw [if_pos (Classical.not_not.mp c6)] at h
      refine r_ldc hg dX12_as_20 kc_X12_90 ?_
      exact r_ireturn hr dX12_as_22 ⟨Nat.zero_le _, Nat.zero_le _⟩ ⟨_, rfl, rfl⟩ (by cases h; rfl)

def f_X12_at (this : Nat) (x1 : Int32) (x2 : Int32) (I : qI) : Option (Int32 × qI) :=
  q_b1 (f_X12_isIn x1.toInt64 (1 : Int64) (7 : Int64)) fun v1 =>
  if v1 = 0 then
    some ((-1000000001), I)
  else
    q_b1 (f_X12_isIn x2.toInt64 (0 : Int64) ((x1 - (nI 1)).toInt64)) fun v4 =>
    if v4 = 0 then
      some ((-1000000001), I)
    else
      q_b2 (f_X12_findRound this x1 I) fun v7 I8 =>
      some ((((I8 this 30) >>> (((nI 2) * ((x1 - (nI 1)) - x2)) &&& 31)) &&& (nI 3)), I8)
set_option maxRecDepth 100000 in
set_option maxHeartbeats 4000000 in
theorem s_X12_at {l : Launch} {Γ : qC} (hΓ : q_gm Γ) {X : qX} (hX : q_Lay X) {this : Nat} {x1 : Int32} {x2 : Int32} (k_this : q_kd X this = some (14, 42)) {I : qI} {z : Int32 × qI} (h : f_X12_at this x1 x2 I = some z) : q_Sem l Γ (q_rm 4 0 0) yX12_at cX12_at 4 (some .int) [.ref this, .int x1, .int x2] I X (some (.int z.1), z.2, X) := by
  refine q_met (by decide) (Nat.le_of_ble_eq_true rfl) (fun g hg hr => ?_)
  unfold f_X12_at at h
  show g 0 0 0 [(0, .ref this), (1, .int x1), (2, .int x2)] [] I X
  refine r_iload_n hg 1 dX12_at_0 rfl rfl ?_
  refine r_i2l hg dX12_at_1 ?_
  refine r_lconst hg dX12_at_2 lc_1 ?_
  refine r_ldc2 hg dX12_at_3 kl_X12_62 ?_
  obtain ⟨v1, e2, h⟩ := q_b1_some h
  refine r_cS3i hg dX12_at_6 mt_X12_isIn ⟨ml_X12_64, mst_X12_isIn⟩ (s_X12_isIn hΓ hX e2) (q_room (Nat.le_of_ble_eq_true rfl) (Nat.le_of_ble_eq_true rfl)) ⟨Nat.zero_le _, Nat.zero_le _⟩ (Nat.le_of_ble_eq_true rfl) ?_
  refine r_if_eq hg 25 dX12_at_9 (by decide) (fun c3 => ?_) (fun c3 => ?_)
  · rw [if_pos c3] at h
    refine r_ldc hg dX12_at_25 kc_X12_90 ?_
    exact r_ireturn hr dX12_at_27 ⟨Nat.zero_le _, Nat.zero_le _⟩ ⟨_, rfl, rfl⟩ (by cases h; rfl)
  · rw [if_neg c3] at h
    refine r_iload_n hg 2 dX12_at_12 rfl rfl ?_
    refine r_i2l hg dX12_at_13 ?_
    refine r_lconst hg dX12_at_14 lc_0 ?_
    refine r_iload_n hg 1 dX12_at_15 rfl rfl ?_
    refine r_iconst hg dX12_at_16 ci_1 ?_
    refine r_isub hg dX12_at_17 ?_
    refine r_i2l hg dX12_at_18 ?_
    obtain ⟨v4, e5, h⟩ := q_b1_some h
    refine r_cS3i hg dX12_at_19 mt_X12_isIn ⟨ml_X12_64, mst_X12_isIn⟩ (s_X12_isIn hΓ hX e5) (q_room (Nat.le_of_ble_eq_true rfl) (Nat.le_of_ble_eq_true rfl)) ⟨Nat.zero_le _, Nat.zero_le _⟩ (Nat.le_of_ble_eq_true rfl) ?_
    refine r_if_ne hg 28 dX12_at_22 (by decide) (fun c6 => ?_) (fun c6 => ?_)
    · rw [if_neg c6] at h
      refine r_aload_n hg 0 dX12_at_28 rfl rfl ?_
      refine r_iload_n hg 1 dX12_at_29 rfl rfl ?_
      obtain ⟨v7, I8, e9, h⟩ := q_b2_some h
      refine r_cV1i hg dX12_at_30 mt_X12_findRound ml_X12_398 mv_X12_findRound k_this (s_X12_findRound hΓ hX k_this e9) (q_room (Nat.le_of_ble_eq_true rfl) (Nat.le_of_ble_eq_true rfl)) ⟨Nat.zero_le _, Nat.zero_le _⟩ (Nat.le_of_ble_eq_true rfl) ?_
      refine r_istore_n hg (L' := [(3, .int v7), (0, .ref this), (1, .int x1), (2, .int x2)]) dX12_at_33 rfl (by decide) rfl ?_
      refine r_aload_n hg 1 dX12_at_34 rfl rfl ?_
      refine r_getI hg dX12_at_35 fl_X12_395 k_this rfl ?_
      refine r_iconst hg dX12_at_38 ci_2 ?_
      refine r_iload_n hg 2 dX12_at_39 rfl rfl ?_
      refine r_iconst hg dX12_at_40 ci_1 ?_
      refine r_isub hg dX12_at_41 ?_
      refine r_iload_n hg 3 dX12_at_42 rfl rfl ?_
      refine r_isub hg dX12_at_43 ?_
      refine r_imul hg dX12_at_44 ?_
      refine r_ishr hg dX12_at_45 ?_
      refine r_iconst hg dX12_at_46 ci_3 ?_
      refine r_iand hg dX12_at_47 ?_
      exact r_ireturn hr dX12_at_48 ⟨Nat.zero_le _, Nat.zero_le _⟩ ⟨_, rfl, rfl⟩ (by cases h; rfl)
    · rw [if_pos (Classical.not_not.mp c6)] at h
      refine r_ldc hg dX12_at_25 kc_X12_90 ?_
      exact r_ireturn hr dX12_at_27 ⟨Nat.zero_le _, Nat.zero_le _⟩ ⟨_, rfl, rfl⟩ (by cases h; rfl)

def b_X12_be_76 (this : Nat) (x1 : Int32) (x2 : Int32) (x3 : Int32) (s0 : Int32) (I : qI) : Option (Int32 × qI) :=
  q_b1 (f_X12_isMan this x1 I) fun v1 =>
  if v1 = 0 then
    some ((-1000000001), I)
  else
    if s0 = 0 then
      some ((-1000000001), I)
    else
      q_b1 (f_X12_manAt this x1) fun v5 =>
      q_b2 (f_X12_becomes this (v5 + x2) x3 I) fun v7 I8 =>
      some (v7, I8)
set_option maxRecDepth 100000 in
set_option maxHeartbeats 4000000 in
theorem p_X12_be_76 {l : Launch} {Γ : qC} {g : qG} {z : Int32 × qI} {this : Nat} {x1 : Int32} {x2 : Int32} {x3 : Int32} {X : qX} (hΓ : q_gm Γ) (hg : q_Ok l Γ RX12 cX12_be 5 (q_rm 4 0 0) "be" (some .int) g) (hr : q_Rt cX12_be (some .int) (q_rm 4 0 0) (some (.int z.1), z.2, X) g) (hX : q_Lay X) (k_this : q_kd X this = some (14, 42)) (s0 : Int32) (I : qI) (h : b_X12_be_76 this x1 x2 x3 s0 I = some z) : g 0 0 76 [(0, .ref this), (1, .int x1), (2, .int x2), (3, .int x3)] [.int s0] I X := by
  unfold b_X12_be_76 at h
  refine r_istore hg (L' := [(4, .int s0), (0, .ref this), (1, .int x1), (2, .int x2), (3, .int x3)]) dX12_be_76 (by decide) rfl ?_
  refine r_aload_n hg 1 dX12_be_78 rfl rfl ?_
  refine r_iload_n hg 2 dX12_be_79 rfl rfl ?_
  obtain ⟨v1, e2, h⟩ := q_b1_some h
  refine r_cV1i hg dX12_be_80 mt_X12_isMan ml_X12_110 mv_X12_isMan k_this (s_X12_isMan hΓ hX k_this e2) (q_room (Nat.le_of_ble_eq_true rfl) (Nat.le_of_ble_eq_true rfl)) ⟨Nat.zero_le _, Nat.zero_le _⟩ (Nat.le_of_ble_eq_true rfl) ?_
  refine r_if_eq hg 106 dX12_be_83 (by decide) (fun c3 => ?_) (fun c3 => ?_)
  · rw [if_pos c3] at h
    refine r_ldc hg dX12_be_106 kc_X12_90 ?_
    exact r_ireturn hr dX12_be_108 ⟨Nat.zero_le _, Nat.zero_le _⟩ ⟨_, rfl, rfl⟩ (by cases h; rfl)
  · rw [if_neg c3] at h
    refine r_iload hg 0 dX12_be_86 rfl ?_
    refine r_if_eq hg 106 dX12_be_88 (by decide) (fun c4 => ?_) (fun c4 => ?_)
    · rw [if_pos c4] at h
      refine r_ldc hg dX12_be_106 kc_X12_90 ?_
      exact r_ireturn hr dX12_be_108 ⟨Nat.zero_le _, Nat.zero_le _⟩ ⟨_, rfl, rfl⟩ (by cases h; rfl)
    · rw [if_neg c4] at h
      refine r_aload_n hg 1 dX12_be_91 rfl rfl ?_
      refine r_aload_n hg 1 dX12_be_92 rfl rfl ?_
      refine r_iload_n hg 2 dX12_be_93 rfl rfl ?_
      obtain ⟨v5, e6, h⟩ := q_b1_some h
      refine r_cV1i hg dX12_be_94 mt_X12_manAt ml_X12_68 mv_X12_manAt k_this (s_X12_manAt hΓ hX k_this e6) (q_room (Nat.le_of_ble_eq_true rfl) (Nat.le_of_ble_eq_true rfl)) ⟨Nat.zero_le _, Nat.zero_le _⟩ (Nat.le_of_ble_eq_true rfl) ?_
      refine r_iload_n hg 3 dX12_be_97 rfl rfl ?_
      refine r_iadd hg dX12_be_98 ?_
      refine r_iload_n hg 4 dX12_be_99 rfl rfl ?_
      obtain ⟨v7, I8, e9, h⟩ := q_b2_some h
      refine r_cV2i hg dX12_be_100 mt_X12_becomes ml_X12_86 mv_X12_becomes k_this (s_X12_becomes hΓ hX k_this e9) (q_room (Nat.le_of_ble_eq_true rfl) (Nat.le_of_ble_eq_true rfl)) ⟨Nat.zero_le _, Nat.zero_le _⟩ (Nat.le_of_ble_eq_true rfl) ?_
      refine r_goto hg 108 dX12_be_103 (by decide) ?_
      exact r_ireturn hr dX12_be_108 ⟨Nat.zero_le _, Nat.zero_le _⟩ ⟨_, rfl, rfl⟩ (by cases h; rfl)
def b_X12_be_75 (this : Nat) (x1 : Int32) (x2 : Int32) (x3 : Int32) (I : qI) : Option (Int32 × qI) :=
  b_X12_be_76 this x1 x2 x3 (nI 0) I
set_option maxRecDepth 100000 in
set_option maxHeartbeats 4000000 in
theorem p_X12_be_75 {l : Launch} {Γ : qC} {g : qG} {z : Int32 × qI} {this : Nat} {x1 : Int32} {x2 : Int32} {x3 : Int32} {X : qX} (hΓ : q_gm Γ) (hg : q_Ok l Γ RX12 cX12_be 5 (q_rm 4 0 0) "be" (some .int) g) (hr : q_Rt cX12_be (some .int) (q_rm 4 0 0) (some (.int z.1), z.2, X) g) (hX : q_Lay X) (k_this : q_kd X this = some (14, 42)) (I : qI) (h : b_X12_be_75 this x1 x2 x3 I = some z) : g 0 0 75 [(0, .ref this), (1, .int x1), (2, .int x2), (3, .int x3)] [] I X := by
  unfold b_X12_be_75 at h
  refine r_iconst hg dX12_be_75 ci_0 ?_
  exact p_X12_be_76 hΓ hg hr hX k_this _ _ h
def f_X12_be (this : Nat) (x1 : Int32) (x2 : Int32) (x3 : Int32) (I : qI) : Option (Int32 × qI) :=
  if x2 = 0 then
    q_b1 (f_X12_isPit x3) fun v14 =>
    b_X12_be_76 this x1 x2 x3 v14 I
  else
    if x2 = (nI 1) then
      q_b1 (f_X12_isIn x3.toInt64 (0 : Int64) (9 : Int64)) fun v12 =>
      b_X12_be_76 this x1 x2 x3 v12 I
    else
      if x2 = (nI 2) then
        q_b1 (f_X12_isIn x3.toInt64 (1 : Int64) (9 : Int64)) fun v10 =>
        b_X12_be_76 this x1 x2 x3 v10 I
      else
        q_b1 (f_X12_isIn x2.toInt64 (3 : Int64) (5 : Int64)) fun v4 =>
        if v4 = 0 then
          b_X12_be_75 this x1 x2 x3 I
        else
          q_b1 (f_X12_isIn x3.toInt64 (0 : Int64) (99999 : Int64)) fun v7 =>
          if v7 = 0 then
            b_X12_be_75 this x1 x2 x3 I
          else
            b_X12_be_76 this x1 x2 x3 (nI 1) I
set_option maxRecDepth 100000 in
set_option maxHeartbeats 4000000 in
theorem s_X12_be {l : Launch} {Γ : qC} (hΓ : q_gm Γ) {X : qX} (hX : q_Lay X) {this : Nat} {x1 : Int32} {x2 : Int32} {x3 : Int32} (k_this : q_kd X this = some (14, 42)) {I : qI} {z : Int32 × qI} (h : f_X12_be this x1 x2 x3 I = some z) : q_Sem l Γ (q_rm 4 0 0) yX12_be cX12_be 5 (some .int) [.ref this, .int x1, .int x2, .int x3] I X (some (.int z.1), z.2, X) := by
  refine q_met (by decide) (Nat.le_of_ble_eq_true rfl) (fun g hg hr => ?_)
  unfold f_X12_be at h
  show g 0 0 0 [(0, .ref this), (1, .int x1), (2, .int x2), (3, .int x3)] [] I X
  refine r_iload_n hg 2 dX12_be_0 rfl rfl ?_
  refine r_if_ne hg 11 dX12_be_1 (by decide) (fun c1 => ?_) (fun c1 => ?_)
  · rw [if_neg c1] at h
    refine r_iload_n hg 2 dX12_be_11 rfl rfl ?_
    refine r_iconst hg dX12_be_12 ci_1 ?_
    refine r_icmp_ne hg 28 dX12_be_13 (by decide) (fun c2 => ?_) (fun c2 => ?_)
    · rw [if_neg c2] at h
      refine r_iload_n hg 2 dX12_be_28 rfl rfl ?_
      refine r_iconst hg dX12_be_29 ci_2 ?_
      refine r_icmp_ne hg 45 dX12_be_30 (by decide) (fun c3 => ?_) (fun c3 => ?_)
      · rw [if_neg c3] at h
        refine r_iload_n hg 2 dX12_be_45 rfl rfl ?_
        refine r_i2l hg dX12_be_46 ?_
        refine r_ldc2 hg dX12_be_47 kl_X12_102 ?_
        refine r_ldc2 hg dX12_be_50 kl_X12_91 ?_
        obtain ⟨v4, e5, h⟩ := q_b1_some h
        refine r_cS3i hg dX12_be_53 mt_X12_isIn ⟨ml_X12_64, mst_X12_isIn⟩ (s_X12_isIn hΓ hX e5) (q_room (Nat.le_of_ble_eq_true rfl) (Nat.le_of_ble_eq_true rfl)) ⟨Nat.zero_le _, Nat.zero_le _⟩ (Nat.le_of_ble_eq_true rfl) ?_
        refine r_if_eq hg 75 dX12_be_56 (by decide) (fun c6 => ?_) (fun c6 => ?_)
        · rw [if_pos c6] at h
          exact p_X12_be_75 hΓ hg hr hX k_this _ h
        · rw [if_neg c6] at h
          refine r_iload_n hg 3 dX12_be_59 rfl rfl ?_
          refine r_i2l hg dX12_be_60 ?_
          refine r_lconst hg dX12_be_61 lc_0 ?_
          refine r_ldc2 hg dX12_be_62 kl_X12_96 ?_
          obtain ⟨v7, e8, h⟩ := q_b1_some h
          refine r_cS3i hg dX12_be_65 mt_X12_isIn ⟨ml_X12_64, mst_X12_isIn⟩ (s_X12_isIn hΓ hX e8) (q_room (Nat.le_of_ble_eq_true rfl) (Nat.le_of_ble_eq_true rfl)) ⟨Nat.zero_le _, Nat.zero_le _⟩ (Nat.le_of_ble_eq_true rfl) ?_
          refine r_if_eq hg 75 dX12_be_68 (by decide) (fun c9 => ?_) (fun c9 => ?_)
          · rw [if_pos c9] at h
            exact p_X12_be_75 hΓ hg hr hX k_this _ h
          · rw [if_neg c9] at h
            refine r_iconst hg dX12_be_71 ci_1 ?_
            refine r_goto hg 76 dX12_be_72 (by decide) ?_
            exact p_X12_be_76 hΓ hg hr hX k_this _ _ h
      · rw [if_pos (Classical.not_not.mp c3)] at h
        refine r_iload_n hg 3 dX12_be_33 rfl rfl ?_
        refine r_i2l hg dX12_be_34 ?_
        refine r_lconst hg dX12_be_35 lc_1 ?_
        refine r_ldc2 hg dX12_be_36 kl_X12_104 ?_
        obtain ⟨v10, e11, h⟩ := q_b1_some h
        refine r_cS3i hg dX12_be_39 mt_X12_isIn ⟨ml_X12_64, mst_X12_isIn⟩ (s_X12_isIn hΓ hX e11) (q_room (Nat.le_of_ble_eq_true rfl) (Nat.le_of_ble_eq_true rfl)) ⟨Nat.zero_le _, Nat.zero_le _⟩ (Nat.le_of_ble_eq_true rfl) ?_
        refine r_goto hg 76 dX12_be_42 (by decide) ?_
        exact p_X12_be_76 hΓ hg hr hX k_this _ _ h
    · rw [if_pos (Classical.not_not.mp c2)] at h
      refine r_iload_n hg 3 dX12_be_16 rfl rfl ?_
      refine r_i2l hg dX12_be_17 ?_
      refine r_lconst hg dX12_be_18 lc_0 ?_
      refine r_ldc2 hg dX12_be_19 kl_X12_104 ?_
      obtain ⟨v12, e13, h⟩ := q_b1_some h
      refine r_cS3i hg dX12_be_22 mt_X12_isIn ⟨ml_X12_64, mst_X12_isIn⟩ (s_X12_isIn hΓ hX e13) (q_room (Nat.le_of_ble_eq_true rfl) (Nat.le_of_ble_eq_true rfl)) ⟨Nat.zero_le _, Nat.zero_le _⟩ (Nat.le_of_ble_eq_true rfl) ?_
      refine r_goto hg 76 dX12_be_25 (by decide) ?_
      exact p_X12_be_76 hΓ hg hr hX k_this _ _ h
  · rw [if_pos (Classical.not_not.mp c1)] at h
    refine r_iload_n hg 3 dX12_be_4 rfl rfl ?_
    obtain ⟨v14, e15, h⟩ := q_b1_some h
    refine r_cS1i hg dX12_be_5 mt_X12_isPit ⟨ml_X12_78, mst_X12_isPit⟩ (s_X12_isPit hΓ hX e15) (q_room (Nat.le_of_ble_eq_true rfl) (Nat.le_of_ble_eq_true rfl)) ⟨Nat.zero_le _, Nat.zero_le _⟩ (Nat.le_of_ble_eq_true rfl) ?_
    refine r_goto hg 76 dX12_be_8 (by decide) ?_
    exact p_X12_be_76 hΓ hg hr hX k_this _ _ h

def b_X12_book_69 (this : Nat) (x1 : Int32) (x2 : Int32) (x3 : Int32) (k69 : Int32 → qI → Option (Int32 × qI)) (x4 : Int32) (I : qI) : Option (Int32 × qI) :=
  if (nI 30) ≤ x4 then
    q_b1 (q_rd I (this + 5) 8 x1) fun v3 =>
    some (v3, I)
  else
    q_b1 (q_wr I (this + 6) 240 (((nI 30) * x1) + x4) (nI 0)) fun I6 =>
    k69 (x4 + (nI 1)) I6
set_option maxRecDepth 100000 in
set_option maxHeartbeats 4000000 in
theorem p_X12_book_69 {l : Launch} {Γ : qC} {g : qG} {z : Int32 × qI} {this : Nat} {x1 : Int32} {x2 : Int32} {x3 : Int32} {X : qX} (hΓ : q_gm Γ) (hg : q_Ok l Γ RX12 cX12_book 5 (q_rm 4 0 0) "book" (some .int) g) (hr : q_Rt cX12_book (some .int) (q_rm 4 0 0) (some (.int z.1), z.2, X) g) (hX : q_Lay X) (k_this : q_kd X this = some (14, 42)) {k69 : Int32 → qI → Option (Int32 × qI)} (hk69 : ∀ (x4 : Int32) (I : qI), k69 x4 I = some z → g 0 0 69 [(0, .ref this), (1, .int x1), (4, .int x4)] [] I X) (x4 : Int32) (I : qI) (h : b_X12_book_69 this x1 x2 x3 k69 x4 I = some z) : g 0 0 69 [(0, .ref this), (1, .int x1), (4, .int x4)] [] I X := by
  unfold b_X12_book_69 at h
  refine r_iload hg 2 dX12_book_69 rfl ?_
  refine r_bipush hg dX12_book_71 cb_30 ?_
  refine r_icmp_ge hg 95 dX12_book_73 (by decide) (fun c1 => ?_) (fun c1 => ?_)
  · rw [if_pos c1] at h
    refine r_aload_n hg 0 dX12_book_95 rfl rfl ?_
    have e2 := ly_12_5 hX k_this
    refine r_getR hg dX12_book_96 fl_X12_22 k_this rfl e2.1 ?_
    refine r_iload_n hg 1 dX12_book_99 rfl rfl ?_
    obtain ⟨v3, e4, h⟩ := q_b1_some h
    refine r_iald hg dX12_book_100 e2.2 e4 ?_
    exact r_ireturn hr dX12_book_101 ⟨Nat.zero_le _, Nat.zero_le _⟩ ⟨_, rfl, rfl⟩ (by cases h; rfl)
  · rw [if_neg c1] at h
    refine r_aload_n hg 0 dX12_book_76 rfl rfl ?_
    have e5 := ly_12_6 hX k_this
    refine r_getR hg dX12_book_77 fl_X12_25 k_this rfl e5.1 ?_
    refine r_bipush hg dX12_book_80 cb_30 ?_
    refine r_iload_n hg 1 dX12_book_82 rfl rfl ?_
    refine r_imul hg dX12_book_83 ?_
    refine r_iload hg 2 dX12_book_84 rfl ?_
    refine r_iadd hg dX12_book_86 ?_
    refine r_iconst hg dX12_book_87 ci_0 ?_
    obtain ⟨I6, e7, h⟩ := q_b1_some h
    refine r_iast hg dX12_book_88 e5.2 e7 ?_
    refine r_iinc hg 2 (v := (x4 + (nI 1))) (L' := [(4, .int (x4 + (nI 1))), (0, .ref this), (1, .int x1)]) dX12_book_89 rfl (by rw [ci_1]) (by decide) rfl ?_
    refine r_goto hg 69 dX12_book_92 (by decide) ?_
    refine r_sub hg [1, 2, 0] rfl ?_
    exact hk69 _ _ h
theorem pl_X12_book_69 {l : Launch} {Γ : qC} {g : qG} {z : Int32 × qI} {this : Nat} {x1 : Int32} {x2 : Int32} {x3 : Int32} {X : qX} (hΓ : q_gm Γ) (hg : q_Ok l Γ RX12 cX12_book 5 (q_rm 4 0 0) "book" (some .int) g) (hr : q_Rt cX12_book (some .int) (q_rm 4 0 0) (some (.int z.1), z.2, X) g) (hX : q_Lay X) (k_this : q_kd X this = some (14, 42)) : ∀ (n : Nat) (x4 : Int32) (I : qI), q_fix (fun _ _ => none) (b_X12_book_69 this x1 x2 x3) n x4 I = some z → g 0 0 69 [(0, .ref this), (1, .int x1), (4, .int x4)] [] I X := by
  intro n
  induction n with
  | zero =>
    intro x4 I h
    cases (show (none : Option (Int32 × qI)) = some z from h)
  | succ n ih =>
    intro x4 I h
    exact p_X12_book_69 hΓ hg hr hX k_this ih _ _ h
def b_X12_book_65 (this : Nat) (x1 : Int32) (x2 : Int32) (x3 : Int32) (s2 : Int32) (I : qI) : Option (Int32 × qI) :=
  q_b1 (q_wr I (this + 5) 8 x1 s2) fun I2 =>
  q_fix (fun _ _ => none) (b_X12_book_69 this x1 x2 x3) q_fu (nI 0) I2
set_option maxRecDepth 100000 in
set_option maxHeartbeats 4000000 in
theorem p_X12_book_65 {l : Launch} {Γ : qC} {g : qG} {z : Int32 × qI} {this : Nat} {x1 : Int32} {x2 : Int32} {x3 : Int32} {X : qX} (hΓ : q_gm Γ) (hg : q_Ok l Γ RX12 cX12_book 5 (q_rm 4 0 0) "book" (some .int) g) (hr : q_Rt cX12_book (some .int) (q_rm 4 0 0) (some (.int z.1), z.2, X) g) (hX : q_Lay X) (k_this : q_kd X this = some (14, 42)) (s2 : Int32) (I : qI) (h : b_X12_book_65 this x1 x2 x3 s2 I = some z) : g 0 0 65 [(0, .ref this), (1, .int x1)] [.int s2, .int x1, .ref (this + 5)] I X := by
  unfold b_X12_book_65 at h
  have e1 := ly_12_5 hX k_this
  obtain ⟨I2, e3, h⟩ := q_b1_some h
  refine r_iast hg dX12_book_65 e1.2 e3 ?_
  refine r_iconst hg dX12_book_66 ci_0 ?_
  refine r_istore hg (L' := [(4, .int (nI 0)), (0, .ref this), (1, .int x1)]) dX12_book_67 (by decide) rfl ?_
  refine r_sub hg [1, 2, 0] rfl ?_
  exact pl_X12_book_69 hΓ hg hr hX k_this _ _ _ h
def b_X12_book_44 (this : Nat) (x1 : Int32) (x2 : Int32) (x3 : Int32) (I : qI) : Option (Int32 × qI) :=
  q_b1 (q_wr I (this + 4) 8 x1 x2) fun I2 =>
  if 0 ≤ x2 then
    b_X12_book_65 this x1 x2 x3 x3 I2
  else
    b_X12_book_65 this x1 x2 x3 (nI 0) I2
set_option maxRecDepth 100000 in
set_option maxHeartbeats 4000000 in
theorem p_X12_book_44 {l : Launch} {Γ : qC} {g : qG} {z : Int32 × qI} {this : Nat} {x1 : Int32} {x2 : Int32} {x3 : Int32} {X : qX} (hΓ : q_gm Γ) (hg : q_Ok l Γ RX12 cX12_book 5 (q_rm 4 0 0) "book" (some .int) g) (hr : q_Rt cX12_book (some .int) (q_rm 4 0 0) (some (.int z.1), z.2, X) g) (hX : q_Lay X) (k_this : q_kd X this = some (14, 42)) (I : qI) (h : b_X12_book_44 this x1 x2 x3 I = some z) : g 0 0 44 [(0, .ref this), (1, .int x1), (2, .int x2), (3, .int x3)] [] I X := by
  unfold b_X12_book_44 at h
  refine r_aload_n hg 0 dX12_book_44 rfl rfl ?_
  have e1 := ly_12_4 hX k_this
  refine r_getR hg dX12_book_45 fl_X12_19 k_this rfl e1.1 ?_
  refine r_iload_n hg 1 dX12_book_48 rfl rfl ?_
  refine r_iload_n hg 2 dX12_book_49 rfl rfl ?_
  obtain ⟨I2, e3, h⟩ := q_b1_some h
  refine r_iast hg dX12_book_50 e1.2 e3 ?_
  refine r_aload_n hg 0 dX12_book_51 rfl rfl ?_
  have e4 := ly_12_5 hX k_this
  refine r_getR hg dX12_book_52 fl_X12_22 k_this rfl e4.1 ?_
  refine r_iload_n hg 1 dX12_book_55 rfl rfl ?_
  refine r_iload_n hg 2 dX12_book_56 rfl rfl ?_
  refine r_if_ge hg 64 dX12_book_57 (by decide) (fun c5 => ?_) (fun c5 => ?_)
  · rw [if_pos c5] at h
    refine r_iload_n hg 3 dX12_book_64 rfl rfl ?_
    refine r_sub hg [0, 1] rfl ?_
    exact p_X12_book_65 hΓ hg hr hX k_this _ _ h
  · rw [if_neg c5] at h
    refine r_iconst hg dX12_book_60 ci_0 ?_
    refine r_goto hg 65 dX12_book_61 (by decide) ?_
    refine r_sub hg [0, 1] rfl ?_
    exact p_X12_book_65 hΓ hg hr hX k_this _ _ h
def b_X12_book_32 (this : Nat) (x1 : Int32) (x2 : Int32) (x3 : Int32) (I : qI) : Option (Int32 × qI) :=
  if x2 < 0 then
    b_X12_book_44 this x1 x2 x3 I
  else
    if 0 ≤ x3 then
      b_X12_book_44 this x1 x2 x3 I
    else
      some ((-1000000014), I)
set_option maxRecDepth 100000 in
set_option maxHeartbeats 4000000 in
theorem p_X12_book_32 {l : Launch} {Γ : qC} {g : qG} {z : Int32 × qI} {this : Nat} {x1 : Int32} {x2 : Int32} {x3 : Int32} {X : qX} (hΓ : q_gm Γ) (hg : q_Ok l Γ RX12 cX12_book 5 (q_rm 4 0 0) "book" (some .int) g) (hr : q_Rt cX12_book (some .int) (q_rm 4 0 0) (some (.int z.1), z.2, X) g) (hX : q_Lay X) (k_this : q_kd X this = some (14, 42)) (I : qI) (h : b_X12_book_32 this x1 x2 x3 I = some z) : g 0 0 32 [(0, .ref this), (1, .int x1), (2, .int x2), (3, .int x3)] [] I X := by
  unfold b_X12_book_32 at h
  refine r_iload_n hg 2 dX12_book_32 rfl rfl ?_
  refine r_if_lt hg 44 dX12_book_33 (by decide) (fun c1 => ?_) (fun c1 => ?_)
  · rw [if_pos c1] at h
    exact p_X12_book_44 hΓ hg hr hX k_this _ h
  · rw [if_neg c1] at h
    refine r_iload_n hg 3 dX12_book_36 rfl rfl ?_
    refine r_if_ge hg 44 dX12_book_37 (by decide) (fun c2 => ?_) (fun c2 => ?_)
    · rw [if_pos c2] at h
      exact p_X12_book_44 hΓ hg hr hX k_this _ h
    · rw [if_neg c2] at h
      refine r_ldcw hg dX12_book_40 kc_X12_377 ?_
      exact r_ireturn hr dX12_book_43 ⟨Nat.zero_le _, Nat.zero_le _⟩ ⟨_, rfl, rfl⟩ (by cases h; rfl)
def f_X12_book (this : Nat) (x1 : Int32) (x2 : Int32) (x3 : Int32) (I : qI) : Option (Int32 × qI) :=
  q_b1 (f_X12_isPit x1) fun v1 =>
  if v1 = 0 then
    some ((-1000000001), I)
  else
    q_b1 (f_X12_isIn x2.toInt64 (-1 : Int64) (1 : Int64)) fun v4 =>
    if v4 = 0 then
      some ((-1000000001), I)
    else
      if x2 < 0 then
        b_X12_book_32 this x1 x2 x3 I
      else
        if x3 ≤ (nI 30) then
          b_X12_book_32 this x1 x2 x3 I
        else
          some ((-1000000001), I)
set_option maxRecDepth 100000 in
set_option maxHeartbeats 4000000 in
theorem s_X12_book {l : Launch} {Γ : qC} (hΓ : q_gm Γ) {X : qX} (hX : q_Lay X) {this : Nat} {x1 : Int32} {x2 : Int32} {x3 : Int32} (k_this : q_kd X this = some (14, 42)) {I : qI} {z : Int32 × qI} (h : f_X12_book this x1 x2 x3 I = some z) : q_Sem l Γ (q_rm 4 0 0) yX12_book cX12_book 5 (some .int) [.ref this, .int x1, .int x2, .int x3] I X (some (.int z.1), z.2, X) := by
  refine q_met (by decide) (Nat.le_of_ble_eq_true rfl) (fun g hg hr => ?_)
  unfold f_X12_book at h
  show g 0 0 0 [(0, .ref this), (1, .int x1), (2, .int x2), (3, .int x3)] [] I X
  refine r_iload_n hg 1 dX12_book_0 rfl rfl ?_
  obtain ⟨v1, e2, h⟩ := q_b1_some h
  refine r_cS1i hg dX12_book_1 mt_X12_isPit ⟨ml_X12_78, mst_X12_isPit⟩ (s_X12_isPit hΓ hX e2) (q_room (Nat.le_of_ble_eq_true rfl) (Nat.le_of_ble_eq_true rfl)) ⟨Nat.zero_le _, Nat.zero_le _⟩ (Nat.le_of_ble_eq_true rfl) ?_
  refine r_if_eq hg 29 dX12_book_4 (by decide) (fun c3 => ?_) (fun c3 => ?_)
  · rw [if_pos c3] at h
    refine r_ldc hg dX12_book_29 kc_X12_90 ?_
    exact r_ireturn hr dX12_book_31 ⟨Nat.zero_le _, Nat.zero_le _⟩ ⟨_, rfl, rfl⟩ (by cases h; rfl)
  · rw [if_neg c3] at h
    refine r_iload_n hg 2 dX12_book_7 rfl rfl ?_
    refine r_i2l hg dX12_book_8 ?_
    refine r_ldc2 hg dX12_book_9 kl_X12_375 ?_
    refine r_lconst hg dX12_book_12 lc_1 ?_
    obtain ⟨v4, e5, h⟩ := q_b1_some h
    refine r_cS3i hg dX12_book_13 mt_X12_isIn ⟨ml_X12_64, mst_X12_isIn⟩ (s_X12_isIn hΓ hX e5) (q_room (Nat.le_of_ble_eq_true rfl) (Nat.le_of_ble_eq_true rfl)) ⟨Nat.zero_le _, Nat.zero_le _⟩ (Nat.le_of_ble_eq_true rfl) ?_
    refine r_if_eq hg 29 dX12_book_16 (by decide) (fun c6 => ?_) (fun c6 => ?_)
    · rw [if_pos c6] at h
      refine r_ldc hg dX12_book_29 kc_X12_90 ?_
      exact r_ireturn hr dX12_book_31 ⟨Nat.zero_le _, Nat.zero_le _⟩ ⟨_, rfl, rfl⟩ (by cases h; rfl)
    · rw [if_neg c6] at h
      refine r_iload_n hg 2 dX12_book_19 rfl rfl ?_
      refine r_if_lt hg 32 dX12_book_20 (by decide) (fun c7 => ?_) (fun c7 => ?_)
      · rw [if_pos c7] at h
        exact p_X12_book_32 hΓ hg hr hX k_this _ h
      · rw [if_neg c7] at h
        refine r_iload_n hg 3 dX12_book_23 rfl rfl ?_
        refine r_bipush hg dX12_book_24 cb_30 ?_
        refine r_icmp_le hg 32 dX12_book_26 (by decide) (fun c8 => ?_) (fun c8 => ?_)
        · rw [if_pos c8] at h
          exact p_X12_book_32 hΓ hg hr hX k_this _ h
        · rw [if_neg c8] at h
          refine r_ldc hg dX12_book_29 kc_X12_90 ?_
          exact r_ireturn hr dX12_book_31 ⟨Nat.zero_le _, Nat.zero_le _⟩ ⟨_, rfl, rfl⟩ (by cases h; rfl)

def b_X12_bound_163 (this : Nat) (x1 : Int32) (x2 : Int32) (x3 : Int32) (I : qI) (k89 : Int32 → Int64 → Int32 → Option (Int32)) (x4 : Int32) (x7 : Int32) (s0 : Int64) : Option (Int32) :=
  if (lg_cmp s0 (0 : Int64)) = 0 then
    some (x7)
  else
    k89 x4 s0 (x7 + (nI 1))
set_option maxRecDepth 100000 in
set_option maxHeartbeats 4000000 in
theorem p_X12_bound_163 {l : Launch} {Γ : qC} {g : qG} {z : Int32} {this : Nat} {x1 : Int32} {x2 : Int32} {x3 : Int32} {X : qX} {I : qI} (hΓ : q_gm Γ) (hg : q_Ok l Γ RX12 cX12_bound 8 (q_rm 4 0 0) "bound" (some .int) g) (hr : q_Rt cX12_bound (some .int) (q_rm 4 0 0) (some (.int z), I, X) g) (hX : q_Lay X) (k_this : q_kd X this = some (14, 42)) {k89 : Int32 → Int64 → Int32 → Option (Int32)} (hk89 : ∀ (x4 : Int32) (x5 : Int64) (x7 : Int32), k89 x4 x5 x7 = some z → g 0 0 89 [(0, .ref this), (1, .int x1), (2, .int x2), (3, .int x3), (4, .int x4), (5, .long x5), (7, .int x7)] [] I X) (x4 : Int32) (x7 : Int32) (s0 : Int64) (h : b_X12_bound_163 this x1 x2 x3 I k89 x4 x7 s0 = some z) : g 0 0 163 [(0, .ref this), (1, .int x1), (2, .int x2), (3, .int x3), (4, .int x4), (7, .int x7)] [.long s0] I X := by
  unfold b_X12_bound_163 at h
  refine r_lstore hg (L' := [(5, .long s0), (0, .ref this), (1, .int x1), (2, .int x2), (3, .int x3), (4, .int x4), (7, .int x7)]) dX12_bound_163 (by decide) rfl ?_
  refine r_lload hg 0 dX12_bound_165 rfl ?_
  refine r_lconst hg dX12_bound_167 lc_0 ?_
  refine r_lcmp hg dX12_bound_168 ?_
  refine r_if_ne hg 175 dX12_bound_169 (by decide) (fun c1 => ?_) (fun c1 => ?_)
  · rw [if_neg c1] at h
    refine r_iinc hg 6 (v := (x7 + (nI 1))) (L' := [(7, .int (x7 + (nI 1))), (5, .long s0), (0, .ref this), (1, .int x1), (2, .int x2), (3, .int x3), (4, .int x4)]) dX12_bound_175 rfl (by rw [ci_1]) (by decide) rfl ?_
    refine r_goto hg 89 dX12_bound_178 (by decide) ?_
    refine r_sub hg [2, 3, 4, 5, 6, 1, 0] rfl ?_
    exact hk89 _ _ _ h
  · rw [if_pos (Classical.not_not.mp c1)] at h
    refine r_iload hg 6 dX12_bound_172 rfl ?_
    exact r_ireturn hr dX12_bound_174 ⟨Nat.zero_le _, Nat.zero_le _⟩ ⟨_, rfl, rfl⟩ (by cases h; rfl)
def b_X12_bound_147 (this : Nat) (x1 : Int32) (x2 : Int32) (x3 : Int32) (I : qI) (k89 : Int32 → Int64 → Int32 → Option (Int32)) (x4 : Int32) (x7 : Int32) (s0 : Int64) (s1 : Int64) : Option (Int32) :=
  if 0 ≤ (lg_cmp (s0 - s1) (0 : Int64)) then
    b_X12_bound_163 this x1 x2 x3 I k89 x4 x7 (s0 - s1)
  else
    b_X12_bound_163 this x1 x2 x3 I k89 x4 x7 (0 : Int64)
set_option maxRecDepth 100000 in
set_option maxHeartbeats 4000000 in
theorem p_X12_bound_147 {l : Launch} {Γ : qC} {g : qG} {z : Int32} {this : Nat} {x1 : Int32} {x2 : Int32} {x3 : Int32} {X : qX} {I : qI} (hΓ : q_gm Γ) (hg : q_Ok l Γ RX12 cX12_bound 8 (q_rm 4 0 0) "bound" (some .int) g) (hr : q_Rt cX12_bound (some .int) (q_rm 4 0 0) (some (.int z), I, X) g) (hX : q_Lay X) (k_this : q_kd X this = some (14, 42)) {k89 : Int32 → Int64 → Int32 → Option (Int32)} (hk89 : ∀ (x4 : Int32) (x5 : Int64) (x7 : Int32), k89 x4 x5 x7 = some z → g 0 0 89 [(0, .ref this), (1, .int x1), (2, .int x2), (3, .int x3), (4, .int x4), (5, .long x5), (7, .int x7)] [] I X) (x4 : Int32) (x7 : Int32) (s0 : Int64) (s1 : Int64) (h : b_X12_bound_147 this x1 x2 x3 I k89 x4 x7 s0 s1 = some z) : g 0 0 147 [(0, .ref this), (1, .int x1), (2, .int x2), (3, .int x3), (4, .int x4), (7, .int x7)] [.long s1, .long s0] I X := by
  unfold b_X12_bound_147 at h
  refine r_lsub hg dX12_bound_147 ?_
  refine r_lstore hg (L' := [(5, .long (s0 - s1)), (0, .ref this), (1, .int x1), (2, .int x2), (3, .int x3), (4, .int x4), (7, .int x7)]) dX12_bound_148 (by decide) rfl ?_
  refine r_lload hg 0 dX12_bound_150 rfl ?_
  refine r_lconst hg dX12_bound_152 lc_0 ?_
  refine r_lcmp hg dX12_bound_153 ?_
  refine r_if_ge hg 161 dX12_bound_154 (by decide) (fun c1 => ?_) (fun c1 => ?_)
  · rw [if_pos c1] at h
    refine r_lload hg 0 dX12_bound_161 rfl ?_
    refine r_sub hg [1, 2, 3, 4, 5, 6] rfl ?_
    exact p_X12_bound_163 hΓ hg hr hX k_this hk89 _ _ _ h
  · rw [if_neg c1] at h
    refine r_lconst hg dX12_bound_157 lc_0 ?_
    refine r_goto hg 163 dX12_bound_158 (by decide) ?_
    refine r_sub hg [1, 2, 3, 4, 5, 6] rfl ?_
    exact p_X12_bound_163 hΓ hg hr hX k_this hk89 _ _ _ h
def b_X12_bound_89 (this : Nat) (x1 : Int32) (x2 : Int32) (x3 : Int32) (I : qI) (k89 : Int32 → Int64 → Int32 → Option (Int32)) (x4 : Int32) (x5 : Int64) (x7 : Int32) : Option (Int32) :=
  if (nI 1000) < x7 then
    some ((-1000000005))
  else
    q_b1 (f_X12_shopAt this x4) fun v3 =>
    q_b1 (q_rd I (this + 1) 3580 (v3 + (nI 1))) fun v5 =>
    q_b1 (f_X12_manAt this x1) fun v8 =>
    q_b1 (q_rd I (this + 1) 3580 (v8 + (nI 2))) fun v10 =>
    if x3 = 0 then none else
    if (q_rem x7 x3) = 0 then
      b_X12_bound_147 this x1 x2 x3 I k89 x4 x7 (x5 + ((v5 * v10) * (nI 7)).toInt64) x2.toInt64
    else
      b_X12_bound_147 this x1 x2 x3 I k89 x4 x7 (x5 + ((v5 * v10) * (nI 7)).toInt64) (0 : Int64)
set_option maxRecDepth 100000 in
set_option maxHeartbeats 4000000 in
theorem p_X12_bound_89 {l : Launch} {Γ : qC} {g : qG} {z : Int32} {this : Nat} {x1 : Int32} {x2 : Int32} {x3 : Int32} {X : qX} {I : qI} (hΓ : q_gm Γ) (hg : q_Ok l Γ RX12 cX12_bound 8 (q_rm 4 0 0) "bound" (some .int) g) (hr : q_Rt cX12_bound (some .int) (q_rm 4 0 0) (some (.int z), I, X) g) (hX : q_Lay X) (k_this : q_kd X this = some (14, 42)) {k89 : Int32 → Int64 → Int32 → Option (Int32)} (hk89 : ∀ (x4 : Int32) (x5 : Int64) (x7 : Int32), k89 x4 x5 x7 = some z → g 0 0 89 [(0, .ref this), (1, .int x1), (2, .int x2), (3, .int x3), (4, .int x4), (5, .long x5), (7, .int x7)] [] I X) (x4 : Int32) (x5 : Int64) (x7 : Int32) (h : b_X12_bound_89 this x1 x2 x3 I k89 x4 x5 x7 = some z) : g 0 0 89 [(0, .ref this), (1, .int x1), (2, .int x2), (3, .int x3), (4, .int x4), (5, .long x5), (7, .int x7)] [] I X := by
  unfold b_X12_bound_89 at h
  refine r_iload hg 6 dX12_bound_89 rfl ?_
  refine r_sipush hg dX12_bound_91 cs_1000 ?_
  refine r_icmp_gt hg 181 dX12_bound_94 (by decide) (fun c1 => ?_) (fun c1 => ?_)
  · rw [if_pos c1] at h
    refine r_ldc hg dX12_bound_181 kc_X12_61 ?_
    exact r_ireturn hr dX12_bound_183 ⟨Nat.zero_le _, Nat.zero_le _⟩ ⟨_, rfl, rfl⟩ (by cases h; rfl)
  · rw [if_neg c1] at h
    refine r_lload hg 5 dX12_bound_97 rfl ?_
    refine r_aload_n hg 0 dX12_bound_99 rfl rfl ?_
    have e2 := ly_12_0 hX k_this
    refine r_getR hg dX12_bound_100 fl_X12_7 k_this rfl e2.1 ?_
    refine r_aload_n hg 0 dX12_bound_103 rfl rfl ?_
    refine r_iload hg 4 dX12_bound_104 rfl ?_
    obtain ⟨v3, e4, h⟩ := q_b1_some h
    refine r_cV1i hg dX12_bound_106 mt_X12_shopAt ml_X12_72 mv_X12_shopAt k_this (s_X12_shopAt hΓ hX k_this e4) (q_room (Nat.le_of_ble_eq_true rfl) (Nat.le_of_ble_eq_true rfl)) ⟨Nat.zero_le _, Nat.zero_le _⟩ (Nat.le_of_ble_eq_true rfl) ?_
    refine r_iconst hg dX12_bound_109 ci_1 ?_
    refine r_iadd hg dX12_bound_110 ?_
    obtain ⟨v5, e6, h⟩ := q_b1_some h
    refine r_iald hg dX12_bound_111 e2.2 e6 ?_
    refine r_aload_n hg 0 dX12_bound_112 rfl rfl ?_
    have e7 := ly_12_0 hX k_this
    refine r_getR hg dX12_bound_113 fl_X12_7 k_this rfl e7.1 ?_
    refine r_aload_n hg 0 dX12_bound_116 rfl rfl ?_
    refine r_iload_n hg 1 dX12_bound_117 rfl rfl ?_
    obtain ⟨v8, e9, h⟩ := q_b1_some h
    refine r_cV1i hg dX12_bound_118 mt_X12_manAt ml_X12_68 mv_X12_manAt k_this (s_X12_manAt hΓ hX k_this e9) (q_room (Nat.le_of_ble_eq_true rfl) (Nat.le_of_ble_eq_true rfl)) ⟨Nat.zero_le _, Nat.zero_le _⟩ (Nat.le_of_ble_eq_true rfl) ?_
    refine r_iconst hg dX12_bound_121 ci_2 ?_
    refine r_iadd hg dX12_bound_122 ?_
    obtain ⟨v10, e11, h⟩ := q_b1_some h
    refine r_iald hg dX12_bound_123 e7.2 e11 ?_
    refine r_imul hg dX12_bound_124 ?_
    refine r_bipush hg dX12_bound_125 cb_7 ?_
    refine r_imul hg dX12_bound_127 ?_
    refine r_i2l hg dX12_bound_128 ?_
    refine r_ladd hg dX12_bound_129 ?_
    refine r_lstore hg (L' := [(5, .long (x5 + ((v5 * v10) * (nI 7)).toInt64)), (0, .ref this), (1, .int x1), (2, .int x2), (3, .int x3), (4, .int x4), (7, .int x7)]) dX12_bound_130 (by decide) rfl ?_
    refine r_lload hg 0 dX12_bound_132 rfl ?_
    refine r_iload hg 6 dX12_bound_134 rfl ?_
    refine r_iload_n hg 4 dX12_bound_136 rfl rfl ?_
    by_cases c12 : x3 = 0
    · rw [if_pos c12] at h; cases h
    rw [if_neg c12] at h
    refine r_iremq hg dX12_bound_137 c12 ?_
    refine r_if_ne hg 146 dX12_bound_138 (by decide) (fun c13 => ?_) (fun c13 => ?_)
    · rw [if_neg c13] at h
      refine r_lconst hg dX12_bound_146 lc_0 ?_
      refine r_sub hg [1, 2, 3, 4, 5, 6] rfl ?_
      exact p_X12_bound_147 hΓ hg hr hX k_this hk89 _ _ _ _ h
    · rw [if_pos (Classical.not_not.mp c13)] at h
      refine r_iload_n hg 3 dX12_bound_141 rfl rfl ?_
      refine r_i2l hg dX12_bound_142 ?_
      refine r_goto hg 147 dX12_bound_143 (by decide) ?_
      refine r_sub hg [1, 2, 3, 4, 5, 6] rfl ?_
      exact p_X12_bound_147 hΓ hg hr hX k_this hk89 _ _ _ _ h
theorem pl_X12_bound_89 {l : Launch} {Γ : qC} {g : qG} {z : Int32} {this : Nat} {x1 : Int32} {x2 : Int32} {x3 : Int32} {X : qX} {I : qI} (hΓ : q_gm Γ) (hg : q_Ok l Γ RX12 cX12_bound 8 (q_rm 4 0 0) "bound" (some .int) g) (hr : q_Rt cX12_bound (some .int) (q_rm 4 0 0) (some (.int z), I, X) g) (hX : q_Lay X) (k_this : q_kd X this = some (14, 42)) : ∀ (n : Nat) (x4 : Int32) (x5 : Int64) (x7 : Int32), q_fix (fun _ _ _ => none) (b_X12_bound_89 this x1 x2 x3 I) n x4 x5 x7 = some z → g 0 0 89 [(0, .ref this), (1, .int x1), (2, .int x2), (3, .int x3), (4, .int x4), (5, .long x5), (7, .int x7)] [] I X := by
  intro n
  induction n with
  | zero =>
    intro x4 x5 x7 h
    cases (show (none : Option (Int32)) = some z from h)
  | succ n ih =>
    intro x4 x5 x7 h
    exact p_X12_bound_89 hΓ hg hr hX k_this ih _ _ _ h
def b_X12_bound_64 (this : Nat) (x1 : Int32) (x2 : Int32) (x3 : Int32) (I : qI) (x4 : Int32) : Option (Int32) :=
  q_b1 (q_rd I (this + 1) 3580 (nI 1)) fun v2 =>
  if x4 = v2 then
    some ((-1000000005))
  else
    q_b1 (f_X12_owedBy this x1 I) fun v5 =>
    q_fix (fun _ _ _ => none) (b_X12_bound_89 this x1 x2 x3 I) q_fu x4 v5.toInt64 (nI 1)
set_option maxRecDepth 100000 in
set_option maxHeartbeats 4000000 in
theorem p_X12_bound_64 {l : Launch} {Γ : qC} {g : qG} {z : Int32} {this : Nat} {x1 : Int32} {x2 : Int32} {x3 : Int32} {X : qX} {I : qI} (hΓ : q_gm Γ) (hg : q_Ok l Γ RX12 cX12_bound 8 (q_rm 4 0 0) "bound" (some .int) g) (hr : q_Rt cX12_bound (some .int) (q_rm 4 0 0) (some (.int z), I, X) g) (hX : q_Lay X) (k_this : q_kd X this = some (14, 42)) (x4 : Int32) (h : b_X12_bound_64 this x1 x2 x3 I x4 = some z) : g 0 0 64 [(0, .ref this), (1, .int x1), (2, .int x2), (3, .int x3), (4, .int x4)] [] I X := by
  unfold b_X12_bound_64 at h
  refine r_iload hg 4 dX12_bound_64 rfl ?_
  refine r_aload_n hg 0 dX12_bound_66 rfl rfl ?_
  have e1 := ly_12_0 hX k_this
  refine r_getR hg dX12_bound_67 fl_X12_7 k_this rfl e1.1 ?_
  refine r_iconst hg dX12_bound_70 ci_1 ?_
  obtain ⟨v2, e3, h⟩ := q_b1_some h
  refine r_iald hg dX12_bound_71 e1.2 e3 ?_
  refine r_icmp_ne hg 78 dX12_bound_72 (by decide) (fun c4 => ?_) (fun c4 => ?_)
  · rw [if_neg c4] at h
    refine r_aload_n hg 0 dX12_bound_78 rfl rfl ?_
    refine r_iload_n hg 1 dX12_bound_79 rfl rfl ?_
    obtain ⟨v5, e6, h⟩ := q_b1_some h
    refine r_cV1i hg dX12_bound_80 mt_X12_owedBy ml_X12_118 mv_X12_owedBy k_this (s_X12_owedBy hΓ hX k_this e6) (q_room (Nat.le_of_ble_eq_true rfl) (Nat.le_of_ble_eq_true rfl)) ⟨Nat.zero_le _, Nat.zero_le _⟩ (Nat.le_of_ble_eq_true rfl) ?_
    refine r_i2l hg dX12_bound_83 ?_
    refine r_lstore hg (L' := [(5, .long v5.toInt64), (0, .ref this), (1, .int x1), (2, .int x2), (3, .int x3), (4, .int x4)]) dX12_bound_84 (by decide) rfl ?_
    refine r_iconst hg dX12_bound_86 ci_1 ?_
    refine r_istore hg (L' := [(7, .int (nI 1)), (5, .long v5.toInt64), (0, .ref this), (1, .int x1), (2, .int x2), (3, .int x3), (4, .int x4)]) dX12_bound_87 (by decide) rfl ?_
    refine r_sub hg [2, 3, 4, 5, 6, 1, 0] rfl ?_
    exact pl_X12_bound_89 hΓ hg hr hX k_this _ _ _ _ h
  · rw [if_pos (Classical.not_not.mp c4)] at h
    refine r_ldc hg dX12_bound_75 kc_X12_61 ?_
    exact r_ireturn hr dX12_bound_77 ⟨Nat.zero_le _, Nat.zero_le _⟩ ⟨_, rfl, rfl⟩ (by cases h; rfl)
def b_X12_bound_38 (this : Nat) (x1 : Int32) (x2 : Int32) (x3 : Int32) (I : qI) (k38 : Int32 → Option (Int32)) (x4 : Int32) : Option (Int32) :=
  q_b1 (q_rd I (this + 1) 3580 (nI 1)) fun v2 =>
  if v2 ≤ x4 then
    b_X12_bound_64 this x1 x2 x3 I x4
  else
    q_b1 (f_X12_isTown this x4 I) fun v5 =>
    if v5 = 0 then
      b_X12_bound_64 this x1 x2 x3 I x4
    else
      k38 (x4 + (nI 1))
set_option maxRecDepth 100000 in
set_option maxHeartbeats 4000000 in
theorem p_X12_bound_38 {l : Launch} {Γ : qC} {g : qG} {z : Int32} {this : Nat} {x1 : Int32} {x2 : Int32} {x3 : Int32} {X : qX} {I : qI} (hΓ : q_gm Γ) (hg : q_Ok l Γ RX12 cX12_bound 8 (q_rm 4 0 0) "bound" (some .int) g) (hr : q_Rt cX12_bound (some .int) (q_rm 4 0 0) (some (.int z), I, X) g) (hX : q_Lay X) (k_this : q_kd X this = some (14, 42)) {k38 : Int32 → Option (Int32)} (hk38 : ∀ (x4 : Int32), k38 x4 = some z → g 0 0 38 [(0, .ref this), (1, .int x1), (2, .int x2), (3, .int x3), (4, .int x4)] [] I X) (x4 : Int32) (h : b_X12_bound_38 this x1 x2 x3 I k38 x4 = some z) : g 0 0 38 [(0, .ref this), (1, .int x1), (2, .int x2), (3, .int x3), (4, .int x4)] [] I X := by
  unfold b_X12_bound_38 at h
  refine r_iload hg 4 dX12_bound_38 rfl ?_
  refine r_aload_n hg 0 dX12_bound_40 rfl rfl ?_
  have e1 := ly_12_0 hX k_this
  refine r_getR hg dX12_bound_41 fl_X12_7 k_this rfl e1.1 ?_
  refine r_iconst hg dX12_bound_44 ci_1 ?_
  obtain ⟨v2, e3, h⟩ := q_b1_some h
  refine r_iald hg dX12_bound_45 e1.2 e3 ?_
  refine r_icmp_ge hg 64 dX12_bound_46 (by decide) (fun c4 => ?_) (fun c4 => ?_)
  · rw [if_pos c4] at h
    exact p_X12_bound_64 hΓ hg hr hX k_this _ h
  · rw [if_neg c4] at h
    refine r_aload_n hg 0 dX12_bound_49 rfl rfl ?_
    refine r_iload hg 4 dX12_bound_50 rfl ?_
    obtain ⟨v5, e6, h⟩ := q_b1_some h
    refine r_cV1i hg dX12_bound_52 mt_X12_isTown ml_X12_132 mv_X12_isTown k_this (s_X12_isTown hΓ hX k_this e6) (q_room (Nat.le_of_ble_eq_true rfl) (Nat.le_of_ble_eq_true rfl)) ⟨Nat.zero_le _, Nat.zero_le _⟩ (Nat.le_of_ble_eq_true rfl) ?_
    refine r_if_eq hg 64 dX12_bound_55 (by decide) (fun c7 => ?_) (fun c7 => ?_)
    · rw [if_pos c7] at h
      exact p_X12_bound_64 hΓ hg hr hX k_this _ h
    · rw [if_neg c7] at h
      refine r_iinc hg 4 (v := (x4 + (nI 1))) (L' := [(4, .int (x4 + (nI 1))), (0, .ref this), (1, .int x1), (2, .int x2), (3, .int x3)]) dX12_bound_58 rfl (by rw [ci_1]) (by decide) rfl ?_
      refine r_goto hg 38 dX12_bound_61 (by decide) ?_
      refine r_sub hg [1, 2, 3, 4, 0] rfl ?_
      exact hk38 _ h
theorem pl_X12_bound_38 {l : Launch} {Γ : qC} {g : qG} {z : Int32} {this : Nat} {x1 : Int32} {x2 : Int32} {x3 : Int32} {X : qX} {I : qI} (hΓ : q_gm Γ) (hg : q_Ok l Γ RX12 cX12_bound 8 (q_rm 4 0 0) "bound" (some .int) g) (hr : q_Rt cX12_bound (some .int) (q_rm 4 0 0) (some (.int z), I, X) g) (hX : q_Lay X) (k_this : q_kd X this = some (14, 42)) : ∀ (n : Nat) (x4 : Int32), q_fix (fun _ => none) (b_X12_bound_38 this x1 x2 x3 I) n x4 = some z → g 0 0 38 [(0, .ref this), (1, .int x1), (2, .int x2), (3, .int x3), (4, .int x4)] [] I X := by
  intro n
  induction n with
  | zero =>
    intro x4 h
    cases (show (none : Option (Int32)) = some z from h)
  | succ n ih =>
    intro x4 h
    exact p_X12_bound_38 hΓ hg hr hX k_this ih _ h
def f_X12_bound (this : Nat) (x1 : Int32) (x2 : Int32) (x3 : Int32) (I : qI) : Option (Int32) :=
  q_b1 (f_X12_isMan this x1 I) fun v1 =>
  if v1 = 0 then
    some ((-1000000001))
  else
    q_b1 (f_X12_isIn x2.toInt64 (0 : Int64) (9999 : Int64)) fun v4 =>
    if v4 = 0 then
      some ((-1000000001))
    else
      q_b1 (f_X12_isIn x3.toInt64 (1 : Int64) (99 : Int64)) fun v7 =>
      if v7 = 0 then
        some ((-1000000001))
      else
        q_fix (fun _ => none) (b_X12_bound_38 this x1 x2 x3 I) q_fu (nI 0)
set_option maxRecDepth 100000 in
set_option maxHeartbeats 4000000 in
theorem s_X12_bound {l : Launch} {Γ : qC} (hΓ : q_gm Γ) {X : qX} (hX : q_Lay X) {this : Nat} {x1 : Int32} {x2 : Int32} {x3 : Int32} (k_this : q_kd X this = some (14, 42)) {I : qI} {z : Int32} (h : f_X12_bound this x1 x2 x3 I = some z) : q_Sem l Γ (q_rm 4 0 0) yX12_bound cX12_bound 8 (some .int) [.ref this, .int x1, .int x2, .int x3] I X (some (.int z), I, X) := by
  refine q_met (by decide) (Nat.le_of_ble_eq_true rfl) (fun g hg hr => ?_)
  unfold f_X12_bound at h
  show g 0 0 0 [(0, .ref this), (1, .int x1), (2, .int x2), (3, .int x3)] [] I X
  refine r_aload_n hg 0 dX12_bound_0 rfl rfl ?_
  refine r_iload_n hg 1 dX12_bound_1 rfl rfl ?_
  obtain ⟨v1, e2, h⟩ := q_b1_some h
  refine r_cV1i hg dX12_bound_2 mt_X12_isMan ml_X12_110 mv_X12_isMan k_this (s_X12_isMan hΓ hX k_this e2) (q_room (Nat.le_of_ble_eq_true rfl) (Nat.le_of_ble_eq_true rfl)) ⟨Nat.zero_le _, Nat.zero_le _⟩ (Nat.le_of_ble_eq_true rfl) ?_
  refine r_if_eq hg 32 dX12_bound_5 (by decide) (fun c3 => ?_) (fun c3 => ?_)
  · rw [if_pos c3] at h
    refine r_ldc hg dX12_bound_32 kc_X12_90 ?_
    exact r_ireturn hr dX12_bound_34 ⟨Nat.zero_le _, Nat.zero_le _⟩ ⟨_, rfl, rfl⟩ (by cases h; rfl)
  · rw [if_neg c3] at h
    refine r_iload_n hg 2 dX12_bound_8 rfl rfl ?_
    refine r_i2l hg dX12_bound_9 ?_
    refine r_lconst hg dX12_bound_10 lc_0 ?_
    refine r_ldc2 hg dX12_bound_11 kl_X12_127 ?_
    obtain ⟨v4, e5, h⟩ := q_b1_some h
    refine r_cS3i hg dX12_bound_14 mt_X12_isIn ⟨ml_X12_64, mst_X12_isIn⟩ (s_X12_isIn hΓ hX e5) (q_room (Nat.le_of_ble_eq_true rfl) (Nat.le_of_ble_eq_true rfl)) ⟨Nat.zero_le _, Nat.zero_le _⟩ (Nat.le_of_ble_eq_true rfl) ?_
    refine r_if_eq hg 32 dX12_bound_17 (by decide) (fun c6 => ?_) (fun c6 => ?_)
    · rw [if_pos c6] at h
      refine r_ldc hg dX12_bound_32 kc_X12_90 ?_
      exact r_ireturn hr dX12_bound_34 ⟨Nat.zero_le _, Nat.zero_le _⟩ ⟨_, rfl, rfl⟩ (by cases h; rfl)
    · rw [if_neg c6] at h
      refine r_iload_n hg 3 dX12_bound_20 rfl rfl ?_
      refine r_i2l hg dX12_bound_21 ?_
      refine r_lconst hg dX12_bound_22 lc_1 ?_
      refine r_ldc2 hg dX12_bound_23 kl_X12_82 ?_
      obtain ⟨v7, e8, h⟩ := q_b1_some h
      refine r_cS3i hg dX12_bound_26 mt_X12_isIn ⟨ml_X12_64, mst_X12_isIn⟩ (s_X12_isIn hΓ hX e8) (q_room (Nat.le_of_ble_eq_true rfl) (Nat.le_of_ble_eq_true rfl)) ⟨Nat.zero_le _, Nat.zero_le _⟩ (Nat.le_of_ble_eq_true rfl) ?_
      refine r_if_ne hg 35 dX12_bound_29 (by decide) (fun c9 => ?_) (fun c9 => ?_)
      · rw [if_neg c9] at h
        refine r_iconst hg dX12_bound_35 ci_0 ?_
        refine r_istore hg (L' := [(4, .int (nI 0)), (0, .ref this), (1, .int x1), (2, .int x2), (3, .int x3)]) dX12_bound_36 (by decide) rfl ?_
        refine r_sub hg [1, 2, 3, 4, 0] rfl ?_
        exact pl_X12_bound_38 hΓ hg hr hX k_this _ _ h
      · rw [if_pos (Classical.not_not.mp c9)] at h
        refine r_ldc hg dX12_bound_32 kc_X12_90 ?_
        exact r_ireturn hr dX12_bound_34 ⟨Nat.zero_le _, Nat.zero_le _⟩ ⟨_, rfl, rfl⟩ (by cases h; rfl)

def b_X12_cheapest_103 (this : Nat) (x1 : Int32) (I : qI) (k7 : Int32 → Int32 → Int32 → Option (Int32)) (x2 : Int32) (x3 : Int32) (x4 : Int32) : Option (Int32) :=
  k7 x2 x3 (x4 + (nI 1))
set_option maxRecDepth 100000 in
set_option maxHeartbeats 4000000 in
theorem p_X12_cheapest_103 {l : Launch} {Γ : qC} {g : qG} {z : Int32} {this : Nat} {x1 : Int32} {X : qX} {I : qI} (hΓ : q_gm Γ) (hg : q_Ok l Γ RX12 cX12_cheapest 6 (q_rm 4 0 0) "cheapest" (some .int) g) (hr : q_Rt cX12_cheapest (some .int) (q_rm 4 0 0) (some (.int z), I, X) g) (hX : q_Lay X) (k_this : q_kd X this = some (14, 42)) {k7 : Int32 → Int32 → Int32 → Option (Int32)} (hk7 : ∀ (x2 : Int32) (x3 : Int32) (x4 : Int32), k7 x2 x3 x4 = some z → g 0 0 7 [(0, .ref this), (1, .int x1), (2, .int x2), (3, .int x3), (4, .int x4)] [] I X) (x2 : Int32) (x3 : Int32) (x4 : Int32) (h : b_X12_cheapest_103 this x1 I k7 x2 x3 x4 = some z) : g 0 0 103 [(0, .ref this), (1, .int x1), (2, .int x2), (3, .int x3), (4, .int x4)] [] I X := by
  unfold b_X12_cheapest_103 at h
  refine r_iinc hg 4 (v := (x4 + (nI 1))) (L' := [(4, .int (x4 + (nI 1))), (0, .ref this), (1, .int x1), (2, .int x2), (3, .int x3)]) dX12_cheapest_103 rfl (by rw [ci_1]) (by decide) rfl ?_
  refine r_goto hg 7 dX12_cheapest_106 (by decide) ?_
  refine r_sub hg [1, 2, 3, 4, 0] rfl ?_
  exact hk7 _ _ _ h
def b_X12_cheapest_97 (this : Nat) (x1 : Int32) (I : qI) (k7 : Int32 → Int32 → Int32 → Option (Int32)) (x4 : Int32) (x5 : Int32) : Option (Int32) :=
  b_X12_cheapest_103 this x1 I k7 x4 x5 x4
set_option maxRecDepth 100000 in
set_option maxHeartbeats 4000000 in
theorem p_X12_cheapest_97 {l : Launch} {Γ : qC} {g : qG} {z : Int32} {this : Nat} {x1 : Int32} {X : qX} {I : qI} (hΓ : q_gm Γ) (hg : q_Ok l Γ RX12 cX12_cheapest 6 (q_rm 4 0 0) "cheapest" (some .int) g) (hr : q_Rt cX12_cheapest (some .int) (q_rm 4 0 0) (some (.int z), I, X) g) (hX : q_Lay X) (k_this : q_kd X this = some (14, 42)) {k7 : Int32 → Int32 → Int32 → Option (Int32)} (hk7 : ∀ (x2 : Int32) (x3 : Int32) (x4 : Int32), k7 x2 x3 x4 = some z → g 0 0 7 [(0, .ref this), (1, .int x1), (2, .int x2), (3, .int x3), (4, .int x4)] [] I X) (x4 : Int32) (x5 : Int32) (h : b_X12_cheapest_97 this x1 I k7 x4 x5 = some z) : g 0 0 97 [(0, .ref this), (1, .int x1), (4, .int x4), (5, .int x5)] [] I X := by
  unfold b_X12_cheapest_97 at h
  refine r_iload hg 2 dX12_cheapest_97 rfl ?_
  refine r_istore_n hg (L' := [(2, .int x4), (0, .ref this), (1, .int x1), (4, .int x4), (5, .int x5)]) dX12_cheapest_99 rfl (by decide) rfl ?_
  refine r_iload hg 4 dX12_cheapest_100 rfl ?_
  refine r_istore_n hg (L' := [(3, .int x5), (2, .int x4), (0, .ref this), (1, .int x1), (4, .int x4), (5, .int x5)]) dX12_cheapest_102 rfl (by decide) rfl ?_
  refine r_sub hg [2, 3, 1, 0, 4] rfl ?_
  exact p_X12_cheapest_103 hΓ hg hr hX k_this hk7 _ _ _ h
def b_X12_cheapest_7 (this : Nat) (x1 : Int32) (I : qI) (k7 : Int32 → Int32 → Int32 → Option (Int32)) (x2 : Int32) (x3 : Int32) (x4 : Int32) : Option (Int32) :=
  q_b1 (q_rd I (this + 1) 3580 (nI 1)) fun v2 =>
  if v2 ≤ x4 then
    some (x2)
  else
    q_b1 (f_X12_isTown this x4 I) fun v5 =>
    if v5 = 0 then
      b_X12_cheapest_103 this x1 I k7 x2 x3 x4
    else
      q_b1 (f_X12_manAt this x1) fun v9 =>
      q_b1 (q_rd I (this + 1) 3580 ((v9 + (nI 18)) + x4)) fun v11 =>
      if 0 ≤ v11 then
        q_b1 (f_X12_manAt this x1) fun v15 =>
        q_b1 (q_rd I (this + 1) 3580 ((v15 + (nI 12)) + x4)) fun v17 =>
        q_b1 (f_X12_lack this x1 I) fun v19 =>
        q_b1 (f_X12_shopAt this x4) fun v22 =>
        q_b1 (q_rd I (this + 1) 3580 (v22 + (nI 3))) fun v24 =>
        if x2 < 0 then
          b_X12_cheapest_97 this x1 I k7 x4 ((v17 * v19) + v24)
        else
          if x3 ≤ ((v17 * v19) + v24) then
            b_X12_cheapest_103 this x1 I k7 x2 x3 x4
          else
            b_X12_cheapest_97 this x1 I k7 x4 ((v17 * v19) + v24)
      else
        b_X12_cheapest_103 this x1 I k7 x2 x3 x4
set_option maxRecDepth 100000 in
set_option maxHeartbeats 4000000 in
theorem p_X12_cheapest_7 {l : Launch} {Γ : qC} {g : qG} {z : Int32} {this : Nat} {x1 : Int32} {X : qX} {I : qI} (hΓ : q_gm Γ) (hg : q_Ok l Γ RX12 cX12_cheapest 6 (q_rm 4 0 0) "cheapest" (some .int) g) (hr : q_Rt cX12_cheapest (some .int) (q_rm 4 0 0) (some (.int z), I, X) g) (hX : q_Lay X) (k_this : q_kd X this = some (14, 42)) {k7 : Int32 → Int32 → Int32 → Option (Int32)} (hk7 : ∀ (x2 : Int32) (x3 : Int32) (x4 : Int32), k7 x2 x3 x4 = some z → g 0 0 7 [(0, .ref this), (1, .int x1), (2, .int x2), (3, .int x3), (4, .int x4)] [] I X) (x2 : Int32) (x3 : Int32) (x4 : Int32) (h : b_X12_cheapest_7 this x1 I k7 x2 x3 x4 = some z) : g 0 0 7 [(0, .ref this), (1, .int x1), (2, .int x2), (3, .int x3), (4, .int x4)] [] I X := by
  unfold b_X12_cheapest_7 at h
  refine r_iload hg 4 dX12_cheapest_7 rfl ?_
  refine r_aload_n hg 0 dX12_cheapest_9 rfl rfl ?_
  have e1 := ly_12_0 hX k_this
  refine r_getR hg dX12_cheapest_10 fl_X12_7 k_this rfl e1.1 ?_
  refine r_iconst hg dX12_cheapest_13 ci_1 ?_
  obtain ⟨v2, e3, h⟩ := q_b1_some h
  refine r_iald hg dX12_cheapest_14 e1.2 e3 ?_
  refine r_icmp_ge hg 109 dX12_cheapest_15 (by decide) (fun c4 => ?_) (fun c4 => ?_)
  · rw [if_pos c4] at h
    refine r_iload_n hg 2 dX12_cheapest_109 rfl rfl ?_
    exact r_ireturn hr dX12_cheapest_110 ⟨Nat.zero_le _, Nat.zero_le _⟩ ⟨_, rfl, rfl⟩ (by cases h; rfl)
  · rw [if_neg c4] at h
    refine r_aload_n hg 0 dX12_cheapest_18 rfl rfl ?_
    refine r_iload hg 4 dX12_cheapest_19 rfl ?_
    obtain ⟨v5, e6, h⟩ := q_b1_some h
    refine r_cV1i hg dX12_cheapest_21 mt_X12_isTown ml_X12_132 mv_X12_isTown k_this (s_X12_isTown hΓ hX k_this e6) (q_room (Nat.le_of_ble_eq_true rfl) (Nat.le_of_ble_eq_true rfl)) ⟨Nat.zero_le _, Nat.zero_le _⟩ (Nat.le_of_ble_eq_true rfl) ?_
    refine r_if_eq hg 103 dX12_cheapest_24 (by decide) (fun c7 => ?_) (fun c7 => ?_)
    · rw [if_pos c7] at h
      exact p_X12_cheapest_103 hΓ hg hr hX k_this hk7 _ _ _ h
    · rw [if_neg c7] at h
      refine r_aload_n hg 0 dX12_cheapest_27 rfl rfl ?_
      have e8 := ly_12_0 hX k_this
      refine r_getR hg dX12_cheapest_28 fl_X12_7 k_this rfl e8.1 ?_
      refine r_aload_n hg 0 dX12_cheapest_31 rfl rfl ?_
      refine r_iload_n hg 1 dX12_cheapest_32 rfl rfl ?_
      obtain ⟨v9, e10, h⟩ := q_b1_some h
      refine r_cV1i hg dX12_cheapest_33 mt_X12_manAt ml_X12_68 mv_X12_manAt k_this (s_X12_manAt hΓ hX k_this e10) (q_room (Nat.le_of_ble_eq_true rfl) (Nat.le_of_ble_eq_true rfl)) ⟨Nat.zero_le _, Nat.zero_le _⟩ (Nat.le_of_ble_eq_true rfl) ?_
      refine r_bipush hg dX12_cheapest_36 cb_18 ?_
      refine r_iadd hg dX12_cheapest_38 ?_
      refine r_iload hg 4 dX12_cheapest_39 rfl ?_
      refine r_iadd hg dX12_cheapest_41 ?_
      obtain ⟨v11, e12, h⟩ := q_b1_some h
      refine r_iald hg dX12_cheapest_42 e8.2 e12 ?_
      refine r_if_ge hg 49 dX12_cheapest_43 (by decide) (fun c13 => ?_) (fun c13 => ?_)
      · rw [if_pos c13] at h
        refine r_aload_n hg 0 dX12_cheapest_49 rfl rfl ?_
        have e14 := ly_12_0 hX k_this
        refine r_getR hg dX12_cheapest_50 fl_X12_7 k_this rfl e14.1 ?_
        refine r_aload_n hg 0 dX12_cheapest_53 rfl rfl ?_
        refine r_iload_n hg 1 dX12_cheapest_54 rfl rfl ?_
        obtain ⟨v15, e16, h⟩ := q_b1_some h
        refine r_cV1i hg dX12_cheapest_55 mt_X12_manAt ml_X12_68 mv_X12_manAt k_this (s_X12_manAt hΓ hX k_this e16) (q_room (Nat.le_of_ble_eq_true rfl) (Nat.le_of_ble_eq_true rfl)) ⟨Nat.zero_le _, Nat.zero_le _⟩ (Nat.le_of_ble_eq_true rfl) ?_
        refine r_bipush hg dX12_cheapest_58 cb_12 ?_
        refine r_iadd hg dX12_cheapest_60 ?_
        refine r_iload hg 4 dX12_cheapest_61 rfl ?_
        refine r_iadd hg dX12_cheapest_63 ?_
        obtain ⟨v17, e18, h⟩ := q_b1_some h
        refine r_iald hg dX12_cheapest_64 e14.2 e18 ?_
        refine r_aload_n hg 0 dX12_cheapest_65 rfl rfl ?_
        refine r_iload_n hg 1 dX12_cheapest_66 rfl rfl ?_
        obtain ⟨v19, e20, h⟩ := q_b1_some h
        refine r_cV1i hg dX12_cheapest_67 mt_X12_lack ml_X12_135 mv_X12_lack k_this (s_X12_lack hΓ hX k_this e20) (q_room (Nat.le_of_ble_eq_true rfl) (Nat.le_of_ble_eq_true rfl)) ⟨Nat.zero_le _, Nat.zero_le _⟩ (Nat.le_of_ble_eq_true rfl) ?_
        refine r_imul hg dX12_cheapest_70 ?_
        refine r_aload_n hg 0 dX12_cheapest_71 rfl rfl ?_
        have e21 := ly_12_0 hX k_this
        refine r_getR hg dX12_cheapest_72 fl_X12_7 k_this rfl e21.1 ?_
        refine r_aload_n hg 0 dX12_cheapest_75 rfl rfl ?_
        refine r_iload hg 4 dX12_cheapest_76 rfl ?_
        obtain ⟨v22, e23, h⟩ := q_b1_some h
        refine r_cV1i hg dX12_cheapest_78 mt_X12_shopAt ml_X12_72 mv_X12_shopAt k_this (s_X12_shopAt hΓ hX k_this e23) (q_room (Nat.le_of_ble_eq_true rfl) (Nat.le_of_ble_eq_true rfl)) ⟨Nat.zero_le _, Nat.zero_le _⟩ (Nat.le_of_ble_eq_true rfl) ?_
        refine r_iconst hg dX12_cheapest_81 ci_3 ?_
        refine r_iadd hg dX12_cheapest_82 ?_
        obtain ⟨v24, e25, h⟩ := q_b1_some h
        refine r_iald hg dX12_cheapest_83 e21.2 e25 ?_
        refine r_iadd hg dX12_cheapest_84 ?_
        refine r_istore hg (L' := [(5, .int ((v17 * v19) + v24)), (0, .ref this), (1, .int x1), (2, .int x2), (3, .int x3), (4, .int x4)]) dX12_cheapest_85 (by decide) rfl ?_
        refine r_iload_n hg 3 dX12_cheapest_87 rfl rfl ?_
        refine r_if_lt hg 97 dX12_cheapest_88 (by decide) (fun c26 => ?_) (fun c26 => ?_)
        · rw [if_pos c26] at h
          refine r_sub hg [1, 2, 5, 0] rfl ?_
          exact p_X12_cheapest_97 hΓ hg hr hX k_this hk7 _ _ h
        · rw [if_neg c26] at h
          refine r_iload hg 0 dX12_cheapest_91 rfl ?_
          refine r_iload_n hg 4 dX12_cheapest_93 rfl rfl ?_
          refine r_icmp_ge hg 103 dX12_cheapest_94 (by decide) (fun c27 => ?_) (fun c27 => ?_)
          · rw [if_pos c27] at h
            refine r_sub hg [1, 2, 3, 4, 5] rfl ?_
            exact p_X12_cheapest_103 hΓ hg hr hX k_this hk7 _ _ _ h
          · rw [if_neg c27] at h
            refine r_sub hg [1, 2, 5, 0] rfl ?_
            exact p_X12_cheapest_97 hΓ hg hr hX k_this hk7 _ _ h
      · rw [if_neg c13] at h
        refine r_goto hg 103 dX12_cheapest_46 (by decide) ?_
        exact p_X12_cheapest_103 hΓ hg hr hX k_this hk7 _ _ _ h
theorem pl_X12_cheapest_7 {l : Launch} {Γ : qC} {g : qG} {z : Int32} {this : Nat} {x1 : Int32} {X : qX} {I : qI} (hΓ : q_gm Γ) (hg : q_Ok l Γ RX12 cX12_cheapest 6 (q_rm 4 0 0) "cheapest" (some .int) g) (hr : q_Rt cX12_cheapest (some .int) (q_rm 4 0 0) (some (.int z), I, X) g) (hX : q_Lay X) (k_this : q_kd X this = some (14, 42)) : ∀ (n : Nat) (x2 : Int32) (x3 : Int32) (x4 : Int32), q_fix (fun _ _ _ => none) (b_X12_cheapest_7 this x1 I) n x2 x3 x4 = some z → g 0 0 7 [(0, .ref this), (1, .int x1), (2, .int x2), (3, .int x3), (4, .int x4)] [] I X := by
  intro n
  induction n with
  | zero =>
    intro x2 x3 x4 h
    cases (show (none : Option (Int32)) = some z from h)
  | succ n ih =>
    intro x2 x3 x4 h
    exact p_X12_cheapest_7 hΓ hg hr hX k_this ih _ _ _ h
def f_X12_cheapest (this : Nat) (x1 : Int32) (I : qI) : Option (Int32) :=
  q_fix (fun _ _ _ => none) (b_X12_cheapest_7 this x1 I) q_fu (-1) (nI 0) (nI 0)
set_option maxRecDepth 100000 in
set_option maxHeartbeats 4000000 in
theorem s_X12_cheapest {l : Launch} {Γ : qC} (hΓ : q_gm Γ) {X : qX} (hX : q_Lay X) {this : Nat} {x1 : Int32} (k_this : q_kd X this = some (14, 42)) {I : qI} {z : Int32} (h : f_X12_cheapest this x1 I = some z) : q_Sem l Γ (q_rm 4 0 0) yX12_cheapest cX12_cheapest 6 (some .int) [.ref this, .int x1] I X (some (.int z), I, X) := by
  refine q_met (by decide) (Nat.le_of_ble_eq_true rfl) (fun g hg hr => ?_)
  unfold f_X12_cheapest at h
  show g 0 0 0 [(0, .ref this), (1, .int x1)] [] I X
  refine r_iconst hg dX12_cheapest_0 ci_m1 ?_
  refine r_istore_n hg (L' := [(2, .int (-1)), (0, .ref this), (1, .int x1)]) dX12_cheapest_1 rfl (by decide) rfl ?_
  refine r_iconst hg dX12_cheapest_2 ci_0 ?_
  refine r_istore_n hg (L' := [(3, .int (nI 0)), (2, .int (-1)), (0, .ref this), (1, .int x1)]) dX12_cheapest_3 rfl (by decide) rfl ?_
  refine r_iconst hg dX12_cheapest_4 ci_0 ?_
  refine r_istore hg (L' := [(4, .int (nI 0)), (3, .int (nI 0)), (2, .int (-1)), (0, .ref this), (1, .int x1)]) dX12_cheapest_5 (by decide) rfl ?_
  refine r_sub hg [3, 4, 2, 1, 0] rfl ?_
  exact pl_X12_cheapest_7 hΓ hg hr hX k_this _ _ _ _ h

def b_X12_coinFor_36 (this : Nat) (x1 : Int32) (x2 : Int32) (s0 : Int32) (I : qI) : Option (Int32 × qI) :=
  q_b1 (f_X12_held s0 (nI 0) (nI 100)) fun v1 =>
  some (v1, I)
set_option maxRecDepth 100000 in
set_option maxHeartbeats 4000000 in
theorem p_X12_coinFor_36 {l : Launch} {Γ : qC} {g : qG} {z : Int32 × qI} {this : Nat} {x1 : Int32} {x2 : Int32} {X : qX} (hΓ : q_gm Γ) (hg : q_Ok l Γ RX12 cX12_coinFor 4 (q_rm 4 0 0) "coinFor" (some .int) g) (hr : q_Rt cX12_coinFor (some .int) (q_rm 4 0 0) (some (.int z.1), z.2, X) g) (hX : q_Lay X) (k_this : q_kd X this = some (14, 42)) (s0 : Int32) (I : qI) (h : b_X12_coinFor_36 this x1 x2 s0 I = some z) : g 0 0 36 [] [.int s0] I X := by
  unfold b_X12_coinFor_36 at h
  refine r_iconst hg dX12_coinFor_36 ci_0 ?_
  refine r_bipush hg dX12_coinFor_37 cb_100 ?_
  obtain ⟨v1, e2, h⟩ := q_b1_some h
  refine r_cS3i hg dX12_coinFor_39 mt_X12_held ⟨ml_X12_325, mst_X12_held⟩ (s_X12_held hΓ hX e2) (q_room (Nat.le_of_ble_eq_true rfl) (Nat.le_of_ble_eq_true rfl)) ⟨Nat.zero_le _, Nat.zero_le _⟩ (Nat.le_of_ble_eq_true rfl) ?_
  exact r_ireturn hr dX12_coinFor_42 ⟨Nat.zero_le _, Nat.zero_le _⟩ ⟨_, rfl, rfl⟩ (by cases h; rfl)
def f_X12_coinFor (this : Nat) (x1 : Int32) (x2 : Int32) (I : qI) : Option (Int32 × qI) :=
  q_b1 (f_X12_counts this (nI 3) I) fun v1 =>
  q_b1 (q_wr I (this + 8) 128 (nI 108) x1) fun I4 =>
  q_b1 (q_wr I4 (this + 8) 128 (nI 119) x2) fun I7 =>
  if 0 ≤ v1 then
    q_b2 (f_X12_worked this v1 I7) fun v10 I11 =>
    b_X12_coinFor_36 this x1 x2 v10 I11
  else
    b_X12_coinFor_36 this x1 x2 (nI 100) I7
set_option maxRecDepth 100000 in
set_option maxHeartbeats 4000000 in
theorem s_X12_coinFor {l : Launch} {Γ : qC} (hΓ : q_gm Γ) {X : qX} (hX : q_Lay X) {this : Nat} {x1 : Int32} {x2 : Int32} (k_this : q_kd X this = some (14, 42)) {I : qI} {z : Int32 × qI} (h : f_X12_coinFor this x1 x2 I = some z) : q_Sem l Γ (q_rm 4 0 0) yX12_coinFor cX12_coinFor 4 (some .int) [.ref this, .int x1, .int x2] I X (some (.int z.1), z.2, X) := by
  refine q_met (by decide) (Nat.le_of_ble_eq_true rfl) (fun g hg hr => ?_)
  unfold f_X12_coinFor at h
  show g 0 0 0 [(0, .ref this), (1, .int x1), (2, .int x2)] [] I X
  refine r_aload_n hg 0 dX12_coinFor_0 rfl rfl ?_
  refine r_iconst hg dX12_coinFor_1 ci_3 ?_
  obtain ⟨v1, e2, h⟩ := q_b1_some h
  refine r_cV1i hg dX12_coinFor_2 mt_X12_counts ml_X12_313 mv_X12_counts k_this (s_X12_counts hΓ hX k_this e2) (q_room (Nat.le_of_ble_eq_true rfl) (Nat.le_of_ble_eq_true rfl)) ⟨Nat.zero_le _, Nat.zero_le _⟩ (Nat.le_of_ble_eq_true rfl) ?_
  refine r_istore_n hg (L' := [(3, .int v1), (0, .ref this), (1, .int x1), (2, .int x2)]) dX12_coinFor_5 rfl (by decide) rfl ?_
  refine r_aload_n hg 1 dX12_coinFor_6 rfl rfl ?_
  have e3 := ly_12_26 hX k_this
  refine r_getR hg dX12_coinFor_7 fl_X12_31 k_this rfl e3.1 ?_
  refine r_bipush hg dX12_coinFor_10 cb_108 ?_
  refine r_iload_n hg 2 dX12_coinFor_12 rfl rfl ?_
  obtain ⟨I4, e5, h⟩ := q_b1_some h
  refine r_iast hg dX12_coinFor_13 e3.2 e5 ?_
  refine r_aload_n hg 1 dX12_coinFor_14 rfl rfl ?_
  have e6 := ly_12_26 hX k_this
  refine r_getR hg dX12_coinFor_15 fl_X12_31 k_this rfl e6.1 ?_
  refine r_bipush hg dX12_coinFor_18 cb_119 ?_
  refine r_iload_n hg 3 dX12_coinFor_20 rfl rfl ?_
  obtain ⟨I7, e8, h⟩ := q_b1_some h
  refine r_iast hg dX12_coinFor_21 e6.2 e8 ?_
  refine r_iload_n hg 0 dX12_coinFor_22 rfl rfl ?_
  refine r_if_ge hg 31 dX12_coinFor_23 (by decide) (fun c9 => ?_) (fun c9 => ?_)
  · rw [if_pos c9] at h
    refine r_aload_n hg 1 dX12_coinFor_31 rfl rfl ?_
    refine r_iload_n hg 0 dX12_coinFor_32 rfl rfl ?_
    obtain ⟨v10, I11, e12, h⟩ := q_b2_some h
    refine r_cV1i hg dX12_coinFor_33 mt_X12_worked ml_X12_322 mv_X12_worked k_this (s_X12_worked hΓ hX k_this e12) (q_room (Nat.le_of_ble_eq_true rfl) (Nat.le_of_ble_eq_true rfl)) ⟨Nat.zero_le _, Nat.zero_le _⟩ (Nat.le_of_ble_eq_true rfl) ?_
    refine r_sub hg [] rfl ?_
    exact p_X12_coinFor_36 hΓ hg hr hX k_this _ _ h
  · rw [if_neg c9] at h
    refine r_bipush hg dX12_coinFor_26 cb_100 ?_
    refine r_goto hg 36 dX12_coinFor_28 (by decide) ?_
    refine r_sub hg [] rfl ?_
    exact p_X12_coinFor_36 hΓ hg hr hX k_this _ _ h

def b_X12_companyLasts_76 (this : Nat) (x1 : Int32) (I : qI) (k4 : Int32 → Int32 → Option (Int32)) (x3 : Int32) (s0 : Int32) (s1 : Int32) : Option (Int32) :=
  k4 (s0 + s1) (x3 + (nI 1))
set_option maxRecDepth 100000 in
set_option maxHeartbeats 4000000 in
theorem p_X12_companyLasts_76 {l : Launch} {Γ : qC} {g : qG} {z : Int32} {this : Nat} {x1 : Int32} {X : qX} {I : qI} (hΓ : q_gm Γ) (hg : q_Ok l Γ RX12 cX12_companyLasts 5 (q_rm 4 0 0) "companyLasts" (some .int) g) (hr : q_Rt cX12_companyLasts (some .int) (q_rm 4 0 0) (some (.int z), I, X) g) (hX : q_Lay X) (k_this : q_kd X this = some (14, 42)) {k4 : Int32 → Int32 → Option (Int32)} (hk4 : ∀ (x2 : Int32) (x3 : Int32), k4 x2 x3 = some z → g 0 0 4 [(0, .ref this), (1, .int x1), (2, .int x2), (3, .int x3)] [] I X) (x3 : Int32) (s0 : Int32) (s1 : Int32) (h : b_X12_companyLasts_76 this x1 I k4 x3 s0 s1 = some z) : g 0 0 76 [(0, .ref this), (1, .int x1), (3, .int x3)] [.int s1, .int s0] I X := by
  unfold b_X12_companyLasts_76 at h
  refine r_iadd hg dX12_companyLasts_76 ?_
  refine r_istore_n hg (L' := [(2, .int (s0 + s1)), (0, .ref this), (1, .int x1), (3, .int x3)]) dX12_companyLasts_77 rfl (by decide) rfl ?_
  refine r_iinc hg 3 (v := (x3 + (nI 1))) (L' := [(3, .int (x3 + (nI 1))), (2, .int (s0 + s1)), (0, .ref this), (1, .int x1)]) dX12_companyLasts_78 rfl (by rw [ci_1]) (by decide) rfl ?_
  refine r_goto hg 4 dX12_companyLasts_81 (by decide) ?_
  refine r_sub hg [2, 3, 1, 0] rfl ?_
  exact hk4 _ _ h
def b_X12_companyLasts_45 (this : Nat) (x1 : Int32) (I : qI) (k4 : Int32 → Int32 → Option (Int32)) (x3 : Int32) (s0 : Int32) : Option (Int32) :=
  b_X12_companyLasts_76 this x1 I k4 x3 s0 (nI 0)
set_option maxRecDepth 100000 in
set_option maxHeartbeats 4000000 in
theorem p_X12_companyLasts_45 {l : Launch} {Γ : qC} {g : qG} {z : Int32} {this : Nat} {x1 : Int32} {X : qX} {I : qI} (hΓ : q_gm Γ) (hg : q_Ok l Γ RX12 cX12_companyLasts 5 (q_rm 4 0 0) "companyLasts" (some .int) g) (hr : q_Rt cX12_companyLasts (some .int) (q_rm 4 0 0) (some (.int z), I, X) g) (hX : q_Lay X) (k_this : q_kd X this = some (14, 42)) {k4 : Int32 → Int32 → Option (Int32)} (hk4 : ∀ (x2 : Int32) (x3 : Int32), k4 x2 x3 = some z → g 0 0 4 [(0, .ref this), (1, .int x1), (2, .int x2), (3, .int x3)] [] I X) (x3 : Int32) (s0 : Int32) (h : b_X12_companyLasts_45 this x1 I k4 x3 s0 = some z) : g 0 0 45 [(0, .ref this), (1, .int x1), (3, .int x3)] [.int s0] I X := by
  unfold b_X12_companyLasts_45 at h
  refine r_iconst hg dX12_companyLasts_45 ci_0 ?_
  refine r_goto hg 76 dX12_companyLasts_46 (by decide) ?_
  exact p_X12_companyLasts_76 hΓ hg hr hX k_this hk4 _ _ _ h
def b_X12_companyLasts_4 (this : Nat) (x1 : Int32) (I : qI) (k4 : Int32 → Int32 → Option (Int32)) (x2 : Int32) (x3 : Int32) : Option (Int32) :=
  q_b1 (q_rd I (this + 1) 3580 (nI 2)) fun v2 =>
  if v2 ≤ x3 then
    q_b1 (q_rd I (this + 1) 3580 (nI 9)) fun v6 =>
    if 0 < (v6 - x2) then
      q_b1 (q_rd I (this + 1) 3580 (nI 8)) fun v10 =>
      if (v6 - x2) = 0 then none else
      q_b1 (f_X12_least (nI 999) (v10 / (v6 - x2))) fun v13 =>
      some (v13)
    else
      some ((nI 999))
  else
    q_b1 (f_X12_manAt this x3) fun v15 =>
    q_b1 (f_X12_isGone this x3 I) fun v17 =>
    if v17 = 0 then
      q_b1 (q_rd I (this + 1) 3580 v15) fun v21 =>
      if ((x1 >>> (v21 &&& 31)) &&& (nI 1)) = (nI 1) then
        b_X12_companyLasts_45 this x1 I k4 x3 x2
      else
        q_b1 (q_rd I (this + 1) 3580 (v15 + (nI 1))) fun v25 =>
        q_b1 (q_rd I (this + 1) 3580 v15) fun v29 =>
        q_b1 (q_rd I (this + 1) 3580 ((nI 10) + ((nI 5) * v29))) fun v31 =>
        b_X12_companyLasts_76 this x1 I k4 x3 x2 (v25 * v31)
    else
      b_X12_companyLasts_45 this x1 I k4 x3 x2
set_option maxRecDepth 100000 in
set_option maxHeartbeats 4000000 in
theorem p_X12_companyLasts_4 {l : Launch} {Γ : qC} {g : qG} {z : Int32} {this : Nat} {x1 : Int32} {X : qX} {I : qI} (hΓ : q_gm Γ) (hg : q_Ok l Γ RX12 cX12_companyLasts 5 (q_rm 4 0 0) "companyLasts" (some .int) g) (hr : q_Rt cX12_companyLasts (some .int) (q_rm 4 0 0) (some (.int z), I, X) g) (hX : q_Lay X) (k_this : q_kd X this = some (14, 42)) {k4 : Int32 → Int32 → Option (Int32)} (hk4 : ∀ (x2 : Int32) (x3 : Int32), k4 x2 x3 = some z → g 0 0 4 [(0, .ref this), (1, .int x1), (2, .int x2), (3, .int x3)] [] I X) (x2 : Int32) (x3 : Int32) (h : b_X12_companyLasts_4 this x1 I k4 x2 x3 = some z) : g 0 0 4 [(0, .ref this), (1, .int x1), (2, .int x2), (3, .int x3)] [] I X := by
  unfold b_X12_companyLasts_4 at h
  refine r_iload_n hg 3 dX12_companyLasts_4 rfl rfl ?_
  refine r_aload_n hg 0 dX12_companyLasts_5 rfl rfl ?_
  have e1 := ly_12_0 hX k_this
  refine r_getR hg dX12_companyLasts_6 fl_X12_7 k_this rfl e1.1 ?_
  refine r_iconst hg dX12_companyLasts_9 ci_2 ?_
  obtain ⟨v2, e3, h⟩ := q_b1_some h
  refine r_iald hg dX12_companyLasts_10 e1.2 e3 ?_
  refine r_icmp_ge hg 84 dX12_companyLasts_11 (by decide) (fun c4 => ?_) (fun c4 => ?_)
  · rw [if_pos c4] at h
    refine r_aload_n hg 0 dX12_companyLasts_84 rfl rfl ?_
    have e5 := ly_12_0 hX k_this
    refine r_getR hg dX12_companyLasts_85 fl_X12_7 k_this rfl e5.1 ?_
    refine r_bipush hg dX12_companyLasts_88 cb_9 ?_
    obtain ⟨v6, e7, h⟩ := q_b1_some h
    refine r_iald hg dX12_companyLasts_90 e5.2 e7 ?_
    refine r_iload_n hg 2 dX12_companyLasts_91 rfl rfl ?_
    refine r_isub hg dX12_companyLasts_92 ?_
    refine r_istore_n hg (L' := [(3, .int (v6 - x2)), (0, .ref this), (1, .int x1), (2, .int x2)]) dX12_companyLasts_93 rfl (by decide) rfl ?_
    refine r_iload_n hg 0 dX12_companyLasts_94 rfl rfl ?_
    refine r_if_gt hg 104 dX12_companyLasts_95 (by decide) (fun c8 => ?_) (fun c8 => ?_)
    · rw [if_pos c8] at h
      refine r_sipush hg dX12_companyLasts_104 cs_999 ?_
      refine r_aload_n hg 1 dX12_companyLasts_107 rfl rfl ?_
      have e9 := ly_12_0 hX k_this
      refine r_getR hg dX12_companyLasts_108 fl_X12_7 k_this rfl e9.1 ?_
      refine r_bipush hg dX12_companyLasts_111 cb_8 ?_
      obtain ⟨v10, e11, h⟩ := q_b1_some h
      refine r_iald hg dX12_companyLasts_113 e9.2 e11 ?_
      refine r_iload_n hg 0 dX12_companyLasts_114 rfl rfl ?_
      by_cases c12 : (v6 - x2) = 0
      · rw [if_pos c12] at h; cases h
      rw [if_neg c12] at h
      refine r_idiv hg dX12_companyLasts_115 c12 ?_
      obtain ⟨v13, e14, h⟩ := q_b1_some h
      refine r_cS2i hg dX12_companyLasts_116 mt_X12_least ⟨ml_X12_138, mst_X12_least⟩ (s_X12_least hΓ hX e14) (q_room (Nat.le_of_ble_eq_true rfl) (Nat.le_of_ble_eq_true rfl)) ⟨Nat.zero_le _, Nat.zero_le _⟩ (Nat.le_of_ble_eq_true rfl) ?_
      exact r_ireturn hr dX12_companyLasts_119 ⟨Nat.zero_le _, Nat.zero_le _⟩ ⟨_, rfl, rfl⟩ (by cases h; rfl)
    · rw [if_neg c8] at h
      refine r_sipush hg dX12_companyLasts_98 cs_999 ?_
      refine r_goto hg 119 dX12_companyLasts_101 (by decide) ?_
      exact r_ireturn hr dX12_companyLasts_119 ⟨Nat.zero_le _, Nat.zero_le _⟩ ⟨_, rfl, rfl⟩ (by cases h; rfl)
  · rw [if_neg c4] at h
    refine r_aload_n hg 0 dX12_companyLasts_14 rfl rfl ?_
    refine r_iload_n hg 3 dX12_companyLasts_15 rfl rfl ?_
    obtain ⟨v15, e16, h⟩ := q_b1_some h
    refine r_cV1i hg dX12_companyLasts_16 mt_X12_manAt ml_X12_68 mv_X12_manAt k_this (s_X12_manAt hΓ hX k_this e16) (q_room (Nat.le_of_ble_eq_true rfl) (Nat.le_of_ble_eq_true rfl)) ⟨Nat.zero_le _, Nat.zero_le _⟩ (Nat.le_of_ble_eq_true rfl) ?_
    refine r_istore hg (L' := [(4, .int v15), (0, .ref this), (1, .int x1), (2, .int x2), (3, .int x3)]) dX12_companyLasts_19 (by decide) rfl ?_
    refine r_iload_n hg 3 dX12_companyLasts_21 rfl rfl ?_
    refine r_aload_n hg 1 dX12_companyLasts_22 rfl rfl ?_
    refine r_iload_n hg 4 dX12_companyLasts_23 rfl rfl ?_
    obtain ⟨v17, e18, h⟩ := q_b1_some h
    refine r_cV1i hg dX12_companyLasts_24 mt_X12_isGone ml_X12_93 mv_X12_isGone k_this (s_X12_isGone hΓ hX k_this e18) (q_room (Nat.le_of_ble_eq_true rfl) (Nat.le_of_ble_eq_true rfl)) ⟨Nat.zero_le _, Nat.zero_le _⟩ (Nat.le_of_ble_eq_true rfl) ?_
    refine r_if_ne hg 45 dX12_companyLasts_27 (by decide) (fun c19 => ?_) (fun c19 => ?_)
    · rw [if_neg c19] at h
      refine r_sub hg [1, 2, 4] rfl ?_
      exact p_X12_companyLasts_45 hΓ hg hr hX k_this hk4 _ _ h
    · rw [if_pos (Classical.not_not.mp c19)] at h
      refine r_iload_n hg 2 dX12_companyLasts_30 rfl rfl ?_
      refine r_aload_n hg 1 dX12_companyLasts_31 rfl rfl ?_
      have e20 := ly_12_0 hX k_this
      refine r_getR hg dX12_companyLasts_32 fl_X12_7 k_this rfl e20.1 ?_
      refine r_iload hg 0 dX12_companyLasts_35 rfl ?_
      obtain ⟨v21, e22, h⟩ := q_b1_some h
      refine r_iald hg dX12_companyLasts_37 e20.2 e22 ?_
      refine r_ishr hg dX12_companyLasts_38 ?_
      refine r_iconst hg dX12_companyLasts_39 ci_1 ?_
      refine r_iand hg dX12_companyLasts_40 ?_
      refine r_iconst hg dX12_companyLasts_41 ci_1 ?_
      refine r_icmp_ne hg 49 dX12_companyLasts_42 (by decide) (fun c23 => ?_) (fun c23 => ?_)
      · rw [if_neg c23] at h
        refine r_aload_n hg 1 dX12_companyLasts_49 rfl rfl ?_
        have e24 := ly_12_0 hX k_this
        refine r_getR hg dX12_companyLasts_50 fl_X12_7 k_this rfl e24.1 ?_
        refine r_iload hg 0 dX12_companyLasts_53 rfl ?_
        refine r_iconst hg dX12_companyLasts_55 ci_1 ?_
        refine r_iadd hg dX12_companyLasts_56 ?_
        obtain ⟨v25, e26, h⟩ := q_b1_some h
        refine r_iald hg dX12_companyLasts_57 e24.2 e26 ?_
        refine r_aload_n hg 1 dX12_companyLasts_58 rfl rfl ?_
        have e27 := ly_12_0 hX k_this
        refine r_getR hg dX12_companyLasts_59 fl_X12_7 k_this rfl e27.1 ?_
        refine r_bipush hg dX12_companyLasts_62 cb_10 ?_
        refine r_iconst hg dX12_companyLasts_64 ci_5 ?_
        refine r_aload_n hg 1 dX12_companyLasts_65 rfl rfl ?_
        have e28 := ly_12_0 hX k_this
        refine r_getR hg dX12_companyLasts_66 fl_X12_7 k_this rfl e28.1 ?_
        refine r_iload hg 0 dX12_companyLasts_69 rfl ?_
        obtain ⟨v29, e30, h⟩ := q_b1_some h
        refine r_iald hg dX12_companyLasts_71 e28.2 e30 ?_
        refine r_imul hg dX12_companyLasts_72 ?_
        refine r_iadd hg dX12_companyLasts_73 ?_
        obtain ⟨v31, e32, h⟩ := q_b1_some h
        refine r_iald hg dX12_companyLasts_74 e27.2 e32 ?_
        refine r_imul hg dX12_companyLasts_75 ?_
        refine r_sub hg [1, 2, 4] rfl ?_
        exact p_X12_companyLasts_76 hΓ hg hr hX k_this hk4 _ _ _ h
      · rw [if_pos (Classical.not_not.mp c23)] at h
        refine r_sub hg [1, 2, 4] rfl ?_
        exact p_X12_companyLasts_45 hΓ hg hr hX k_this hk4 _ _ h
theorem pl_X12_companyLasts_4 {l : Launch} {Γ : qC} {g : qG} {z : Int32} {this : Nat} {x1 : Int32} {X : qX} {I : qI} (hΓ : q_gm Γ) (hg : q_Ok l Γ RX12 cX12_companyLasts 5 (q_rm 4 0 0) "companyLasts" (some .int) g) (hr : q_Rt cX12_companyLasts (some .int) (q_rm 4 0 0) (some (.int z), I, X) g) (hX : q_Lay X) (k_this : q_kd X this = some (14, 42)) : ∀ (n : Nat) (x2 : Int32) (x3 : Int32), q_fix (fun _ _ => none) (b_X12_companyLasts_4 this x1 I) n x2 x3 = some z → g 0 0 4 [(0, .ref this), (1, .int x1), (2, .int x2), (3, .int x3)] [] I X := by
  intro n
  induction n with
  | zero =>
    intro x2 x3 h
    cases (show (none : Option (Int32)) = some z from h)
  | succ n ih =>
    intro x2 x3 h
    exact p_X12_companyLasts_4 hΓ hg hr hX k_this ih _ _ h
def f_X12_companyLasts (this : Nat) (x1 : Int32) (I : qI) : Option (Int32) :=
  q_fix (fun _ _ => none) (b_X12_companyLasts_4 this x1 I) q_fu (nI 0) (nI 0)
set_option maxRecDepth 100000 in
set_option maxHeartbeats 4000000 in
theorem s_X12_companyLasts {l : Launch} {Γ : qC} (hΓ : q_gm Γ) {X : qX} (hX : q_Lay X) {this : Nat} {x1 : Int32} (k_this : q_kd X this = some (14, 42)) {I : qI} {z : Int32} (h : f_X12_companyLasts this x1 I = some z) : q_Sem l Γ (q_rm 4 0 0) yX12_companyLasts cX12_companyLasts 5 (some .int) [.ref this, .int x1] I X (some (.int z), I, X) := by
  refine q_met (by decide) (Nat.le_of_ble_eq_true rfl) (fun g hg hr => ?_)
  unfold f_X12_companyLasts at h
  show g 0 0 0 [(0, .ref this), (1, .int x1)] [] I X
  refine r_iconst hg dX12_companyLasts_0 ci_0 ?_
  refine r_istore_n hg (L' := [(2, .int (nI 0)), (0, .ref this), (1, .int x1)]) dX12_companyLasts_1 rfl (by decide) rfl ?_
  refine r_iconst hg dX12_companyLasts_2 ci_0 ?_
  refine r_istore_n hg (L' := [(3, .int (nI 0)), (2, .int (nI 0)), (0, .ref this), (1, .int x1)]) dX12_companyLasts_3 rfl (by decide) rfl ?_
  refine r_sub hg [2, 3, 1, 0] rfl ?_
  exact pl_X12_companyLasts_4 hΓ hg hr hX k_this _ _ _ h

def b_X12_copy_151 (this : Nat) (x1 : Int32) (x2 : Int32) (x3 : Int32) (x4 : Int32) (x5 : Int32) (k151 : Int32 → qI → Option (Int32 × qI)) (x6 : Int32) (I : qI) : Option (Int32 × qI) :=
  if x5 ≤ x6 then
    some (x5, I)
  else
    q_b1 (q_rd I (this + 10) 30 x6) fun v4 =>
    q_b1 (q_wr I (this + 6) 240 ((((nI 30) * x3) + x4) + x6) v4) fun I6 =>
    k151 (x6 + (nI 1)) I6
set_option maxRecDepth 100000 in
set_option maxHeartbeats 4000000 in
theorem p_X12_copy_151 {l : Launch} {Γ : qC} {g : qG} {z : Int32 × qI} {this : Nat} {x1 : Int32} {x2 : Int32} {x3 : Int32} {x4 : Int32} {x5 : Int32} {X : qX} (hΓ : q_gm Γ) (hg : q_Ok l Γ RX12 cX12_copy 7 (q_rm 4 0 0) "copy" (some .int) g) (hr : q_Rt cX12_copy (some .int) (q_rm 4 0 0) (some (.int z.1), z.2, X) g) (hX : q_Lay X) (k_this : q_kd X this = some (14, 42)) {k151 : Int32 → qI → Option (Int32 × qI)} (hk151 : ∀ (x6 : Int32) (I : qI), k151 x6 I = some z → g 0 0 151 [(0, .ref this), (3, .int x3), (4, .int x4), (5, .int x5), (6, .int x6)] [] I X) (x6 : Int32) (I : qI) (h : b_X12_copy_151 this x1 x2 x3 x4 x5 k151 x6 I = some z) : g 0 0 151 [(0, .ref this), (3, .int x3), (4, .int x4), (5, .int x5), (6, .int x6)] [] I X := by
  unfold b_X12_copy_151 at h
  refine r_iload hg 4 dX12_copy_151 rfl ?_
  refine r_iload hg 3 dX12_copy_153 rfl ?_
  refine r_icmp_ge hg 186 dX12_copy_155 (by decide) (fun c1 => ?_) (fun c1 => ?_)
  · rw [if_pos c1] at h
    refine r_iload hg 3 dX12_copy_186 rfl ?_
    exact r_ireturn hr dX12_copy_188 ⟨Nat.zero_le _, Nat.zero_le _⟩ ⟨_, rfl, rfl⟩ (by cases h; rfl)
  · rw [if_neg c1] at h
    refine r_aload_n hg 0 dX12_copy_158 rfl rfl ?_
    have e2 := ly_12_6 hX k_this
    refine r_getR hg dX12_copy_159 fl_X12_25 k_this rfl e2.1 ?_
    refine r_bipush hg dX12_copy_162 cb_30 ?_
    refine r_iload_n hg 1 dX12_copy_164 rfl rfl ?_
    refine r_imul hg dX12_copy_165 ?_
    refine r_iload hg 2 dX12_copy_166 rfl ?_
    refine r_iadd hg dX12_copy_168 ?_
    refine r_iload hg 4 dX12_copy_169 rfl ?_
    refine r_iadd hg dX12_copy_171 ?_
    refine r_aload_n hg 0 dX12_copy_172 rfl rfl ?_
    have e3 := ly_12_28 hX k_this
    refine r_getR hg dX12_copy_173 fl_X12_37 k_this rfl e3.1 ?_
    refine r_iload hg 4 dX12_copy_176 rfl ?_
    obtain ⟨v4, e5, h⟩ := q_b1_some h
    refine r_iald hg dX12_copy_178 e3.2 e5 ?_
    obtain ⟨I6, e7, h⟩ := q_b1_some h
    refine r_iast hg dX12_copy_179 e2.2 e7 ?_
    refine r_iinc hg 4 (v := (x6 + (nI 1))) (L' := [(6, .int (x6 + (nI 1))), (0, .ref this), (3, .int x3), (4, .int x4), (5, .int x5)]) dX12_copy_180 rfl (by rw [ci_1]) (by decide) rfl ?_
    refine r_goto hg 151 dX12_copy_183 (by decide) ?_
    refine r_sub hg [1, 2, 3, 4, 0] rfl ?_
    exact hk151 _ _ h
theorem pl_X12_copy_151 {l : Launch} {Γ : qC} {g : qG} {z : Int32 × qI} {this : Nat} {x1 : Int32} {x2 : Int32} {x3 : Int32} {x4 : Int32} {x5 : Int32} {X : qX} (hΓ : q_gm Γ) (hg : q_Ok l Γ RX12 cX12_copy 7 (q_rm 4 0 0) "copy" (some .int) g) (hr : q_Rt cX12_copy (some .int) (q_rm 4 0 0) (some (.int z.1), z.2, X) g) (hX : q_Lay X) (k_this : q_kd X this = some (14, 42)) : ∀ (n : Nat) (x6 : Int32) (I : qI), q_fix (fun _ _ => none) (b_X12_copy_151 this x1 x2 x3 x4 x5) n x6 I = some z → g 0 0 151 [(0, .ref this), (3, .int x3), (4, .int x4), (5, .int x5), (6, .int x6)] [] I X := by
  intro n
  induction n with
  | zero =>
    intro x6 I h
    cases (show (none : Option (Int32 × qI)) = some z from h)
  | succ n ih =>
    intro x6 I h
    exact p_X12_copy_151 hΓ hg hr hX k_this ih _ _ h
def b_X12_copy_114 (this : Nat) (x1 : Int32) (x2 : Int32) (x3 : Int32) (x4 : Int32) (x5 : Int32) (k114 : Int32 → qI → Option (Int32 × qI)) (x6 : Int32) (I : qI) : Option (Int32 × qI) :=
  if x5 ≤ x6 then
    q_fix (fun _ _ => none) (b_X12_copy_151 this x1 x2 x3 x4 x5) q_fu (nI 0) I
  else
    q_b1 (q_rd I (this + 6) 240 ((((nI 30) * x1) + x2) + x6)) fun v4 =>
    q_b1 (q_wr I (this + 10) 30 x6 v4) fun I6 =>
    k114 (x6 + (nI 1)) I6
set_option maxRecDepth 100000 in
set_option maxHeartbeats 4000000 in
theorem p_X12_copy_114 {l : Launch} {Γ : qC} {g : qG} {z : Int32 × qI} {this : Nat} {x1 : Int32} {x2 : Int32} {x3 : Int32} {x4 : Int32} {x5 : Int32} {X : qX} (hΓ : q_gm Γ) (hg : q_Ok l Γ RX12 cX12_copy 7 (q_rm 4 0 0) "copy" (some .int) g) (hr : q_Rt cX12_copy (some .int) (q_rm 4 0 0) (some (.int z.1), z.2, X) g) (hX : q_Lay X) (k_this : q_kd X this = some (14, 42)) {k114 : Int32 → qI → Option (Int32 × qI)} (hk114 : ∀ (x6 : Int32) (I : qI), k114 x6 I = some z → g 0 0 114 [(0, .ref this), (1, .int x1), (2, .int x2), (3, .int x3), (4, .int x4), (5, .int x5), (6, .int x6)] [] I X) (x6 : Int32) (I : qI) (h : b_X12_copy_114 this x1 x2 x3 x4 x5 k114 x6 I = some z) : g 0 0 114 [(0, .ref this), (1, .int x1), (2, .int x2), (3, .int x3), (4, .int x4), (5, .int x5), (6, .int x6)] [] I X := by
  unfold b_X12_copy_114 at h
  refine r_iload hg 6 dX12_copy_114 rfl ?_
  refine r_iload hg 5 dX12_copy_116 rfl ?_
  refine r_icmp_ge hg 148 dX12_copy_118 (by decide) (fun c1 => ?_) (fun c1 => ?_)
  · rw [if_pos c1] at h
    refine r_iconst hg dX12_copy_148 ci_0 ?_
    refine r_istore hg (L' := [(6, .int (nI 0)), (0, .ref this), (1, .int x1), (2, .int x2), (3, .int x3), (4, .int x4), (5, .int x5)]) dX12_copy_149 (by decide) rfl ?_
    refine r_sub hg [1, 4, 5, 6, 0] rfl ?_
    exact pl_X12_copy_151 hΓ hg hr hX k_this _ _ _ h
  · rw [if_neg c1] at h
    refine r_aload_n hg 0 dX12_copy_121 rfl rfl ?_
    have e2 := ly_12_28 hX k_this
    refine r_getR hg dX12_copy_122 fl_X12_37 k_this rfl e2.1 ?_
    refine r_iload hg 6 dX12_copy_125 rfl ?_
    refine r_aload_n hg 0 dX12_copy_127 rfl rfl ?_
    have e3 := ly_12_6 hX k_this
    refine r_getR hg dX12_copy_128 fl_X12_25 k_this rfl e3.1 ?_
    refine r_bipush hg dX12_copy_131 cb_30 ?_
    refine r_iload_n hg 1 dX12_copy_133 rfl rfl ?_
    refine r_imul hg dX12_copy_134 ?_
    refine r_iload_n hg 2 dX12_copy_135 rfl rfl ?_
    refine r_iadd hg dX12_copy_136 ?_
    refine r_iload hg 6 dX12_copy_137 rfl ?_
    refine r_iadd hg dX12_copy_139 ?_
    obtain ⟨v4, e5, h⟩ := q_b1_some h
    refine r_iald hg dX12_copy_140 e3.2 e5 ?_
    obtain ⟨I6, e7, h⟩ := q_b1_some h
    refine r_iast hg dX12_copy_141 e2.2 e7 ?_
    refine r_iinc hg 6 (v := (x6 + (nI 1))) (L' := [(6, .int (x6 + (nI 1))), (0, .ref this), (1, .int x1), (2, .int x2), (3, .int x3), (4, .int x4), (5, .int x5)]) dX12_copy_142 rfl (by rw [ci_1]) (by decide) rfl ?_
    refine r_goto hg 114 dX12_copy_145 (by decide) ?_
    refine r_sub hg [1, 2, 3, 4, 5, 6, 0] rfl ?_
    exact hk114 _ _ h
theorem pl_X12_copy_114 {l : Launch} {Γ : qC} {g : qG} {z : Int32 × qI} {this : Nat} {x1 : Int32} {x2 : Int32} {x3 : Int32} {x4 : Int32} {x5 : Int32} {X : qX} (hΓ : q_gm Γ) (hg : q_Ok l Γ RX12 cX12_copy 7 (q_rm 4 0 0) "copy" (some .int) g) (hr : q_Rt cX12_copy (some .int) (q_rm 4 0 0) (some (.int z.1), z.2, X) g) (hX : q_Lay X) (k_this : q_kd X this = some (14, 42)) : ∀ (n : Nat) (x6 : Int32) (I : qI), q_fix (fun _ _ => none) (b_X12_copy_114 this x1 x2 x3 x4 x5) n x6 I = some z → g 0 0 114 [(0, .ref this), (1, .int x1), (2, .int x2), (3, .int x3), (4, .int x4), (5, .int x5), (6, .int x6)] [] I X := by
  intro n
  induction n with
  | zero =>
    intro x6 I h
    cases (show (none : Option (Int32 × qI)) = some z from h)
  | succ n ih =>
    intro x6 I h
    exact p_X12_copy_114 hΓ hg hr hX k_this ih _ _ h
def f_X12_copy (this : Nat) (x1 : Int32) (x2 : Int32) (x3 : Int32) (x4 : Int32) (x5 : Int32) (I : qI) : Option (Int32 × qI) :=
  q_b1 (f_X12_isPit x1) fun v1 =>
  if v1 = 0 then
    some ((-1000000001), I)
  else
    q_b1 (f_X12_isPit x3) fun v4 =>
    if v4 = 0 then
      some ((-1000000001), I)
    else
      q_b1 (q_rd I (this + 4) 8 x1) fun v8 =>
      if v8 < 0 then
        some ((-1000000011), I)
      else
        q_b1 (q_rd I (this + 4) 8 x3) fun v12 =>
        if 0 ≤ v12 then
          q_b1 (q_rd I (this + 4) 8 x1) fun v16 =>
          q_b1 (q_rd I (this + 4) 8 x3) fun v19 =>
          if v16 = v19 then
            if x2 < 0 then
              some ((-1000000013), I)
            else
              if x4 < 0 then
                some ((-1000000013), I)
              else
                if x5 < 0 then
                  some ((-1000000013), I)
                else
                  q_b1 (q_rd I (this + 5) 8 x1) fun v26 =>
                  if 0 < (lg_cmp (x2.toInt64 + x5.toInt64) v26.toInt64) then
                    some ((-1000000013), I)
                  else
                    q_b1 (q_rd I (this + 5) 8 x3) fun v30 =>
                    if (lg_cmp (x4.toInt64 + x5.toInt64) v30.toInt64) ≤ 0 then
                      q_fix (fun _ _ => none) (b_X12_copy_114 this x1 x2 x3 x4 x5) q_fu (nI 0) I
                    else
                      some ((-1000000013), I)
          else
            some ((-1000000012), I)
        else
          some ((-1000000011), I)
set_option maxRecDepth 100000 in
set_option maxHeartbeats 4000000 in
theorem s_X12_copy {l : Launch} {Γ : qC} (hΓ : q_gm Γ) {X : qX} (hX : q_Lay X) {this : Nat} {x1 : Int32} {x2 : Int32} {x3 : Int32} {x4 : Int32} {x5 : Int32} (k_this : q_kd X this = some (14, 42)) {I : qI} {z : Int32 × qI} (h : f_X12_copy this x1 x2 x3 x4 x5 I = some z) : q_Sem l Γ (q_rm 4 0 0) yX12_copy cX12_copy 7 (some .int) [.ref this, .int x1, .int x2, .int x3, .int x4, .int x5] I X (some (.int z.1), z.2, X) := by
  refine q_met (by decide) (Nat.le_of_ble_eq_true rfl) (fun g hg hr => ?_)
  unfold f_X12_copy at h
  show g 0 0 0 [(0, .ref this), (1, .int x1), (2, .int x2), (3, .int x3), (4, .int x4), (5, .int x5)] [] I X
  refine r_iload_n hg 1 dX12_copy_0 rfl rfl ?_
  obtain ⟨v1, e2, h⟩ := q_b1_some h
  refine r_cS1i hg dX12_copy_1 mt_X12_isPit ⟨ml_X12_78, mst_X12_isPit⟩ (s_X12_isPit hΓ hX e2) (q_room (Nat.le_of_ble_eq_true rfl) (Nat.le_of_ble_eq_true rfl)) ⟨Nat.zero_le _, Nat.zero_le _⟩ (Nat.le_of_ble_eq_true rfl) ?_
  refine r_if_eq hg 14 dX12_copy_4 (by decide) (fun c3 => ?_) (fun c3 => ?_)
  · rw [if_pos c3] at h
    refine r_ldc hg dX12_copy_14 kc_X12_90 ?_
    exact r_ireturn hr dX12_copy_16 ⟨Nat.zero_le _, Nat.zero_le _⟩ ⟨_, rfl, rfl⟩ (by cases h; rfl)
  · rw [if_neg c3] at h
    refine r_iload_n hg 3 dX12_copy_7 rfl rfl ?_
    obtain ⟨v4, e5, h⟩ := q_b1_some h
    refine r_cS1i hg dX12_copy_8 mt_X12_isPit ⟨ml_X12_78, mst_X12_isPit⟩ (s_X12_isPit hΓ hX e5) (q_room (Nat.le_of_ble_eq_true rfl) (Nat.le_of_ble_eq_true rfl)) ⟨Nat.zero_le _, Nat.zero_le _⟩ (Nat.le_of_ble_eq_true rfl) ?_
    refine r_if_ne hg 17 dX12_copy_11 (by decide) (fun c6 => ?_) (fun c6 => ?_)
    · rw [if_neg c6] at h
      refine r_aload_n hg 0 dX12_copy_17 rfl rfl ?_
      have e7 := ly_12_4 hX k_this
      refine r_getR hg dX12_copy_18 fl_X12_19 k_this rfl e7.1 ?_
      refine r_iload_n hg 1 dX12_copy_21 rfl rfl ?_
      obtain ⟨v8, e9, h⟩ := q_b1_some h
      refine r_iald hg dX12_copy_22 e7.2 e9 ?_
      refine r_if_lt hg 35 dX12_copy_23 (by decide) (fun c10 => ?_) (fun c10 => ?_)
      · rw [if_pos c10] at h
        refine r_ldcw hg dX12_copy_35 kc_X12_378 ?_
        exact r_ireturn hr dX12_copy_38 ⟨Nat.zero_le _, Nat.zero_le _⟩ ⟨_, rfl, rfl⟩ (by cases h; rfl)
      · rw [if_neg c10] at h
        refine r_aload_n hg 0 dX12_copy_26 rfl rfl ?_
        have e11 := ly_12_4 hX k_this
        refine r_getR hg dX12_copy_27 fl_X12_19 k_this rfl e11.1 ?_
        refine r_iload_n hg 3 dX12_copy_30 rfl rfl ?_
        obtain ⟨v12, e13, h⟩ := q_b1_some h
        refine r_iald hg dX12_copy_31 e11.2 e13 ?_
        refine r_if_ge hg 39 dX12_copy_32 (by decide) (fun c14 => ?_) (fun c14 => ?_)
        · rw [if_pos c14] at h
          refine r_aload_n hg 0 dX12_copy_39 rfl rfl ?_
          have e15 := ly_12_4 hX k_this
          refine r_getR hg dX12_copy_40 fl_X12_19 k_this rfl e15.1 ?_
          refine r_iload_n hg 1 dX12_copy_43 rfl rfl ?_
          obtain ⟨v16, e17, h⟩ := q_b1_some h
          refine r_iald hg dX12_copy_44 e15.2 e17 ?_
          refine r_aload_n hg 0 dX12_copy_45 rfl rfl ?_
          have e18 := ly_12_4 hX k_this
          refine r_getR hg dX12_copy_46 fl_X12_19 k_this rfl e18.1 ?_
          refine r_iload_n hg 3 dX12_copy_49 rfl rfl ?_
          obtain ⟨v19, e20, h⟩ := q_b1_some h
          refine r_iald hg dX12_copy_50 e18.2 e20 ?_
          refine r_icmp_eq hg 58 dX12_copy_51 (by decide) (fun c21 => ?_) (fun c21 => ?_)
          · rw [if_pos c21] at h
            refine r_iload_n hg 2 dX12_copy_58 rfl rfl ?_
            refine r_if_lt hg 107 dX12_copy_59 (by decide) (fun c22 => ?_) (fun c22 => ?_)
            · rw [if_pos c22] at h
              refine r_ldcw hg dX12_copy_107 kc_X12_379 ?_
              exact r_ireturn hr dX12_copy_110 ⟨Nat.zero_le _, Nat.zero_le _⟩ ⟨_, rfl, rfl⟩ (by cases h; rfl)
            · rw [if_neg c22] at h
              refine r_iload hg 4 dX12_copy_62 rfl ?_
              refine r_if_lt hg 107 dX12_copy_64 (by decide) (fun c23 => ?_) (fun c23 => ?_)
              · rw [if_pos c23] at h
                refine r_ldcw hg dX12_copy_107 kc_X12_379 ?_
                exact r_ireturn hr dX12_copy_110 ⟨Nat.zero_le _, Nat.zero_le _⟩ ⟨_, rfl, rfl⟩ (by cases h; rfl)
              · rw [if_neg c23] at h
                refine r_iload hg 5 dX12_copy_67 rfl ?_
                refine r_if_lt hg 107 dX12_copy_69 (by decide) (fun c24 => ?_) (fun c24 => ?_)
                · rw [if_pos c24] at h
                  refine r_ldcw hg dX12_copy_107 kc_X12_379 ?_
                  exact r_ireturn hr dX12_copy_110 ⟨Nat.zero_le _, Nat.zero_le _⟩ ⟨_, rfl, rfl⟩ (by cases h; rfl)
                · rw [if_neg c24] at h
                  refine r_iload_n hg 2 dX12_copy_72 rfl rfl ?_
                  refine r_i2l hg dX12_copy_73 ?_
                  refine r_iload hg 5 dX12_copy_74 rfl ?_
                  refine r_i2l hg dX12_copy_76 ?_
                  refine r_ladd hg dX12_copy_77 ?_
                  refine r_aload_n hg 0 dX12_copy_78 rfl rfl ?_
                  have e25 := ly_12_5 hX k_this
                  refine r_getR hg dX12_copy_79 fl_X12_22 k_this rfl e25.1 ?_
                  refine r_iload_n hg 1 dX12_copy_82 rfl rfl ?_
                  obtain ⟨v26, e27, h⟩ := q_b1_some h
                  refine r_iald hg dX12_copy_83 e25.2 e27 ?_
                  refine r_i2l hg dX12_copy_84 ?_
                  refine r_lcmp hg dX12_copy_85 ?_
                  refine r_if_gt hg 107 dX12_copy_86 (by decide) (fun c28 => ?_) (fun c28 => ?_)
                  · rw [if_pos c28] at h
                    refine r_ldcw hg dX12_copy_107 kc_X12_379 ?_
                    exact r_ireturn hr dX12_copy_110 ⟨Nat.zero_le _, Nat.zero_le _⟩ ⟨_, rfl, rfl⟩ (by cases h; rfl)
                  · rw [if_neg c28] at h
                    refine r_iload hg 4 dX12_copy_89 rfl ?_
                    refine r_i2l hg dX12_copy_91 ?_
                    refine r_iload hg 5 dX12_copy_92 rfl ?_
                    refine r_i2l hg dX12_copy_94 ?_
                    refine r_ladd hg dX12_copy_95 ?_
                    refine r_aload_n hg 0 dX12_copy_96 rfl rfl ?_
                    have e29 := ly_12_5 hX k_this
                    refine r_getR hg dX12_copy_97 fl_X12_22 k_this rfl e29.1 ?_
                    refine r_iload_n hg 3 dX12_copy_100 rfl rfl ?_
                    obtain ⟨v30, e31, h⟩ := q_b1_some h
                    refine r_iald hg dX12_copy_101 e29.2 e31 ?_
                    refine r_i2l hg dX12_copy_102 ?_
                    refine r_lcmp hg dX12_copy_103 ?_
                    refine r_if_le hg 111 dX12_copy_104 (by decide) (fun c32 => ?_) (fun c32 => ?_)
                    · rw [if_pos c32] at h
                      refine r_iconst hg dX12_copy_111 ci_0 ?_
                      refine r_istore hg (L' := [(6, .int (nI 0)), (0, .ref this), (1, .int x1), (2, .int x2), (3, .int x3), (4, .int x4), (5, .int x5)]) dX12_copy_112 (by decide) rfl ?_
                      refine r_sub hg [1, 2, 3, 4, 5, 6, 0] rfl ?_
                      exact pl_X12_copy_114 hΓ hg hr hX k_this _ _ _ h
                    · rw [if_neg c32] at h
                      refine r_ldcw hg dX12_copy_107 kc_X12_379 ?_
                      exact r_ireturn hr dX12_copy_110 ⟨Nat.zero_le _, Nat.zero_le _⟩ ⟨_, rfl, rfl⟩ (by cases h; rfl)
          · rw [if_neg c21] at h
            refine r_ldcw hg dX12_copy_54 kc_X12_356 ?_
            exact r_ireturn hr dX12_copy_57 ⟨Nat.zero_le _, Nat.zero_le _⟩ ⟨_, rfl, rfl⟩ (by cases h; rfl)
        · rw [if_neg c14] at h
          refine r_ldcw hg dX12_copy_35 kc_X12_378 ?_
          exact r_ireturn hr dX12_copy_38 ⟨Nat.zero_le _, Nat.zero_le _⟩ ⟨_, rfl, rfl⟩ (by cases h; rfl)
    · rw [if_pos (Classical.not_not.mp c6)] at h
      refine r_ldc hg dX12_copy_14 kc_X12_90 ?_
      exact r_ireturn hr dX12_copy_16 ⟨Nat.zero_le _, Nat.zero_le _⟩ ⟨_, rfl, rfl⟩ (by cases h; rfl)

def b_X12_dueFor_27 (this : Nat) (x1 : Int32) (s0 : Int32) (I : qI) : Option (Int32 × qI) :=
  q_b1 (f_X12_held s0 (nI 1) (nI 99)) fun v1 =>
  some (v1, I)
set_option maxRecDepth 100000 in
set_option maxHeartbeats 4000000 in
theorem p_X12_dueFor_27 {l : Launch} {Γ : qC} {g : qG} {z : Int32 × qI} {this : Nat} {x1 : Int32} {X : qX} (hΓ : q_gm Γ) (hg : q_Ok l Γ RX12 cX12_dueFor 3 (q_rm 4 0 0) "dueFor" (some .int) g) (hr : q_Rt cX12_dueFor (some .int) (q_rm 4 0 0) (some (.int z.1), z.2, X) g) (hX : q_Lay X) (k_this : q_kd X this = some (14, 42)) (s0 : Int32) (I : qI) (h : b_X12_dueFor_27 this x1 s0 I = some z) : g 0 0 27 [] [.int s0] I X := by
  unfold b_X12_dueFor_27 at h
  refine r_iconst hg dX12_dueFor_27 ci_1 ?_
  refine r_bipush hg dX12_dueFor_28 cb_99 ?_
  obtain ⟨v1, e2, h⟩ := q_b1_some h
  refine r_cS3i hg dX12_dueFor_30 mt_X12_held ⟨ml_X12_325, mst_X12_held⟩ (s_X12_held hΓ hX e2) (q_room (Nat.le_of_ble_eq_true rfl) (Nat.le_of_ble_eq_true rfl)) ⟨Nat.zero_le _, Nat.zero_le _⟩ (Nat.le_of_ble_eq_true rfl) ?_
  exact r_ireturn hr dX12_dueFor_33 ⟨Nat.zero_le _, Nat.zero_le _⟩ ⟨_, rfl, rfl⟩ (by cases h; rfl)
def f_X12_dueFor (this : Nat) (x1 : Int32) (I : qI) : Option (Int32 × qI) :=
  q_b1 (f_X12_counts this (nI 2) I) fun v1 =>
  q_b1 (q_wr I (this + 8) 128 (nI 119) x1) fun I4 =>
  if 0 ≤ v1 then
    q_b2 (f_X12_worked this v1 I4) fun v7 I8 =>
    b_X12_dueFor_27 this x1 v7 I8
  else
    b_X12_dueFor_27 this x1 (nI 1) I4
set_option maxRecDepth 100000 in
set_option maxHeartbeats 4000000 in
theorem s_X12_dueFor {l : Launch} {Γ : qC} (hΓ : q_gm Γ) {X : qX} (hX : q_Lay X) {this : Nat} {x1 : Int32} (k_this : q_kd X this = some (14, 42)) {I : qI} {z : Int32 × qI} (h : f_X12_dueFor this x1 I = some z) : q_Sem l Γ (q_rm 4 0 0) yX12_dueFor cX12_dueFor 3 (some .int) [.ref this, .int x1] I X (some (.int z.1), z.2, X) := by
  refine q_met (by decide) (Nat.le_of_ble_eq_true rfl) (fun g hg hr => ?_)
  unfold f_X12_dueFor at h
  show g 0 0 0 [(0, .ref this), (1, .int x1)] [] I X
  refine r_aload_n hg 0 dX12_dueFor_0 rfl rfl ?_
  refine r_iconst hg dX12_dueFor_1 ci_2 ?_
  obtain ⟨v1, e2, h⟩ := q_b1_some h
  refine r_cV1i hg dX12_dueFor_2 mt_X12_counts ml_X12_313 mv_X12_counts k_this (s_X12_counts hΓ hX k_this e2) (q_room (Nat.le_of_ble_eq_true rfl) (Nat.le_of_ble_eq_true rfl)) ⟨Nat.zero_le _, Nat.zero_le _⟩ (Nat.le_of_ble_eq_true rfl) ?_
  refine r_istore_n hg (L' := [(2, .int v1), (0, .ref this), (1, .int x1)]) dX12_dueFor_5 rfl (by decide) rfl ?_
  refine r_aload_n hg 1 dX12_dueFor_6 rfl rfl ?_
  have e3 := ly_12_26 hX k_this
  refine r_getR hg dX12_dueFor_7 fl_X12_31 k_this rfl e3.1 ?_
  refine r_bipush hg dX12_dueFor_10 cb_119 ?_
  refine r_iload_n hg 2 dX12_dueFor_12 rfl rfl ?_
  obtain ⟨I4, e5, h⟩ := q_b1_some h
  refine r_iast hg dX12_dueFor_13 e3.2 e5 ?_
  refine r_iload_n hg 0 dX12_dueFor_14 rfl rfl ?_
  refine r_if_ge hg 22 dX12_dueFor_15 (by decide) (fun c6 => ?_) (fun c6 => ?_)
  · rw [if_pos c6] at h
    refine r_aload_n hg 1 dX12_dueFor_22 rfl rfl ?_
    refine r_iload_n hg 0 dX12_dueFor_23 rfl rfl ?_
    obtain ⟨v7, I8, e9, h⟩ := q_b2_some h
    refine r_cV1i hg dX12_dueFor_24 mt_X12_worked ml_X12_322 mv_X12_worked k_this (s_X12_worked hΓ hX k_this e9) (q_room (Nat.le_of_ble_eq_true rfl) (Nat.le_of_ble_eq_true rfl)) ⟨Nat.zero_le _, Nat.zero_le _⟩ (Nat.le_of_ble_eq_true rfl) ?_
    refine r_sub hg [] rfl ?_
    exact p_X12_dueFor_27 hΓ hg hr hX k_this _ _ h
  · rw [if_neg c6] at h
    refine r_iconst hg dX12_dueFor_18 ci_1 ?_
    refine r_goto hg 27 dX12_dueFor_19 (by decide) ?_
    refine r_sub hg [] rfl ?_
    exact p_X12_dueFor_27 hΓ hg hr hX k_this _ _ h
