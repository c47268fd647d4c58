theorem dX11_firstWrong_0 : q_at cX11_firstWrong 0 (.iconst 0) 1 1 := ⟨by decide +kernel, rfl⟩
theorem dX11_firstWrong_1 : q_at cX11_firstWrong 1 (.istore_n 3) 1 2 := ⟨by decide +kernel, rfl⟩
theorem dX11_firstWrong_2 : q_at cX11_firstWrong 2 (.iload_n 3) 1 3 := ⟨by decide +kernel, rfl⟩
theorem dX11_firstWrong_3 : q_at cX11_firstWrong 3 (.iload_n 2) 1 4 := ⟨by decide +kernel, rfl⟩
theorem dX11_firstWrong_4 : q_at cX11_firstWrong 4 (.if_icmp .ge 33) 3 7 := ⟨by decide +kernel, rfl⟩
theorem dX11_firstWrong_7 : q_at cX11_firstWrong 7 (.iload_n 3) 1 8 := ⟨by decide +kernel, rfl⟩
theorem dX11_firstWrong_8 : q_at cX11_firstWrong 8 (.iload_n 1) 1 9 := ⟨by decide +kernel, rfl⟩
theorem dX11_firstWrong_9 : q_at cX11_firstWrong 9 (.if_icmp .ge 18) 3 12 := ⟨by decide +kernel, rfl⟩
theorem dX11_firstWrong_12 : q_at cX11_firstWrong 12 (.aload_n 0) 1 13 := ⟨by decide +kernel, rfl⟩
theorem dX11_firstWrong_13 : q_at cX11_firstWrong 13 (.getfield 36) 3 16 := ⟨by decide +kernel, rfl⟩
theorem dX11_firstWrong_16 : q_at cX11_firstWrong 16 (.iload_n 3) 1 17 := ⟨by decide +kernel, rfl⟩
theorem dX11_firstWrong_17 : q_at cX11_firstWrong 17 (.iaload) 1 18 := ⟨by decide +kernel, rfl⟩
theorem dX11_firstWrong_18 : q_at cX11_firstWrong 18 (.aload_n 0) 1 19 := ⟨by decide +kernel, rfl⟩
theorem dX11_firstWrong_19 : q_at cX11_firstWrong 19 (.getfield 40) 3 22 := ⟨by decide +kernel, rfl⟩
theorem dX11_firstWrong_22 : q_at cX11_firstWrong 22 (.iload_n 3) 1 23 := ⟨by decide +kernel, rfl⟩
theorem dX11_firstWrong_23 : q_at cX11_firstWrong 23 (.iaload) 1 24 := ⟨by decide +kernel, rfl⟩
theorem dX11_firstWrong_24 : q_at cX11_firstWrong 24 (.if_icmp .eq 7) 3 27 := ⟨by decide +kernel, rfl⟩
theorem dX11_firstWrong_27 : q_at cX11_firstWrong 27 (.iconst 1) 1 28 := ⟨by decide +kernel, rfl⟩
theorem dX11_firstWrong_28 : q_at cX11_firstWrong 28 (.iload_n 3) 1 29 := ⟨by decide +kernel, rfl⟩
theorem dX11_firstWrong_29 : q_at cX11_firstWrong 29 (.iadd) 1 30 := ⟨by decide +kernel, rfl⟩
theorem dX11_firstWrong_30 : q_at cX11_firstWrong 30 (.ireturn) 1 31 := ⟨by decide +kernel, rfl⟩
theorem dX11_firstWrong_31 : q_at cX11_firstWrong 31 (.iinc 3 1) 3 34 := ⟨by decide +kernel, rfl⟩
theorem dX11_firstWrong_34 : q_at cX11_firstWrong 34 (.goto (-32)) 3 37 := ⟨by decide +kernel, rfl⟩
theorem dX11_firstWrong_37 : q_at cX11_firstWrong 37 (.iload_n 1) 1 38 := ⟨by decide +kernel, rfl⟩
theorem dX11_firstWrong_38 : q_at cX11_firstWrong 38 (.iload_n 2) 1 39 := ⟨by decide +kernel, rfl⟩
theorem dX11_firstWrong_39 : q_at cX11_firstWrong 39 (.if_icmp .le 9) 3 42 := ⟨by decide +kernel, rfl⟩
theorem dX11_firstWrong_42 : q_at cX11_firstWrong 42 (.iconst 1) 1 43 := ⟨by decide +kernel, rfl⟩
theorem dX11_firstWrong_43 : q_at cX11_firstWrong 43 (.iload_n 2) 1 44 := ⟨by decide +kernel, rfl⟩
theorem dX11_firstWrong_44 : q_at cX11_firstWrong 44 (.iadd) 1 45 := ⟨by decide +kernel, rfl⟩
theorem dX11_firstWrong_45 : q_at cX11_firstWrong 45 (.goto 4) 3 48 := ⟨by decide +kernel, rfl⟩
theorem dX11_firstWrong_48 : q_at cX11_firstWrong 48 (.iconst 0) 1 49 := ⟨by decide +kernel, rfl⟩
theorem dX11_firstWrong_49 : q_at cX11_firstWrong 49 (.ireturn) 1 50 := ⟨by decide +kernel, rfl⟩
theorem dX11_tell_0 : q_at cX11_tell 0 (.aload_n 0) 1 1 := ⟨by decide +kernel, rfl⟩
theorem dX11_tell_1 : q_at cX11_tell 1 (.getfield 43) 3 4 := ⟨by decide +kernel, rfl⟩
theorem dX11_tell_4 : q_at cX11_tell 4 (.bipush 60) 2 6 := ⟨by decide +kernel, rfl⟩
theorem dX11_tell_6 : q_at cX11_tell 6 (.if_icmp .lt 6) 3 9 := ⟨by decide +kernel, rfl⟩
theorem dX11_tell_9 : q_at cX11_tell 9 (.ldc 114) 2 11 := ⟨by decide +kernel, rfl⟩
theorem dX11_tell_11 : q_at cX11_tell 11 (.ireturn) 1 12 := ⟨by decide +kernel, rfl⟩
theorem dX11_tell_12 : q_at cX11_tell 12 (.aload_n 0) 1 13 := ⟨by decide +kernel, rfl⟩
theorem dX11_tell_13 : q_at cX11_tell 13 (.getfield 36) 3 16 := ⟨by decide +kernel, rfl⟩
theorem dX11_tell_16 : q_at cX11_tell 16 (.aload_n 0) 1 17 := ⟨by decide +kernel, rfl⟩
theorem dX11_tell_17 : q_at cX11_tell 17 (.getfield 43) 3 20 := ⟨by decide +kernel, rfl⟩
theorem dX11_tell_20 : q_at cX11_tell 20 (.iload_n 1) 1 21 := ⟨by decide +kernel, rfl⟩
theorem dX11_tell_21 : q_at cX11_tell 21 (.iastore) 1 22 := ⟨by decide +kernel, rfl⟩
theorem dX11_tell_22 : q_at cX11_tell 22 (.aload_n 0) 1 23 := ⟨by decide +kernel, rfl⟩
theorem dX11_tell_23 : q_at cX11_tell 23 (.dup) 1 24 := ⟨by decide +kernel, rfl⟩
theorem dX11_tell_24 : q_at cX11_tell 24 (.getfield 43) 3 27 := ⟨by decide +kernel, rfl⟩
theorem dX11_tell_27 : q_at cX11_tell 27 (.iconst 1) 1 28 := ⟨by decide +kernel, rfl⟩
theorem dX11_tell_28 : q_at cX11_tell 28 (.iadd) 1 29 := ⟨by decide +kernel, rfl⟩
theorem dX11_tell_29 : q_at cX11_tell 29 (.putfield 43) 3 32 := ⟨by decide +kernel, rfl⟩
theorem dX11_tell_32 : q_at cX11_tell 32 (.aload_n 0) 1 33 := ⟨by decide +kernel, rfl⟩
theorem dX11_tell_33 : q_at cX11_tell 33 (.getfield 43) 3 36 := ⟨by decide +kernel, rfl⟩
theorem dX11_tell_36 : q_at cX11_tell 36 (.ireturn) 1 37 := ⟨by decide +kernel, rfl⟩
theorem dX11_within_0 : q_at cX11_within 0 (.iload_n 0) 1 1 := ⟨by decide +kernel, rfl⟩
theorem dX11_within_1 : q_at cX11_within 1 (.iload_n 1) 1 2 := ⟨by decide +kernel, rfl⟩
theorem dX11_within_2 : q_at cX11_within 2 (.if_icmp .lt 12) 3 5 := ⟨by decide +kernel, rfl⟩
theorem dX11_within_5 : q_at cX11_within 5 (.iload_n 0) 1 6 := ⟨by decide +kernel, rfl⟩
theorem dX11_within_6 : q_at cX11_within 6 (.iload_n 2) 1 7 := ⟨by decide +kernel, rfl⟩
theorem dX11_within_7 : q_at cX11_within 7 (.if_icmp .gt 7) 3 10 := ⟨by decide +kernel, rfl⟩
theorem dX11_within_10 : q_at cX11_within 10 (.iconst 1) 1 11 := ⟨by decide +kernel, rfl⟩
theorem dX11_within_11 : q_at cX11_within 11 (.goto 4) 3 14 := ⟨by decide +kernel, rfl⟩
theorem dX11_within_14 : q_at cX11_within 14 (.iconst 0) 1 15 := ⟨by decide +kernel, rfl⟩
theorem dX11_within_15 : q_at cX11_within 15 (.ireturn) 1 16 := ⟨by decide +kernel, rfl⟩
theorem dX11_as_0 : q_at cX11_as 0 (.aload_n 0) 1 1 := ⟨by decide +kernel, rfl⟩
theorem dX11_as_1 : q_at cX11_as 1 (.getfield 10) 3 4 := ⟨by decide +kernel, rfl⟩
theorem dX11_as_4 : q_at cX11_as 4 (.getfield 107) 3 7 := ⟨by decide +kernel, rfl⟩
theorem dX11_as_7 : q_at cX11_as 7 (.iload_n 1) 1 8 := ⟨by decide +kernel, rfl⟩
theorem dX11_as_8 : q_at cX11_as 8 (.invokevirtual 175) 3 11 := ⟨by decide +kernel, rfl⟩
theorem dX11_as_11 : q_at cX11_as 11 (.ifCond .eq 13) 3 14 := ⟨by decide +kernel, rfl⟩
theorem dX11_as_14 : q_at cX11_as 14 (.iload_n 2) 1 15 := ⟨by decide +kernel, rfl⟩
theorem dX11_as_15 : q_at cX11_as 15 (.iconst 0) 1 16 := ⟨by decide +kernel, rfl⟩
theorem dX11_as_16 : q_at cX11_as 16 (.bipush 6) 2 18 := ⟨by decide +kernel, rfl⟩
theorem dX11_as_18 : q_at cX11_as 18 (.invokestatic 53) 3 21 := ⟨by decide +kernel, rfl⟩
theorem dX11_as_21 : q_at cX11_as 21 (.ifCond .ne 6) 3 24 := ⟨by decide +kernel, rfl⟩
theorem dX11_as_24 : q_at cX11_as 24 (.ldc 57) 2 26 := ⟨by decide +kernel, rfl⟩
theorem dX11_as_26 : q_at cX11_as 26 (.ireturn) 1 27 := ⟨by decide +kernel, rfl⟩
theorem dX11_as_27 : q_at cX11_as 27 (.aload_n 0) 1 28 := ⟨by decide +kernel, rfl⟩
theorem dX11_as_28 : q_at cX11_as 28 (.getfield 10) 3 31 := ⟨by decide +kernel, rfl⟩
theorem dX11_as_31 : q_at cX11_as 31 (.getfield 107) 3 34 := ⟨by decide +kernel, rfl⟩
theorem dX11_as_34 : q_at cX11_as 34 (.getfield 176) 3 37 := ⟨by decide +kernel, rfl⟩
theorem dX11_as_37 : q_at cX11_as 37 (.iload_n 1) 1 38 := ⟨by decide +kernel, rfl⟩
theorem dX11_as_38 : q_at cX11_as 38 (.iaload) 1 39 := ⟨by decide +kernel, rfl⟩
theorem dX11_as_39 : q_at cX11_as 39 (.iload_n 2) 1 40 := ⟨by decide +kernel, rfl⟩
theorem dX11_as_40 : q_at cX11_as 40 (.invokestatic 193) 3 43 := ⟨by decide +kernel, rfl⟩
theorem dX11_as_43 : q_at cX11_as 43 (.ifCond .eq 18) 3 46 := ⟨by decide +kernel, rfl⟩
theorem dX11_as_46 : q_at cX11_as 46 (.aload_n 0) 1 47 := ⟨by decide +kernel, rfl⟩
theorem dX11_as_47 : q_at cX11_as 47 (.getfield 10) 3 50 := ⟨by decide +kernel, rfl⟩
theorem dX11_as_50 : q_at cX11_as 50 (.getfield 107) 3 53 := ⟨by decide +kernel, rfl⟩
theorem dX11_as_53 : q_at cX11_as 53 (.getfield 183) 3 56 := ⟨by decide +kernel, rfl⟩
theorem dX11_as_56 : q_at cX11_as 56 (.iload_n 1) 1 57 := ⟨by decide +kernel, rfl⟩
theorem dX11_as_57 : q_at cX11_as 57 (.iaload) 1 58 := ⟨by decide +kernel, rfl⟩
theorem dX11_as_58 : q_at cX11_as 58 (.goto 5) 3 61 := ⟨by decide +kernel, rfl⟩
theorem dX11_as_61 : q_at cX11_as 61 (.ldc 179) 2 63 := ⟨by decide +kernel, rfl⟩
theorem dX11_as_63 : q_at cX11_as 63 (.ireturn) 1 64 := ⟨by decide +kernel, rfl⟩
theorem dX11_bookFinding_0 : q_at cX11_bookFinding 0 (.iload_n 1) 1 1 := ⟨by decide +kernel, rfl⟩
theorem dX11_bookFinding_1 : q_at cX11_bookFinding 1 (.iconst 0) 1 2 := ⟨by decide +kernel, rfl⟩
theorem dX11_bookFinding_2 : q_at cX11_bookFinding 2 (.bipush 7) 2 4 := ⟨by decide +kernel, rfl⟩
theorem dX11_bookFinding_4 : q_at cX11_bookFinding 4 (.invokestatic 53) 3 7 := ⟨by decide +kernel, rfl⟩
theorem dX11_bookFinding_7 : q_at cX11_bookFinding 7 (.ifCond .ne 6) 3 10 := ⟨by decide +kernel, rfl⟩
theorem dX11_bookFinding_10 : q_at cX11_bookFinding 10 (.ldc 57) 2 12 := ⟨by decide +kernel, rfl⟩
theorem dX11_bookFinding_12 : q_at cX11_bookFinding 12 (.ireturn) 1 13 := ⟨by decide +kernel, rfl⟩
theorem dX11_bookFinding_13 : q_at cX11_bookFinding 13 (.aload_n 0) 1 14 := ⟨by decide +kernel, rfl⟩
theorem dX11_bookFinding_14 : q_at cX11_bookFinding 14 (.getfield 32) 3 17 := ⟨by decide +kernel, rfl⟩
theorem dX11_bookFinding_17 : q_at cX11_bookFinding 17 (.iload_n 1) 1 18 := ⟨by decide +kernel, rfl⟩
theorem dX11_bookFinding_18 : q_at cX11_bookFinding 18 (.invokevirtual 303) 3 21 := ⟨by decide +kernel, rfl⟩
theorem dX11_bookFinding_21 : q_at cX11_bookFinding 21 (.ifCond .eq 7) 3 24 := ⟨by decide +kernel, rfl⟩
theorem dX11_bookFinding_24 : q_at cX11_bookFinding 24 (.ldc_w 306) 3 27 := ⟨by decide +kernel, rfl⟩
theorem dX11_bookFinding_27 : q_at cX11_bookFinding 27 (.ireturn) 1 28 := ⟨by decide +kernel, rfl⟩
theorem dX11_bookFinding_28 : q_at cX11_bookFinding 28 (.aload_n 0) 1 29 := ⟨by decide +kernel, rfl⟩
theorem dX11_bookFinding_29 : q_at cX11_bookFinding 29 (.getfield 32) 3 32 := ⟨by decide +kernel, rfl⟩
theorem dX11_bookFinding_32 : q_at cX11_bookFinding 32 (.iload_n 1) 1 33 := ⟨by decide +kernel, rfl⟩
theorem dX11_bookFinding_33 : q_at cX11_bookFinding 33 (.iload_n 2) 1 34 := ⟨by decide +kernel, rfl⟩
theorem dX11_bookFinding_34 : q_at cX11_bookFinding 34 (.invokevirtual 307) 3 37 := ⟨by decide +kernel, rfl⟩
theorem dX11_bookFinding_37 : q_at cX11_bookFinding 37 (.ifCond .eq 7) 3 40 := ⟨by decide +kernel, rfl⟩
theorem dX11_bookFinding_40 : q_at cX11_bookFinding 40 (.iconst 0) 1 41 := ⟨by decide +kernel, rfl⟩
theorem dX11_bookFinding_41 : q_at cX11_bookFinding 41 (.goto 6) 3 44 := ⟨by decide +kernel, rfl⟩
theorem dX11_bookFinding_44 : q_at cX11_bookFinding 44 (.ldc_w 310) 3 47 := ⟨by decide +kernel, rfl⟩
theorem dX11_bookFinding_47 : q_at cX11_bookFinding 47 (.ireturn) 1 48 := ⟨by decide +kernel, rfl⟩
theorem dX11_breach_0 : q_at cX11_breach 0 (.iload_n 1) 1 1 := ⟨by decide +kernel, rfl⟩
theorem dX11_breach_1 : q_at cX11_breach 1 (.iconst 0) 1 2 := ⟨by decide +kernel, rfl⟩
theorem dX11_breach_2 : q_at cX11_breach 2 (.iconst 3) 1 3 := ⟨by decide +kernel, rfl⟩
theorem dX11_breach_3 : q_at cX11_breach 3 (.invokestatic 53) 3 6 := ⟨by decide +kernel, rfl⟩
theorem dX11_breach_6 : q_at cX11_breach 6 (.ifCond .eq 23) 3 9 := ⟨by decide +kernel, rfl⟩
theorem dX11_breach_9 : q_at cX11_breach 9 (.iload_n 2) 1 10 := ⟨by decide +kernel, rfl⟩
theorem dX11_breach_10 : q_at cX11_breach 10 (.iconst 0) 1 11 := ⟨by decide +kernel, rfl⟩
theorem dX11_breach_11 : q_at cX11_breach 11 (.bipush 6) 2 13 := ⟨by decide +kernel, rfl⟩
theorem dX11_breach_13 : q_at cX11_breach 13 (.invokestatic 53) 3 16 := ⟨by decide +kernel, rfl⟩
theorem dX11_breach_16 : q_at cX11_breach 16 (.ifCond .eq 13) 3 19 := ⟨by decide +kernel, rfl⟩
theorem dX11_breach_19 : q_at cX11_breach 19 (.iload_n 3) 1 20 := ⟨by decide +kernel, rfl⟩
theorem dX11_breach_20 : q_at cX11_breach 20 (.iload_n 2) 1 21 := ⟨by decide +kernel, rfl⟩
theorem dX11_breach_21 : q_at cX11_breach 21 (.bipush 6) 2 23 := ⟨by decide +kernel, rfl⟩
theorem dX11_breach_23 : q_at cX11_breach 23 (.invokestatic 53) 3 26 := ⟨by decide +kernel, rfl⟩
theorem dX11_breach_26 : q_at cX11_breach 26 (.ifCond .ne 6) 3 29 := ⟨by decide +kernel, rfl⟩
theorem dX11_breach_29 : q_at cX11_breach 29 (.ldc 57) 2 31 := ⟨by decide +kernel, rfl⟩
theorem dX11_breach_31 : q_at cX11_breach 31 (.ireturn) 1 32 := ⟨by decide +kernel, rfl⟩
theorem dX11_breach_32 : q_at cX11_breach 32 (.aload_n 0) 1 33 := ⟨by decide +kernel, rfl⟩
theorem dX11_breach_33 : q_at cX11_breach 33 (.getfield 10) 3 36 := ⟨by decide +kernel, rfl⟩
theorem dX11_breach_36 : q_at cX11_breach 36 (.getfield 354) 3 39 := ⟨by decide +kernel, rfl⟩
theorem dX11_breach_39 : q_at cX11_breach 39 (.iload_n 1) 1 40 := ⟨by decide +kernel, rfl⟩
theorem dX11_breach_40 : q_at cX11_breach 40 (.iload_n 2) 1 41 := ⟨by decide +kernel, rfl⟩
theorem dX11_breach_41 : q_at cX11_breach 41 (.iload_n 3) 1 42 := ⟨by decide +kernel, rfl⟩
theorem dX11_breach_42 : q_at cX11_breach 42 (.invokevirtual 358) 3 45 := ⟨by decide +kernel, rfl⟩
theorem dX11_breach_45 : q_at cX11_breach 45 (.ireturn) 1 46 := ⟨by decide +kernel, rfl⟩
theorem dX11_choice_0 : q_at cX11_choice 0 (.iload_n 1) 1 1 := ⟨by decide +kernel, rfl⟩
theorem dX11_choice_1 : q_at cX11_choice 1 (.iconst 0) 1 2 := ⟨by decide +kernel, rfl⟩
theorem dX11_choice_2 : q_at cX11_choice 2 (.sipush 999) 3 5 := ⟨by decide +kernel, rfl⟩
theorem dX11_choice_5 : q_at cX11_choice 5 (.invokestatic 53) 3 8 := ⟨by decide +kernel, rfl⟩
theorem dX11_choice_8 : q_at cX11_choice 8 (.ifCond .eq 24) 3 11 := ⟨by decide +kernel, rfl⟩
theorem dX11_choice_11 : q_at cX11_choice 11 (.iload_n 2) 1 12 := ⟨by decide +kernel, rfl⟩
theorem dX11_choice_12 : q_at cX11_choice 12 (.iconst 0) 1 13 := ⟨by decide +kernel, rfl⟩
theorem dX11_choice_13 : q_at cX11_choice 13 (.bipush 99) 2 15 := ⟨by decide +kernel, rfl⟩
theorem dX11_choice_15 : q_at cX11_choice 15 (.invokestatic 53) 3 18 := ⟨by decide +kernel, rfl⟩
theorem dX11_choice_18 : q_at cX11_choice 18 (.ifCond .eq 14) 3 21 := ⟨by decide +kernel, rfl⟩
theorem dX11_choice_21 : q_at cX11_choice 21 (.iload_n 3) 1 22 := ⟨by decide +kernel, rfl⟩
theorem dX11_choice_22 : q_at cX11_choice 22 (.iconst 0) 1 23 := ⟨by decide +kernel, rfl⟩
theorem dX11_choice_23 : q_at cX11_choice 23 (.sipush 255) 3 26 := ⟨by decide +kernel, rfl⟩
theorem dX11_choice_26 : q_at cX11_choice 26 (.invokestatic 53) 3 29 := ⟨by decide +kernel, rfl⟩
theorem dX11_choice_29 : q_at cX11_choice 29 (.ifCond .ne 6) 3 32 := ⟨by decide +kernel, rfl⟩
theorem dX11_choice_32 : q_at cX11_choice 32 (.ldc 57) 2 34 := ⟨by decide +kernel, rfl⟩
theorem dX11_choice_34 : q_at cX11_choice 34 (.ireturn) 1 35 := ⟨by decide +kernel, rfl⟩
theorem dX11_choice_35 : q_at cX11_choice 35 (.aload_n 0) 1 36 := ⟨by decide +kernel, rfl⟩
theorem dX11_choice_36 : q_at cX11_choice 36 (.getfield 10) 3 39 := ⟨by decide +kernel, rfl⟩
theorem dX11_choice_39 : q_at cX11_choice 39 (.getfield 378) 3 42 := ⟨by decide +kernel, rfl⟩
theorem dX11_choice_42 : q_at cX11_choice 42 (.iload_n 1) 1 43 := ⟨by decide +kernel, rfl⟩
theorem dX11_choice_43 : q_at cX11_choice 43 (.iload_n 2) 1 44 := ⟨by decide +kernel, rfl⟩
theorem dX11_choice_44 : q_at cX11_choice 44 (.iload_n 3) 1 45 := ⟨by decide +kernel, rfl⟩
theorem dX11_choice_45 : q_at cX11_choice 45 (.invokevirtual 382) 3 48 := ⟨by decide +kernel, rfl⟩
theorem dX11_choice_48 : q_at cX11_choice 48 (.ireturn) 1 49 := ⟨by decide +kernel, rfl⟩
theorem dX11_copy_0 : q_at cX11_copy 0 (.iload_n 1) 1 1 := ⟨by decide +kernel, rfl⟩
theorem dX11_copy_1 : q_at cX11_copy 1 (.iconst 0) 1 2 := ⟨by decide +kernel, rfl⟩
theorem dX11_copy_2 : q_at cX11_copy 2 (.bipush 7) 2 4 := ⟨by decide +kernel, rfl⟩
theorem dX11_copy_4 : q_at cX11_copy 4 (.invokestatic 53) 3 7 := ⟨by decide +kernel, rfl⟩
theorem dX11_copy_7 : q_at cX11_copy 7 (.ifCond .eq 13) 3 10 := ⟨by decide +kernel, rfl⟩
theorem dX11_copy_10 : q_at cX11_copy 10 (.iload_n 3) 1 11 := ⟨by decide +kernel, rfl⟩
theorem dX11_copy_11 : q_at cX11_copy 11 (.iconst 0) 1 12 := ⟨by decide +kernel, rfl⟩
theorem dX11_copy_12 : q_at cX11_copy 12 (.bipush 7) 2 14 := ⟨by decide +kernel, rfl⟩
theorem dX11_copy_14 : q_at cX11_copy 14 (.invokestatic 53) 3 17 := ⟨by decide +kernel, rfl⟩
theorem dX11_copy_17 : q_at cX11_copy 17 (.ifCond .ne 6) 3 20 := ⟨by decide +kernel, rfl⟩
theorem dX11_copy_20 : q_at cX11_copy 20 (.ldc 57) 2 22 := ⟨by decide +kernel, rfl⟩
theorem dX11_copy_22 : q_at cX11_copy 22 (.ireturn) 1 23 := ⟨by decide +kernel, rfl⟩
theorem dX11_copy_23 : q_at cX11_copy 23 (.aload_n 0) 1 24 := ⟨by decide +kernel, rfl⟩
theorem dX11_copy_24 : q_at cX11_copy 24 (.getfield 32) 3 27 := ⟨by decide +kernel, rfl⟩
theorem dX11_copy_27 : q_at cX11_copy 27 (.iload_n 1) 1 28 := ⟨by decide +kernel, rfl⟩
theorem dX11_copy_28 : q_at cX11_copy 28 (.invokevirtual 303) 3 31 := ⟨by decide +kernel, rfl⟩
theorem dX11_copy_31 : q_at cX11_copy 31 (.ifCond .ne 14) 3 34 := ⟨by decide +kernel, rfl⟩
theorem dX11_copy_34 : q_at cX11_copy 34 (.aload_n 0) 1 35 := ⟨by decide +kernel, rfl⟩
theorem dX11_copy_35 : q_at cX11_copy 35 (.getfield 32) 3 38 := ⟨by decide +kernel, rfl⟩
theorem dX11_copy_38 : q_at cX11_copy 38 (.iload_n 3) 1 39 := ⟨by decide +kernel, rfl⟩
theorem dX11_copy_39 : q_at cX11_copy 39 (.invokevirtual 303) 3 42 := ⟨by decide +kernel, rfl⟩
theorem dX11_copy_42 : q_at cX11_copy 42 (.ifCond .eq 7) 3 45 := ⟨by decide +kernel, rfl⟩
theorem dX11_copy_45 : q_at cX11_copy 45 (.ldc_w 306) 3 48 := ⟨by decide +kernel, rfl⟩
theorem dX11_copy_48 : q_at cX11_copy 48 (.ireturn) 1 49 := ⟨by decide +kernel, rfl⟩
theorem dX11_copy_49 : q_at cX11_copy 49 (.aload_n 0) 1 50 := ⟨by decide +kernel, rfl⟩
theorem dX11_copy_50 : q_at cX11_copy 50 (.getfield 32) 3 53 := ⟨by decide +kernel, rfl⟩
theorem dX11_copy_53 : q_at cX11_copy 53 (.getfield 311) 3 56 := ⟨by decide +kernel, rfl⟩
theorem dX11_copy_56 : q_at cX11_copy 56 (.iload_n 1) 1 57 := ⟨by decide +kernel, rfl⟩
theorem dX11_copy_57 : q_at cX11_copy 57 (.iaload) 1 58 := ⟨by decide +kernel, rfl⟩
theorem dX11_copy_58 : q_at cX11_copy 58 (.aload_n 0) 1 59 := ⟨by decide +kernel, rfl⟩
theorem dX11_copy_59 : q_at cX11_copy 59 (.getfield 32) 3 62 := ⟨by decide +kernel, rfl⟩
theorem dX11_copy_62 : q_at cX11_copy 62 (.getfield 311) 3 65 := ⟨by decide +kernel, rfl⟩
theorem dX11_copy_65 : q_at cX11_copy 65 (.iload_n 3) 1 66 := ⟨by decide +kernel, rfl⟩
theorem dX11_copy_66 : q_at cX11_copy 66 (.iaload) 1 67 := ⟨by decide +kernel, rfl⟩
theorem dX11_copy_67 : q_at cX11_copy 67 (.if_icmp .eq 6) 3 70 := ⟨by decide +kernel, rfl⟩
theorem dX11_copy_70 : q_at cX11_copy 70 (.ldc 179) 2 72 := ⟨by decide +kernel, rfl⟩
theorem dX11_copy_72 : q_at cX11_copy 72 (.ireturn) 1 73 := ⟨by decide +kernel, rfl⟩
theorem dX11_copy_73 : q_at cX11_copy 73 (.aload_n 0) 1 74 := ⟨by decide +kernel, rfl⟩
theorem dX11_copy_74 : q_at cX11_copy 74 (.getfield 32) 3 77 := ⟨by decide +kernel, rfl⟩
theorem dX11_copy_77 : q_at cX11_copy 77 (.iload_n 1) 1 78 := ⟨by decide +kernel, rfl⟩
theorem dX11_copy_78 : q_at cX11_copy 78 (.iload_n 2) 1 79 := ⟨by decide +kernel, rfl⟩
theorem dX11_copy_79 : q_at cX11_copy 79 (.iload 5) 2 81 := ⟨by decide +kernel, rfl⟩
theorem dX11_copy_81 : q_at cX11_copy 81 (.invokevirtual 314) 3 84 := ⟨by decide +kernel, rfl⟩
theorem dX11_copy_84 : q_at cX11_copy 84 (.ifCond .eq 18) 3 87 := ⟨by decide +kernel, rfl⟩
theorem dX11_copy_87 : q_at cX11_copy 87 (.aload_n 0) 1 88 := ⟨by decide +kernel, rfl⟩
theorem dX11_copy_88 : q_at cX11_copy 88 (.getfield 32) 3 91 := ⟨by decide +kernel, rfl⟩
theorem dX11_copy_91 : q_at cX11_copy 91 (.iload_n 3) 1 92 := ⟨by decide +kernel, rfl⟩
theorem dX11_copy_92 : q_at cX11_copy 92 (.iload 4) 2 94 := ⟨by decide +kernel, rfl⟩
theorem dX11_copy_94 : q_at cX11_copy 94 (.iload 5) 2 96 := ⟨by decide +kernel, rfl⟩
theorem dX11_copy_96 : q_at cX11_copy 96 (.invokevirtual 314) 3 99 := ⟨by decide +kernel, rfl⟩
theorem dX11_copy_99 : q_at cX11_copy 99 (.ifCond .ne 7) 3 102 := ⟨by decide +kernel, rfl⟩
theorem dX11_copy_102 : q_at cX11_copy 102 (.ldc_w 310) 3 105 := ⟨by decide +kernel, rfl⟩
theorem dX11_copy_105 : q_at cX11_copy 105 (.ireturn) 1 106 := ⟨by decide +kernel, rfl⟩
theorem dX11_copy_106 : q_at cX11_copy 106 (.aload_n 0) 1 107 := ⟨by decide +kernel, rfl⟩
theorem dX11_copy_107 : q_at cX11_copy 107 (.getfield 32) 3 110 := ⟨by decide +kernel, rfl⟩
theorem dX11_copy_110 : q_at cX11_copy 110 (.getfield 300) 3 113 := ⟨by decide +kernel, rfl⟩
theorem dX11_copy_113 : q_at cX11_copy 113 (.iload_n 1) 1 114 := ⟨by decide +kernel, rfl⟩
theorem dX11_copy_114 : q_at cX11_copy 114 (.invokestatic 317) 3 117 := ⟨by decide +kernel, rfl⟩
theorem dX11_copy_117 : q_at cX11_copy 117 (.iload_n 2) 1 118 := ⟨by decide +kernel, rfl⟩
theorem dX11_copy_118 : q_at cX11_copy 118 (.iadd) 1 119 := ⟨by decide +kernel, rfl⟩
theorem dX11_copy_119 : q_at cX11_copy 119 (.aload_n 0) 1 120 := ⟨by decide +kernel, rfl⟩
theorem dX11_copy_120 : q_at cX11_copy 120 (.getfield 32) 3 123 := ⟨by decide +kernel, rfl⟩
theorem dX11_copy_123 : q_at cX11_copy 123 (.getfield 300) 3 126 := ⟨by decide +kernel, rfl⟩
theorem dX11_copy_126 : q_at cX11_copy 126 (.iload_n 3) 1 127 := ⟨by decide +kernel, rfl⟩
theorem dX11_copy_127 : q_at cX11_copy 127 (.invokestatic 317) 3 130 := ⟨by decide +kernel, rfl⟩
theorem dX11_copy_130 : q_at cX11_copy 130 (.iload 4) 2 132 := ⟨by decide +kernel, rfl⟩
theorem dX11_copy_132 : q_at cX11_copy 132 (.iadd) 1 133 := ⟨by decide +kernel, rfl⟩
theorem dX11_copy_133 : q_at cX11_copy 133 (.iload 5) 2 135 := ⟨by decide +kernel, rfl⟩
theorem dX11_copy_135 : q_at cX11_copy 135 (.invokestatic 320) 3 138 := ⟨by decide +kernel, rfl⟩
theorem dX11_copy_138 : q_at cX11_copy 138 (.iload 5) 2 140 := ⟨by decide +kernel, rfl⟩
theorem dX11_copy_140 : q_at cX11_copy 140 (.ireturn) 1 141 := ⟨by decide +kernel, rfl⟩
theorem dX11_count_0 : q_at cX11_count 0 (.iload_n 1) 1 1 := ⟨by decide +kernel, rfl⟩
theorem dX11_count_1 : q_at cX11_count 1 (.tableswitch 258 0 14 #[75, 86, 97, 118, 129, 140, 151, 162, 173, 184, 189, 197, 205, 216, 237]) 75 76 := ⟨by decide +kernel, rfl⟩
theorem dX11_count_76 : q_at cX11_count 76 (.aload_n 0) 1 77 := ⟨by decide +kernel, rfl⟩
theorem dX11_count_77 : q_at cX11_count 77 (.getfield 10) 3 80 := ⟨by decide +kernel, rfl⟩
theorem dX11_count_80 : q_at cX11_count 80 (.getfield 87) 3 83 := ⟨by decide +kernel, rfl⟩
theorem dX11_count_83 : q_at cX11_count 83 (.getfield 410) 3 86 := ⟨by decide +kernel, rfl⟩
theorem dX11_count_86 : q_at cX11_count 86 (.ireturn) 1 87 := ⟨by decide +kernel, rfl⟩
theorem dX11_count_87 : q_at cX11_count 87 (.aload_n 0) 1 88 := ⟨by decide +kernel, rfl⟩
theorem dX11_count_88 : q_at cX11_count 88 (.getfield 10) 3 91 := ⟨by decide +kernel, rfl⟩
theorem dX11_count_91 : q_at cX11_count 91 (.getfield 70) 3 94 := ⟨by decide +kernel, rfl⟩
theorem dX11_count_94 : q_at cX11_count 94 (.getfield 104) 3 97 := ⟨by decide +kernel, rfl⟩
theorem dX11_count_97 : q_at cX11_count 97 (.ireturn) 1 98 := ⟨by decide +kernel, rfl⟩
theorem dX11_count_98 : q_at cX11_count 98 (.aload_n 0) 1 99 := ⟨by decide +kernel, rfl⟩
theorem dX11_count_99 : q_at cX11_count 99 (.getfield 10) 3 102 := ⟨by decide +kernel, rfl⟩
theorem dX11_count_102 : q_at cX11_count 102 (.getfield 70) 3 105 := ⟨by decide +kernel, rfl⟩
theorem dX11_count_105 : q_at cX11_count 105 (.aload_n 0) 1 106 := ⟨by decide +kernel, rfl⟩
theorem dX11_count_106 : q_at cX11_count 106 (.getfield 10) 3 109 := ⟨by decide +kernel, rfl⟩
theorem dX11_count_109 : q_at cX11_count 109 (.getfield 70) 3 112 := ⟨by decide +kernel, rfl⟩
theorem dX11_count_112 : q_at cX11_count 112 (.getfield 243) 3 115 := ⟨by decide +kernel, rfl⟩
theorem dX11_count_115 : q_at cX11_count 115 (.invokevirtual 239) 3 118 := ⟨by decide +kernel, rfl⟩
theorem dX11_count_118 : q_at cX11_count 118 (.ireturn) 1 119 := ⟨by decide +kernel, rfl⟩
theorem dX11_count_119 : q_at cX11_count 119 (.aload_n 0) 1 120 := ⟨by decide +kernel, rfl⟩
theorem dX11_count_120 : q_at cX11_count 120 (.getfield 10) 3 123 := ⟨by decide +kernel, rfl⟩
theorem dX11_count_123 : q_at cX11_count 123 (.getfield 107) 3 126 := ⟨by decide +kernel, rfl⟩
theorem dX11_count_126 : q_at cX11_count 126 (.getfield 111) 3 129 := ⟨by decide +kernel, rfl⟩
theorem dX11_count_129 : q_at cX11_count 129 (.ireturn) 1 130 := ⟨by decide +kernel, rfl⟩
theorem dX11_count_130 : q_at cX11_count 130 (.aload_n 0) 1 131 := ⟨by decide +kernel, rfl⟩
theorem dX11_count_131 : q_at cX11_count 131 (.getfield 10) 3 134 := ⟨by decide +kernel, rfl⟩
theorem dX11_count_134 : q_at cX11_count 134 (.getfield 107) 3 137 := ⟨by decide +kernel, rfl⟩
theorem dX11_count_137 : q_at cX11_count 137 (.invokevirtual 411) 3 140 := ⟨by decide +kernel, rfl⟩
theorem dX11_count_140 : q_at cX11_count 140 (.ireturn) 1 141 := ⟨by decide +kernel, rfl⟩
theorem dX11_count_141 : q_at cX11_count 141 (.aload_n 0) 1 142 := ⟨by decide +kernel, rfl⟩
theorem dX11_count_142 : q_at cX11_count 142 (.getfield 10) 3 145 := ⟨by decide +kernel, rfl⟩
theorem dX11_count_145 : q_at cX11_count 145 (.getfield 107) 3 148 := ⟨by decide +kernel, rfl⟩
theorem dX11_count_148 : q_at cX11_count 148 (.invokevirtual 413) 3 151 := ⟨by decide +kernel, rfl⟩
theorem dX11_count_151 : q_at cX11_count 151 (.ireturn) 1 152 := ⟨by decide +kernel, rfl⟩
theorem dX11_count_152 : q_at cX11_count 152 (.aload_n 0) 1 153 := ⟨by decide +kernel, rfl⟩
theorem dX11_count_153 : q_at cX11_count 153 (.getfield 10) 3 156 := ⟨by decide +kernel, rfl⟩
theorem dX11_count_156 : q_at cX11_count 156 (.getfield 256) 3 159 := ⟨by decide +kernel, rfl⟩
theorem dX11_count_159 : q_at cX11_count 159 (.getfield 416) 3 162 := ⟨by decide +kernel, rfl⟩
theorem dX11_count_162 : q_at cX11_count 162 (.ireturn) 1 163 := ⟨by decide +kernel, rfl⟩
theorem dX11_count_163 : q_at cX11_count 163 (.aload_n 0) 1 164 := ⟨by decide +kernel, rfl⟩
theorem dX11_count_164 : q_at cX11_count 164 (.getfield 10) 3 167 := ⟨by decide +kernel, rfl⟩
theorem dX11_count_167 : q_at cX11_count 167 (.getfield 354) 3 170 := ⟨by decide +kernel, rfl⟩
theorem dX11_count_170 : q_at cX11_count 170 (.getfield 417) 3 173 := ⟨by decide +kernel, rfl⟩
theorem dX11_count_173 : q_at cX11_count 173 (.ireturn) 1 174 := ⟨by decide +kernel, rfl⟩
theorem dX11_count_174 : q_at cX11_count 174 (.aload_n 0) 1 175 := ⟨by decide +kernel, rfl⟩
theorem dX11_count_175 : q_at cX11_count 175 (.getfield 10) 3 178 := ⟨by decide +kernel, rfl⟩
theorem dX11_count_178 : q_at cX11_count 178 (.getfield 378) 3 181 := ⟨by decide +kernel, rfl⟩
theorem dX11_count_181 : q_at cX11_count 181 (.getfield 391) 3 184 := ⟨by decide +kernel, rfl⟩
theorem dX11_count_184 : q_at cX11_count 184 (.ireturn) 1 185 := ⟨by decide +kernel, rfl⟩
theorem dX11_count_185 : q_at cX11_count 185 (.aload_n 0) 1 186 := ⟨by decide +kernel, rfl⟩
theorem dX11_count_186 : q_at cX11_count 186 (.getfield 43) 3 189 := ⟨by decide +kernel, rfl⟩
theorem dX11_count_189 : q_at cX11_count 189 (.ireturn) 1 190 := ⟨by decide +kernel, rfl⟩
theorem dX11_count_190 : q_at cX11_count 190 (.aload_n 0) 1 191 := ⟨by decide +kernel, rfl⟩
theorem dX11_count_191 : q_at cX11_count 191 (.getfield 25) 3 194 := ⟨by decide +kernel, rfl⟩
theorem dX11_count_194 : q_at cX11_count 194 (.getfield 246) 3 197 := ⟨by decide +kernel, rfl⟩
theorem dX11_count_197 : q_at cX11_count 197 (.ireturn) 1 198 := ⟨by decide +kernel, rfl⟩
theorem dX11_count_198 : q_at cX11_count 198 (.aload_n 0) 1 199 := ⟨by decide +kernel, rfl⟩
theorem dX11_count_199 : q_at cX11_count 199 (.getfield 10) 3 202 := ⟨by decide +kernel, rfl⟩
theorem dX11_count_202 : q_at cX11_count 202 (.getfield 141) 3 205 := ⟨by decide +kernel, rfl⟩
theorem dX11_count_205 : q_at cX11_count 205 (.ireturn) 1 206 := ⟨by decide +kernel, rfl⟩
theorem dX11_count_206 : q_at cX11_count 206 (.aload_n 0) 1 207 := ⟨by decide +kernel, rfl⟩
theorem dX11_count_207 : q_at cX11_count 207 (.getfield 10) 3 210 := ⟨by decide +kernel, rfl⟩
theorem dX11_count_210 : q_at cX11_count 210 (.getfield 141) 3 213 := ⟨by decide +kernel, rfl⟩
theorem dX11_count_213 : q_at cX11_count 213 (.bipush 7) 2 215 := ⟨by decide +kernel, rfl⟩
theorem dX11_count_215 : q_at cX11_count 215 (.idiv) 1 216 := ⟨by decide +kernel, rfl⟩
theorem dX11_count_216 : q_at cX11_count 216 (.ireturn) 1 217 := ⟨by decide +kernel, rfl⟩
theorem dX11_count_217 : q_at cX11_count 217 (.aload_n 0) 1 218 := ⟨by decide +kernel, rfl⟩
theorem dX11_count_218 : q_at cX11_count 218 (.getfield 10) 3 221 := ⟨by decide +kernel, rfl⟩
theorem dX11_count_221 : q_at cX11_count 221 (.getfield 70) 3 224 := ⟨by decide +kernel, rfl⟩
theorem dX11_count_224 : q_at cX11_count 224 (.aload_n 0) 1 225 := ⟨by decide +kernel, rfl⟩
theorem dX11_count_225 : q_at cX11_count 225 (.getfield 10) 3 228 := ⟨by decide +kernel, rfl⟩
theorem dX11_count_228 : q_at cX11_count 228 (.getfield 70) 3 231 := ⟨by decide +kernel, rfl⟩
theorem dX11_count_231 : q_at cX11_count 231 (.getfield 186) 3 234 := ⟨by decide +kernel, rfl⟩
theorem dX11_count_234 : q_at cX11_count 234 (.invokevirtual 239) 3 237 := ⟨by decide +kernel, rfl⟩
theorem dX11_count_237 : q_at cX11_count 237 (.ireturn) 1 238 := ⟨by decide +kernel, rfl⟩
theorem dX11_count_238 : q_at cX11_count 238 (.aload_n 0) 1 239 := ⟨by decide +kernel, rfl⟩
theorem dX11_count_239 : q_at cX11_count 239 (.getfield 10) 3 242 := ⟨by decide +kernel, rfl⟩
theorem dX11_count_242 : q_at cX11_count 242 (.getfield 70) 3 245 := ⟨by decide +kernel, rfl⟩
theorem dX11_count_245 : q_at cX11_count 245 (.aload_n 0) 1 246 := ⟨by decide +kernel, rfl⟩
theorem dX11_count_246 : q_at cX11_count 246 (.getfield 10) 3 249 := ⟨by decide +kernel, rfl⟩
theorem dX11_count_249 : q_at cX11_count 249 (.getfield 70) 3 252 := ⟨by decide +kernel, rfl⟩
theorem dX11_count_252 : q_at cX11_count 252 (.getfield 189) 3 255 := ⟨by decide +kernel, rfl⟩
theorem dX11_count_255 : q_at cX11_count 255 (.invokevirtual 239) 3 258 := ⟨by decide +kernel, rfl⟩
theorem dX11_count_258 : q_at cX11_count 258 (.ireturn) 1 259 := ⟨by decide +kernel, rfl⟩
theorem dX11_count_259 : q_at cX11_count 259 (.ldc 57) 2 261 := ⟨by decide +kernel, rfl⟩
theorem dX11_count_261 : q_at cX11_count 261 (.ireturn) 1 262 := ⟨by decide +kernel, rfl⟩
theorem dX11_feed_0 : q_at cX11_feed 0 (.aload_n 0) 1 1 := ⟨by decide +kernel, rfl⟩
theorem dX11_feed_1 : q_at cX11_feed 1 (.getfield 25) 3 4 := ⟨by decide +kernel, rfl⟩
theorem dX11_feed_4 : q_at cX11_feed 4 (.getfield 246) 3 7 := ⟨by decide +kernel, rfl⟩
theorem dX11_feed_7 : q_at cX11_feed 7 (.bipush 84) 2 9 := ⟨by decide +kernel, rfl⟩
theorem dX11_feed_9 : q_at cX11_feed 9 (.if_icmp .le 6) 3 12 := ⟨by decide +kernel, rfl⟩
theorem dX11_feed_12 : q_at cX11_feed 12 (.ldc 114) 2 14 := ⟨by decide +kernel, rfl⟩
theorem dX11_feed_14 : q_at cX11_feed 14 (.ireturn) 1 15 := ⟨by decide +kernel, rfl⟩
theorem dX11_feed_15 : q_at cX11_feed 15 (.aload_n 0) 1 16 := ⟨by decide +kernel, rfl⟩
theorem dX11_feed_16 : q_at cX11_feed 16 (.getfield 25) 3 19 := ⟨by decide +kernel, rfl⟩
theorem dX11_feed_19 : q_at cX11_feed 19 (.iload_n 1) 1 20 := ⟨by decide +kernel, rfl⟩
theorem dX11_feed_20 : q_at cX11_feed 20 (.invokevirtual 249) 3 23 := ⟨by decide +kernel, rfl⟩
theorem dX11_feed_23 : q_at cX11_feed 23 (.aload_n 0) 1 24 := ⟨by decide +kernel, rfl⟩
theorem dX11_feed_24 : q_at cX11_feed 24 (.getfield 25) 3 27 := ⟨by decide +kernel, rfl⟩
theorem dX11_feed_27 : q_at cX11_feed 27 (.iload_n 2) 1 28 := ⟨by decide +kernel, rfl⟩
theorem dX11_feed_28 : q_at cX11_feed 28 (.invokevirtual 249) 3 31 := ⟨by decide +kernel, rfl⟩
theorem dX11_feed_31 : q_at cX11_feed 31 (.aload_n 0) 1 32 := ⟨by decide +kernel, rfl⟩
theorem dX11_feed_32 : q_at cX11_feed 32 (.getfield 25) 3 35 := ⟨by decide +kernel, rfl⟩
theorem dX11_feed_35 : q_at cX11_feed 35 (.iload_n 3) 1 36 := ⟨by decide +kernel, rfl⟩
theorem dX11_feed_36 : q_at cX11_feed 36 (.invokevirtual 249) 3 39 := ⟨by decide +kernel, rfl⟩
theorem dX11_feed_39 : q_at cX11_feed 39 (.aload_n 0) 1 40 := ⟨by decide +kernel, rfl⟩
theorem dX11_feed_40 : q_at cX11_feed 40 (.getfield 25) 3 43 := ⟨by decide +kernel, rfl⟩
theorem dX11_feed_43 : q_at cX11_feed 43 (.getfield 246) 3 46 := ⟨by decide +kernel, rfl⟩
theorem dX11_feed_46 : q_at cX11_feed 46 (.ireturn) 1 47 := ⟨by decide +kernel, rfl⟩
theorem dX11_hear_0 : q_at cX11_hear 0 (.aload_n 0) 1 1 := ⟨by decide +kernel, rfl⟩
theorem dX11_hear_1 : q_at cX11_hear 1 (.getfield 10) 3 4 := ⟨by decide +kernel, rfl⟩
theorem dX11_hear_4 : q_at cX11_hear 4 (.getfield 70) 3 7 := ⟨by decide +kernel, rfl⟩
theorem dX11_hear_7 : q_at cX11_hear 7 (.iload_n 1) 1 8 := ⟨by decide +kernel, rfl⟩
theorem dX11_hear_8 : q_at cX11_hear 8 (.invokevirtual 119) 3 11 := ⟨by decide +kernel, rfl⟩
theorem dX11_hear_11 : q_at cX11_hear 11 (.ifCond .eq 17) 3 14 := ⟨by decide +kernel, rfl⟩
theorem dX11_hear_14 : q_at cX11_hear 14 (.aload_n 0) 1 15 := ⟨by decide +kernel, rfl⟩
theorem dX11_hear_15 : q_at cX11_hear 15 (.getfield 10) 3 18 := ⟨by decide +kernel, rfl⟩
theorem dX11_hear_18 : q_at cX11_hear 18 (.getfield 87) 3 21 := ⟨by decide +kernel, rfl⟩
theorem dX11_hear_21 : q_at cX11_hear 21 (.iload_n 2) 1 22 := ⟨by decide +kernel, rfl⟩
theorem dX11_hear_22 : q_at cX11_hear 22 (.invokevirtual 95) 3 25 := ⟨by decide +kernel, rfl⟩
theorem dX11_hear_25 : q_at cX11_hear 25 (.ifCond .ne 6) 3 28 := ⟨by decide +kernel, rfl⟩
theorem dX11_hear_28 : q_at cX11_hear 28 (.ldc 57) 2 30 := ⟨by decide +kernel, rfl⟩
theorem dX11_hear_30 : q_at cX11_hear 30 (.ireturn) 1 31 := ⟨by decide +kernel, rfl⟩
theorem dX11_hear_31 : q_at cX11_hear 31 (.aload_n 0) 1 32 := ⟨by decide +kernel, rfl⟩
theorem dX11_hear_32 : q_at cX11_hear 32 (.getfield 10) 3 35 := ⟨by decide +kernel, rfl⟩
theorem dX11_hear_35 : q_at cX11_hear 35 (.getfield 70) 3 38 := ⟨by decide +kernel, rfl⟩
theorem dX11_hear_38 : q_at cX11_hear 38 (.iload_n 1) 1 39 := ⟨by decide +kernel, rfl⟩
theorem dX11_hear_39 : q_at cX11_hear 39 (.iload_n 2) 1 40 := ⟨by decide +kernel, rfl⟩
theorem dX11_hear_40 : q_at cX11_hear 40 (.aload_n 0) 1 41 := ⟨by decide +kernel, rfl⟩
theorem dX11_hear_41 : q_at cX11_hear 41 (.getfield 10) 3 44 := ⟨by decide +kernel, rfl⟩
theorem dX11_hear_44 : q_at cX11_hear 44 (.getfield 87) 3 47 := ⟨by decide +kernel, rfl⟩
theorem dX11_hear_47 : q_at cX11_hear 47 (.getfield 138) 3 50 := ⟨by decide +kernel, rfl⟩
theorem dX11_hear_50 : q_at cX11_hear 50 (.iload_n 2) 1 51 := ⟨by decide +kernel, rfl⟩
theorem dX11_hear_51 : q_at cX11_hear 51 (.iaload) 1 52 := ⟨by decide +kernel, rfl⟩
theorem dX11_hear_52 : q_at cX11_hear 52 (.aload_n 0) 1 53 := ⟨by decide +kernel, rfl⟩
theorem dX11_hear_53 : q_at cX11_hear 53 (.getfield 10) 3 56 := ⟨by decide +kernel, rfl⟩
theorem dX11_hear_56 : q_at cX11_hear 56 (.getfield 141) 3 59 := ⟨by decide +kernel, rfl⟩
theorem dX11_hear_59 : q_at cX11_hear 59 (.invokevirtual 144) 3 62 := ⟨by decide +kernel, rfl⟩
theorem dX11_hear_62 : q_at cX11_hear 62 (.iconst 1) 1 63 := ⟨by decide +kernel, rfl⟩
theorem dX11_hear_63 : q_at cX11_hear 63 (.ireturn) 1 64 := ⟨by decide +kernel, rfl⟩
theorem dX11_isFunded_0 : q_at cX11_isFunded 0 (.iload_n 0) 1 1 := ⟨by decide +kernel, rfl⟩
theorem dX11_isFunded_1 : q_at cX11_isFunded 1 (.iconst 0) 1 2 := ⟨by decide +kernel, rfl⟩
theorem dX11_isFunded_2 : q_at cX11_isFunded 2 (.sipush 9999) 3 5 := ⟨by decide +kernel, rfl⟩
theorem dX11_isFunded_5 : q_at cX11_isFunded 5 (.invokestatic 53) 3 8 := ⟨by decide +kernel, rfl⟩
theorem dX11_isFunded_8 : q_at cX11_isFunded 8 (.ifCond .eq 17) 3 11 := ⟨by decide +kernel, rfl⟩
theorem dX11_isFunded_11 : q_at cX11_isFunded 11 (.iload_n 1) 1 12 := ⟨by decide +kernel, rfl⟩
theorem dX11_isFunded_12 : q_at cX11_isFunded 12 (.iconst 0) 1 13 := ⟨by decide +kernel, rfl⟩
theorem dX11_isFunded_13 : q_at cX11_isFunded 13 (.bipush 99) 2 15 := ⟨by decide +kernel, rfl⟩
theorem dX11_isFunded_15 : q_at cX11_isFunded 15 (.invokestatic 53) 3 18 := ⟨by decide +kernel, rfl⟩
theorem dX11_isFunded_18 : q_at cX11_isFunded 18 (.ifCond .eq 7) 3 21 := ⟨by decide +kernel, rfl⟩
theorem dX11_isFunded_21 : q_at cX11_isFunded 21 (.iconst 1) 1 22 := ⟨by decide +kernel, rfl⟩
theorem dX11_isFunded_22 : q_at cX11_isFunded 22 (.goto 4) 3 25 := ⟨by decide +kernel, rfl⟩
theorem dX11_isFunded_25 : q_at cX11_isFunded 25 (.iconst 0) 1 26 := ⟨by decide +kernel, rfl⟩
theorem dX11_isFunded_26 : q_at cX11_isFunded 26 (.ireturn) 1 27 := ⟨by decide +kernel, rfl⟩
theorem dX11_known_0 : q_at cX11_known 0 (.aload_n 0) 1 1 := ⟨by decide +kernel, rfl⟩
theorem dX11_known_1 : q_at cX11_known 1 (.getfield 10) 3 4 := ⟨by decide +kernel, rfl⟩
theorem dX11_known_4 : q_at cX11_known 4 (.getfield 70) 3 7 := ⟨by decide +kernel, rfl⟩
theorem dX11_known_7 : q_at cX11_known 7 (.iload_n 1) 1 8 := ⟨by decide +kernel, rfl⟩
theorem dX11_known_8 : q_at cX11_known 8 (.invokevirtual 119) 3 11 := ⟨by decide +kernel, rfl⟩
theorem dX11_known_11 : q_at cX11_known 11 (.ifCond .eq 26) 3 14 := ⟨by decide +kernel, rfl⟩
theorem dX11_known_14 : q_at cX11_known 14 (.aload_n 0) 1 15 := ⟨by decide +kernel, rfl⟩
theorem dX11_known_15 : q_at cX11_known 15 (.getfield 10) 3 18 := ⟨by decide +kernel, rfl⟩
theorem dX11_known_18 : q_at cX11_known 18 (.getfield 87) 3 21 := ⟨by decide +kernel, rfl⟩
theorem dX11_known_21 : q_at cX11_known 21 (.iload_n 2) 1 22 := ⟨by decide +kernel, rfl⟩
theorem dX11_known_22 : q_at cX11_known 22 (.invokevirtual 95) 3 25 := ⟨by decide +kernel, rfl⟩
theorem dX11_known_25 : q_at cX11_known 25 (.ifCond .eq 12) 3 28 := ⟨by decide +kernel, rfl⟩
theorem dX11_known_28 : q_at cX11_known 28 (.iload_n 3) 1 29 := ⟨by decide +kernel, rfl⟩
theorem dX11_known_29 : q_at cX11_known 29 (.iconst 0) 1 30 := ⟨by decide +kernel, rfl⟩
theorem dX11_known_30 : q_at cX11_known 30 (.iconst 1) 1 31 := ⟨by decide +kernel, rfl⟩
theorem dX11_known_31 : q_at cX11_known 31 (.invokestatic 53) 3 34 := ⟨by decide +kernel, rfl⟩
theorem dX11_known_34 : q_at cX11_known 34 (.ifCond .ne 6) 3 37 := ⟨by decide +kernel, rfl⟩
theorem dX11_known_37 : q_at cX11_known 37 (.ldc 57) 2 39 := ⟨by decide +kernel, rfl⟩
theorem dX11_known_39 : q_at cX11_known 39 (.ireturn) 1 40 := ⟨by decide +kernel, rfl⟩
theorem dX11_known_40 : q_at cX11_known 40 (.aload_n 0) 1 41 := ⟨by decide +kernel, rfl⟩
theorem dX11_known_41 : q_at cX11_known 41 (.getfield 10) 3 44 := ⟨by decide +kernel, rfl⟩
theorem dX11_known_44 : q_at cX11_known 44 (.getfield 70) 3 47 := ⟨by decide +kernel, rfl⟩
theorem dX11_known_47 : q_at cX11_known 47 (.iload_n 1) 1 48 := ⟨by decide +kernel, rfl⟩
theorem dX11_known_48 : q_at cX11_known 48 (.iload_n 2) 1 49 := ⟨by decide +kernel, rfl⟩
theorem dX11_known_49 : q_at cX11_known 49 (.invokevirtual 127) 3 52 := ⟨by decide +kernel, rfl⟩
theorem dX11_known_52 : q_at cX11_known 52 (.ifCond .ne 6) 3 55 := ⟨by decide +kernel, rfl⟩
theorem dX11_known_55 : q_at cX11_known 55 (.ldc 130) 2 57 := ⟨by decide +kernel, rfl⟩
theorem dX11_known_57 : q_at cX11_known 57 (.ireturn) 1 58 := ⟨by decide +kernel, rfl⟩
theorem dX11_known_58 : q_at cX11_known 58 (.iload_n 3) 1 59 := ⟨by decide +kernel, rfl⟩
theorem dX11_known_59 : q_at cX11_known 59 (.ifCond .ne 18) 3 62 := ⟨by decide +kernel, rfl⟩
theorem dX11_known_62 : q_at cX11_known 62 (.aload_n 0) 1 63 := ⟨by decide +kernel, rfl⟩
theorem dX11_known_63 : q_at cX11_known 63 (.getfield 10) 3 66 := ⟨by decide +kernel, rfl⟩
theorem dX11_known_66 : q_at cX11_known 66 (.getfield 70) 3 69 := ⟨by decide +kernel, rfl⟩
theorem dX11_known_69 : q_at cX11_known 69 (.iload_n 1) 1 70 := ⟨by decide +kernel, rfl⟩
theorem dX11_known_70 : q_at cX11_known 70 (.iload_n 2) 1 71 := ⟨by decide +kernel, rfl⟩
theorem dX11_known_71 : q_at cX11_known 71 (.invokevirtual 131) 3 74 := ⟨by decide +kernel, rfl⟩
theorem dX11_known_74 : q_at cX11_known 74 (.goto 15) 3 77 := ⟨by decide +kernel, rfl⟩
theorem dX11_known_77 : q_at cX11_known 77 (.aload_n 0) 1 78 := ⟨by decide +kernel, rfl⟩
theorem dX11_known_78 : q_at cX11_known 78 (.getfield 10) 3 81 := ⟨by decide +kernel, rfl⟩
theorem dX11_known_81 : q_at cX11_known 81 (.getfield 70) 3 84 := ⟨by decide +kernel, rfl⟩
theorem dX11_known_84 : q_at cX11_known 84 (.iload_n 1) 1 85 := ⟨by decide +kernel, rfl⟩
theorem dX11_known_85 : q_at cX11_known 85 (.iload_n 2) 1 86 := ⟨by decide +kernel, rfl⟩
theorem dX11_known_86 : q_at cX11_known 86 (.invokevirtual 135) 3 89 := ⟨by decide +kernel, rfl⟩
theorem dX11_known_89 : q_at cX11_known 89 (.ireturn) 1 90 := ⟨by decide +kernel, rfl⟩
theorem dX11_let_0 : q_at cX11_let 0 (.aload_n 0) 1 1 := ⟨by decide +kernel, rfl⟩
theorem dX11_let_1 : q_at cX11_let 1 (.getfield 10) 3 4 := ⟨by decide +kernel, rfl⟩
theorem dX11_let_4 : q_at cX11_let 4 (.getfield 107) 3 7 := ⟨by decide +kernel, rfl⟩
theorem dX11_let_7 : q_at cX11_let 7 (.iload_n 1) 1 8 := ⟨by decide +kernel, rfl⟩
theorem dX11_let_8 : q_at cX11_let 8 (.invokevirtual 175) 3 11 := ⟨by decide +kernel, rfl⟩
theorem dX11_let_11 : q_at cX11_let 11 (.ifCond .ne 6) 3 14 := ⟨by decide +kernel, rfl⟩
theorem dX11_let_14 : q_at cX11_let 14 (.ldc 57) 2 16 := ⟨by decide +kernel, rfl⟩
theorem dX11_let_16 : q_at cX11_let 16 (.ireturn) 1 17 := ⟨by decide +kernel, rfl⟩
theorem dX11_let_17 : q_at cX11_let 17 (.aload_n 0) 1 18 := ⟨by decide +kernel, rfl⟩
theorem dX11_let_18 : q_at cX11_let 18 (.getfield 10) 3 21 := ⟨by decide +kernel, rfl⟩
theorem dX11_let_21 : q_at cX11_let 21 (.getfield 107) 3 24 := ⟨by decide +kernel, rfl⟩
theorem dX11_let_24 : q_at cX11_let 24 (.getfield 176) 3 27 := ⟨by decide +kernel, rfl⟩
theorem dX11_let_27 : q_at cX11_let 27 (.iload_n 1) 1 28 := ⟨by decide +kernel, rfl⟩
theorem dX11_let_28 : q_at cX11_let 28 (.iaload) 1 29 := ⟨by decide +kernel, rfl⟩
theorem dX11_let_29 : q_at cX11_let 29 (.istore_n 2) 1 30 := ⟨by decide +kernel, rfl⟩
theorem dX11_let_30 : q_at cX11_let 30 (.iload_n 2) 1 31 := ⟨by decide +kernel, rfl⟩
theorem dX11_let_31 : q_at cX11_let 31 (.iconst 5) 1 32 := ⟨by decide +kernel, rfl⟩
theorem dX11_let_32 : q_at cX11_let 32 (.if_icmp .eq 11) 3 35 := ⟨by decide +kernel, rfl⟩
theorem dX11_let_35 : q_at cX11_let 35 (.iload_n 2) 1 36 := ⟨by decide +kernel, rfl⟩
theorem dX11_let_36 : q_at cX11_let 36 (.iconst 4) 1 37 := ⟨by decide +kernel, rfl⟩
theorem dX11_let_37 : q_at cX11_let 37 (.if_icmp .eq 6) 3 40 := ⟨by decide +kernel, rfl⟩
theorem dX11_let_40 : q_at cX11_let 40 (.ldc 179) 2 42 := ⟨by decide +kernel, rfl⟩
theorem dX11_let_42 : q_at cX11_let 42 (.ireturn) 1 43 := ⟨by decide +kernel, rfl⟩
theorem dX11_let_43 : q_at cX11_let 43 (.aload_n 0) 1 44 := ⟨by decide +kernel, rfl⟩
theorem dX11_let_44 : q_at cX11_let 44 (.getfield 10) 3 47 := ⟨by decide +kernel, rfl⟩
theorem dX11_let_47 : q_at cX11_let 47 (.getfield 107) 3 50 := ⟨by decide +kernel, rfl⟩
theorem dX11_let_50 : q_at cX11_let 50 (.getfield 180) 3 53 := ⟨by decide +kernel, rfl⟩
theorem dX11_let_53 : q_at cX11_let 53 (.iload_n 1) 1 54 := ⟨by decide +kernel, rfl⟩
theorem dX11_let_54 : q_at cX11_let 54 (.iaload) 1 55 := ⟨by decide +kernel, rfl⟩
theorem dX11_let_55 : q_at cX11_let 55 (.ifCond .eq 6) 3 58 := ⟨by decide +kernel, rfl⟩
theorem dX11_let_58 : q_at cX11_let 58 (.ldc 171) 2 60 := ⟨by decide +kernel, rfl⟩
theorem dX11_let_60 : q_at cX11_let 60 (.ireturn) 1 61 := ⟨by decide +kernel, rfl⟩
theorem dX11_let_61 : q_at cX11_let 61 (.aload_n 0) 1 62 := ⟨by decide +kernel, rfl⟩
theorem dX11_let_62 : q_at cX11_let 62 (.getfield 10) 3 65 := ⟨by decide +kernel, rfl⟩
theorem dX11_let_65 : q_at cX11_let 65 (.getfield 107) 3 68 := ⟨by decide +kernel, rfl⟩
theorem dX11_let_68 : q_at cX11_let 68 (.getfield 180) 3 71 := ⟨by decide +kernel, rfl⟩
theorem dX11_let_71 : q_at cX11_let 71 (.iload_n 1) 1 72 := ⟨by decide +kernel, rfl⟩
theorem dX11_let_72 : q_at cX11_let 72 (.iload_n 2) 1 73 := ⟨by decide +kernel, rfl⟩
theorem dX11_let_73 : q_at cX11_let 73 (.iconst 5) 1 74 := ⟨by decide +kernel, rfl⟩
theorem dX11_let_74 : q_at cX11_let 74 (.if_icmp .ne 7) 3 77 := ⟨by decide +kernel, rfl⟩
theorem dX11_let_77 : q_at cX11_let 77 (.iconst 1) 1 78 := ⟨by decide +kernel, rfl⟩
theorem dX11_let_78 : q_at cX11_let 78 (.goto 4) 3 81 := ⟨by decide +kernel, rfl⟩
theorem dX11_let_81 : q_at cX11_let 81 (.iconst 2) 1 82 := ⟨by decide +kernel, rfl⟩
theorem dX11_let_82 : q_at cX11_let 82 (.iastore) 1 83 := ⟨by decide +kernel, rfl⟩
theorem dX11_let_83 : q_at cX11_let 83 (.iconst 1) 1 84 := ⟨by decide +kernel, rfl⟩
theorem dX11_let_84 : q_at cX11_let 84 (.ireturn) 1 85 := ⟨by decide +kernel, rfl⟩
theorem dX11_looked_0 : q_at cX11_looked 0 (.aload_n 0) 1 1 := ⟨by decide +kernel, rfl⟩
theorem dX11_looked_1 : q_at cX11_looked 1 (.ifnull 15) 3 4 := ⟨by decide +kernel, rfl⟩
theorem dX11_looked_4 : q_at cX11_looked 4 (.iload_n 1) 1 5 := ⟨by decide +kernel, rfl⟩
theorem dX11_looked_5 : q_at cX11_looked 5 (.iconst 0) 1 6 := ⟨by decide +kernel, rfl⟩
theorem dX11_looked_6 : q_at cX11_looked 6 (.aload_n 0) 1 7 := ⟨by decide +kernel, rfl⟩
theorem dX11_looked_7 : q_at cX11_looked 7 (.arraylength) 1 8 := ⟨by decide +kernel, rfl⟩
theorem dX11_looked_8 : q_at cX11_looked 8 (.iconst 1) 1 9 := ⟨by decide +kernel, rfl⟩
theorem dX11_looked_9 : q_at cX11_looked 9 (.isub) 1 10 := ⟨by decide +kernel, rfl⟩
theorem dX11_looked_10 : q_at cX11_looked 10 (.invokestatic 53) 3 13 := ⟨by decide +kernel, rfl⟩
theorem dX11_looked_13 : q_at cX11_looked 13 (.ifCond .ne 8) 3 16 := ⟨by decide +kernel, rfl⟩
theorem dX11_looked_16 : q_at cX11_looked 16 (.ldc 57) 2 18 := ⟨by decide +kernel, rfl⟩
theorem dX11_looked_18 : q_at cX11_looked 18 (.goto 6) 3 21 := ⟨by decide +kernel, rfl⟩
theorem dX11_looked_21 : q_at cX11_looked 21 (.aload_n 0) 1 22 := ⟨by decide +kernel, rfl⟩
theorem dX11_looked_22 : q_at cX11_looked 22 (.iload_n 1) 1 23 := ⟨by decide +kernel, rfl⟩
theorem dX11_looked_23 : q_at cX11_looked 23 (.iaload) 1 24 := ⟨by decide +kernel, rfl⟩
theorem dX11_looked_24 : q_at cX11_looked 24 (.ireturn) 1 25 := ⟨by decide +kernel, rfl⟩
theorem dX11_newDue_0 : q_at cX11_newDue 0 (.aload_n 0) 1 1 := ⟨by decide +kernel, rfl⟩
theorem dX11_newDue_1 : q_at cX11_newDue 1 (.getfield 10) 3 4 := ⟨by decide +kernel, rfl⟩
theorem dX11_newDue_4 : q_at cX11_newDue 4 (.getfield 70) 3 7 := ⟨by decide +kernel, rfl⟩
theorem dX11_newDue_7 : q_at cX11_newDue 7 (.iload_n 2) 1 8 := ⟨by decide +kernel, rfl⟩
theorem dX11_newDue_8 : q_at cX11_newDue 8 (.invokevirtual 119) 3 11 := ⟨by decide +kernel, rfl⟩
theorem dX11_newDue_11 : q_at cX11_newDue 11 (.ifCond .eq 25) 3 14 := ⟨by decide +kernel, rfl⟩
theorem dX11_newDue_14 : q_at cX11_newDue 14 (.iload_n 3) 1 15 := ⟨by decide +kernel, rfl⟩
theorem dX11_newDue_15 : q_at cX11_newDue 15 (.iconst 1) 1 16 := ⟨by decide +kernel, rfl⟩
theorem dX11_newDue_16 : q_at cX11_newDue 16 (.sipush 999) 3 19 := ⟨by decide +kernel, rfl⟩
theorem dX11_newDue_19 : q_at cX11_newDue 19 (.invokestatic 53) 3 22 := ⟨by decide +kernel, rfl⟩
theorem dX11_newDue_22 : q_at cX11_newDue 22 (.ifCond .eq 14) 3 25 := ⟨by decide +kernel, rfl⟩
theorem dX11_newDue_25 : q_at cX11_newDue 25 (.iload 4) 2 27 := ⟨by decide +kernel, rfl⟩
theorem dX11_newDue_27 : q_at cX11_newDue 27 (.iconst 0) 1 28 := ⟨by decide +kernel, rfl⟩
theorem dX11_newDue_28 : q_at cX11_newDue 28 (.bipush 9) 2 30 := ⟨by decide +kernel, rfl⟩
theorem dX11_newDue_30 : q_at cX11_newDue 30 (.invokestatic 53) 3 33 := ⟨by decide +kernel, rfl⟩
theorem dX11_newDue_33 : q_at cX11_newDue 33 (.ifCond .ne 6) 3 36 := ⟨by decide +kernel, rfl⟩
theorem dX11_newDue_36 : q_at cX11_newDue 36 (.ldc 57) 2 38 := ⟨by decide +kernel, rfl⟩
theorem dX11_newDue_38 : q_at cX11_newDue 38 (.ireturn) 1 39 := ⟨by decide +kernel, rfl⟩
theorem dX11_newDue_39 : q_at cX11_newDue 39 (.aload_n 0) 1 40 := ⟨by decide +kernel, rfl⟩
theorem dX11_newDue_40 : q_at cX11_newDue 40 (.getfield 10) 3 43 := ⟨by decide +kernel, rfl⟩
theorem dX11_newDue_43 : q_at cX11_newDue 43 (.getfield 70) 3 46 := ⟨by decide +kernel, rfl⟩
theorem dX11_newDue_46 : q_at cX11_newDue 46 (.iload_n 2) 1 47 := ⟨by decide +kernel, rfl⟩
theorem dX11_newDue_47 : q_at cX11_newDue 47 (.invokevirtual 168) 3 50 := ⟨by decide +kernel, rfl⟩
theorem dX11_newDue_50 : q_at cX11_newDue 50 (.ifCond .eq 6) 3 53 := ⟨by decide +kernel, rfl⟩
theorem dX11_newDue_53 : q_at cX11_newDue 53 (.ldc 171) 2 55 := ⟨by decide +kernel, rfl⟩
theorem dX11_newDue_55 : q_at cX11_newDue 55 (.ireturn) 1 56 := ⟨by decide +kernel, rfl⟩
theorem dX11_newDue_56 : q_at cX11_newDue 56 (.aload_n 0) 1 57 := ⟨by decide +kernel, rfl⟩
theorem dX11_newDue_57 : q_at cX11_newDue 57 (.getfield 10) 3 60 := ⟨by decide +kernel, rfl⟩
theorem dX11_newDue_60 : q_at cX11_newDue 60 (.getfield 107) 3 63 := ⟨by decide +kernel, rfl⟩
theorem dX11_newDue_63 : q_at cX11_newDue 63 (.iload_n 1) 1 64 := ⟨by decide +kernel, rfl⟩
theorem dX11_newDue_64 : q_at cX11_newDue 64 (.iload_n 2) 1 65 := ⟨by decide +kernel, rfl⟩
theorem dX11_newDue_65 : q_at cX11_newDue 65 (.iload_n 3) 1 66 := ⟨by decide +kernel, rfl⟩
theorem dX11_newDue_66 : q_at cX11_newDue 66 (.iload 4) 2 68 := ⟨by decide +kernel, rfl⟩
theorem dX11_newDue_68 : q_at cX11_newDue 68 (.aload_n 0) 1 69 := ⟨by decide +kernel, rfl⟩
theorem dX11_newDue_69 : q_at cX11_newDue 69 (.getfield 10) 3 72 := ⟨by decide +kernel, rfl⟩
theorem dX11_newDue_72 : q_at cX11_newDue 72 (.getfield 141) 3 75 := ⟨by decide +kernel, rfl⟩
theorem dX11_newDue_75 : q_at cX11_newDue 75 (.invokevirtual 172) 3 78 := ⟨by decide +kernel, rfl⟩
theorem dX11_newDue_78 : q_at cX11_newDue 78 (.ireturn) 1 79 := ⟨by decide +kernel, rfl⟩
theorem dX11_prove_0 : q_at cX11_prove 0 (.iload_n 1) 1 1 := ⟨by decide +kernel, rfl⟩
theorem dX11_prove_1 : q_at cX11_prove 1 (.iconst 0) 1 2 := ⟨by decide +kernel, rfl⟩
theorem dX11_prove_2 : q_at cX11_prove 2 (.bipush 7) 2 4 := ⟨by decide +kernel, rfl⟩
theorem dX11_prove_4 : q_at cX11_prove 4 (.invokestatic 53) 3 7 := ⟨by decide +kernel, rfl⟩
theorem dX11_prove_7 : q_at cX11_prove 7 (.ifCond .eq 13) 3 10 := ⟨by decide +kernel, rfl⟩
theorem dX11_prove_10 : q_at cX11_prove 10 (.iload 4) 2 12 := ⟨by decide +kernel, rfl⟩
theorem dX11_prove_12 : q_at cX11_prove 12 (.iconst 0) 1 13 := ⟨by decide +kernel, rfl⟩
theorem dX11_prove_13 : q_at cX11_prove 13 (.iconst 1) 1 14 := ⟨by decide +kernel, rfl⟩
theorem dX11_prove_14 : q_at cX11_prove 14 (.invokestatic 53) 3 17 := ⟨by decide +kernel, rfl⟩
theorem dX11_prove_17 : q_at cX11_prove 17 (.ifCond .ne 6) 3 20 := ⟨by decide +kernel, rfl⟩
theorem dX11_prove_20 : q_at cX11_prove 20 (.ldc 57) 2 22 := ⟨by decide +kernel, rfl⟩
theorem dX11_prove_22 : q_at cX11_prove 22 (.ireturn) 1 23 := ⟨by decide +kernel, rfl⟩
theorem dX11_prove_23 : q_at cX11_prove 23 (.iload_n 2) 1 24 := ⟨by decide +kernel, rfl⟩
theorem dX11_prove_24 : q_at cX11_prove 24 (.iconst 1) 1 25 := ⟨by decide +kernel, rfl⟩
theorem dX11_prove_25 : q_at cX11_prove 25 (.bipush 99) 2 27 := ⟨by decide +kernel, rfl⟩
theorem dX11_prove_27 : q_at cX11_prove 27 (.invokestatic 53) 3 30 := ⟨by decide +kernel, rfl⟩
theorem dX11_prove_30 : q_at cX11_prove 30 (.ifCond .eq 13) 3 33 := ⟨by decide +kernel, rfl⟩
theorem dX11_prove_33 : q_at cX11_prove 33 (.iload_n 3) 1 34 := ⟨by decide +kernel, rfl⟩
theorem dX11_prove_34 : q_at cX11_prove 34 (.iload_n 2) 1 35 := ⟨by decide +kernel, rfl⟩
theorem dX11_prove_35 : q_at cX11_prove 35 (.bipush 99) 2 37 := ⟨by decide +kernel, rfl⟩
theorem dX11_prove_37 : q_at cX11_prove 37 (.invokestatic 53) 3 40 := ⟨by decide +kernel, rfl⟩
theorem dX11_prove_40 : q_at cX11_prove 40 (.ifCond .ne 6) 3 43 := ⟨by decide +kernel, rfl⟩
theorem dX11_prove_43 : q_at cX11_prove 43 (.ldc 57) 2 45 := ⟨by decide +kernel, rfl⟩
theorem dX11_prove_45 : q_at cX11_prove 45 (.ireturn) 1 46 := ⟨by decide +kernel, rfl⟩
theorem dX11_prove_46 : q_at cX11_prove 46 (.aload_n 0) 1 47 := ⟨by decide +kernel, rfl⟩
theorem dX11_prove_47 : q_at cX11_prove 47 (.getfield 10) 3 50 := ⟨by decide +kernel, rfl⟩
theorem dX11_prove_50 : q_at cX11_prove 50 (.getfield 58) 3 53 := ⟨by decide +kernel, rfl⟩
theorem dX11_prove_53 : q_at cX11_prove 53 (.getfield 213) 3 56 := ⟨by decide +kernel, rfl⟩
theorem dX11_prove_56 : q_at cX11_prove 56 (.iload_n 1) 1 57 := ⟨by decide +kernel, rfl⟩
theorem dX11_prove_57 : q_at cX11_prove 57 (.iaload) 1 58 := ⟨by decide +kernel, rfl⟩
theorem dX11_prove_58 : q_at cX11_prove 58 (.i2l) 1 59 := ⟨by decide +kernel, rfl⟩
theorem dX11_prove_59 : q_at cX11_prove 59 (.iload 4) 2 61 := ⟨by decide +kernel, rfl⟩
theorem dX11_prove_61 : q_at cX11_prove 61 (.ifCond .ne 7) 3 64 := ⟨by decide +kernel, rfl⟩
theorem dX11_prove_64 : q_at cX11_prove 64 (.iload_n 3) 1 65 := ⟨by decide +kernel, rfl⟩
theorem dX11_prove_65 : q_at cX11_prove 65 (.goto 4) 3 68 := ⟨by decide +kernel, rfl⟩
theorem dX11_prove_68 : q_at cX11_prove 68 (.iload_n 2) 1 69 := ⟨by decide +kernel, rfl⟩
theorem dX11_prove_69 : q_at cX11_prove 69 (.i2l) 1 70 := ⟨by decide +kernel, rfl⟩
theorem dX11_prove_70 : q_at cX11_prove 70 (.lmul) 1 71 := ⟨by decide +kernel, rfl⟩
theorem dX11_prove_71 : q_at cX11_prove 71 (.lstore 5) 2 73 := ⟨by decide +kernel, rfl⟩
theorem dX11_prove_73 : q_at cX11_prove 73 (.lload 5) 2 75 := ⟨by decide +kernel, rfl⟩
theorem dX11_prove_75 : q_at cX11_prove 75 (.lconst 0) 1 76 := ⟨by decide +kernel, rfl⟩
theorem dX11_prove_76 : q_at cX11_prove 76 (.lcmp) 1 77 := ⟨by decide +kernel, rfl⟩
theorem dX11_prove_77 : q_at cX11_prove 77 (.ifCond .gt 8) 3 80 := ⟨by decide +kernel, rfl⟩
theorem dX11_prove_80 : q_at cX11_prove 80 (.ldc 130) 2 82 := ⟨by decide +kernel, rfl⟩
theorem dX11_prove_82 : q_at cX11_prove 82 (.goto 24) 3 85 := ⟨by decide +kernel, rfl⟩
theorem dX11_prove_85 : q_at cX11_prove 85 (.aload_n 0) 1 86 := ⟨by decide +kernel, rfl⟩
theorem dX11_prove_86 : q_at cX11_prove 86 (.getfield 10) 3 89 := ⟨by decide +kernel, rfl⟩
theorem dX11_prove_89 : q_at cX11_prove 89 (.getfield 58) 3 92 := ⟨by decide +kernel, rfl⟩
theorem dX11_prove_92 : q_at cX11_prove 92 (.getfield 216) 3 95 := ⟨by decide +kernel, rfl⟩
theorem dX11_prove_95 : q_at cX11_prove 95 (.iload_n 1) 1 96 := ⟨by decide +kernel, rfl⟩
theorem dX11_prove_96 : q_at cX11_prove 96 (.iaload) 1 97 := ⟨by decide +kernel, rfl⟩
theorem dX11_prove_97 : q_at cX11_prove 97 (.i2l) 1 98 := ⟨by decide +kernel, rfl⟩
theorem dX11_prove_98 : q_at cX11_prove 98 (.ldc2_w 219) 3 101 := ⟨by decide +kernel, rfl⟩
theorem dX11_prove_101 : q_at cX11_prove 101 (.lmul) 1 102 := ⟨by decide +kernel, rfl⟩
theorem dX11_prove_102 : q_at cX11_prove 102 (.lload 5) 2 104 := ⟨by decide +kernel, rfl⟩
theorem dX11_prove_104 : q_at cX11_prove 104 (.ldiv) 1 105 := ⟨by decide +kernel, rfl⟩
theorem dX11_prove_105 : q_at cX11_prove 105 (.l2i) 1 106 := ⟨by decide +kernel, rfl⟩
theorem dX11_prove_106 : q_at cX11_prove 106 (.ireturn) 1 107 := ⟨by decide +kernel, rfl⟩
theorem dX11_shop_0 : q_at cX11_shop 0 (.iload_n 1) 1 1 := ⟨by decide +kernel, rfl⟩
theorem dX11_shop_1 : q_at cX11_shop 1 (.iconst 0) 1 2 := ⟨by decide +kernel, rfl⟩
theorem dX11_shop_2 : q_at cX11_shop 2 (.iconst 1) 1 3 := ⟨by decide +kernel, rfl⟩
theorem dX11_shop_3 : q_at cX11_shop 3 (.invokestatic 53) 3 6 := ⟨by decide +kernel, rfl⟩
theorem dX11_shop_6 : q_at cX11_shop 6 (.ifCond .eq 13) 3 9 := ⟨by decide +kernel, rfl⟩
theorem dX11_shop_9 : q_at cX11_shop 9 (.iload_n 2) 1 10 := ⟨by decide +kernel, rfl⟩
theorem dX11_shop_10 : q_at cX11_shop 10 (.iconst 1) 1 11 := ⟨by decide +kernel, rfl⟩
theorem dX11_shop_11 : q_at cX11_shop 11 (.bipush 99) 2 13 := ⟨by decide +kernel, rfl⟩
theorem dX11_shop_13 : q_at cX11_shop 13 (.invokestatic 53) 3 16 := ⟨by decide +kernel, rfl⟩
theorem dX11_shop_16 : q_at cX11_shop 16 (.ifCond .ne 6) 3 19 := ⟨by decide +kernel, rfl⟩
theorem dX11_shop_19 : q_at cX11_shop 19 (.ldc 57) 2 21 := ⟨by decide +kernel, rfl⟩
theorem dX11_shop_21 : q_at cX11_shop 21 (.ireturn) 1 22 := ⟨by decide +kernel, rfl⟩
theorem dX11_shop_22 : q_at cX11_shop 22 (.iload_n 3) 1 23 := ⟨by decide +kernel, rfl⟩
theorem dX11_shop_23 : q_at cX11_shop 23 (.iconst 0) 1 24 := ⟨by decide +kernel, rfl⟩
theorem dX11_shop_24 : q_at cX11_shop 24 (.ldc 86) 2 26 := ⟨by decide +kernel, rfl⟩
theorem dX11_shop_26 : q_at cX11_shop 26 (.invokestatic 53) 3 29 := ⟨by decide +kernel, rfl⟩
theorem dX11_shop_29 : q_at cX11_shop 29 (.ifCond .ne 6) 3 32 := ⟨by decide +kernel, rfl⟩
theorem dX11_shop_32 : q_at cX11_shop 32 (.ldc 57) 2 34 := ⟨by decide +kernel, rfl⟩
theorem dX11_shop_34 : q_at cX11_shop 34 (.ireturn) 1 35 := ⟨by decide +kernel, rfl⟩
theorem dX11_shop_35 : q_at cX11_shop 35 (.iload 4) 2 37 := ⟨by decide +kernel, rfl⟩
theorem dX11_shop_37 : q_at cX11_shop 37 (.iconst 0) 1 38 := ⟨by decide +kernel, rfl⟩
theorem dX11_shop_38 : q_at cX11_shop 38 (.iload_n 1) 1 39 := ⟨by decide +kernel, rfl⟩
theorem dX11_shop_39 : q_at cX11_shop 39 (.ifCond .ne 7) 3 42 := ⟨by decide +kernel, rfl⟩
theorem dX11_shop_42 : q_at cX11_shop 42 (.iconst 0) 1 43 := ⟨by decide +kernel, rfl⟩
theorem dX11_shop_43 : q_at cX11_shop 43 (.goto 5) 3 46 := ⟨by decide +kernel, rfl⟩
theorem dX11_shop_46 : q_at cX11_shop 46 (.bipush 99) 2 48 := ⟨by decide +kernel, rfl⟩
theorem dX11_shop_48 : q_at cX11_shop 48 (.invokestatic 53) 3 51 := ⟨by decide +kernel, rfl⟩
theorem dX11_shop_51 : q_at cX11_shop 51 (.ifCond .ne 6) 3 54 := ⟨by decide +kernel, rfl⟩
theorem dX11_shop_54 : q_at cX11_shop 54 (.ldc 57) 2 56 := ⟨by decide +kernel, rfl⟩
theorem dX11_shop_56 : q_at cX11_shop 56 (.ireturn) 1 57 := ⟨by decide +kernel, rfl⟩
theorem dX11_shop_57 : q_at cX11_shop 57 (.aload_n 0) 1 58 := ⟨by decide +kernel, rfl⟩
theorem dX11_shop_58 : q_at cX11_shop 58 (.getfield 10) 3 61 := ⟨by decide +kernel, rfl⟩
theorem dX11_shop_61 : q_at cX11_shop 61 (.getfield 87) 3 64 := ⟨by decide +kernel, rfl⟩
theorem dX11_shop_64 : q_at cX11_shop 64 (.iload_n 1) 1 65 := ⟨by decide +kernel, rfl⟩
theorem dX11_shop_65 : q_at cX11_shop 65 (.iload_n 2) 1 66 := ⟨by decide +kernel, rfl⟩
theorem dX11_shop_66 : q_at cX11_shop 66 (.iload_n 3) 1 67 := ⟨by decide +kernel, rfl⟩
theorem dX11_shop_67 : q_at cX11_shop 67 (.iload 4) 2 69 := ⟨by decide +kernel, rfl⟩
theorem dX11_shop_69 : q_at cX11_shop 69 (.invokevirtual 91) 3 72 := ⟨by decide +kernel, rfl⟩
theorem dX11_shop_72 : q_at cX11_shop 72 (.ireturn) 1 73 := ⟨by decide +kernel, rfl⟩
theorem dX11_trim_0 : q_at cX11_trim 0 (.iload_n 1) 1 1 := ⟨by decide +kernel, rfl⟩
theorem dX11_trim_1 : q_at cX11_trim 1 (.iconst 0) 1 2 := ⟨by decide +kernel, rfl⟩
theorem dX11_trim_2 : q_at cX11_trim 2 (.aload_n 0) 1 3 := ⟨by decide +kernel, rfl⟩
theorem dX11_trim_3 : q_at cX11_trim 3 (.getfield 25) 3 6 := ⟨by decide +kernel, rfl⟩
theorem dX11_trim_6 : q_at cX11_trim 6 (.getfield 246) 3 9 := ⟨by decide +kernel, rfl⟩
theorem dX11_trim_9 : q_at cX11_trim 9 (.invokestatic 53) 3 12 := ⟨by decide +kernel, rfl⟩
theorem dX11_trim_12 : q_at cX11_trim 12 (.ifCond .ne 6) 3 15 := ⟨by decide +kernel, rfl⟩
theorem dX11_trim_15 : q_at cX11_trim 15 (.ldc 57) 2 17 := ⟨by decide +kernel, rfl⟩
theorem dX11_trim_17 : q_at cX11_trim 17 (.ireturn) 1 18 := ⟨by decide +kernel, rfl⟩
theorem dX11_trim_18 : q_at cX11_trim 18 (.aload_n 0) 1 19 := ⟨by decide +kernel, rfl⟩
theorem dX11_trim_19 : q_at cX11_trim 19 (.getfield 25) 3 22 := ⟨by decide +kernel, rfl⟩
theorem dX11_trim_22 : q_at cX11_trim 22 (.iload_n 1) 1 23 := ⟨by decide +kernel, rfl⟩
theorem dX11_trim_23 : q_at cX11_trim 23 (.putfield 246) 3 26 := ⟨by decide +kernel, rfl⟩
theorem dX11_trim_26 : q_at cX11_trim 26 (.iload_n 1) 1 27 := ⟨by decide +kernel, rfl⟩
theorem dX11_trim_27 : q_at cX11_trim 27 (.ireturn) 1 28 := ⟨by decide +kernel, rfl⟩
theorem dX11_why_0 : q_at cX11_why 0 (.iload_n 1) 1 1 := ⟨by decide +kernel, rfl⟩
theorem dX11_why_1 : q_at cX11_why 1 (.iconst 0) 1 2 := ⟨by decide +kernel, rfl⟩
theorem dX11_why_2 : q_at cX11_why 2 (.bipush 6) 2 4 := ⟨by decide +kernel, rfl⟩
theorem dX11_why_4 : q_at cX11_why 4 (.invokestatic 53) 3 7 := ⟨by decide +kernel, rfl⟩
theorem dX11_why_7 : q_at cX11_why 7 (.ifCond .ne 6) 3 10 := ⟨by decide +kernel, rfl⟩
theorem dX11_why_10 : q_at cX11_why 10 (.ldc 57) 2 12 := ⟨by decide +kernel, rfl⟩
theorem dX11_why_12 : q_at cX11_why 12 (.ireturn) 1 13 := ⟨by decide +kernel, rfl⟩
theorem dX11_why_13 : q_at cX11_why 13 (.aload_n 0) 1 14 := ⟨by decide +kernel, rfl⟩
theorem dX11_why_14 : q_at cX11_why 14 (.getfield 10) 3 17 := ⟨by decide +kernel, rfl⟩
theorem dX11_why_17 : q_at cX11_why 17 (.getfield 256) 3 20 := ⟨by decide +kernel, rfl⟩
theorem dX11_why_20 : q_at cX11_why 20 (.iload_n 1) 1 21 := ⟨by decide +kernel, rfl⟩
theorem dX11_why_21 : q_at cX11_why 21 (.aload_n 0) 1 22 := ⟨by decide +kernel, rfl⟩
theorem dX11_why_22 : q_at cX11_why 22 (.getfield 10) 3 25 := ⟨by decide +kernel, rfl⟩
theorem dX11_why_25 : q_at cX11_why 25 (.getfield 141) 3 28 := ⟨by decide +kernel, rfl⟩
theorem dX11_why_28 : q_at cX11_why 28 (.invokevirtual 277) 3 31 := ⟨by decide +kernel, rfl⟩
theorem dX11_why_31 : q_at cX11_why 31 (.istore_n 2) 1 32 := ⟨by decide +kernel, rfl⟩
theorem dX11_why_32 : q_at cX11_why 32 (.iload_n 2) 1 33 := ⟨by decide +kernel, rfl⟩
theorem dX11_why_33 : q_at cX11_why 33 (.ifCond .ge 8) 3 36 := ⟨by decide +kernel, rfl⟩
theorem dX11_why_36 : q_at cX11_why 36 (.ldc 130) 2 38 := ⟨by decide +kernel, rfl⟩
theorem dX11_why_38 : q_at cX11_why 38 (.goto 4) 3 41 := ⟨by decide +kernel, rfl⟩
theorem dX11_why_41 : q_at cX11_why 41 (.iload_n 2) 1 42 := ⟨by decide +kernel, rfl⟩
theorem dX11_why_42 : q_at cX11_why 42 (.ireturn) 1 43 := ⟨by decide +kernel, rfl⟩
theorem dX11_all_0 : q_at cX11_all 0 (.iload_n 1) 1 1 := ⟨by decide +kernel, rfl⟩
theorem dX11_all_1 : q_at cX11_all 1 (.ifCond .lt 12) 3 4 := ⟨by decide +kernel, rfl⟩
theorem dX11_all_4 : q_at cX11_all 4 (.iload_n 2) 1 5 := ⟨by decide +kernel, rfl⟩
theorem dX11_all_5 : q_at cX11_all 5 (.iconst 0) 1 6 := ⟨by decide +kernel, rfl⟩
theorem dX11_all_6 : q_at cX11_all 6 (.iconst 1) 1 7 := ⟨by decide +kernel, rfl⟩
theorem dX11_all_7 : q_at cX11_all 7 (.invokestatic 53) 3 10 := ⟨by decide +kernel, rfl⟩
theorem dX11_all_10 : q_at cX11_all 10 (.ifCond .ne 6) 3 13 := ⟨by decide +kernel, rfl⟩
theorem dX11_all_13 : q_at cX11_all 13 (.ldc 57) 2 15 := ⟨by decide +kernel, rfl⟩
theorem dX11_all_15 : q_at cX11_all 15 (.ireturn) 1 16 := ⟨by decide +kernel, rfl⟩
theorem dX11_all_16 : q_at cX11_all 16 (.iconst 0) 1 17 := ⟨by decide +kernel, rfl⟩
theorem dX11_all_17 : q_at cX11_all 17 (.istore_n 3) 1 18 := ⟨by decide +kernel, rfl⟩
theorem dX11_all_18 : q_at cX11_all 18 (.iconst 0) 1 19 := ⟨by decide +kernel, rfl⟩
theorem dX11_all_19 : q_at cX11_all 19 (.istore 4) 2 21 := ⟨by decide +kernel, rfl⟩
theorem dX11_all_21 : q_at cX11_all 21 (.iconst 0) 1 22 := ⟨by decide +kernel, rfl⟩
theorem dX11_all_22 : q_at cX11_all 22 (.istore 5) 2 24 := ⟨by decide +kernel, rfl⟩
theorem dX11_all_24 : q_at cX11_all 24 (.iload 5) 2 26 := ⟨by decide +kernel, rfl⟩
theorem dX11_all_26 : q_at cX11_all 26 (.bipush 8) 2 28 := ⟨by decide +kernel, rfl⟩
theorem dX11_all_28 : q_at cX11_all 28 (.if_icmp .ge 45) 3 31 := ⟨by decide +kernel, rfl⟩
theorem dX11_all_31 : q_at cX11_all 31 (.aload_n 0) 1 32 := ⟨by decide +kernel, rfl⟩
theorem dX11_all_32 : q_at cX11_all 32 (.getfield 32) 3 35 := ⟨by decide +kernel, rfl⟩
theorem dX11_all_35 : q_at cX11_all 35 (.iload 5) 2 37 := ⟨by decide +kernel, rfl⟩
theorem dX11_all_37 : q_at cX11_all 37 (.iload_n 1) 1 38 := ⟨by decide +kernel, rfl⟩
theorem dX11_all_38 : q_at cX11_all 38 (.invokevirtual 297) 3 41 := ⟨by decide +kernel, rfl⟩
theorem dX11_all_41 : q_at cX11_all 41 (.istore 6) 2 43 := ⟨by decide +kernel, rfl⟩
theorem dX11_all_43 : q_at cX11_all 43 (.iload 6) 2 45 := ⟨by decide +kernel, rfl⟩
theorem dX11_all_45 : q_at cX11_all 45 (.ifCond .ge 9) 3 48 := ⟨by decide +kernel, rfl⟩
theorem dX11_all_48 : q_at cX11_all 48 (.iinc 4 1) 3 51 := ⟨by decide +kernel, rfl⟩
theorem dX11_all_51 : q_at cX11_all 51 (.goto 16) 3 54 := ⟨by decide +kernel, rfl⟩
theorem dX11_all_54 : q_at cX11_all 54 (.iload_n 3) 1 55 := ⟨by decide +kernel, rfl⟩
theorem dX11_all_55 : q_at cX11_all 55 (.aload_n 0) 1 56 := ⟨by decide +kernel, rfl⟩
theorem dX11_all_56 : q_at cX11_all 56 (.getfield 32) 3 59 := ⟨by decide +kernel, rfl⟩
theorem dX11_all_59 : q_at cX11_all 59 (.getfield 300) 3 62 := ⟨by decide +kernel, rfl⟩
theorem dX11_all_62 : q_at cX11_all 62 (.iload 6) 2 64 := ⟨by decide +kernel, rfl⟩
theorem dX11_all_64 : q_at cX11_all 64 (.iaload) 1 65 := ⟨by decide +kernel, rfl⟩
theorem dX11_all_65 : q_at cX11_all 65 (.iadd) 1 66 := ⟨by decide +kernel, rfl⟩
theorem dX11_all_66 : q_at cX11_all 66 (.istore_n 3) 1 67 := ⟨by decide +kernel, rfl⟩
theorem dX11_all_67 : q_at cX11_all 67 (.iinc 5 1) 3 70 := ⟨by decide +kernel, rfl⟩
theorem dX11_all_70 : q_at cX11_all 70 (.goto (-46)) 3 73 := ⟨by decide +kernel, rfl⟩
theorem dX11_all_73 : q_at cX11_all 73 (.iload_n 2) 1 74 := ⟨by decide +kernel, rfl⟩
theorem dX11_all_74 : q_at cX11_all 74 (.ifCond .ne 7) 3 77 := ⟨by decide +kernel, rfl⟩
theorem dX11_all_77 : q_at cX11_all 77 (.iload_n 3) 1 78 := ⟨by decide +kernel, rfl⟩
theorem dX11_all_78 : q_at cX11_all 78 (.goto 5) 3 81 := ⟨by decide +kernel, rfl⟩
theorem dX11_all_81 : q_at cX11_all 81 (.iload 4) 2 83 := ⟨by decide +kernel, rfl⟩
theorem dX11_all_83 : q_at cX11_all 83 (.ireturn) 1 84 := ⟨by decide +kernel, rfl⟩
theorem dX11_book_0 : q_at cX11_book 0 (.iload_n 1) 1 1 := ⟨by decide +kernel, rfl⟩
theorem dX11_book_1 : q_at cX11_book 1 (.iconst 0) 1 2 := ⟨by decide +kernel, rfl⟩
theorem dX11_book_2 : q_at cX11_book 2 (.bipush 7) 2 4 := ⟨by decide +kernel, rfl⟩
theorem dX11_book_4 : q_at cX11_book 4 (.invokestatic 53) 3 7 := ⟨by decide +kernel, rfl⟩
theorem dX11_book_7 : q_at cX11_book 7 (.ifCond .eq 12) 3 10 := ⟨by decide +kernel, rfl⟩
theorem dX11_book_10 : q_at cX11_book 10 (.iload_n 2) 1 11 := ⟨by decide +kernel, rfl⟩
theorem dX11_book_11 : q_at cX11_book 11 (.iconst (-1)) 1 12 := ⟨by decide +kernel, rfl⟩
theorem dX11_book_12 : q_at cX11_book 12 (.iconst 1) 1 13 := ⟨by decide +kernel, rfl⟩
theorem dX11_book_13 : q_at cX11_book 13 (.invokestatic 53) 3 16 := ⟨by decide +kernel, rfl⟩
theorem dX11_book_16 : q_at cX11_book 16 (.ifCond .ne 6) 3 19 := ⟨by decide +kernel, rfl⟩
theorem dX11_book_19 : q_at cX11_book 19 (.ldc 57) 2 21 := ⟨by decide +kernel, rfl⟩
theorem dX11_book_21 : q_at cX11_book 21 (.ireturn) 1 22 := ⟨by decide +kernel, rfl⟩
theorem dX11_book_22 : q_at cX11_book 22 (.iload_n 2) 1 23 := ⟨by decide +kernel, rfl⟩
theorem dX11_book_23 : q_at cX11_book 23 (.iconst (-1)) 1 24 := ⟨by decide +kernel, rfl⟩
theorem dX11_book_24 : q_at cX11_book 24 (.if_icmp .eq 12) 3 27 := ⟨by decide +kernel, rfl⟩
theorem dX11_book_27 : q_at cX11_book 27 (.iload_n 3) 1 28 := ⟨by decide +kernel, rfl⟩
theorem dX11_book_28 : q_at cX11_book 28 (.bipush 30) 2 30 := ⟨by decide +kernel, rfl⟩
theorem dX11_book_30 : q_at cX11_book 30 (.if_icmp .le 6) 3 33 := ⟨by decide +kernel, rfl⟩
theorem dX11_book_33 : q_at cX11_book 33 (.ldc 57) 2 35 := ⟨by decide +kernel, rfl⟩
theorem dX11_book_35 : q_at cX11_book 35 (.ireturn) 1 36 := ⟨by decide +kernel, rfl⟩
theorem dX11_book_36 : q_at cX11_book 36 (.iload_n 2) 1 37 := ⟨by decide +kernel, rfl⟩
theorem dX11_book_37 : q_at cX11_book 37 (.iconst (-1)) 1 38 := ⟨by decide +kernel, rfl⟩
theorem dX11_book_38 : q_at cX11_book 38 (.if_icmp .eq 11) 3 41 := ⟨by decide +kernel, rfl⟩
theorem dX11_book_41 : q_at cX11_book 41 (.iload_n 3) 1 42 := ⟨by decide +kernel, rfl⟩
theorem dX11_book_42 : q_at cX11_book 42 (.ifCond .ge 7) 3 45 := ⟨by decide +kernel, rfl⟩
theorem dX11_book_45 : q_at cX11_book 45 (.ldc_w 283) 3 48 := ⟨by decide +kernel, rfl⟩
theorem dX11_book_48 : q_at cX11_book 48 (.ireturn) 1 49 := ⟨by decide +kernel, rfl⟩
theorem dX11_book_49 : q_at cX11_book 49 (.aload_n 0) 1 50 := ⟨by decide +kernel, rfl⟩
theorem dX11_book_50 : q_at cX11_book 50 (.getfield 32) 3 53 := ⟨by decide +kernel, rfl⟩
theorem dX11_book_53 : q_at cX11_book 53 (.iload_n 1) 1 54 := ⟨by decide +kernel, rfl⟩
theorem dX11_book_54 : q_at cX11_book 54 (.iload_n 2) 1 55 := ⟨by decide +kernel, rfl⟩
theorem dX11_book_55 : q_at cX11_book 55 (.iload_n 2) 1 56 := ⟨by decide +kernel, rfl⟩
theorem dX11_book_56 : q_at cX11_book 56 (.iconst (-1)) 1 57 := ⟨by decide +kernel, rfl⟩
theorem dX11_book_57 : q_at cX11_book 57 (.if_icmp .ne 7) 3 60 := ⟨by decide +kernel, rfl⟩
theorem dX11_book_60 : q_at cX11_book 60 (.iconst 0) 1 61 := ⟨by decide +kernel, rfl⟩
theorem dX11_book_61 : q_at cX11_book 61 (.goto 4) 3 64 := ⟨by decide +kernel, rfl⟩
theorem dX11_book_64 : q_at cX11_book 64 (.iload_n 3) 1 65 := ⟨by decide +kernel, rfl⟩
theorem dX11_book_65 : q_at cX11_book 65 (.invokevirtual 284) 3 68 := ⟨by decide +kernel, rfl⟩
theorem dX11_book_68 : q_at cX11_book 68 (.aload_n 0) 1 69 := ⟨by decide +kernel, rfl⟩
theorem dX11_book_69 : q_at cX11_book 69 (.getfield 32) 3 72 := ⟨by decide +kernel, rfl⟩
theorem dX11_book_72 : q_at cX11_book 72 (.getfield 288) 3 75 := ⟨by decide +kernel, rfl⟩
theorem dX11_book_75 : q_at cX11_book 75 (.iload_n 1) 1 76 := ⟨by decide +kernel, rfl⟩
theorem dX11_book_76 : q_at cX11_book 76 (.iaload) 1 77 := ⟨by decide +kernel, rfl⟩
theorem dX11_book_77 : q_at cX11_book 77 (.ireturn) 1 78 := ⟨by decide +kernel, rfl⟩
theorem dX11_bound_0 : q_at cX11_bound 0 (.aload_n 0) 1 1 := ⟨by decide +kernel, rfl⟩
theorem dX11_bound_1 : q_at cX11_bound 1 (.getfield 10) 3 4 := ⟨by decide +kernel, rfl⟩
theorem dX11_bound_4 : q_at cX11_bound 4 (.getfield 70) 3 7 := ⟨by decide +kernel, rfl⟩
theorem dX11_bound_7 : q_at cX11_bound 7 (.iload_n 1) 1 8 := ⟨by decide +kernel, rfl⟩
theorem dX11_bound_8 : q_at cX11_bound 8 (.invokevirtual 119) 3 11 := ⟨by decide +kernel, rfl⟩
theorem dX11_bound_11 : q_at cX11_bound 11 (.ifCond .eq 24) 3 14 := ⟨by decide +kernel, rfl⟩
theorem dX11_bound_14 : q_at cX11_bound 14 (.iload_n 2) 1 15 := ⟨by decide +kernel, rfl⟩
theorem dX11_bound_15 : q_at cX11_bound 15 (.iconst 0) 1 16 := ⟨by decide +kernel, rfl⟩
theorem dX11_bound_16 : q_at cX11_bound 16 (.sipush 9999) 3 19 := ⟨by decide +kernel, rfl⟩
theorem dX11_bound_19 : q_at cX11_bound 19 (.invokestatic 53) 3 22 := ⟨by decide +kernel, rfl⟩
theorem dX11_bound_22 : q_at cX11_bound 22 (.ifCond .eq 13) 3 25 := ⟨by decide +kernel, rfl⟩
theorem dX11_bound_25 : q_at cX11_bound 25 (.iload_n 3) 1 26 := ⟨by decide +kernel, rfl⟩
theorem dX11_bound_26 : q_at cX11_bound 26 (.iconst 1) 1 27 := ⟨by decide +kernel, rfl⟩
theorem dX11_bound_27 : q_at cX11_bound 27 (.bipush 99) 2 29 := ⟨by decide +kernel, rfl⟩
theorem dX11_bound_29 : q_at cX11_bound 29 (.invokestatic 53) 3 32 := ⟨by decide +kernel, rfl⟩
theorem dX11_bound_32 : q_at cX11_bound 32 (.ifCond .ne 6) 3 35 := ⟨by decide +kernel, rfl⟩
theorem dX11_bound_35 : q_at cX11_bound 35 (.ldc 57) 2 37 := ⟨by decide +kernel, rfl⟩
theorem dX11_bound_37 : q_at cX11_bound 37 (.ireturn) 1 38 := ⟨by decide +kernel, rfl⟩
theorem dX11_bound_38 : q_at cX11_bound 38 (.aload_n 0) 1 39 := ⟨by decide +kernel, rfl⟩
theorem dX11_bound_39 : q_at cX11_bound 39 (.getfield 10) 3 42 := ⟨by decide +kernel, rfl⟩
theorem dX11_bound_42 : q_at cX11_bound 42 (.iload_n 1) 1 43 := ⟨by decide +kernel, rfl⟩
theorem dX11_bound_43 : q_at cX11_bound 43 (.iload_n 2) 1 44 := ⟨by decide +kernel, rfl⟩
theorem dX11_bound_44 : q_at cX11_bound 44 (.iload_n 3) 1 45 := ⟨by decide +kernel, rfl⟩
theorem dX11_bound_45 : q_at cX11_bound 45 (.invokevirtual 221) 3 48 := ⟨by decide +kernel, rfl⟩
theorem dX11_bound_48 : q_at cX11_bound 48 (.ireturn) 1 49 := ⟨by decide +kernel, rfl⟩
theorem dX11_draw_0 : q_at cX11_draw 0 (.iload_n 3) 1 1 := ⟨by decide +kernel, rfl⟩
theorem dX11_draw_1 : q_at cX11_draw 1 (.iconst 0) 1 2 := ⟨by decide +kernel, rfl⟩
theorem dX11_draw_2 : q_at cX11_draw 2 (.iconst 1) 1 3 := ⟨by decide +kernel, rfl⟩
theorem dX11_draw_3 : q_at cX11_draw 3 (.invokestatic 53) 3 6 := ⟨by decide +kernel, rfl⟩
theorem dX11_draw_6 : q_at cX11_draw 6 (.ifCond .ne 6) 3 9 := ⟨by decide +kernel, rfl⟩
theorem dX11_draw_9 : q_at cX11_draw 9 (.ldc 57) 2 11 := ⟨by decide +kernel, rfl⟩
theorem dX11_draw_11 : q_at cX11_draw 11 (.ireturn) 1 12 := ⟨by decide +kernel, rfl⟩
theorem dX11_draw_12 : q_at cX11_draw 12 (.aload_n 0) 1 13 := ⟨by decide +kernel, rfl⟩
theorem dX11_draw_13 : q_at cX11_draw 13 (.iconst 2) 1 14 := ⟨by decide +kernel, rfl⟩
theorem dX11_draw_14 : q_at cX11_draw 14 (.iload_n 1) 1 15 := ⟨by decide +kernel, rfl⟩
theorem dX11_draw_15 : q_at cX11_draw 15 (.iload_n 2) 1 16 := ⟨by decide +kernel, rfl⟩
theorem dX11_draw_16 : q_at cX11_draw 16 (.iload_n 3) 1 17 := ⟨by decide +kernel, rfl⟩
theorem dX11_draw_17 : q_at cX11_draw 17 (.invokevirtual 155) 3 20 := ⟨by decide +kernel, rfl⟩
theorem dX11_draw_20 : q_at cX11_draw 20 (.istore 4) 2 22 := ⟨by decide +kernel, rfl⟩
theorem dX11_draw_22 : q_at cX11_draw 22 (.iload 4) 2 24 := ⟨by decide +kernel, rfl⟩
theorem dX11_draw_24 : q_at cX11_draw 24 (.ifCond .ge 6) 3 27 := ⟨by decide +kernel, rfl⟩
theorem dX11_draw_27 : q_at cX11_draw 27 (.iload 4) 2 29 := ⟨by decide +kernel, rfl⟩
theorem dX11_draw_29 : q_at cX11_draw 29 (.ireturn) 1 30 := ⟨by decide +kernel, rfl⟩
theorem dX11_draw_30 : q_at cX11_draw 30 (.iload_n 3) 1 31 := ⟨by decide +kernel, rfl⟩
theorem dX11_draw_31 : q_at cX11_draw 31 (.ifCond .ne 18) 3 34 := ⟨by decide +kernel, rfl⟩
theorem dX11_draw_34 : q_at cX11_draw 34 (.aload_n 0) 1 35 := ⟨by decide +kernel, rfl⟩
theorem dX11_draw_35 : q_at cX11_draw 35 (.getfield 10) 3 38 := ⟨by decide +kernel, rfl⟩
theorem dX11_draw_38 : q_at cX11_draw 38 (.getfield 70) 3 41 := ⟨by decide +kernel, rfl⟩
theorem dX11_draw_41 : q_at cX11_draw 41 (.iload_n 1) 1 42 := ⟨by decide +kernel, rfl⟩
theorem dX11_draw_42 : q_at cX11_draw 42 (.iload_n 2) 1 43 := ⟨by decide +kernel, rfl⟩
theorem dX11_draw_43 : q_at cX11_draw 43 (.invokevirtual 158) 3 46 := ⟨by decide +kernel, rfl⟩
theorem dX11_draw_46 : q_at cX11_draw 46 (.goto 15) 3 49 := ⟨by decide +kernel, rfl⟩
theorem dX11_draw_49 : q_at cX11_draw 49 (.aload_n 0) 1 50 := ⟨by decide +kernel, rfl⟩
theorem dX11_draw_50 : q_at cX11_draw 50 (.getfield 10) 3 53 := ⟨by decide +kernel, rfl⟩
theorem dX11_draw_53 : q_at cX11_draw 53 (.getfield 70) 3 56 := ⟨by decide +kernel, rfl⟩
theorem dX11_draw_56 : q_at cX11_draw 56 (.iload_n 1) 1 57 := ⟨by decide +kernel, rfl⟩
theorem dX11_draw_57 : q_at cX11_draw 57 (.iload_n 2) 1 58 := ⟨by decide +kernel, rfl⟩
theorem dX11_draw_58 : q_at cX11_draw 58 (.invokevirtual 162) 3 61 := ⟨by decide +kernel, rfl⟩
theorem dX11_draw_61 : q_at cX11_draw 61 (.iload 4) 2 63 := ⟨by decide +kernel, rfl⟩
theorem dX11_draw_63 : q_at cX11_draw 63 (.ireturn) 1 64 := ⟨by decide +kernel, rfl⟩
theorem dX11_dug_0 : q_at cX11_dug 0 (.iload_n 1) 1 1 := ⟨by decide +kernel, rfl⟩
theorem dX11_dug_1 : q_at cX11_dug 1 (.iconst 0) 1 2 := ⟨by decide +kernel, rfl⟩
theorem dX11_dug_2 : q_at cX11_dug 2 (.bipush 7) 2 4 := ⟨by decide +kernel, rfl⟩
theorem dX11_dug_4 : q_at cX11_dug 4 (.invokestatic 53) 3 7 := ⟨by decide +kernel, rfl⟩
theorem dX11_dug_7 : q_at cX11_dug 7 (.ifCond .ne 6) 3 10 := ⟨by decide +kernel, rfl⟩
theorem dX11_dug_10 : q_at cX11_dug 10 (.ldc 57) 2 12 := ⟨by decide +kernel, rfl⟩
theorem dX11_dug_12 : q_at cX11_dug 12 (.ireturn) 1 13 := ⟨by decide +kernel, rfl⟩
theorem dX11_dug_13 : q_at cX11_dug 13 (.iload_n 2) 1 14 := ⟨by decide +kernel, rfl⟩
theorem dX11_dug_14 : q_at cX11_dug 14 (.iconst 5) 1 15 := ⟨by decide +kernel, rfl⟩
theorem dX11_dug_15 : q_at cX11_dug 15 (.if_icmp .ne 17) 3 18 := ⟨by decide +kernel, rfl⟩
theorem dX11_dug_18 : q_at cX11_dug 18 (.aload_n 0) 1 19 := ⟨by decide +kernel, rfl⟩
theorem dX11_dug_19 : q_at cX11_dug 19 (.getfield 10) 3 22 := ⟨by decide +kernel, rfl⟩
theorem dX11_dug_22 : q_at cX11_dug 22 (.getfield 70) 3 25 := ⟨by decide +kernel, rfl⟩
theorem dX11_dug_25 : q_at cX11_dug 25 (.iload_n 1) 1 26 := ⟨by decide +kernel, rfl⟩
theorem dX11_dug_26 : q_at cX11_dug 26 (.invokevirtual 74) 3 29 := ⟨by decide +kernel, rfl⟩
theorem dX11_dug_29 : q_at cX11_dug 29 (.goto 18) 3 32 := ⟨by decide +kernel, rfl⟩
theorem dX11_dug_32 : q_at cX11_dug 32 (.aload_n 0) 1 33 := ⟨by decide +kernel, rfl⟩
theorem dX11_dug_33 : q_at cX11_dug 33 (.getfield 10) 3 36 := ⟨by decide +kernel, rfl⟩
theorem dX11_dug_36 : q_at cX11_dug 36 (.getfield 58) 3 39 := ⟨by decide +kernel, rfl⟩
theorem dX11_dug_39 : q_at cX11_dug 39 (.iload_n 2) 1 40 := ⟨by decide +kernel, rfl⟩
theorem dX11_dug_40 : q_at cX11_dug 40 (.invokevirtual 62) 3 43 := ⟨by decide +kernel, rfl⟩
theorem dX11_dug_43 : q_at cX11_dug 43 (.iload_n 1) 1 44 := ⟨by decide +kernel, rfl⟩
theorem dX11_dug_44 : q_at cX11_dug 44 (.invokestatic 80) 3 47 := ⟨by decide +kernel, rfl⟩
theorem dX11_dug_47 : q_at cX11_dug 47 (.ireturn) 1 48 := ⟨by decide +kernel, rfl⟩
theorem dX11_exchanged_0 : q_at cX11_exchanged 0 (.aload_n 0) 1 1 := ⟨by decide +kernel, rfl⟩
theorem dX11_exchanged_1 : q_at cX11_exchanged 1 (.iload_n 1) 1 2 := ⟨by decide +kernel, rfl⟩
theorem dX11_exchanged_2 : q_at cX11_exchanged 2 (.invokestatic 80) 3 5 := ⟨by decide +kernel, rfl⟩
theorem dX11_exchanged_5 : q_at cX11_exchanged 5 (.istore_n 3) 1 6 := ⟨by decide +kernel, rfl⟩
theorem dX11_exchanged_6 : q_at cX11_exchanged 6 (.aload_n 0) 1 7 := ⟨by decide +kernel, rfl⟩
theorem dX11_exchanged_7 : q_at cX11_exchanged 7 (.ifnull 19) 3 10 := ⟨by decide +kernel, rfl⟩
theorem dX11_exchanged_10 : q_at cX11_exchanged 10 (.iload_n 1) 1 11 := ⟨by decide +kernel, rfl⟩
theorem dX11_exchanged_11 : q_at cX11_exchanged 11 (.iconst 0) 1 12 := ⟨by decide +kernel, rfl⟩
theorem dX11_exchanged_12 : q_at cX11_exchanged 12 (.aload_n 0) 1 13 := ⟨by decide +kernel, rfl⟩
theorem dX11_exchanged_13 : q_at cX11_exchanged 13 (.arraylength) 1 14 := ⟨by decide +kernel, rfl⟩
theorem dX11_exchanged_14 : q_at cX11_exchanged 14 (.iconst 1) 1 15 := ⟨by decide +kernel, rfl⟩
theorem dX11_exchanged_15 : q_at cX11_exchanged 15 (.isub) 1 16 := ⟨by decide +kernel, rfl⟩
theorem dX11_exchanged_16 : q_at cX11_exchanged 16 (.invokestatic 53) 3 19 := ⟨by decide +kernel, rfl⟩
theorem dX11_exchanged_19 : q_at cX11_exchanged 19 (.ifCond .eq 7) 3 22 := ⟨by decide +kernel, rfl⟩
theorem dX11_exchanged_22 : q_at cX11_exchanged 22 (.aload_n 0) 1 23 := ⟨by decide +kernel, rfl⟩
theorem dX11_exchanged_23 : q_at cX11_exchanged 23 (.iload_n 1) 1 24 := ⟨by decide +kernel, rfl⟩
theorem dX11_exchanged_24 : q_at cX11_exchanged 24 (.iload_n 2) 1 25 := ⟨by decide +kernel, rfl⟩
theorem dX11_exchanged_25 : q_at cX11_exchanged 25 (.iastore) 1 26 := ⟨by decide +kernel, rfl⟩
theorem dX11_exchanged_26 : q_at cX11_exchanged 26 (.iload_n 3) 1 27 := ⟨by decide +kernel, rfl⟩
theorem dX11_exchanged_27 : q_at cX11_exchanged 27 (.ireturn) 1 28 := ⟨by decide +kernel, rfl⟩
theorem dX11_fine_0 : q_at cX11_fine 0 (.aload_n 0) 1 1 := ⟨by decide +kernel, rfl⟩
theorem dX11_fine_1 : q_at cX11_fine 1 (.iconst 4) 1 2 := ⟨by decide +kernel, rfl⟩
theorem dX11_fine_2 : q_at cX11_fine 2 (.iload_n 1) 1 3 := ⟨by decide +kernel, rfl⟩
theorem dX11_fine_3 : q_at cX11_fine 3 (.iload_n 2) 1 4 := ⟨by decide +kernel, rfl⟩
theorem dX11_fine_4 : q_at cX11_fine 4 (.iload_n 3) 1 5 := ⟨by decide +kernel, rfl⟩
theorem dX11_fine_5 : q_at cX11_fine 5 (.invokevirtual 155) 3 8 := ⟨by decide +kernel, rfl⟩
theorem dX11_fine_8 : q_at cX11_fine 8 (.ireturn) 1 9 := ⟨by decide +kernel, rfl⟩
theorem dX11_is_0 : q_at cX11_is 0 (.aload_n 0) 1 1 := ⟨by decide +kernel, rfl⟩
theorem dX11_is_1 : q_at cX11_is 1 (.getfield 10) 3 4 := ⟨by decide +kernel, rfl⟩
theorem dX11_is_4 : q_at cX11_is 4 (.getfield 70) 3 7 := ⟨by decide +kernel, rfl⟩
theorem dX11_is_7 : q_at cX11_is 7 (.iload_n 1) 1 8 := ⟨by decide +kernel, rfl⟩
theorem dX11_is_8 : q_at cX11_is 8 (.invokevirtual 119) 3 11 := ⟨by decide +kernel, rfl⟩
theorem dX11_is_11 : q_at cX11_is 11 (.ifCond .ne 6) 3 14 := ⟨by decide +kernel, rfl⟩
theorem dX11_is_14 : q_at cX11_is 14 (.ldc 57) 2 16 := ⟨by decide +kernel, rfl⟩
theorem dX11_is_16 : q_at cX11_is 16 (.ireturn) 1 17 := ⟨by decide +kernel, rfl⟩
theorem dX11_is_17 : q_at cX11_is 17 (.iload_n 2) 1 18 := ⟨by decide +kernel, rfl⟩
theorem dX11_is_18 : q_at cX11_is 18 (.bipush 10) 2 20 := ⟨by decide +kernel, rfl⟩
theorem dX11_is_20 : q_at cX11_is 20 (.if_icmp .ne 12) 3 23 := ⟨by decide +kernel, rfl⟩
theorem dX11_is_23 : q_at cX11_is 23 (.aload_n 0) 1 24 := ⟨by decide +kernel, rfl⟩
theorem dX11_is_24 : q_at cX11_is 24 (.getfield 10) 3 27 := ⟨by decide +kernel, rfl⟩
theorem dX11_is_27 : q_at cX11_is 27 (.iload_n 1) 1 28 := ⟨by decide +kernel, rfl⟩
theorem dX11_is_28 : q_at cX11_is 28 (.invokevirtual 120) 3 31 := ⟨by decide +kernel, rfl⟩
theorem dX11_is_31 : q_at cX11_is 31 (.ireturn) 1 32 := ⟨by decide +kernel, rfl⟩
theorem dX11_is_32 : q_at cX11_is 32 (.iload_n 2) 1 33 := ⟨by decide +kernel, rfl⟩
theorem dX11_is_33 : q_at cX11_is 33 (.bipush 11) 2 35 := ⟨by decide +kernel, rfl⟩
theorem dX11_is_35 : q_at cX11_is 35 (.if_icmp .ne 12) 3 38 := ⟨by decide +kernel, rfl⟩
theorem dX11_is_38 : q_at cX11_is 38 (.aload_n 0) 1 39 := ⟨by decide +kernel, rfl⟩
theorem dX11_is_39 : q_at cX11_is 39 (.getfield 10) 3 42 := ⟨by decide +kernel, rfl⟩
theorem dX11_is_42 : q_at cX11_is 42 (.iload_n 1) 1 43 := ⟨by decide +kernel, rfl⟩
theorem dX11_is_43 : q_at cX11_is 43 (.invokevirtual 123) 3 46 := ⟨by decide +kernel, rfl⟩
theorem dX11_is_46 : q_at cX11_is 46 (.ireturn) 1 47 := ⟨by decide +kernel, rfl⟩
theorem dX11_is_47 : q_at cX11_is 47 (.aload_n 0) 1 48 := ⟨by decide +kernel, rfl⟩
theorem dX11_is_48 : q_at cX11_is 48 (.getfield 10) 3 51 := ⟨by decide +kernel, rfl⟩
theorem dX11_is_51 : q_at cX11_is 51 (.getfield 70) 3 54 := ⟨by decide +kernel, rfl⟩
theorem dX11_is_54 : q_at cX11_is 54 (.iload_n 2) 1 55 := ⟨by decide +kernel, rfl⟩
theorem dX11_is_55 : q_at cX11_is 55 (.invokevirtual 126) 3 58 := ⟨by decide +kernel, rfl⟩
theorem dX11_is_58 : q_at cX11_is 58 (.iload_n 1) 1 59 := ⟨by decide +kernel, rfl⟩
theorem dX11_is_59 : q_at cX11_is 59 (.invokestatic 80) 3 62 := ⟨by decide +kernel, rfl⟩
theorem dX11_is_62 : q_at cX11_is 62 (.ireturn) 1 63 := ⟨by decide +kernel, rfl⟩
theorem dX11_last_0 : q_at cX11_last 0 (.iload_n 1) 1 1 := ⟨by decide +kernel, rfl⟩
theorem dX11_last_1 : q_at cX11_last 1 (.iconst 0) 1 2 := ⟨by decide +kernel, rfl⟩
theorem dX11_last_2 : q_at cX11_last 2 (.sipush 255) 3 5 := ⟨by decide +kernel, rfl⟩
theorem dX11_last_5 : q_at cX11_last 5 (.invokestatic 53) 3 8 := ⟨by decide +kernel, rfl⟩
theorem dX11_last_8 : q_at cX11_last 8 (.ifCond .eq 12) 3 11 := ⟨by decide +kernel, rfl⟩
theorem dX11_last_11 : q_at cX11_last 11 (.iload_n 2) 1 12 := ⟨by decide +kernel, rfl⟩
theorem dX11_last_12 : q_at cX11_last 12 (.iconst 0) 1 13 := ⟨by decide +kernel, rfl⟩
theorem dX11_last_13 : q_at cX11_last 13 (.iconst 1) 1 14 := ⟨by decide +kernel, rfl⟩
theorem dX11_last_14 : q_at cX11_last 14 (.invokestatic 53) 3 17 := ⟨by decide +kernel, rfl⟩
theorem dX11_last_17 : q_at cX11_last 17 (.ifCond .ne 6) 3 20 := ⟨by decide +kernel, rfl⟩
theorem dX11_last_20 : q_at cX11_last 20 (.ldc 57) 2 22 := ⟨by decide +kernel, rfl⟩
theorem dX11_last_22 : q_at cX11_last 22 (.ireturn) 1 23 := ⟨by decide +kernel, rfl⟩
theorem dX11_last_23 : q_at cX11_last 23 (.aload_n 0) 1 24 := ⟨by decide +kernel, rfl⟩
theorem dX11_last_24 : q_at cX11_last 24 (.getfield 10) 3 27 := ⟨by decide +kernel, rfl⟩
theorem dX11_last_27 : q_at cX11_last 27 (.invokevirtual 366) 3 30 := ⟨by decide +kernel, rfl⟩
theorem dX11_last_30 : q_at cX11_last 30 (.iload_n 2) 1 31 := ⟨by decide +kernel, rfl⟩
theorem dX11_last_31 : q_at cX11_last 31 (.ifCond .ne 14) 3 34 := ⟨by decide +kernel, rfl⟩
theorem dX11_last_34 : q_at cX11_last 34 (.aload_n 0) 1 35 := ⟨by decide +kernel, rfl⟩
theorem dX11_last_35 : q_at cX11_last 35 (.getfield 10) 3 38 := ⟨by decide +kernel, rfl⟩
theorem dX11_last_38 : q_at cX11_last 38 (.iload_n 1) 1 39 := ⟨by decide +kernel, rfl⟩
theorem dX11_last_39 : q_at cX11_last 39 (.invokevirtual 369) 3 42 := ⟨by decide +kernel, rfl⟩
theorem dX11_last_42 : q_at cX11_last 42 (.goto 11) 3 45 := ⟨by decide +kernel, rfl⟩
theorem dX11_last_45 : q_at cX11_last 45 (.aload_n 0) 1 46 := ⟨by decide +kernel, rfl⟩
theorem dX11_last_46 : q_at cX11_last 46 (.getfield 10) 3 49 := ⟨by decide +kernel, rfl⟩
theorem dX11_last_49 : q_at cX11_last 49 (.iload_n 1) 1 50 := ⟨by decide +kernel, rfl⟩
theorem dX11_last_50 : q_at cX11_last 50 (.invokevirtual 372) 3 53 := ⟨by decide +kernel, rfl⟩
theorem dX11_last_53 : q_at cX11_last 53 (.ireturn) 1 54 := ⟨by decide +kernel, rfl⟩
theorem dX11_man_0 : q_at cX11_man 0 (.iconst 0) 1 1 := ⟨by decide +kernel, rfl⟩
theorem dX11_man_1 : q_at cX11_man 1 (.iload_n 1) 1 2 := ⟨by decide +kernel, rfl⟩
theorem dX11_man_2 : q_at cX11_man 2 (.invokestatic 100) 3 5 := ⟨by decide +kernel, rfl⟩
theorem dX11_man_5 : q_at cX11_man 5 (.ifCond .eq 19) 3 8 := ⟨by decide +kernel, rfl⟩
theorem dX11_man_8 : q_at cX11_man 8 (.iconst 1) 1 9 := ⟨by decide +kernel, rfl⟩
theorem dX11_man_9 : q_at cX11_man 9 (.iload_n 2) 1 10 := ⟨by decide +kernel, rfl⟩
theorem dX11_man_10 : q_at cX11_man 10 (.invokestatic 100) 3 13 := ⟨by decide +kernel, rfl⟩
theorem dX11_man_13 : q_at cX11_man 13 (.ifCond .eq 11) 3 16 := ⟨by decide +kernel, rfl⟩
theorem dX11_man_16 : q_at cX11_man 16 (.iconst 2) 1 17 := ⟨by decide +kernel, rfl⟩
theorem dX11_man_17 : q_at cX11_man 17 (.iload_n 3) 1 18 := ⟨by decide +kernel, rfl⟩
theorem dX11_man_18 : q_at cX11_man 18 (.invokestatic 100) 3 21 := ⟨by decide +kernel, rfl⟩
theorem dX11_man_21 : q_at cX11_man 21 (.ifCond .ne 6) 3 24 := ⟨by decide +kernel, rfl⟩
theorem dX11_man_24 : q_at cX11_man 24 (.ldc 57) 2 26 := ⟨by decide +kernel, rfl⟩
theorem dX11_man_26 : q_at cX11_man 26 (.ireturn) 1 27 := ⟨by decide +kernel, rfl⟩
theorem dX11_man_27 : q_at cX11_man 27 (.aload_n 0) 1 28 := ⟨by decide +kernel, rfl⟩
theorem dX11_man_28 : q_at cX11_man 28 (.getfield 10) 3 31 := ⟨by decide +kernel, rfl⟩
theorem dX11_man_31 : q_at cX11_man 31 (.getfield 70) 3 34 := ⟨by decide +kernel, rfl⟩
theorem dX11_man_34 : q_at cX11_man 34 (.getfield 104) 3 37 := ⟨by decide +kernel, rfl⟩
theorem dX11_man_37 : q_at cX11_man 37 (.bipush 12) 2 39 := ⟨by decide +kernel, rfl⟩
theorem dX11_man_39 : q_at cX11_man 39 (.if_icmp .ge 18) 3 42 := ⟨by decide +kernel, rfl⟩
theorem dX11_man_42 : q_at cX11_man 42 (.aload_n 0) 1 43 := ⟨by decide +kernel, rfl⟩
theorem dX11_man_43 : q_at cX11_man 43 (.getfield 10) 3 46 := ⟨by decide +kernel, rfl⟩
theorem dX11_man_46 : q_at cX11_man 46 (.getfield 107) 3 49 := ⟨by decide +kernel, rfl⟩
theorem dX11_man_49 : q_at cX11_man 49 (.getfield 111) 3 52 := ⟨by decide +kernel, rfl⟩
theorem dX11_man_52 : q_at cX11_man 52 (.bipush 58) 2 54 := ⟨by decide +kernel, rfl⟩
theorem dX11_man_54 : q_at cX11_man 54 (.if_icmp .le 6) 3 57 := ⟨by decide +kernel, rfl⟩
theorem dX11_man_57 : q_at cX11_man 57 (.ldc 114) 2 59 := ⟨by decide +kernel, rfl⟩
theorem dX11_man_59 : q_at cX11_man 59 (.ireturn) 1 60 := ⟨by decide +kernel, rfl⟩
theorem dX11_man_60 : q_at cX11_man 60 (.aload_n 0) 1 61 := ⟨by decide +kernel, rfl⟩
theorem dX11_man_61 : q_at cX11_man 61 (.getfield 10) 3 64 := ⟨by decide +kernel, rfl⟩
theorem dX11_man_64 : q_at cX11_man 64 (.iload_n 1) 1 65 := ⟨by decide +kernel, rfl⟩
theorem dX11_man_65 : q_at cX11_man 65 (.iload_n 2) 1 66 := ⟨by decide +kernel, rfl⟩
theorem dX11_man_66 : q_at cX11_man 66 (.iload_n 3) 1 67 := ⟨by decide +kernel, rfl⟩
theorem dX11_man_67 : q_at cX11_man 67 (.invokevirtual 115) 3 70 := ⟨by decide +kernel, rfl⟩
theorem dX11_man_70 : q_at cX11_man 70 (.ireturn) 1 71 := ⟨by decide +kernel, rfl⟩
theorem dX11_melt_0 : q_at cX11_melt 0 (.aload_n 0) 1 1 := ⟨by decide +kernel, rfl⟩
theorem dX11_melt_1 : q_at cX11_melt 1 (.getfield 10) 3 4 := ⟨by decide +kernel, rfl⟩
theorem dX11_melt_4 : q_at cX11_melt 4 (.getfield 107) 3 7 := ⟨by decide +kernel, rfl⟩
theorem dX11_melt_7 : q_at cX11_melt 7 (.iload_n 1) 1 8 := ⟨by decide +kernel, rfl⟩
theorem dX11_melt_8 : q_at cX11_melt 8 (.invokevirtual 175) 3 11 := ⟨by decide +kernel, rfl⟩
theorem dX11_melt_11 : q_at cX11_melt 11 (.ifCond .ne 6) 3 14 := ⟨by decide +kernel, rfl⟩
theorem dX11_melt_14 : q_at cX11_melt 14 (.ldc 57) 2 16 := ⟨by decide +kernel, rfl⟩
theorem dX11_melt_16 : q_at cX11_melt 16 (.ireturn) 1 17 := ⟨by decide +kernel, rfl⟩
theorem dX11_melt_17 : q_at cX11_melt 17 (.aload_n 0) 1 18 := ⟨by decide +kernel, rfl⟩
theorem dX11_melt_18 : q_at cX11_melt 18 (.getfield 10) 3 21 := ⟨by decide +kernel, rfl⟩
theorem dX11_melt_21 : q_at cX11_melt 21 (.getfield 107) 3 24 := ⟨by decide +kernel, rfl⟩
theorem dX11_melt_24 : q_at cX11_melt 24 (.getfield 176) 3 27 := ⟨by decide +kernel, rfl⟩
theorem dX11_melt_27 : q_at cX11_melt 27 (.iload_n 1) 1 28 := ⟨by decide +kernel, rfl⟩
theorem dX11_melt_28 : q_at cX11_melt 28 (.iaload) 1 29 := ⟨by decide +kernel, rfl⟩
theorem dX11_melt_29 : q_at cX11_melt 29 (.iconst 3) 1 30 := ⟨by decide +kernel, rfl⟩
theorem dX11_melt_30 : q_at cX11_melt 30 (.if_icmp .eq 6) 3 33 := ⟨by decide +kernel, rfl⟩
theorem dX11_melt_33 : q_at cX11_melt 33 (.ldc 179) 2 35 := ⟨by decide +kernel, rfl⟩
theorem dX11_melt_35 : q_at cX11_melt 35 (.ireturn) 1 36 := ⟨by decide +kernel, rfl⟩
theorem dX11_melt_36 : q_at cX11_melt 36 (.aload_n 0) 1 37 := ⟨by decide +kernel, rfl⟩
theorem dX11_melt_37 : q_at cX11_melt 37 (.getfield 10) 3 40 := ⟨by decide +kernel, rfl⟩
theorem dX11_melt_40 : q_at cX11_melt 40 (.getfield 107) 3 43 := ⟨by decide +kernel, rfl⟩
theorem dX11_melt_43 : q_at cX11_melt 43 (.getfield 165) 3 46 := ⟨by decide +kernel, rfl⟩
theorem dX11_melt_46 : q_at cX11_melt 46 (.iload_n 1) 1 47 := ⟨by decide +kernel, rfl⟩
theorem dX11_melt_47 : q_at cX11_melt 47 (.iaload) 1 48 := ⟨by decide +kernel, rfl⟩
theorem dX11_melt_48 : q_at cX11_melt 48 (.istore_n 2) 1 49 := ⟨by decide +kernel, rfl⟩
theorem dX11_melt_49 : q_at cX11_melt 49 (.aload_n 0) 1 50 := ⟨by decide +kernel, rfl⟩
theorem dX11_melt_50 : q_at cX11_melt 50 (.getfield 10) 3 53 := ⟨by decide +kernel, rfl⟩
theorem dX11_melt_53 : q_at cX11_melt 53 (.getfield 70) 3 56 := ⟨by decide +kernel, rfl⟩
theorem dX11_melt_56 : q_at cX11_melt 56 (.iload_n 2) 1 57 := ⟨by decide +kernel, rfl⟩
theorem dX11_melt_57 : q_at cX11_melt 57 (.invokevirtual 119) 3 60 := ⟨by decide +kernel, rfl⟩
theorem dX11_melt_60 : q_at cX11_melt 60 (.ifCond .ne 6) 3 63 := ⟨by decide +kernel, rfl⟩
theorem dX11_melt_63 : q_at cX11_melt 63 (.ldc 171) 2 65 := ⟨by decide +kernel, rfl⟩
theorem dX11_melt_65 : q_at cX11_melt 65 (.ireturn) 1 66 := ⟨by decide +kernel, rfl⟩
theorem dX11_melt_66 : q_at cX11_melt 66 (.aload_n 0) 1 67 := ⟨by decide +kernel, rfl⟩
theorem dX11_melt_67 : q_at cX11_melt 67 (.getfield 10) 3 70 := ⟨by decide +kernel, rfl⟩
theorem dX11_melt_70 : q_at cX11_melt 70 (.getfield 70) 3 73 := ⟨by decide +kernel, rfl⟩
theorem dX11_melt_73 : q_at cX11_melt 73 (.iload_n 2) 1 74 := ⟨by decide +kernel, rfl⟩
theorem dX11_melt_74 : q_at cX11_melt 74 (.aload_n 0) 1 75 := ⟨by decide +kernel, rfl⟩
theorem dX11_melt_75 : q_at cX11_melt 75 (.getfield 10) 3 78 := ⟨by decide +kernel, rfl⟩
theorem dX11_melt_78 : q_at cX11_melt 78 (.getfield 107) 3 81 := ⟨by decide +kernel, rfl⟩
theorem dX11_melt_81 : q_at cX11_melt 81 (.getfield 183) 3 84 := ⟨by decide +kernel, rfl⟩
theorem dX11_melt_84 : q_at cX11_melt 84 (.iload_n 1) 1 85 := ⟨by decide +kernel, rfl⟩
theorem dX11_melt_85 : q_at cX11_melt 85 (.iaload) 1 86 := ⟨by decide +kernel, rfl⟩
theorem dX11_melt_86 : q_at cX11_melt 86 (.invokevirtual 158) 3 89 := ⟨by decide +kernel, rfl⟩
theorem dX11_melt_89 : q_at cX11_melt 89 (.aload_n 0) 1 90 := ⟨by decide +kernel, rfl⟩
theorem dX11_melt_90 : q_at cX11_melt 90 (.getfield 10) 3 93 := ⟨by decide +kernel, rfl⟩
theorem dX11_melt_93 : q_at cX11_melt 93 (.getfield 107) 3 96 := ⟨by decide +kernel, rfl⟩
theorem dX11_melt_96 : q_at cX11_melt 96 (.getfield 165) 3 99 := ⟨by decide +kernel, rfl⟩
theorem dX11_melt_99 : q_at cX11_melt 99 (.iload_n 1) 1 100 := ⟨by decide +kernel, rfl⟩
theorem dX11_melt_100 : q_at cX11_melt 100 (.ldc 130) 2 102 := ⟨by decide +kernel, rfl⟩
theorem dX11_melt_102 : q_at cX11_melt 102 (.iastore) 1 103 := ⟨by decide +kernel, rfl⟩
theorem dX11_melt_103 : q_at cX11_melt 103 (.aload_n 0) 1 104 := ⟨by decide +kernel, rfl⟩
theorem dX11_melt_104 : q_at cX11_melt 104 (.getfield 10) 3 107 := ⟨by decide +kernel, rfl⟩
theorem dX11_melt_107 : q_at cX11_melt 107 (.getfield 70) 3 110 := ⟨by decide +kernel, rfl⟩
theorem dX11_melt_110 : q_at cX11_melt 110 (.getfield 189) 3 113 := ⟨by decide +kernel, rfl⟩
theorem dX11_melt_113 : q_at cX11_melt 113 (.iload_n 2) 1 114 := ⟨by decide +kernel, rfl⟩
theorem dX11_melt_114 : q_at cX11_melt 114 (.iaload) 1 115 := ⟨by decide +kernel, rfl⟩
theorem dX11_melt_115 : q_at cX11_melt 115 (.ireturn) 1 116 := ⟨by decide +kernel, rfl⟩
theorem dX11_note_0 : q_at cX11_note 0 (.aload_n 0) 1 1 := ⟨by decide +kernel, rfl⟩
theorem dX11_note_1 : q_at cX11_note 1 (.iload_n 1) 1 2 := ⟨by decide +kernel, rfl⟩
theorem dX11_note_2 : q_at cX11_note 2 (.iload_n 2) 1 3 := ⟨by decide +kernel, rfl⟩
theorem dX11_note_3 : q_at cX11_note 3 (.invokevirtual 291) 3 6 := ⟨by decide +kernel, rfl⟩
theorem dX11_note_6 : q_at cX11_note 6 (.istore 4) 2 8 := ⟨by decide +kernel, rfl⟩
theorem dX11_note_8 : q_at cX11_note 8 (.iload 4) 2 10 := ⟨by decide +kernel, rfl⟩
theorem dX11_note_10 : q_at cX11_note 10 (.ifCond .eq 6) 3 13 := ⟨by decide +kernel, rfl⟩
theorem dX11_note_13 : q_at cX11_note 13 (.iload 4) 2 15 := ⟨by decide +kernel, rfl⟩
theorem dX11_note_15 : q_at cX11_note 15 (.ireturn) 1 16 := ⟨by decide +kernel, rfl⟩
theorem dX11_note_16 : q_at cX11_note 16 (.aload_n 0) 1 17 := ⟨by decide +kernel, rfl⟩
theorem dX11_note_17 : q_at cX11_note 17 (.getfield 32) 3 20 := ⟨by decide +kernel, rfl⟩
theorem dX11_note_20 : q_at cX11_note 20 (.iload_n 1) 1 21 := ⟨by decide +kernel, rfl⟩
theorem dX11_note_21 : q_at cX11_note 21 (.iload_n 2) 1 22 := ⟨by decide +kernel, rfl⟩
theorem dX11_note_22 : q_at cX11_note 22 (.iload_n 3) 1 23 := ⟨by decide +kernel, rfl⟩
theorem dX11_note_23 : q_at cX11_note 23 (.invokevirtual 294) 3 26 := ⟨by decide +kernel, rfl⟩
theorem dX11_note_26 : q_at cX11_note 26 (.iconst 1) 1 27 := ⟨by decide +kernel, rfl⟩
theorem dX11_note_27 : q_at cX11_note 27 (.ireturn) 1 28 := ⟨by decide +kernel, rfl⟩
theorem dX11_of_0 : q_at cX11_of 0 (.aload_n 0) 1 1 := ⟨by decide +kernel, rfl⟩
theorem dX11_of_1 : q_at cX11_of 1 (.getfield 10) 3 4 := ⟨by decide +kernel, rfl⟩
theorem dX11_of_4 : q_at cX11_of 4 (.getfield 256) 3 7 := ⟨by decide +kernel, rfl⟩
theorem dX11_of_7 : q_at cX11_of 7 (.iload_n 1) 1 8 := ⟨by decide +kernel, rfl⟩
theorem dX11_of_8 : q_at cX11_of 8 (.invokevirtual 275) 3 11 := ⟨by decide +kernel, rfl⟩
theorem dX11_of_11 : q_at cX11_of 11 (.ifCond .eq 21) 3 14 := ⟨by decide +kernel, rfl⟩
theorem dX11_of_14 : q_at cX11_of 14 (.aload_n 0) 1 15 := ⟨by decide +kernel, rfl⟩
theorem dX11_of_15 : q_at cX11_of 15 (.getfield 10) 3 18 := ⟨by decide +kernel, rfl⟩
theorem dX11_of_18 : q_at cX11_of 18 (.getfield 256) 3 21 := ⟨by decide +kernel, rfl⟩
theorem dX11_of_21 : q_at cX11_of 21 (.iload_n 2) 1 22 := ⟨by decide +kernel, rfl⟩
theorem dX11_of_22 : q_at cX11_of 22 (.invokevirtual 276) 3 25 := ⟨by decide +kernel, rfl⟩
theorem dX11_of_25 : q_at cX11_of 25 (.iload_n 1) 1 26 := ⟨by decide +kernel, rfl⟩
theorem dX11_of_26 : q_at cX11_of 26 (.invokestatic 80) 3 29 := ⟨by decide +kernel, rfl⟩
theorem dX11_of_29 : q_at cX11_of 29 (.goto 5) 3 32 := ⟨by decide +kernel, rfl⟩
theorem dX11_of_32 : q_at cX11_of 32 (.ldc 57) 2 34 := ⟨by decide +kernel, rfl⟩
theorem dX11_of_34 : q_at cX11_of 34 (.ireturn) 1 35 := ⟨by decide +kernel, rfl⟩
theorem dX11_read_0 : q_at cX11_read 0 (.aload_n 0) 1 1 := ⟨by decide +kernel, rfl⟩
theorem dX11_read_1 : q_at cX11_read 1 (.iload_n 1) 1 2 := ⟨by decide +kernel, rfl⟩
theorem dX11_read_2 : q_at cX11_read 2 (.iload_n 2) 1 3 := ⟨by decide +kernel, rfl⟩
theorem dX11_read_3 : q_at cX11_read 3 (.invokevirtual 291) 3 6 := ⟨by decide +kernel, rfl⟩
theorem dX11_read_6 : q_at cX11_read 6 (.istore_n 3) 1 7 := ⟨by decide +kernel, rfl⟩
theorem dX11_read_7 : q_at cX11_read 7 (.iload_n 3) 1 8 := ⟨by decide +kernel, rfl⟩
theorem dX11_read_8 : q_at cX11_read 8 (.ifCond .eq 5) 3 11 := ⟨by decide +kernel, rfl⟩
theorem dX11_read_11 : q_at cX11_read 11 (.iload_n 3) 1 12 := ⟨by decide +kernel, rfl⟩
theorem dX11_read_12 : q_at cX11_read 12 (.ireturn) 1 13 := ⟨by decide +kernel, rfl⟩
theorem dX11_read_13 : q_at cX11_read 13 (.aload_n 0) 1 14 := ⟨by decide +kernel, rfl⟩
theorem dX11_read_14 : q_at cX11_read 14 (.getfield 32) 3 17 := ⟨by decide +kernel, rfl⟩
theorem dX11_read_17 : q_at cX11_read 17 (.iload_n 1) 1 18 := ⟨by decide +kernel, rfl⟩
theorem dX11_read_18 : q_at cX11_read 18 (.iload_n 2) 1 19 := ⟨by decide +kernel, rfl⟩
theorem dX11_read_19 : q_at cX11_read 19 (.invokevirtual 297) 3 22 := ⟨by decide +kernel, rfl⟩
theorem dX11_read_22 : q_at cX11_read 22 (.istore 4) 2 24 := ⟨by decide +kernel, rfl⟩
theorem dX11_read_24 : q_at cX11_read 24 (.iload 4) 2 26 := ⟨by decide +kernel, rfl⟩
theorem dX11_read_26 : q_at cX11_read 26 (.ifCond .ge 8) 3 29 := ⟨by decide +kernel, rfl⟩
theorem dX11_read_29 : q_at cX11_read 29 (.ldc 179) 2 31 := ⟨by decide +kernel, rfl⟩
theorem dX11_read_31 : q_at cX11_read 31 (.goto 13) 3 34 := ⟨by decide +kernel, rfl⟩
theorem dX11_read_34 : q_at cX11_read 34 (.aload_n 0) 1 35 := ⟨by decide +kernel, rfl⟩
theorem dX11_read_35 : q_at cX11_read 35 (.getfield 32) 3 38 := ⟨by decide +kernel, rfl⟩
theorem dX11_read_38 : q_at cX11_read 38 (.getfield 300) 3 41 := ⟨by decide +kernel, rfl⟩
theorem dX11_read_41 : q_at cX11_read 41 (.iload 4) 2 43 := ⟨by decide +kernel, rfl⟩
theorem dX11_read_43 : q_at cX11_read 43 (.iaload) 1 44 := ⟨by decide +kernel, rfl⟩
theorem dX11_read_44 : q_at cX11_read 44 (.ireturn) 1 45 := ⟨by decide +kernel, rfl⟩
theorem dX11_sell_0 : q_at cX11_sell 0 (.aload_n 0) 1 1 := ⟨by decide +kernel, rfl⟩
theorem dX11_sell_1 : q_at cX11_sell 1 (.getfield 10) 3 4 := ⟨by decide +kernel, rfl⟩
theorem dX11_sell_4 : q_at cX11_sell 4 (.getfield 107) 3 7 := ⟨by decide +kernel, rfl⟩
theorem dX11_sell_7 : q_at cX11_sell 7 (.iload_n 1) 1 8 := ⟨by decide +kernel, rfl⟩
theorem dX11_sell_8 : q_at cX11_sell 8 (.invokevirtual 175) 3 11 := ⟨by decide +kernel, rfl⟩
theorem dX11_sell_11 : q_at cX11_sell 11 (.ifCond .eq 27) 3 14 := ⟨by decide +kernel, rfl⟩
theorem dX11_sell_14 : q_at cX11_sell 14 (.aload_n 0) 1 15 := ⟨by decide +kernel, rfl⟩
theorem dX11_sell_15 : q_at cX11_sell 15 (.getfield 10) 3 18 := ⟨by decide +kernel, rfl⟩
theorem dX11_sell_18 : q_at cX11_sell 18 (.getfield 70) 3 21 := ⟨by decide +kernel, rfl⟩
theorem dX11_sell_21 : q_at cX11_sell 21 (.iload_n 2) 1 22 := ⟨by decide +kernel, rfl⟩
theorem dX11_sell_22 : q_at cX11_sell 22 (.invokevirtual 119) 3 25 := ⟨by decide +kernel, rfl⟩
theorem dX11_sell_25 : q_at cX11_sell 25 (.ifCond .eq 13) 3 28 := ⟨by decide +kernel, rfl⟩
theorem dX11_sell_28 : q_at cX11_sell 28 (.iload_n 3) 1 29 := ⟨by decide +kernel, rfl⟩
theorem dX11_sell_29 : q_at cX11_sell 29 (.iconst 0) 1 30 := ⟨by decide +kernel, rfl⟩
theorem dX11_sell_30 : q_at cX11_sell 30 (.bipush 99) 2 32 := ⟨by decide +kernel, rfl⟩
theorem dX11_sell_32 : q_at cX11_sell 32 (.invokestatic 53) 3 35 := ⟨by decide +kernel, rfl⟩
theorem dX11_sell_35 : q_at cX11_sell 35 (.ifCond .ne 6) 3 38 := ⟨by decide +kernel, rfl⟩
theorem dX11_sell_38 : q_at cX11_sell 38 (.ldc 57) 2 40 := ⟨by decide +kernel, rfl⟩
theorem dX11_sell_40 : q_at cX11_sell 40 (.ireturn) 1 41 := ⟨by decide +kernel, rfl⟩
theorem dX11_sell_41 : q_at cX11_sell 41 (.aload_n 0) 1 42 := ⟨by decide +kernel, rfl⟩
theorem dX11_sell_42 : q_at cX11_sell 42 (.getfield 10) 3 45 := ⟨by decide +kernel, rfl⟩
theorem dX11_sell_45 : q_at cX11_sell 45 (.getfield 107) 3 48 := ⟨by decide +kernel, rfl⟩
theorem dX11_sell_48 : q_at cX11_sell 48 (.getfield 176) 3 51 := ⟨by decide +kernel, rfl⟩
theorem dX11_sell_51 : q_at cX11_sell 51 (.iload_n 1) 1 52 := ⟨by decide +kernel, rfl⟩
theorem dX11_sell_52 : q_at cX11_sell 52 (.iaload) 1 53 := ⟨by decide +kernel, rfl⟩
theorem dX11_sell_53 : q_at cX11_sell 53 (.iconst 3) 1 54 := ⟨by decide +kernel, rfl⟩
theorem dX11_sell_54 : q_at cX11_sell 54 (.if_icmp .eq 6) 3 57 := ⟨by decide +kernel, rfl⟩
theorem dX11_sell_57 : q_at cX11_sell 57 (.ldc 179) 2 59 := ⟨by decide +kernel, rfl⟩
theorem dX11_sell_59 : q_at cX11_sell 59 (.ireturn) 1 60 := ⟨by decide +kernel, rfl⟩
theorem dX11_sell_60 : q_at cX11_sell 60 (.aload_n 0) 1 61 := ⟨by decide +kernel, rfl⟩
theorem dX11_sell_61 : q_at cX11_sell 61 (.getfield 10) 3 64 := ⟨by decide +kernel, rfl⟩
theorem dX11_sell_64 : q_at cX11_sell 64 (.getfield 107) 3 67 := ⟨by decide +kernel, rfl⟩
theorem dX11_sell_67 : q_at cX11_sell 67 (.getfield 165) 3 70 := ⟨by decide +kernel, rfl⟩
theorem dX11_sell_70 : q_at cX11_sell 70 (.iload_n 1) 1 71 := ⟨by decide +kernel, rfl⟩
theorem dX11_sell_71 : q_at cX11_sell 71 (.iaload) 1 72 := ⟨by decide +kernel, rfl⟩
theorem dX11_sell_72 : q_at cX11_sell 72 (.istore 4) 2 74 := ⟨by decide +kernel, rfl⟩
theorem dX11_sell_74 : q_at cX11_sell 74 (.aload_n 0) 1 75 := ⟨by decide +kernel, rfl⟩
theorem dX11_sell_75 : q_at cX11_sell 75 (.getfield 10) 3 78 := ⟨by decide +kernel, rfl⟩
theorem dX11_sell_78 : q_at cX11_sell 78 (.getfield 107) 3 81 := ⟨by decide +kernel, rfl⟩
theorem dX11_sell_81 : q_at cX11_sell 81 (.getfield 183) 3 84 := ⟨by decide +kernel, rfl⟩
theorem dX11_sell_84 : q_at cX11_sell 84 (.iload_n 1) 1 85 := ⟨by decide +kernel, rfl⟩
theorem dX11_sell_85 : q_at cX11_sell 85 (.iaload) 1 86 := ⟨by decide +kernel, rfl⟩
theorem dX11_sell_86 : q_at cX11_sell 86 (.istore 5) 2 88 := ⟨by decide +kernel, rfl⟩
theorem dX11_sell_88 : q_at cX11_sell 88 (.iload 5) 2 90 := ⟨by decide +kernel, rfl⟩
theorem dX11_sell_90 : q_at cX11_sell 90 (.iload 5) 2 92 := ⟨by decide +kernel, rfl⟩
theorem dX11_sell_92 : q_at cX11_sell 92 (.iload_n 3) 1 93 := ⟨by decide +kernel, rfl⟩
theorem dX11_sell_93 : q_at cX11_sell 93 (.imul) 1 94 := ⟨by decide +kernel, rfl⟩
theorem dX11_sell_94 : q_at cX11_sell 94 (.bipush 100) 2 96 := ⟨by decide +kernel, rfl⟩
theorem dX11_sell_96 : q_at cX11_sell 96 (.idiv) 1 97 := ⟨by decide +kernel, rfl⟩
theorem dX11_sell_97 : q_at cX11_sell 97 (.isub) 1 98 := ⟨by decide +kernel, rfl⟩
theorem dX11_sell_98 : q_at cX11_sell 98 (.istore 6) 2 100 := ⟨by decide +kernel, rfl⟩
theorem dX11_sell_100 : q_at cX11_sell 100 (.aload_n 0) 1 101 := ⟨by decide +kernel, rfl⟩
theorem dX11_sell_101 : q_at cX11_sell 101 (.getfield 10) 3 104 := ⟨by decide +kernel, rfl⟩
theorem dX11_sell_104 : q_at cX11_sell 104 (.getfield 70) 3 107 := ⟨by decide +kernel, rfl⟩
theorem dX11_sell_107 : q_at cX11_sell 107 (.iload 4) 2 109 := ⟨by decide +kernel, rfl⟩
theorem dX11_sell_109 : q_at cX11_sell 109 (.invokevirtual 119) 3 112 := ⟨by decide +kernel, rfl⟩
theorem dX11_sell_112 : q_at cX11_sell 112 (.ifCond .eq 26) 3 115 := ⟨by decide +kernel, rfl⟩
theorem dX11_sell_115 : q_at cX11_sell 115 (.iload 4) 2 117 := ⟨by decide +kernel, rfl⟩
theorem dX11_sell_117 : q_at cX11_sell 117 (.iload_n 2) 1 118 := ⟨by decide +kernel, rfl⟩
theorem dX11_sell_118 : q_at cX11_sell 118 (.if_icmp .eq 20) 3 121 := ⟨by decide +kernel, rfl⟩
theorem dX11_sell_121 : q_at cX11_sell 121 (.aload_n 0) 1 122 := ⟨by decide +kernel, rfl⟩
theorem dX11_sell_122 : q_at cX11_sell 122 (.getfield 10) 3 125 := ⟨by decide +kernel, rfl⟩
theorem dX11_sell_125 : q_at cX11_sell 125 (.getfield 70) 3 128 := ⟨by decide +kernel, rfl⟩
theorem dX11_sell_128 : q_at cX11_sell 128 (.getfield 186) 3 131 := ⟨by decide +kernel, rfl⟩
theorem dX11_sell_131 : q_at cX11_sell 131 (.iload_n 2) 1 132 := ⟨by decide +kernel, rfl⟩
theorem dX11_sell_132 : q_at cX11_sell 132 (.iaload) 1 133 := ⟨by decide +kernel, rfl⟩
theorem dX11_sell_133 : q_at cX11_sell 133 (.iload 6) 2 135 := ⟨by decide +kernel, rfl⟩
theorem dX11_sell_135 : q_at cX11_sell 135 (.if_icmp .ge 6) 3 138 := ⟨by decide +kernel, rfl⟩
theorem dX11_sell_138 : q_at cX11_sell 138 (.ldc 171) 2 140 := ⟨by decide +kernel, rfl⟩
theorem dX11_sell_140 : q_at cX11_sell 140 (.ireturn) 1 141 := ⟨by decide +kernel, rfl⟩
theorem dX11_sell_141 : q_at cX11_sell 141 (.aload_n 0) 1 142 := ⟨by decide +kernel, rfl⟩
theorem dX11_sell_142 : q_at cX11_sell 142 (.getfield 10) 3 145 := ⟨by decide +kernel, rfl⟩
theorem dX11_sell_145 : q_at cX11_sell 145 (.getfield 70) 3 148 := ⟨by decide +kernel, rfl⟩
theorem dX11_sell_148 : q_at cX11_sell 148 (.getfield 186) 3 151 := ⟨by decide +kernel, rfl⟩
theorem dX11_sell_151 : q_at cX11_sell 151 (.iload_n 2) 1 152 := ⟨by decide +kernel, rfl⟩
theorem dX11_sell_152 : q_at cX11_sell 152 (.dup2) 1 153 := ⟨by decide +kernel, rfl⟩
theorem dX11_sell_153 : q_at cX11_sell 153 (.iaload) 1 154 := ⟨by decide +kernel, rfl⟩
theorem dX11_sell_154 : q_at cX11_sell 154 (.iload 6) 2 156 := ⟨by decide +kernel, rfl⟩
theorem dX11_sell_156 : q_at cX11_sell 156 (.isub) 1 157 := ⟨by decide +kernel, rfl⟩
theorem dX11_sell_157 : q_at cX11_sell 157 (.iastore) 1 158 := ⟨by decide +kernel, rfl⟩
theorem dX11_sell_158 : q_at cX11_sell 158 (.aload_n 0) 1 159 := ⟨by decide +kernel, rfl⟩
theorem dX11_sell_159 : q_at cX11_sell 159 (.getfield 10) 3 162 := ⟨by decide +kernel, rfl⟩
theorem dX11_sell_162 : q_at cX11_sell 162 (.getfield 70) 3 165 := ⟨by decide +kernel, rfl⟩
theorem dX11_sell_165 : q_at cX11_sell 165 (.iload 4) 2 167 := ⟨by decide +kernel, rfl⟩
theorem dX11_sell_167 : q_at cX11_sell 167 (.iload 6) 2 169 := ⟨by decide +kernel, rfl⟩
theorem dX11_sell_169 : q_at cX11_sell 169 (.invokevirtual 162) 3 172 := ⟨by decide +kernel, rfl⟩
theorem dX11_sell_172 : q_at cX11_sell 172 (.aload_n 0) 1 173 := ⟨by decide +kernel, rfl⟩
theorem dX11_sell_173 : q_at cX11_sell 173 (.getfield 10) 3 176 := ⟨by decide +kernel, rfl⟩
theorem dX11_sell_176 : q_at cX11_sell 176 (.getfield 107) 3 179 := ⟨by decide +kernel, rfl⟩
theorem dX11_sell_179 : q_at cX11_sell 179 (.getfield 165) 3 182 := ⟨by decide +kernel, rfl⟩
theorem dX11_sell_182 : q_at cX11_sell 182 (.iload_n 1) 1 183 := ⟨by decide +kernel, rfl⟩
theorem dX11_sell_183 : q_at cX11_sell 183 (.iload_n 2) 1 184 := ⟨by decide +kernel, rfl⟩
theorem dX11_sell_184 : q_at cX11_sell 184 (.iastore) 1 185 := ⟨by decide +kernel, rfl⟩
theorem dX11_sell_185 : q_at cX11_sell 185 (.iload 6) 2 187 := ⟨by decide +kernel, rfl⟩
theorem dX11_sell_187 : q_at cX11_sell 187 (.ireturn) 1 188 := ⟨by decide +kernel, rfl⟩
theorem dX11_sells_0 : q_at cX11_sells 0 (.aload_n 0) 1 1 := ⟨by decide +kernel, rfl⟩
theorem dX11_sells_1 : q_at cX11_sells 1 (.getfield 10) 3 4 := ⟨by decide +kernel, rfl⟩
theorem dX11_sells_4 : q_at cX11_sells 4 (.getfield 87) 3 7 := ⟨by decide +kernel, rfl⟩
theorem dX11_sells_7 : q_at cX11_sells 7 (.iload_n 1) 1 8 := ⟨by decide +kernel, rfl⟩
theorem dX11_sells_8 : q_at cX11_sells 8 (.invokevirtual 95) 3 11 := ⟨by decide +kernel, rfl⟩
theorem dX11_sells_11 : q_at cX11_sells 11 (.ifCond .eq 21) 3 14 := ⟨by decide +kernel, rfl⟩
theorem dX11_sells_14 : q_at cX11_sells 14 (.aload_n 0) 1 15 := ⟨by decide +kernel, rfl⟩
theorem dX11_sells_15 : q_at cX11_sells 15 (.getfield 10) 3 18 := ⟨by decide +kernel, rfl⟩
theorem dX11_sells_18 : q_at cX11_sells 18 (.getfield 87) 3 21 := ⟨by decide +kernel, rfl⟩
theorem dX11_sells_21 : q_at cX11_sells 21 (.iload_n 2) 1 22 := ⟨by decide +kernel, rfl⟩
theorem dX11_sells_22 : q_at cX11_sells 22 (.invokevirtual 99) 3 25 := ⟨by decide +kernel, rfl⟩
theorem dX11_sells_25 : q_at cX11_sells 25 (.iload_n 1) 1 26 := ⟨by decide +kernel, rfl⟩
theorem dX11_sells_26 : q_at cX11_sells 26 (.invokestatic 80) 3 29 := ⟨by decide +kernel, rfl⟩
theorem dX11_sells_29 : q_at cX11_sells 29 (.goto 5) 3 32 := ⟨by decide +kernel, rfl⟩
theorem dX11_sells_32 : q_at cX11_sells 32 (.ldc 57) 2 34 := ⟨by decide +kernel, rfl⟩
theorem dX11_sells_34 : q_at cX11_sells 34 (.ireturn) 1 35 := ⟨by decide +kernel, rfl⟩
theorem dX11_stop_0 : q_at cX11_stop 0 (.aload_n 0) 1 1 := ⟨by decide +kernel, rfl⟩
theorem dX11_stop_1 : q_at cX11_stop 1 (.iconst 5) 1 2 := ⟨by decide +kernel, rfl⟩
theorem dX11_stop_2 : q_at cX11_stop 2 (.iload_n 1) 1 3 := ⟨by decide +kernel, rfl⟩
theorem dX11_stop_3 : q_at cX11_stop 3 (.iload_n 2) 1 4 := ⟨by decide +kernel, rfl⟩
theorem dX11_stop_4 : q_at cX11_stop 4 (.iload_n 3) 1 5 := ⟨by decide +kernel, rfl⟩
theorem dX11_stop_5 : q_at cX11_stop 5 (.invokevirtual 155) 3 8 := ⟨by decide +kernel, rfl⟩
theorem dX11_stop_8 : q_at cX11_stop 8 (.ireturn) 1 9 := ⟨by decide +kernel, rfl⟩
theorem dX11_strike_0 : q_at cX11_strike 0 (.aload_n 0) 1 1 := ⟨by decide +kernel, rfl⟩
theorem dX11_strike_1 : q_at cX11_strike 1 (.iconst 3) 1 2 := ⟨by decide +kernel, rfl⟩
theorem dX11_strike_2 : q_at cX11_strike 2 (.iload_n 1) 1 3 := ⟨by decide +kernel, rfl⟩
theorem dX11_strike_3 : q_at cX11_strike 3 (.iload_n 2) 1 4 := ⟨by decide +kernel, rfl⟩
theorem dX11_strike_4 : q_at cX11_strike 4 (.iconst 0) 1 5 := ⟨by decide +kernel, rfl⟩
theorem dX11_strike_5 : q_at cX11_strike 5 (.invokevirtual 155) 3 8 := ⟨by decide +kernel, rfl⟩
theorem dX11_strike_8 : q_at cX11_strike 8 (.istore_n 3) 1 9 := ⟨by decide +kernel, rfl⟩
theorem dX11_strike_9 : q_at cX11_strike 9 (.iload_n 3) 1 10 := ⟨by decide +kernel, rfl⟩
theorem dX11_strike_10 : q_at cX11_strike 10 (.ifCond .lt 16) 3 13 := ⟨by decide +kernel, rfl⟩
theorem dX11_strike_13 : q_at cX11_strike 13 (.aload_n 0) 1 14 := ⟨by decide +kernel, rfl⟩
theorem dX11_strike_14 : q_at cX11_strike 14 (.getfield 10) 3 17 := ⟨by decide +kernel, rfl⟩
theorem dX11_strike_17 : q_at cX11_strike 17 (.getfield 107) 3 20 := ⟨by decide +kernel, rfl⟩
theorem dX11_strike_20 : q_at cX11_strike 20 (.getfield 165) 3 23 := ⟨by decide +kernel, rfl⟩
theorem dX11_strike_23 : q_at cX11_strike 23 (.iload_n 3) 1 24 := ⟨by decide +kernel, rfl⟩
theorem dX11_strike_24 : q_at cX11_strike 24 (.iload_n 1) 1 25 := ⟨by decide +kernel, rfl⟩
theorem dX11_strike_25 : q_at cX11_strike 25 (.iastore) 1 26 := ⟨by decide +kernel, rfl⟩
theorem dX11_strike_26 : q_at cX11_strike 26 (.iload_n 3) 1 27 := ⟨by decide +kernel, rfl⟩
theorem dX11_strike_27 : q_at cX11_strike 27 (.ireturn) 1 28 := ⟨by decide +kernel, rfl⟩
theorem dX11_told_0 : q_at cX11_told 0 (.aload_n 0) 1 1 := ⟨by decide +kernel, rfl⟩
theorem dX11_told_1 : q_at cX11_told 1 (.getfield 10) 3 4 := ⟨by decide +kernel, rfl⟩
theorem dX11_told_4 : q_at cX11_told 4 (.getfield 107) 3 7 := ⟨by decide +kernel, rfl⟩
theorem dX11_told_7 : q_at cX11_told 7 (.iload_n 1) 1 8 := ⟨by decide +kernel, rfl⟩
theorem dX11_told_8 : q_at cX11_told 8 (.invokevirtual 175) 3 11 := ⟨by decide +kernel, rfl⟩
theorem dX11_told_11 : q_at cX11_told 11 (.ifCond .eq 21) 3 14 := ⟨by decide +kernel, rfl⟩
theorem dX11_told_14 : q_at cX11_told 14 (.aload_n 0) 1 15 := ⟨by decide +kernel, rfl⟩
theorem dX11_told_15 : q_at cX11_told 15 (.getfield 10) 3 18 := ⟨by decide +kernel, rfl⟩
theorem dX11_told_18 : q_at cX11_told 18 (.getfield 107) 3 21 := ⟨by decide +kernel, rfl⟩
theorem dX11_told_21 : q_at cX11_told 21 (.iload_n 2) 1 22 := ⟨by decide +kernel, rfl⟩
theorem dX11_told_22 : q_at cX11_told 22 (.invokevirtual 192) 3 25 := ⟨by decide +kernel, rfl⟩
theorem dX11_told_25 : q_at cX11_told 25 (.iload_n 1) 1 26 := ⟨by decide +kernel, rfl⟩
theorem dX11_told_26 : q_at cX11_told 26 (.invokestatic 80) 3 29 := ⟨by decide +kernel, rfl⟩
theorem dX11_told_29 : q_at cX11_told 29 (.goto 5) 3 32 := ⟨by decide +kernel, rfl⟩
theorem dX11_told_32 : q_at cX11_told 32 (.ldc 57) 2 34 := ⟨by decide +kernel, rfl⟩
theorem dX11_told_34 : q_at cX11_told 34 (.ireturn) 1 35 := ⟨by decide +kernel, rfl⟩
theorem dX11_be_0 : q_at cX11_be 0 (.aload_n 0) 1 1 := ⟨by decide +kernel, rfl⟩
theorem dX11_be_1 : q_at cX11_be 1 (.getfield 10) 3 4 := ⟨by decide +kernel, rfl⟩
theorem dX11_be_4 : q_at cX11_be 4 (.getfield 70) 3 7 := ⟨by decide +kernel, rfl⟩
theorem dX11_be_7 : q_at cX11_be 7 (.iload_n 1) 1 8 := ⟨by decide +kernel, rfl⟩
theorem dX11_be_8 : q_at cX11_be 8 (.invokevirtual 119) 3 11 := ⟨by decide +kernel, rfl⟩
theorem dX11_be_11 : q_at cX11_be 11 (.ifCond .eq 11) 3 14 := ⟨by decide +kernel, rfl⟩
theorem dX11_be_14 : q_at cX11_be 14 (.iload_n 2) 1 15 := ⟨by decide +kernel, rfl⟩
theorem dX11_be_15 : q_at cX11_be 15 (.iload_n 3) 1 16 := ⟨by decide +kernel, rfl⟩
theorem dX11_be_16 : q_at cX11_be 16 (.invokestatic 100) 3 19 := ⟨by decide +kernel, rfl⟩
theorem dX11_be_19 : q_at cX11_be 19 (.ifCond .ne 6) 3 22 := ⟨by decide +kernel, rfl⟩
theorem dX11_be_22 : q_at cX11_be 22 (.ldc 57) 2 24 := ⟨by decide +kernel, rfl⟩
theorem dX11_be_24 : q_at cX11_be 24 (.ireturn) 1 25 := ⟨by decide +kernel, rfl⟩
theorem dX11_be_25 : q_at cX11_be 25 (.aload_n 0) 1 26 := ⟨by decide +kernel, rfl⟩
theorem dX11_be_26 : q_at cX11_be 26 (.getfield 10) 3 29 := ⟨by decide +kernel, rfl⟩
theorem dX11_be_29 : q_at cX11_be 29 (.getfield 70) 3 32 := ⟨by decide +kernel, rfl⟩
theorem dX11_be_32 : q_at cX11_be 32 (.iload_n 2) 1 33 := ⟨by decide +kernel, rfl⟩
theorem dX11_be_33 : q_at cX11_be 33 (.invokevirtual 126) 3 36 := ⟨by decide +kernel, rfl⟩
theorem dX11_be_36 : q_at cX11_be 36 (.iload_n 1) 1 37 := ⟨by decide +kernel, rfl⟩
theorem dX11_be_37 : q_at cX11_be 37 (.iload_n 3) 1 38 := ⟨by decide +kernel, rfl⟩
theorem dX11_be_38 : q_at cX11_be 38 (.invokestatic 66) 3 41 := ⟨by decide +kernel, rfl⟩
theorem dX11_be_41 : q_at cX11_be 41 (.ireturn) 1 42 := ⟨by decide +kernel, rfl⟩
theorem dX11_end_0 : q_at cX11_end 0 (.iload_n 1) 1 1 := ⟨by decide +kernel, rfl⟩
theorem dX11_end_1 : q_at cX11_end 1 (.iconst 0) 1 2 := ⟨by decide +kernel, rfl⟩
theorem dX11_end_2 : q_at cX11_end 2 (.iconst 3) 1 3 := ⟨by decide +kernel, rfl⟩
theorem dX11_end_3 : q_at cX11_end 3 (.invokestatic 53) 3 6 := ⟨by decide +kernel, rfl⟩
theorem dX11_end_6 : q_at cX11_end 6 (.ifCond .eq 21) 3 9 := ⟨by decide +kernel, rfl⟩
theorem dX11_end_9 : q_at cX11_end 9 (.iload_n 2) 1 10 := ⟨by decide +kernel, rfl⟩
theorem dX11_end_10 : q_at cX11_end 10 (.iconst 0) 1 11 := ⟨by decide +kernel, rfl⟩
theorem dX11_end_11 : q_at cX11_end 11 (.iconst 3) 1 12 := ⟨by decide +kernel, rfl⟩
theorem dX11_end_12 : q_at cX11_end 12 (.invokestatic 53) 3 15 := ⟨by decide +kernel, rfl⟩
theorem dX11_end_15 : q_at cX11_end 15 (.ifCond .eq 12) 3 18 := ⟨by decide +kernel, rfl⟩
theorem dX11_end_18 : q_at cX11_end 18 (.iload_n 3) 1 19 := ⟨by decide +kernel, rfl⟩
theorem dX11_end_19 : q_at cX11_end 19 (.iconst 0) 1 20 := ⟨by decide +kernel, rfl⟩
theorem dX11_end_20 : q_at cX11_end 20 (.iconst 2) 1 21 := ⟨by decide +kernel, rfl⟩
theorem dX11_end_21 : q_at cX11_end 21 (.invokestatic 53) 3 24 := ⟨by decide +kernel, rfl⟩
theorem dX11_end_24 : q_at cX11_end 24 (.ifCond .ne 6) 3 27 := ⟨by decide +kernel, rfl⟩
theorem dX11_end_27 : q_at cX11_end 27 (.ldc 57) 2 29 := ⟨by decide +kernel, rfl⟩
theorem dX11_end_29 : q_at cX11_end 29 (.ireturn) 1 30 := ⟨by decide +kernel, rfl⟩
theorem dX11_end_30 : q_at cX11_end 30 (.iload 4) 2 32 := ⟨by decide +kernel, rfl⟩
theorem dX11_end_32 : q_at cX11_end 32 (.iconst 0) 1 33 := ⟨by decide +kernel, rfl⟩
theorem dX11_end_33 : q_at cX11_end 33 (.iconst 1) 1 34 := ⟨by decide +kernel, rfl⟩
theorem dX11_end_34 : q_at cX11_end 34 (.invokestatic 53) 3 37 := ⟨by decide +kernel, rfl⟩
theorem dX11_end_37 : q_at cX11_end 37 (.ifCond .ne 6) 3 40 := ⟨by decide +kernel, rfl⟩
theorem dX11_end_40 : q_at cX11_end 40 (.ldc 57) 2 42 := ⟨by decide +kernel, rfl⟩
theorem dX11_end_42 : q_at cX11_end 42 (.ireturn) 1 43 := ⟨by decide +kernel, rfl⟩
theorem dX11_end_43 : q_at cX11_end 43 (.aload_n 0) 1 44 := ⟨by decide +kernel, rfl⟩
theorem dX11_end_44 : q_at cX11_end 44 (.getfield 10) 3 47 := ⟨by decide +kernel, rfl⟩
theorem dX11_end_47 : q_at cX11_end 47 (.getfield 328) 3 50 := ⟨by decide +kernel, rfl⟩
theorem dX11_end_50 : q_at cX11_end 50 (.getfield 332) 3 53 := ⟨by decide +kernel, rfl⟩
theorem dX11_end_53 : q_at cX11_end 53 (.iload_n 1) 1 54 := ⟨by decide +kernel, rfl⟩
theorem dX11_end_54 : q_at cX11_end 54 (.iload_n 2) 1 55 := ⟨by decide +kernel, rfl⟩
theorem dX11_end_55 : q_at cX11_end 55 (.iload_n 3) 1 56 := ⟨by decide +kernel, rfl⟩
theorem dX11_end_56 : q_at cX11_end 56 (.invokestatic 335) 3 59 := ⟨by decide +kernel, rfl⟩
theorem dX11_end_59 : q_at cX11_end 59 (.iload 4) 2 61 := ⟨by decide +kernel, rfl⟩
theorem dX11_end_61 : q_at cX11_end 61 (.invokestatic 66) 3 64 := ⟨by decide +kernel, rfl⟩
theorem dX11_end_64 : q_at cX11_end 64 (.ireturn) 1 65 := ⟨by decide +kernel, rfl⟩
theorem dX11_least_0 : q_at cX11_least 0 (.aload_n 0) 1 1 := ⟨by decide +kernel, rfl⟩
theorem dX11_least_1 : q_at cX11_least 1 (.getfield 10) 3 4 := ⟨by decide +kernel, rfl⟩
theorem dX11_least_4 : q_at cX11_least 4 (.invokevirtual 366) 3 7 := ⟨by decide +kernel, rfl⟩
theorem dX11_least_7 : q_at cX11_least 7 (.aload_n 0) 1 8 := ⟨by decide +kernel, rfl⟩
theorem dX11_least_8 : q_at cX11_least 8 (.getfield 10) 3 11 := ⟨by decide +kernel, rfl⟩
theorem dX11_least_11 : q_at cX11_least 11 (.invokevirtual 375) 3 14 := ⟨by decide +kernel, rfl⟩
theorem dX11_least_14 : q_at cX11_least 14 (.istore_n 1) 1 15 := ⟨by decide +kernel, rfl⟩
theorem dX11_least_15 : q_at cX11_least 15 (.iload_n 1) 1 16 := ⟨by decide +kernel, rfl⟩
theorem dX11_least_16 : q_at cX11_least 16 (.ifCond .ne 8) 3 19 := ⟨by decide +kernel, rfl⟩
theorem dX11_least_19 : q_at cX11_least 19 (.ldc 130) 2 21 := ⟨by decide +kernel, rfl⟩
theorem dX11_least_21 : q_at cX11_least 21 (.goto 4) 3 24 := ⟨by decide +kernel, rfl⟩
theorem dX11_least_24 : q_at cX11_least 24 (.iload_n 1) 1 25 := ⟨by decide +kernel, rfl⟩
theorem dX11_least_25 : q_at cX11_least 25 (.ireturn) 1 26 := ⟨by decide +kernel, rfl⟩
theorem dX11_pit_0 : q_at cX11_pit 0 (.iload_n 1) 1 1 := ⟨by decide +kernel, rfl⟩
theorem dX11_pit_1 : q_at cX11_pit 1 (.iconst 0) 1 2 := ⟨by decide +kernel, rfl⟩
theorem dX11_pit_2 : q_at cX11_pit 2 (.bipush 7) 2 4 := ⟨by decide +kernel, rfl⟩
theorem dX11_pit_4 : q_at cX11_pit 4 (.invokestatic 53) 3 7 := ⟨by decide +kernel, rfl⟩
theorem dX11_pit_7 : q_at cX11_pit 7 (.ifCond .eq 12) 3 10 := ⟨by decide +kernel, rfl⟩
theorem dX11_pit_10 : q_at cX11_pit 10 (.iload_n 2) 1 11 := ⟨by decide +kernel, rfl⟩
theorem dX11_pit_11 : q_at cX11_pit 11 (.iconst 0) 1 12 := ⟨by decide +kernel, rfl⟩
theorem dX11_pit_12 : q_at cX11_pit 12 (.iconst 1) 1 13 := ⟨by decide +kernel, rfl⟩
theorem dX11_pit_13 : q_at cX11_pit 13 (.invokestatic 53) 3 16 := ⟨by decide +kernel, rfl⟩
theorem dX11_pit_16 : q_at cX11_pit 16 (.ifCond .ne 6) 3 19 := ⟨by decide +kernel, rfl⟩
theorem dX11_pit_19 : q_at cX11_pit 19 (.ldc 57) 2 21 := ⟨by decide +kernel, rfl⟩
theorem dX11_pit_21 : q_at cX11_pit 21 (.ireturn) 1 22 := ⟨by decide +kernel, rfl⟩
theorem dX11_pit_22 : q_at cX11_pit 22 (.iload_n 3) 1 23 := ⟨by decide +kernel, rfl⟩
theorem dX11_pit_23 : q_at cX11_pit 23 (.iconst 1) 1 24 := ⟨by decide +kernel, rfl⟩
theorem dX11_pit_24 : q_at cX11_pit 24 (.iload_n 2) 1 25 := ⟨by decide +kernel, rfl⟩
theorem dX11_pit_25 : q_at cX11_pit 25 (.ifCond .ne 8) 3 28 := ⟨by decide +kernel, rfl⟩
theorem dX11_pit_28 : q_at cX11_pit 28 (.bipush 99) 2 30 := ⟨by decide +kernel, rfl⟩
theorem dX11_pit_30 : q_at cX11_pit 30 (.goto 6) 3 33 := ⟨by decide +kernel, rfl⟩
theorem dX11_pit_33 : q_at cX11_pit 33 (.sipush 150) 3 36 := ⟨by decide +kernel, rfl⟩
theorem dX11_pit_36 : q_at cX11_pit 36 (.invokestatic 53) 3 39 := ⟨by decide +kernel, rfl⟩
theorem dX11_pit_39 : q_at cX11_pit 39 (.ifCond .ne 6) 3 42 := ⟨by decide +kernel, rfl⟩
theorem dX11_pit_42 : q_at cX11_pit 42 (.ldc 57) 2 44 := ⟨by decide +kernel, rfl⟩
theorem dX11_pit_44 : q_at cX11_pit 44 (.ireturn) 1 45 := ⟨by decide +kernel, rfl⟩
theorem dX11_pit_45 : q_at cX11_pit 45 (.aload_n 0) 1 46 := ⟨by decide +kernel, rfl⟩
theorem dX11_pit_46 : q_at cX11_pit 46 (.getfield 10) 3 49 := ⟨by decide +kernel, rfl⟩
theorem dX11_pit_49 : q_at cX11_pit 49 (.getfield 58) 3 52 := ⟨by decide +kernel, rfl⟩
theorem dX11_pit_52 : q_at cX11_pit 52 (.iload_n 2) 1 53 := ⟨by decide +kernel, rfl⟩
theorem dX11_pit_53 : q_at cX11_pit 53 (.invokevirtual 62) 3 56 := ⟨by decide +kernel, rfl⟩
theorem dX11_pit_56 : q_at cX11_pit 56 (.iload_n 1) 1 57 := ⟨by decide +kernel, rfl⟩
theorem dX11_pit_57 : q_at cX11_pit 57 (.iload_n 3) 1 58 := ⟨by decide +kernel, rfl⟩
theorem dX11_pit_58 : q_at cX11_pit 58 (.invokestatic 66) 3 61 := ⟨by decide +kernel, rfl⟩
theorem dX11_pit_61 : q_at cX11_pit 61 (.ireturn) 1 62 := ⟨by decide +kernel, rfl⟩
theorem dX11_rule_0 : q_at cX11_rule 0 (.iload_n 1) 1 1 := ⟨by decide +kernel, rfl⟩
theorem dX11_rule_1 : q_at cX11_rule 1 (.iconst 0) 1 2 := ⟨by decide +kernel, rfl⟩
theorem dX11_rule_2 : q_at cX11_rule 2 (.iconst 2) 1 3 := ⟨by decide +kernel, rfl⟩
theorem dX11_rule_3 : q_at cX11_rule 3 (.invokestatic 53) 3 6 := ⟨by decide +kernel, rfl⟩
theorem dX11_rule_6 : q_at cX11_rule 6 (.ifCond .eq 24) 3 9 := ⟨by decide +kernel, rfl⟩
theorem dX11_rule_9 : q_at cX11_rule 9 (.iload_n 2) 1 10 := ⟨by decide +kernel, rfl⟩
theorem dX11_rule_10 : q_at cX11_rule 10 (.iconst 0) 1 11 := ⟨by decide +kernel, rfl⟩
theorem dX11_rule_11 : q_at cX11_rule 11 (.iload_n 1) 1 12 := ⟨by decide +kernel, rfl⟩
theorem dX11_rule_12 : q_at cX11_rule 12 (.iconst 1) 1 13 := ⟨by decide +kernel, rfl⟩
theorem dX11_rule_13 : q_at cX11_rule 13 (.if_icmp .ne 8) 3 16 := ⟨by decide +kernel, rfl⟩
theorem dX11_rule_16 : q_at cX11_rule 16 (.ldc 86) 2 18 := ⟨by decide +kernel, rfl⟩
theorem dX11_rule_18 : q_at cX11_rule 18 (.goto 6) 3 21 := ⟨by decide +kernel, rfl⟩
theorem dX11_rule_21 : q_at cX11_rule 21 (.sipush 9999) 3 24 := ⟨by decide +kernel, rfl⟩
theorem dX11_rule_24 : q_at cX11_rule 24 (.invokestatic 53) 3 27 := ⟨by decide +kernel, rfl⟩
theorem dX11_rule_27 : q_at cX11_rule 27 (.ifCond .ne 6) 3 30 := ⟨by decide +kernel, rfl⟩
theorem dX11_rule_30 : q_at cX11_rule 30 (.ldc 57) 2 32 := ⟨by decide +kernel, rfl⟩
theorem dX11_rule_32 : q_at cX11_rule 32 (.ireturn) 1 33 := ⟨by decide +kernel, rfl⟩
theorem dX11_rule_33 : q_at cX11_rule 33 (.aload_n 0) 1 34 := ⟨by decide +kernel, rfl⟩
theorem dX11_rule_34 : q_at cX11_rule 34 (.getfield 10) 3 37 := ⟨by decide +kernel, rfl⟩
theorem dX11_rule_37 : q_at cX11_rule 37 (.getfield 148) 3 40 := ⟨by decide +kernel, rfl⟩
theorem dX11_rule_40 : q_at cX11_rule 40 (.iload_n 1) 1 41 := ⟨by decide +kernel, rfl⟩
theorem dX11_rule_41 : q_at cX11_rule 41 (.iload_n 2) 1 42 := ⟨by decide +kernel, rfl⟩
theorem dX11_rule_42 : q_at cX11_rule 42 (.invokestatic 66) 3 45 := ⟨by decide +kernel, rfl⟩
theorem dX11_rule_45 : q_at cX11_rule 45 (.ireturn) 1 46 := ⟨by decide +kernel, rfl⟩
theorem dX11_rules_0 : q_at cX11_rules 0 (.iload_n 1) 1 1 := ⟨by decide +kernel, rfl⟩
theorem dX11_rules_1 : q_at cX11_rules 1 (.iconst 0) 1 2 := ⟨by decide +kernel, rfl⟩
theorem dX11_rules_2 : q_at cX11_rules 2 (.bipush 6) 2 4 := ⟨by decide +kernel, rfl⟩
theorem dX11_rules_4 : q_at cX11_rules 4 (.invokestatic 53) 3 7 := ⟨by decide +kernel, rfl⟩
theorem dX11_rules_7 : q_at cX11_rules 7 (.ifCond .eq 28) 3 10 := ⟨by decide +kernel, rfl⟩
theorem dX11_rules_10 : q_at cX11_rules 10 (.aload_n 0) 1 11 := ⟨by decide +kernel, rfl⟩
theorem dX11_rules_11 : q_at cX11_rules 11 (.getfield 10) 3 14 := ⟨by decide +kernel, rfl⟩
theorem dX11_rules_14 : q_at cX11_rules 14 (.getfield 256) 3 17 := ⟨by decide +kernel, rfl⟩
theorem dX11_rules_17 : q_at cX11_rules 17 (.iload_n 1) 1 18 := ⟨by decide +kernel, rfl⟩
theorem dX11_rules_18 : q_at cX11_rules 18 (.aload_n 0) 1 19 := ⟨by decide +kernel, rfl⟩
theorem dX11_rules_19 : q_at cX11_rules 19 (.getfield 10) 3 22 := ⟨by decide +kernel, rfl⟩
theorem dX11_rules_22 : q_at cX11_rules 22 (.getfield 141) 3 25 := ⟨by decide +kernel, rfl⟩
theorem dX11_rules_25 : q_at cX11_rules 25 (.iload_n 2) 1 26 := ⟨by decide +kernel, rfl⟩
theorem dX11_rules_26 : q_at cX11_rules 26 (.iload_n 3) 1 27 := ⟨by decide +kernel, rfl⟩
theorem dX11_rules_27 : q_at cX11_rules 27 (.iload 4) 2 29 := ⟨by decide +kernel, rfl⟩
theorem dX11_rules_29 : q_at cX11_rules 29 (.invokevirtual 280) 3 32 := ⟨by decide +kernel, rfl⟩
theorem dX11_rules_32 : q_at cX11_rules 32 (.goto 5) 3 35 := ⟨by decide +kernel, rfl⟩
theorem dX11_rules_35 : q_at cX11_rules 35 (.ldc 57) 2 37 := ⟨by decide +kernel, rfl⟩
theorem dX11_rules_37 : q_at cX11_rules 37 (.ireturn) 1 38 := ⟨by decide +kernel, rfl⟩
theorem dX11_shelf_0 : q_at cX11_shelf 0 (.aload_n 0) 1 1 := ⟨by decide +kernel, rfl⟩
theorem dX11_shelf_1 : q_at cX11_shelf 1 (.getfield 10) 3 4 := ⟨by decide +kernel, rfl⟩
theorem dX11_shelf_4 : q_at cX11_shelf 4 (.getfield 87) 3 7 := ⟨by decide +kernel, rfl⟩
theorem dX11_shelf_7 : q_at cX11_shelf 7 (.iload_n 1) 1 8 := ⟨by decide +kernel, rfl⟩
theorem dX11_shelf_8 : q_at cX11_shelf 8 (.invokevirtual 95) 3 11 := ⟨by decide +kernel, rfl⟩
theorem dX11_shelf_11 : q_at cX11_shelf 11 (.ifCond .eq 12) 3 14 := ⟨by decide +kernel, rfl⟩
theorem dX11_shelf_14 : q_at cX11_shelf 14 (.iload_n 2) 1 15 := ⟨by decide +kernel, rfl⟩
theorem dX11_shelf_15 : q_at cX11_shelf 15 (.iconst 1) 1 16 := ⟨by decide +kernel, rfl⟩
theorem dX11_shelf_16 : q_at cX11_shelf 16 (.iconst 2) 1 17 := ⟨by decide +kernel, rfl⟩
theorem dX11_shelf_17 : q_at cX11_shelf 17 (.invokestatic 53) 3 20 := ⟨by decide +kernel, rfl⟩
theorem dX11_shelf_20 : q_at cX11_shelf 20 (.ifCond .ne 6) 3 23 := ⟨by decide +kernel, rfl⟩
theorem dX11_shelf_23 : q_at cX11_shelf 23 (.ldc 57) 2 25 := ⟨by decide +kernel, rfl⟩
theorem dX11_shelf_25 : q_at cX11_shelf 25 (.ireturn) 1 26 := ⟨by decide +kernel, rfl⟩
theorem dX11_shelf_26 : q_at cX11_shelf 26 (.iload_n 2) 1 27 := ⟨by decide +kernel, rfl⟩
theorem dX11_shelf_27 : q_at cX11_shelf 27 (.iconst 1) 1 28 := ⟨by decide +kernel, rfl⟩
theorem dX11_shelf_28 : q_at cX11_shelf 28 (.if_icmp .ne 16) 3 31 := ⟨by decide +kernel, rfl⟩
theorem dX11_shelf_31 : q_at cX11_shelf 31 (.iload_n 3) 1 32 := ⟨by decide +kernel, rfl⟩
theorem dX11_shelf_32 : q_at cX11_shelf 32 (.iconst 1) 1 33 := ⟨by decide +kernel, rfl⟩
theorem dX11_shelf_33 : q_at cX11_shelf 33 (.bipush 99) 2 35 := ⟨by decide +kernel, rfl⟩
theorem dX11_shelf_35 : q_at cX11_shelf 35 (.invokestatic 53) 3 38 := ⟨by decide +kernel, rfl⟩
theorem dX11_shelf_38 : q_at cX11_shelf 38 (.ifCond .ne 6) 3 41 := ⟨by decide +kernel, rfl⟩
theorem dX11_shelf_41 : q_at cX11_shelf 41 (.ldc 57) 2 43 := ⟨by decide +kernel, rfl⟩
theorem dX11_shelf_43 : q_at cX11_shelf 43 (.ireturn) 1 44 := ⟨by decide +kernel, rfl⟩
theorem dX11_shelf_44 : q_at cX11_shelf 44 (.iload_n 2) 1 45 := ⟨by decide +kernel, rfl⟩
theorem dX11_shelf_45 : q_at cX11_shelf 45 (.iconst 2) 1 46 := ⟨by decide +kernel, rfl⟩
theorem dX11_shelf_46 : q_at cX11_shelf 46 (.if_icmp .ne 16) 3 49 := ⟨by decide +kernel, rfl⟩
theorem dX11_shelf_49 : q_at cX11_shelf 49 (.iload_n 3) 1 50 := ⟨by decide +kernel, rfl⟩
theorem dX11_shelf_50 : q_at cX11_shelf 50 (.iconst 0) 1 51 := ⟨by decide +kernel, rfl⟩
theorem dX11_shelf_51 : q_at cX11_shelf 51 (.ldc 86) 2 53 := ⟨by decide +kernel, rfl⟩
theorem dX11_shelf_53 : q_at cX11_shelf 53 (.invokestatic 53) 3 56 := ⟨by decide +kernel, rfl⟩
theorem dX11_shelf_56 : q_at cX11_shelf 56 (.ifCond .ne 6) 3 59 := ⟨by decide +kernel, rfl⟩
theorem dX11_shelf_59 : q_at cX11_shelf 59 (.ldc 57) 2 61 := ⟨by decide +kernel, rfl⟩
theorem dX11_shelf_61 : q_at cX11_shelf 61 (.ireturn) 1 62 := ⟨by decide +kernel, rfl⟩
theorem dX11_shelf_62 : q_at cX11_shelf 62 (.aload_n 0) 1 63 := ⟨by decide +kernel, rfl⟩
theorem dX11_shelf_63 : q_at cX11_shelf 63 (.getfield 10) 3 66 := ⟨by decide +kernel, rfl⟩
theorem dX11_shelf_66 : q_at cX11_shelf 66 (.getfield 87) 3 69 := ⟨by decide +kernel, rfl⟩
theorem dX11_shelf_69 : q_at cX11_shelf 69 (.iload_n 2) 1 70 := ⟨by decide +kernel, rfl⟩
theorem dX11_shelf_70 : q_at cX11_shelf 70 (.invokevirtual 99) 3 73 := ⟨by decide +kernel, rfl⟩
theorem dX11_shelf_73 : q_at cX11_shelf 73 (.iload_n 1) 1 74 := ⟨by decide +kernel, rfl⟩
theorem dX11_shelf_74 : q_at cX11_shelf 74 (.iload_n 3) 1 75 := ⟨by decide +kernel, rfl⟩
theorem dX11_shelf_75 : q_at cX11_shelf 75 (.invokestatic 66) 3 78 := ⟨by decide +kernel, rfl⟩
theorem dX11_shelf_78 : q_at cX11_shelf 78 (.ireturn) 1 79 := ⟨by decide +kernel, rfl⟩
theorem dX11_worth_0 : q_at cX11_worth 0 (.aload_n 0) 1 1 := ⟨by decide +kernel, rfl⟩
theorem dX11_worth_1 : q_at cX11_worth 1 (.getfield 10) 3 4 := ⟨by decide +kernel, rfl⟩
theorem dX11_worth_4 : q_at cX11_worth 4 (.getfield 70) 3 7 := ⟨by decide +kernel, rfl⟩
theorem dX11_worth_7 : q_at cX11_worth 7 (.iload_n 1) 1 8 := ⟨by decide +kernel, rfl⟩
theorem dX11_worth_8 : q_at cX11_worth 8 (.invokevirtual 119) 3 11 := ⟨by decide +kernel, rfl⟩
theorem dX11_worth_11 : q_at cX11_worth 11 (.ifCond .eq 13) 3 14 := ⟨by decide +kernel, rfl⟩
theorem dX11_worth_14 : q_at cX11_worth 14 (.iload_n 2) 1 15 := ⟨by decide +kernel, rfl⟩
theorem dX11_worth_15 : q_at cX11_worth 15 (.iconst 0) 1 16 := ⟨by decide +kernel, rfl⟩
theorem dX11_worth_16 : q_at cX11_worth 16 (.bipush 8) 2 18 := ⟨by decide +kernel, rfl⟩
theorem dX11_worth_18 : q_at cX11_worth 18 (.invokestatic 53) 3 21 := ⟨by decide +kernel, rfl⟩
theorem dX11_worth_21 : q_at cX11_worth 21 (.ifCond .ne 6) 3 24 := ⟨by decide +kernel, rfl⟩
theorem dX11_worth_24 : q_at cX11_worth 24 (.ldc 57) 2 26 := ⟨by decide +kernel, rfl⟩
theorem dX11_worth_26 : q_at cX11_worth 26 (.ireturn) 1 27 := ⟨by decide +kernel, rfl⟩
theorem dX11_worth_27 : q_at cX11_worth 27 (.aload_n 0) 1 28 := ⟨by decide +kernel, rfl⟩
theorem dX11_worth_28 : q_at cX11_worth 28 (.getfield 10) 3 31 := ⟨by decide +kernel, rfl⟩
theorem dX11_worth_31 : q_at cX11_worth 31 (.iload_n 1) 1 32 := ⟨by decide +kernel, rfl⟩
theorem dX11_worth_32 : q_at cX11_worth 32 (.iconst 0) 1 33 := ⟨by decide +kernel, rfl⟩
theorem dX11_worth_33 : q_at cX11_worth 33 (.iconst 0) 1 34 := ⟨by decide +kernel, rfl⟩
theorem dX11_worth_34 : q_at cX11_worth 34 (.invokevirtual 200) 3 37 := ⟨by decide +kernel, rfl⟩
theorem dX11_worth_37 : q_at cX11_worth 37 (.aload_n 0) 1 38 := ⟨by decide +kernel, rfl⟩
theorem dX11_worth_38 : q_at cX11_worth 38 (.getfield 10) 3 41 := ⟨by decide +kernel, rfl⟩
theorem dX11_worth_41 : q_at cX11_worth 41 (.getfield 204) 3 44 := ⟨by decide +kernel, rfl⟩
theorem dX11_worth_44 : q_at cX11_worth 44 (.iconst 0) 1 45 := ⟨by decide +kernel, rfl⟩
theorem dX11_worth_45 : q_at cX11_worth 45 (.iaload) 1 46 := ⟨by decide +kernel, rfl⟩
theorem dX11_worth_46 : q_at cX11_worth 46 (.istore_n 3) 1 47 := ⟨by decide +kernel, rfl⟩
theorem dX11_worth_47 : q_at cX11_worth 47 (.iload_n 2) 1 48 := ⟨by decide +kernel, rfl⟩
theorem dX11_worth_48 : q_at cX11_worth 48 (.bipush 7) 2 50 := ⟨by decide +kernel, rfl⟩
theorem dX11_worth_50 : q_at cX11_worth 50 (.if_icmp .ne 15) 3 53 := ⟨by decide +kernel, rfl⟩
theorem dX11_worth_53 : q_at cX11_worth 53 (.aload_n 0) 1 54 := ⟨by decide +kernel, rfl⟩
theorem dX11_worth_54 : q_at cX11_worth 54 (.getfield 10) 3 57 := ⟨by decide +kernel, rfl⟩
theorem dX11_worth_57 : q_at cX11_worth 57 (.getfield 87) 3 60 := ⟨by decide +kernel, rfl⟩
theorem dX11_worth_60 : q_at cX11_worth 60 (.iload_n 3) 1 61 := ⟨by decide +kernel, rfl⟩
theorem dX11_worth_61 : q_at cX11_worth 61 (.invokevirtual 207) 3 64 := ⟨by decide +kernel, rfl⟩
theorem dX11_worth_64 : q_at cX11_worth 64 (.ireturn) 1 65 := ⟨by decide +kernel, rfl⟩
theorem dX11_worth_65 : q_at cX11_worth 65 (.iload_n 2) 1 66 := ⟨by decide +kernel, rfl⟩
theorem dX11_worth_66 : q_at cX11_worth 66 (.bipush 8) 2 68 := ⟨by decide +kernel, rfl⟩
theorem dX11_worth_68 : q_at cX11_worth 68 (.if_icmp .ne 15) 3 71 := ⟨by decide +kernel, rfl⟩
theorem dX11_worth_71 : q_at cX11_worth 71 (.aload_n 0) 1 72 := ⟨by decide +kernel, rfl⟩
theorem dX11_worth_72 : q_at cX11_worth 72 (.getfield 10) 3 75 := ⟨by decide +kernel, rfl⟩
theorem dX11_worth_75 : q_at cX11_worth 75 (.getfield 87) 3 78 := ⟨by decide +kernel, rfl⟩
theorem dX11_worth_78 : q_at cX11_worth 78 (.iload_n 3) 1 79 := ⟨by decide +kernel, rfl⟩
theorem dX11_worth_79 : q_at cX11_worth 79 (.invokevirtual 210) 3 82 := ⟨by decide +kernel, rfl⟩
theorem dX11_worth_82 : q_at cX11_worth 82 (.ireturn) 1 83 := ⟨by decide +kernel, rfl⟩
theorem dX11_worth_83 : q_at cX11_worth 83 (.aload_n 0) 1 84 := ⟨by decide +kernel, rfl⟩
theorem dX11_worth_84 : q_at cX11_worth 84 (.getfield 10) 3 87 := ⟨by decide +kernel, rfl⟩
theorem dX11_worth_87 : q_at cX11_worth 87 (.getfield 204) 3 90 := ⟨by decide +kernel, rfl⟩
theorem dX11_worth_90 : q_at cX11_worth 90 (.iload_n 2) 1 91 := ⟨by decide +kernel, rfl⟩
theorem dX11_worth_91 : q_at cX11_worth 91 (.invokestatic 80) 3 94 := ⟨by decide +kernel, rfl⟩
theorem dX11_worth_94 : q_at cX11_worth 94 (.ireturn) 1 95 := ⟨by decide +kernel, rfl⟩
theorem dX11_give_0 : q_at cX11_give 0 (.aload_n 0) 1 1 := ⟨by decide +kernel, rfl⟩
theorem dX11_give_1 : q_at cX11_give 1 (.getfield 10) 3 4 := ⟨by decide +kernel, rfl⟩
theorem dX11_give_4 : q_at cX11_give 4 (.getfield 70) 3 7 := ⟨by decide +kernel, rfl⟩
theorem dX11_give_7 : q_at cX11_give 7 (.iload_n 1) 1 8 := ⟨by decide +kernel, rfl⟩
theorem dX11_give_8 : q_at cX11_give 8 (.invokevirtual 119) 3 11 := ⟨by decide +kernel, rfl⟩
theorem dX11_give_11 : q_at cX11_give 11 (.ifCond .ne 6) 3 14 := ⟨by decide +kernel, rfl⟩
theorem dX11_give_14 : q_at cX11_give 14 (.ldc 57) 2 16 := ⟨by decide +kernel, rfl⟩
theorem dX11_give_16 : q_at cX11_give 16 (.ireturn) 1 17 := ⟨by decide +kernel, rfl⟩
theorem dX11_give_17 : q_at cX11_give 17 (.aload_n 0) 1 18 := ⟨by decide +kernel, rfl⟩
theorem dX11_give_18 : q_at cX11_give 18 (.getfield 10) 3 21 := ⟨by decide +kernel, rfl⟩
theorem dX11_give_21 : q_at cX11_give 21 (.iload_n 1) 1 22 := ⟨by decide +kernel, rfl⟩
theorem dX11_give_22 : q_at cX11_give 22 (.iconst 1) 1 23 := ⟨by decide +kernel, rfl⟩
theorem dX11_give_23 : q_at cX11_give 23 (.invokevirtual 196) 3 26 := ⟨by decide +kernel, rfl⟩
theorem dX11_give_26 : q_at cX11_give 26 (.istore_n 2) 1 27 := ⟨by decide +kernel, rfl⟩
theorem dX11_give_27 : q_at cX11_give 27 (.iload_n 2) 1 28 := ⟨by decide +kernel, rfl⟩
theorem dX11_give_28 : q_at cX11_give 28 (.ifCond .ne 6) 3 31 := ⟨by decide +kernel, rfl⟩
theorem dX11_give_31 : q_at cX11_give 31 (.ldc 171) 2 33 := ⟨by decide +kernel, rfl⟩
theorem dX11_give_33 : q_at cX11_give 33 (.ireturn) 1 34 := ⟨by decide +kernel, rfl⟩
theorem dX11_give_34 : q_at cX11_give 34 (.aload_n 0) 1 35 := ⟨by decide +kernel, rfl⟩
theorem dX11_give_35 : q_at cX11_give 35 (.getfield 10) 3 38 := ⟨by decide +kernel, rfl⟩
theorem dX11_give_38 : q_at cX11_give 38 (.getfield 70) 3 41 := ⟨by decide +kernel, rfl⟩
theorem dX11_give_41 : q_at cX11_give 41 (.iload_n 1) 1 42 := ⟨by decide +kernel, rfl⟩
theorem dX11_give_42 : q_at cX11_give 42 (.iload_n 2) 1 43 := ⟨by decide +kernel, rfl⟩
theorem dX11_give_43 : q_at cX11_give 43 (.invokevirtual 162) 3 46 := ⟨by decide +kernel, rfl⟩
theorem dX11_give_46 : q_at cX11_give 46 (.iload_n 2) 1 47 := ⟨by decide +kernel, rfl⟩
theorem dX11_give_47 : q_at cX11_give 47 (.ireturn) 1 48 := ⟨by decide +kernel, rfl⟩
theorem dX11_round_0 : q_at cX11_round 0 (.aload_n 0) 1 1 := ⟨by decide +kernel, rfl⟩
theorem dX11_round_1 : q_at cX11_round 1 (.getfield 10) 3 4 := ⟨by decide +kernel, rfl⟩
theorem dX11_round_4 : q_at cX11_round 4 (.getfield 328) 3 7 := ⟨by decide +kernel, rfl⟩
theorem dX11_round_7 : q_at cX11_round 7 (.aload_n 0) 1 8 := ⟨by decide +kernel, rfl⟩
theorem dX11_round_8 : q_at cX11_round 8 (.getfield 10) 3 11 := ⟨by decide +kernel, rfl⟩
theorem dX11_round_11 : q_at cX11_round 11 (.getfield 256) 3 14 := ⟨by decide +kernel, rfl⟩
theorem dX11_round_14 : q_at cX11_round 14 (.aload_n 0) 1 15 := ⟨by decide +kernel, rfl⟩
theorem dX11_round_15 : q_at cX11_round 15 (.getfield 10) 3 18 := ⟨by decide +kernel, rfl⟩
theorem dX11_round_18 : q_at cX11_round 18 (.getfield 141) 3 21 := ⟨by decide +kernel, rfl⟩
theorem dX11_round_21 : q_at cX11_round 21 (.invokevirtual 337) 3 24 := ⟨by decide +kernel, rfl⟩
theorem dX11_round_24 : q_at cX11_round 24 (.ireturn) 1 25 := ⟨by decide +kernel, rfl⟩
theorem dX11_way_0 : q_at cX11_way 0 (.iload_n 1) 1 1 := ⟨by decide +kernel, rfl⟩
theorem dX11_way_1 : q_at cX11_way 1 (.ifCond .ge 6) 3 4 := ⟨by decide +kernel, rfl⟩
theorem dX11_way_4 : q_at cX11_way 4 (.ldc 57) 2 6 := ⟨by decide +kernel, rfl⟩
theorem dX11_way_6 : q_at cX11_way 6 (.ireturn) 1 7 := ⟨by decide +kernel, rfl⟩
theorem dX11_way_7 : q_at cX11_way 7 (.aload_n 0) 1 8 := ⟨by decide +kernel, rfl⟩
theorem dX11_way_8 : q_at cX11_way 8 (.getfield 10) 3 11 := ⟨by decide +kernel, rfl⟩
theorem dX11_way_11 : q_at cX11_way 11 (.getfield 328) 3 14 := ⟨by decide +kernel, rfl⟩
theorem dX11_way_14 : q_at cX11_way 14 (.aload_n 0) 1 15 := ⟨by decide +kernel, rfl⟩
theorem dX11_way_15 : q_at cX11_way 15 (.getfield 10) 3 18 := ⟨by decide +kernel, rfl⟩
theorem dX11_way_18 : q_at cX11_way 18 (.getfield 256) 3 21 := ⟨by decide +kernel, rfl⟩
theorem dX11_way_21 : q_at cX11_way 21 (.aload_n 0) 1 22 := ⟨by decide +kernel, rfl⟩
theorem dX11_way_22 : q_at cX11_way 22 (.getfield 10) 3 25 := ⟨by decide +kernel, rfl⟩
theorem dX11_way_25 : q_at cX11_way 25 (.getfield 141) 3 28 := ⟨by decide +kernel, rfl⟩
theorem dX11_way_28 : q_at cX11_way 28 (.iload_n 1) 1 29 := ⟨by decide +kernel, rfl⟩
theorem dX11_way_29 : q_at cX11_way 29 (.invokevirtual 340) 3 32 := ⟨by decide +kernel, rfl⟩
theorem dX11_way_32 : q_at cX11_way 32 (.istore_n 2) 1 33 := ⟨by decide +kernel, rfl⟩
theorem dX11_way_33 : q_at cX11_way 33 (.iload_n 2) 1 34 := ⟨by decide +kernel, rfl⟩
theorem dX11_way_34 : q_at cX11_way 34 (.ifCond .ge 8) 3 37 := ⟨by decide +kernel, rfl⟩
theorem dX11_way_37 : q_at cX11_way 37 (.ldc 130) 2 39 := ⟨by decide +kernel, rfl⟩
theorem dX11_way_39 : q_at cX11_way 39 (.goto 4) 3 42 := ⟨by decide +kernel, rfl⟩
theorem dX11_way_42 : q_at cX11_way 42 (.iload_n 2) 1 43 := ⟨by decide +kernel, rfl⟩
theorem dX11_way_43 : q_at cX11_way 43 (.ireturn) 1 44 := ⟨by decide +kernel, rfl⟩
theorem dX11_would_0 : q_at cX11_would 0 (.aload_n 0) 1 1 := ⟨by decide +kernel, rfl⟩
theorem dX11_would_1 : q_at cX11_would 1 (.getfield 10) 3 4 := ⟨by decide +kernel, rfl⟩
theorem dX11_would_4 : q_at cX11_would 4 (.getfield 256) 3 7 := ⟨by decide +kernel, rfl⟩
theorem dX11_would_7 : q_at cX11_would 7 (.iload_n 1) 1 8 := ⟨by decide +kernel, rfl⟩
theorem dX11_would_8 : q_at cX11_would 8 (.invokevirtual 275) 3 11 := ⟨by decide +kernel, rfl⟩
theorem dX11_would_11 : q_at cX11_would 11 (.ifCond .eq 12) 3 14 := ⟨by decide +kernel, rfl⟩
theorem dX11_would_14 : q_at cX11_would 14 (.iload_n 2) 1 15 := ⟨by decide +kernel, rfl⟩
theorem dX11_would_15 : q_at cX11_would 15 (.iconst 0) 1 16 := ⟨by decide +kernel, rfl⟩
theorem dX11_would_16 : q_at cX11_would 16 (.iconst 1) 1 17 := ⟨by decide +kernel, rfl⟩
theorem dX11_would_17 : q_at cX11_would 17 (.invokestatic 53) 3 20 := ⟨by decide +kernel, rfl⟩
theorem dX11_would_20 : q_at cX11_would 20 (.ifCond .ne 6) 3 23 := ⟨by decide +kernel, rfl⟩
theorem dX11_would_23 : q_at cX11_would 23 (.ldc 57) 2 25 := ⟨by decide +kernel, rfl⟩
theorem dX11_would_25 : q_at cX11_would 25 (.ireturn) 1 26 := ⟨by decide +kernel, rfl⟩
theorem dX11_would_26 : q_at cX11_would 26 (.aload_n 0) 1 27 := ⟨by decide +kernel, rfl⟩
theorem dX11_would_27 : q_at cX11_would 27 (.getfield 10) 3 30 := ⟨by decide +kernel, rfl⟩
theorem dX11_would_30 : q_at cX11_would 30 (.getfield 256) 3 33 := ⟨by decide +kernel, rfl⟩
theorem dX11_would_33 : q_at cX11_would 33 (.getfield 344) 3 36 := ⟨by decide +kernel, rfl⟩
theorem dX11_would_36 : q_at cX11_would 36 (.iload_n 1) 1 37 := ⟨by decide +kernel, rfl⟩
theorem dX11_would_37 : q_at cX11_would 37 (.iaload) 1 38 := ⟨by decide +kernel, rfl⟩
theorem dX11_would_38 : q_at cX11_would 38 (.bipush 6) 2 40 := ⟨by decide +kernel, rfl⟩
theorem dX11_would_40 : q_at cX11_would 40 (.if_icmp .eq 6) 3 43 := ⟨by decide +kernel, rfl⟩
theorem dX11_would_43 : q_at cX11_would 43 (.ldc 179) 2 45 := ⟨by decide +kernel, rfl⟩
theorem dX11_would_45 : q_at cX11_would 45 (.ireturn) 1 46 := ⟨by decide +kernel, rfl⟩
theorem dX11_would_46 : q_at cX11_would 46 (.iload_n 2) 1 47 := ⟨by decide +kernel, rfl⟩
theorem dX11_would_47 : q_at cX11_would 47 (.ifCond .ne 31) 3 50 := ⟨by decide +kernel, rfl⟩
theorem dX11_would_50 : q_at cX11_would 50 (.aload_n 0) 1 51 := ⟨by decide +kernel, rfl⟩
theorem dX11_would_51 : q_at cX11_would 51 (.getfield 10) 3 54 := ⟨by decide +kernel, rfl⟩
theorem dX11_would_54 : q_at cX11_would 54 (.getfield 328) 3 57 := ⟨by decide +kernel, rfl⟩
theorem dX11_would_57 : q_at cX11_would 57 (.aload_n 0) 1 58 := ⟨by decide +kernel, rfl⟩
theorem dX11_would_58 : q_at cX11_would 58 (.getfield 10) 3 61 := ⟨by decide +kernel, rfl⟩
theorem dX11_would_61 : q_at cX11_would 61 (.getfield 256) 3 64 := ⟨by decide +kernel, rfl⟩
theorem dX11_would_64 : q_at cX11_would 64 (.aload_n 0) 1 65 := ⟨by decide +kernel, rfl⟩
theorem dX11_would_65 : q_at cX11_would 65 (.getfield 10) 3 68 := ⟨by decide +kernel, rfl⟩
theorem dX11_would_68 : q_at cX11_would 68 (.getfield 141) 3 71 := ⟨by decide +kernel, rfl⟩
theorem dX11_would_71 : q_at cX11_would 71 (.iload_n 1) 1 72 := ⟨by decide +kernel, rfl⟩
theorem dX11_would_72 : q_at cX11_would 72 (.invokevirtual 346) 3 75 := ⟨by decide +kernel, rfl⟩
theorem dX11_would_75 : q_at cX11_would 75 (.goto 21) 3 78 := ⟨by decide +kernel, rfl⟩
theorem dX11_would_78 : q_at cX11_would 78 (.aload_n 0) 1 79 := ⟨by decide +kernel, rfl⟩
theorem dX11_would_79 : q_at cX11_would 79 (.getfield 10) 3 82 := ⟨by decide +kernel, rfl⟩
theorem dX11_would_82 : q_at cX11_would 82 (.getfield 328) 3 85 := ⟨by decide +kernel, rfl⟩
theorem dX11_would_85 : q_at cX11_would 85 (.aload_n 0) 1 86 := ⟨by decide +kernel, rfl⟩
theorem dX11_would_86 : q_at cX11_would 86 (.getfield 10) 3 89 := ⟨by decide +kernel, rfl⟩
theorem dX11_would_89 : q_at cX11_would 89 (.getfield 256) 3 92 := ⟨by decide +kernel, rfl⟩
theorem dX11_would_92 : q_at cX11_would 92 (.iload_n 1) 1 93 := ⟨by decide +kernel, rfl⟩
theorem dX11_would_93 : q_at cX11_would 93 (.invokevirtual 349) 3 96 := ⟨by decide +kernel, rfl⟩
theorem dX11_would_96 : q_at cX11_would 96 (.ireturn) 1 97 := ⟨by decide +kernel, rfl⟩
theorem dX11_wrong_0 : q_at cX11_wrong 0 (.aload_n 0) 1 1 := ⟨by decide +kernel, rfl⟩
theorem dX11_wrong_1 : q_at cX11_wrong 1 (.getfield 10) 3 4 := ⟨by decide +kernel, rfl⟩
theorem dX11_wrong_4 : q_at cX11_wrong 4 (.getfield 70) 3 7 := ⟨by decide +kernel, rfl⟩
theorem dX11_wrong_7 : q_at cX11_wrong 7 (.iload_n 1) 1 8 := ⟨by decide +kernel, rfl⟩
theorem dX11_wrong_8 : q_at cX11_wrong 8 (.invokevirtual 119) 3 11 := ⟨by decide +kernel, rfl⟩
theorem dX11_wrong_11 : q_at cX11_wrong 11 (.ifCond .eq 15) 3 14 := ⟨by decide +kernel, rfl⟩
theorem dX11_wrong_14 : q_at cX11_wrong 14 (.aload_n 0) 1 15 := ⟨by decide +kernel, rfl⟩
theorem dX11_wrong_15 : q_at cX11_wrong 15 (.getfield 10) 3 18 := ⟨by decide +kernel, rfl⟩
theorem dX11_wrong_18 : q_at cX11_wrong 18 (.iload_n 1) 1 19 := ⟨by decide +kernel, rfl⟩
theorem dX11_wrong_19 : q_at cX11_wrong 19 (.iconst 0) 1 20 := ⟨by decide +kernel, rfl⟩
theorem dX11_wrong_20 : q_at cX11_wrong 20 (.invokevirtual 196) 3 23 := ⟨by decide +kernel, rfl⟩
theorem dX11_wrong_23 : q_at cX11_wrong 23 (.goto 5) 3 26 := ⟨by decide +kernel, rfl⟩
theorem dX11_wrong_26 : q_at cX11_wrong 26 (.ldc 57) 2 28 := ⟨by decide +kernel, rfl⟩
theorem dX11_wrong_28 : q_at cX11_wrong 28 (.ireturn) 1 29 := ⟨by decide +kernel, rfl⟩
theorem dX11_run_0 : q_at cX11_run 0 (.iload_n 1) 1 1 := ⟨by decide +kernel, rfl⟩
theorem dX11_run_1 : q_at cX11_run 1 (.iconst 1) 1 2 := ⟨by decide +kernel, rfl⟩
theorem dX11_run_2 : q_at cX11_run 2 (.bipush 60) 2 4 := ⟨by decide +kernel, rfl⟩
theorem dX11_run_4 : q_at cX11_run 4 (.invokestatic 53) 3 7 := ⟨by decide +kernel, rfl⟩
theorem dX11_run_7 : q_at cX11_run 7 (.ifCond .ne 6) 3 10 := ⟨by decide +kernel, rfl⟩
theorem dX11_run_10 : q_at cX11_run 10 (.ldc 57) 2 12 := ⟨by decide +kernel, rfl⟩
theorem dX11_run_12 : q_at cX11_run 12 (.ireturn) 1 13 := ⟨by decide +kernel, rfl⟩
theorem dX11_run_13 : q_at cX11_run 13 (.aload_n 0) 1 14 := ⟨by decide +kernel, rfl⟩
theorem dX11_run_14 : q_at cX11_run 14 (.getfield 10) 3 17 := ⟨by decide +kernel, rfl⟩
theorem dX11_run_17 : q_at cX11_run 17 (.getfield 141) 3 20 := ⟨by decide +kernel, rfl⟩
theorem dX11_run_20 : q_at cX11_run 20 (.iload_n 1) 1 21 := ⟨by decide +kernel, rfl⟩
theorem dX11_run_21 : q_at cX11_run 21 (.iadd) 1 22 := ⟨by decide +kernel, rfl⟩
theorem dX11_run_22 : q_at cX11_run 22 (.sipush 6999) 3 25 := ⟨by decide +kernel, rfl⟩
theorem dX11_run_25 : q_at cX11_run 25 (.if_icmp .le 6) 3 28 := ⟨by decide +kernel, rfl⟩
theorem dX11_run_28 : q_at cX11_run 28 (.ldc 114) 2 30 := ⟨by decide +kernel, rfl⟩
theorem dX11_run_30 : q_at cX11_run 30 (.ireturn) 1 31 := ⟨by decide +kernel, rfl⟩
theorem dX11_run_31 : q_at cX11_run 31 (.aload_n 0) 1 32 := ⟨by decide +kernel, rfl⟩
theorem dX11_run_32 : q_at cX11_run 32 (.getfield 10) 3 35 := ⟨by decide +kernel, rfl⟩
theorem dX11_run_35 : q_at cX11_run 35 (.iload_n 1) 1 36 := ⟨by decide +kernel, rfl⟩
theorem dX11_run_36 : q_at cX11_run 36 (.iconst 0) 1 37 := ⟨by decide +kernel, rfl⟩
theorem dX11_run_37 : q_at cX11_run 37 (.invokevirtual 151) 3 40 := ⟨by decide +kernel, rfl⟩
theorem dX11_run_40 : q_at cX11_run 40 (.aload_n 0) 1 41 := ⟨by decide +kernel, rfl⟩
theorem dX11_run_41 : q_at cX11_run 41 (.getfield 10) 3 44 := ⟨by decide +kernel, rfl⟩
theorem dX11_run_44 : q_at cX11_run 44 (.getfield 141) 3 47 := ⟨by decide +kernel, rfl⟩
theorem dX11_run_47 : q_at cX11_run 47 (.ireturn) 1 48 := ⟨by decide +kernel, rfl⟩
theorem dX11_at_0 : q_at cX11_at 0 (.iload_n 1) 1 1 := ⟨by decide +kernel, rfl⟩
theorem dX11_at_1 : q_at cX11_at 1 (.iconst 1) 1 2 := ⟨by decide +kernel, rfl⟩
theorem dX11_at_2 : q_at cX11_at 2 (.bipush 7) 2 4 := ⟨by decide +kernel, rfl⟩
theorem dX11_at_4 : q_at cX11_at 4 (.invokestatic 53) 3 7 := ⟨by decide +kernel, rfl⟩
theorem dX11_at_7 : q_at cX11_at 7 (.ifCond .eq 14) 3 10 := ⟨by decide +kernel, rfl⟩
theorem dX11_at_10 : q_at cX11_at 10 (.iload_n 2) 1 11 := ⟨by decide +kernel, rfl⟩
theorem dX11_at_11 : q_at cX11_at 11 (.iconst 0) 1 12 := ⟨by decide +kernel, rfl⟩
theorem dX11_at_12 : q_at cX11_at 12 (.iload_n 1) 1 13 := ⟨by decide +kernel, rfl⟩
theorem dX11_at_13 : q_at cX11_at 13 (.iconst 1) 1 14 := ⟨by decide +kernel, rfl⟩
theorem dX11_at_14 : q_at cX11_at 14 (.isub) 1 15 := ⟨by decide +kernel, rfl⟩
theorem dX11_at_15 : q_at cX11_at 15 (.invokestatic 53) 3 18 := ⟨by decide +kernel, rfl⟩
theorem dX11_at_18 : q_at cX11_at 18 (.ifCond .ne 6) 3 21 := ⟨by decide +kernel, rfl⟩
theorem dX11_at_21 : q_at cX11_at 21 (.ldc 57) 2 23 := ⟨by decide +kernel, rfl⟩
theorem dX11_at_23 : q_at cX11_at 23 (.ireturn) 1 24 := ⟨by decide +kernel, rfl⟩
theorem dX11_at_24 : q_at cX11_at 24 (.aload_n 0) 1 25 := ⟨by decide +kernel, rfl⟩
theorem dX11_at_25 : q_at cX11_at 25 (.getfield 10) 3 28 := ⟨by decide +kernel, rfl⟩
theorem dX11_at_28 : q_at cX11_at 28 (.getfield 354) 3 31 := ⟨by decide +kernel, rfl⟩
theorem dX11_at_31 : q_at cX11_at 31 (.iload_n 1) 1 32 := ⟨by decide +kernel, rfl⟩
theorem dX11_at_32 : q_at cX11_at 32 (.invokevirtual 360) 3 35 := ⟨by decide +kernel, rfl⟩
theorem dX11_at_35 : q_at cX11_at 35 (.pop) 1 36 := ⟨by decide +kernel, rfl⟩
theorem dX11_at_36 : q_at cX11_at 36 (.aload_n 0) 1 37 := ⟨by decide +kernel, rfl⟩
theorem dX11_at_37 : q_at cX11_at 37 (.getfield 10) 3 40 := ⟨by decide +kernel, rfl⟩
theorem dX11_at_40 : q_at cX11_at 40 (.getfield 354) 3 43 := ⟨by decide +kernel, rfl⟩
theorem dX11_at_43 : q_at cX11_at 43 (.getfield 363) 3 46 := ⟨by decide +kernel, rfl⟩
theorem dX11_at_46 : q_at cX11_at 46 (.iload_n 2) 1 47 := ⟨by decide +kernel, rfl⟩
theorem dX11_at_47 : q_at cX11_at 47 (.invokestatic 80) 3 50 := ⟨by decide +kernel, rfl⟩
theorem dX11_at_50 : q_at cX11_at 50 (.ireturn) 1 51 := ⟨by decide +kernel, rfl⟩
theorem dX11_orderChecked_0 : q_at cX11_orderChecked 0 (.iload_n 2) 1 1 := ⟨by decide +kernel, rfl⟩
theorem dX11_orderChecked_1 : q_at cX11_orderChecked 1 (.iload_n 3) 1 2 := ⟨by decide +kernel, rfl⟩
theorem dX11_orderChecked_2 : q_at cX11_orderChecked 2 (.invokestatic 385) 3 5 := ⟨by decide +kernel, rfl⟩
theorem dX11_orderChecked_5 : q_at cX11_orderChecked 5 (.ifCond .ne 6) 3 8 := ⟨by decide +kernel, rfl⟩
theorem dX11_orderChecked_8 : q_at cX11_orderChecked 8 (.ldc 57) 2 10 := ⟨by decide +kernel, rfl⟩
theorem dX11_orderChecked_10 : q_at cX11_orderChecked 10 (.ireturn) 1 11 := ⟨by decide +kernel, rfl⟩
theorem dX11_orderChecked_11 : q_at cX11_orderChecked 11 (.aload_n 0) 1 12 := ⟨by decide +kernel, rfl⟩
theorem dX11_orderChecked_12 : q_at cX11_orderChecked 12 (.getfield 10) 3 15 := ⟨by decide +kernel, rfl⟩
theorem dX11_orderChecked_15 : q_at cX11_orderChecked 15 (.getfield 378) 3 18 := ⟨by decide +kernel, rfl⟩
theorem dX11_orderChecked_18 : q_at cX11_orderChecked 18 (.iload_n 2) 1 19 := ⟨by decide +kernel, rfl⟩
theorem dX11_orderChecked_19 : q_at cX11_orderChecked 19 (.iload_n 3) 1 20 := ⟨by decide +kernel, rfl⟩
theorem dX11_orderChecked_20 : q_at cX11_orderChecked 20 (.sipush 20000) 3 23 := ⟨by decide +kernel, rfl⟩
theorem dX11_orderChecked_23 : q_at cX11_orderChecked 23 (.invokevirtual 388) 3 26 := ⟨by decide +kernel, rfl⟩
theorem dX11_orderChecked_26 : q_at cX11_orderChecked 26 (.istore 4) 2 28 := ⟨by decide +kernel, rfl⟩
theorem dX11_orderChecked_28 : q_at cX11_orderChecked 28 (.iload 4) 2 30 := ⟨by decide +kernel, rfl⟩
theorem dX11_orderChecked_30 : q_at cX11_orderChecked 30 (.ifCond .ge 6) 3 33 := ⟨by decide +kernel, rfl⟩
theorem dX11_orderChecked_33 : q_at cX11_orderChecked 33 (.iload 4) 2 35 := ⟨by decide +kernel, rfl⟩
theorem dX11_orderChecked_35 : q_at cX11_orderChecked 35 (.ireturn) 1 36 := ⟨by decide +kernel, rfl⟩
theorem dX11_orderChecked_36 : q_at cX11_orderChecked 36 (.iconst 0) 1 37 := ⟨by decide +kernel, rfl⟩
theorem dX11_orderChecked_37 : q_at cX11_orderChecked 37 (.istore 5) 2 39 := ⟨by decide +kernel, rfl⟩
theorem dX11_orderChecked_39 : q_at cX11_orderChecked 39 (.iload 5) 2 41 := ⟨by decide +kernel, rfl⟩
theorem dX11_orderChecked_41 : q_at cX11_orderChecked 41 (.aload_n 0) 1 42 := ⟨by decide +kernel, rfl⟩
theorem dX11_orderChecked_42 : q_at cX11_orderChecked 42 (.getfield 10) 3 45 := ⟨by decide +kernel, rfl⟩
theorem dX11_orderChecked_45 : q_at cX11_orderChecked 45 (.getfield 378) 3 48 := ⟨by decide +kernel, rfl⟩
theorem dX11_orderChecked_48 : q_at cX11_orderChecked 48 (.getfield 391) 3 51 := ⟨by decide +kernel, rfl⟩
theorem dX11_orderChecked_51 : q_at cX11_orderChecked 51 (.if_icmp .ge 55) 3 54 := ⟨by decide +kernel, rfl⟩
theorem dX11_orderChecked_54 : q_at cX11_orderChecked 54 (.aload_n 0) 1 55 := ⟨by decide +kernel, rfl⟩
theorem dX11_orderChecked_55 : q_at cX11_orderChecked 55 (.getfield 40) 3 58 := ⟨by decide +kernel, rfl⟩
theorem dX11_orderChecked_58 : q_at cX11_orderChecked 58 (.iconst 2) 1 59 := ⟨by decide +kernel, rfl⟩
theorem dX11_orderChecked_59 : q_at cX11_orderChecked 59 (.iload 5) 2 61 := ⟨by decide +kernel, rfl⟩
theorem dX11_orderChecked_61 : q_at cX11_orderChecked 61 (.imul) 1 62 := ⟨by decide +kernel, rfl⟩
theorem dX11_orderChecked_62 : q_at cX11_orderChecked 62 (.aload_n 0) 1 63 := ⟨by decide +kernel, rfl⟩
theorem dX11_orderChecked_63 : q_at cX11_orderChecked 63 (.getfield 10) 3 66 := ⟨by decide +kernel, rfl⟩
theorem dX11_orderChecked_66 : q_at cX11_orderChecked 66 (.getfield 378) 3 69 := ⟨by decide +kernel, rfl⟩
theorem dX11_orderChecked_69 : q_at cX11_orderChecked 69 (.getfield 392) 3 72 := ⟨by decide +kernel, rfl⟩
theorem dX11_orderChecked_72 : q_at cX11_orderChecked 72 (.iload 5) 2 74 := ⟨by decide +kernel, rfl⟩
theorem dX11_orderChecked_74 : q_at cX11_orderChecked 74 (.iaload) 1 75 := ⟨by decide +kernel, rfl⟩
theorem dX11_orderChecked_75 : q_at cX11_orderChecked 75 (.iastore) 1 76 := ⟨by decide +kernel, rfl⟩
theorem dX11_orderChecked_76 : q_at cX11_orderChecked 76 (.aload_n 0) 1 77 := ⟨by decide +kernel, rfl⟩
theorem dX11_orderChecked_77 : q_at cX11_orderChecked 77 (.getfield 40) 3 80 := ⟨by decide +kernel, rfl⟩
theorem dX11_orderChecked_80 : q_at cX11_orderChecked 80 (.iconst 2) 1 81 := ⟨by decide +kernel, rfl⟩
theorem dX11_orderChecked_81 : q_at cX11_orderChecked 81 (.iload 5) 2 83 := ⟨by decide +kernel, rfl⟩
theorem dX11_orderChecked_83 : q_at cX11_orderChecked 83 (.imul) 1 84 := ⟨by decide +kernel, rfl⟩
theorem dX11_orderChecked_84 : q_at cX11_orderChecked 84 (.iconst 1) 1 85 := ⟨by decide +kernel, rfl⟩
theorem dX11_orderChecked_85 : q_at cX11_orderChecked 85 (.iadd) 1 86 := ⟨by decide +kernel, rfl⟩
theorem dX11_orderChecked_86 : q_at cX11_orderChecked 86 (.aload_n 0) 1 87 := ⟨by decide +kernel, rfl⟩
theorem dX11_orderChecked_87 : q_at cX11_orderChecked 87 (.getfield 10) 3 90 := ⟨by decide +kernel, rfl⟩
theorem dX11_orderChecked_90 : q_at cX11_orderChecked 90 (.getfield 378) 3 93 := ⟨by decide +kernel, rfl⟩
theorem dX11_orderChecked_93 : q_at cX11_orderChecked 93 (.getfield 401) 3 96 := ⟨by decide +kernel, rfl⟩
theorem dX11_orderChecked_96 : q_at cX11_orderChecked 96 (.iload 5) 2 98 := ⟨by decide +kernel, rfl⟩
theorem dX11_orderChecked_98 : q_at cX11_orderChecked 98 (.iaload) 1 99 := ⟨by decide +kernel, rfl⟩
theorem dX11_orderChecked_99 : q_at cX11_orderChecked 99 (.iastore) 1 100 := ⟨by decide +kernel, rfl⟩
theorem dX11_orderChecked_100 : q_at cX11_orderChecked 100 (.iinc 5 1) 3 103 := ⟨by decide +kernel, rfl⟩
theorem dX11_orderChecked_103 : q_at cX11_orderChecked 103 (.goto (-64)) 3 106 := ⟨by decide +kernel, rfl⟩
theorem dX11_orderChecked_106 : q_at cX11_orderChecked 106 (.aload_n 0) 1 107 := ⟨by decide +kernel, rfl⟩
theorem dX11_orderChecked_107 : q_at cX11_orderChecked 107 (.iload_n 1) 1 108 := ⟨by decide +kernel, rfl⟩
theorem dX11_orderChecked_108 : q_at cX11_orderChecked 108 (.iconst 2) 1 109 := ⟨by decide +kernel, rfl⟩
theorem dX11_orderChecked_109 : q_at cX11_orderChecked 109 (.aload_n 0) 1 110 := ⟨by decide +kernel, rfl⟩
theorem dX11_orderChecked_110 : q_at cX11_orderChecked 110 (.getfield 10) 3 113 := ⟨by decide +kernel, rfl⟩
theorem dX11_orderChecked_113 : q_at cX11_orderChecked 113 (.getfield 378) 3 116 := ⟨by decide +kernel, rfl⟩
theorem dX11_orderChecked_116 : q_at cX11_orderChecked 116 (.getfield 391) 3 119 := ⟨by decide +kernel, rfl⟩
theorem dX11_orderChecked_119 : q_at cX11_orderChecked 119 (.imul) 1 120 := ⟨by decide +kernel, rfl⟩
theorem dX11_orderChecked_120 : q_at cX11_orderChecked 120 (.invokevirtual 404) 3 123 := ⟨by decide +kernel, rfl⟩
theorem dX11_orderChecked_123 : q_at cX11_orderChecked 123 (.ireturn) 1 124 := ⟨by decide +kernel, rfl⟩
theorem dX11_plan_0 : q_at cX11_plan 0 (.iload_n 1) 1 1 := ⟨by decide +kernel, rfl⟩
theorem dX11_plan_1 : q_at cX11_plan 1 (.iload_n 2) 1 2 := ⟨by decide +kernel, rfl⟩
theorem dX11_plan_2 : q_at cX11_plan 2 (.invokestatic 385) 3 5 := ⟨by decide +kernel, rfl⟩
theorem dX11_plan_5 : q_at cX11_plan 5 (.ifCond .eq 14) 3 8 := ⟨by decide +kernel, rfl⟩
theorem dX11_plan_8 : q_at cX11_plan 8 (.iload_n 3) 1 9 := ⟨by decide +kernel, rfl⟩
theorem dX11_plan_9 : q_at cX11_plan 9 (.iconst 1) 1 10 := ⟨by decide +kernel, rfl⟩
theorem dX11_plan_10 : q_at cX11_plan 10 (.sipush 20000) 3 13 := ⟨by decide +kernel, rfl⟩
theorem dX11_plan_13 : q_at cX11_plan 13 (.invokestatic 53) 3 16 := ⟨by decide +kernel, rfl⟩
theorem dX11_plan_16 : q_at cX11_plan 16 (.ifCond .ne 6) 3 19 := ⟨by decide +kernel, rfl⟩
theorem dX11_plan_19 : q_at cX11_plan 19 (.ldc 57) 2 21 := ⟨by decide +kernel, rfl⟩
theorem dX11_plan_21 : q_at cX11_plan 21 (.ireturn) 1 22 := ⟨by decide +kernel, rfl⟩
theorem dX11_plan_22 : q_at cX11_plan 22 (.aload_n 0) 1 23 := ⟨by decide +kernel, rfl⟩
theorem dX11_plan_23 : q_at cX11_plan 23 (.getfield 10) 3 26 := ⟨by decide +kernel, rfl⟩
theorem dX11_plan_26 : q_at cX11_plan 26 (.getfield 378) 3 29 := ⟨by decide +kernel, rfl⟩
theorem dX11_plan_29 : q_at cX11_plan 29 (.iload_n 1) 1 30 := ⟨by decide +kernel, rfl⟩
theorem dX11_plan_30 : q_at cX11_plan 30 (.iload_n 2) 1 31 := ⟨by decide +kernel, rfl⟩
theorem dX11_plan_31 : q_at cX11_plan 31 (.iload_n 3) 1 32 := ⟨by decide +kernel, rfl⟩
theorem dX11_plan_32 : q_at cX11_plan 32 (.invokevirtual 388) 3 35 := ⟨by decide +kernel, rfl⟩
theorem dX11_plan_35 : q_at cX11_plan 35 (.ireturn) 1 36 := ⟨by decide +kernel, rfl⟩
theorem dX11_planned_0 : q_at cX11_planned 0 (.iload_n 1) 1 1 := ⟨by decide +kernel, rfl⟩
theorem dX11_planned_1 : q_at cX11_planned 1 (.iload_n 2) 1 2 := ⟨by decide +kernel, rfl⟩
theorem dX11_planned_2 : q_at cX11_planned 2 (.invokestatic 385) 3 5 := ⟨by decide +kernel, rfl⟩
theorem dX11_planned_5 : q_at cX11_planned 5 (.ifCond .eq 7) 3 8 := ⟨by decide +kernel, rfl⟩
theorem dX11_planned_8 : q_at cX11_planned 8 (.iload_n 3) 1 9 := ⟨by decide +kernel, rfl⟩
theorem dX11_planned_9 : q_at cX11_planned 9 (.ifCond .ge 6) 3 12 := ⟨by decide +kernel, rfl⟩
theorem dX11_planned_12 : q_at cX11_planned 12 (.ldc 57) 2 14 := ⟨by decide +kernel, rfl⟩
theorem dX11_planned_14 : q_at cX11_planned 14 (.ireturn) 1 15 := ⟨by decide +kernel, rfl⟩
theorem dX11_planned_15 : q_at cX11_planned 15 (.aload_n 0) 1 16 := ⟨by decide +kernel, rfl⟩
theorem dX11_planned_16 : q_at cX11_planned 16 (.getfield 10) 3 19 := ⟨by decide +kernel, rfl⟩
theorem dX11_planned_19 : q_at cX11_planned 19 (.getfield 378) 3 22 := ⟨by decide +kernel, rfl⟩
theorem dX11_planned_22 : q_at cX11_planned 22 (.iload_n 1) 1 23 := ⟨by decide +kernel, rfl⟩
theorem dX11_planned_23 : q_at cX11_planned 23 (.iload_n 2) 1 24 := ⟨by decide +kernel, rfl⟩
theorem dX11_planned_24 : q_at cX11_planned 24 (.sipush 20000) 3 27 := ⟨by decide +kernel, rfl⟩
theorem dX11_planned_27 : q_at cX11_planned 27 (.invokevirtual 388) 3 30 := ⟨by decide +kernel, rfl⟩
theorem dX11_planned_30 : q_at cX11_planned 30 (.istore 4) 2 32 := ⟨by decide +kernel, rfl⟩
theorem dX11_planned_32 : q_at cX11_planned 32 (.iload 4) 2 34 := ⟨by decide +kernel, rfl⟩
theorem dX11_planned_34 : q_at cX11_planned 34 (.ifCond .ge 6) 3 37 := ⟨by decide +kernel, rfl⟩
theorem dX11_planned_37 : q_at cX11_planned 37 (.iload 4) 2 39 := ⟨by decide +kernel, rfl⟩
theorem dX11_planned_39 : q_at cX11_planned 39 (.ireturn) 1 40 := ⟨by decide +kernel, rfl⟩
theorem dX11_planned_40 : q_at cX11_planned 40 (.iload_n 3) 1 41 := ⟨by decide +kernel, rfl⟩
theorem dX11_planned_41 : q_at cX11_planned 41 (.aload_n 0) 1 42 := ⟨by decide +kernel, rfl⟩
theorem dX11_planned_42 : q_at cX11_planned 42 (.getfield 10) 3 45 := ⟨by decide +kernel, rfl⟩
theorem dX11_planned_45 : q_at cX11_planned 45 (.getfield 378) 3 48 := ⟨by decide +kernel, rfl⟩
theorem dX11_planned_48 : q_at cX11_planned 48 (.getfield 391) 3 51 := ⟨by decide +kernel, rfl⟩
theorem dX11_planned_51 : q_at cX11_planned 51 (.if_icmp .ge 20) 3 54 := ⟨by decide +kernel, rfl⟩
theorem dX11_planned_54 : q_at cX11_planned 54 (.aload_n 0) 1 55 := ⟨by decide +kernel, rfl⟩
theorem dX11_planned_55 : q_at cX11_planned 55 (.getfield 10) 3 58 := ⟨by decide +kernel, rfl⟩
theorem dX11_planned_58 : q_at cX11_planned 58 (.getfield 378) 3 61 := ⟨by decide +kernel, rfl⟩
theorem dX11_planned_61 : q_at cX11_planned 61 (.getfield 392) 3 64 := ⟨by decide +kernel, rfl⟩
theorem dX11_planned_64 : q_at cX11_planned 64 (.iload_n 3) 1 65 := ⟨by decide +kernel, rfl⟩
theorem dX11_planned_65 : q_at cX11_planned 65 (.invokestatic 80) 3 68 := ⟨by decide +kernel, rfl⟩
theorem dX11_planned_68 : q_at cX11_planned 68 (.goto 5) 3 71 := ⟨by decide +kernel, rfl⟩
theorem dX11_planned_71 : q_at cX11_planned 71 (.ldc 130) 2 73 := ⟨by decide +kernel, rfl⟩
theorem dX11_planned_73 : q_at cX11_planned 73 (.ireturn) 1 74 := ⟨by decide +kernel, rfl⟩
theorem dX11_seen_0 : q_at cX11_seen 0 (.iload_n 1) 1 1 := ⟨by decide +kernel, rfl⟩
theorem dX11_seen_1 : q_at cX11_seen 1 (.iconst 1) 1 2 := ⟨by decide +kernel, rfl⟩
theorem dX11_seen_2 : q_at cX11_seen 2 (.bipush 7) 2 4 := ⟨by decide +kernel, rfl⟩
theorem dX11_seen_4 : q_at cX11_seen 4 (.invokestatic 53) 3 7 := ⟨by decide +kernel, rfl⟩
theorem dX11_seen_7 : q_at cX11_seen 7 (.ifCond .eq 17) 3 10 := ⟨by decide +kernel, rfl⟩
theorem dX11_seen_10 : q_at cX11_seen 10 (.aload_n 0) 1 11 := ⟨by decide +kernel, rfl⟩
theorem dX11_seen_11 : q_at cX11_seen 11 (.getfield 10) 3 14 := ⟨by decide +kernel, rfl⟩
theorem dX11_seen_14 : q_at cX11_seen 14 (.getfield 354) 3 17 := ⟨by decide +kernel, rfl⟩
theorem dX11_seen_17 : q_at cX11_seen 17 (.iload_n 1) 1 18 := ⟨by decide +kernel, rfl⟩
theorem dX11_seen_18 : q_at cX11_seen 18 (.invokevirtual 360) 3 21 := ⟨by decide +kernel, rfl⟩
theorem dX11_seen_21 : q_at cX11_seen 21 (.goto 5) 3 24 := ⟨by decide +kernel, rfl⟩
theorem dX11_seen_24 : q_at cX11_seen 24 (.ldc 57) 2 26 := ⟨by decide +kernel, rfl⟩
theorem dX11_seen_26 : q_at cX11_seen 26 (.ireturn) 1 27 := ⟨by decide +kernel, rfl⟩
def b_X11_firstWrong_2 (this : Nat) (x1 : Int32) (x2 : Int32) (I : qI) (k2 : Int32 → Option (Int32)) (x3 : Int32) : Option (Int32) :=
  if x2 ≤ x3 then
    if x1 ≤ x2 then
      some ((nI 0))
    else
      some (((nI 1) + x2))
  else
    if x1 ≤ x3 then
      some (((nI 1) + x3))
    else
      q_b1 (q_rd I (this + 203) 60 x3) fun v5 =>
      q_b1 (q_rd I (this + 204) 60 x3) fun v8 =>
      if v5 = v8 then
        k2 (x3 + (nI 1))
      else
        some (((nI 1) + x3))
set_option maxRecDepth 100000 in
set_option maxHeartbeats 4000000 in
theorem p_X11_firstWrong_2 {l : Launch} {Γ : qC} {g : qG} {z : Int32} {this : Nat} {x1 : Int32} {x2 : Int32} {X : qX} {I : qI} (hΓ : q_gm Γ) (hg : q_Ok l Γ RX11 cX11_firstWrong 4 (q_rm 2 0 0) "firstWrong" (some .int) g) (hr : q_Rt cX11_firstWrong (some .int) (q_rm 2 0 0) (some (.int z), I, X) g) (hX : q_Lay X) (k_this : q_kd X this = some (13, 9)) {k2 : Int32 → Option (Int32)} (hk2 : ∀ (x3 : Int32), k2 x3 = some z → g 0 0 2 [(0, .ref this), (1, .int x1), (2, .int x2), (3, .int x3)] [] I X) (x3 : Int32) (h : b_X11_firstWrong_2 this x1 x2 I k2 x3 = some z) : g 0 0 2 [(0, .ref this), (1, .int x1), (2, .int x2), (3, .int x3)] [] I X := by
  unfold b_X11_firstWrong_2 at h
  refine r_iload_n hg 3 dX11_firstWrong_2 rfl rfl ?_
  refine r_iload_n hg 2 dX11_firstWrong_3 rfl rfl ?_
  refine r_icmp_ge hg 37 dX11_firstWrong_4 (by decide) (fun c1 => ?_) (fun c1 => ?_)
  · rw [if_pos c1] at h
    refine r_iload_n hg 1 dX11_firstWrong_37 rfl rfl ?_
    refine r_iload_n hg 2 dX11_firstWrong_38 rfl rfl ?_
    refine r_icmp_le hg 48 dX11_firstWrong_39 (by decide) (fun c2 => ?_) (fun c2 => ?_)
    · rw [if_pos c2] at h
      refine r_iconst hg dX11_firstWrong_48 ci_0 ?_
      exact r_ireturn hr dX11_firstWrong_49 ⟨Nat.zero_le _, Nat.zero_le _⟩ ⟨_, rfl, rfl⟩ (by cases h; rfl)
    · rw [if_neg c2] at h
      refine r_iconst hg dX11_firstWrong_42 ci_1 ?_
      refine r_iload_n hg 2 dX11_firstWrong_43 rfl rfl ?_
      refine r_iadd hg dX11_firstWrong_44 ?_
      refine r_goto hg 49 dX11_firstWrong_45 (by decide) ?_
      exact r_ireturn hr dX11_firstWrong_49 ⟨Nat.zero_le _, Nat.zero_le _⟩ ⟨_, rfl, rfl⟩ (by cases h; rfl)
  · rw [if_neg c1] at h
    refine r_iload_n hg 3 dX11_firstWrong_7 rfl rfl ?_
    refine r_iload_n hg 1 dX11_firstWrong_8 rfl rfl ?_
    refine r_icmp_ge hg 27 dX11_firstWrong_9 (by decide) (fun c3 => ?_) (fun c3 => ?_)
    · rw [if_pos c3] at h
      refine r_iconst hg dX11_firstWrong_27 ci_1 ?_
      refine r_iload_n hg 3 dX11_firstWrong_28 rfl rfl ?_
      refine r_iadd hg dX11_firstWrong_29 ?_
      exact r_ireturn hr dX11_firstWrong_30 ⟨Nat.zero_le _, Nat.zero_le _⟩ ⟨_, rfl, rfl⟩ (by cases h; rfl)
    · rw [if_neg c3] at h
      refine r_aload_n hg 0 dX11_firstWrong_12 rfl rfl ?_
      have e4 := ly_11_5 hX k_this
      refine r_getR hg dX11_firstWrong_13 fl_X11_36 k_this rfl e4.1 ?_
      refine r_iload_n hg 3 dX11_firstWrong_16 rfl rfl ?_
      obtain ⟨v5, e6, h⟩ := q_b1_some h
      refine r_iald hg dX11_firstWrong_17 e4.2 e6 ?_
      refine r_aload_n hg 0 dX11_firstWrong_18 rfl rfl ?_
      have e7 := ly_11_6 hX k_this
      refine r_getR hg dX11_firstWrong_19 fl_X11_40 k_this rfl e7.1 ?_
      refine r_iload_n hg 3 dX11_firstWrong_22 rfl rfl ?_
      obtain ⟨v8, e9, h⟩ := q_b1_some h
      refine r_iald hg dX11_firstWrong_23 e7.2 e9 ?_
      refine r_icmp_eq hg 31 dX11_firstWrong_24 (by decide) (fun c10 => ?_) (fun c10 => ?_)
      · rw [if_pos c10] at h
        refine r_iinc hg 3 (v := (x3 + (nI 1))) (L' := [(3, .int (x3 + (nI 1))), (0, .ref this), (1, .int x1), (2, .int x2)]) dX11_firstWrong_31 rfl (by rw [ci_1]) (by decide) rfl ?_
        refine r_goto hg 2 dX11_firstWrong_34 (by decide) ?_
        refine r_sub hg [1, 2, 3, 0] rfl ?_
        exact hk2 _ h
      · rw [if_neg c10] at h
        refine r_iconst hg dX11_firstWrong_27 ci_1 ?_
        refine r_iload_n hg 3 dX11_firstWrong_28 rfl rfl ?_
        refine r_iadd hg dX11_firstWrong_29 ?_
        exact r_ireturn hr dX11_firstWrong_30 ⟨Nat.zero_le _, Nat.zero_le _⟩ ⟨_, rfl, rfl⟩ (by cases h; rfl)
theorem pl_X11_firstWrong_2 {l : Launch} {Γ : qC} {g : qG} {z : Int32} {this : Nat} {x1 : Int32} {x2 : Int32} {X : qX} {I : qI} (hΓ : q_gm Γ) (hg : q_Ok l Γ RX11 cX11_firstWrong 4 (q_rm 2 0 0) "firstWrong" (some .int) g) (hr : q_Rt cX11_firstWrong (some .int) (q_rm 2 0 0) (some (.int z), I, X) g) (hX : q_Lay X) (k_this : q_kd X this = some (13, 9)) : ∀ (n : Nat) (x3 : Int32), q_fix (fun _ => none) (b_X11_firstWrong_2 this x1 x2 I) n x3 = some z → g 0 0 2 [(0, .ref this), (1, .int x1), (2, .int x2), (3, .int x3)] [] I X := by
  intro n
  induction n with
  | zero =>
    intro x3 h
    cases (show (none : Option (Int32)) = some z from h)
  | succ n ih =>
    intro x3 h
    exact p_X11_firstWrong_2 hΓ hg hr hX k_this ih _ h
def f_X11_firstWrong (this : Nat) (x1 : Int32) (x2 : Int32) (I : qI) : Option (Int32) :=
  q_fix (fun _ => none) (b_X11_firstWrong_2 this x1 x2 I) q_fu (nI 0)
set_option maxRecDepth 100000 in
set_option maxHeartbeats 4000000 in
theorem s_X11_firstWrong {l : Launch} {Γ : qC} (hΓ : q_gm Γ) {X : qX} (hX : q_Lay X) {this : Nat} {x1 : Int32} {x2 : Int32} (k_this : q_kd X this = some (13, 9)) {I : qI} {z : Int32} (h : f_X11_firstWrong this x1 x2 I = some z) : q_Sem l Γ (q_rm 2 0 0) yX11_firstWrong cX11_firstWrong 4 (some .int) [.ref this, .int x1, .int x2] I X (some (.int z), I, X) := by
  refine q_met (by decide) (Nat.le_of_ble_eq_true rfl) (fun g hg hr => ?_)
  unfold f_X11_firstWrong at h
  show g 0 0 0 [(0, .ref this), (1, .int x1), (2, .int x2)] [] I X
  refine r_iconst hg dX11_firstWrong_0 ci_0 ?_
  refine r_istore_n hg (L' := [(3, .int (nI 0)), (0, .ref this), (1, .int x1), (2, .int x2)]) dX11_firstWrong_1 rfl (by decide) rfl ?_
  refine r_sub hg [1, 2, 3, 0] rfl ?_
  exact pl_X11_firstWrong_2 hΓ hg hr hX k_this _ _ h

def f_X11_tell (this : Nat) (x1 : Int32) (I : qI) : Option (Int32 × qI) :=
  if (I this 7) < (nI 60) then
    q_b1 (q_wr I (this + 203) 60 (I this 7) x1) fun I3 =>
    q_b1 (some (q_up I3 this 7 ((I3 this 7) + (nI 1)))) fun I5 =>
    some ((I5 this 7), I5)
  else
    some ((-1000000003), I)
set_option maxRecDepth 100000 in
set_option maxHeartbeats 4000000 in
theorem s_X11_tell {l : Launch} {Γ : qC} (hΓ : q_gm Γ) {X : qX} (hX : q_Lay X) {this : Nat} {x1 : Int32} (k_this : q_kd X this = some (13, 9)) {I : qI} {z : Int32 × qI} (h : f_X11_tell this x1 I = some z) : q_Sem l Γ (q_rm 2 0 0) yX11_tell cX11_tell 2 (some .int) [.ref this, .int x1] I X (some (.int z.1), z.2, X) := by
  refine q_met (by decide) (Nat.le_of_ble_eq_true rfl) (fun g hg hr => ?_)
  unfold f_X11_tell at h
  show g 0 0 0 [(0, .ref this), (1, .int x1)] [] I X
  refine r_aload_n hg 0 dX11_tell_0 rfl rfl ?_
  refine r_getI hg dX11_tell_1 fl_X11_43 k_this rfl ?_
  refine r_bipush hg dX11_tell_4 cb_60 ?_
  refine r_icmp_lt hg 12 dX11_tell_6 (by decide) (fun c1 => ?_) (fun c1 => ?_)
  · rw [if_pos c1] at h
    refine r_aload_n hg 0 dX11_tell_12 rfl rfl ?_
    have e2 := ly_11_5 hX k_this
    refine r_getR hg dX11_tell_13 fl_X11_36 k_this rfl e2.1 ?_
    refine r_aload_n hg 0 dX11_tell_16 rfl rfl ?_
    refine r_getI hg dX11_tell_17 fl_X11_43 k_this rfl ?_
    refine r_iload_n hg 1 dX11_tell_20 rfl rfl ?_
    obtain ⟨I3, e4, h⟩ := q_b1_some h
    refine r_iast hg dX11_tell_21 e2.2 e4 ?_
    refine r_aload_n hg 0 dX11_tell_22 rfl rfl ?_
    refine r_dup hg dX11_tell_23 rfl ?_
    refine r_getI hg dX11_tell_24 fl_X11_43 k_this rfl ?_
    refine r_iconst hg dX11_tell_27 ci_1 ?_
    refine r_iadd hg dX11_tell_28 ?_
    obtain ⟨I5, e6, h⟩ := q_b1_some h
    obtain rfl := Option.some.inj e6
    refine r_putI hg dX11_tell_29 fl_X11_43 k_this rfl ⟨rfl, rfl⟩ ?_
    refine r_aload_n hg 0 dX11_tell_32 rfl rfl ?_
    refine r_getI hg dX11_tell_33 fl_X11_43 k_this rfl ?_
    exact r_ireturn hr dX11_tell_36 ⟨Nat.zero_le _, Nat.zero_le _⟩ ⟨_, rfl, rfl⟩ (by cases h; rfl)
  · rw [if_neg c1] at h
    refine r_ldc hg dX11_tell_9 kc_X11_114 ?_
    exact r_ireturn hr dX11_tell_11 ⟨Nat.zero_le _, Nat.zero_le _⟩ ⟨_, rfl, rfl⟩ (by cases h; rfl)

def f_X11_within (x0 : Int32) (x1 : Int32) (x2 : Int32) : Option (Int32) :=
  if x0 < x1 then
    some ((nI 0))
  else
    if x2 < x0 then
      some ((nI 0))
    else
      some ((nI 1))
set_option maxRecDepth 100000 in
set_option maxHeartbeats 4000000 in
theorem s_X11_within {l : Launch} {Γ : qC} (hΓ : q_gm Γ) {X : qX} (hX : q_Lay X) {x0 : Int32} {x1 : Int32} {x2 : Int32} {I : qI} {z : Int32} (h : f_X11_within x0 x1 x2 = some z) : q_Sem l Γ (q_rm 2 0 0) yX11_within cX11_within 3 (some .boolean) [.int x0, .int x1, .int x2] I X (some (.int z), I, X) := by
  refine q_met (by decide) (Nat.le_of_ble_eq_true rfl) (fun g hg hr => ?_)
  unfold f_X11_within at h
  show g 0 0 0 [(0, .int x0), (1, .int x1), (2, .int x2)] [] I X
  refine r_iload_n hg 0 dX11_within_0 rfl rfl ?_
  refine r_iload_n hg 1 dX11_within_1 rfl rfl ?_
  refine r_icmp_lt hg 14 dX11_within_2 (by decide) (fun c1 => ?_) (fun c1 => ?_)
  · rw [if_pos c1] at h
    refine r_iconst hg dX11_within_14 ci_0 ?_
    exact r_ireturn hr dX11_within_15 ⟨Nat.zero_le _, Nat.zero_le _⟩ ⟨_, rfl, bz_0.1⟩ (by cases h; rfl)
  · rw [if_neg c1] at h
    refine r_iload_n hg 0 dX11_within_5 rfl rfl ?_
    refine r_iload_n hg 2 dX11_within_6 rfl rfl ?_
    refine r_icmp_gt hg 14 dX11_within_7 (by decide) (fun c2 => ?_) (fun c2 => ?_)
    · rw [if_pos c2] at h
      refine r_iconst hg dX11_within_14 ci_0 ?_
      exact r_ireturn hr dX11_within_15 ⟨Nat.zero_le _, Nat.zero_le _⟩ ⟨_, rfl, bz_0.1⟩ (by cases h; rfl)
    · rw [if_neg c2] at h
      refine r_iconst hg dX11_within_10 ci_1 ?_
      refine r_goto hg 15 dX11_within_11 (by decide) ?_
      exact r_ireturn hr dX11_within_15 ⟨Nat.zero_le _, Nat.zero_le _⟩ ⟨_, rfl, bz_1.1⟩ (by cases h; rfl)

def f_X11_as (this : Nat) (x1 : Int32) (x2 : Int32) (I : qI) : Option (Int32) :=
  q_b1 (f_X1_has (this + 28) x1 I) fun v3 =>
  if v3 = 0 then
    some ((-1000000001))
  else
    q_b1 (f_X11_within x2 (nI 0) (nI 6)) fun v6 =>
    if v6 = 0 then
      some ((-1000000001))
    else
      q_b1 (q_rd I (this + 29) 60 x1) fun v12 =>
      q_b1 (f_X1_isUnder v12 x2 I) fun v14 =>
      if v14 = 0 then
        some ((-1000000012))
      else
        q_b1 (q_rd I (this + 31) 60 x1) fun v20 =>
        some (v20)
set_option maxRecDepth 100000 in
set_option maxHeartbeats 4000000 in
theorem s_X11_as {l : Launch} {Γ : qC} (hΓ : q_gm Γ) {X : qX} (hX : q_Lay X) {this : Nat} {x1 : Int32} {x2 : Int32} (k_this : q_kd X this = some (13, 9)) {I : qI} {z : Int32} (h : f_X11_as this x1 x2 I = some z) : q_Sem l Γ (q_rm 3 0 0) yX11_as cX11_as 3 (some .int) [.ref this, .int x1, .int x2] I X (some (.int z), I, X) := by
  refine q_met (by decide) (Nat.le_of_ble_eq_true rfl) (fun g hg hr => ?_)
  unfold f_X11_as at h
  show g 0 0 0 [(0, .ref this), (1, .int x1), (2, .int x2)] [] I X
  refine r_aload_n hg 0 dX11_as_0 rfl rfl ?_
  have e1 := ly_11_0 hX k_this
  refine r_getR hg dX11_as_1 fl_X11_10 k_this rfl e1.1 ?_
  have e2 := ly_9_3 hX e1.2
  refine r_getR hg dX11_as_4 fl_X11_107 e1.2 rfl e2.1 ?_
  refine r_iload_n hg 1 dX11_as_7 rfl rfl ?_
  obtain ⟨v3, e4, h⟩ := q_b1_some h
  refine r_cV1i hg dX11_as_8 mt_X1_has ml_X11_175 mv_X1_has e2.2 (s_X1_has hΓ hX e2.2 e4) (q_room (Nat.le_of_ble_eq_true rfl) (Nat.le_of_ble_eq_true rfl)) ⟨Nat.zero_le _, Nat.zero_le _⟩ (Nat.le_of_ble_eq_true rfl) ?_
  refine r_if_eq hg 24 dX11_as_11 (by decide) (fun c5 => ?_) (fun c5 => ?_)
  · rw [if_pos c5] at h
    refine r_ldc hg dX11_as_24 kc_X11_57 ?_
    exact r_ireturn hr dX11_as_26 ⟨Nat.zero_le _, Nat.zero_le _⟩ ⟨_, rfl, rfl⟩ (by cases h; rfl)
  · rw [if_neg c5] at h
    refine r_iload_n hg 2 dX11_as_14 rfl rfl ?_
    refine r_iconst hg dX11_as_15 ci_0 ?_
    refine r_bipush hg dX11_as_16 cb_6 ?_
    obtain ⟨v6, e7, h⟩ := q_b1_some h
    refine r_cS3i hg dX11_as_18 mt_X11_within ⟨ml_X11_53, mst_X11_within⟩ (s_X11_within hΓ hX e7) (q_room (Nat.le_of_ble_eq_true rfl) (Nat.le_of_ble_eq_true rfl)) ⟨Nat.zero_le _, Nat.zero_le _⟩ (Nat.le_of_ble_eq_true rfl) ?_
    refine r_if_ne hg 27 dX11_as_21 (by decide) (fun c8 => ?_) (fun c8 => ?_)
    · rw [if_neg c8] at h
      refine r_aload_n hg 0 dX11_as_27 rfl rfl ?_
      have e9 := ly_11_0 hX k_this
      refine r_getR hg dX11_as_28 fl_X11_10 k_this rfl e9.1 ?_
      have e10 := ly_9_3 hX e9.2
      refine r_getR hg dX11_as_31 fl_X11_107 e9.2 rfl e10.1 ?_
      have e11 := ly_1_0 hX e10.2
      refine r_getR hg dX11_as_34 fl_X11_176 e10.2 rfl e11.1 ?_
      refine r_iload_n hg 1 dX11_as_37 rfl rfl ?_
      obtain ⟨v12, e13, h⟩ := q_b1_some h
      refine r_iald hg dX11_as_38 e11.2 e13 ?_
      refine r_iload_n hg 2 dX11_as_39 rfl rfl ?_
      obtain ⟨v14, e15, h⟩ := q_b1_some h
      refine r_cS2i hg dX11_as_40 mt_X1_isUnder ⟨ml_X11_193, mst_X1_isUnder⟩ (s_X1_isUnder hΓ hX e15) (q_room (Nat.le_of_ble_eq_true rfl) (Nat.le_of_ble_eq_true rfl)) ⟨Nat.zero_le _, Nat.zero_le _⟩ (Nat.le_of_ble_eq_true rfl) ?_
      refine r_if_eq hg 61 dX11_as_43 (by decide) (fun c16 => ?_) (fun c16 => ?_)
      · rw [if_pos c16] at h
        refine r_ldc hg dX11_as_61 kc_X11_179 ?_
        exact r_ireturn hr dX11_as_63 ⟨Nat.zero_le _, Nat.zero_le _⟩ ⟨_, rfl, rfl⟩ (by cases h; rfl)
      · rw [if_neg c16] at h
        refine r_aload_n hg 0 dX11_as_46 rfl rfl ?_
        have e17 := ly_11_0 hX k_this
        refine r_getR hg dX11_as_47 fl_X11_10 k_this rfl e17.1 ?_
        have e18 := ly_9_3 hX e17.2
        refine r_getR hg dX11_as_50 fl_X11_107 e17.2 rfl e18.1 ?_
        have e19 := ly_1_2 hX e18.2
        refine r_getR hg dX11_as_53 fl_X11_183 e18.2 rfl e19.1 ?_
        refine r_iload_n hg 1 dX11_as_56 rfl rfl ?_
        obtain ⟨v20, e21, h⟩ := q_b1_some h
        refine r_iald hg dX11_as_57 e19.2 e21 ?_
        refine r_goto hg 63 dX11_as_58 (by decide) ?_
        exact r_ireturn hr dX11_as_63 ⟨Nat.zero_le _, Nat.zero_le _⟩ ⟨_, rfl, rfl⟩ (by cases h; rfl)
    · rw [if_pos (Classical.not_not.mp c8)] at h
      refine r_ldc hg dX11_as_24 kc_X11_57 ?_
      exact r_ireturn hr dX11_as_26 ⟨Nat.zero_le _, Nat.zero_le _⟩ ⟨_, rfl, rfl⟩ (by cases h; rfl)

def f_X11_bookFinding (this : Nat) (x1 : Int32) (x2 : Int32) (I : qI) : Option (Int32) :=
  q_b1 (f_X11_within x1 (nI 0) (nI 7)) fun v1 =>
  if v1 = 0 then
    some ((-1000000001))
  else
    q_b1 (f_X0_isMissing (this + 199) x1 I) fun v5 =>
    if v5 = 0 then
      q_b1 (f_X0_hasWeek (this + 199) x1 x2 I) fun v9 =>
      if v9 = 0 then
        some ((-1000000013))
      else
        some ((nI 0))
    else
      some ((-1000000011))
set_option maxRecDepth 100000 in
set_option maxHeartbeats 4000000 in
theorem s_X11_bookFinding {l : Launch} {Γ : qC} (hΓ : q_gm Γ) {X : qX} (hX : q_Lay X) {this : Nat} {x1 : Int32} {x2 : Int32} (k_this : q_kd X this = some (13, 9)) {I : qI} {z : Int32} (h : f_X11_bookFinding this x1 x2 I = some z) : q_Sem l Γ (q_rm 3 0 0) yX11_bookFinding cX11_bookFinding 3 (some .int) [.ref this, .int x1, .int x2] I X (some (.int z), I, X) := by
  refine q_met (by decide) (Nat.le_of_ble_eq_true rfl) (fun g hg hr => ?_)
  unfold f_X11_bookFinding at h
  show g 0 0 0 [(0, .ref this), (1, .int x1), (2, .int x2)] [] I X
  refine r_iload_n hg 1 dX11_bookFinding_0 rfl rfl ?_
  refine r_iconst hg dX11_bookFinding_1 ci_0 ?_
  refine r_bipush hg dX11_bookFinding_2 cb_7 ?_
  obtain ⟨v1, e2, h⟩ := q_b1_some h
  refine r_cS3i hg dX11_bookFinding_4 mt_X11_within ⟨ml_X11_53, mst_X11_within⟩ (s_X11_within hΓ hX e2) (q_room (Nat.le_of_ble_eq_true rfl) (Nat.le_of_ble_eq_true rfl)) ⟨Nat.zero_le _, Nat.zero_le _⟩ (Nat.le_of_ble_eq_true rfl) ?_
  refine r_if_ne hg 13 dX11_bookFinding_7 (by decide) (fun c3 => ?_) (fun c3 => ?_)
  · rw [if_neg c3] at h
    refine r_aload_n hg 0 dX11_bookFinding_13 rfl rfl ?_
    have e4 := ly_11_4 hX k_this
    refine r_getR hg dX11_bookFinding_14 fl_X11_32 k_this rfl e4.1 ?_
    refine r_iload_n hg 1 dX11_bookFinding_17 rfl rfl ?_
    obtain ⟨v5, e6, h⟩ := q_b1_some h
    refine r_cV1i hg dX11_bookFinding_18 mt_X0_isMissing ml_X11_303 mv_X0_isMissing e4.2 (s_X0_isMissing hΓ hX e4.2 e6) (q_room (Nat.le_of_ble_eq_true rfl) (Nat.le_of_ble_eq_true rfl)) ⟨Nat.zero_le _, Nat.zero_le _⟩ (Nat.le_of_ble_eq_true rfl) ?_
    refine r_if_eq hg 28 dX11_bookFinding_21 (by decide) (fun c7 => ?_) (fun c7 => ?_)
    · rw [if_pos c7] at h
      refine r_aload_n hg 0 dX11_bookFinding_28 rfl rfl ?_
      have e8 := ly_11_4 hX k_this
      refine r_getR hg dX11_bookFinding_29 fl_X11_32 k_this rfl e8.1 ?_
      refine r_iload_n hg 1 dX11_bookFinding_32 rfl rfl ?_
      refine r_iload_n hg 2 dX11_bookFinding_33 rfl rfl ?_
      obtain ⟨v9, e10, h⟩ := q_b1_some h
      refine r_cV2i hg dX11_bookFinding_34 mt_X0_hasWeek ml_X11_307 mv_X0_hasWeek e8.2 (s_X0_hasWeek hΓ hX e8.2 e10) (q_room (Nat.le_of_ble_eq_true rfl) (Nat.le_of_ble_eq_true rfl)) ⟨Nat.zero_le _, Nat.zero_le _⟩ (Nat.le_of_ble_eq_true rfl) ?_
      refine r_if_eq hg 44 dX11_bookFinding_37 (by decide) (fun c11 => ?_) (fun c11 => ?_)
      · rw [if_pos c11] at h
        refine r_ldcw hg dX11_bookFinding_44 kc_X11_310 ?_
        exact r_ireturn hr dX11_bookFinding_47 ⟨Nat.zero_le _, Nat.zero_le _⟩ ⟨_, rfl, rfl⟩ (by cases h; rfl)
      · rw [if_neg c11] at h
        refine r_iconst hg dX11_bookFinding_40 ci_0 ?_
        refine r_goto hg 47 dX11_bookFinding_41 (by decide) ?_
        exact r_ireturn hr dX11_bookFinding_47 ⟨Nat.zero_le _, Nat.zero_le _⟩ ⟨_, rfl, rfl⟩ (by cases h; rfl)
    · rw [if_neg c7] at h
      refine r_ldcw hg dX11_bookFinding_24 kc_X11_306 ?_
      exact r_ireturn hr dX11_bookFinding_27 ⟨Nat.zero_le _, Nat.zero_le _⟩ ⟨_, rfl, rfl⟩ (by cases h; rfl)
  · rw [if_pos (Classical.not_not.mp c3)] at h
    refine r_ldc hg dX11_bookFinding_10 kc_X11_57 ?_
    exact r_ireturn hr dX11_bookFinding_12 ⟨Nat.zero_le _, Nat.zero_le _⟩ ⟨_, rfl, rfl⟩ (by cases h; rfl)

def f_X11_breach (this : Nat) (x1 : Int32) (x2 : Int32) (x3 : Int32) (I : qI) : Option (Int32 × qI) :=
  q_b1 (f_X11_within x1 (nI 0) (nI 3)) fun v1 =>
  if v1 = 0 then
    some ((-1000000001), I)
  else
    q_b1 (f_X11_within x2 (nI 0) (nI 6)) fun v4 =>
    if v4 = 0 then
      some ((-1000000001), I)
    else
      q_b1 (f_X11_within x3 x2 (nI 6)) fun v7 =>
      if v7 = 0 then
        some ((-1000000001), I)
      else
        q_b2 (f_X6_added (this + 45) x1 x2 x3 I) fun v12 I13 =>
        some (v12, I13)
set_option maxRecDepth 100000 in
set_option maxHeartbeats 4000000 in
theorem s_X11_breach {l : Launch} {Γ : qC} (hΓ : q_gm Γ) {X : qX} (hX : q_Lay X) {this : Nat} {x1 : Int32} {x2 : Int32} {x3 : Int32} (k_this : q_kd X this = some (13, 9)) {I : qI} {z : Int32 × qI} (h : f_X11_breach this x1 x2 x3 I = some z) : q_Sem l Γ (q_rm 3 0 0) yX11_breach cX11_breach 4 (some .int) [.ref this, .int x1, .int x2, .int x3] I X (some (.int z.1), z.2, X) := by
  refine q_met (by decide) (Nat.le_of_ble_eq_true rfl) (fun g hg hr => ?_)
  unfold f_X11_breach at h
  show g 0 0 0 [(0, .ref this), (1, .int x1), (2, .int x2), (3, .int x3)] [] I X
  refine r_iload_n hg 1 dX11_breach_0 rfl rfl ?_
  refine r_iconst hg dX11_breach_1 ci_0 ?_
  refine r_iconst hg dX11_breach_2 ci_3 ?_
  obtain ⟨v1, e2, h⟩ := q_b1_some h
  refine r_cS3i hg dX11_breach_3 mt_X11_within ⟨ml_X11_53, mst_X11_within⟩ (s_X11_within hΓ hX e2) (q_room (Nat.le_of_ble_eq_true rfl) (Nat.le_of_ble_eq_true rfl)) ⟨Nat.zero_le _, Nat.zero_le _⟩ (Nat.le_of_ble_eq_true rfl) ?_
  refine r_if_eq hg 29 dX11_breach_6 (by decide) (fun c3 => ?_) (fun c3 => ?_)
  · rw [if_pos c3] at h
    refine r_ldc hg dX11_breach_29 kc_X11_57 ?_
    exact r_ireturn hr dX11_breach_31 ⟨Nat.zero_le _, Nat.zero_le _⟩ ⟨_, rfl, rfl⟩ (by cases h; rfl)
  · rw [if_neg c3] at h
    refine r_iload_n hg 2 dX11_breach_9 rfl rfl ?_
    refine r_iconst hg dX11_breach_10 ci_0 ?_
    refine r_bipush hg dX11_breach_11 cb_6 ?_
    obtain ⟨v4, e5, h⟩ := q_b1_some h
    refine r_cS3i hg dX11_breach_13 mt_X11_within ⟨ml_X11_53, mst_X11_within⟩ (s_X11_within hΓ hX e5) (q_room (Nat.le_of_ble_eq_true rfl) (Nat.le_of_ble_eq_true rfl)) ⟨Nat.zero_le _, Nat.zero_le _⟩ (Nat.le_of_ble_eq_true rfl) ?_
    refine r_if_eq hg 29 dX11_breach_16 (by decide) (fun c6 => ?_) (fun c6 => ?_)
    · rw [if_pos c6] at h
      refine r_ldc hg dX11_breach_29 kc_X11_57 ?_
      exact r_ireturn hr dX11_breach_31 ⟨Nat.zero_le _, Nat.zero_le _⟩ ⟨_, rfl, rfl⟩ (by cases h; rfl)
    · rw [if_neg c6] at h
      refine r_iload_n hg 3 dX11_breach_19 rfl rfl ?_
      refine r_iload_n hg 2 dX11_breach_20 rfl rfl ?_
      refine r_bipush hg dX11_breach_21 cb_6 ?_
      obtain ⟨v7, e8, h⟩ := q_b1_some h
      refine r_cS3i hg dX11_breach_23 mt_X11_within ⟨ml_X11_53, mst_X11_within⟩ (s_X11_within hΓ hX e8) (q_room (Nat.le_of_ble_eq_true rfl) (Nat.le_of_ble_eq_true rfl)) ⟨Nat.zero_le _, Nat.zero_le _⟩ (Nat.le_of_ble_eq_true rfl) ?_
      refine r_if_ne hg 32 dX11_breach_26 (by decide) (fun c9 => ?_) (fun c9 => ?_)
      · rw [if_neg c9] at h
        refine r_aload_n hg 0 dX11_breach_32 rfl rfl ?_
        have e10 := ly_11_0 hX k_this
        refine r_getR hg dX11_breach_33 fl_X11_10 k_this rfl e10.1 ?_
        have e11 := ly_9_6 hX e10.2
        refine r_getR hg dX11_breach_36 fl_X11_354 e10.2 rfl e11.1 ?_
        refine r_iload_n hg 1 dX11_breach_39 rfl rfl ?_
        refine r_iload_n hg 2 dX11_breach_40 rfl rfl ?_
        refine r_iload_n hg 3 dX11_breach_41 rfl rfl ?_
        obtain ⟨v12, I13, e14, h⟩ := q_b2_some h
        refine r_cV3i hg dX11_breach_42 mt_X6_added ml_X11_358 mv_X6_added e11.2 (s_X6_added hΓ hX e11.2 e14) (q_room (Nat.le_of_ble_eq_true rfl) (Nat.le_of_ble_eq_true rfl)) ⟨Nat.zero_le _, Nat.zero_le _⟩ (Nat.le_of_ble_eq_true rfl) ?_
        exact r_ireturn hr dX11_breach_45 ⟨Nat.zero_le _, Nat.zero_le _⟩ ⟨_, rfl, rfl⟩ (by cases h; rfl)
      · rw [if_pos (Classical.not_not.mp c9)] at h
        refine r_ldc hg dX11_breach_29 kc_X11_57 ?_
        exact r_ireturn hr dX11_breach_31 ⟨Nat.zero_le _, Nat.zero_le _⟩ ⟨_, rfl, rfl⟩ (by cases h; rfl)

def f_X11_choice (this : Nat) (x1 : Int32) (x2 : Int32) (x3 : Int32) (I : qI) : Option (Int32 × qI) :=
  q_b1 (f_X11_within x1 (nI 0) (nI 999)) fun v1 =>
  if v1 = 0 then
    some ((-1000000001), I)
  else
    q_b1 (f_X11_within x2 (nI 0) (nI 99)) fun v4 =>
    if v4 = 0 then
      some ((-1000000001), I)
    else
      q_b1 (f_X11_within x3 (nI 0) (nI 255)) fun v7 =>
      if v7 = 0 then
        some ((-1000000001), I)
      else
        q_b2 (f_X4_added (this + 53) x1 x2 x3 I) fun v12 I13 =>
        some (v12, I13)
set_option maxRecDepth 100000 in
set_option maxHeartbeats 4000000 in
theorem s_X11_choice {l : Launch} {Γ : qC} (hΓ : q_gm Γ) {X : qX} (hX : q_Lay X) {this : Nat} {x1 : Int32} {x2 : Int32} {x3 : Int32} (k_this : q_kd X this = some (13, 9)) {I : qI} {z : Int32 × qI} (h : f_X11_choice this x1 x2 x3 I = some z) : q_Sem l Γ (q_rm 3 0 0) yX11_choice cX11_choice 4 (some .int) [.ref this, .int x1, .int x2, .int x3] I X (some (.int z.1), z.2, X) := by
  refine q_met (by decide) (Nat.le_of_ble_eq_true rfl) (fun g hg hr => ?_)
  unfold f_X11_choice at h
  show g 0 0 0 [(0, .ref this), (1, .int x1), (2, .int x2), (3, .int x3)] [] I X
  refine r_iload_n hg 1 dX11_choice_0 rfl rfl ?_
  refine r_iconst hg dX11_choice_1 ci_0 ?_
  refine r_sipush hg dX11_choice_2 cs_999 ?_
  obtain ⟨v1, e2, h⟩ := q_b1_some h
  refine r_cS3i hg dX11_choice_5 mt_X11_within ⟨ml_X11_53, mst_X11_within⟩ (s_X11_within hΓ hX e2) (q_room (Nat.le_of_ble_eq_true rfl) (Nat.le_of_ble_eq_true rfl)) ⟨Nat.zero_le _, Nat.zero_le _⟩ (Nat.le_of_ble_eq_true rfl) ?_
  refine r_if_eq hg 32 dX11_choice_8 (by decide) (fun c3 => ?_) (fun c3 => ?_)
  · rw [if_pos c3] at h
    refine r_ldc hg dX11_choice_32 kc_X11_57 ?_
    exact r_ireturn hr dX11_choice_34 ⟨Nat.zero_le _, Nat.zero_le _⟩ ⟨_, rfl, rfl⟩ (by cases h; rfl)
  · rw [if_neg c3] at h
    refine r_iload_n hg 2 dX11_choice_11 rfl rfl ?_
    refine r_iconst hg dX11_choice_12 ci_0 ?_
    refine r_bipush hg dX11_choice_13 cb_99 ?_
    obtain ⟨v4, e5, h⟩ := q_b1_some h
    refine r_cS3i hg dX11_choice_15 mt_X11_within ⟨ml_X11_53, mst_X11_within⟩ (s_X11_within hΓ hX e5) (q_room (Nat.le_of_ble_eq_true rfl) (Nat.le_of_ble_eq_true rfl)) ⟨Nat.zero_le _, Nat.zero_le _⟩ (Nat.le_of_ble_eq_true rfl) ?_
    refine r_if_eq hg 32 dX11_choice_18 (by decide) (fun c6 => ?_) (fun c6 => ?_)
    · rw [if_pos c6] at h
      refine r_ldc hg dX11_choice_32 kc_X11_57 ?_
      exact r_ireturn hr dX11_choice_34 ⟨Nat.zero_le _, Nat.zero_le _⟩ ⟨_, rfl, rfl⟩ (by cases h; rfl)
    · rw [if_neg c6] at h
      refine r_iload_n hg 3 dX11_choice_21 rfl rfl ?_
      refine r_iconst hg dX11_choice_22 ci_0 ?_
      refine r_sipush hg dX11_choice_23 cs_255 ?_
      obtain ⟨v7, e8, h⟩ := q_b1_some h
      refine r_cS3i hg dX11_choice_26 mt_X11_within ⟨ml_X11_53, mst_X11_within⟩ (s_X11_within hΓ hX e8) (q_room (Nat.le_of_ble_eq_true rfl) (Nat.le_of_ble_eq_true rfl)) ⟨Nat.zero_le _, Nat.zero_le _⟩ (Nat.le_of_ble_eq_true rfl) ?_
      refine r_if_ne hg 35 dX11_choice_29 (by decide) (fun c9 => ?_) (fun c9 => ?_)
      · rw [if_neg c9] at h
        refine r_aload_n hg 0 dX11_choice_35 rfl rfl ?_
        have e10 := ly_11_0 hX k_this
        refine r_getR hg dX11_choice_36 fl_X11_10 k_this rfl e10.1 ?_
        have e11 := ly_9_7 hX e10.2
        refine r_getR hg dX11_choice_39 fl_X11_378 e10.2 rfl e11.1 ?_
        refine r_iload_n hg 1 dX11_choice_42 rfl rfl ?_
        refine r_iload_n hg 2 dX11_choice_43 rfl rfl ?_
        refine r_iload_n hg 3 dX11_choice_44 rfl rfl ?_
        obtain ⟨v12, I13, e14, h⟩ := q_b2_some h
        refine r_cV3i hg dX11_choice_45 mt_X4_added ml_X11_382 mv_X4_added e11.2 (s_X4_added hΓ hX e11.2 e14) (q_room (Nat.le_of_ble_eq_true rfl) (Nat.le_of_ble_eq_true rfl)) ⟨Nat.zero_le _, Nat.zero_le _⟩ (Nat.le_of_ble_eq_true rfl) ?_
        exact r_ireturn hr dX11_choice_48 ⟨Nat.zero_le _, Nat.zero_le _⟩ ⟨_, rfl, rfl⟩ (by cases h; rfl)
      · rw [if_pos (Classical.not_not.mp c9)] at h
        refine r_ldc hg dX11_choice_32 kc_X11_57 ?_
        exact r_ireturn hr dX11_choice_34 ⟨Nat.zero_le _, Nat.zero_le _⟩ ⟨_, rfl, rfl⟩ (by cases h; rfl)

def f_X11_copy (this : Nat) (x1 : Int32) (x2 : Int32) (x3 : Int32) (x4 : Int32) (x5 : Int32) (I : qI) : Option (Int32 × qI) :=
  q_b1 (f_X11_within x1 (nI 0) (nI 7)) fun v1 =>
  if v1 = 0 then
    some ((-1000000001), I)
  else
    q_b1 (f_X11_within x3 (nI 0) (nI 7)) fun v4 =>
    if v4 = 0 then
      some ((-1000000001), I)
    else
      q_b1 (f_X0_isMissing (this + 199) x1 I) fun v8 =>
      if v8 = 0 then
        q_b1 (f_X0_isMissing (this + 199) x3 I) fun v12 =>
        if v12 = 0 then
          q_b1 (q_rd I (this + 200) 8 x1) fun v17 =>
          q_b1 (q_rd I (this + 200) 8 x3) fun v21 =>
          if v17 = v21 then
            q_b1 (f_X0_hasRange (this + 199) x1 x2 x5 I) fun v25 =>
            if v25 = 0 then
              some ((-1000000013), I)
            else
              q_b1 (f_X0_hasRange (this + 199) x3 x4 x5 I) fun v29 =>
              if v29 = 0 then
                some ((-1000000013), I)
              else
                q_b1 (f_X0_start x1) fun v34 =>
                q_b1 (f_X0_start x3) fun v38 =>
                q_b1 (q_cp I (this + 202) 240 (v34 + x2) (this + 202) 240 (v38 + x4) x5) fun I40 =>
                some (x5, I40)
          else
            some ((-1000000012), I)
        else
          some ((-1000000011), I)
      else
        some ((-1000000011), I)
set_option maxRecDepth 100000 in
set_option maxHeartbeats 4000000 in
theorem s_X11_copy {l : Launch} {Γ : qC} (hΓ : q_gm Γ) {X : qX} (hX : q_Lay X) {this : Nat} {x1 : Int32} {x2 : Int32} {x3 : Int32} {x4 : Int32} {x5 : Int32} (k_this : q_kd X this = some (13, 9)) {I : qI} {z : Int32 × qI} (h : f_X11_copy this x1 x2 x3 x4 x5 I = some z) : q_Sem l Γ (q_rm 3 0 0) yX11_copy cX11_copy 6 (some .int) [.ref this, .int x1, .int x2, .int x3, .int x4, .int x5] I X (some (.int z.1), z.2, X) := by
  refine q_met (by decide) (Nat.le_of_ble_eq_true rfl) (fun g hg hr => ?_)
  unfold f_X11_copy at h
  show g 0 0 0 [(0, .ref this), (1, .int x1), (2, .int x2), (3, .int x3), (4, .int x4), (5, .int x5)] [] I X
  refine r_iload_n hg 1 dX11_copy_0 rfl rfl ?_
  refine r_iconst hg dX11_copy_1 ci_0 ?_
  refine r_bipush hg dX11_copy_2 cb_7 ?_
  obtain ⟨v1, e2, h⟩ := q_b1_some h
  refine r_cS3i hg dX11_copy_4 mt_X11_within ⟨ml_X11_53, mst_X11_within⟩ (s_X11_within hΓ hX e2) (q_room (Nat.le_of_ble_eq_true rfl) (Nat.le_of_ble_eq_true rfl)) ⟨Nat.zero_le _, Nat.zero_le _⟩ (Nat.le_of_ble_eq_true rfl) ?_
  refine r_if_eq hg 20 dX11_copy_7 (by decide) (fun c3 => ?_) (fun c3 => ?_)
  · rw [if_pos c3] at h
    refine r_ldc hg dX11_copy_20 kc_X11_57 ?_
    exact r_ireturn hr dX11_copy_22 ⟨Nat.zero_le _, Nat.zero_le _⟩ ⟨_, rfl, rfl⟩ (by cases h; rfl)
  · rw [if_neg c3] at h
    refine r_iload_n hg 3 dX11_copy_10 rfl rfl ?_
    refine r_iconst hg dX11_copy_11 ci_0 ?_
    refine r_bipush hg dX11_copy_12 cb_7 ?_
    obtain ⟨v4, e5, h⟩ := q_b1_some h
    refine r_cS3i hg dX11_copy_14 mt_X11_within ⟨ml_X11_53, mst_X11_within⟩ (s_X11_within hΓ hX e5) (q_room (Nat.le_of_ble_eq_true rfl) (Nat.le_of_ble_eq_true rfl)) ⟨Nat.zero_le _, Nat.zero_le _⟩ (Nat.le_of_ble_eq_true rfl) ?_
    refine r_if_ne hg 23 dX11_copy_17 (by decide) (fun c6 => ?_) (fun c6 => ?_)
    · rw [if_neg c6] at h
      refine r_aload_n hg 0 dX11_copy_23 rfl rfl ?_
      have e7 := ly_11_4 hX k_this
      refine r_getR hg dX11_copy_24 fl_X11_32 k_this rfl e7.1 ?_
      refine r_iload_n hg 1 dX11_copy_27 rfl rfl ?_
      obtain ⟨v8, e9, h⟩ := q_b1_some h
      refine r_cV1i hg dX11_copy_28 mt_X0_isMissing ml_X11_303 mv_X0_isMissing e7.2 (s_X0_isMissing hΓ hX e7.2 e9) (q_room (Nat.le_of_ble_eq_true rfl) (Nat.le_of_ble_eq_true rfl)) ⟨Nat.zero_le _, Nat.zero_le _⟩ (Nat.le_of_ble_eq_true rfl) ?_
      refine r_if_ne hg 45 dX11_copy_31 (by decide) (fun c10 => ?_) (fun c10 => ?_)
      · rw [if_neg c10] at h
        refine r_ldcw hg dX11_copy_45 kc_X11_306 ?_
        exact r_ireturn hr dX11_copy_48 ⟨Nat.zero_le _, Nat.zero_le _⟩ ⟨_, rfl, rfl⟩ (by cases h; rfl)
      · rw [if_pos (Classical.not_not.mp c10)] at h
        refine r_aload_n hg 0 dX11_copy_34 rfl rfl ?_
        have e11 := ly_11_4 hX k_this
        refine r_getR hg dX11_copy_35 fl_X11_32 k_this rfl e11.1 ?_
        refine r_iload_n hg 3 dX11_copy_38 rfl rfl ?_
        obtain ⟨v12, e13, h⟩ := q_b1_some h
        refine r_cV1i hg dX11_copy_39 mt_X0_isMissing ml_X11_303 mv_X0_isMissing e11.2 (s_X0_isMissing hΓ hX e11.2 e13) (q_room (Nat.le_of_ble_eq_true rfl) (Nat.le_of_ble_eq_true rfl)) ⟨Nat.zero_le _, Nat.zero_le _⟩ (Nat.le_of_ble_eq_true rfl) ?_
        refine r_if_eq hg 49 dX11_copy_42 (by decide) (fun c14 => ?_) (fun c14 => ?_)
        · rw [if_pos c14] at h
          refine r_aload_n hg 0 dX11_copy_49 rfl rfl ?_
          have e15 := ly_11_4 hX k_this
          refine r_getR hg dX11_copy_50 fl_X11_32 k_this rfl e15.1 ?_
          have e16 := ly_0_0 hX e15.2
          refine r_getR hg dX11_copy_53 fl_X11_311 e15.2 rfl e16.1 ?_
          refine r_iload_n hg 1 dX11_copy_56 rfl rfl ?_
          obtain ⟨v17, e18, h⟩ := q_b1_some h
          refine r_iald hg dX11_copy_57 e16.2 e18 ?_
          refine r_aload_n hg 0 dX11_copy_58 rfl rfl ?_
          have e19 := ly_11_4 hX k_this
          refine r_getR hg dX11_copy_59 fl_X11_32 k_this rfl e19.1 ?_
          have e20 := ly_0_0 hX e19.2
          refine r_getR hg dX11_copy_62 fl_X11_311 e19.2 rfl e20.1 ?_
          refine r_iload_n hg 3 dX11_copy_65 rfl rfl ?_
          obtain ⟨v21, e22, h⟩ := q_b1_some h
          refine r_iald hg dX11_copy_66 e20.2 e22 ?_
          refine r_icmp_eq hg 73 dX11_copy_67 (by decide) (fun c23 => ?_) (fun c23 => ?_)
          · rw [if_pos c23] at h
            refine r_aload_n hg 0 dX11_copy_73 rfl rfl ?_
            have e24 := ly_11_4 hX k_this
            refine r_getR hg dX11_copy_74 fl_X11_32 k_this rfl e24.1 ?_
            refine r_iload_n hg 1 dX11_copy_77 rfl rfl ?_
            refine r_iload_n hg 2 dX11_copy_78 rfl rfl ?_
            refine r_iload hg 5 dX11_copy_79 rfl ?_
            obtain ⟨v25, e26, h⟩ := q_b1_some h
            refine r_cV3i hg dX11_copy_81 mt_X0_hasRange ml_X11_314 mv_X0_hasRange e24.2 (s_X0_hasRange hΓ hX e24.2 e26) (q_room (Nat.le_of_ble_eq_true rfl) (Nat.le_of_ble_eq_true rfl)) ⟨Nat.zero_le _, Nat.zero_le _⟩ (Nat.le_of_ble_eq_true rfl) ?_
            refine r_if_eq hg 102 dX11_copy_84 (by decide) (fun c27 => ?_) (fun c27 => ?_)
            · rw [if_pos c27] at h
              refine r_ldcw hg dX11_copy_102 kc_X11_310 ?_
              exact r_ireturn hr dX11_copy_105 ⟨Nat.zero_le _, Nat.zero_le _⟩ ⟨_, rfl, rfl⟩ (by cases h; rfl)
            · rw [if_neg c27] at h
              refine r_aload_n hg 0 dX11_copy_87 rfl rfl ?_
              have e28 := ly_11_4 hX k_this
              refine r_getR hg dX11_copy_88 fl_X11_32 k_this rfl e28.1 ?_
              refine r_iload_n hg 3 dX11_copy_91 rfl rfl ?_
              refine r_iload hg 4 dX11_copy_92 rfl ?_
              refine r_iload hg 5 dX11_copy_94 rfl ?_
              obtain ⟨v29, e30, h⟩ := q_b1_some h
              refine r_cV3i hg dX11_copy_96 mt_X0_hasRange ml_X11_314 mv_X0_hasRange e28.2 (s_X0_hasRange hΓ hX e28.2 e30) (q_room (Nat.le_of_ble_eq_true rfl) (Nat.le_of_ble_eq_true rfl)) ⟨Nat.zero_le _, Nat.zero_le _⟩ (Nat.le_of_ble_eq_true rfl) ?_
              refine r_if_ne hg 106 dX11_copy_99 (by decide) (fun c31 => ?_) (fun c31 => ?_)
              · rw [if_neg c31] at h
                refine r_aload_n hg 0 dX11_copy_106 rfl rfl ?_
                have e32 := ly_11_4 hX k_this
                refine r_getR hg dX11_copy_107 fl_X11_32 k_this rfl e32.1 ?_
                have e33 := ly_0_2 hX e32.2
                refine r_getR hg dX11_copy_110 fl_X11_300 e32.2 rfl e33.1 ?_
                refine r_iload_n hg 1 dX11_copy_113 rfl rfl ?_
                obtain ⟨v34, e35, h⟩ := q_b1_some h
                refine r_cS1i hg dX11_copy_114 mt_X0_start ⟨ml_X11_317, mst_X0_start⟩ (s_X0_start hΓ hX e35) (q_room (Nat.le_of_ble_eq_true rfl) (Nat.le_of_ble_eq_true rfl)) ⟨Nat.zero_le _, Nat.zero_le _⟩ (Nat.le_of_ble_eq_true rfl) ?_
                refine r_iload_n hg 2 dX11_copy_117 rfl rfl ?_
                refine r_iadd hg dX11_copy_118 ?_
                refine r_aload_n hg 0 dX11_copy_119 rfl rfl ?_
                have e36 := ly_11_4 hX k_this
                refine r_getR hg dX11_copy_120 fl_X11_32 k_this rfl e36.1 ?_
                have e37 := ly_0_2 hX e36.2
                refine r_getR hg dX11_copy_123 fl_X11_300 e36.2 rfl e37.1 ?_
                refine r_iload_n hg 3 dX11_copy_126 rfl rfl ?_
                obtain ⟨v38, e39, h⟩ := q_b1_some h
                refine r_cS1i hg dX11_copy_127 mt_X0_start ⟨ml_X11_317, mst_X0_start⟩ (s_X0_start hΓ hX e39) (q_room (Nat.le_of_ble_eq_true rfl) (Nat.le_of_ble_eq_true rfl)) ⟨Nat.zero_le _, Nat.zero_le _⟩ (Nat.le_of_ble_eq_true rfl) ?_
                refine r_iload hg 4 dX11_copy_130 rfl ?_
                refine r_iadd hg dX11_copy_132 ?_
                refine r_iload hg 5 dX11_copy_133 rfl ?_
                obtain ⟨I40, e41, h⟩ := q_b1_some h
                obtain ⟨⟨e42, e43, e44⟩, e45, e46, rfl⟩ := q_cp_some e41
                refine r_copy hg dX11_copy_135 cp_X11_320 e33.2 e37.2 e42 e43 e44 e45 e46 ⟨Nat.le_of_ble_eq_true rfl, Nat.le_of_ble_eq_true rfl⟩ ?_
                refine r_iload hg 5 dX11_copy_138 rfl ?_
                exact r_ireturn hr dX11_copy_140 ⟨Nat.zero_le _, Nat.zero_le _⟩ ⟨_, rfl, rfl⟩ (by cases h; rfl)
              · rw [if_pos (Classical.not_not.mp c31)] at h
                refine r_ldcw hg dX11_copy_102 kc_X11_310 ?_
                exact r_ireturn hr dX11_copy_105 ⟨Nat.zero_le _, Nat.zero_le _⟩ ⟨_, rfl, rfl⟩ (by cases h; rfl)
          · rw [if_neg c23] at h
            refine r_ldc hg dX11_copy_70 kc_X11_179 ?_
            exact r_ireturn hr dX11_copy_72 ⟨Nat.zero_le _, Nat.zero_le _⟩ ⟨_, rfl, rfl⟩ (by cases h; rfl)
        · rw [if_neg c14] at h
          refine r_ldcw hg dX11_copy_45 kc_X11_306 ?_
          exact r_ireturn hr dX11_copy_48 ⟨Nat.zero_le _, Nat.zero_le _⟩ ⟨_, rfl, rfl⟩ (by cases h; rfl)
    · rw [if_pos (Classical.not_not.mp c6)] at h
      refine r_ldc hg dX11_copy_20 kc_X11_57 ?_
      exact r_ireturn hr dX11_copy_22 ⟨Nat.zero_le _, Nat.zero_le _⟩ ⟨_, rfl, rfl⟩ (by cases h; rfl)

def f_X11_count (this : Nat) (x1 : Int32) (X : qX) (I : qI) : Option (Int32) :=
  if x1 = (nI 0) then
    some ((I (this + 8) 4))
  else
  if x1 = (nI 1) then
    some ((I (this + 13) 14))
  else
  if x1 = (nI 2) then
    q_b1 (f_X2_sum (this + 13) (some (this + 23)) X I) fun v13 =>
    some (v13)
  else
  if x1 = (nI 3) then
    some ((I (this + 28) 8))
  else
  if x1 = (nI 4) then
    q_b1 (f_X1_open (this + 28) I) fun v21 =>
    some (v21)
  else
  if x1 = (nI 5) then
    q_b1 (f_X1_out (this + 28) I) fun v26 =>
    some (v26)
  else
  if x1 = (nI 6) then
    some ((I (this + 37) 5))
  else
  if x1 = (nI 7) then
    some ((I (this + 45) 8))
  else
  if x1 = (nI 8) then
    some ((I (this + 53) 9))
  else
  if x1 = (nI 9) then
    some ((I this 7))
  else
  if x1 = (nI 10) then
    some ((I (this + 196) 6))
  else
  if x1 = (nI 11) then
    some ((I (this + 1) 13))
  else
  if x1 = (nI 12) then
    some (((I (this + 1) 13) / (nI 7)))
  else
  if x1 = (nI 13) then
    q_b1 (f_X2_sum (this + 13) (some (this + 18)) X I) fun v50 =>
    some (v50)
  else
  if x1 = (nI 14) then
    q_b1 (f_X2_sum (this + 13) (some (this + 19)) X I) fun v58 =>
    some (v58)
  else
  some ((-1000000001))
set_option maxRecDepth 100000 in
set_option maxHeartbeats 4000000 in
theorem s_X11_count {l : Launch} {Γ : qC} (hΓ : q_gm Γ) {X : qX} (hX : q_Lay X) {this : Nat} {x1 : Int32} (k_this : q_kd X this = some (13, 9)) {I : qI} {z : Int32} (h : f_X11_count this x1 X I = some z) : q_Sem l Γ (q_rm 3 0 0) yX11_count cX11_count 2 (some .int) [.ref this, .int x1] I X (some (.int z), I, X) := by
  refine q_met (by decide) (Nat.le_of_ble_eq_true rfl) (fun g hg hr => ?_)
  unfold f_X11_count at h
  show g 0 0 0 [(0, .ref this), (1, .int x1)] [] I X
  refine r_iload_n hg 1 dX11_count_0 rfl rfl ?_
  by_cases c1 : x1 = (nI 0)
  · rw [if_pos c1] at h
    refine r_tab hg 76 dX11_count_1 rfl (by rw [c1] <;> decide +kernel) (by decide) ?_
    refine r_aload_n hg 0 dX11_count_76 rfl rfl ?_
    have e2 := ly_11_0 hX k_this
    refine r_getR hg dX11_count_77 fl_X11_10 k_this rfl e2.1 ?_
    have e3 := ly_9_1 hX e2.2
    refine r_getR hg dX11_count_80 fl_X11_87 e2.2 rfl e3.1 ?_
    refine r_getI hg dX11_count_83 fl_X11_410 e3.2 rfl ?_
    exact r_ireturn hr dX11_count_86 ⟨Nat.zero_le _, Nat.zero_le _⟩ ⟨_, rfl, rfl⟩ (by cases h; rfl)
  rw [if_neg c1] at h
  by_cases c4 : x1 = (nI 1)
  · rw [if_pos c4] at h
    refine r_tab hg 87 dX11_count_1 rfl (by rw [c4] <;> decide +kernel) (by decide) ?_
    refine r_aload_n hg 0 dX11_count_87 rfl rfl ?_
    have e5 := ly_11_0 hX k_this
    refine r_getR hg dX11_count_88 fl_X11_10 k_this rfl e5.1 ?_
    have e6 := ly_9_2 hX e5.2
    refine r_getR hg dX11_count_91 fl_X11_70 e5.2 rfl e6.1 ?_
    refine r_getI hg dX11_count_94 fl_X11_104 e6.2 rfl ?_
    exact r_ireturn hr dX11_count_97 ⟨Nat.zero_le _, Nat.zero_le _⟩ ⟨_, rfl, rfl⟩ (by cases h; rfl)
  rw [if_neg c4] at h
  by_cases c7 : x1 = (nI 2)
  · rw [if_pos c7] at h
    refine r_tab hg 98 dX11_count_1 rfl (by rw [c7] <;> decide +kernel) (by decide) ?_
    refine r_aload_n hg 0 dX11_count_98 rfl rfl ?_
    have e8 := ly_11_0 hX k_this
    refine r_getR hg dX11_count_99 fl_X11_10 k_this rfl e8.1 ?_
    have e9 := ly_9_2 hX e8.2
    refine r_getR hg dX11_count_102 fl_X11_70 e8.2 rfl e9.1 ?_
    refine r_aload_n hg 0 dX11_count_105 rfl rfl ?_
    have e10 := ly_11_0 hX k_this
    refine r_getR hg dX11_count_106 fl_X11_10 k_this rfl e10.1 ?_
    have e11 := ly_9_2 hX e10.2
    refine r_getR hg dX11_count_109 fl_X11_70 e10.2 rfl e11.1 ?_
    have e12 := ly_2_9 hX e11.2
    refine r_getR hg dX11_count_112 fl_X11_243 e11.2 rfl e12.1 ?_
    obtain ⟨v13, e14, h⟩ := q_b1_some h
    refine r_cV1i hg dX11_count_115 mt_X2_sum ml_X11_239 mv_X2_sum e9.2 (s_X2_sum hΓ hX e9.2 e14) (q_room (Nat.le_of_ble_eq_true rfl) (Nat.le_of_ble_eq_true rfl)) ⟨Nat.zero_le _, Nat.zero_le _⟩ (Nat.le_of_ble_eq_true rfl) ?_
    exact r_ireturn hr dX11_count_118 ⟨Nat.zero_le _, Nat.zero_le _⟩ ⟨_, rfl, rfl⟩ (by cases h; rfl)
  rw [if_neg c7] at h
  by_cases c15 : x1 = (nI 3)
  · rw [if_pos c15] at h
    refine r_tab hg 119 dX11_count_1 rfl (by rw [c15] <;> decide +kernel) (by decide) ?_
    refine r_aload_n hg 0 dX11_count_119 rfl rfl ?_
    have e16 := ly_11_0 hX k_this
    refine r_getR hg dX11_count_120 fl_X11_10 k_this rfl e16.1 ?_
    have e17 := ly_9_3 hX e16.2
    refine r_getR hg dX11_count_123 fl_X11_107 e16.2 rfl e17.1 ?_
    refine r_getI hg dX11_count_126 fl_X11_111 e17.2 rfl ?_
    exact r_ireturn hr dX11_count_129 ⟨Nat.zero_le _, Nat.zero_le _⟩ ⟨_, rfl, rfl⟩ (by cases h; rfl)
  rw [if_neg c15] at h
  by_cases c18 : x1 = (nI 4)
  · rw [if_pos c18] at h
    refine r_tab hg 130 dX11_count_1 rfl (by rw [c18] <;> decide +kernel) (by decide) ?_
    refine r_aload_n hg 0 dX11_count_130 rfl rfl ?_
    have e19 := ly_11_0 hX k_this
    refine r_getR hg dX11_count_131 fl_X11_10 k_this rfl e19.1 ?_
    have e20 := ly_9_3 hX e19.2
    refine r_getR hg dX11_count_134 fl_X11_107 e19.2 rfl e20.1 ?_
    obtain ⟨v21, e22, h⟩ := q_b1_some h
    refine r_cV0i hg dX11_count_137 mt_X1_open ml_X11_411 mv_X1_open e20.2 (s_X1_open hΓ hX e20.2 e22) (q_room (Nat.le_of_ble_eq_true rfl) (Nat.le_of_ble_eq_true rfl)) ⟨Nat.zero_le _, Nat.zero_le _⟩ (Nat.le_of_ble_eq_true rfl) ?_
    exact r_ireturn hr dX11_count_140 ⟨Nat.zero_le _, Nat.zero_le _⟩ ⟨_, rfl, rfl⟩ (by cases h; rfl)
  rw [if_neg c18] at h
  by_cases c23 : x1 = (nI 5)
  · rw [if_pos c23] at h
    refine r_tab hg 141 dX11_count_1 rfl (by rw [c23] <;> decide +kernel) (by decide) ?_
    refine r_aload_n hg 0 dX11_count_141 rfl rfl ?_
    have e24 := ly_11_0 hX k_this
    refine r_getR hg dX11_count_142 fl_X11_10 k_this rfl e24.1 ?_
    have e25 := ly_9_3 hX e24.2
    refine r_getR hg dX11_count_145 fl_X11_107 e24.2 rfl e25.1 ?_
    obtain ⟨v26, e27, h⟩ := q_b1_some h
    refine r_cV0i hg dX11_count_148 mt_X1_out ml_X11_413 mv_X1_out e25.2 (s_X1_out hΓ hX e25.2 e27) (q_room (Nat.le_of_ble_eq_true rfl) (Nat.le_of_ble_eq_true rfl)) ⟨Nat.zero_le _, Nat.zero_le _⟩ (Nat.le_of_ble_eq_true rfl) ?_
    exact r_ireturn hr dX11_count_151 ⟨Nat.zero_le _, Nat.zero_le _⟩ ⟨_, rfl, rfl⟩ (by cases h; rfl)
  rw [if_neg c23] at h
  by_cases c28 : x1 = (nI 6)
  · rw [if_pos c28] at h
    refine r_tab hg 152 dX11_count_1 rfl (by rw [c28] <;> decide +kernel) (by decide) ?_
    refine r_aload_n hg 0 dX11_count_152 rfl rfl ?_
    have e29 := ly_11_0 hX k_this
    refine r_getR hg dX11_count_153 fl_X11_10 k_this rfl e29.1 ?_
    have e30 := ly_9_4 hX e29.2
    refine r_getR hg dX11_count_156 fl_X11_256 e29.2 rfl e30.1 ?_
    refine r_getI hg dX11_count_159 fl_X11_416 e30.2 rfl ?_
    exact r_ireturn hr dX11_count_162 ⟨Nat.zero_le _, Nat.zero_le _⟩ ⟨_, rfl, rfl⟩ (by cases h; rfl)
  rw [if_neg c28] at h
  by_cases c31 : x1 = (nI 7)
  · rw [if_pos c31] at h
    refine r_tab hg 163 dX11_count_1 rfl (by rw [c31] <;> decide +kernel) (by decide) ?_
    refine r_aload_n hg 0 dX11_count_163 rfl rfl ?_
    have e32 := ly_11_0 hX k_this
    refine r_getR hg dX11_count_164 fl_X11_10 k_this rfl e32.1 ?_
    have e33 := ly_9_6 hX e32.2
    refine r_getR hg dX11_count_167 fl_X11_354 e32.2 rfl e33.1 ?_
    refine r_getI hg dX11_count_170 fl_X11_417 e33.2 rfl ?_
    exact r_ireturn hr dX11_count_173 ⟨Nat.zero_le _, Nat.zero_le _⟩ ⟨_, rfl, rfl⟩ (by cases h; rfl)
  rw [if_neg c31] at h
  by_cases c34 : x1 = (nI 8)
  · rw [if_pos c34] at h
    refine r_tab hg 174 dX11_count_1 rfl (by rw [c34] <;> decide +kernel) (by decide) ?_
    refine r_aload_n hg 0 dX11_count_174 rfl rfl ?_
    have e35 := ly_11_0 hX k_this
    refine r_getR hg dX11_count_175 fl_X11_10 k_this rfl e35.1 ?_
    have e36 := ly_9_7 hX e35.2
    refine r_getR hg dX11_count_178 fl_X11_378 e35.2 rfl e36.1 ?_
    refine r_getI hg dX11_count_181 fl_X11_391 e36.2 rfl ?_
    exact r_ireturn hr dX11_count_184 ⟨Nat.zero_le _, Nat.zero_le _⟩ ⟨_, rfl, rfl⟩ (by cases h; rfl)
  rw [if_neg c34] at h
  by_cases c37 : x1 = (nI 9)
  · rw [if_pos c37] at h
    refine r_tab hg 185 dX11_count_1 rfl (by rw [c37] <;> decide +kernel) (by decide) ?_
    refine r_aload_n hg 0 dX11_count_185 rfl rfl ?_
    refine r_getI hg dX11_count_186 fl_X11_43 k_this rfl ?_
    exact r_ireturn hr dX11_count_189 ⟨Nat.zero_le _, Nat.zero_le _⟩ ⟨_, rfl, rfl⟩ (by cases h; rfl)
  rw [if_neg c37] at h
  by_cases c38 : x1 = (nI 10)
  · rw [if_pos c38] at h
    refine r_tab hg 190 dX11_count_1 rfl (by rw [c38] <;> decide +kernel) (by decide) ?_
    refine r_aload_n hg 0 dX11_count_190 rfl rfl ?_
    have e39 := ly_11_3 hX k_this
    refine r_getR hg dX11_count_191 fl_X11_25 k_this rfl e39.1 ?_
    refine r_getI hg dX11_count_194 fl_X11_246 e39.2 rfl ?_
    exact r_ireturn hr dX11_count_197 ⟨Nat.zero_le _, Nat.zero_le _⟩ ⟨_, rfl, rfl⟩ (by cases h; rfl)
  rw [if_neg c38] at h
  by_cases c40 : x1 = (nI 11)
  · rw [if_pos c40] at h
    refine r_tab hg 198 dX11_count_1 rfl (by rw [c40] <;> decide +kernel) (by decide) ?_
    refine r_aload_n hg 0 dX11_count_198 rfl rfl ?_
    have e41 := ly_11_0 hX k_this
    refine r_getR hg dX11_count_199 fl_X11_10 k_this rfl e41.1 ?_
    refine r_getI hg dX11_count_202 fl_X11_141 e41.2 rfl ?_
    exact r_ireturn hr dX11_count_205 ⟨Nat.zero_le _, Nat.zero_le _⟩ ⟨_, rfl, rfl⟩ (by cases h; rfl)
  rw [if_neg c40] at h
  by_cases c42 : x1 = (nI 12)
  · rw [if_pos c42] at h
    refine r_tab hg 206 dX11_count_1 rfl (by rw [c42] <;> decide +kernel) (by decide) ?_
    refine r_aload_n hg 0 dX11_count_206 rfl rfl ?_
    have e43 := ly_11_0 hX k_this
    refine r_getR hg dX11_count_207 fl_X11_10 k_this rfl e43.1 ?_
    refine r_getI hg dX11_count_210 fl_X11_141 e43.2 rfl ?_
    refine r_bipush hg dX11_count_213 cb_7 ?_
    refine r_idiv hg dX11_count_215 nz_7 ?_
    exact r_ireturn hr dX11_count_216 ⟨Nat.zero_le _, Nat.zero_le _⟩ ⟨_, rfl, rfl⟩ (by cases h; rfl)
  rw [if_neg c42] at h
  by_cases c44 : x1 = (nI 13)
  · rw [if_pos c44] at h
    refine r_tab hg 217 dX11_count_1 rfl (by rw [c44] <;> decide +kernel) (by decide) ?_
    refine r_aload_n hg 0 dX11_count_217 rfl rfl ?_
    have e45 := ly_11_0 hX k_this
    refine r_getR hg dX11_count_218 fl_X11_10 k_this rfl e45.1 ?_
    have e46 := ly_9_2 hX e45.2
    refine r_getR hg dX11_count_221 fl_X11_70 e45.2 rfl e46.1 ?_
    refine r_aload_n hg 0 dX11_count_224 rfl rfl ?_
    have e47 := ly_11_0 hX k_this
    refine r_getR hg dX11_count_225 fl_X11_10 k_this rfl e47.1 ?_
    have e48 := ly_9_2 hX e47.2
    refine r_getR hg dX11_count_228 fl_X11_70 e47.2 rfl e48.1 ?_
    have e49 := ly_2_4 hX e48.2
    refine r_getR hg dX11_count_231 fl_X11_186 e48.2 rfl e49.1 ?_
    obtain ⟨v50, e51, h⟩ := q_b1_some h
    refine r_cV1i hg dX11_count_234 mt_X2_sum ml_X11_239 mv_X2_sum e46.2 (s_X2_sum hΓ hX e46.2 e51) (q_room (Nat.le_of_ble_eq_true rfl) (Nat.le_of_ble_eq_true rfl)) ⟨Nat.zero_le _, Nat.zero_le _⟩ (Nat.le_of_ble_eq_true rfl) ?_
    exact r_ireturn hr dX11_count_237 ⟨Nat.zero_le _, Nat.zero_le _⟩ ⟨_, rfl, rfl⟩ (by cases h; rfl)
  rw [if_neg c44] at h
  by_cases c52 : x1 = (nI 14)
  · rw [if_pos c52] at h
    refine r_tab hg 238 dX11_count_1 rfl (by rw [c52] <;> decide +kernel) (by decide) ?_
    refine r_aload_n hg 0 dX11_count_238 rfl rfl ?_
    have e53 := ly_11_0 hX k_this
    refine r_getR hg dX11_count_239 fl_X11_10 k_this rfl e53.1 ?_
    have e54 := ly_9_2 hX e53.2
    refine r_getR hg dX11_count_242 fl_X11_70 e53.2 rfl e54.1 ?_
    refine r_aload_n hg 0 dX11_count_245 rfl rfl ?_
    have e55 := ly_11_0 hX k_this
    refine r_getR hg dX11_count_246 fl_X11_10 k_this rfl e55.1 ?_
    have e56 := ly_9_2 hX e55.2
    refine r_getR hg dX11_count_249 fl_X11_70 e55.2 rfl e56.1 ?_
    have e57 := ly_2_5 hX e56.2
    refine r_getR hg dX11_count_252 fl_X11_189 e56.2 rfl e57.1 ?_
    obtain ⟨v58, e59, h⟩ := q_b1_some h
    refine r_cV1i hg dX11_count_255 mt_X2_sum ml_X11_239 mv_X2_sum e54.2 (s_X2_sum hΓ hX e54.2 e59) (q_room (Nat.le_of_ble_eq_true rfl) (Nat.le_of_ble_eq_true rfl)) ⟨Nat.zero_le _, Nat.zero_le _⟩ (Nat.le_of_ble_eq_true rfl) ?_
    exact r_ireturn hr dX11_count_258 ⟨Nat.zero_le _, Nat.zero_le _⟩ ⟨_, rfl, rfl⟩ (by cases h; rfl)
  rw [if_neg c52] at h
  refine r_tab hg 259 dX11_count_1 rfl (q_tab_d (fun k hk ho => ?_)) (by decide) ?_
  · have hk : k < 15 := hk
    rcases (show k = 0 ∨ k = 1 ∨ k = 2 ∨ k = 3 ∨ k = 4 ∨ k = 5 ∨ k = 6 ∨ k = 7 ∨ k = 8 ∨ k = 9 ∨ k = 10 ∨ k = 11 ∨ k = 12 ∨ k = 13 ∨ k = 14 by omega) with rfl | rfl | rfl | rfl | rfl | rfl | rfl | rfl | rfl | rfl | rfl | rfl | rfl | rfl | rfl
    · exact lv_neT c1 (by decide +kernel)
    · exact lv_neT c4 (by decide +kernel)
    · exact lv_neT c7 (by decide +kernel)
    · exact lv_neT c15 (by decide +kernel)
    · exact lv_neT c18 (by decide +kernel)
    · exact lv_neT c23 (by decide +kernel)
    · exact lv_neT c28 (by decide +kernel)
    · exact lv_neT c31 (by decide +kernel)
    · exact lv_neT c34 (by decide +kernel)
    · exact lv_neT c37 (by decide +kernel)
    · exact lv_neT c38 (by decide +kernel)
    · exact lv_neT c40 (by decide +kernel)
    · exact lv_neT c42 (by decide +kernel)
    · exact lv_neT c44 (by decide +kernel)
    · exact lv_neT c52 (by decide +kernel)
  refine r_ldc hg dX11_count_259 kc_X11_57 ?_
  exact r_ireturn hr dX11_count_261 ⟨Nat.zero_le _, Nat.zero_le _⟩ ⟨_, rfl, rfl⟩ (by cases h; rfl)

def f_X11_feed (this : Nat) (x1 : Int32) (x2 : Int32) (x3 : Int32) (I : qI) : Option (Int32 × qI) :=
  if (I (this + 196) 6) ≤ (nI 84) then
    q_b1 (f_X5_put (this + 196) x1 I) fun I4 =>
    q_b1 (f_X5_put (this + 196) x2 I4) fun I7 =>
    q_b1 (f_X5_put (this + 196) x3 I7) fun I10 =>
    some ((I10 (this + 196) 6), I10)
  else
    some ((-1000000003), I)
set_option maxRecDepth 100000 in
set_option maxHeartbeats 4000000 in
theorem s_X11_feed {l : Launch} {Γ : qC} (hΓ : q_gm Γ) {X : qX} (hX : q_Lay X) {this : Nat} {x1 : Int32} {x2 : Int32} {x3 : Int32} (k_this : q_kd X this = some (13, 9)) {I : qI} {z : Int32 × qI} (h : f_X11_feed this x1 x2 x3 I = some z) : q_Sem l Γ (q_rm 3 0 0) yX11_feed cX11_feed 4 (some .int) [.ref this, .int x1, .int x2, .int x3] I X (some (.int z.1), z.2, X) := by
  refine q_met (by decide) (Nat.le_of_ble_eq_true rfl) (fun g hg hr => ?_)
  unfold f_X11_feed at h
  show g 0 0 0 [(0, .ref this), (1, .int x1), (2, .int x2), (3, .int x3)] [] I X
  refine r_aload_n hg 0 dX11_feed_0 rfl rfl ?_
  have e1 := ly_11_3 hX k_this
  refine r_getR hg dX11_feed_1 fl_X11_25 k_this rfl e1.1 ?_
  refine r_getI hg dX11_feed_4 fl_X11_246 e1.2 rfl ?_
  refine r_bipush hg dX11_feed_7 cb_84 ?_
  refine r_icmp_le hg 15 dX11_feed_9 (by decide) (fun c2 => ?_) (fun c2 => ?_)
  · rw [if_pos c2] at h
    refine r_aload_n hg 0 dX11_feed_15 rfl rfl ?_
    have e3 := ly_11_3 hX k_this
    refine r_getR hg dX11_feed_16 fl_X11_25 k_this rfl e3.1 ?_
    refine r_iload_n hg 1 dX11_feed_19 rfl rfl ?_
    obtain ⟨I4, e5, h⟩ := q_b1_some h
    refine r_cV1v hg dX11_feed_20 mt_X5_put ml_X11_249 mv_X5_put e3.2 (s_X5_put hΓ hX e3.2 e5) (q_room (Nat.le_of_ble_eq_true rfl) (Nat.le_of_ble_eq_true rfl)) ⟨Nat.zero_le _, Nat.zero_le _⟩ (Nat.le_of_ble_eq_true rfl) ?_
    refine r_aload_n hg 0 dX11_feed_23 rfl rfl ?_
    have e6 := ly_11_3 hX k_this
    refine r_getR hg dX11_feed_24 fl_X11_25 k_this rfl e6.1 ?_
    refine r_iload_n hg 2 dX11_feed_27 rfl rfl ?_
    obtain ⟨I7, e8, h⟩ := q_b1_some h
    refine r_cV1v hg dX11_feed_28 mt_X5_put ml_X11_249 mv_X5_put e6.2 (s_X5_put hΓ hX e6.2 e8) (q_room (Nat.le_of_ble_eq_true rfl) (Nat.le_of_ble_eq_true rfl)) ⟨Nat.zero_le _, Nat.zero_le _⟩ (Nat.le_of_ble_eq_true rfl) ?_
    refine r_aload_n hg 0 dX11_feed_31 rfl rfl ?_
    have e9 := ly_11_3 hX k_this
    refine r_getR hg dX11_feed_32 fl_X11_25 k_this rfl e9.1 ?_
    refine r_iload_n hg 3 dX11_feed_35 rfl rfl ?_
    obtain ⟨I10, e11, h⟩ := q_b1_some h
    refine r_cV1v hg dX11_feed_36 mt_X5_put ml_X11_249 mv_X5_put e9.2 (s_X5_put hΓ hX e9.2 e11) (q_room (Nat.le_of_ble_eq_true rfl) (Nat.le_of_ble_eq_true rfl)) ⟨Nat.zero_le _, Nat.zero_le _⟩ (Nat.le_of_ble_eq_true rfl) ?_
    refine r_aload_n hg 0 dX11_feed_39 rfl rfl ?_
    have e12 := ly_11_3 hX k_this
    refine r_getR hg dX11_feed_40 fl_X11_25 k_this rfl e12.1 ?_
    refine r_getI hg dX11_feed_43 fl_X11_246 e12.2 rfl ?_
    exact r_ireturn hr dX11_feed_46 ⟨Nat.zero_le _, Nat.zero_le _⟩ ⟨_, rfl, rfl⟩ (by cases h; rfl)
  · rw [if_neg c2] at h
    refine r_ldc hg dX11_feed_12 kc_X11_114 ?_
    exact r_ireturn hr dX11_feed_14 ⟨Nat.zero_le _, Nat.zero_le _⟩ ⟨_, rfl, rfl⟩ (by cases h; rfl)

def f_X11_hear (this : Nat) (x1 : Int32) (x2 : Int32) (I : qI) : Option (Int32 × qI) :=
  q_b1 (f_X2_has (this + 13) x1 I) fun v3 =>
  if v3 = 0 then
    some ((-1000000001), I)
  else
    q_b1 (f_X8_has (this + 8) x2 I) fun v8 =>
    if v8 = 0 then
      some ((-1000000001), I)
    else
      q_b1 (q_rd I (this + 10) 6 x2) fun v16 =>
      q_b1 (f_X2_learn (this + 13) x1 x2 v16 (I (this + 1) 13) I) fun I19 =>
      some ((nI 1), I19)
set_option maxRecDepth 100000 in
set_option maxHeartbeats 4000000 in
theorem s_X11_hear {l : Launch} {Γ : qC} (hΓ : q_gm Γ) {X : qX} (hX : q_Lay X) {this : Nat} {x1 : Int32} {x2 : Int32} (k_this : q_kd X this = some (13, 9)) {I : qI} {z : Int32 × qI} (h : f_X11_hear this x1 x2 I = some z) : q_Sem l Γ (q_rm 3 0 0) yX11_hear cX11_hear 3 (some .int) [.ref this, .int x1, .int x2] I X (some (.int z.1), z.2, X) := by
  refine q_met (by decide) (Nat.le_of_ble_eq_true rfl) (fun g hg hr => ?_)
  unfold f_X11_hear at h
  show g 0 0 0 [(0, .ref this), (1, .int x1), (2, .int x2)] [] I X
  refine r_aload_n hg 0 dX11_hear_0 rfl rfl ?_
  have e1 := ly_11_0 hX k_this
  refine r_getR hg dX11_hear_1 fl_X11_10 k_this rfl e1.1 ?_
  have e2 := ly_9_2 hX e1.2
  refine r_getR hg dX11_hear_4 fl_X11_70 e1.2 rfl e2.1 ?_
  refine r_iload_n hg 1 dX11_hear_7 rfl rfl ?_
  obtain ⟨v3, e4, h⟩ := q_b1_some h
  refine r_cV1i hg dX11_hear_8 mt_X2_has ml_X11_119 mv_X2_has e2.2 (s_X2_has hΓ hX e2.2 e4) (q_room (Nat.le_of_ble_eq_true rfl) (Nat.le_of_ble_eq_true rfl)) ⟨Nat.zero_le _, Nat.zero_le _⟩ (Nat.le_of_ble_eq_true rfl) ?_
  refine r_if_eq hg 28 dX11_hear_11 (by decide) (fun c5 => ?_) (fun c5 => ?_)
  · rw [if_pos c5] at h
    refine r_ldc hg dX11_hear_28 kc_X11_57 ?_
    exact r_ireturn hr dX11_hear_30 ⟨Nat.zero_le _, Nat.zero_le _⟩ ⟨_, rfl, rfl⟩ (by cases h; rfl)
  · rw [if_neg c5] at h
    refine r_aload_n hg 0 dX11_hear_14 rfl rfl ?_
    have e6 := ly_11_0 hX k_this
    refine r_getR hg dX11_hear_15 fl_X11_10 k_this rfl e6.1 ?_
    have e7 := ly_9_1 hX e6.2
    refine r_getR hg dX11_hear_18 fl_X11_87 e6.2 rfl e7.1 ?_
    refine r_iload_n hg 2 dX11_hear_21 rfl rfl ?_
    obtain ⟨v8, e9, h⟩ := q_b1_some h
    refine r_cV1i hg dX11_hear_22 mt_X8_has ml_X11_95 mv_X8_has e7.2 (s_X8_has hΓ hX e7.2 e9) (q_room (Nat.le_of_ble_eq_true rfl) (Nat.le_of_ble_eq_true rfl)) ⟨Nat.zero_le _, Nat.zero_le _⟩ (Nat.le_of_ble_eq_true rfl) ?_
    refine r_if_ne hg 31 dX11_hear_25 (by decide) (fun c10 => ?_) (fun c10 => ?_)
    · rw [if_neg c10] at h
      refine r_aload_n hg 0 dX11_hear_31 rfl rfl ?_
      have e11 := ly_11_0 hX k_this
      refine r_getR hg dX11_hear_32 fl_X11_10 k_this rfl e11.1 ?_
      have e12 := ly_9_2 hX e11.2
      refine r_getR hg dX11_hear_35 fl_X11_70 e11.2 rfl e12.1 ?_
      refine r_iload_n hg 1 dX11_hear_38 rfl rfl ?_
      refine r_iload_n hg 2 dX11_hear_39 rfl rfl ?_
      refine r_aload_n hg 0 dX11_hear_40 rfl rfl ?_
      have e13 := ly_11_0 hX k_this
      refine r_getR hg dX11_hear_41 fl_X11_10 k_this rfl e13.1 ?_
      have e14 := ly_9_1 hX e13.2
      refine r_getR hg dX11_hear_44 fl_X11_87 e13.2 rfl e14.1 ?_
      have e15 := ly_8_1 hX e14.2
      refine r_getR hg dX11_hear_47 fl_X11_138 e14.2 rfl e15.1 ?_
      refine r_iload_n hg 2 dX11_hear_50 rfl rfl ?_
      obtain ⟨v16, e17, h⟩ := q_b1_some h
      refine r_iald hg dX11_hear_51 e15.2 e17 ?_
      refine r_aload_n hg 0 dX11_hear_52 rfl rfl ?_
      have e18 := ly_11_0 hX k_this
      refine r_getR hg dX11_hear_53 fl_X11_10 k_this rfl e18.1 ?_
      refine r_getI hg dX11_hear_56 fl_X11_141 e18.2 rfl ?_
      obtain ⟨I19, e20, h⟩ := q_b1_some h
      refine r_cV4v hg dX11_hear_59 mt_X2_learn ml_X11_144 mv_X2_learn e12.2 (s_X2_learn hΓ hX e12.2 e20) (q_room (Nat.le_of_ble_eq_true rfl) (Nat.le_of_ble_eq_true rfl)) ⟨Nat.zero_le _, Nat.zero_le _⟩ (Nat.le_of_ble_eq_true rfl) ?_
      refine r_iconst hg dX11_hear_62 ci_1 ?_
      exact r_ireturn hr dX11_hear_63 ⟨Nat.zero_le _, Nat.zero_le _⟩ ⟨_, rfl, rfl⟩ (by cases h; rfl)
    · rw [if_pos (Classical.not_not.mp c10)] at h
      refine r_ldc hg dX11_hear_28 kc_X11_57 ?_
      exact r_ireturn hr dX11_hear_30 ⟨Nat.zero_le _, Nat.zero_le _⟩ ⟨_, rfl, rfl⟩ (by cases h; rfl)

def f_X11_isFunded (x0 : Int32) (x1 : Int32) : Option (Int32) :=
  q_b1 (f_X11_within x0 (nI 0) (nI 9999)) fun v1 =>
  if v1 = 0 then
    some ((nI 0))
  else
    q_b1 (f_X11_within x1 (nI 0) (nI 99)) fun v4 =>
    if v4 = 0 then
      some ((nI 0))
    else
      some ((nI 1))
set_option maxRecDepth 100000 in
set_option maxHeartbeats 4000000 in
theorem s_X11_isFunded {l : Launch} {Γ : qC} (hΓ : q_gm Γ) {X : qX} (hX : q_Lay X) {x0 : Int32} {x1 : Int32} {I : qI} {z : Int32} (h : f_X11_isFunded x0 x1 = some z) : q_Sem l Γ (q_rm 3 0 0) yX11_isFunded cX11_isFunded 2 (some .boolean) [.int x0, .int x1] I X (some (.int z), I, X) := by
  refine q_met (by decide) (Nat.le_of_ble_eq_true rfl) (fun g hg hr => ?_)
  unfold f_X11_isFunded at h
  show g 0 0 0 [(0, .int x0), (1, .int x1)] [] I X
  refine r_iload_n hg 0 dX11_isFunded_0 rfl rfl ?_
  refine r_iconst hg dX11_isFunded_1 ci_0 ?_
  refine r_sipush hg dX11_isFunded_2 cs_9999 ?_
  obtain ⟨v1, e2, h⟩ := q_b1_some h
  refine r_cS3i hg dX11_isFunded_5 mt_X11_within ⟨ml_X11_53, mst_X11_within⟩ (s_X11_within hΓ hX e2) (q_room (Nat.le_of_ble_eq_true rfl) (Nat.le_of_ble_eq_true rfl)) ⟨Nat.zero_le _, Nat.zero_le _⟩ (Nat.le_of_ble_eq_true rfl) ?_
  refine r_if_eq hg 25 dX11_isFunded_8 (by decide) (fun c3 => ?_) (fun c3 => ?_)
  · rw [if_pos c3] at h
    refine r_iconst hg dX11_isFunded_25 ci_0 ?_
    exact r_ireturn hr dX11_isFunded_26 ⟨Nat.zero_le _, Nat.zero_le _⟩ ⟨_, rfl, bz_0.1⟩ (by cases h; rfl)
  · rw [if_neg c3] at h
    refine r_iload_n hg 1 dX11_isFunded_11 rfl rfl ?_
    refine r_iconst hg dX11_isFunded_12 ci_0 ?_
    refine r_bipush hg dX11_isFunded_13 cb_99 ?_
    obtain ⟨v4, e5, h⟩ := q_b1_some h
    refine r_cS3i hg dX11_isFunded_15 mt_X11_within ⟨ml_X11_53, mst_X11_within⟩ (s_X11_within hΓ hX e5) (q_room (Nat.le_of_ble_eq_true rfl) (Nat.le_of_ble_eq_true rfl)) ⟨Nat.zero_le _, Nat.zero_le _⟩ (Nat.le_of_ble_eq_true rfl) ?_
    refine r_if_eq hg 25 dX11_isFunded_18 (by decide) (fun c6 => ?_) (fun c6 => ?_)
    · rw [if_pos c6] at h
      refine r_iconst hg dX11_isFunded_25 ci_0 ?_
      exact r_ireturn hr dX11_isFunded_26 ⟨Nat.zero_le _, Nat.zero_le _⟩ ⟨_, rfl, bz_0.1⟩ (by cases h; rfl)
    · rw [if_neg c6] at h
      refine r_iconst hg dX11_isFunded_21 ci_1 ?_
      refine r_goto hg 26 dX11_isFunded_22 (by decide) ?_
      exact r_ireturn hr dX11_isFunded_26 ⟨Nat.zero_le _, Nat.zero_le _⟩ ⟨_, rfl, bz_1.1⟩ (by cases h; rfl)

def f_X11_known (this : Nat) (x1 : Int32) (x2 : Int32) (x3 : Int32) (I : qI) : Option (Int32) :=
  q_b1 (f_X2_has (this + 13) x1 I) fun v3 =>
  if v3 = 0 then
    some ((-1000000001))
  else
    q_b1 (f_X8_has (this + 8) x2 I) fun v8 =>
    if v8 = 0 then
      some ((-1000000001))
    else
      q_b1 (f_X11_within x3 (nI 0) (nI 1)) fun v11 =>
      if v11 = 0 then
        some ((-1000000001))
      else
        q_b1 (f_X2_knows (this + 13) x1 x2 I) fun v16 =>
        if v16 = 0 then
          some ((-1000000005))
        else
          if x3 = 0 then
            q_b1 (f_X2_priceKnown (this + 13) x1 x2 I) fun v26 =>
            some (v26)
          else
            q_b1 (f_X2_dayKnown (this + 13) x1 x2 I) fun v22 =>
            some (v22)
set_option maxRecDepth 100000 in
set_option maxHeartbeats 4000000 in
theorem s_X11_known {l : Launch} {Γ : qC} (hΓ : q_gm Γ) {X : qX} (hX : q_Lay X) {this : Nat} {x1 : Int32} {x2 : Int32} {x3 : Int32} (k_this : q_kd X this = some (13, 9)) {I : qI} {z : Int32} (h : f_X11_known this x1 x2 x3 I = some z) : q_Sem l Γ (q_rm 3 0 0) yX11_known cX11_known 4 (some .int) [.ref this, .int x1, .int x2, .int x3] I X (some (.int z), I, X) := by
  refine q_met (by decide) (Nat.le_of_ble_eq_true rfl) (fun g hg hr => ?_)
  unfold f_X11_known at h
  show g 0 0 0 [(0, .ref this), (1, .int x1), (2, .int x2), (3, .int x3)] [] I X
  refine r_aload_n hg 0 dX11_known_0 rfl rfl ?_
  have e1 := ly_11_0 hX k_this
  refine r_getR hg dX11_known_1 fl_X11_10 k_this rfl e1.1 ?_
  have e2 := ly_9_2 hX e1.2
  refine r_getR hg dX11_known_4 fl_X11_70 e1.2 rfl e2.1 ?_
  refine r_iload_n hg 1 dX11_known_7 rfl rfl ?_
  obtain ⟨v3, e4, h⟩ := q_b1_some h
  refine r_cV1i hg dX11_known_8 mt_X2_has ml_X11_119 mv_X2_has e2.2 (s_X2_has hΓ hX e2.2 e4) (q_room (Nat.le_of_ble_eq_true rfl) (Nat.le_of_ble_eq_true rfl)) ⟨Nat.zero_le _, Nat.zero_le _⟩ (Nat.le_of_ble_eq_true rfl) ?_
  refine r_if_eq hg 37 dX11_known_11 (by decide) (fun c5 => ?_) (fun c5 => ?_)
  · rw [if_pos c5] at h
    refine r_ldc hg dX11_known_37 kc_X11_57 ?_
    exact r_ireturn hr dX11_known_39 ⟨Nat.zero_le _, Nat.zero_le _⟩ ⟨_, rfl, rfl⟩ (by cases h; rfl)
  · rw [if_neg c5] at h
    refine r_aload_n hg 0 dX11_known_14 rfl rfl ?_
    have e6 := ly_11_0 hX k_this
    refine r_getR hg dX11_known_15 fl_X11_10 k_this rfl e6.1 ?_
    have e7 := ly_9_1 hX e6.2
    refine r_getR hg dX11_known_18 fl_X11_87 e6.2 rfl e7.1 ?_
    refine r_iload_n hg 2 dX11_known_21 rfl rfl ?_
    obtain ⟨v8, e9, h⟩ := q_b1_some h
    refine r_cV1i hg dX11_known_22 mt_X8_has ml_X11_95 mv_X8_has e7.2 (s_X8_has hΓ hX e7.2 e9) (q_room (Nat.le_of_ble_eq_true rfl) (Nat.le_of_ble_eq_true rfl)) ⟨Nat.zero_le _, Nat.zero_le _⟩ (Nat.le_of_ble_eq_true rfl) ?_
    refine r_if_eq hg 37 dX11_known_25 (by decide) (fun c10 => ?_) (fun c10 => ?_)
    · rw [if_pos c10] at h
      refine r_ldc hg dX11_known_37 kc_X11_57 ?_
      exact r_ireturn hr dX11_known_39 ⟨Nat.zero_le _, Nat.zero_le _⟩ ⟨_, rfl, rfl⟩ (by cases h; rfl)
    · rw [if_neg c10] at h
      refine r_iload_n hg 3 dX11_known_28 rfl rfl ?_
      refine r_iconst hg dX11_known_29 ci_0 ?_
      refine r_iconst hg dX11_known_30 ci_1 ?_
      obtain ⟨v11, e12, h⟩ := q_b1_some h
      refine r_cS3i hg dX11_known_31 mt_X11_within ⟨ml_X11_53, mst_X11_within⟩ (s_X11_within hΓ hX e12) (q_room (Nat.le_of_ble_eq_true rfl) (Nat.le_of_ble_eq_true rfl)) ⟨Nat.zero_le _, Nat.zero_le _⟩ (Nat.le_of_ble_eq_true rfl) ?_
      refine r_if_ne hg 40 dX11_known_34 (by decide) (fun c13 => ?_) (fun c13 => ?_)
      · rw [if_neg c13] at h
        refine r_aload_n hg 0 dX11_known_40 rfl rfl ?_
        have e14 := ly_11_0 hX k_this
        refine r_getR hg dX11_known_41 fl_X11_10 k_this rfl e14.1 ?_
        have e15 := ly_9_2 hX e14.2
        refine r_getR hg dX11_known_44 fl_X11_70 e14.2 rfl e15.1 ?_
        refine r_iload_n hg 1 dX11_known_47 rfl rfl ?_
        refine r_iload_n hg 2 dX11_known_48 rfl rfl ?_
        obtain ⟨v16, e17, h⟩ := q_b1_some h
        refine r_cV2i hg dX11_known_49 mt_X2_knows ml_X11_127 mv_X2_knows e15.2 (s_X2_knows hΓ hX e15.2 e17) (q_room (Nat.le_of_ble_eq_true rfl) (Nat.le_of_ble_eq_true rfl)) ⟨Nat.zero_le _, Nat.zero_le _⟩ (Nat.le_of_ble_eq_true rfl) ?_
        refine r_if_ne hg 58 dX11_known_52 (by decide) (fun c18 => ?_) (fun c18 => ?_)
        · rw [if_neg c18] at h
          refine r_iload_n hg 3 dX11_known_58 rfl rfl ?_
          refine r_if_ne hg 77 dX11_known_59 (by decide) (fun c19 => ?_) (fun c19 => ?_)
          · rw [if_neg c19] at h
            refine r_aload_n hg 0 dX11_known_77 rfl rfl ?_
            have e20 := ly_11_0 hX k_this
            refine r_getR hg dX11_known_78 fl_X11_10 k_this rfl e20.1 ?_
            have e21 := ly_9_2 hX e20.2
            refine r_getR hg dX11_known_81 fl_X11_70 e20.2 rfl e21.1 ?_
            refine r_iload_n hg 1 dX11_known_84 rfl rfl ?_
            refine r_iload_n hg 2 dX11_known_85 rfl rfl ?_
            obtain ⟨v22, e23, h⟩ := q_b1_some h
            refine r_cV2i hg dX11_known_86 mt_X2_dayKnown ml_X11_135 mv_X2_dayKnown e21.2 (s_X2_dayKnown hΓ hX e21.2 e23) (q_room (Nat.le_of_ble_eq_true rfl) (Nat.le_of_ble_eq_true rfl)) ⟨Nat.zero_le _, Nat.zero_le _⟩ (Nat.le_of_ble_eq_true rfl) ?_
            exact r_ireturn hr dX11_known_89 ⟨Nat.zero_le _, Nat.zero_le _⟩ ⟨_, rfl, rfl⟩ (by cases h; rfl)
          · rw [if_pos (Classical.not_not.mp c19)] at h
            refine r_aload_n hg 0 dX11_known_62 rfl rfl ?_
            have e24 := ly_11_0 hX k_this
            refine r_getR hg dX11_known_63 fl_X11_10 k_this rfl e24.1 ?_
            have e25 := ly_9_2 hX e24.2
            refine r_getR hg dX11_known_66 fl_X11_70 e24.2 rfl e25.1 ?_
            refine r_iload_n hg 1 dX11_known_69 rfl rfl ?_
            refine r_iload_n hg 2 dX11_known_70 rfl rfl ?_
            obtain ⟨v26, e27, h⟩ := q_b1_some h
            refine r_cV2i hg dX11_known_71 mt_X2_priceKnown ml_X11_131 mv_X2_priceKnown e25.2 (s_X2_priceKnown hΓ hX e25.2 e27) (q_room (Nat.le_of_ble_eq_true rfl) (Nat.le_of_ble_eq_true rfl)) ⟨Nat.zero_le _, Nat.zero_le _⟩ (Nat.le_of_ble_eq_true rfl) ?_
            refine r_goto hg 89 dX11_known_74 (by decide) ?_
            exact r_ireturn hr dX11_known_89 ⟨Nat.zero_le _, Nat.zero_le _⟩ ⟨_, rfl, rfl⟩ (by cases h; rfl)
        · rw [if_pos (Classical.not_not.mp c18)] at h
          refine r_ldc hg dX11_known_55 kc_X11_130 ?_
          exact r_ireturn hr dX11_known_57 ⟨Nat.zero_le _, Nat.zero_le _⟩ ⟨_, rfl, rfl⟩ (by cases h; rfl)
      · rw [if_pos (Classical.not_not.mp c13)] at h
        refine r_ldc hg dX11_known_37 kc_X11_57 ?_
        exact r_ireturn hr dX11_known_39 ⟨Nat.zero_le _, Nat.zero_le _⟩ ⟨_, rfl, rfl⟩ (by cases h; rfl)

def b_X11_let_82 (this : Nat) (x1 : Int32) (s2 : Int32) (I : qI) : Option (Int32 × qI) :=
  q_b1 (q_wr I (this + 34) 60 x1 s2) fun I4 =>
  some ((nI 1), I4)
set_option maxRecDepth 100000 in
set_option maxHeartbeats 4000000 in
theorem p_X11_let_82 {l : Launch} {Γ : qC} {g : qG} {z : Int32 × qI} {this : Nat} {x1 : Int32} {X : qX} (hΓ : q_gm Γ) (hg : q_Ok l Γ RX11 cX11_let 3 (q_rm 3 0 0) "let" (some .int) g) (hr : q_Rt cX11_let (some .int) (q_rm 3 0 0) (some (.int z.1), z.2, X) g) (hX : q_Lay X) (k_this : q_kd X this = some (13, 9)) (s2 : Int32) (I : qI) (h : b_X11_let_82 this x1 s2 I = some z) : g 0 0 82 [] [.int s2, .int x1, .ref (this + 34)] I X := by
  unfold b_X11_let_82 at h
  have e1 := ly_11_0 hX k_this
  have e2 := ly_9_3 hX e1.2
  have e3 := ly_1_5 hX e2.2
  obtain ⟨I4, e5, h⟩ := q_b1_some h
  refine r_iast hg dX11_let_82 e3.2 e5 ?_
  refine r_iconst hg dX11_let_83 ci_1 ?_
  exact r_ireturn hr dX11_let_84 ⟨Nat.zero_le _, Nat.zero_le _⟩ ⟨_, rfl, rfl⟩ (by cases h; rfl)
def b_X11_let_43 (this : Nat) (x1 : Int32) (x2 : Int32) (I : qI) : Option (Int32 × qI) :=
  q_b1 (q_rd I (this + 34) 60 x1) fun v4 =>
  if v4 = 0 then
    if x2 = (nI 5) then
      b_X11_let_82 this x1 (nI 1) I
    else
      b_X11_let_82 this x1 (nI 2) I
  else
    some ((-1000000002), I)
set_option maxRecDepth 100000 in
set_option maxHeartbeats 4000000 in
theorem p_X11_let_43 {l : Launch} {Γ : qC} {g : qG} {z : Int32 × qI} {this : Nat} {x1 : Int32} {X : qX} (hΓ : q_gm Γ) (hg : q_Ok l Γ RX11 cX11_let 3 (q_rm 3 0 0) "let" (some .int) g) (hr : q_Rt cX11_let (some .int) (q_rm 3 0 0) (some (.int z.1), z.2, X) g) (hX : q_Lay X) (k_this : q_kd X this = some (13, 9)) (x2 : Int32) (I : qI) (h : b_X11_let_43 this x1 x2 I = some z) : g 0 0 43 [(0, .ref this), (1, .int x1), (2, .int x2)] [] I X := by
  unfold b_X11_let_43 at h
  refine r_aload_n hg 0 dX11_let_43 rfl rfl ?_
  have e1 := ly_11_0 hX k_this
  refine r_getR hg dX11_let_44 fl_X11_10 k_this rfl e1.1 ?_
  have e2 := ly_9_3 hX e1.2
  refine r_getR hg dX11_let_47 fl_X11_107 e1.2 rfl e2.1 ?_
  have e3 := ly_1_5 hX e2.2
  refine r_getR hg dX11_let_50 fl_X11_180 e2.2 rfl e3.1 ?_
  refine r_iload_n hg 1 dX11_let_53 rfl rfl ?_
  obtain ⟨v4, e5, h⟩ := q_b1_some h
  refine r_iald hg dX11_let_54 e3.2 e5 ?_
  refine r_if_eq hg 61 dX11_let_55 (by decide) (fun c6 => ?_) (fun c6 => ?_)
  · rw [if_pos c6] at h
    refine r_aload_n hg 0 dX11_let_61 rfl rfl ?_
    have e7 := ly_11_0 hX k_this
    refine r_getR hg dX11_let_62 fl_X11_10 k_this rfl e7.1 ?_
    have e8 := ly_9_3 hX e7.2
    refine r_getR hg dX11_let_65 fl_X11_107 e7.2 rfl e8.1 ?_
    have e9 := ly_1_5 hX e8.2
    refine r_getR hg dX11_let_68 fl_X11_180 e8.2 rfl e9.1 ?_
    refine r_iload_n hg 1 dX11_let_71 rfl rfl ?_
    refine r_iload_n hg 2 dX11_let_72 rfl rfl ?_
    refine r_iconst hg dX11_let_73 ci_5 ?_
    refine r_icmp_ne hg 81 dX11_let_74 (by decide) (fun c10 => ?_) (fun c10 => ?_)
    · rw [if_neg c10] at h
      refine r_iconst hg dX11_let_81 ci_2 ?_
      refine r_sub hg [] rfl ?_
      exact p_X11_let_82 hΓ hg hr hX k_this _ _ h
    · rw [if_pos (Classical.not_not.mp c10)] at h
      refine r_iconst hg dX11_let_77 ci_1 ?_
      refine r_goto hg 82 dX11_let_78 (by decide) ?_
      refine r_sub hg [] rfl ?_
      exact p_X11_let_82 hΓ hg hr hX k_this _ _ h
  · rw [if_neg c6] at h
    refine r_ldc hg dX11_let_58 kc_X11_171 ?_
    exact r_ireturn hr dX11_let_60 ⟨Nat.zero_le _, Nat.zero_le _⟩ ⟨_, rfl, rfl⟩ (by cases h; rfl)
def f_X11_let (this : Nat) (x1 : Int32) (I : qI) : Option (Int32 × qI) :=
  q_b1 (f_X1_has (this + 28) x1 I) fun v3 =>
  if v3 = 0 then
    some ((-1000000001), I)
  else
    q_b1 (q_rd I (this + 29) 60 x1) fun v9 =>
    if v9 = (nI 5) then
      b_X11_let_43 this x1 v9 I
    else
      if v9 = (nI 4) then
        b_X11_let_43 this x1 v9 I
      else
        some ((-1000000012), I)
set_option maxRecDepth 100000 in
set_option maxHeartbeats 4000000 in
theorem s_X11_let {l : Launch} {Γ : qC} (hΓ : q_gm Γ) {X : qX} (hX : q_Lay X) {this : Nat} {x1 : Int32} (k_this : q_kd X this = some (13, 9)) {I : qI} {z : Int32 × qI} (h : f_X11_let this x1 I = some z) : q_Sem l Γ (q_rm 3 0 0) yX11_let cX11_let 3 (some .int) [.ref this, .int x1] I X (some (.int z.1), z.2, X) := by
  refine q_met (by decide) (Nat.le_of_ble_eq_true rfl) (fun g hg hr => ?_)
  unfold f_X11_let at h
  show g 0 0 0 [(0, .ref this), (1, .int x1)] [] I X
  refine r_aload_n hg 0 dX11_let_0 rfl rfl ?_
  have e1 := ly_11_0 hX k_this
  refine r_getR hg dX11_let_1 fl_X11_10 k_this rfl e1.1 ?_
  have e2 := ly_9_3 hX e1.2
  refine r_getR hg dX11_let_4 fl_X11_107 e1.2 rfl e2.1 ?_
  refine r_iload_n hg 1 dX11_let_7 rfl rfl ?_
  obtain ⟨v3, e4, h⟩ := q_b1_some h
  refine r_cV1i hg dX11_let_8 mt_X1_has ml_X11_175 mv_X1_has e2.2 (s_X1_has hΓ hX e2.2 e4) (q_room (Nat.le_of_ble_eq_true rfl) (Nat.le_of_ble_eq_true rfl)) ⟨Nat.zero_le _, Nat.zero_le _⟩ (Nat.le_of_ble_eq_true rfl) ?_
  refine r_if_ne hg 17 dX11_let_11 (by decide) (fun c5 => ?_) (fun c5 => ?_)
  · rw [if_neg c5] at h
    refine r_aload_n hg 0 dX11_let_17 rfl rfl ?_
    have e6 := ly_11_0 hX k_this
    refine r_getR hg dX11_let_18 fl_X11_10 k_this rfl e6.1 ?_
    have e7 := ly_9_3 hX e6.2
    refine r_getR hg dX11_let_21 fl_X11_107 e6.2 rfl e7.1 ?_
    have e8 := ly_1_0 hX e7.2
    refine r_getR hg dX11_let_24 fl_X11_176 e7.2 rfl e8.1 ?_
    refine r_iload_n hg 1 dX11_let_27 rfl rfl ?_
    obtain ⟨v9, e10, h⟩ := q_b1_some h
    refine r_iald hg dX11_let_28 e8.2 e10 ?_
    refine r_istore_n hg (L' := [(2, .int v9), (0, .ref this), (1, .int x1)]) dX11_let_29 rfl (by decide) rfl ?_
    refine r_iload_n hg 0 dX11_let_30 rfl rfl ?_
    refine r_iconst hg dX11_let_31 ci_5 ?_
    refine r_icmp_eq hg 43 dX11_let_32 (by decide) (fun c11 => ?_) (fun c11 => ?_)
    · rw [if_pos c11] at h
      refine r_sub hg [1, 2, 0] rfl ?_
      exact p_X11_let_43 hΓ hg hr hX k_this _ _ h
    · rw [if_neg c11] at h
      refine r_iload_n hg 0 dX11_let_35 rfl rfl ?_
      refine r_iconst hg dX11_let_36 ci_4 ?_
      refine r_icmp_eq hg 43 dX11_let_37 (by decide) (fun c12 => ?_) (fun c12 => ?_)
      · rw [if_pos c12] at h
        refine r_sub hg [1, 2, 0] rfl ?_
        exact p_X11_let_43 hΓ hg hr hX k_this _ _ h
      · rw [if_neg c12] at h
        refine r_ldc hg dX11_let_40 kc_X11_179 ?_
        exact r_ireturn hr dX11_let_42 ⟨Nat.zero_le _, Nat.zero_le _⟩ ⟨_, rfl, rfl⟩ (by cases h; rfl)
  · rw [if_pos (Classical.not_not.mp c5)] at h
    refine r_ldc hg dX11_let_14 kc_X11_57 ?_
    exact r_ireturn hr dX11_let_16 ⟨Nat.zero_le _, Nat.zero_le _⟩ ⟨_, rfl, rfl⟩ (by cases h; rfl)

def f_X11_looked (x0 : Option Nat) (x1 : Int32) (X : qX) (I : qI) : Option (Int32) :=
  q_on x0 (
    some ((-1000000001))
  ) fun a2 =>
  q_b2 (q_arr X (some a2)) fun a3 n4 =>
  q_b1 (f_X11_within x1 (nI 0) ((nI n4) - (nI 1))) fun v8 =>
  if v8 = 0 then
    some ((-1000000001))
  else
    q_b1 (q_rd I a3 n4 x1) fun v11 =>
    some (v11)
set_option maxRecDepth 100000 in
set_option maxHeartbeats 4000000 in
theorem s_X11_looked {l : Launch} {Γ : qC} (hΓ : q_gm Γ) {X : qX} (hX : q_Lay X) {x0 : Option Nat} {x1 : Int32} {I : qI} {z : Int32} (h : f_X11_looked x0 x1 X I = some z) : q_Sem l Γ (q_rm 3 0 0) yX11_looked cX11_looked 2 (some .int) [va_rf x0, .int x1] I X (some (.int z), I, X) := by
  refine q_met (by decide) (by cases x0 <;> exact Nat.le_of_ble_eq_true rfl) (fun g hg hr => ?_)
  unfold f_X11_looked at h
  have eL : lv_args 0 [va_rf x0, .int x1] = [(0, va_rf x0), (1, .int x1)] := by cases x0 <;> rfl
  rw [eL]
  refine r_aloadq_n hg 0 dX11_looked_0 rfl rfl ?_
  refine r_ifnull hg 16 dX11_looked_1 (by decide) (fun e1 => ?_) (fun a2 e1 => ?_)
  · subst e1
    simp only [q_on] at h
    refine r_ldc hg dX11_looked_16 kc_X11_57 ?_
    refine r_goto hg 24 dX11_looked_18 (by decide) ?_
    exact r_ireturn hr dX11_looked_24 ⟨Nat.zero_le _, Nat.zero_le _⟩ ⟨_, rfl, rfl⟩ (by cases h; rfl)
  · subst e1
    simp only [q_on] at h
    refine r_iload_n hg 1 dX11_looked_4 rfl rfl ?_
    refine r_iconst hg dX11_looked_5 ci_0 ?_
    refine r_aloadq_n hg 0 dX11_looked_6 rfl rfl ?_
    replace h := q_b2_some h
    obtain ⟨a3, n4, e5, h⟩ := h
    obtain ⟨e7, k6⟩ := q_arr_some e5
    obtain rfl := Option.some.inj e7
    refine r_alen hg dX11_looked_7 k6 ?_
    refine r_iconst hg dX11_looked_8 ci_1 ?_
    refine r_isub hg dX11_looked_9 ?_
    obtain ⟨v8, e9, h⟩ := q_b1_some h
    refine r_cS3i hg dX11_looked_10 mt_X11_within ⟨ml_X11_53, mst_X11_within⟩ (s_X11_within hΓ hX e9) (q_room (Nat.le_of_ble_eq_true rfl) (Nat.le_of_ble_eq_true rfl)) ⟨Nat.zero_le _, Nat.zero_le _⟩ (Nat.le_of_ble_eq_true rfl) ?_
    refine r_if_ne hg 21 dX11_looked_13 (by decide) (fun c10 => ?_) (fun c10 => ?_)
    · rw [if_neg c10] at h
      refine r_aload_n hg 0 dX11_looked_21 rfl rfl ?_
      refine r_iload_n hg 1 dX11_looked_22 rfl rfl ?_
      obtain ⟨v11, e12, h⟩ := q_b1_some h
      refine r_iald hg dX11_looked_23 k6 e12 ?_
      exact r_ireturn hr dX11_looked_24 ⟨Nat.zero_le _, Nat.zero_le _⟩ ⟨_, rfl, rfl⟩ (by cases h; rfl)
    · rw [if_pos (Classical.not_not.mp c10)] at h
      refine r_ldc hg dX11_looked_16 kc_X11_57 ?_
      refine r_goto hg 24 dX11_looked_18 (by decide) ?_
      exact r_ireturn hr dX11_looked_24 ⟨Nat.zero_le _, Nat.zero_le _⟩ ⟨_, rfl, rfl⟩ (by cases h; rfl)

def f_X11_newDue (this : Nat) (x1 : Int32) (x2 : Int32) (x3 : Int32) (x4 : Int32) (I : qI) : Option (Int32 × qI) :=
  q_b1 (f_X2_has (this + 13) x2 I) fun v3 =>
  if v3 = 0 then
    some ((-1000000001), I)
  else
    q_b1 (f_X11_within x3 (nI 1) (nI 999)) fun v6 =>
    if v6 = 0 then
      some ((-1000000001), I)
    else
      q_b1 (f_X11_within x4 (nI 0) (nI 9)) fun v9 =>
      if v9 = 0 then
        some ((-1000000001), I)
      else
        q_b1 (f_X2_isGone (this + 13) x2 I) fun v14 =>
        if v14 = 0 then
          q_b2 (f_X1_added (this + 28) x1 x2 x3 x4 (I (this + 1) 13) I) fun v20 I21 =>
          some (v20, I21)
        else
          some ((-1000000002), I)
set_option maxRecDepth 100000 in
set_option maxHeartbeats 4000000 in
theorem s_X11_newDue {l : Launch} {Γ : qC} (hΓ : q_gm Γ) {X : qX} (hX : q_Lay X) {this : Nat} {x1 : Int32} {x2 : Int32} {x3 : Int32} {x4 : Int32} (k_this : q_kd X this = some (13, 9)) {I : qI} {z : Int32 × qI} (h : f_X11_newDue this x1 x2 x3 x4 I = some z) : q_Sem l Γ (q_rm 3 0 0) yX11_newDue cX11_newDue 5 (some .int) [.ref this, .int x1, .int x2, .int x3, .int x4] I X (some (.int z.1), z.2, X) := by
  refine q_met (by decide) (Nat.le_of_ble_eq_true rfl) (fun g hg hr => ?_)
  unfold f_X11_newDue at h
  show g 0 0 0 [(0, .ref this), (1, .int x1), (2, .int x2), (3, .int x3), (4, .int x4)] [] I X
  refine r_aload_n hg 0 dX11_newDue_0 rfl rfl ?_
  have e1 := ly_11_0 hX k_this
  refine r_getR hg dX11_newDue_1 fl_X11_10 k_this rfl e1.1 ?_
  have e2 := ly_9_2 hX e1.2
  refine r_getR hg dX11_newDue_4 fl_X11_70 e1.2 rfl e2.1 ?_
  refine r_iload_n hg 2 dX11_newDue_7 rfl rfl ?_
  obtain ⟨v3, e4, h⟩ := q_b1_some h
  refine r_cV1i hg dX11_newDue_8 mt_X2_has ml_X11_119 mv_X2_has e2.2 (s_X2_has hΓ hX e2.2 e4) (q_room (Nat.le_of_ble_eq_true rfl) (Nat.le_of_ble_eq_true rfl)) ⟨Nat.zero_le _, Nat.zero_le _⟩ (Nat.le_of_ble_eq_true rfl) ?_
  refine r_if_eq hg 36 dX11_newDue_11 (by decide) (fun c5 => ?_) (fun c5 => ?_)
  · rw [if_pos c5] at h
    refine r_ldc hg dX11_newDue_36 kc_X11_57 ?_
    exact r_ireturn hr dX11_newDue_38 ⟨Nat.zero_le _, Nat.zero_le _⟩ ⟨_, rfl, rfl⟩ (by cases h; rfl)
  · rw [if_neg c5] at h
    refine r_iload_n hg 3 dX11_newDue_14 rfl rfl ?_
    refine r_iconst hg dX11_newDue_15 ci_1 ?_
    refine r_sipush hg dX11_newDue_16 cs_999 ?_
    obtain ⟨v6, e7, h⟩ := q_b1_some h
    refine r_cS3i hg dX11_newDue_19 mt_X11_within ⟨ml_X11_53, mst_X11_within⟩ (s_X11_within hΓ hX e7) (q_room (Nat.le_of_ble_eq_true rfl) (Nat.le_of_ble_eq_true rfl)) ⟨Nat.zero_le _, Nat.zero_le _⟩ (Nat.le_of_ble_eq_true rfl) ?_
    refine r_if_eq hg 36 dX11_newDue_22 (by decide) (fun c8 => ?_) (fun c8 => ?_)
    · rw [if_pos c8] at h
      refine r_ldc hg dX11_newDue_36 kc_X11_57 ?_
      exact r_ireturn hr dX11_newDue_38 ⟨Nat.zero_le _, Nat.zero_le _⟩ ⟨_, rfl, rfl⟩ (by cases h; rfl)
    · rw [if_neg c8] at h
      refine r_iload hg 4 dX11_newDue_25 rfl ?_
      refine r_iconst hg dX11_newDue_27 ci_0 ?_
      refine r_bipush hg dX11_newDue_28 cb_9 ?_
      obtain ⟨v9, e10, h⟩ := q_b1_some h
      refine r_cS3i hg dX11_newDue_30 mt_X11_within ⟨ml_X11_53, mst_X11_within⟩ (s_X11_within hΓ hX e10) (q_room (Nat.le_of_ble_eq_true rfl) (Nat.le_of_ble_eq_true rfl)) ⟨Nat.zero_le _, Nat.zero_le _⟩ (Nat.le_of_ble_eq_true rfl) ?_
      refine r_if_ne hg 39 dX11_newDue_33 (by decide) (fun c11 => ?_) (fun c11 => ?_)
      · rw [if_neg c11] at h
        refine r_aload_n hg 0 dX11_newDue_39 rfl rfl ?_
        have e12 := ly_11_0 hX k_this
        refine r_getR hg dX11_newDue_40 fl_X11_10 k_this rfl e12.1 ?_
        have e13 := ly_9_2 hX e12.2
        refine r_getR hg dX11_newDue_43 fl_X11_70 e12.2 rfl e13.1 ?_
        refine r_iload_n hg 2 dX11_newDue_46 rfl rfl ?_
        obtain ⟨v14, e15, h⟩ := q_b1_some h
        refine r_cV1i hg dX11_newDue_47 mt_X2_isGone ml_X11_168 mv_X2_isGone e13.2 (s_X2_isGone hΓ hX e13.2 e15) (q_room (Nat.le_of_ble_eq_true rfl) (Nat.le_of_ble_eq_true rfl)) ⟨Nat.zero_le _, Nat.zero_le _⟩ (Nat.le_of_ble_eq_true rfl) ?_
        refine r_if_eq hg 56 dX11_newDue_50 (by decide) (fun c16 => ?_) (fun c16 => ?_)
        · rw [if_pos c16] at h
          refine r_aload_n hg 0 dX11_newDue_56 rfl rfl ?_
          have e17 := ly_11_0 hX k_this
          refine r_getR hg dX11_newDue_57 fl_X11_10 k_this rfl e17.1 ?_
          have e18 := ly_9_3 hX e17.2
          refine r_getR hg dX11_newDue_60 fl_X11_107 e17.2 rfl e18.1 ?_
          refine r_iload_n hg 1 dX11_newDue_63 rfl rfl ?_
          refine r_iload_n hg 2 dX11_newDue_64 rfl rfl ?_
          refine r_iload_n hg 3 dX11_newDue_65 rfl rfl ?_
          refine r_iload hg 4 dX11_newDue_66 rfl ?_
          refine r_aload_n hg 0 dX11_newDue_68 rfl rfl ?_
          have e19 := ly_11_0 hX k_this
          refine r_getR hg dX11_newDue_69 fl_X11_10 k_this rfl e19.1 ?_
          refine r_getI hg dX11_newDue_72 fl_X11_141 e19.2 rfl ?_
          obtain ⟨v20, I21, e22, h⟩ := q_b2_some h
          refine r_cV5i hg dX11_newDue_75 mt_X1_added ml_X11_172 mv_X1_added e18.2 (s_X1_added hΓ hX e18.2 e22) (q_room (Nat.le_of_ble_eq_true rfl) (Nat.le_of_ble_eq_true rfl)) ⟨Nat.zero_le _, Nat.zero_le _⟩ (Nat.le_of_ble_eq_true rfl) ?_
          exact r_ireturn hr dX11_newDue_78 ⟨Nat.zero_le _, Nat.zero_le _⟩ ⟨_, rfl, rfl⟩ (by cases h; rfl)
        · rw [if_neg c16] at h
          refine r_ldc hg dX11_newDue_53 kc_X11_171 ?_
          exact r_ireturn hr dX11_newDue_55 ⟨Nat.zero_le _, Nat.zero_le _⟩ ⟨_, rfl, rfl⟩ (by cases h; rfl)
      · rw [if_pos (Classical.not_not.mp c11)] at h
        refine r_ldc hg dX11_newDue_36 kc_X11_57 ?_
        exact r_ireturn hr dX11_newDue_38 ⟨Nat.zero_le _, Nat.zero_le _⟩ ⟨_, rfl, rfl⟩ (by cases h; rfl)

def b_X11_prove_69 (this : Nat) (x1 : Int32) (x2 : Int32) (x3 : Int32) (x4 : Int32) (I : qI) (s0 : Int64) (s1 : Int32) : Option (Int32) :=
  if 0 < (lg_cmp (s0 * s1.toInt64) (0 : Int64)) then
    q_b1 (q_rd I (this + 6) 8 x1) fun v5 =>
    if (s0 * s1.toInt64) = 0 then none else
    some (((v5.toInt64 * (100 : Int64)) / (s0 * s1.toInt64)).toInt32)
  else
    some ((-1000000005))
set_option maxRecDepth 100000 in
set_option maxHeartbeats 4000000 in
theorem p_X11_prove_69 {l : Launch} {Γ : qC} {g : qG} {z : Int32} {this : Nat} {x1 : Int32} {x2 : Int32} {x3 : Int32} {x4 : Int32} {X : qX} {I : qI} (hΓ : q_gm Γ) (hg : q_Ok l Γ RX11 cX11_prove 7 (q_rm 3 0 0) "prove" (some .int) g) (hr : q_Rt cX11_prove (some .int) (q_rm 3 0 0) (some (.int z), I, X) g) (hX : q_Lay X) (k_this : q_kd X this = some (13, 9)) (s0 : Int64) (s1 : Int32) (h : b_X11_prove_69 this x1 x2 x3 x4 I s0 s1 = some z) : g 0 0 69 [(0, .ref this), (1, .int x1)] [.int s1, .long s0] I X := by
  unfold b_X11_prove_69 at h
  refine r_i2l hg dX11_prove_69 ?_
  refine r_lmul hg dX11_prove_70 ?_
  refine r_lstore hg (L' := [(5, .long (s0 * s1.toInt64)), (0, .ref this), (1, .int x1)]) dX11_prove_71 (by decide) rfl ?_
  refine r_lload hg 0 dX11_prove_73 rfl ?_
  refine r_lconst hg dX11_prove_75 lc_0 ?_
  refine r_lcmp hg dX11_prove_76 ?_
  refine r_if_gt hg 85 dX11_prove_77 (by decide) (fun c1 => ?_) (fun c1 => ?_)
  · rw [if_pos c1] at h
    refine r_aload_n hg 1 dX11_prove_85 rfl rfl ?_
    have e2 := ly_11_0 hX k_this
    refine r_getR hg dX11_prove_86 fl_X11_10 k_this rfl e2.1 ?_
    have e3 := ly_9_0 hX e2.2
    refine r_getR hg dX11_prove_89 fl_X11_58 e2.2 rfl e3.1 ?_
    have e4 := ly_3_3 hX e3.2
    refine r_getR hg dX11_prove_92 fl_X11_216 e3.2 rfl e4.1 ?_
    refine r_iload_n hg 2 dX11_prove_95 rfl rfl ?_
    obtain ⟨v5, e6, h⟩ := q_b1_some h
    refine r_iald hg dX11_prove_96 e4.2 e6 ?_
    refine r_i2l hg dX11_prove_97 ?_
    refine r_ldc2 hg dX11_prove_98 kl_X11_219 ?_
    refine r_lmul hg dX11_prove_101 ?_
    refine r_lload hg 0 dX11_prove_102 rfl ?_
    by_cases c7 : (s0 * s1.toInt64) = 0
    · rw [if_pos c7] at h; cases h
    rw [if_neg c7] at h
    refine r_ldiv hg dX11_prove_104 c7 ?_
    refine r_l2i hg dX11_prove_105 ?_
    exact r_ireturn hr dX11_prove_106 ⟨Nat.zero_le _, Nat.zero_le _⟩ ⟨_, rfl, rfl⟩ (by cases h; rfl)
  · rw [if_neg c1] at h
    refine r_ldc hg dX11_prove_80 kc_X11_130 ?_
    refine r_goto hg 106 dX11_prove_82 (by decide) ?_
    exact r_ireturn hr dX11_prove_106 ⟨Nat.zero_le _, Nat.zero_le _⟩ ⟨_, rfl, rfl⟩ (by cases h; rfl)
def f_X11_prove (this : Nat) (x1 : Int32) (x2 : Int32) (x3 : Int32) (x4 : Int32) (I : qI) : Option (Int32) :=
  q_b1 (f_X11_within x1 (nI 0) (nI 7)) fun v1 =>
  if v1 = 0 then
    some ((-1000000001))
  else
    q_b1 (f_X11_within x4 (nI 0) (nI 1)) fun v4 =>
    if v4 = 0 then
      some ((-1000000001))
    else
      q_b1 (f_X11_within x2 (nI 1) (nI 99)) fun v7 =>
      if v7 = 0 then
        some ((-1000000001))
      else
        q_b1 (f_X11_within x3 x2 (nI 99)) fun v10 =>
        if v10 = 0 then
          some ((-1000000001))
        else
          q_b1 (q_rd I (this + 7) 8 x1) fun v16 =>
          if x4 = 0 then
            b_X11_prove_69 this x1 x2 x3 x4 I v16.toInt64 x3
          else
            b_X11_prove_69 this x1 x2 x3 x4 I v16.toInt64 x2
set_option maxRecDepth 100000 in
set_option maxHeartbeats 4000000 in
theorem s_X11_prove {l : Launch} {Γ : qC} (hΓ : q_gm Γ) {X : qX} (hX : q_Lay X) {this : Nat} {x1 : Int32} {x2 : Int32} {x3 : Int32} {x4 : Int32} (k_this : q_kd X this = some (13, 9)) {I : qI} {z : Int32} (h : f_X11_prove this x1 x2 x3 x4 I = some z) : q_Sem l Γ (q_rm 3 0 0) yX11_prove cX11_prove 7 (some .int) [.ref this, .int x1, .int x2, .int x3, .int x4] I X (some (.int z), I, X) := by
  refine q_met (by decide) (Nat.le_of_ble_eq_true rfl) (fun g hg hr => ?_)
  unfold f_X11_prove at h
  show g 0 0 0 [(0, .ref this), (1, .int x1), (2, .int x2), (3, .int x3), (4, .int x4)] [] I X
  refine r_iload_n hg 1 dX11_prove_0 rfl rfl ?_
  refine r_iconst hg dX11_prove_1 ci_0 ?_
  refine r_bipush hg dX11_prove_2 cb_7 ?_
  obtain ⟨v1, e2, h⟩ := q_b1_some h
  refine r_cS3i hg dX11_prove_4 mt_X11_within ⟨ml_X11_53, mst_X11_within⟩ (s_X11_within hΓ hX e2) (q_room (Nat.le_of_ble_eq_true rfl) (Nat.le_of_ble_eq_true rfl)) ⟨Nat.zero_le _, Nat.zero_le _⟩ (Nat.le_of_ble_eq_true rfl) ?_
  refine r_if_eq hg 20 dX11_prove_7 (by decide) (fun c3 => ?_) (fun c3 => ?_)
  · rw [if_pos c3] at h
    refine r_ldc hg dX11_prove_20 kc_X11_57 ?_
    exact r_ireturn hr dX11_prove_22 ⟨Nat.zero_le _, Nat.zero_le _⟩ ⟨_, rfl, rfl⟩ (by cases h; rfl)
  · rw [if_neg c3] at h
    refine r_iload hg 4 dX11_prove_10 rfl ?_
    refine r_iconst hg dX11_prove_12 ci_0 ?_
    refine r_iconst hg dX11_prove_13 ci_1 ?_
    obtain ⟨v4, e5, h⟩ := q_b1_some h
    refine r_cS3i hg dX11_prove_14 mt_X11_within ⟨ml_X11_53, mst_X11_within⟩ (s_X11_within hΓ hX e5) (q_room (Nat.le_of_ble_eq_true rfl) (Nat.le_of_ble_eq_true rfl)) ⟨Nat.zero_le _, Nat.zero_le _⟩ (Nat.le_of_ble_eq_true rfl) ?_
    refine r_if_ne hg 23 dX11_prove_17 (by decide) (fun c6 => ?_) (fun c6 => ?_)
    · rw [if_neg c6] at h
      refine r_iload_n hg 2 dX11_prove_23 rfl rfl ?_
      refine r_iconst hg dX11_prove_24 ci_1 ?_
      refine r_bipush hg dX11_prove_25 cb_99 ?_
      obtain ⟨v7, e8, h⟩ := q_b1_some h
      refine r_cS3i hg dX11_prove_27 mt_X11_within ⟨ml_X11_53, mst_X11_within⟩ (s_X11_within hΓ hX e8) (q_room (Nat.le_of_ble_eq_true rfl) (Nat.le_of_ble_eq_true rfl)) ⟨Nat.zero_le _, Nat.zero_le _⟩ (Nat.le_of_ble_eq_true rfl) ?_
      refine r_if_eq hg 43 dX11_prove_30 (by decide) (fun c9 => ?_) (fun c9 => ?_)
      · rw [if_pos c9] at h
        refine r_ldc hg dX11_prove_43 kc_X11_57 ?_
        exact r_ireturn hr dX11_prove_45 ⟨Nat.zero_le _, Nat.zero_le _⟩ ⟨_, rfl, rfl⟩ (by cases h; rfl)
      · rw [if_neg c9] at h
        refine r_iload_n hg 3 dX11_prove_33 rfl rfl ?_
        refine r_iload_n hg 2 dX11_prove_34 rfl rfl ?_
        refine r_bipush hg dX11_prove_35 cb_99 ?_
        obtain ⟨v10, e11, h⟩ := q_b1_some h
        refine r_cS3i hg dX11_prove_37 mt_X11_within ⟨ml_X11_53, mst_X11_within⟩ (s_X11_within hΓ hX e11) (q_room (Nat.le_of_ble_eq_true rfl) (Nat.le_of_ble_eq_true rfl)) ⟨Nat.zero_le _, Nat.zero_le _⟩ (Nat.le_of_ble_eq_true rfl) ?_
        refine r_if_ne hg 46 dX11_prove_40 (by decide) (fun c12 => ?_) (fun c12 => ?_)
        · rw [if_neg c12] at h
          refine r_aload_n hg 0 dX11_prove_46 rfl rfl ?_
          have e13 := ly_11_0 hX k_this
          refine r_getR hg dX11_prove_47 fl_X11_10 k_this rfl e13.1 ?_
          have e14 := ly_9_0 hX e13.2
          refine r_getR hg dX11_prove_50 fl_X11_58 e13.2 rfl e14.1 ?_
          have e15 := ly_3_4 hX e14.2
          refine r_getR hg dX11_prove_53 fl_X11_213 e14.2 rfl e15.1 ?_
          refine r_iload_n hg 1 dX11_prove_56 rfl rfl ?_
          obtain ⟨v16, e17, h⟩ := q_b1_some h
          refine r_iald hg dX11_prove_57 e15.2 e17 ?_
          refine r_i2l hg dX11_prove_58 ?_
          refine r_iload hg 4 dX11_prove_59 rfl ?_
          refine r_if_ne hg 68 dX11_prove_61 (by decide) (fun c18 => ?_) (fun c18 => ?_)
          · rw [if_neg c18] at h
            refine r_iload_n hg 2 dX11_prove_68 rfl rfl ?_
            refine r_sub hg [0, 1] rfl ?_
            exact p_X11_prove_69 hΓ hg hr hX k_this _ _ h
          · rw [if_pos (Classical.not_not.mp c18)] at h
            refine r_iload_n hg 3 dX11_prove_64 rfl rfl ?_
            refine r_goto hg 69 dX11_prove_65 (by decide) ?_
            refine r_sub hg [0, 1] rfl ?_
            exact p_X11_prove_69 hΓ hg hr hX k_this _ _ h
        · rw [if_pos (Classical.not_not.mp c12)] at h
          refine r_ldc hg dX11_prove_43 kc_X11_57 ?_
          exact r_ireturn hr dX11_prove_45 ⟨Nat.zero_le _, Nat.zero_le _⟩ ⟨_, rfl, rfl⟩ (by cases h; rfl)
    · rw [if_pos (Classical.not_not.mp c6)] at h
      refine r_ldc hg dX11_prove_20 kc_X11_57 ?_
      exact r_ireturn hr dX11_prove_22 ⟨Nat.zero_le _, Nat.zero_le _⟩ ⟨_, rfl, rfl⟩ (by cases h; rfl)

def b_X11_shop_48 (this : Nat) (x1 : Int32) (x2 : Int32) (x3 : Int32) (x4 : Int32) (s2 : Int32) (I : qI) : Option (Int32 × qI) :=
  q_b1 (f_X11_within x4 (nI 0) s2) fun v1 =>
  if v1 = 0 then
    some ((-1000000001), I)
  else
    q_b2 (f_X8_added (this + 8) x1 x2 x3 x4 I) fun v6 I7 =>
    some (v6, I7)
set_option maxRecDepth 100000 in
set_option maxHeartbeats 4000000 in
theorem p_X11_shop_48 {l : Launch} {Γ : qC} {g : qG} {z : Int32 × qI} {this : Nat} {x1 : Int32} {x2 : Int32} {x3 : Int32} {x4 : Int32} {X : qX} (hΓ : q_gm Γ) (hg : q_Ok l Γ RX11 cX11_shop 5 (q_rm 3 0 0) "shop" (some .int) g) (hr : q_Rt cX11_shop (some .int) (q_rm 3 0 0) (some (.int z.1), z.2, X) g) (hX : q_Lay X) (k_this : q_kd X this = some (13, 9)) (s2 : Int32) (I : qI) (h : b_X11_shop_48 this x1 x2 x3 x4 s2 I = some z) : g 0 0 48 [(0, .ref this), (1, .int x1), (2, .int x2), (3, .int x3), (4, .int x4)] [.int s2, .int (nI 0), .int x4] I X := by
  unfold b_X11_shop_48 at h
  obtain ⟨v1, e2, h⟩ := q_b1_some h
  refine r_cS3i hg dX11_shop_48 mt_X11_within ⟨ml_X11_53, mst_X11_within⟩ (s_X11_within hΓ hX e2) (q_room (Nat.le_of_ble_eq_true rfl) (Nat.le_of_ble_eq_true rfl)) ⟨Nat.zero_le _, Nat.zero_le _⟩ (Nat.le_of_ble_eq_true rfl) ?_
  refine r_if_ne hg 57 dX11_shop_51 (by decide) (fun c3 => ?_) (fun c3 => ?_)
  · rw [if_neg c3] at h
    refine r_aload_n hg 0 dX11_shop_57 rfl rfl ?_
    have e4 := ly_11_0 hX k_this
    refine r_getR hg dX11_shop_58 fl_X11_10 k_this rfl e4.1 ?_
    have e5 := ly_9_1 hX e4.2
    refine r_getR hg dX11_shop_61 fl_X11_87 e4.2 rfl e5.1 ?_
    refine r_iload_n hg 1 dX11_shop_64 rfl rfl ?_
    refine r_iload_n hg 2 dX11_shop_65 rfl rfl ?_
    refine r_iload_n hg 3 dX11_shop_66 rfl rfl ?_
    refine r_iload hg 4 dX11_shop_67 rfl ?_
    obtain ⟨v6, I7, e8, h⟩ := q_b2_some h
    refine r_cV4i hg dX11_shop_69 mt_X8_added ml_X11_91 mv_X8_added e5.2 (s_X8_added hΓ hX e5.2 e8) (q_room (Nat.le_of_ble_eq_true rfl) (Nat.le_of_ble_eq_true rfl)) ⟨Nat.zero_le _, Nat.zero_le _⟩ (Nat.le_of_ble_eq_true rfl) ?_
    exact r_ireturn hr dX11_shop_72 ⟨Nat.zero_le _, Nat.zero_le _⟩ ⟨_, rfl, rfl⟩ (by cases h; rfl)
  · rw [if_pos (Classical.not_not.mp c3)] at h
    refine r_ldc hg dX11_shop_54 kc_X11_57 ?_
    exact r_ireturn hr dX11_shop_56 ⟨Nat.zero_le _, Nat.zero_le _⟩ ⟨_, rfl, rfl⟩ (by cases h; rfl)
def f_X11_shop (this : Nat) (x1 : Int32) (x2 : Int32) (x3 : Int32) (x4 : Int32) (I : qI) : Option (Int32 × qI) :=
  q_b1 (f_X11_within x1 (nI 0) (nI 1)) fun v1 =>
  if v1 = 0 then
    some ((-1000000001), I)
  else
    q_b1 (f_X11_within x2 (nI 1) (nI 99)) fun v4 =>
    if v4 = 0 then
      some ((-1000000001), I)
    else
      q_b1 (f_X11_within x3 (nI 0) (nI 99999)) fun v7 =>
      if v7 = 0 then
        some ((-1000000001), I)
      else
        if x1 = 0 then
          b_X11_shop_48 this x1 x2 x3 x4 (nI 0) I
        else
          b_X11_shop_48 this x1 x2 x3 x4 (nI 99) I
set_option maxRecDepth 100000 in
set_option maxHeartbeats 4000000 in
theorem s_X11_shop {l : Launch} {Γ : qC} (hΓ : q_gm Γ) {X : qX} (hX : q_Lay X) {this : Nat} {x1 : Int32} {x2 : Int32} {x3 : Int32} {x4 : Int32} (k_this : q_kd X this = some (13, 9)) {I : qI} {z : Int32 × qI} (h : f_X11_shop this x1 x2 x3 x4 I = some z) : q_Sem l Γ (q_rm 3 0 0) yX11_shop cX11_shop 5 (some .int) [.ref this, .int x1, .int x2, .int x3, .int x4] I X (some (.int z.1), z.2, X) := by
  refine q_met (by decide) (Nat.le_of_ble_eq_true rfl) (fun g hg hr => ?_)
  unfold f_X11_shop at h
  show g 0 0 0 [(0, .ref this), (1, .int x1), (2, .int x2), (3, .int x3), (4, .int x4)] [] I X
  refine r_iload_n hg 1 dX11_shop_0 rfl rfl ?_
  refine r_iconst hg dX11_shop_1 ci_0 ?_
  refine r_iconst hg dX11_shop_2 ci_1 ?_
  obtain ⟨v1, e2, h⟩ := q_b1_some h
  refine r_cS3i hg dX11_shop_3 mt_X11_within ⟨ml_X11_53, mst_X11_within⟩ (s_X11_within hΓ hX e2) (q_room (Nat.le_of_ble_eq_true rfl) (Nat.le_of_ble_eq_true rfl)) ⟨Nat.zero_le _, Nat.zero_le _⟩ (Nat.le_of_ble_eq_true rfl) ?_
  refine r_if_eq hg 19 dX11_shop_6 (by decide) (fun c3 => ?_) (fun c3 => ?_)
  · rw [if_pos c3] at h
    refine r_ldc hg dX11_shop_19 kc_X11_57 ?_
    exact r_ireturn hr dX11_shop_21 ⟨Nat.zero_le _, Nat.zero_le _⟩ ⟨_, rfl, rfl⟩ (by cases h; rfl)
  · rw [if_neg c3] at h
    refine r_iload_n hg 2 dX11_shop_9 rfl rfl ?_
    refine r_iconst hg dX11_shop_10 ci_1 ?_
    refine r_bipush hg dX11_shop_11 cb_99 ?_
    obtain ⟨v4, e5, h⟩ := q_b1_some h
    refine r_cS3i hg dX11_shop_13 mt_X11_within ⟨ml_X11_53, mst_X11_within⟩ (s_X11_within hΓ hX e5) (q_room (Nat.le_of_ble_eq_true rfl) (Nat.le_of_ble_eq_true rfl)) ⟨Nat.zero_le _, Nat.zero_le _⟩ (Nat.le_of_ble_eq_true rfl) ?_
    refine r_if_ne hg 22 dX11_shop_16 (by decide) (fun c6 => ?_) (fun c6 => ?_)
    · rw [if_neg c6] at h
      refine r_iload_n hg 3 dX11_shop_22 rfl rfl ?_
      refine r_iconst hg dX11_shop_23 ci_0 ?_
      refine r_ldc hg dX11_shop_24 kc_X11_86 ?_
      obtain ⟨v7, e8, h⟩ := q_b1_some h
      refine r_cS3i hg dX11_shop_26 mt_X11_within ⟨ml_X11_53, mst_X11_within⟩ (s_X11_within hΓ hX e8) (q_room (Nat.le_of_ble_eq_true rfl) (Nat.le_of_ble_eq_true rfl)) ⟨Nat.zero_le _, Nat.zero_le _⟩ (Nat.le_of_ble_eq_true rfl) ?_
      refine r_if_ne hg 35 dX11_shop_29 (by decide) (fun c9 => ?_) (fun c9 => ?_)
      · rw [if_neg c9] at h
        refine r_iload hg 4 dX11_shop_35 rfl ?_
        refine r_iconst hg dX11_shop_37 ci_0 ?_
        refine r_iload_n hg 1 dX11_shop_38 rfl rfl ?_
        refine r_if_ne hg 46 dX11_shop_39 (by decide) (fun c10 => ?_) (fun c10 => ?_)
        · rw [if_neg c10] at h
          refine r_bipush hg dX11_shop_46 cb_99 ?_
          exact p_X11_shop_48 hΓ hg hr hX k_this _ _ h
        · rw [if_pos (Classical.not_not.mp c10)] at h
          refine r_iconst hg dX11_shop_42 ci_0 ?_
          refine r_goto hg 48 dX11_shop_43 (by decide) ?_
          exact p_X11_shop_48 hΓ hg hr hX k_this _ _ h
      · rw [if_pos (Classical.not_not.mp c9)] at h
        refine r_ldc hg dX11_shop_32 kc_X11_57 ?_
        exact r_ireturn hr dX11_shop_34 ⟨Nat.zero_le _, Nat.zero_le _⟩ ⟨_, rfl, rfl⟩ (by cases h; rfl)
    · rw [if_pos (Classical.not_not.mp c6)] at h
      refine r_ldc hg dX11_shop_19 kc_X11_57 ?_
      exact r_ireturn hr dX11_shop_21 ⟨Nat.zero_le _, Nat.zero_le _⟩ ⟨_, rfl, rfl⟩ (by cases h; rfl)

def f_X11_trim (this : Nat) (x1 : Int32) (I : qI) : Option (Int32 × qI) :=
  q_b1 (f_X11_within x1 (nI 0) (I (this + 196) 6)) fun v2 =>
  if v2 = 0 then
    some ((-1000000001), I)
  else
    q_b1 (some (q_up I (this + 196) 6 x1)) fun I6 =>
    some (x1, I6)
set_option maxRecDepth 100000 in
set_option maxHeartbeats 4000000 in
theorem s_X11_trim {l : Launch} {Γ : qC} (hΓ : q_gm Γ) {X : qX} (hX : q_Lay X) {this : Nat} {x1 : Int32} (k_this : q_kd X this = some (13, 9)) {I : qI} {z : Int32 × qI} (h : f_X11_trim this x1 I = some z) : q_Sem l Γ (q_rm 3 0 0) yX11_trim cX11_trim 2 (some .int) [.ref this, .int x1] I X (some (.int z.1), z.2, X) := by
  refine q_met (by decide) (Nat.le_of_ble_eq_true rfl) (fun g hg hr => ?_)
  unfold f_X11_trim at h
  show g 0 0 0 [(0, .ref this), (1, .int x1)] [] I X
  refine r_iload_n hg 1 dX11_trim_0 rfl rfl ?_
  refine r_iconst hg dX11_trim_1 ci_0 ?_
  refine r_aload_n hg 0 dX11_trim_2 rfl rfl ?_
  have e1 := ly_11_3 hX k_this
  refine r_getR hg dX11_trim_3 fl_X11_25 k_this rfl e1.1 ?_
  refine r_getI hg dX11_trim_6 fl_X11_246 e1.2 rfl ?_
  obtain ⟨v2, e3, h⟩ := q_b1_some h
  refine r_cS3i hg dX11_trim_9 mt_X11_within ⟨ml_X11_53, mst_X11_within⟩ (s_X11_within hΓ hX e3) (q_room (Nat.le_of_ble_eq_true rfl) (Nat.le_of_ble_eq_true rfl)) ⟨Nat.zero_le _, Nat.zero_le _⟩ (Nat.le_of_ble_eq_true rfl) ?_
  refine r_if_ne hg 18 dX11_trim_12 (by decide) (fun c4 => ?_) (fun c4 => ?_)
  · rw [if_neg c4] at h
    refine r_aload_n hg 0 dX11_trim_18 rfl rfl ?_
    have e5 := ly_11_3 hX k_this
    refine r_getR hg dX11_trim_19 fl_X11_25 k_this rfl e5.1 ?_
    refine r_iload_n hg 1 dX11_trim_22 rfl rfl ?_
    obtain ⟨I6, e7, h⟩ := q_b1_some h
    obtain rfl := Option.some.inj e7
    refine r_putI hg dX11_trim_23 fl_X11_246 e5.2 rfl ⟨rfl, rfl⟩ ?_
    refine r_iload_n hg 1 dX11_trim_26 rfl rfl ?_
    exact r_ireturn hr dX11_trim_27 ⟨Nat.zero_le _, Nat.zero_le _⟩ ⟨_, rfl, rfl⟩ (by cases h; rfl)
  · rw [if_pos (Classical.not_not.mp c4)] at h
    refine r_ldc hg dX11_trim_15 kc_X11_57 ?_
    exact r_ireturn hr dX11_trim_17 ⟨Nat.zero_le _, Nat.zero_le _⟩ ⟨_, rfl, rfl⟩ (by cases h; rfl)

def f_X11_why (this : Nat) (x1 : Int32) (I : qI) : Option (Int32) :=
  q_b1 (f_X11_within x1 (nI 0) (nI 6)) fun v1 =>
  if v1 = 0 then
    some ((-1000000001))
  else
    q_b1 (f_X7_counting (this + 37) x1 (I (this + 1) 13) I) fun v7 =>
    if 0 ≤ v7 then
      some (v7)
    else
      some ((-1000000005))
set_option maxRecDepth 100000 in
set_option maxHeartbeats 4000000 in
theorem s_X11_why {l : Launch} {Γ : qC} (hΓ : q_gm Γ) {X : qX} (hX : q_Lay X) {this : Nat} {x1 : Int32} (k_this : q_kd X this = some (13, 9)) {I : qI} {z : Int32} (h : f_X11_why this x1 I = some z) : q_Sem l Γ (q_rm 3 0 0) yX11_why cX11_why 3 (some .int) [.ref this, .int x1] I X (some (.int z), I, X) := by
  refine q_met (by decide) (Nat.le_of_ble_eq_true rfl) (fun g hg hr => ?_)
  unfold f_X11_why at h
  show g 0 0 0 [(0, .ref this), (1, .int x1)] [] I X
  refine r_iload_n hg 1 dX11_why_0 rfl rfl ?_
  refine r_iconst hg dX11_why_1 ci_0 ?_
  refine r_bipush hg dX11_why_2 cb_6 ?_
  obtain ⟨v1, e2, h⟩ := q_b1_some h
  refine r_cS3i hg dX11_why_4 mt_X11_within ⟨ml_X11_53, mst_X11_within⟩ (s_X11_within hΓ hX e2) (q_room (Nat.le_of_ble_eq_true rfl) (Nat.le_of_ble_eq_true rfl)) ⟨Nat.zero_le _, Nat.zero_le _⟩ (Nat.le_of_ble_eq_true rfl) ?_
  refine r_if_ne hg 13 dX11_why_7 (by decide) (fun c3 => ?_) (fun c3 => ?_)
  · rw [if_neg c3] at h
    refine r_aload_n hg 0 dX11_why_13 rfl rfl ?_
    have e4 := ly_11_0 hX k_this
    refine r_getR hg dX11_why_14 fl_X11_10 k_this rfl e4.1 ?_
    have e5 := ly_9_4 hX e4.2
    refine r_getR hg dX11_why_17 fl_X11_256 e4.2 rfl e5.1 ?_
    refine r_iload_n hg 1 dX11_why_20 rfl rfl ?_
    refine r_aload_n hg 0 dX11_why_21 rfl rfl ?_
    have e6 := ly_11_0 hX k_this
    refine r_getR hg dX11_why_22 fl_X11_10 k_this rfl e6.1 ?_
    refine r_getI hg dX11_why_25 fl_X11_141 e6.2 rfl ?_
    obtain ⟨v7, e8, h⟩ := q_b1_some h
    refine r_cV2i hg dX11_why_28 mt_X7_counting ml_X11_277 mv_X7_counting e5.2 (s_X7_counting hΓ hX e5.2 e8) (q_room (Nat.le_of_ble_eq_true rfl) (Nat.le_of_ble_eq_true rfl)) ⟨Nat.zero_le _, Nat.zero_le _⟩ (Nat.le_of_ble_eq_true rfl) ?_
    refine r_istore_n hg (L' := [(2, .int v7), (0, .ref this), (1, .int x1)]) dX11_why_31 rfl (by decide) rfl ?_
    refine r_iload_n hg 0 dX11_why_32 rfl rfl ?_
    refine r_if_ge hg 41 dX11_why_33 (by decide) (fun c9 => ?_) (fun c9 => ?_)
    · rw [if_pos c9] at h
      refine r_iload_n hg 0 dX11_why_41 rfl rfl ?_
      exact r_ireturn hr dX11_why_42 ⟨Nat.zero_le _, Nat.zero_le _⟩ ⟨_, rfl, rfl⟩ (by cases h; rfl)
    · rw [if_neg c9] at h
      refine r_ldc hg dX11_why_36 kc_X11_130 ?_
      refine r_goto hg 42 dX11_why_38 (by decide) ?_
      exact r_ireturn hr dX11_why_42 ⟨Nat.zero_le _, Nat.zero_le _⟩ ⟨_, rfl, rfl⟩ (by cases h; rfl)
  · rw [if_pos (Classical.not_not.mp c3)] at h
    refine r_ldc hg dX11_why_10 kc_X11_57 ?_
    exact r_ireturn hr dX11_why_12 ⟨Nat.zero_le _, Nat.zero_le _⟩ ⟨_, rfl, rfl⟩ (by cases h; rfl)

def b_X11_all_67 (this : Nat) (x1 : Int32) (x2 : Int32) (I : qI) (k24 : Int32 → Int32 → Int32 → Option (Int32)) (x3 : Int32) (x4 : Int32) (x5 : Int32) : Option (Int32) :=
  k24 x3 x4 (x5 + (nI 1))
set_option maxRecDepth 100000 in
set_option maxHeartbeats 4000000 in
theorem p_X11_all_67 {l : Launch} {Γ : qC} {g : qG} {z : Int32} {this : Nat} {x1 : Int32} {x2 : Int32} {X : qX} {I : qI} (hΓ : q_gm Γ) (hg : q_Ok l Γ RX11 cX11_all 7 (q_rm 4 0 0) "all" (some .int) g) (hr : q_Rt cX11_all (some .int) (q_rm 4 0 0) (some (.int z), I, X) g) (hX : q_Lay X) (k_this : q_kd X this = some (13, 9)) {k24 : Int32 → Int32 → Int32 → Option (Int32)} (hk24 : ∀ (x3 : Int32) (x4 : Int32) (x5 : Int32), k24 x3 x4 x5 = some z → g 0 0 24 [(0, .ref this), (1, .int x1), (2, .int x2), (3, .int x3), (4, .int x4), (5, .int x5)] [] I X) (x3 : Int32) (x4 : Int32) (x5 : Int32) (h : b_X11_all_67 this x1 x2 I k24 x3 x4 x5 = some z) : g 0 0 67 [(0, .ref this), (1, .int x1), (2, .int x2), (3, .int x3), (4, .int x4), (5, .int x5)] [] I X := by
  unfold b_X11_all_67 at h
  refine r_iinc hg 5 (v := (x5 + (nI 1))) (L' := [(5, .int (x5 + (nI 1))), (0, .ref this), (1, .int x1), (2, .int x2), (3, .int x3), (4, .int x4)]) dX11_all_67 rfl (by rw [ci_1]) (by decide) rfl ?_
  refine r_goto hg 24 dX11_all_70 (by decide) ?_
  refine r_sub hg [1, 2, 3, 4, 5, 0] rfl ?_
  exact hk24 _ _ _ h
def b_X11_all_24 (this : Nat) (x1 : Int32) (x2 : Int32) (I : qI) (k24 : Int32 → Int32 → Int32 → Option (Int32)) (x3 : Int32) (x4 : Int32) (x5 : Int32) : Option (Int32) :=
  if (nI 8) ≤ x5 then
    if x2 = 0 then
      some (x3)
    else
      some (x4)
  else
    q_b1 (f_X0_placeOf (this + 199) x5 x1 I) fun v4 =>
    if 0 ≤ v4 then
      q_b1 (q_rd I (this + 202) 240 v4) fun v9 =>
      b_X11_all_67 this x1 x2 I k24 (x3 + v9) x4 x5
    else
      b_X11_all_67 this x1 x2 I k24 x3 (x4 + (nI 1)) x5
set_option maxRecDepth 100000 in
set_option maxHeartbeats 4000000 in
theorem p_X11_all_24 {l : Launch} {Γ : qC} {g : qG} {z : Int32} {this : Nat} {x1 : Int32} {x2 : Int32} {X : qX} {I : qI} (hΓ : q_gm Γ) (hg : q_Ok l Γ RX11 cX11_all 7 (q_rm 4 0 0) "all" (some .int) g) (hr : q_Rt cX11_all (some .int) (q_rm 4 0 0) (some (.int z), I, X) g) (hX : q_Lay X) (k_this : q_kd X this = some (13, 9)) {k24 : Int32 → Int32 → Int32 → Option (Int32)} (hk24 : ∀ (x3 : Int32) (x4 : Int32) (x5 : Int32), k24 x3 x4 x5 = some z → g 0 0 24 [(0, .ref this), (1, .int x1), (2, .int x2), (3, .int x3), (4, .int x4), (5, .int x5)] [] I X) (x3 : Int32) (x4 : Int32) (x5 : Int32) (h : b_X11_all_24 this x1 x2 I k24 x3 x4 x5 = some z) : g 0 0 24 [(0, .ref this), (1, .int x1), (2, .int x2), (3, .int x3), (4, .int x4), (5, .int x5)] [] I X := by
  unfold b_X11_all_24 at h
  refine r_iload hg 5 dX11_all_24 rfl ?_
  refine r_bipush hg dX11_all_26 cb_8 ?_
  refine r_icmp_ge hg 73 dX11_all_28 (by decide) (fun c1 => ?_) (fun c1 => ?_)
  · rw [if_pos c1] at h
    refine r_iload_n hg 2 dX11_all_73 rfl rfl ?_
    refine r_if_ne hg 81 dX11_all_74 (by decide) (fun c2 => ?_) (fun c2 => ?_)
    · rw [if_neg c2] at h
      refine r_iload hg 4 dX11_all_81 rfl ?_
      exact r_ireturn hr dX11_all_83 ⟨Nat.zero_le _, Nat.zero_le _⟩ ⟨_, rfl, rfl⟩ (by cases h; rfl)
    · rw [if_pos (Classical.not_not.mp c2)] at h
      refine r_iload_n hg 3 dX11_all_77 rfl rfl ?_
      refine r_goto hg 83 dX11_all_78 (by decide) ?_
      exact r_ireturn hr dX11_all_83 ⟨Nat.zero_le _, Nat.zero_le _⟩ ⟨_, rfl, rfl⟩ (by cases h; rfl)
  · rw [if_neg c1] at h
    refine r_aload_n hg 0 dX11_all_31 rfl rfl ?_
    have e3 := ly_11_4 hX k_this
    refine r_getR hg dX11_all_32 fl_X11_32 k_this rfl e3.1 ?_
    refine r_iload hg 5 dX11_all_35 rfl ?_
    refine r_iload_n hg 1 dX11_all_37 rfl rfl ?_
    obtain ⟨v4, e5, h⟩ := q_b1_some h
    refine r_cV2i hg dX11_all_38 mt_X0_placeOf ml_X11_297 mv_X0_placeOf e3.2 (s_X0_placeOf hΓ hX e3.2 e5) (q_room (Nat.le_of_ble_eq_true rfl) (Nat.le_of_ble_eq_true rfl)) ⟨Nat.zero_le _, Nat.zero_le _⟩ (Nat.le_of_ble_eq_true rfl) ?_
    refine r_istore hg (L' := [(6, .int v4), (0, .ref this), (1, .int x1), (2, .int x2), (3, .int x3), (4, .int x4), (5, .int x5)]) dX11_all_41 (by decide) rfl ?_
    refine r_iload hg 0 dX11_all_43 rfl ?_
    refine r_if_ge hg 54 dX11_all_45 (by decide) (fun c6 => ?_) (fun c6 => ?_)
    · rw [if_pos c6] at h
      refine r_iload_n hg 4 dX11_all_54 rfl rfl ?_
      refine r_aload_n hg 1 dX11_all_55 rfl rfl ?_
      have e7 := ly_11_4 hX k_this
      refine r_getR hg dX11_all_56 fl_X11_32 k_this rfl e7.1 ?_
      have e8 := ly_0_2 hX e7.2
      refine r_getR hg dX11_all_59 fl_X11_300 e7.2 rfl e8.1 ?_
      refine r_iload hg 0 dX11_all_62 rfl ?_
      obtain ⟨v9, e10, h⟩ := q_b1_some h
      refine r_iald hg dX11_all_64 e8.2 e10 ?_
      refine r_iadd hg dX11_all_65 ?_
      refine r_istore_n hg (L' := [(3, .int (x3 + v9)), (6, .int v4), (0, .ref this), (1, .int x1), (2, .int x2), (4, .int x4), (5, .int x5)]) dX11_all_66 rfl (by decide) rfl ?_
      refine r_sub hg [2, 3, 4, 0, 5, 6] rfl ?_
      exact p_X11_all_67 hΓ hg hr hX k_this hk24 _ _ _ h
    · rw [if_neg c6] at h
      refine r_iinc hg 5 (v := (x4 + (nI 1))) (L' := [(4, .int (x4 + (nI 1))), (6, .int v4), (0, .ref this), (1, .int x1), (2, .int x2), (3, .int x3), (5, .int x5)]) dX11_all_48 rfl (by rw [ci_1]) (by decide) rfl ?_
      refine r_goto hg 67 dX11_all_51 (by decide) ?_
      refine r_sub hg [2, 3, 4, 5, 0, 6] rfl ?_
      exact p_X11_all_67 hΓ hg hr hX k_this hk24 _ _ _ h
theorem pl_X11_all_24 {l : Launch} {Γ : qC} {g : qG} {z : Int32} {this : Nat} {x1 : Int32} {x2 : Int32} {X : qX} {I : qI} (hΓ : q_gm Γ) (hg : q_Ok l Γ RX11 cX11_all 7 (q_rm 4 0 0) "all" (some .int) g) (hr : q_Rt cX11_all (some .int) (q_rm 4 0 0) (some (.int z), I, X) g) (hX : q_Lay X) (k_this : q_kd X this = some (13, 9)) : ∀ (n : Nat) (x3 : Int32) (x4 : Int32) (x5 : Int32), q_fix (fun _ _ _ => none) (b_X11_all_24 this x1 x2 I) n x3 x4 x5 = some z → g 0 0 24 [(0, .ref this), (1, .int x1), (2, .int x2), (3, .int x3), (4, .int x4), (5, .int x5)] [] I X := by
  intro n
  induction n with
  | zero =>
    intro x3 x4 x5 h
    cases (show (none : Option (Int32)) = some z from h)
  | succ n ih =>
    intro x3 x4 x5 h
    exact p_X11_all_24 hΓ hg hr hX k_this ih _ _ _ h
def f_X11_all (this : Nat) (x1 : Int32) (x2 : Int32) (I : qI) : Option (Int32) :=
  if x1 < 0 then
    some ((-1000000001))
  else
    q_b1 (f_X11_within x2 (nI 0) (nI 1)) fun v2 =>
    if v2 = 0 then
      some ((-1000000001))
    else
      q_fix (fun _ _ _ => none) (b_X11_all_24 this x1 x2 I) q_fu (nI 0) (nI 0) (nI 0)
set_option maxRecDepth 100000 in
set_option maxHeartbeats 4000000 in
theorem s_X11_all {l : Launch} {Γ : qC} (hΓ : q_gm Γ) {X : qX} (hX : q_Lay X) {this : Nat} {x1 : Int32} {x2 : Int32} (k_this : q_kd X this = some (13, 9)) {I : qI} {z : Int32} (h : f_X11_all this x1 x2 I = some z) : q_Sem l Γ (q_rm 4 0 0) yX11_all cX11_all 7 (some .int) [.ref this, .int x1, .int x2] I X (some (.int z), I, X) := by
  refine q_met (by decide) (Nat.le_of_ble_eq_true rfl) (fun g hg hr => ?_)
  unfold f_X11_all at h
  show g 0 0 0 [(0, .ref this), (1, .int x1), (2, .int x2)] [] I X
  refine r_iload_n hg 1 dX11_all_0 rfl rfl ?_
  refine r_if_lt hg 13 dX11_all_1 (by decide) (fun c1 => ?_) (fun c1 => ?_)
  · rw [if_pos c1] at h
    refine r_ldc hg dX11_all_13 kc_X11_57 ?_
    exact r_ireturn hr dX11_all_15 ⟨Nat.zero_le _, Nat.zero_le _⟩ ⟨_, rfl, rfl⟩ (by cases h; rfl)
  · rw [if_neg c1] at h
    refine r_iload_n hg 2 dX11_all_4 rfl rfl ?_
    refine r_iconst hg dX11_all_5 ci_0 ?_
    refine r_iconst hg dX11_all_6 ci_1 ?_
    obtain ⟨v2, e3, h⟩ := q_b1_some h
    refine r_cS3i hg dX11_all_7 mt_X11_within ⟨ml_X11_53, mst_X11_within⟩ (s_X11_within hΓ hX e3) (q_room (Nat.le_of_ble_eq_true rfl) (Nat.le_of_ble_eq_true rfl)) ⟨Nat.zero_le _, Nat.zero_le _⟩ (Nat.le_of_ble_eq_true rfl) ?_
    refine r_if_ne hg 16 dX11_all_10 (by decide) (fun c4 => ?_) (fun c4 => ?_)
    · rw [if_neg c4] at h
      refine r_iconst hg dX11_all_16 ci_0 ?_
      refine r_istore_n hg (L' := [(3, .int (nI 0)), (0, .ref this), (1, .int x1), (2, .int x2)]) dX11_all_17 rfl (by decide) rfl ?_
      refine r_iconst hg dX11_all_18 ci_0 ?_
      refine r_istore hg (L' := [(4, .int (nI 0)), (3, .int (nI 0)), (0, .ref this), (1, .int x1), (2, .int x2)]) dX11_all_19 (by decide) rfl ?_
      refine r_iconst hg dX11_all_21 ci_0 ?_
      refine r_istore hg (L' := [(5, .int (nI 0)), (4, .int (nI 0)), (3, .int (nI 0)), (0, .ref this), (1, .int x1), (2, .int x2)]) dX11_all_22 (by decide) rfl ?_
      refine r_sub hg [3, 4, 5, 2, 1, 0] rfl ?_
      exact pl_X11_all_24 hΓ hg hr hX k_this _ _ _ _ h
    · rw [if_pos (Classical.not_not.mp c4)] at h
      refine r_ldc hg dX11_all_13 kc_X11_57 ?_
      exact r_ireturn hr dX11_all_15 ⟨Nat.zero_le _, Nat.zero_le _⟩ ⟨_, rfl, rfl⟩ (by cases h; rfl)

def b_X11_book_65 (this : Nat) (x1 : Int32) (x2 : Int32) (x3 : Int32) (s3 : Int32) (I : qI) : Option (Int32 × qI) :=
  q_b1 (f_X0_open (this + 199) x1 x2 s3 I) fun I2 =>
  q_b1 (q_rd I2 (this + 201) 8 x1) fun v6 =>
  some (v6, I2)
set_option maxRecDepth 100000 in
set_option maxHeartbeats 4000000 in
theorem p_X11_book_65 {l : Launch} {Γ : qC} {g : qG} {z : Int32 × qI} {this : Nat} {x1 : Int32} {x2 : Int32} {x3 : Int32} {X : qX} (hΓ : q_gm Γ) (hg : q_Ok l Γ RX11 cX11_book 4 (q_rm 4 0 0) "book" (some .int) g) (hr : q_Rt cX11_book (some .int) (q_rm 4 0 0) (some (.int z.1), z.2, X) g) (hX : q_Lay X) (k_this : q_kd X this = some (13, 9)) (s3 : Int32) (I : qI) (h : b_X11_book_65 this x1 x2 x3 s3 I = some z) : g 0 0 65 [(0, .ref this), (1, .int x1)] [.int s3, .int x2, .int x1, .ref (this + 199)] I X := by
  unfold b_X11_book_65 at h
  have e1 := ly_11_4 hX k_this
  obtain ⟨I2, e3, h⟩ := q_b1_some h
  refine r_cV3v hg dX11_book_65 mt_X0_open ml_X11_284 mv_X0_open e1.2 (s_X0_open hΓ hX e1.2 e3) (q_room (Nat.le_of_ble_eq_true rfl) (Nat.le_of_ble_eq_true rfl)) ⟨Nat.zero_le _, Nat.zero_le _⟩ (Nat.le_of_ble_eq_true rfl) ?_
  refine r_aload_n hg 0 dX11_book_68 rfl rfl ?_
  have e4 := ly_11_4 hX k_this
  refine r_getR hg dX11_book_69 fl_X11_32 k_this rfl e4.1 ?_
  have e5 := ly_0_1 hX e4.2
  refine r_getR hg dX11_book_72 fl_X11_288 e4.2 rfl e5.1 ?_
  refine r_iload_n hg 1 dX11_book_75 rfl rfl ?_
  obtain ⟨v6, e7, h⟩ := q_b1_some h
  refine r_iald hg dX11_book_76 e5.2 e7 ?_
  exact r_ireturn hr dX11_book_77 ⟨Nat.zero_le _, Nat.zero_le _⟩ ⟨_, rfl, rfl⟩ (by cases h; rfl)
def b_X11_book_49 (this : Nat) (x1 : Int32) (x2 : Int32) (x3 : Int32) (I : qI) : Option (Int32 × qI) :=
  if x2 = (-1) then
    b_X11_book_65 this x1 x2 x3 (nI 0) I
  else
    b_X11_book_65 this x1 x2 x3 x3 I
set_option maxRecDepth 100000 in
set_option maxHeartbeats 4000000 in
theorem p_X11_book_49 {l : Launch} {Γ : qC} {g : qG} {z : Int32 × qI} {this : Nat} {x1 : Int32} {x2 : Int32} {x3 : Int32} {X : qX} (hΓ : q_gm Γ) (hg : q_Ok l Γ RX11 cX11_book 4 (q_rm 4 0 0) "book" (some .int) g) (hr : q_Rt cX11_book (some .int) (q_rm 4 0 0) (some (.int z.1), z.2, X) g) (hX : q_Lay X) (k_this : q_kd X this = some (13, 9)) (I : qI) (h : b_X11_book_49 this x1 x2 x3 I = some z) : g 0 0 49 [(0, .ref this), (1, .int x1), (2, .int x2), (3, .int x3)] [] I X := by
  unfold b_X11_book_49 at h
  refine r_aload_n hg 0 dX11_book_49 rfl rfl ?_
  have e1 := ly_11_4 hX k_this
  refine r_getR hg dX11_book_50 fl_X11_32 k_this rfl e1.1 ?_
  refine r_iload_n hg 1 dX11_book_53 rfl rfl ?_
  refine r_iload_n hg 2 dX11_book_54 rfl rfl ?_
  refine r_iload_n hg 2 dX11_book_55 rfl rfl ?_
  refine r_iconst hg dX11_book_56 ci_m1 ?_
  refine r_icmp_ne hg 64 dX11_book_57 (by decide) (fun c2 => ?_) (fun c2 => ?_)
  · rw [if_neg c2] at h
    refine r_iload_n hg 3 dX11_book_64 rfl rfl ?_
    refine r_sub hg [0, 1] rfl ?_
    exact p_X11_book_65 hΓ hg hr hX k_this _ _ h
  · rw [if_pos (Classical.not_not.mp c2)] at h
    refine r_iconst hg dX11_book_60 ci_0 ?_
    refine r_goto hg 65 dX11_book_61 (by decide) ?_
    refine r_sub hg [0, 1] rfl ?_
    exact p_X11_book_65 hΓ hg hr hX k_this _ _ h
def b_X11_book_36 (this : Nat) (x1 : Int32) (x2 : Int32) (x3 : Int32) (I : qI) : Option (Int32 × qI) :=
  if x2 = (-1) then
    b_X11_book_49 this x1 x2 x3 I
  else
    if 0 ≤ x3 then
      b_X11_book_49 this x1 x2 x3 I
    else
      some ((-1000000014), I)
set_option maxRecDepth 100000 in
set_option maxHeartbeats 4000000 in
theorem p_X11_book_36 {l : Launch} {Γ : qC} {g : qG} {z : Int32 × qI} {this : Nat} {x1 : Int32} {x2 : Int32} {x3 : Int32} {X : qX} (hΓ : q_gm Γ) (hg : q_Ok l Γ RX11 cX11_book 4 (q_rm 4 0 0) "book" (some .int) g) (hr : q_Rt cX11_book (some .int) (q_rm 4 0 0) (some (.int z.1), z.2, X) g) (hX : q_Lay X) (k_this : q_kd X this = some (13, 9)) (I : qI) (h : b_X11_book_36 this x1 x2 x3 I = some z) : g 0 0 36 [(0, .ref this), (1, .int x1), (2, .int x2), (3, .int x3)] [] I X := by
  unfold b_X11_book_36 at h
  refine r_iload_n hg 2 dX11_book_36 rfl rfl ?_
  refine r_iconst hg dX11_book_37 ci_m1 ?_
  refine r_icmp_eq hg 49 dX11_book_38 (by decide) (fun c1 => ?_) (fun c1 => ?_)
  · rw [if_pos c1] at h
    exact p_X11_book_49 hΓ hg hr hX k_this _ h
  · rw [if_neg c1] at h
    refine r_iload_n hg 3 dX11_book_41 rfl rfl ?_
    refine r_if_ge hg 49 dX11_book_42 (by decide) (fun c2 => ?_) (fun c2 => ?_)
    · rw [if_pos c2] at h
      exact p_X11_book_49 hΓ hg hr hX k_this _ h
    · rw [if_neg c2] at h
      refine r_ldcw hg dX11_book_45 kc_X11_283 ?_
      exact r_ireturn hr dX11_book_48 ⟨Nat.zero_le _, Nat.zero_le _⟩ ⟨_, rfl, rfl⟩ (by cases h; rfl)
def f_X11_book (this : Nat) (x1 : Int32) (x2 : Int32) (x3 : Int32) (I : qI) : Option (Int32 × qI) :=
  q_b1 (f_X11_within x1 (nI 0) (nI 7)) fun v1 =>
  if v1 = 0 then
    some ((-1000000001), I)
  else
    q_b1 (f_X11_within x2 (-1) (nI 1)) fun v4 =>
    if v4 = 0 then
      some ((-1000000001), I)
    else
      if x2 = (-1) then
        b_X11_book_36 this x1 x2 x3 I
      else
        if x3 ≤ (nI 30) then
          b_X11_book_36 this x1 x2 x3 I
        else
          some ((-1000000001), I)
set_option maxRecDepth 100000 in
set_option maxHeartbeats 4000000 in
theorem s_X11_book {l : Launch} {Γ : qC} (hΓ : q_gm Γ) {X : qX} (hX : q_Lay X) {this : Nat} {x1 : Int32} {x2 : Int32} {x3 : Int32} (k_this : q_kd X this = some (13, 9)) {I : qI} {z : Int32 × qI} (h : f_X11_book this x1 x2 x3 I = some z) : q_Sem l Γ (q_rm 4 0 0) yX11_book cX11_book 4 (some .int) [.ref this, .int x1, .int x2, .int x3] I X (some (.int z.1), z.2, X) := by
  refine q_met (by decide) (Nat.le_of_ble_eq_true rfl) (fun g hg hr => ?_)
  unfold f_X11_book at h
  show g 0 0 0 [(0, .ref this), (1, .int x1), (2, .int x2), (3, .int x3)] [] I X
  refine r_iload_n hg 1 dX11_book_0 rfl rfl ?_
  refine r_iconst hg dX11_book_1 ci_0 ?_
  refine r_bipush hg dX11_book_2 cb_7 ?_
  obtain ⟨v1, e2, h⟩ := q_b1_some h
  refine r_cS3i hg dX11_book_4 mt_X11_within ⟨ml_X11_53, mst_X11_within⟩ (s_X11_within hΓ hX e2) (q_room (Nat.le_of_ble_eq_true rfl) (Nat.le_of_ble_eq_true rfl)) ⟨Nat.zero_le _, Nat.zero_le _⟩ (Nat.le_of_ble_eq_true rfl) ?_
  refine r_if_eq hg 19 dX11_book_7 (by decide) (fun c3 => ?_) (fun c3 => ?_)
  · rw [if_pos c3] at h
    refine r_ldc hg dX11_book_19 kc_X11_57 ?_
    exact r_ireturn hr dX11_book_21 ⟨Nat.zero_le _, Nat.zero_le _⟩ ⟨_, rfl, rfl⟩ (by cases h; rfl)
  · rw [if_neg c3] at h
    refine r_iload_n hg 2 dX11_book_10 rfl rfl ?_
    refine r_iconst hg dX11_book_11 ci_m1 ?_
    refine r_iconst hg dX11_book_12 ci_1 ?_
    obtain ⟨v4, e5, h⟩ := q_b1_some h
    refine r_cS3i hg dX11_book_13 mt_X11_within ⟨ml_X11_53, mst_X11_within⟩ (s_X11_within hΓ hX e5) (q_room (Nat.le_of_ble_eq_true rfl) (Nat.le_of_ble_eq_true rfl)) ⟨Nat.zero_le _, Nat.zero_le _⟩ (Nat.le_of_ble_eq_true rfl) ?_
    refine r_if_ne hg 22 dX11_book_16 (by decide) (fun c6 => ?_) (fun c6 => ?_)
    · rw [if_neg c6] at h
      refine r_iload_n hg 2 dX11_book_22 rfl rfl ?_
      refine r_iconst hg dX11_book_23 ci_m1 ?_
      refine r_icmp_eq hg 36 dX11_book_24 (by decide) (fun c7 => ?_) (fun c7 => ?_)
      · rw [if_pos c7] at h
        exact p_X11_book_36 hΓ hg hr hX k_this _ h
      · rw [if_neg c7] at h
        refine r_iload_n hg 3 dX11_book_27 rfl rfl ?_
        refine r_bipush hg dX11_book_28 cb_30 ?_
        refine r_icmp_le hg 36 dX11_book_30 (by decide) (fun c8 => ?_) (fun c8 => ?_)
        · rw [if_pos c8] at h
          exact p_X11_book_36 hΓ hg hr hX k_this _ h
        · rw [if_neg c8] at h
          refine r_ldc hg dX11_book_33 kc_X11_57 ?_
          exact r_ireturn hr dX11_book_35 ⟨Nat.zero_le _, Nat.zero_le _⟩ ⟨_, rfl, rfl⟩ (by cases h; rfl)
    · rw [if_pos (Classical.not_not.mp c6)] at h
      refine r_ldc hg dX11_book_19 kc_X11_57 ?_
      exact r_ireturn hr dX11_book_21 ⟨Nat.zero_le _, Nat.zero_le _⟩ ⟨_, rfl, rfl⟩ (by cases h; rfl)

def f_X11_bound (this : Nat) (x1 : Int32) (x2 : Int32) (x3 : Int32) (I : qI) : Option (Int32) :=
  q_b1 (f_X2_has (this + 13) x1 I) fun v3 =>
  if v3 = 0 then
    some ((-1000000001))
  else
    q_b1 (f_X11_within x2 (nI 0) (nI 9999)) fun v6 =>
    if v6 = 0 then
      some ((-1000000001))
    else
      q_b1 (f_X11_within x3 (nI 1) (nI 99)) fun v9 =>
      if v9 = 0 then
        some ((-1000000001))
      else
        q_b1 (f_X9_weeksBound (this + 1) x1 x2 x3 I) fun v13 =>
        some (v13)
set_option maxRecDepth 100000 in
set_option maxHeartbeats 4000000 in
theorem s_X11_bound {l : Launch} {Γ : qC} (hΓ : q_gm Γ) {X : qX} (hX : q_Lay X) {this : Nat} {x1 : Int32} {x2 : Int32} {x3 : Int32} (k_this : q_kd X this = some (13, 9)) {I : qI} {z : Int32} (h : f_X11_bound this x1 x2 x3 I = some z) : q_Sem l Γ (q_rm 4 0 0) yX11_bound cX11_bound 4 (some .int) [.ref this, .int x1, .int x2, .int x3] I X (some (.int z), I, X) := by
  refine q_met (by decide) (Nat.le_of_ble_eq_true rfl) (fun g hg hr => ?_)
  unfold f_X11_bound at h
  show g 0 0 0 [(0, .ref this), (1, .int x1), (2, .int x2), (3, .int x3)] [] I X
  refine r_aload_n hg 0 dX11_bound_0 rfl rfl ?_
  have e1 := ly_11_0 hX k_this
  refine r_getR hg dX11_bound_1 fl_X11_10 k_this rfl e1.1 ?_
  have e2 := ly_9_2 hX e1.2
  refine r_getR hg dX11_bound_4 fl_X11_70 e1.2 rfl e2.1 ?_
  refine r_iload_n hg 1 dX11_bound_7 rfl rfl ?_
  obtain ⟨v3, e4, h⟩ := q_b1_some h
  refine r_cV1i hg dX11_bound_8 mt_X2_has ml_X11_119 mv_X2_has e2.2 (s_X2_has hΓ hX e2.2 e4) (q_room (Nat.le_of_ble_eq_true rfl) (Nat.le_of_ble_eq_true rfl)) ⟨Nat.zero_le _, Nat.zero_le _⟩ (Nat.le_of_ble_eq_true rfl) ?_
  refine r_if_eq hg 35 dX11_bound_11 (by decide) (fun c5 => ?_) (fun c5 => ?_)
  · rw [if_pos c5] at h
    refine r_ldc hg dX11_bound_35 kc_X11_57 ?_
    exact r_ireturn hr dX11_bound_37 ⟨Nat.zero_le _, Nat.zero_le _⟩ ⟨_, rfl, rfl⟩ (by cases h; rfl)
  · rw [if_neg c5] at h
    refine r_iload_n hg 2 dX11_bound_14 rfl rfl ?_
    refine r_iconst hg dX11_bound_15 ci_0 ?_
    refine r_sipush hg dX11_bound_16 cs_9999 ?_
    obtain ⟨v6, e7, h⟩ := q_b1_some h
    refine r_cS3i hg dX11_bound_19 mt_X11_within ⟨ml_X11_53, mst_X11_within⟩ (s_X11_within hΓ hX e7) (q_room (Nat.le_of_ble_eq_true rfl) (Nat.le_of_ble_eq_true rfl)) ⟨Nat.zero_le _, Nat.zero_le _⟩ (Nat.le_of_ble_eq_true rfl) ?_
    refine r_if_eq hg 35 dX11_bound_22 (by decide) (fun c8 => ?_) (fun c8 => ?_)
    · rw [if_pos c8] at h
      refine r_ldc hg dX11_bound_35 kc_X11_57 ?_
      exact r_ireturn hr dX11_bound_37 ⟨Nat.zero_le _, Nat.zero_le _⟩ ⟨_, rfl, rfl⟩ (by cases h; rfl)
    · rw [if_neg c8] at h
      refine r_iload_n hg 3 dX11_bound_25 rfl rfl ?_
      refine r_iconst hg dX11_bound_26 ci_1 ?_
      refine r_bipush hg dX11_bound_27 cb_99 ?_
      obtain ⟨v9, e10, h⟩ := q_b1_some h
      refine r_cS3i hg dX11_bound_29 mt_X11_within ⟨ml_X11_53, mst_X11_within⟩ (s_X11_within hΓ hX e10) (q_room (Nat.le_of_ble_eq_true rfl) (Nat.le_of_ble_eq_true rfl)) ⟨Nat.zero_le _, Nat.zero_le _⟩ (Nat.le_of_ble_eq_true rfl) ?_
      refine r_if_ne hg 38 dX11_bound_32 (by decide) (fun c11 => ?_) (fun c11 => ?_)
      · rw [if_neg c11] at h
        refine r_aload_n hg 0 dX11_bound_38 rfl rfl ?_
        have e12 := ly_11_0 hX k_this
        refine r_getR hg dX11_bound_39 fl_X11_10 k_this rfl e12.1 ?_
        refine r_iload_n hg 1 dX11_bound_42 rfl rfl ?_
        refine r_iload_n hg 2 dX11_bound_43 rfl rfl ?_
        refine r_iload_n hg 3 dX11_bound_44 rfl rfl ?_
        obtain ⟨v13, e14, h⟩ := q_b1_some h
        refine r_cV3i hg dX11_bound_45 mt_X9_weeksBound ml_X11_221 mv_X9_weeksBound e12.2 (s_X9_weeksBound hΓ hX e12.2 e14) (q_room (Nat.le_of_ble_eq_true rfl) (Nat.le_of_ble_eq_true rfl)) ⟨Nat.zero_le _, Nat.zero_le _⟩ (Nat.le_of_ble_eq_true rfl) ?_
        exact r_ireturn hr dX11_bound_48 ⟨Nat.zero_le _, Nat.zero_le _⟩ ⟨_, rfl, rfl⟩ (by cases h; rfl)
      · rw [if_pos (Classical.not_not.mp c11)] at h
        refine r_ldc hg dX11_bound_35 kc_X11_57 ?_
        exact r_ireturn hr dX11_bound_37 ⟨Nat.zero_le _, Nat.zero_le _⟩ ⟨_, rfl, rfl⟩ (by cases h; rfl)

def f_X11_draw (this : Nat) (x1 : Int32) (x2 : Int32) (x3 : Int32) (I : qI) : Option (Int32 × qI) :=
  q_b1 (f_X11_within x3 (nI 0) (nI 1)) fun v1 =>
  if v1 = 0 then
    some ((-1000000001), I)
  else
    q_b2 (f_X11_newDue this (nI 2) x1 x2 x3 I) fun v4 I5 =>
    if 0 ≤ v4 then
      if x3 = 0 then
        q_b1 (f_X2_getChecks (this + 13) x1 x2 I5) fun I15 =>
        some (v4, I15)
      else
        q_b1 (f_X2_getCoin (this + 13) x1 x2 I5) fun I11 =>
        some (v4, I11)
    else
      some (v4, I5)
set_option maxRecDepth 100000 in
set_option maxHeartbeats 4000000 in
theorem s_X11_draw {l : Launch} {Γ : qC} (hΓ : q_gm Γ) {X : qX} (hX : q_Lay X) {this : Nat} {x1 : Int32} {x2 : Int32} {x3 : Int32} (k_this : q_kd X this = some (13, 9)) {I : qI} {z : Int32 × qI} (h : f_X11_draw this x1 x2 x3 I = some z) : q_Sem l Γ (q_rm 4 0 0) yX11_draw cX11_draw 5 (some .int) [.ref this, .int x1, .int x2, .int x3] I X (some (.int z.1), z.2, X) := by
  refine q_met (by decide) (Nat.le_of_ble_eq_true rfl) (fun g hg hr => ?_)
  unfold f_X11_draw at h
  show g 0 0 0 [(0, .ref this), (1, .int x1), (2, .int x2), (3, .int x3)] [] I X
  refine r_iload_n hg 3 dX11_draw_0 rfl rfl ?_
  refine r_iconst hg dX11_draw_1 ci_0 ?_
  refine r_iconst hg dX11_draw_2 ci_1 ?_
  obtain ⟨v1, e2, h⟩ := q_b1_some h
  refine r_cS3i hg dX11_draw_3 mt_X11_within ⟨ml_X11_53, mst_X11_within⟩ (s_X11_within hΓ hX e2) (q_room (Nat.le_of_ble_eq_true rfl) (Nat.le_of_ble_eq_true rfl)) ⟨Nat.zero_le _, Nat.zero_le _⟩ (Nat.le_of_ble_eq_true rfl) ?_
  refine r_if_ne hg 12 dX11_draw_6 (by decide) (fun c3 => ?_) (fun c3 => ?_)
  · rw [if_neg c3] at h
    refine r_aload_n hg 0 dX11_draw_12 rfl rfl ?_
    refine r_iconst hg dX11_draw_13 ci_2 ?_
    refine r_iload_n hg 1 dX11_draw_14 rfl rfl ?_
    refine r_iload_n hg 2 dX11_draw_15 rfl rfl ?_
    refine r_iload_n hg 3 dX11_draw_16 rfl rfl ?_
    obtain ⟨v4, I5, e6, h⟩ := q_b2_some h
    refine r_cV4i hg dX11_draw_17 mt_X11_newDue ml_X11_155 mv_X11_newDue k_this (s_X11_newDue hΓ hX k_this e6) (q_room (Nat.le_of_ble_eq_true rfl) (Nat.le_of_ble_eq_true rfl)) ⟨Nat.zero_le _, Nat.zero_le _⟩ (Nat.le_of_ble_eq_true rfl) ?_
    refine r_istore hg (L' := [(4, .int v4), (0, .ref this), (1, .int x1), (2, .int x2), (3, .int x3)]) dX11_draw_20 (by decide) rfl ?_
    refine r_iload hg 0 dX11_draw_22 rfl ?_
    refine r_if_ge hg 30 dX11_draw_24 (by decide) (fun c7 => ?_) (fun c7 => ?_)
    · rw [if_pos c7] at h
      refine r_iload_n hg 4 dX11_draw_30 rfl rfl ?_
      refine r_if_ne hg 49 dX11_draw_31 (by decide) (fun c8 => ?_) (fun c8 => ?_)
      · rw [if_neg c8] at h
        refine r_aload_n hg 1 dX11_draw_49 rfl rfl ?_
        have e9 := ly_11_0 hX k_this
        refine r_getR hg dX11_draw_50 fl_X11_10 k_this rfl e9.1 ?_
        have e10 := ly_9_2 hX e9.2
        refine r_getR hg dX11_draw_53 fl_X11_70 e9.2 rfl e10.1 ?_
        refine r_iload_n hg 2 dX11_draw_56 rfl rfl ?_
        refine r_iload_n hg 3 dX11_draw_57 rfl rfl ?_
        obtain ⟨I11, e12, h⟩ := q_b1_some h
        refine r_cV2v hg dX11_draw_58 mt_X2_getCoin ml_X11_162 mv_X2_getCoin e10.2 (s_X2_getCoin hΓ hX e10.2 e12) (q_room (Nat.le_of_ble_eq_true rfl) (Nat.le_of_ble_eq_true rfl)) ⟨Nat.zero_le _, Nat.zero_le _⟩ (Nat.le_of_ble_eq_true rfl) ?_
        refine r_iload hg 0 dX11_draw_61 rfl ?_
        exact r_ireturn hr dX11_draw_63 ⟨Nat.zero_le _, Nat.zero_le _⟩ ⟨_, rfl, rfl⟩ (by cases h; rfl)
      · rw [if_pos (Classical.not_not.mp c8)] at h
        refine r_aload_n hg 1 dX11_draw_34 rfl rfl ?_
        have e13 := ly_11_0 hX k_this
        refine r_getR hg dX11_draw_35 fl_X11_10 k_this rfl e13.1 ?_
        have e14 := ly_9_2 hX e13.2
        refine r_getR hg dX11_draw_38 fl_X11_70 e13.2 rfl e14.1 ?_
        refine r_iload_n hg 2 dX11_draw_41 rfl rfl ?_
        refine r_iload_n hg 3 dX11_draw_42 rfl rfl ?_
        obtain ⟨I15, e16, h⟩ := q_b1_some h
        refine r_cV2v hg dX11_draw_43 mt_X2_getChecks ml_X11_158 mv_X2_getChecks e14.2 (s_X2_getChecks hΓ hX e14.2 e16) (q_room (Nat.le_of_ble_eq_true rfl) (Nat.le_of_ble_eq_true rfl)) ⟨Nat.zero_le _, Nat.zero_le _⟩ (Nat.le_of_ble_eq_true rfl) ?_
        refine r_goto hg 61 dX11_draw_46 (by decide) ?_
        refine r_iload hg 0 dX11_draw_61 rfl ?_
        exact r_ireturn hr dX11_draw_63 ⟨Nat.zero_le _, Nat.zero_le _⟩ ⟨_, rfl, rfl⟩ (by cases h; rfl)
    · rw [if_neg c7] at h
      refine r_iload hg 0 dX11_draw_27 rfl ?_
      exact r_ireturn hr dX11_draw_29 ⟨Nat.zero_le _, Nat.zero_le _⟩ ⟨_, rfl, rfl⟩ (by cases h; rfl)
  · rw [if_pos (Classical.not_not.mp c3)] at h
    refine r_ldc hg dX11_draw_9 kc_X11_57 ?_
    exact r_ireturn hr dX11_draw_11 ⟨Nat.zero_le _, Nat.zero_le _⟩ ⟨_, rfl, rfl⟩ (by cases h; rfl)

def f_X11_dug (this : Nat) (x1 : Int32) (x2 : Int32) (X : qX) (I : qI) : Option (Int32) :=
  q_b1 (f_X11_within x1 (nI 0) (nI 7)) fun v1 =>
  if v1 = 0 then
    some ((-1000000001))
  else
    if x2 = (nI 5) then
      q_b1 (f_X2_inPit (this + 13) x1 I) fun v13 =>
      some (v13)
    else
      q_b1 (f_X3_row (this + 2) x2) fun r7 =>
      q_b1 (f_X11_looked r7 x1 X I) fun v9 =>
      some (v9)
set_option maxRecDepth 100000 in
set_option maxHeartbeats 4000000 in
theorem s_X11_dug {l : Launch} {Γ : qC} (hΓ : q_gm Γ) {X : qX} (hX : q_Lay X) {this : Nat} {x1 : Int32} {x2 : Int32} (k_this : q_kd X this = some (13, 9)) {I : qI} {z : Int32} (h : f_X11_dug this x1 x2 X I = some z) : q_Sem l Γ (q_rm 4 0 0) yX11_dug cX11_dug 3 (some .int) [.ref this, .int x1, .int x2] I X (some (.int z), I, X) := by
  refine q_met (by decide) (Nat.le_of_ble_eq_true rfl) (fun g hg hr => ?_)
  unfold f_X11_dug at h
  show g 0 0 0 [(0, .ref this), (1, .int x1), (2, .int x2)] [] I X
  refine r_iload_n hg 1 dX11_dug_0 rfl rfl ?_
  refine r_iconst hg dX11_dug_1 ci_0 ?_
  refine r_bipush hg dX11_dug_2 cb_7 ?_
  obtain ⟨v1, e2, h⟩ := q_b1_some h
  refine r_cS3i hg dX11_dug_4 mt_X11_within ⟨ml_X11_53, mst_X11_within⟩ (s_X11_within hΓ hX e2) (q_room (Nat.le_of_ble_eq_true rfl) (Nat.le_of_ble_eq_true rfl)) ⟨Nat.zero_le _, Nat.zero_le _⟩ (Nat.le_of_ble_eq_true rfl) ?_
  refine r_if_ne hg 13 dX11_dug_7 (by decide) (fun c3 => ?_) (fun c3 => ?_)
  · rw [if_neg c3] at h
    refine r_iload_n hg 2 dX11_dug_13 rfl rfl ?_
    refine r_iconst hg dX11_dug_14 ci_5 ?_
    refine r_icmp_ne hg 32 dX11_dug_15 (by decide) (fun c4 => ?_) (fun c4 => ?_)
    · rw [if_neg c4] at h
      refine r_aload_n hg 0 dX11_dug_32 rfl rfl ?_
      have e5 := ly_11_0 hX k_this
      refine r_getR hg dX11_dug_33 fl_X11_10 k_this rfl e5.1 ?_
      have e6 := ly_9_0 hX e5.2
      refine r_getR hg dX11_dug_36 fl_X11_58 e5.2 rfl e6.1 ?_
      refine r_iload_n hg 2 dX11_dug_39 rfl rfl ?_
      obtain ⟨r7, e8, h⟩ := q_b1_some h
      refine r_cV1q hg dX11_dug_40 mt_X3_row ml_X11_62 mv_X3_row e6.2 (s_X3_row hΓ hX e6.2 e8) (q_room (Nat.le_of_ble_eq_true rfl) (Nat.le_of_ble_eq_true rfl)) ⟨Nat.zero_le _, Nat.zero_le _⟩ (Nat.le_of_ble_eq_true rfl) ?_
      refine r_iload_n hg 1 dX11_dug_43 rfl rfl ?_
      obtain ⟨v9, e10, h⟩ := q_b1_some h
      refine r_cS2i hg dX11_dug_44 mt_X11_looked ⟨ml_X11_80, mst_X11_looked⟩ (s_X11_looked hΓ hX e10) (q_room (Nat.le_of_ble_eq_true rfl) (Nat.le_of_ble_eq_true rfl)) ⟨Nat.zero_le _, Nat.zero_le _⟩ (Nat.le_of_ble_eq_true rfl) ?_
      exact r_ireturn hr dX11_dug_47 ⟨Nat.zero_le _, Nat.zero_le _⟩ ⟨_, rfl, rfl⟩ (by cases h; rfl)
    · rw [if_pos (Classical.not_not.mp c4)] at h
      refine r_aload_n hg 0 dX11_dug_18 rfl rfl ?_
      have e11 := ly_11_0 hX k_this
      refine r_getR hg dX11_dug_19 fl_X11_10 k_this rfl e11.1 ?_
      have e12 := ly_9_2 hX e11.2
      refine r_getR hg dX11_dug_22 fl_X11_70 e11.2 rfl e12.1 ?_
      refine r_iload_n hg 1 dX11_dug_25 rfl rfl ?_
      obtain ⟨v13, e14, h⟩ := q_b1_some h
      refine r_cV1i hg dX11_dug_26 mt_X2_inPit ml_X11_74 mv_X2_inPit e12.2 (s_X2_inPit hΓ hX e12.2 e14) (q_room (Nat.le_of_ble_eq_true rfl) (Nat.le_of_ble_eq_true rfl)) ⟨Nat.zero_le _, Nat.zero_le _⟩ (Nat.le_of_ble_eq_true rfl) ?_
      refine r_goto hg 47 dX11_dug_29 (by decide) ?_
      exact r_ireturn hr dX11_dug_47 ⟨Nat.zero_le _, Nat.zero_le _⟩ ⟨_, rfl, rfl⟩ (by cases h; rfl)
  · rw [if_pos (Classical.not_not.mp c3)] at h
    refine r_ldc hg dX11_dug_10 kc_X11_57 ?_
    exact r_ireturn hr dX11_dug_12 ⟨Nat.zero_le _, Nat.zero_le _⟩ ⟨_, rfl, rfl⟩ (by cases h; rfl)

def f_X11_exchanged (x0 : Option Nat) (x1 : Int32) (x2 : Int32) (X : qX) (I : qI) : Option (Int32 × qI) :=
  q_b1 (f_X11_looked x0 x1 X I) fun v1 =>
  q_on x0 (
    some (v1, I)
  ) fun a4 =>
  q_b2 (q_arr X (some a4)) fun a5 n6 =>
  q_b1 (f_X11_within x1 (nI 0) ((nI n6) - (nI 1))) fun v10 =>
  if v10 = 0 then
    some (v1, I)
  else
    q_b1 (q_wr I a5 n6 x1 x2) fun I13 =>
    some (v1, I13)
set_option maxRecDepth 100000 in
set_option maxHeartbeats 4000000 in
theorem s_X11_exchanged {l : Launch} {Γ : qC} (hΓ : q_gm Γ) {X : qX} (hX : q_Lay X) {x0 : Option Nat} {x1 : Int32} {x2 : Int32} {I : qI} {z : Int32 × qI} (h : f_X11_exchanged x0 x1 x2 X I = some z) : q_Sem l Γ (q_rm 4 0 0) yX11_exchanged cX11_exchanged 4 (some .int) [va_rf x0, .int x1, .int x2] I X (some (.int z.1), z.2, X) := by
  refine q_met (by decide) (by cases x0 <;> exact Nat.le_of_ble_eq_true rfl) (fun g hg hr => ?_)
  unfold f_X11_exchanged at h
  have eL : lv_args 0 [va_rf x0, .int x1, .int x2] = [(0, va_rf x0), (1, .int x1), (2, .int x2)] := by cases x0 <;> rfl
  rw [eL]
  refine r_aloadq_n hg 0 dX11_exchanged_0 rfl rfl ?_
  refine r_iload_n hg 1 dX11_exchanged_1 rfl rfl ?_
  obtain ⟨v1, e2, h⟩ := q_b1_some h
  refine r_cS2i hg dX11_exchanged_2 mt_X11_looked ⟨ml_X11_80, mst_X11_looked⟩ (s_X11_looked hΓ hX e2) (q_room (Nat.le_of_ble_eq_true rfl) (Nat.le_of_ble_eq_true rfl)) ⟨Nat.zero_le _, Nat.zero_le _⟩ (Nat.le_of_ble_eq_true rfl) ?_
  refine r_istore_n hg (L' := [(3, .int v1), (0, va_rf x0), (1, .int x1), (2, .int x2)]) dX11_exchanged_5 rfl (by decide) rfl ?_
  refine r_aloadq_n hg 1 dX11_exchanged_6 rfl rfl ?_
  refine r_ifnull hg 26 dX11_exchanged_7 (by decide) (fun e3 => ?_) (fun a4 e3 => ?_)
  · subst e3
    simp only [q_on] at h
    refine r_iload_n hg 0 dX11_exchanged_26 rfl rfl ?_
    exact r_ireturn hr dX11_exchanged_27 ⟨Nat.zero_le _, Nat.zero_le _⟩ ⟨_, rfl, rfl⟩ (by cases h; rfl)
  · subst e3
    simp only [q_on] at h
    refine r_iload_n hg 2 dX11_exchanged_10 rfl rfl ?_
    refine r_iconst hg dX11_exchanged_11 ci_0 ?_
    refine r_aloadq_n hg 1 dX11_exchanged_12 rfl rfl ?_
    replace h := q_b2_some h
    obtain ⟨a5, n6, e7, h⟩ := h
    obtain ⟨e9, k8⟩ := q_arr_some e7
    obtain rfl := Option.some.inj e9
    refine r_alen hg dX11_exchanged_13 k8 ?_
    refine r_iconst hg dX11_exchanged_14 ci_1 ?_
    refine r_isub hg dX11_exchanged_15 ?_
    obtain ⟨v10, e11, h⟩ := q_b1_some h
    refine r_cS3i hg dX11_exchanged_16 mt_X11_within ⟨ml_X11_53, mst_X11_within⟩ (s_X11_within hΓ hX e11) (q_room (Nat.le_of_ble_eq_true rfl) (Nat.le_of_ble_eq_true rfl)) ⟨Nat.zero_le _, Nat.zero_le _⟩ (Nat.le_of_ble_eq_true rfl) ?_
    refine r_if_eq hg 26 dX11_exchanged_19 (by decide) (fun c12 => ?_) (fun c12 => ?_)
    · rw [if_pos c12] at h
      refine r_iload_n hg 0 dX11_exchanged_26 rfl rfl ?_
      exact r_ireturn hr dX11_exchanged_27 ⟨Nat.zero_le _, Nat.zero_le _⟩ ⟨_, rfl, rfl⟩ (by cases h; rfl)
    · rw [if_neg c12] at h
      refine r_aload_n hg 1 dX11_exchanged_22 rfl rfl ?_
      refine r_iload_n hg 2 dX11_exchanged_23 rfl rfl ?_
      refine r_iload_n hg 3 dX11_exchanged_24 rfl rfl ?_
      obtain ⟨I13, e14, h⟩ := q_b1_some h
      refine r_iast hg dX11_exchanged_25 k8 e14 ?_
      refine r_iload_n hg 0 dX11_exchanged_26 rfl rfl ?_
      exact r_ireturn hr dX11_exchanged_27 ⟨Nat.zero_le _, Nat.zero_le _⟩ ⟨_, rfl, rfl⟩ (by cases h; rfl)

def f_X11_fine (this : Nat) (x1 : Int32) (x2 : Int32) (x3 : Int32) (I : qI) : Option (Int32 × qI) :=
  q_b2 (f_X11_newDue this (nI 4) x1 x2 x3 I) fun v1 I2 =>
  some (v1, I2)
set_option maxRecDepth 100000 in
set_option maxHeartbeats 4000000 in
theorem s_X11_fine {l : Launch} {Γ : qC} (hΓ : q_gm Γ) {X : qX} (hX : q_Lay X) {this : Nat} {x1 : Int32} {x2 : Int32} {x3 : Int32} (k_this : q_kd X this = some (13, 9)) {I : qI} {z : Int32 × qI} (h : f_X11_fine this x1 x2 x3 I = some z) : q_Sem l Γ (q_rm 4 0 0) yX11_fine cX11_fine 4 (some .int) [.ref this, .int x1, .int x2, .int x3] I X (some (.int z.1), z.2, X) := by
  refine q_met (by decide) (Nat.le_of_ble_eq_true rfl) (fun g hg hr => ?_)
  unfold f_X11_fine at h
  show g 0 0 0 [(0, .ref this), (1, .int x1), (2, .int x2), (3, .int x3)] [] I X
  refine r_aload_n hg 0 dX11_fine_0 rfl rfl ?_
  refine r_iconst hg dX11_fine_1 ci_4 ?_
  refine r_iload_n hg 1 dX11_fine_2 rfl rfl ?_
  refine r_iload_n hg 2 dX11_fine_3 rfl rfl ?_
  refine r_iload_n hg 3 dX11_fine_4 rfl rfl ?_
  obtain ⟨v1, I2, e3, h⟩ := q_b2_some h
  refine r_cV4i hg dX11_fine_5 mt_X11_newDue ml_X11_155 mv_X11_newDue k_this (s_X11_newDue hΓ hX k_this e3) (q_room (Nat.le_of_ble_eq_true rfl) (Nat.le_of_ble_eq_true rfl)) ⟨Nat.zero_le _, Nat.zero_le _⟩ (Nat.le_of_ble_eq_true rfl) ?_
  exact r_ireturn hr dX11_fine_8 ⟨Nat.zero_le _, Nat.zero_le _⟩ ⟨_, rfl, rfl⟩ (by cases h; rfl)

def f_X11_is (this : Nat) (x1 : Int32) (x2 : Int32) (X : qX) (I : qI) : Option (Int32) :=
  q_b1 (f_X2_has (this + 13) x1 I) fun v3 =>
  if v3 = 0 then
    some ((-1000000001))
  else
    if x2 = (nI 10) then
      q_b1 (f_X9_earned (this + 1) x1 I) fun v18 =>
      some (v18)
    else
      if x2 = (nI 11) then
        q_b1 (f_X9_owed (this + 1) x1 I) fun v15 =>
        some (v15)
      else
        q_b1 (f_X2_row (this + 13) x2) fun r10 =>
        q_b1 (f_X11_looked r10 x1 X I) fun v12 =>
        some (v12)
set_option maxRecDepth 100000 in
set_option maxHeartbeats 4000000 in
theorem s_X11_is {l : Launch} {Γ : qC} (hΓ : q_gm Γ) {X : qX} (hX : q_Lay X) {this : Nat} {x1 : Int32} {x2 : Int32} (k_this : q_kd X this = some (13, 9)) {I : qI} {z : Int32} (h : f_X11_is this x1 x2 X I = some z) : q_Sem l Γ (q_rm 4 0 0) yX11_is cX11_is 3 (some .int) [.ref this, .int x1, .int x2] I X (some (.int z), I, X) := by
  refine q_met (by decide) (Nat.le_of_ble_eq_true rfl) (fun g hg hr => ?_)
  unfold f_X11_is at h
  show g 0 0 0 [(0, .ref this), (1, .int x1), (2, .int x2)] [] I X
  refine r_aload_n hg 0 dX11_is_0 rfl rfl ?_
  have e1 := ly_11_0 hX k_this
  refine r_getR hg dX11_is_1 fl_X11_10 k_this rfl e1.1 ?_
  have e2 := ly_9_2 hX e1.2
  refine r_getR hg dX11_is_4 fl_X11_70 e1.2 rfl e2.1 ?_
  refine r_iload_n hg 1 dX11_is_7 rfl rfl ?_
  obtain ⟨v3, e4, h⟩ := q_b1_some h
  refine r_cV1i hg dX11_is_8 mt_X2_has ml_X11_119 mv_X2_has e2.2 (s_X2_has hΓ hX e2.2 e4) (q_room (Nat.le_of_ble_eq_true rfl) (Nat.le_of_ble_eq_true rfl)) ⟨Nat.zero_le _, Nat.zero_le _⟩ (Nat.le_of_ble_eq_true rfl) ?_
  refine r_if_ne hg 17 dX11_is_11 (by decide) (fun c5 => ?_) (fun c5 => ?_)
  · rw [if_neg c5] at h
    refine r_iload_n hg 2 dX11_is_17 rfl rfl ?_
    refine r_bipush hg dX11_is_18 cb_10 ?_
    refine r_icmp_ne hg 32 dX11_is_20 (by decide) (fun c6 => ?_) (fun c6 => ?_)
    · rw [if_neg c6] at h
      refine r_iload_n hg 2 dX11_is_32 rfl rfl ?_
      refine r_bipush hg dX11_is_33 cb_11 ?_
      refine r_icmp_ne hg 47 dX11_is_35 (by decide) (fun c7 => ?_) (fun c7 => ?_)
      · rw [if_neg c7] at h
        refine r_aload_n hg 0 dX11_is_47 rfl rfl ?_
        have e8 := ly_11_0 hX k_this
        refine r_getR hg dX11_is_48 fl_X11_10 k_this rfl e8.1 ?_
        have e9 := ly_9_2 hX e8.2
        refine r_getR hg dX11_is_51 fl_X11_70 e8.2 rfl e9.1 ?_
        refine r_iload_n hg 2 dX11_is_54 rfl rfl ?_
        obtain ⟨r10, e11, h⟩ := q_b1_some h
        refine r_cV1q hg dX11_is_55 mt_X2_row ml_X11_126 mv_X2_row e9.2 (s_X2_row hΓ hX e9.2 e11) (q_room (Nat.le_of_ble_eq_true rfl) (Nat.le_of_ble_eq_true rfl)) ⟨Nat.zero_le _, Nat.zero_le _⟩ (Nat.le_of_ble_eq_true rfl) ?_
        refine r_iload_n hg 1 dX11_is_58 rfl rfl ?_
        obtain ⟨v12, e13, h⟩ := q_b1_some h
        refine r_cS2i hg dX11_is_59 mt_X11_looked ⟨ml_X11_80, mst_X11_looked⟩ (s_X11_looked hΓ hX e13) (q_room (Nat.le_of_ble_eq_true rfl) (Nat.le_of_ble_eq_true rfl)) ⟨Nat.zero_le _, Nat.zero_le _⟩ (Nat.le_of_ble_eq_true rfl) ?_
        exact r_ireturn hr dX11_is_62 ⟨Nat.zero_le _, Nat.zero_le _⟩ ⟨_, rfl, rfl⟩ (by cases h; rfl)
      · rw [if_pos (Classical.not_not.mp c7)] at h
        refine r_aload_n hg 0 dX11_is_38 rfl rfl ?_
        have e14 := ly_11_0 hX k_this
        refine r_getR hg dX11_is_39 fl_X11_10 k_this rfl e14.1 ?_
        refine r_iload_n hg 1 dX11_is_42 rfl rfl ?_
        obtain ⟨v15, e16, h⟩ := q_b1_some h
        refine r_cV1i hg dX11_is_43 mt_X9_owed ml_X11_123 mv_X9_owed e14.2 (s_X9_owed hΓ hX e14.2 e16) (q_room (Nat.le_of_ble_eq_true rfl) (Nat.le_of_ble_eq_true rfl)) ⟨Nat.zero_le _, Nat.zero_le _⟩ (Nat.le_of_ble_eq_true rfl) ?_
        exact r_ireturn hr dX11_is_46 ⟨Nat.zero_le _, Nat.zero_le _⟩ ⟨_, rfl, rfl⟩ (by cases h; rfl)
    · rw [if_pos (Classical.not_not.mp c6)] at h
      refine r_aload_n hg 0 dX11_is_23 rfl rfl ?_
      have e17 := ly_11_0 hX k_this
      refine r_getR hg dX11_is_24 fl_X11_10 k_this rfl e17.1 ?_
      refine r_iload_n hg 1 dX11_is_27 rfl rfl ?_
      obtain ⟨v18, e19, h⟩ := q_b1_some h
      refine r_cV1i hg dX11_is_28 mt_X9_earned ml_X11_120 mv_X9_earned e17.2 (s_X9_earned hΓ hX e17.2 e19) (q_room (Nat.le_of_ble_eq_true rfl) (Nat.le_of_ble_eq_true rfl)) ⟨Nat.zero_le _, Nat.zero_le _⟩ (Nat.le_of_ble_eq_true rfl) ?_
      exact r_ireturn hr dX11_is_31 ⟨Nat.zero_le _, Nat.zero_le _⟩ ⟨_, rfl, rfl⟩ (by cases h; rfl)
  · rw [if_pos (Classical.not_not.mp c5)] at h
    refine r_ldc hg dX11_is_14 kc_X11_57 ?_
    exact r_ireturn hr dX11_is_16 ⟨Nat.zero_le _, Nat.zero_le _⟩ ⟨_, rfl, rfl⟩ (by cases h; rfl)

def f_X11_last (this : Nat) (x1 : Int32) (x2 : Int32) (I : qI) : Option (Int32 × qI) :=
  q_b1 (f_X11_within x1 (nI 0) (nI 255)) fun v1 =>
  if v1 = 0 then
    some ((-1000000001), I)
  else
    q_b1 (f_X11_within x2 (nI 0) (nI 1)) fun v4 =>
    if v4 = 0 then
      some ((-1000000001), I)
    else
      q_b1 (f_X9_weighStrikes (this + 1) I) fun I8 =>
      if x2 = 0 then
        q_b1 (f_X9_menLast (this + 1) x1 I8) fun v15 =>
        some (v15, I8)
      else
        q_b1 (f_X9_companyLasts (this + 1) x1 I8) fun v12 =>
        some (v12, I8)
set_option maxRecDepth 100000 in
set_option maxHeartbeats 4000000 in
theorem s_X11_last {l : Launch} {Γ : qC} (hΓ : q_gm Γ) {X : qX} (hX : q_Lay X) {this : Nat} {x1 : Int32} {x2 : Int32} (k_this : q_kd X this = some (13, 9)) {I : qI} {z : Int32 × qI} (h : f_X11_last this x1 x2 I = some z) : q_Sem l Γ (q_rm 4 0 0) yX11_last cX11_last 3 (some .int) [.ref this, .int x1, .int x2] I X (some (.int z.1), z.2, X) := by
  refine q_met (by decide) (Nat.le_of_ble_eq_true rfl) (fun g hg hr => ?_)
  unfold f_X11_last at h
  show g 0 0 0 [(0, .ref this), (1, .int x1), (2, .int x2)] [] I X
  refine r_iload_n hg 1 dX11_last_0 rfl rfl ?_
  refine r_iconst hg dX11_last_1 ci_0 ?_
  refine r_sipush hg dX11_last_2 cs_255 ?_
  obtain ⟨v1, e2, h⟩ := q_b1_some h
  refine r_cS3i hg dX11_last_5 mt_X11_within ⟨ml_X11_53, mst_X11_within⟩ (s_X11_within hΓ hX e2) (q_room (Nat.le_of_ble_eq_true rfl) (Nat.le_of_ble_eq_true rfl)) ⟨Nat.zero_le _, Nat.zero_le _⟩ (Nat.le_of_ble_eq_true rfl) ?_
  refine r_if_eq hg 20 dX11_last_8 (by decide) (fun c3 => ?_) (fun c3 => ?_)
  · rw [if_pos c3] at h
    refine r_ldc hg dX11_last_20 kc_X11_57 ?_
    exact r_ireturn hr dX11_last_22 ⟨Nat.zero_le _, Nat.zero_le _⟩ ⟨_, rfl, rfl⟩ (by cases h; rfl)
  · rw [if_neg c3] at h
    refine r_iload_n hg 2 dX11_last_11 rfl rfl ?_
    refine r_iconst hg dX11_last_12 ci_0 ?_
    refine r_iconst hg dX11_last_13 ci_1 ?_
    obtain ⟨v4, e5, h⟩ := q_b1_some h
    refine r_cS3i hg dX11_last_14 mt_X11_within ⟨ml_X11_53, mst_X11_within⟩ (s_X11_within hΓ hX e5) (q_room (Nat.le_of_ble_eq_true rfl) (Nat.le_of_ble_eq_true rfl)) ⟨Nat.zero_le _, Nat.zero_le _⟩ (Nat.le_of_ble_eq_true rfl) ?_
    refine r_if_ne hg 23 dX11_last_17 (by decide) (fun c6 => ?_) (fun c6 => ?_)
    · rw [if_neg c6] at h
      refine r_aload_n hg 0 dX11_last_23 rfl rfl ?_
      have e7 := ly_11_0 hX k_this
      refine r_getR hg dX11_last_24 fl_X11_10 k_this rfl e7.1 ?_
      obtain ⟨I8, e9, h⟩ := q_b1_some h
      refine r_cV0v hg dX11_last_27 mt_X9_weighStrikes ml_X11_366 mv_X9_weighStrikes e7.2 (s_X9_weighStrikes hΓ hX e7.2 e9) (q_room (Nat.le_of_ble_eq_true rfl) (Nat.le_of_ble_eq_true rfl)) ⟨Nat.zero_le _, Nat.zero_le _⟩ (Nat.le_of_ble_eq_true rfl) ?_
      refine r_iload_n hg 2 dX11_last_30 rfl rfl ?_
      refine r_if_ne hg 45 dX11_last_31 (by decide) (fun c10 => ?_) (fun c10 => ?_)
      · rw [if_neg c10] at h
        refine r_aload_n hg 0 dX11_last_45 rfl rfl ?_
        have e11 := ly_11_0 hX k_this
        refine r_getR hg dX11_last_46 fl_X11_10 k_this rfl e11.1 ?_
        refine r_iload_n hg 1 dX11_last_49 rfl rfl ?_
        obtain ⟨v12, e13, h⟩ := q_b1_some h
        refine r_cV1i hg dX11_last_50 mt_X9_companyLasts ml_X11_372 mv_X9_companyLasts e11.2 (s_X9_companyLasts hΓ hX e11.2 e13) (q_room (Nat.le_of_ble_eq_true rfl) (Nat.le_of_ble_eq_true rfl)) ⟨Nat.zero_le _, Nat.zero_le _⟩ (Nat.le_of_ble_eq_true rfl) ?_
        exact r_ireturn hr dX11_last_53 ⟨Nat.zero_le _, Nat.zero_le _⟩ ⟨_, rfl, rfl⟩ (by cases h; rfl)
      · rw [if_pos (Classical.not_not.mp c10)] at h
        refine r_aload_n hg 0 dX11_last_34 rfl rfl ?_
        have e14 := ly_11_0 hX k_this
        refine r_getR hg dX11_last_35 fl_X11_10 k_this rfl e14.1 ?_
        refine r_iload_n hg 1 dX11_last_38 rfl rfl ?_
        obtain ⟨v15, e16, h⟩ := q_b1_some h
        refine r_cV1i hg dX11_last_39 mt_X9_menLast ml_X11_369 mv_X9_menLast e14.2 (s_X9_menLast hΓ hX e14.2 e16) (q_room (Nat.le_of_ble_eq_true rfl) (Nat.le_of_ble_eq_true rfl)) ⟨Nat.zero_le _, Nat.zero_le _⟩ (Nat.le_of_ble_eq_true rfl) ?_
        refine r_goto hg 53 dX11_last_42 (by decide) ?_
        exact r_ireturn hr dX11_last_53 ⟨Nat.zero_le _, Nat.zero_le _⟩ ⟨_, rfl, rfl⟩ (by cases h; rfl)
    · rw [if_pos (Classical.not_not.mp c6)] at h
      refine r_ldc hg dX11_last_20 kc_X11_57 ?_
      exact r_ireturn hr dX11_last_22 ⟨Nat.zero_le _, Nat.zero_le _⟩ ⟨_, rfl, rfl⟩ (by cases h; rfl)

def f_X11_man (this : Nat) (x1 : Int32) (x2 : Int32) (x3 : Int32) (I : qI) : Option (Int32 × qI) :=
  q_b1 (f_X2_mayBe (nI 0) x1 I) fun v1 =>
  if v1 = 0 then
    some ((-1000000001), I)
  else
    q_b1 (f_X2_mayBe (nI 1) x2 I) fun v4 =>
    if v4 = 0 then
      some ((-1000000001), I)
    else
      q_b1 (f_X2_mayBe (nI 2) x3 I) fun v7 =>
      if v7 = 0 then
        some ((-1000000001), I)
      else
        if (nI 12) ≤ (I (this + 13) 14) then
          some ((-1000000003), I)
        else
          if (I (this + 28) 8) ≤ (nI 58) then
            q_b2 (f_X9_newMan (this + 1) x1 x2 x3 I) fun v17 I18 =>
            some (v17, I18)
          else
            some ((-1000000003), I)
set_option maxRecDepth 100000 in
set_option maxHeartbeats 4000000 in
theorem s_X11_man {l : Launch} {Γ : qC} (hΓ : q_gm Γ) {X : qX} (hX : q_Lay X) {this : Nat} {x1 : Int32} {x2 : Int32} {x3 : Int32} (k_this : q_kd X this = some (13, 9)) {I : qI} {z : Int32 × qI} (h : f_X11_man this x1 x2 x3 I = some z) : q_Sem l Γ (q_rm 4 0 0) yX11_man cX11_man 4 (some .int) [.ref this, .int x1, .int x2, .int x3] I X (some (.int z.1), z.2, X) := by
  refine q_met (by decide) (Nat.le_of_ble_eq_true rfl) (fun g hg hr => ?_)
  unfold f_X11_man at h
  show g 0 0 0 [(0, .ref this), (1, .int x1), (2, .int x2), (3, .int x3)] [] I X
  refine r_iconst hg dX11_man_0 ci_0 ?_
  refine r_iload_n hg 1 dX11_man_1 rfl rfl ?_
  obtain ⟨v1, e2, h⟩ := q_b1_some h
  refine r_cS2i hg dX11_man_2 mt_X2_mayBe ⟨ml_X11_100, mst_X2_mayBe⟩ (s_X2_mayBe hΓ hX e2) (q_room (Nat.le_of_ble_eq_true rfl) (Nat.le_of_ble_eq_true rfl)) ⟨Nat.zero_le _, Nat.zero_le _⟩ (Nat.le_of_ble_eq_true rfl) ?_
  refine r_if_eq hg 24 dX11_man_5 (by decide) (fun c3 => ?_) (fun c3 => ?_)
  · rw [if_pos c3] at h
    refine r_ldc hg dX11_man_24 kc_X11_57 ?_
    exact r_ireturn hr dX11_man_26 ⟨Nat.zero_le _, Nat.zero_le _⟩ ⟨_, rfl, rfl⟩ (by cases h; rfl)
  · rw [if_neg c3] at h
    refine r_iconst hg dX11_man_8 ci_1 ?_
    refine r_iload_n hg 2 dX11_man_9 rfl rfl ?_
    obtain ⟨v4, e5, h⟩ := q_b1_some h
    refine r_cS2i hg dX11_man_10 mt_X2_mayBe ⟨ml_X11_100, mst_X2_mayBe⟩ (s_X2_mayBe hΓ hX e5) (q_room (Nat.le_of_ble_eq_true rfl) (Nat.le_of_ble_eq_true rfl)) ⟨Nat.zero_le _, Nat.zero_le _⟩ (Nat.le_of_ble_eq_true rfl) ?_
    refine r_if_eq hg 24 dX11_man_13 (by decide) (fun c6 => ?_) (fun c6 => ?_)
    · rw [if_pos c6] at h
      refine r_ldc hg dX11_man_24 kc_X11_57 ?_
      exact r_ireturn hr dX11_man_26 ⟨Nat.zero_le _, Nat.zero_le _⟩ ⟨_, rfl, rfl⟩ (by cases h; rfl)
    · rw [if_neg c6] at h
      refine r_iconst hg dX11_man_16 ci_2 ?_
      refine r_iload_n hg 3 dX11_man_17 rfl rfl ?_
      obtain ⟨v7, e8, h⟩ := q_b1_some h
      refine r_cS2i hg dX11_man_18 mt_X2_mayBe ⟨ml_X11_100, mst_X2_mayBe⟩ (s_X2_mayBe hΓ hX e8) (q_room (Nat.le_of_ble_eq_true rfl) (Nat.le_of_ble_eq_true rfl)) ⟨Nat.zero_le _, Nat.zero_le _⟩ (Nat.le_of_ble_eq_true rfl) ?_
      refine r_if_ne hg 27 dX11_man_21 (by decide) (fun c9 => ?_) (fun c9 => ?_)
      · rw [if_neg c9] at h
        refine r_aload_n hg 0 dX11_man_27 rfl rfl ?_
        have e10 := ly_11_0 hX k_this
        refine r_getR hg dX11_man_28 fl_X11_10 k_this rfl e10.1 ?_
        have e11 := ly_9_2 hX e10.2
        refine r_getR hg dX11_man_31 fl_X11_70 e10.2 rfl e11.1 ?_
        refine r_getI hg dX11_man_34 fl_X11_104 e11.2 rfl ?_
        refine r_bipush hg dX11_man_37 cb_12 ?_
        refine r_icmp_ge hg 57 dX11_man_39 (by decide) (fun c12 => ?_) (fun c12 => ?_)
        · rw [if_pos c12] at h
          refine r_ldc hg dX11_man_57 kc_X11_114 ?_
          exact r_ireturn hr dX11_man_59 ⟨Nat.zero_le _, Nat.zero_le _⟩ ⟨_, rfl, rfl⟩ (by cases h; rfl)
        · rw [if_neg c12] at h
          refine r_aload_n hg 0 dX11_man_42 rfl rfl ?_
          have e13 := ly_11_0 hX k_this
          refine r_getR hg dX11_man_43 fl_X11_10 k_this rfl e13.1 ?_
          have e14 := ly_9_3 hX e13.2
          refine r_getR hg dX11_man_46 fl_X11_107 e13.2 rfl e14.1 ?_
          refine r_getI hg dX11_man_49 fl_X11_111 e14.2 rfl ?_
          refine r_bipush hg dX11_man_52 cb_58 ?_
          refine r_icmp_le hg 60 dX11_man_54 (by decide) (fun c15 => ?_) (fun c15 => ?_)
          · rw [if_pos c15] at h
            refine r_aload_n hg 0 dX11_man_60 rfl rfl ?_
            have e16 := ly_11_0 hX k_this
            refine r_getR hg dX11_man_61 fl_X11_10 k_this rfl e16.1 ?_
            refine r_iload_n hg 1 dX11_man_64 rfl rfl ?_
            refine r_iload_n hg 2 dX11_man_65 rfl rfl ?_
            refine r_iload_n hg 3 dX11_man_66 rfl rfl ?_
            obtain ⟨v17, I18, e19, h⟩ := q_b2_some h
            refine r_cV3i hg dX11_man_67 mt_X9_newMan ml_X11_115 mv_X9_newMan e16.2 (s_X9_newMan hΓ hX e16.2 e19) (q_room (Nat.le_of_ble_eq_true rfl) (Nat.le_of_ble_eq_true rfl)) ⟨Nat.zero_le _, Nat.zero_le _⟩ (Nat.le_of_ble_eq_true rfl) ?_
            exact r_ireturn hr dX11_man_70 ⟨Nat.zero_le _, Nat.zero_le _⟩ ⟨_, rfl, rfl⟩ (by cases h; rfl)
          · rw [if_neg c15] at h
            refine r_ldc hg dX11_man_57 kc_X11_114 ?_
            exact r_ireturn hr dX11_man_59 ⟨Nat.zero_le _, Nat.zero_le _⟩ ⟨_, rfl, rfl⟩ (by cases h; rfl)
      · rw [if_pos (Classical.not_not.mp c9)] at h
        refine r_ldc hg dX11_man_24 kc_X11_57 ?_
        exact r_ireturn hr dX11_man_26 ⟨Nat.zero_le _, Nat.zero_le _⟩ ⟨_, rfl, rfl⟩ (by cases h; rfl)

def f_X11_melt (this : Nat) (x1 : Int32) (I : qI) : Option (Int32 × qI) :=
  q_b1 (f_X1_has (this + 28) x1 I) fun v3 =>
  if v3 = 0 then
    some ((-1000000001), I)
  else
    q_b1 (q_rd I (this + 29) 60 x1) fun v9 =>
    if v9 = (nI 3) then
      q_b1 (q_rd I (this + 35) 60 x1) fun v15 =>
      q_b1 (f_X2_has (this + 13) v15 I) fun v19 =>
      if v19 = 0 then
        some ((-1000000002), I)
      else
        q_b1 (q_rd I (this + 31) 60 x1) fun v27 =>
        q_b1 (f_X2_getChecks (this + 13) v15 v27 I) fun I29 =>
        q_b1 (q_wr I29 (this + 35) 60 x1 (-1000000005)) fun I34 =>
        q_b1 (q_rd I34 (this + 19) 12 v15) fun v39 =>
        some (v39, I34)
    else
      some ((-1000000012), I)
set_option maxRecDepth 100000 in
set_option maxHeartbeats 4000000 in
theorem s_X11_melt {l : Launch} {Γ : qC} (hΓ : q_gm Γ) {X : qX} (hX : q_Lay X) {this : Nat} {x1 : Int32} (k_this : q_kd X this = some (13, 9)) {I : qI} {z : Int32 × qI} (h : f_X11_melt this x1 I = some z) : q_Sem l Γ (q_rm 4 0 0) yX11_melt cX11_melt 3 (some .int) [.ref this, .int x1] I X (some (.int z.1), z.2, X) := by
  refine q_met (by decide) (Nat.le_of_ble_eq_true rfl) (fun g hg hr => ?_)
  unfold f_X11_melt at h
  show g 0 0 0 [(0, .ref this), (1, .int x1)] [] I X
  refine r_aload_n hg 0 dX11_melt_0 rfl rfl ?_
  have e1 := ly_11_0 hX k_this
  refine r_getR hg dX11_melt_1 fl_X11_10 k_this rfl e1.1 ?_
  have e2 := ly_9_3 hX e1.2
  refine r_getR hg dX11_melt_4 fl_X11_107 e1.2 rfl e2.1 ?_
  refine r_iload_n hg 1 dX11_melt_7 rfl rfl ?_
  obtain ⟨v3, e4, h⟩ := q_b1_some h
  refine r_cV1i hg dX11_melt_8 mt_X1_has ml_X11_175 mv_X1_has e2.2 (s_X1_has hΓ hX e2.2 e4) (q_room (Nat.le_of_ble_eq_true rfl) (Nat.le_of_ble_eq_true rfl)) ⟨Nat.zero_le _, Nat.zero_le _⟩ (Nat.le_of_ble_eq_true rfl) ?_
  refine r_if_ne hg 17 dX11_melt_11 (by decide) (fun c5 => ?_) (fun c5 => ?_)
  · rw [if_neg c5] at h
    refine r_aload_n hg 0 dX11_melt_17 rfl rfl ?_
    have e6 := ly_11_0 hX k_this
    refine r_getR hg dX11_melt_18 fl_X11_10 k_this rfl e6.1 ?_
    have e7 := ly_9_3 hX e6.2
    refine r_getR hg dX11_melt_21 fl_X11_107 e6.2 rfl e7.1 ?_
    have e8 := ly_1_0 hX e7.2
    refine r_getR hg dX11_melt_24 fl_X11_176 e7.2 rfl e8.1 ?_
    refine r_iload_n hg 1 dX11_melt_27 rfl rfl ?_
    obtain ⟨v9, e10, h⟩ := q_b1_some h
    refine r_iald hg dX11_melt_28 e8.2 e10 ?_
    refine r_iconst hg dX11_melt_29 ci_3 ?_
    refine r_icmp_eq hg 36 dX11_melt_30 (by decide) (fun c11 => ?_) (fun c11 => ?_)
    · rw [if_pos c11] at h
      refine r_aload_n hg 0 dX11_melt_36 rfl rfl ?_
      have e12 := ly_11_0 hX k_this
      refine r_getR hg dX11_melt_37 fl_X11_10 k_this rfl e12.1 ?_
      have e13 := ly_9_3 hX e12.2
      refine r_getR hg dX11_melt_40 fl_X11_107 e12.2 rfl e13.1 ?_
      have e14 := ly_1_6 hX e13.2
      refine r_getR hg dX11_melt_43 fl_X11_165 e13.2 rfl e14.1 ?_
      refine r_iload_n hg 1 dX11_melt_46 rfl rfl ?_
      obtain ⟨v15, e16, h⟩ := q_b1_some h
      refine r_iald hg dX11_melt_47 e14.2 e16 ?_
      refine r_istore_n hg (L' := [(2, .int v15), (0, .ref this), (1, .int x1)]) dX11_melt_48 rfl (by decide) rfl ?_
      refine r_aload_n hg 1 dX11_melt_49 rfl rfl ?_
      have e17 := ly_11_0 hX k_this
      refine r_getR hg dX11_melt_50 fl_X11_10 k_this rfl e17.1 ?_
      have e18 := ly_9_2 hX e17.2
      refine r_getR hg dX11_melt_53 fl_X11_70 e17.2 rfl e18.1 ?_
      refine r_iload_n hg 0 dX11_melt_56 rfl rfl ?_
      obtain ⟨v19, e20, h⟩ := q_b1_some h
      refine r_cV1i hg dX11_melt_57 mt_X2_has ml_X11_119 mv_X2_has e18.2 (s_X2_has hΓ hX e18.2 e20) (q_room (Nat.le_of_ble_eq_true rfl) (Nat.le_of_ble_eq_true rfl)) ⟨Nat.zero_le _, Nat.zero_le _⟩ (Nat.le_of_ble_eq_true rfl) ?_
      refine r_if_ne hg 66 dX11_melt_60 (by decide) (fun c21 => ?_) (fun c21 => ?_)
      · rw [if_neg c21] at h
        refine r_aload_n hg 1 dX11_melt_66 rfl rfl ?_
        have e22 := ly_11_0 hX k_this
        refine r_getR hg dX11_melt_67 fl_X11_10 k_this rfl e22.1 ?_
        have e23 := ly_9_2 hX e22.2
        refine r_getR hg dX11_melt_70 fl_X11_70 e22.2 rfl e23.1 ?_
        refine r_iload_n hg 0 dX11_melt_73 rfl rfl ?_
        refine r_aload_n hg 1 dX11_melt_74 rfl rfl ?_
        have e24 := ly_11_0 hX k_this
        refine r_getR hg dX11_melt_75 fl_X11_10 k_this rfl e24.1 ?_
        have e25 := ly_9_3 hX e24.2
        refine r_getR hg dX11_melt_78 fl_X11_107 e24.2 rfl e25.1 ?_
        have e26 := ly_1_2 hX e25.2
        refine r_getR hg dX11_melt_81 fl_X11_183 e25.2 rfl e26.1 ?_
        refine r_iload_n hg 2 dX11_melt_84 rfl rfl ?_
        obtain ⟨v27, e28, h⟩ := q_b1_some h
        refine r_iald hg dX11_melt_85 e26.2 e28 ?_
        obtain ⟨I29, e30, h⟩ := q_b1_some h
        refine r_cV2v hg dX11_melt_86 mt_X2_getChecks ml_X11_158 mv_X2_getChecks e23.2 (s_X2_getChecks hΓ hX e23.2 e30) (q_room (Nat.le_of_ble_eq_true rfl) (Nat.le_of_ble_eq_true rfl)) ⟨Nat.zero_le _, Nat.zero_le _⟩ (Nat.le_of_ble_eq_true rfl) ?_
        refine r_aload_n hg 1 dX11_melt_89 rfl rfl ?_
        have e31 := ly_11_0 hX k_this
        refine r_getR hg dX11_melt_90 fl_X11_10 k_this rfl e31.1 ?_
        have e32 := ly_9_3 hX e31.2
        refine r_getR hg dX11_melt_93 fl_X11_107 e31.2 rfl e32.1 ?_
        have e33 := ly_1_6 hX e32.2
        refine r_getR hg dX11_melt_96 fl_X11_165 e32.2 rfl e33.1 ?_
        refine r_iload_n hg 2 dX11_melt_99 rfl rfl ?_
        refine r_ldc hg dX11_melt_100 kc_X11_130 ?_
        obtain ⟨I34, e35, h⟩ := q_b1_some h
        refine r_iast hg dX11_melt_102 e33.2 e35 ?_
        refine r_aload_n hg 1 dX11_melt_103 rfl rfl ?_
        have e36 := ly_11_0 hX k_this
        refine r_getR hg dX11_melt_104 fl_X11_10 k_this rfl e36.1 ?_
        have e37 := ly_9_2 hX e36.2
        refine r_getR hg dX11_melt_107 fl_X11_70 e36.2 rfl e37.1 ?_
        have e38 := ly_2_5 hX e37.2
        refine r_getR hg dX11_melt_110 fl_X11_189 e37.2 rfl e38.1 ?_
        refine r_iload_n hg 0 dX11_melt_113 rfl rfl ?_
        obtain ⟨v39, e40, h⟩ := q_b1_some h
        refine r_iald hg dX11_melt_114 e38.2 e40 ?_
        exact r_ireturn hr dX11_melt_115 ⟨Nat.zero_le _, Nat.zero_le _⟩ ⟨_, rfl, rfl⟩ (by cases h; rfl)
      · rw [if_pos (Classical.not_not.mp c21)] at h
        refine r_ldc hg dX11_melt_63 kc_X11_171 ?_
        exact r_ireturn hr dX11_melt_65 ⟨Nat.zero_le _, Nat.zero_le _⟩ ⟨_, rfl, rfl⟩ (by cases h; rfl)
    · rw [if_neg c11] at h
      refine r_ldc hg dX11_melt_33 kc_X11_179 ?_
      exact r_ireturn hr dX11_melt_35 ⟨Nat.zero_le _, Nat.zero_le _⟩ ⟨_, rfl, rfl⟩ (by cases h; rfl)
  · rw [if_pos (Classical.not_not.mp c5)] at h
    refine r_ldc hg dX11_melt_14 kc_X11_57 ?_
    exact r_ireturn hr dX11_melt_16 ⟨Nat.zero_le _, Nat.zero_le _⟩ ⟨_, rfl, rfl⟩ (by cases h; rfl)

def f_X11_note (this : Nat) (x1 : Int32) (x2 : Int32) (x3 : Int32) (I : qI) : Option (Int32 × qI) :=
  q_b1 (f_X11_bookFinding this x1 x2 I) fun v1 =>
  if v1 = 0 then
    q_b1 (f_X0_set (this + 199) x1 x2 x3 I) fun I5 =>
    some ((nI 1), I5)
  else
    some (v1, I)
set_option maxRecDepth 100000 in
set_option maxHeartbeats 4000000 in
theorem s_X11_note {l : Launch} {Γ : qC} (hΓ : q_gm Γ) {X : qX} (hX : q_Lay X) {this : Nat} {x1 : Int32} {x2 : Int32} {x3 : Int32} (k_this : q_kd X this = some (13, 9)) {I : qI} {z : Int32 × qI} (h : f_X11_note this x1 x2 x3 I = some z) : q_Sem l Γ (q_rm 4 0 0) yX11_note cX11_note 5 (some .int) [.ref this, .int x1, .int x2, .int x3] I X (some (.int z.1), z.2, X) := by
  refine q_met (by decide) (Nat.le_of_ble_eq_true rfl) (fun g hg hr => ?_)
  unfold f_X11_note at h
  show g 0 0 0 [(0, .ref this), (1, .int x1), (2, .int x2), (3, .int x3)] [] I X
  refine r_aload_n hg 0 dX11_note_0 rfl rfl ?_
  refine r_iload_n hg 1 dX11_note_1 rfl rfl ?_
  refine r_iload_n hg 2 dX11_note_2 rfl rfl ?_
  obtain ⟨v1, e2, h⟩ := q_b1_some h
  refine r_cV2i hg dX11_note_3 mt_X11_bookFinding ml_X11_291 mv_X11_bookFinding k_this (s_X11_bookFinding hΓ hX k_this e2) (q_room (Nat.le_of_ble_eq_true rfl) (Nat.le_of_ble_eq_true rfl)) ⟨Nat.zero_le _, Nat.zero_le _⟩ (Nat.le_of_ble_eq_true rfl) ?_
  refine r_istore hg (L' := [(4, .int v1), (0, .ref this), (1, .int x1), (2, .int x2), (3, .int x3)]) dX11_note_6 (by decide) rfl ?_
  refine r_iload hg 0 dX11_note_8 rfl ?_
  refine r_if_eq hg 16 dX11_note_10 (by decide) (fun c3 => ?_) (fun c3 => ?_)
  · rw [if_pos c3] at h
    refine r_aload_n hg 1 dX11_note_16 rfl rfl ?_
    have e4 := ly_11_4 hX k_this
    refine r_getR hg dX11_note_17 fl_X11_32 k_this rfl e4.1 ?_
    refine r_iload_n hg 2 dX11_note_20 rfl rfl ?_
    refine r_iload_n hg 3 dX11_note_21 rfl rfl ?_
    refine r_iload_n hg 4 dX11_note_22 rfl rfl ?_
    obtain ⟨I5, e6, h⟩ := q_b1_some h
    refine r_cV3v hg dX11_note_23 mt_X0_set ml_X11_294 mv_X0_set e4.2 (s_X0_set hΓ hX e4.2 e6) (q_room (Nat.le_of_ble_eq_true rfl) (Nat.le_of_ble_eq_true rfl)) ⟨Nat.zero_le _, Nat.zero_le _⟩ (Nat.le_of_ble_eq_true rfl) ?_
    refine r_iconst hg dX11_note_26 ci_1 ?_
    exact r_ireturn hr dX11_note_27 ⟨Nat.zero_le _, Nat.zero_le _⟩ ⟨_, rfl, rfl⟩ (by cases h; rfl)
  · rw [if_neg c3] at h
    refine r_iload hg 0 dX11_note_13 rfl ?_
    exact r_ireturn hr dX11_note_15 ⟨Nat.zero_le _, Nat.zero_le _⟩ ⟨_, rfl, rfl⟩ (by cases h; rfl)

def f_X11_of (this : Nat) (x1 : Int32) (x2 : Int32) (X : qX) (I : qI) : Option (Int32) :=
  q_b1 (f_X7_has (this + 37) x1 I) fun v3 =>
  if v3 = 0 then
    some ((-1000000001))
  else
    q_b1 (f_X7_row (this + 37) x2) fun r8 =>
    q_b1 (f_X11_looked r8 x1 X I) fun v10 =>
    some (v10)
set_option maxRecDepth 100000 in
set_option maxHeartbeats 4000000 in
theorem s_X11_of {l : Launch} {Γ : qC} (hΓ : q_gm Γ) {X : qX} (hX : q_Lay X) {this : Nat} {x1 : Int32} {x2 : Int32} (k_this : q_kd X this = some (13, 9)) {I : qI} {z : Int32} (h : f_X11_of this x1 x2 X I = some z) : q_Sem l Γ (q_rm 4 0 0) yX11_of cX11_of 3 (some .int) [.ref this, .int x1, .int x2] I X (some (.int z), I, X) := by
  refine q_met (by decide) (Nat.le_of_ble_eq_true rfl) (fun g hg hr => ?_)
  unfold f_X11_of at h
  show g 0 0 0 [(0, .ref this), (1, .int x1), (2, .int x2)] [] I X
  refine r_aload_n hg 0 dX11_of_0 rfl rfl ?_
  have e1 := ly_11_0 hX k_this
  refine r_getR hg dX11_of_1 fl_X11_10 k_this rfl e1.1 ?_
  have e2 := ly_9_4 hX e1.2
  refine r_getR hg dX11_of_4 fl_X11_256 e1.2 rfl e2.1 ?_
  refine r_iload_n hg 1 dX11_of_7 rfl rfl ?_
  obtain ⟨v3, e4, h⟩ := q_b1_some h
  refine r_cV1i hg dX11_of_8 mt_X7_has ml_X11_275 mv_X7_has e2.2 (s_X7_has hΓ hX e2.2 e4) (q_room (Nat.le_of_ble_eq_true rfl) (Nat.le_of_ble_eq_true rfl)) ⟨Nat.zero_le _, Nat.zero_le _⟩ (Nat.le_of_ble_eq_true rfl) ?_
  refine r_if_eq hg 32 dX11_of_11 (by decide) (fun c5 => ?_) (fun c5 => ?_)
  · rw [if_pos c5] at h
    refine r_ldc hg dX11_of_32 kc_X11_57 ?_
    exact r_ireturn hr dX11_of_34 ⟨Nat.zero_le _, Nat.zero_le _⟩ ⟨_, rfl, rfl⟩ (by cases h; rfl)
  · rw [if_neg c5] at h
    refine r_aload_n hg 0 dX11_of_14 rfl rfl ?_
    have e6 := ly_11_0 hX k_this
    refine r_getR hg dX11_of_15 fl_X11_10 k_this rfl e6.1 ?_
    have e7 := ly_9_4 hX e6.2
    refine r_getR hg dX11_of_18 fl_X11_256 e6.2 rfl e7.1 ?_
    refine r_iload_n hg 2 dX11_of_21 rfl rfl ?_
    obtain ⟨r8, e9, h⟩ := q_b1_some h
    refine r_cV1q hg dX11_of_22 mt_X7_row ml_X11_276 mv_X7_row e7.2 (s_X7_row hΓ hX e7.2 e9) (q_room (Nat.le_of_ble_eq_true rfl) (Nat.le_of_ble_eq_true rfl)) ⟨Nat.zero_le _, Nat.zero_le _⟩ (Nat.le_of_ble_eq_true rfl) ?_
    refine r_iload_n hg 1 dX11_of_25 rfl rfl ?_
    obtain ⟨v10, e11, h⟩ := q_b1_some h
    refine r_cS2i hg dX11_of_26 mt_X11_looked ⟨ml_X11_80, mst_X11_looked⟩ (s_X11_looked hΓ hX e11) (q_room (Nat.le_of_ble_eq_true rfl) (Nat.le_of_ble_eq_true rfl)) ⟨Nat.zero_le _, Nat.zero_le _⟩ (Nat.le_of_ble_eq_true rfl) ?_
    refine r_goto hg 34 dX11_of_29 (by decide) ?_
    exact r_ireturn hr dX11_of_34 ⟨Nat.zero_le _, Nat.zero_le _⟩ ⟨_, rfl, rfl⟩ (by cases h; rfl)

def f_X11_read (this : Nat) (x1 : Int32) (x2 : Int32) (I : qI) : Option (Int32) :=
  q_b1 (f_X11_bookFinding this x1 x2 I) fun v1 =>
  if v1 = 0 then
    q_b1 (f_X0_placeOf (this + 199) x1 x2 I) fun v5 =>
    if 0 ≤ v5 then
      q_b1 (q_rd I (this + 202) 240 v5) fun v10 =>
      some (v10)
    else
      some ((-1000000012))
  else
    some (v1)
set_option maxRecDepth 100000 in
set_option maxHeartbeats 4000000 in
theorem s_X11_read {l : Launch} {Γ : qC} (hΓ : q_gm Γ) {X : qX} (hX : q_Lay X) {this : Nat} {x1 : Int32} {x2 : Int32} (k_this : q_kd X this = some (13, 9)) {I : qI} {z : Int32} (h : f_X11_read this x1 x2 I = some z) : q_Sem l Γ (q_rm 4 0 0) yX11_read cX11_read 5 (some .int) [.ref this, .int x1, .int x2] I X (some (.int z), I, X) := by
  refine q_met (by decide) (Nat.le_of_ble_eq_true rfl) (fun g hg hr => ?_)
  unfold f_X11_read at h
  show g 0 0 0 [(0, .ref this), (1, .int x1), (2, .int x2)] [] I X
  refine r_aload_n hg 0 dX11_read_0 rfl rfl ?_
  refine r_iload_n hg 1 dX11_read_1 rfl rfl ?_
  refine r_iload_n hg 2 dX11_read_2 rfl rfl ?_
  obtain ⟨v1, e2, h⟩ := q_b1_some h
  refine r_cV2i hg dX11_read_3 mt_X11_bookFinding ml_X11_291 mv_X11_bookFinding k_this (s_X11_bookFinding hΓ hX k_this e2) (q_room (Nat.le_of_ble_eq_true rfl) (Nat.le_of_ble_eq_true rfl)) ⟨Nat.zero_le _, Nat.zero_le _⟩ (Nat.le_of_ble_eq_true rfl) ?_
  refine r_istore_n hg (L' := [(3, .int v1), (0, .ref this), (1, .int x1), (2, .int x2)]) dX11_read_6 rfl (by decide) rfl ?_
  refine r_iload_n hg 0 dX11_read_7 rfl rfl ?_
  refine r_if_eq hg 13 dX11_read_8 (by decide) (fun c3 => ?_) (fun c3 => ?_)
  · rw [if_pos c3] at h
    refine r_aload_n hg 1 dX11_read_13 rfl rfl ?_
    have e4 := ly_11_4 hX k_this
    refine r_getR hg dX11_read_14 fl_X11_32 k_this rfl e4.1 ?_
    refine r_iload_n hg 2 dX11_read_17 rfl rfl ?_
    refine r_iload_n hg 3 dX11_read_18 rfl rfl ?_
    obtain ⟨v5, e6, h⟩ := q_b1_some h
    refine r_cV2i hg dX11_read_19 mt_X0_placeOf ml_X11_297 mv_X0_placeOf e4.2 (s_X0_placeOf hΓ hX e4.2 e6) (q_room (Nat.le_of_ble_eq_true rfl) (Nat.le_of_ble_eq_true rfl)) ⟨Nat.zero_le _, Nat.zero_le _⟩ (Nat.le_of_ble_eq_true rfl) ?_
    refine r_istore hg (L' := [(4, .int v5), (3, .int v1), (0, .ref this), (1, .int x1), (2, .int x2)]) dX11_read_22 (by decide) rfl ?_
    refine r_iload hg 0 dX11_read_24 rfl ?_
    refine r_if_ge hg 34 dX11_read_26 (by decide) (fun c7 => ?_) (fun c7 => ?_)
    · rw [if_pos c7] at h
      refine r_aload_n hg 2 dX11_read_34 rfl rfl ?_
      have e8 := ly_11_4 hX k_this
      refine r_getR hg dX11_read_35 fl_X11_32 k_this rfl e8.1 ?_
      have e9 := ly_0_2 hX e8.2
      refine r_getR hg dX11_read_38 fl_X11_300 e8.2 rfl e9.1 ?_
      refine r_iload hg 0 dX11_read_41 rfl ?_
      obtain ⟨v10, e11, h⟩ := q_b1_some h
      refine r_iald hg dX11_read_43 e9.2 e11 ?_
      exact r_ireturn hr dX11_read_44 ⟨Nat.zero_le _, Nat.zero_le _⟩ ⟨_, rfl, rfl⟩ (by cases h; rfl)
    · rw [if_neg c7] at h
      refine r_ldc hg dX11_read_29 kc_X11_179 ?_
      refine r_goto hg 44 dX11_read_31 (by decide) ?_
      exact r_ireturn hr dX11_read_44 ⟨Nat.zero_le _, Nat.zero_le _⟩ ⟨_, rfl, rfl⟩ (by cases h; rfl)
  · rw [if_neg c3] at h
    refine r_iload_n hg 0 dX11_read_11 rfl rfl ?_
    exact r_ireturn hr dX11_read_12 ⟨Nat.zero_le _, Nat.zero_le _⟩ ⟨_, rfl, rfl⟩ (by cases h; rfl)

def f_X11_sell (this : Nat) (x1 : Int32) (x2 : Int32) (x3 : Int32) (I : qI) : Option (Int32 × qI) :=
  q_b1 (f_X1_has (this + 28) x1 I) fun v3 =>
  if v3 = 0 then
    some ((-1000000001), I)
  else
    q_b1 (f_X2_has (this + 13) x2 I) fun v8 =>
    if v8 = 0 then
      some ((-1000000001), I)
    else
      q_b1 (f_X11_within x3 (nI 0) (nI 99)) fun v11 =>
      if v11 = 0 then
        some ((-1000000001), I)
      else
        q_b1 (q_rd I (this + 29) 60 x1) fun v17 =>
        if v17 = (nI 3) then
          q_b1 (q_rd I (this + 35) 60 x1) fun v23 =>
          q_b1 (q_rd I (this + 31) 60 x1) fun v28 =>
          q_b1 (f_X2_has (this + 13) v23 I) fun v32 =>
          if v32 = 0 then
            some ((-1000000002), I)
          else
            if v23 = x2 then
              some ((-1000000002), I)
            else
              q_b1 (q_rd I (this + 18) 12 x2) fun v39 =>
              if (v28 - ((v28 * x3) / (nI 100))) ≤ v39 then
                q_b1 (q_rd I (this + 18) 12 x2) fun v45 =>
                q_b1 (q_wr I (this + 18) 12 x2 (v45 - (v28 - ((v28 * x3) / (nI 100))))) fun I47 =>
                q_b1 (f_X2_getCoin (this + 13) v23 (v28 - ((v28 * x3) / (nI 100))) I47) fun I51 =>
                q_b1 (q_wr I51 (this + 35) 60 x1 x2) fun I56 =>
                some ((v28 - ((v28 * x3) / (nI 100))), I56)
              else
                some ((-1000000002), I)
        else
          some ((-1000000012), I)
set_option maxRecDepth 100000 in
set_option maxHeartbeats 4000000 in
theorem s_X11_sell {l : Launch} {Γ : qC} (hΓ : q_gm Γ) {X : qX} (hX : q_Lay X) {this : Nat} {x1 : Int32} {x2 : Int32} {x3 : Int32} (k_this : q_kd X this = some (13, 9)) {I : qI} {z : Int32 × qI} (h : f_X11_sell this x1 x2 x3 I = some z) : q_Sem l Γ (q_rm 4 0 0) yX11_sell cX11_sell 7 (some .int) [.ref this, .int x1, .int x2, .int x3] I X (some (.int z.1), z.2, X) := by
  refine q_met (by decide) (Nat.le_of_ble_eq_true rfl) (fun g hg hr => ?_)
  unfold f_X11_sell at h
  show g 0 0 0 [(0, .ref this), (1, .int x1), (2, .int x2), (3, .int x3)] [] I X
  refine r_aload_n hg 0 dX11_sell_0 rfl rfl ?_
  have e1 := ly_11_0 hX k_this
  refine r_getR hg dX11_sell_1 fl_X11_10 k_this rfl e1.1 ?_
  have e2 := ly_9_3 hX e1.2
  refine r_getR hg dX11_sell_4 fl_X11_107 e1.2 rfl e2.1 ?_
  refine r_iload_n hg 1 dX11_sell_7 rfl rfl ?_
  obtain ⟨v3, e4, h⟩ := q_b1_some h
  refine r_cV1i hg dX11_sell_8 mt_X1_has ml_X11_175 mv_X1_has e2.2 (s_X1_has hΓ hX e2.2 e4) (q_room (Nat.le_of_ble_eq_true rfl) (Nat.le_of_ble_eq_true rfl)) ⟨Nat.zero_le _, Nat.zero_le _⟩ (Nat.le_of_ble_eq_true rfl) ?_
  refine r_if_eq hg 38 dX11_sell_11 (by decide) (fun c5 => ?_) (fun c5 => ?_)
  · rw [if_pos c5] at h
    refine r_ldc hg dX11_sell_38 kc_X11_57 ?_
    exact r_ireturn hr dX11_sell_40 ⟨Nat.zero_le _, Nat.zero_le _⟩ ⟨_, rfl, rfl⟩ (by cases h; rfl)
  · rw [if_neg c5] at h
    refine r_aload_n hg 0 dX11_sell_14 rfl rfl ?_
    have e6 := ly_11_0 hX k_this
    refine r_getR hg dX11_sell_15 fl_X11_10 k_this rfl e6.1 ?_
    have e7 := ly_9_2 hX e6.2
    refine r_getR hg dX11_sell_18 fl_X11_70 e6.2 rfl e7.1 ?_
    refine r_iload_n hg 2 dX11_sell_21 rfl rfl ?_
    obtain ⟨v8, e9, h⟩ := q_b1_some h
    refine r_cV1i hg dX11_sell_22 mt_X2_has ml_X11_119 mv_X2_has e7.2 (s_X2_has hΓ hX e7.2 e9) (q_room (Nat.le_of_ble_eq_true rfl) (Nat.le_of_ble_eq_true rfl)) ⟨Nat.zero_le _, Nat.zero_le _⟩ (Nat.le_of_ble_eq_true rfl) ?_
    refine r_if_eq hg 38 dX11_sell_25 (by decide) (fun c10 => ?_) (fun c10 => ?_)
    · rw [if_pos c10] at h
      refine r_ldc hg dX11_sell_38 kc_X11_57 ?_
      exact r_ireturn hr dX11_sell_40 ⟨Nat.zero_le _, Nat.zero_le _⟩ ⟨_, rfl, rfl⟩ (by cases h; rfl)
    · rw [if_neg c10] at h
      refine r_iload_n hg 3 dX11_sell_28 rfl rfl ?_
      refine r_iconst hg dX11_sell_29 ci_0 ?_
      refine r_bipush hg dX11_sell_30 cb_99 ?_
      obtain ⟨v11, e12, h⟩ := q_b1_some h
      refine r_cS3i hg dX11_sell_32 mt_X11_within ⟨ml_X11_53, mst_X11_within⟩ (s_X11_within hΓ hX e12) (q_room (Nat.le_of_ble_eq_true rfl) (Nat.le_of_ble_eq_true rfl)) ⟨Nat.zero_le _, Nat.zero_le _⟩ (Nat.le_of_ble_eq_true rfl) ?_
      refine r_if_ne hg 41 dX11_sell_35 (by decide) (fun c13 => ?_) (fun c13 => ?_)
      · rw [if_neg c13] at h
        refine r_aload_n hg 0 dX11_sell_41 rfl rfl ?_
        have e14 := ly_11_0 hX k_this
        refine r_getR hg dX11_sell_42 fl_X11_10 k_this rfl e14.1 ?_
        have e15 := ly_9_3 hX e14.2
        refine r_getR hg dX11_sell_45 fl_X11_107 e14.2 rfl e15.1 ?_
        have e16 := ly_1_0 hX e15.2
        refine r_getR hg dX11_sell_48 fl_X11_176 e15.2 rfl e16.1 ?_
        refine r_iload_n hg 1 dX11_sell_51 rfl rfl ?_
        obtain ⟨v17, e18, h⟩ := q_b1_some h
        refine r_iald hg dX11_sell_52 e16.2 e18 ?_
        refine r_iconst hg dX11_sell_53 ci_3 ?_
        refine r_icmp_eq hg 60 dX11_sell_54 (by decide) (fun c19 => ?_) (fun c19 => ?_)
        · rw [if_pos c19] at h
          refine r_aload_n hg 0 dX11_sell_60 rfl rfl ?_
          have e20 := ly_11_0 hX k_this
          refine r_getR hg dX11_sell_61 fl_X11_10 k_this rfl e20.1 ?_
          have e21 := ly_9_3 hX e20.2
          refine r_getR hg dX11_sell_64 fl_X11_107 e20.2 rfl e21.1 ?_
          have e22 := ly_1_6 hX e21.2
          refine r_getR hg dX11_sell_67 fl_X11_165 e21.2 rfl e22.1 ?_
          refine r_iload_n hg 1 dX11_sell_70 rfl rfl ?_
          obtain ⟨v23, e24, h⟩ := q_b1_some h
          refine r_iald hg dX11_sell_71 e22.2 e24 ?_
          refine r_istore hg (L' := [(4, .int v23), (0, .ref this), (1, .int x1), (2, .int x2), (3, .int x3)]) dX11_sell_72 (by decide) rfl ?_
          refine r_aload_n hg 1 dX11_sell_74 rfl rfl ?_
          have e25 := ly_11_0 hX k_this
          refine r_getR hg dX11_sell_75 fl_X11_10 k_this rfl e25.1 ?_
          have e26 := ly_9_3 hX e25.2
          refine r_getR hg dX11_sell_78 fl_X11_107 e25.2 rfl e26.1 ?_
          have e27 := ly_1_2 hX e26.2
          refine r_getR hg dX11_sell_81 fl_X11_183 e26.2 rfl e27.1 ?_
          refine r_iload_n hg 2 dX11_sell_84 rfl rfl ?_
          obtain ⟨v28, e29, h⟩ := q_b1_some h
          refine r_iald hg dX11_sell_85 e27.2 e29 ?_
          refine r_istore hg (L' := [(5, .int v28), (4, .int v23), (0, .ref this), (1, .int x1), (2, .int x2), (3, .int x3)]) dX11_sell_86 (by decide) rfl ?_
          refine r_iload hg 0 dX11_sell_88 rfl ?_
          refine r_iload hg 0 dX11_sell_90 rfl ?_
          refine r_iload_n hg 5 dX11_sell_92 rfl rfl ?_
          refine r_imul hg dX11_sell_93 ?_
          refine r_bipush hg dX11_sell_94 cb_100 ?_
          refine r_idiv hg dX11_sell_96 nz_100 ?_
          refine r_isub hg dX11_sell_97 ?_
          refine r_istore hg (L' := [(6, .int (v28 - ((v28 * x3) / (nI 100)))), (5, .int v28), (4, .int v23), (0, .ref this), (1, .int x1), (2, .int x2), (3, .int x3)]) dX11_sell_98 (by decide) rfl ?_
          refine r_aload_n hg 3 dX11_sell_100 rfl rfl ?_
          have e30 := ly_11_0 hX k_this
          refine r_getR hg dX11_sell_101 fl_X11_10 k_this rfl e30.1 ?_
          have e31 := ly_9_2 hX e30.2
          refine r_getR hg dX11_sell_104 fl_X11_70 e30.2 rfl e31.1 ?_
          refine r_iload hg 2 dX11_sell_107 rfl ?_
          obtain ⟨v32, e33, h⟩ := q_b1_some h
          refine r_cV1i hg dX11_sell_109 mt_X2_has ml_X11_119 mv_X2_has e31.2 (s_X2_has hΓ hX e31.2 e33) (q_room (Nat.le_of_ble_eq_true rfl) (Nat.le_of_ble_eq_true rfl)) ⟨Nat.zero_le _, Nat.zero_le _⟩ (Nat.le_of_ble_eq_true rfl) ?_
          refine r_if_eq hg 138 dX11_sell_112 (by decide) (fun c34 => ?_) (fun c34 => ?_)
          · rw [if_pos c34] at h
            refine r_ldc hg dX11_sell_138 kc_X11_171 ?_
            exact r_ireturn hr dX11_sell_140 ⟨Nat.zero_le _, Nat.zero_le _⟩ ⟨_, rfl, rfl⟩ (by cases h; rfl)
          · rw [if_neg c34] at h
            refine r_iload hg 2 dX11_sell_115 rfl ?_
            refine r_iload_n hg 5 dX11_sell_117 rfl rfl ?_
            refine r_icmp_eq hg 138 dX11_sell_118 (by decide) (fun c35 => ?_) (fun c35 => ?_)
            · rw [if_pos c35] at h
              refine r_ldc hg dX11_sell_138 kc_X11_171 ?_
              exact r_ireturn hr dX11_sell_140 ⟨Nat.zero_le _, Nat.zero_le _⟩ ⟨_, rfl, rfl⟩ (by cases h; rfl)
            · rw [if_neg c35] at h
              refine r_aload_n hg 3 dX11_sell_121 rfl rfl ?_
              have e36 := ly_11_0 hX k_this
              refine r_getR hg dX11_sell_122 fl_X11_10 k_this rfl e36.1 ?_
              have e37 := ly_9_2 hX e36.2
              refine r_getR hg dX11_sell_125 fl_X11_70 e36.2 rfl e37.1 ?_
              have e38 := ly_2_4 hX e37.2
              refine r_getR hg dX11_sell_128 fl_X11_186 e37.2 rfl e38.1 ?_
              refine r_iload_n hg 5 dX11_sell_131 rfl rfl ?_
              obtain ⟨v39, e40, h⟩ := q_b1_some h
              refine r_iald hg dX11_sell_132 e38.2 e40 ?_
              refine r_iload hg 0 dX11_sell_133 rfl ?_
              refine r_icmp_ge hg 141 dX11_sell_135 (by decide) (fun c41 => ?_) (fun c41 => ?_)
              · rw [if_pos c41] at h
                refine r_aload_n hg 3 dX11_sell_141 rfl rfl ?_
                have e42 := ly_11_0 hX k_this
                refine r_getR hg dX11_sell_142 fl_X11_10 k_this rfl e42.1 ?_
                have e43 := ly_9_2 hX e42.2
                refine r_getR hg dX11_sell_145 fl_X11_70 e42.2 rfl e43.1 ?_
                have e44 := ly_2_4 hX e43.2
                refine r_getR hg dX11_sell_148 fl_X11_186 e43.2 rfl e44.1 ?_
                refine r_iload_n hg 5 dX11_sell_151 rfl rfl ?_
                refine r_dup2 hg dX11_sell_152 rfl rfl ?_
                obtain ⟨v45, e46, h⟩ := q_b1_some h
                refine r_iald hg dX11_sell_153 e44.2 e46 ?_
                refine r_iload hg 0 dX11_sell_154 rfl ?_
                refine r_isub hg dX11_sell_156 ?_
                obtain ⟨I47, e48, h⟩ := q_b1_some h
                refine r_iast hg dX11_sell_157 e44.2 e48 ?_
                refine r_aload_n hg 3 dX11_sell_158 rfl rfl ?_
                have e49 := ly_11_0 hX k_this
                refine r_getR hg dX11_sell_159 fl_X11_10 k_this rfl e49.1 ?_
                have e50 := ly_9_2 hX e49.2
                refine r_getR hg dX11_sell_162 fl_X11_70 e49.2 rfl e50.1 ?_
                refine r_iload hg 2 dX11_sell_165 rfl ?_
                refine r_iload hg 0 dX11_sell_167 rfl ?_
                obtain ⟨I51, e52, h⟩ := q_b1_some h
                refine r_cV2v hg dX11_sell_169 mt_X2_getCoin ml_X11_162 mv_X2_getCoin e50.2 (s_X2_getCoin hΓ hX e50.2 e52) (q_room (Nat.le_of_ble_eq_true rfl) (Nat.le_of_ble_eq_true rfl)) ⟨Nat.zero_le _, Nat.zero_le _⟩ (Nat.le_of_ble_eq_true rfl) ?_
                refine r_aload_n hg 3 dX11_sell_172 rfl rfl ?_
                have e53 := ly_11_0 hX k_this
                refine r_getR hg dX11_sell_173 fl_X11_10 k_this rfl e53.1 ?_
                have e54 := ly_9_3 hX e53.2
                refine r_getR hg dX11_sell_176 fl_X11_107 e53.2 rfl e54.1 ?_
                have e55 := ly_1_6 hX e54.2
                refine r_getR hg dX11_sell_179 fl_X11_165 e54.2 rfl e55.1 ?_
                refine r_iload_n hg 4 dX11_sell_182 rfl rfl ?_
                refine r_iload_n hg 5 dX11_sell_183 rfl rfl ?_
                obtain ⟨I56, e57, h⟩ := q_b1_some h
                refine r_iast hg dX11_sell_184 e55.2 e57 ?_
                refine r_iload hg 0 dX11_sell_185 rfl ?_
                exact r_ireturn hr dX11_sell_187 ⟨Nat.zero_le _, Nat.zero_le _⟩ ⟨_, rfl, rfl⟩ (by cases h; rfl)
              · rw [if_neg c41] at h
                refine r_ldc hg dX11_sell_138 kc_X11_171 ?_
                exact r_ireturn hr dX11_sell_140 ⟨Nat.zero_le _, Nat.zero_le _⟩ ⟨_, rfl, rfl⟩ (by cases h; rfl)
        · rw [if_neg c19] at h
          refine r_ldc hg dX11_sell_57 kc_X11_179 ?_
          exact r_ireturn hr dX11_sell_59 ⟨Nat.zero_le _, Nat.zero_le _⟩ ⟨_, rfl, rfl⟩ (by cases h; rfl)
      · rw [if_pos (Classical.not_not.mp c13)] at h
        refine r_ldc hg dX11_sell_38 kc_X11_57 ?_
        exact r_ireturn hr dX11_sell_40 ⟨Nat.zero_le _, Nat.zero_le _⟩ ⟨_, rfl, rfl⟩ (by cases h; rfl)

def f_X11_sells (this : Nat) (x1 : Int32) (x2 : Int32) (X : qX) (I : qI) : Option (Int32) :=
  q_b1 (f_X8_has (this + 8) x1 I) fun v3 =>
  if v3 = 0 then
    some ((-1000000001))
  else
    q_b1 (f_X8_row (this + 8) x2) fun r8 =>
    q_b1 (f_X11_looked r8 x1 X I) fun v10 =>
    some (v10)
set_option maxRecDepth 100000 in
set_option maxHeartbeats 4000000 in
theorem s_X11_sells {l : Launch} {Γ : qC} (hΓ : q_gm Γ) {X : qX} (hX : q_Lay X) {this : Nat} {x1 : Int32} {x2 : Int32} (k_this : q_kd X this = some (13, 9)) {I : qI} {z : Int32} (h : f_X11_sells this x1 x2 X I = some z) : q_Sem l Γ (q_rm 4 0 0) yX11_sells cX11_sells 3 (some .int) [.ref this, .int x1, .int x2] I X (some (.int z), I, X) := by
  refine q_met (by decide) (Nat.le_of_ble_eq_true rfl) (fun g hg hr => ?_)
  unfold f_X11_sells at h
  show g 0 0 0 [(0, .ref this), (1, .int x1), (2, .int x2)] [] I X
  refine r_aload_n hg 0 dX11_sells_0 rfl rfl ?_
  have e1 := ly_11_0 hX k_this
  refine r_getR hg dX11_sells_1 fl_X11_10 k_this rfl e1.1 ?_
  have e2 := ly_9_1 hX e1.2
  refine r_getR hg dX11_sells_4 fl_X11_87 e1.2 rfl e2.1 ?_
  refine r_iload_n hg 1 dX11_sells_7 rfl rfl ?_
  obtain ⟨v3, e4, h⟩ := q_b1_some h
  refine r_cV1i hg dX11_sells_8 mt_X8_has ml_X11_95 mv_X8_has e2.2 (s_X8_has hΓ hX e2.2 e4) (q_room (Nat.le_of_ble_eq_true rfl) (Nat.le_of_ble_eq_true rfl)) ⟨Nat.zero_le _, Nat.zero_le _⟩ (Nat.le_of_ble_eq_true rfl) ?_
  refine r_if_eq hg 32 dX11_sells_11 (by decide) (fun c5 => ?_) (fun c5 => ?_)
  · rw [if_pos c5] at h
    refine r_ldc hg dX11_sells_32 kc_X11_57 ?_
    exact r_ireturn hr dX11_sells_34 ⟨Nat.zero_le _, Nat.zero_le _⟩ ⟨_, rfl, rfl⟩ (by cases h; rfl)
  · rw [if_neg c5] at h
    refine r_aload_n hg 0 dX11_sells_14 rfl rfl ?_
    have e6 := ly_11_0 hX k_this
    refine r_getR hg dX11_sells_15 fl_X11_10 k_this rfl e6.1 ?_
    have e7 := ly_9_1 hX e6.2
    refine r_getR hg dX11_sells_18 fl_X11_87 e6.2 rfl e7.1 ?_
    refine r_iload_n hg 2 dX11_sells_21 rfl rfl ?_
    obtain ⟨r8, e9, h⟩ := q_b1_some h
    refine r_cV1q hg dX11_sells_22 mt_X8_row ml_X11_99 mv_X8_row e7.2 (s_X8_row hΓ hX e7.2 e9) (q_room (Nat.le_of_ble_eq_true rfl) (Nat.le_of_ble_eq_true rfl)) ⟨Nat.zero_le _, Nat.zero_le _⟩ (Nat.le_of_ble_eq_true rfl) ?_
    refine r_iload_n hg 1 dX11_sells_25 rfl rfl ?_
    obtain ⟨v10, e11, h⟩ := q_b1_some h
    refine r_cS2i hg dX11_sells_26 mt_X11_looked ⟨ml_X11_80, mst_X11_looked⟩ (s_X11_looked hΓ hX e11) (q_room (Nat.le_of_ble_eq_true rfl) (Nat.le_of_ble_eq_true rfl)) ⟨Nat.zero_le _, Nat.zero_le _⟩ (Nat.le_of_ble_eq_true rfl) ?_
    refine r_goto hg 34 dX11_sells_29 (by decide) ?_
    exact r_ireturn hr dX11_sells_34 ⟨Nat.zero_le _, Nat.zero_le _⟩ ⟨_, rfl, rfl⟩ (by cases h; rfl)

def f_X11_stop (this : Nat) (x1 : Int32) (x2 : Int32) (x3 : Int32) (I : qI) : Option (Int32 × qI) :=
  q_b2 (f_X11_newDue this (nI 5) x1 x2 x3 I) fun v1 I2 =>
  some (v1, I2)
set_option maxRecDepth 100000 in
set_option maxHeartbeats 4000000 in
theorem s_X11_stop {l : Launch} {Γ : qC} (hΓ : q_gm Γ) {X : qX} (hX : q_Lay X) {this : Nat} {x1 : Int32} {x2 : Int32} {x3 : Int32} (k_this : q_kd X this = some (13, 9)) {I : qI} {z : Int32 × qI} (h : f_X11_stop this x1 x2 x3 I = some z) : q_Sem l Γ (q_rm 4 0 0) yX11_stop cX11_stop 4 (some .int) [.ref this, .int x1, .int x2, .int x3] I X (some (.int z.1), z.2, X) := by
  refine q_met (by decide) (Nat.le_of_ble_eq_true rfl) (fun g hg hr => ?_)
  unfold f_X11_stop at h
  show g 0 0 0 [(0, .ref this), (1, .int x1), (2, .int x2), (3, .int x3)] [] I X
  refine r_aload_n hg 0 dX11_stop_0 rfl rfl ?_
  refine r_iconst hg dX11_stop_1 ci_5 ?_
  refine r_iload_n hg 1 dX11_stop_2 rfl rfl ?_
  refine r_iload_n hg 2 dX11_stop_3 rfl rfl ?_
  refine r_iload_n hg 3 dX11_stop_4 rfl rfl ?_
  obtain ⟨v1, I2, e3, h⟩ := q_b2_some h
  refine r_cV4i hg dX11_stop_5 mt_X11_newDue ml_X11_155 mv_X11_newDue k_this (s_X11_newDue hΓ hX k_this e3) (q_room (Nat.le_of_ble_eq_true rfl) (Nat.le_of_ble_eq_true rfl)) ⟨Nat.zero_le _, Nat.zero_le _⟩ (Nat.le_of_ble_eq_true rfl) ?_
  exact r_ireturn hr dX11_stop_8 ⟨Nat.zero_le _, Nat.zero_le _⟩ ⟨_, rfl, rfl⟩ (by cases h; rfl)

def f_X11_strike (this : Nat) (x1 : Int32) (x2 : Int32) (I : qI) : Option (Int32 × qI) :=
  q_b2 (f_X11_newDue this (nI 3) x1 x2 (nI 0) I) fun v1 I2 =>
  if v1 < 0 then
    some (v1, I2)
  else
    q_b1 (q_wr I2 (this + 35) 60 v1 x1) fun I8 =>
    some (v1, I8)
set_option maxRecDepth 100000 in
set_option maxHeartbeats 4000000 in
theorem s_X11_strike {l : Launch} {Γ : qC} (hΓ : q_gm Γ) {X : qX} (hX : q_Lay X) {this : Nat} {x1 : Int32} {x2 : Int32} (k_this : q_kd X this = some (13, 9)) {I : qI} {z : Int32 × qI} (h : f_X11_strike this x1 x2 I = some z) : q_Sem l Γ (q_rm 4 0 0) yX11_strike cX11_strike 4 (some .int) [.ref this, .int x1, .int x2] I X (some (.int z.1), z.2, X) := by
  refine q_met (by decide) (Nat.le_of_ble_eq_true rfl) (fun g hg hr => ?_)
  unfold f_X11_strike at h
  show g 0 0 0 [(0, .ref this), (1, .int x1), (2, .int x2)] [] I X
  refine r_aload_n hg 0 dX11_strike_0 rfl rfl ?_
  refine r_iconst hg dX11_strike_1 ci_3 ?_
  refine r_iload_n hg 1 dX11_strike_2 rfl rfl ?_
  refine r_iload_n hg 2 dX11_strike_3 rfl rfl ?_
  refine r_iconst hg dX11_strike_4 ci_0 ?_
  obtain ⟨v1, I2, e3, h⟩ := q_b2_some h
  refine r_cV4i hg dX11_strike_5 mt_X11_newDue ml_X11_155 mv_X11_newDue k_this (s_X11_newDue hΓ hX k_this e3) (q_room (Nat.le_of_ble_eq_true rfl) (Nat.le_of_ble_eq_true rfl)) ⟨Nat.zero_le _, Nat.zero_le _⟩ (Nat.le_of_ble_eq_true rfl) ?_
  refine r_istore_n hg (L' := [(3, .int v1), (0, .ref this), (1, .int x1), (2, .int x2)]) dX11_strike_8 rfl (by decide) rfl ?_
  refine r_iload_n hg 0 dX11_strike_9 rfl rfl ?_
  refine r_if_lt hg 26 dX11_strike_10 (by decide) (fun c4 => ?_) (fun c4 => ?_)
  · rw [if_pos c4] at h
    refine r_iload_n hg 0 dX11_strike_26 rfl rfl ?_
    exact r_ireturn hr dX11_strike_27 ⟨Nat.zero_le _, Nat.zero_le _⟩ ⟨_, rfl, rfl⟩ (by cases h; rfl)
  · rw [if_neg c4] at h
    refine r_aload_n hg 1 dX11_strike_13 rfl rfl ?_
    have e5 := ly_11_0 hX k_this
    refine r_getR hg dX11_strike_14 fl_X11_10 k_this rfl e5.1 ?_
    have e6 := ly_9_3 hX e5.2
    refine r_getR hg dX11_strike_17 fl_X11_107 e5.2 rfl e6.1 ?_
    have e7 := ly_1_6 hX e6.2
    refine r_getR hg dX11_strike_20 fl_X11_165 e6.2 rfl e7.1 ?_
    refine r_iload_n hg 0 dX11_strike_23 rfl rfl ?_
    refine r_iload_n hg 2 dX11_strike_24 rfl rfl ?_
    obtain ⟨I8, e9, h⟩ := q_b1_some h
    refine r_iast hg dX11_strike_25 e7.2 e9 ?_
    refine r_iload_n hg 0 dX11_strike_26 rfl rfl ?_
    exact r_ireturn hr dX11_strike_27 ⟨Nat.zero_le _, Nat.zero_le _⟩ ⟨_, rfl, rfl⟩ (by cases h; rfl)

def f_X11_told (this : Nat) (x1 : Int32) (x2 : Int32) (X : qX) (I : qI) : Option (Int32) :=
  q_b1 (f_X1_has (this + 28) x1 I) fun v3 =>
  if v3 = 0 then
    some ((-1000000001))
  else
    q_b1 (f_X1_row (this + 28) x2) fun r8 =>
    q_b1 (f_X11_looked r8 x1 X I) fun v10 =>
    some (v10)
set_option maxRecDepth 100000 in
set_option maxHeartbeats 4000000 in
theorem s_X11_told {l : Launch} {Γ : qC} (hΓ : q_gm Γ) {X : qX} (hX : q_Lay X) {this : Nat} {x1 : Int32} {x2 : Int32} (k_this : q_kd X this = some (13, 9)) {I : qI} {z : Int32} (h : f_X11_told this x1 x2 X I = some z) : q_Sem l Γ (q_rm 4 0 0) yX11_told cX11_told 3 (some .int) [.ref this, .int x1, .int x2] I X (some (.int z), I, X) := by
  refine q_met (by decide) (Nat.le_of_ble_eq_true rfl) (fun g hg hr => ?_)
  unfold f_X11_told at h
  show g 0 0 0 [(0, .ref this), (1, .int x1), (2, .int x2)] [] I X
  refine r_aload_n hg 0 dX11_told_0 rfl rfl ?_
  have e1 := ly_11_0 hX k_this
  refine r_getR hg dX11_told_1 fl_X11_10 k_this rfl e1.1 ?_
  have e2 := ly_9_3 hX e1.2
  refine r_getR hg dX11_told_4 fl_X11_107 e1.2 rfl e2.1 ?_
  refine r_iload_n hg 1 dX11_told_7 rfl rfl ?_
  obtain ⟨v3, e4, h⟩ := q_b1_some h
  refine r_cV1i hg dX11_told_8 mt_X1_has ml_X11_175 mv_X1_has e2.2 (s_X1_has hΓ hX e2.2 e4) (q_room (Nat.le_of_ble_eq_true rfl) (Nat.le_of_ble_eq_true rfl)) ⟨Nat.zero_le _, Nat.zero_le _⟩ (Nat.le_of_ble_eq_true rfl) ?_
  refine r_if_eq hg 32 dX11_told_11 (by decide) (fun c5 => ?_) (fun c5 => ?_)
  · rw [if_pos c5] at h
    refine r_ldc hg dX11_told_32 kc_X11_57 ?_
    exact r_ireturn hr dX11_told_34 ⟨Nat.zero_le _, Nat.zero_le _⟩ ⟨_, rfl, rfl⟩ (by cases h; rfl)
  · rw [if_neg c5] at h
    refine r_aload_n hg 0 dX11_told_14 rfl rfl ?_
    have e6 := ly_11_0 hX k_this
    refine r_getR hg dX11_told_15 fl_X11_10 k_this rfl e6.1 ?_
    have e7 := ly_9_3 hX e6.2
    refine r_getR hg dX11_told_18 fl_X11_107 e6.2 rfl e7.1 ?_
    refine r_iload_n hg 2 dX11_told_21 rfl rfl ?_
    obtain ⟨r8, e9, h⟩ := q_b1_some h
    refine r_cV1q hg dX11_told_22 mt_X1_row ml_X11_192 mv_X1_row e7.2 (s_X1_row hΓ hX e7.2 e9) (q_room (Nat.le_of_ble_eq_true rfl) (Nat.le_of_ble_eq_true rfl)) ⟨Nat.zero_le _, Nat.zero_le _⟩ (Nat.le_of_ble_eq_true rfl) ?_
    refine r_iload_n hg 1 dX11_told_25 rfl rfl ?_
    obtain ⟨v10, e11, h⟩ := q_b1_some h
    refine r_cS2i hg dX11_told_26 mt_X11_looked ⟨ml_X11_80, mst_X11_looked⟩ (s_X11_looked hΓ hX e11) (q_room (Nat.le_of_ble_eq_true rfl) (Nat.le_of_ble_eq_true rfl)) ⟨Nat.zero_le _, Nat.zero_le _⟩ (Nat.le_of_ble_eq_true rfl) ?_
    refine r_goto hg 34 dX11_told_29 (by decide) ?_
    exact r_ireturn hr dX11_told_34 ⟨Nat.zero_le _, Nat.zero_le _⟩ ⟨_, rfl, rfl⟩ (by cases h; rfl)

def f_X11_be (this : Nat) (x1 : Int32) (x2 : Int32) (x3 : Int32) (X : qX) (I : qI) : Option (Int32 × qI) :=
  q_b1 (f_X2_has (this + 13) x1 I) fun v3 =>
  if v3 = 0 then
    some ((-1000000001), I)
  else
    q_b1 (f_X2_mayBe x2 x3 I) fun v6 =>
    if v6 = 0 then
      some ((-1000000001), I)
    else
      q_b1 (f_X2_row (this + 13) x2) fun r11 =>
      q_b2 (f_X11_exchanged r11 x1 x3 X I) fun v13 I14 =>
      some (v13, I14)
set_option maxRecDepth 100000 in
set_option maxHeartbeats 4000000 in
theorem s_X11_be {l : Launch} {Γ : qC} (hΓ : q_gm Γ) {X : qX} (hX : q_Lay X) {this : Nat} {x1 : Int32} {x2 : Int32} {x3 : Int32} (k_this : q_kd X this = some (13, 9)) {I : qI} {z : Int32 × qI} (h : f_X11_be this x1 x2 x3 X I = some z) : q_Sem l Γ (q_rm 5 0 0) yX11_be cX11_be 4 (some .int) [.ref this, .int x1, .int x2, .int x3] I X (some (.int z.1), z.2, X) := by
  refine q_met (by decide) (Nat.le_of_ble_eq_true rfl) (fun g hg hr => ?_)
  unfold f_X11_be at h
  show g 0 0 0 [(0, .ref this), (1, .int x1), (2, .int x2), (3, .int x3)] [] I X
  refine r_aload_n hg 0 dX11_be_0 rfl rfl ?_
  have e1 := ly_11_0 hX k_this
  refine r_getR hg dX11_be_1 fl_X11_10 k_this rfl e1.1 ?_
  have e2 := ly_9_2 hX e1.2
  refine r_getR hg dX11_be_4 fl_X11_70 e1.2 rfl e2.1 ?_
  refine r_iload_n hg 1 dX11_be_7 rfl rfl ?_
  obtain ⟨v3, e4, h⟩ := q_b1_some h
  refine r_cV1i hg dX11_be_8 mt_X2_has ml_X11_119 mv_X2_has e2.2 (s_X2_has hΓ hX e2.2 e4) (q_room (Nat.le_of_ble_eq_true rfl) (Nat.le_of_ble_eq_true rfl)) ⟨Nat.zero_le _, Nat.zero_le _⟩ (Nat.le_of_ble_eq_true rfl) ?_
  refine r_if_eq hg 22 dX11_be_11 (by decide) (fun c5 => ?_) (fun c5 => ?_)
  · rw [if_pos c5] at h
    refine r_ldc hg dX11_be_22 kc_X11_57 ?_
    exact r_ireturn hr dX11_be_24 ⟨Nat.zero_le _, Nat.zero_le _⟩ ⟨_, rfl, rfl⟩ (by cases h; rfl)
  · rw [if_neg c5] at h
    refine r_iload_n hg 2 dX11_be_14 rfl rfl ?_
    refine r_iload_n hg 3 dX11_be_15 rfl rfl ?_
    obtain ⟨v6, e7, h⟩ := q_b1_some h
    refine r_cS2i hg dX11_be_16 mt_X2_mayBe ⟨ml_X11_100, mst_X2_mayBe⟩ (s_X2_mayBe hΓ hX e7) (q_room (Nat.le_of_ble_eq_true rfl) (Nat.le_of_ble_eq_true rfl)) ⟨Nat.zero_le _, Nat.zero_le _⟩ (Nat.le_of_ble_eq_true rfl) ?_
    refine r_if_ne hg 25 dX11_be_19 (by decide) (fun c8 => ?_) (fun c8 => ?_)
    · rw [if_neg c8] at h
      refine r_aload_n hg 0 dX11_be_25 rfl rfl ?_
      have e9 := ly_11_0 hX k_this
      refine r_getR hg dX11_be_26 fl_X11_10 k_this rfl e9.1 ?_
      have e10 := ly_9_2 hX e9.2
      refine r_getR hg dX11_be_29 fl_X11_70 e9.2 rfl e10.1 ?_
      refine r_iload_n hg 2 dX11_be_32 rfl rfl ?_
      obtain ⟨r11, e12, h⟩ := q_b1_some h
      refine r_cV1q hg dX11_be_33 mt_X2_row ml_X11_126 mv_X2_row e10.2 (s_X2_row hΓ hX e10.2 e12) (q_room (Nat.le_of_ble_eq_true rfl) (Nat.le_of_ble_eq_true rfl)) ⟨Nat.zero_le _, Nat.zero_le _⟩ (Nat.le_of_ble_eq_true rfl) ?_
      refine r_iload_n hg 1 dX11_be_36 rfl rfl ?_
      refine r_iload_n hg 3 dX11_be_37 rfl rfl ?_
      obtain ⟨v13, I14, e15, h⟩ := q_b2_some h
      refine r_cS3i hg dX11_be_38 mt_X11_exchanged ⟨ml_X11_66, mst_X11_exchanged⟩ (s_X11_exchanged hΓ hX e15) (q_room (Nat.le_of_ble_eq_true rfl) (Nat.le_of_ble_eq_true rfl)) ⟨Nat.zero_le _, Nat.zero_le _⟩ (Nat.le_of_ble_eq_true rfl) ?_
      exact r_ireturn hr dX11_be_41 ⟨Nat.zero_le _, Nat.zero_le _⟩ ⟨_, rfl, rfl⟩ (by cases h; rfl)
    · rw [if_pos (Classical.not_not.mp c8)] at h
      refine r_ldc hg dX11_be_22 kc_X11_57 ?_
      exact r_ireturn hr dX11_be_24 ⟨Nat.zero_le _, Nat.zero_le _⟩ ⟨_, rfl, rfl⟩ (by cases h; rfl)

def f_X11_end (this : Nat) (x1 : Int32) (x2 : Int32) (x3 : Int32) (x4 : Int32) (X : qX) (I : qI) : Option (Int32 × qI) :=
  q_b1 (f_X11_within x1 (nI 0) (nI 3)) fun v1 =>
  if v1 = 0 then
    some ((-1000000001), I)
  else
    q_b1 (f_X11_within x2 (nI 0) (nI 3)) fun v4 =>
    if v4 = 0 then
      some ((-1000000001), I)
    else
      q_b1 (f_X11_within x3 (nI 0) (nI 2)) fun v7 =>
      if v7 = 0 then
        some ((-1000000001), I)
      else
        q_b1 (f_X11_within x4 (nI 0) (nI 1)) fun v10 =>
        if v10 = 0 then
          some ((-1000000001), I)
        else
          q_b1 (f_X10_number x1 x2 x3) fun v16 =>
          q_b2 (f_X11_exchanged (some (this + 44)) v16 x4 X I) fun v18 I19 =>
          some (v18, I19)
set_option maxRecDepth 100000 in
set_option maxHeartbeats 4000000 in
theorem s_X11_end {l : Launch} {Γ : qC} (hΓ : q_gm Γ) {X : qX} (hX : q_Lay X) {this : Nat} {x1 : Int32} {x2 : Int32} {x3 : Int32} {x4 : Int32} (k_this : q_kd X this = some (13, 9)) {I : qI} {z : Int32 × qI} (h : f_X11_end this x1 x2 x3 x4 X I = some z) : q_Sem l Γ (q_rm 5 0 0) yX11_end cX11_end 5 (some .int) [.ref this, .int x1, .int x2, .int x3, .int x4] I X (some (.int z.1), z.2, X) := by
  refine q_met (by decide) (Nat.le_of_ble_eq_true rfl) (fun g hg hr => ?_)
  unfold f_X11_end at h
  show g 0 0 0 [(0, .ref this), (1, .int x1), (2, .int x2), (3, .int x3), (4, .int x4)] [] I X
  refine r_iload_n hg 1 dX11_end_0 rfl rfl ?_
  refine r_iconst hg dX11_end_1 ci_0 ?_
  refine r_iconst hg dX11_end_2 ci_3 ?_
  obtain ⟨v1, e2, h⟩ := q_b1_some h
  refine r_cS3i hg dX11_end_3 mt_X11_within ⟨ml_X11_53, mst_X11_within⟩ (s_X11_within hΓ hX e2) (q_room (Nat.le_of_ble_eq_true rfl) (Nat.le_of_ble_eq_true rfl)) ⟨Nat.zero_le _, Nat.zero_le _⟩ (Nat.le_of_ble_eq_true rfl) ?_
  refine r_if_eq hg 27 dX11_end_6 (by decide) (fun c3 => ?_) (fun c3 => ?_)
  · rw [if_pos c3] at h
    refine r_ldc hg dX11_end_27 kc_X11_57 ?_
    exact r_ireturn hr dX11_end_29 ⟨Nat.zero_le _, Nat.zero_le _⟩ ⟨_, rfl, rfl⟩ (by cases h; rfl)
  · rw [if_neg c3] at h
    refine r_iload_n hg 2 dX11_end_9 rfl rfl ?_
    refine r_iconst hg dX11_end_10 ci_0 ?_
    refine r_iconst hg dX11_end_11 ci_3 ?_
    obtain ⟨v4, e5, h⟩ := q_b1_some h
    refine r_cS3i hg dX11_end_12 mt_X11_within ⟨ml_X11_53, mst_X11_within⟩ (s_X11_within hΓ hX e5) (q_room (Nat.le_of_ble_eq_true rfl) (Nat.le_of_ble_eq_true rfl)) ⟨Nat.zero_le _, Nat.zero_le _⟩ (Nat.le_of_ble_eq_true rfl) ?_
    refine r_if_eq hg 27 dX11_end_15 (by decide) (fun c6 => ?_) (fun c6 => ?_)
    · rw [if_pos c6] at h
      refine r_ldc hg dX11_end_27 kc_X11_57 ?_
      exact r_ireturn hr dX11_end_29 ⟨Nat.zero_le _, Nat.zero_le _⟩ ⟨_, rfl, rfl⟩ (by cases h; rfl)
    · rw [if_neg c6] at h
      refine r_iload_n hg 3 dX11_end_18 rfl rfl ?_
      refine r_iconst hg dX11_end_19 ci_0 ?_
      refine r_iconst hg dX11_end_20 ci_2 ?_
      obtain ⟨v7, e8, h⟩ := q_b1_some h
      refine r_cS3i hg dX11_end_21 mt_X11_within ⟨ml_X11_53, mst_X11_within⟩ (s_X11_within hΓ hX e8) (q_room (Nat.le_of_ble_eq_true rfl) (Nat.le_of_ble_eq_true rfl)) ⟨Nat.zero_le _, Nat.zero_le _⟩ (Nat.le_of_ble_eq_true rfl) ?_
      refine r_if_ne hg 30 dX11_end_24 (by decide) (fun c9 => ?_) (fun c9 => ?_)
      · rw [if_neg c9] at h
        refine r_iload hg 4 dX11_end_30 rfl ?_
        refine r_iconst hg dX11_end_32 ci_0 ?_
        refine r_iconst hg dX11_end_33 ci_1 ?_
        obtain ⟨v10, e11, h⟩ := q_b1_some h
        refine r_cS3i hg dX11_end_34 mt_X11_within ⟨ml_X11_53, mst_X11_within⟩ (s_X11_within hΓ hX e11) (q_room (Nat.le_of_ble_eq_true rfl) (Nat.le_of_ble_eq_true rfl)) ⟨Nat.zero_le _, Nat.zero_le _⟩ (Nat.le_of_ble_eq_true rfl) ?_
        refine r_if_ne hg 43 dX11_end_37 (by decide) (fun c12 => ?_) (fun c12 => ?_)
        · rw [if_neg c12] at h
          refine r_aload_n hg 0 dX11_end_43 rfl rfl ?_
          have e13 := ly_11_0 hX k_this
          refine r_getR hg dX11_end_44 fl_X11_10 k_this rfl e13.1 ?_
          have e14 := ly_9_5 hX e13.2
          refine r_getR hg dX11_end_47 fl_X11_328 e13.2 rfl e14.1 ?_
          have e15 := ly_10_0 hX e14.2
          refine r_getR hg dX11_end_50 fl_X11_332 e14.2 rfl e15.1 ?_
          refine r_iload_n hg 1 dX11_end_53 rfl rfl ?_
          refine r_iload_n hg 2 dX11_end_54 rfl rfl ?_
          refine r_iload_n hg 3 dX11_end_55 rfl rfl ?_
          obtain ⟨v16, e17, h⟩ := q_b1_some h
          refine r_cS3i hg dX11_end_56 mt_X10_number ⟨ml_X11_335, mst_X10_number⟩ (s_X10_number hΓ hX e17) (q_room (Nat.le_of_ble_eq_true rfl) (Nat.le_of_ble_eq_true rfl)) ⟨Nat.zero_le _, Nat.zero_le _⟩ (Nat.le_of_ble_eq_true rfl) ?_
          refine r_iload hg 4 dX11_end_59 rfl ?_
          obtain ⟨v18, I19, e20, h⟩ := q_b2_some h
          refine r_cS3i hg dX11_end_61 mt_X11_exchanged ⟨ml_X11_66, mst_X11_exchanged⟩ (s_X11_exchanged hΓ hX e20) (q_room (Nat.le_of_ble_eq_true rfl) (Nat.le_of_ble_eq_true rfl)) ⟨Nat.zero_le _, Nat.zero_le _⟩ (Nat.le_of_ble_eq_true rfl) ?_
          exact r_ireturn hr dX11_end_64 ⟨Nat.zero_le _, Nat.zero_le _⟩ ⟨_, rfl, rfl⟩ (by cases h; rfl)
        · rw [if_pos (Classical.not_not.mp c12)] at h
          refine r_ldc hg dX11_end_40 kc_X11_57 ?_
          exact r_ireturn hr dX11_end_42 ⟨Nat.zero_le _, Nat.zero_le _⟩ ⟨_, rfl, rfl⟩ (by cases h; rfl)
      · rw [if_pos (Classical.not_not.mp c9)] at h
        refine r_ldc hg dX11_end_27 kc_X11_57 ?_
        exact r_ireturn hr dX11_end_29 ⟨Nat.zero_le _, Nat.zero_le _⟩ ⟨_, rfl, rfl⟩ (by cases h; rfl)

def f_X11_least (this : Nat) (I : qI) : Option (Int32 × qI) :=
  q_b1 (f_X9_weighStrikes (this + 1) I) fun I2 =>
  q_b1 (f_X9_leastStrike (this + 1) I2) fun v5 =>
  if v5 = 0 then
    some ((-1000000005), I2)
  else
    some (v5, I2)
set_option maxRecDepth 100000 in
set_option maxHeartbeats 4000000 in
theorem s_X11_least {l : Launch} {Γ : qC} (hΓ : q_gm Γ) {X : qX} (hX : q_Lay X) {this : Nat} (k_this : q_kd X this = some (13, 9)) {I : qI} {z : Int32 × qI} (h : f_X11_least this I = some z) : q_Sem l Γ (q_rm 5 0 0) yX11_least cX11_least 2 (some .int) [.ref this] I X (some (.int z.1), z.2, X) := by
  refine q_met (by decide) (Nat.le_of_ble_eq_true rfl) (fun g hg hr => ?_)
  unfold f_X11_least at h
  show g 0 0 0 [(0, .ref this)] [] I X
  refine r_aload_n hg 0 dX11_least_0 rfl rfl ?_
  have e1 := ly_11_0 hX k_this
  refine r_getR hg dX11_least_1 fl_X11_10 k_this rfl e1.1 ?_
  obtain ⟨I2, e3, h⟩ := q_b1_some h
  refine r_cV0v hg dX11_least_4 mt_X9_weighStrikes ml_X11_366 mv_X9_weighStrikes e1.2 (s_X9_weighStrikes hΓ hX e1.2 e3) (q_room (Nat.le_of_ble_eq_true rfl) (Nat.le_of_ble_eq_true rfl)) ⟨Nat.zero_le _, Nat.zero_le _⟩ (Nat.le_of_ble_eq_true rfl) ?_
  refine r_aload_n hg 0 dX11_least_7 rfl rfl ?_
  have e4 := ly_11_0 hX k_this
  refine r_getR hg dX11_least_8 fl_X11_10 k_this rfl e4.1 ?_
  obtain ⟨v5, e6, h⟩ := q_b1_some h
  refine r_cV0i hg dX11_least_11 mt_X9_leastStrike ml_X11_375 mv_X9_leastStrike e4.2 (s_X9_leastStrike hΓ hX e4.2 e6) (q_room (Nat.le_of_ble_eq_true rfl) (Nat.le_of_ble_eq_true rfl)) ⟨Nat.zero_le _, Nat.zero_le _⟩ (Nat.le_of_ble_eq_true rfl) ?_
  refine r_istore_n hg (L' := [(1, .int v5), (0, .ref this)]) dX11_least_14 rfl (by decide) rfl ?_
  refine r_iload_n hg 0 dX11_least_15 rfl rfl ?_
  refine r_if_ne hg 24 dX11_least_16 (by decide) (fun c7 => ?_) (fun c7 => ?_)
  · rw [if_neg c7] at h
    refine r_iload_n hg 0 dX11_least_24 rfl rfl ?_
    exact r_ireturn hr dX11_least_25 ⟨Nat.zero_le _, Nat.zero_le _⟩ ⟨_, rfl, rfl⟩ (by cases h; rfl)
  · rw [if_pos (Classical.not_not.mp c7)] at h
    refine r_ldc hg dX11_least_19 kc_X11_130 ?_
    refine r_goto hg 25 dX11_least_21 (by decide) ?_
    exact r_ireturn hr dX11_least_25 ⟨Nat.zero_le _, Nat.zero_le _⟩ ⟨_, rfl, rfl⟩ (by cases h; rfl)

def b_X11_pit_36 (this : Nat) (x1 : Int32) (x2 : Int32) (x3 : Int32) (X : qX) (s2 : Int32) (I : qI) : Option (Int32 × qI) :=
  q_b1 (f_X11_within x3 (nI 1) s2) fun v1 =>
  if v1 = 0 then
    some ((-1000000001), I)
  else
    q_b1 (f_X3_row (this + 2) x2) fun r6 =>
    q_b2 (f_X11_exchanged r6 x1 x3 X I) fun v8 I9 =>
    some (v8, I9)
set_option maxRecDepth 100000 in
set_option maxHeartbeats 4000000 in
theorem p_X11_pit_36 {l : Launch} {Γ : qC} {g : qG} {z : Int32 × qI} {this : Nat} {x1 : Int32} {x2 : Int32} {x3 : Int32} {X : qX} (hΓ : q_gm Γ) (hg : q_Ok l Γ RX11 cX11_pit 4 (q_rm 5 0 0) "pit" (some .int) g) (hr : q_Rt cX11_pit (some .int) (q_rm 5 0 0) (some (.int z.1), z.2, X) g) (hX : q_Lay X) (k_this : q_kd X this = some (13, 9)) (s2 : Int32) (I : qI) (h : b_X11_pit_36 this x1 x2 x3 X s2 I = some z) : g 0 0 36 [(0, .ref this), (1, .int x1), (2, .int x2), (3, .int x3)] [.int s2, .int (nI 1), .int x3] I X := by
  unfold b_X11_pit_36 at h
  obtain ⟨v1, e2, h⟩ := q_b1_some h
  refine r_cS3i hg dX11_pit_36 mt_X11_within ⟨ml_X11_53, mst_X11_within⟩ (s_X11_within hΓ hX e2) (q_room (Nat.le_of_ble_eq_true rfl) (Nat.le_of_ble_eq_true rfl)) ⟨Nat.zero_le _, Nat.zero_le _⟩ (Nat.le_of_ble_eq_true rfl) ?_
  refine r_if_ne hg 45 dX11_pit_39 (by decide) (fun c3 => ?_) (fun c3 => ?_)
  · rw [if_neg c3] at h
    refine r_aload_n hg 0 dX11_pit_45 rfl rfl ?_
    have e4 := ly_11_0 hX k_this
    refine r_getR hg dX11_pit_46 fl_X11_10 k_this rfl e4.1 ?_
    have e5 := ly_9_0 hX e4.2
    refine r_getR hg dX11_pit_49 fl_X11_58 e4.2 rfl e5.1 ?_
    refine r_iload_n hg 2 dX11_pit_52 rfl rfl ?_
    obtain ⟨r6, e7, h⟩ := q_b1_some h
    refine r_cV1q hg dX11_pit_53 mt_X3_row ml_X11_62 mv_X3_row e5.2 (s_X3_row hΓ hX e5.2 e7) (q_room (Nat.le_of_ble_eq_true rfl) (Nat.le_of_ble_eq_true rfl)) ⟨Nat.zero_le _, Nat.zero_le _⟩ (Nat.le_of_ble_eq_true rfl) ?_
    refine r_iload_n hg 1 dX11_pit_56 rfl rfl ?_
    refine r_iload_n hg 3 dX11_pit_57 rfl rfl ?_
    obtain ⟨v8, I9, e10, h⟩ := q_b2_some h
    refine r_cS3i hg dX11_pit_58 mt_X11_exchanged ⟨ml_X11_66, mst_X11_exchanged⟩ (s_X11_exchanged hΓ hX e10) (q_room (Nat.le_of_ble_eq_true rfl) (Nat.le_of_ble_eq_true rfl)) ⟨Nat.zero_le _, Nat.zero_le _⟩ (Nat.le_of_ble_eq_true rfl) ?_
    exact r_ireturn hr dX11_pit_61 ⟨Nat.zero_le _, Nat.zero_le _⟩ ⟨_, rfl, rfl⟩ (by cases h; rfl)
  · rw [if_pos (Classical.not_not.mp c3)] at h
    refine r_ldc hg dX11_pit_42 kc_X11_57 ?_
    exact r_ireturn hr dX11_pit_44 ⟨Nat.zero_le _, Nat.zero_le _⟩ ⟨_, rfl, rfl⟩ (by cases h; rfl)
def f_X11_pit (this : Nat) (x1 : Int32) (x2 : Int32) (x3 : Int32) (X : qX) (I : qI) : Option (Int32 × qI) :=
  q_b1 (f_X11_within x1 (nI 0) (nI 7)) fun v1 =>
  if v1 = 0 then
    some ((-1000000001), I)
  else
    q_b1 (f_X11_within x2 (nI 0) (nI 1)) fun v4 =>
    if v4 = 0 then
      some ((-1000000001), I)
    else
      if x2 = 0 then
        b_X11_pit_36 this x1 x2 x3 X (nI 99) I
      else
        b_X11_pit_36 this x1 x2 x3 X (nI 150) I
set_option maxRecDepth 100000 in
set_option maxHeartbeats 4000000 in
theorem s_X11_pit {l : Launch} {Γ : qC} (hΓ : q_gm Γ) {X : qX} (hX : q_Lay X) {this : Nat} {x1 : Int32} {x2 : Int32} {x3 : Int32} (k_this : q_kd X this = some (13, 9)) {I : qI} {z : Int32 × qI} (h : f_X11_pit this x1 x2 x3 X I = some z) : q_Sem l Γ (q_rm 5 0 0) yX11_pit cX11_pit 4 (some .int) [.ref this, .int x1, .int x2, .int x3] I X (some (.int z.1), z.2, X) := by
  refine q_met (by decide) (Nat.le_of_ble_eq_true rfl) (fun g hg hr => ?_)
  unfold f_X11_pit at h
  show g 0 0 0 [(0, .ref this), (1, .int x1), (2, .int x2), (3, .int x3)] [] I X
  refine r_iload_n hg 1 dX11_pit_0 rfl rfl ?_
  refine r_iconst hg dX11_pit_1 ci_0 ?_
  refine r_bipush hg dX11_pit_2 cb_7 ?_
  obtain ⟨v1, e2, h⟩ := q_b1_some h
  refine r_cS3i hg dX11_pit_4 mt_X11_within ⟨ml_X11_53, mst_X11_within⟩ (s_X11_within hΓ hX e2) (q_room (Nat.le_of_ble_eq_true rfl) (Nat.le_of_ble_eq_true rfl)) ⟨Nat.zero_le _, Nat.zero_le _⟩ (Nat.le_of_ble_eq_true rfl) ?_
  refine r_if_eq hg 19 dX11_pit_7 (by decide) (fun c3 => ?_) (fun c3 => ?_)
  · rw [if_pos c3] at h
    refine r_ldc hg dX11_pit_19 kc_X11_57 ?_
    exact r_ireturn hr dX11_pit_21 ⟨Nat.zero_le _, Nat.zero_le _⟩ ⟨_, rfl, rfl⟩ (by cases h; rfl)
  · rw [if_neg c3] at h
    refine r_iload_n hg 2 dX11_pit_10 rfl rfl ?_
    refine r_iconst hg dX11_pit_11 ci_0 ?_
    refine r_iconst hg dX11_pit_12 ci_1 ?_
    obtain ⟨v4, e5, h⟩ := q_b1_some h
    refine r_cS3i hg dX11_pit_13 mt_X11_within ⟨ml_X11_53, mst_X11_within⟩ (s_X11_within hΓ hX e5) (q_room (Nat.le_of_ble_eq_true rfl) (Nat.le_of_ble_eq_true rfl)) ⟨Nat.zero_le _, Nat.zero_le _⟩ (Nat.le_of_ble_eq_true rfl) ?_
    refine r_if_ne hg 22 dX11_pit_16 (by decide) (fun c6 => ?_) (fun c6 => ?_)
    · rw [if_neg c6] at h
      refine r_iload_n hg 3 dX11_pit_22 rfl rfl ?_
      refine r_iconst hg dX11_pit_23 ci_1 ?_
      refine r_iload_n hg 2 dX11_pit_24 rfl rfl ?_
      refine r_if_ne hg 33 dX11_pit_25 (by decide) (fun c7 => ?_) (fun c7 => ?_)
      · rw [if_neg c7] at h
        refine r_sipush hg dX11_pit_33 cs_150 ?_
        exact p_X11_pit_36 hΓ hg hr hX k_this _ _ h
      · rw [if_pos (Classical.not_not.mp c7)] at h
        refine r_bipush hg dX11_pit_28 cb_99 ?_
        refine r_goto hg 36 dX11_pit_30 (by decide) ?_
        exact p_X11_pit_36 hΓ hg hr hX k_this _ _ h
    · rw [if_pos (Classical.not_not.mp c6)] at h
      refine r_ldc hg dX11_pit_19 kc_X11_57 ?_
      exact r_ireturn hr dX11_pit_21 ⟨Nat.zero_le _, Nat.zero_le _⟩ ⟨_, rfl, rfl⟩ (by cases h; rfl)

def b_X11_rule_24 (this : Nat) (x1 : Int32) (x2 : Int32) (X : qX) (s2 : Int32) (I : qI) : Option (Int32 × qI) :=
  q_b1 (f_X11_within x2 (nI 0) s2) fun v1 =>
  if v1 = 0 then
    some ((-1000000001), I)
  else
    q_b2 (f_X11_exchanged (some (this + 61)) x1 x2 X I) fun v6 I7 =>
    some (v6, I7)
set_option maxRecDepth 100000 in
set_option maxHeartbeats 4000000 in
theorem p_X11_rule_24 {l : Launch} {Γ : qC} {g : qG} {z : Int32 × qI} {this : Nat} {x1 : Int32} {x2 : Int32} {X : qX} (hΓ : q_gm Γ) (hg : q_Ok l Γ RX11 cX11_rule 3 (q_rm 5 0 0) "rule" (some .int) g) (hr : q_Rt cX11_rule (some .int) (q_rm 5 0 0) (some (.int z.1), z.2, X) g) (hX : q_Lay X) (k_this : q_kd X this = some (13, 9)) (s2 : Int32) (I : qI) (h : b_X11_rule_24 this x1 x2 X s2 I = some z) : g 0 0 24 [(0, .ref this), (1, .int x1), (2, .int x2)] [.int s2, .int (nI 0), .int x2] I X := by
  unfold b_X11_rule_24 at h
  obtain ⟨v1, e2, h⟩ := q_b1_some h
  refine r_cS3i hg dX11_rule_24 mt_X11_within ⟨ml_X11_53, mst_X11_within⟩ (s_X11_within hΓ hX e2) (q_room (Nat.le_of_ble_eq_true rfl) (Nat.le_of_ble_eq_true rfl)) ⟨Nat.zero_le _, Nat.zero_le _⟩ (Nat.le_of_ble_eq_true rfl) ?_
  refine r_if_ne hg 33 dX11_rule_27 (by decide) (fun c3 => ?_) (fun c3 => ?_)
  · rw [if_neg c3] at h
    refine r_aload_n hg 0 dX11_rule_33 rfl rfl ?_
    have e4 := ly_11_0 hX k_this
    refine r_getR hg dX11_rule_34 fl_X11_10 k_this rfl e4.1 ?_
    have e5 := ly_9_8 hX e4.2
    refine r_getR hg dX11_rule_37 fl_X11_148 e4.2 rfl e5.1 ?_
    refine r_iload_n hg 1 dX11_rule_40 rfl rfl ?_
    refine r_iload_n hg 2 dX11_rule_41 rfl rfl ?_
    obtain ⟨v6, I7, e8, h⟩ := q_b2_some h
    refine r_cS3i hg dX11_rule_42 mt_X11_exchanged ⟨ml_X11_66, mst_X11_exchanged⟩ (s_X11_exchanged hΓ hX e8) (q_room (Nat.le_of_ble_eq_true rfl) (Nat.le_of_ble_eq_true rfl)) ⟨Nat.zero_le _, Nat.zero_le _⟩ (Nat.le_of_ble_eq_true rfl) ?_
    exact r_ireturn hr dX11_rule_45 ⟨Nat.zero_le _, Nat.zero_le _⟩ ⟨_, rfl, rfl⟩ (by cases h; rfl)
  · rw [if_pos (Classical.not_not.mp c3)] at h
    refine r_ldc hg dX11_rule_30 kc_X11_57 ?_
    exact r_ireturn hr dX11_rule_32 ⟨Nat.zero_le _, Nat.zero_le _⟩ ⟨_, rfl, rfl⟩ (by cases h; rfl)
def f_X11_rule (this : Nat) (x1 : Int32) (x2 : Int32) (X : qX) (I : qI) : Option (Int32 × qI) :=
  q_b1 (f_X11_within x1 (nI 0) (nI 2)) fun v1 =>
  if v1 = 0 then
    some ((-1000000001), I)
  else
    if x1 = (nI 1) then
      b_X11_rule_24 this x1 x2 X (nI 99999) I
    else
      b_X11_rule_24 this x1 x2 X (nI 9999) I
set_option maxRecDepth 100000 in
set_option maxHeartbeats 4000000 in
theorem s_X11_rule {l : Launch} {Γ : qC} (hΓ : q_gm Γ) {X : qX} (hX : q_Lay X) {this : Nat} {x1 : Int32} {x2 : Int32} (k_this : q_kd X this = some (13, 9)) {I : qI} {z : Int32 × qI} (h : f_X11_rule this x1 x2 X I = some z) : q_Sem l Γ (q_rm 5 0 0) yX11_rule cX11_rule 3 (some .int) [.ref this, .int x1, .int x2] I X (some (.int z.1), z.2, X) := by
  refine q_met (by decide) (Nat.le_of_ble_eq_true rfl) (fun g hg hr => ?_)
  unfold f_X11_rule at h
  show g 0 0 0 [(0, .ref this), (1, .int x1), (2, .int x2)] [] I X
  refine r_iload_n hg 1 dX11_rule_0 rfl rfl ?_
  refine r_iconst hg dX11_rule_1 ci_0 ?_
  refine r_iconst hg dX11_rule_2 ci_2 ?_
  obtain ⟨v1, e2, h⟩ := q_b1_some h
  refine r_cS3i hg dX11_rule_3 mt_X11_within ⟨ml_X11_53, mst_X11_within⟩ (s_X11_within hΓ hX e2) (q_room (Nat.le_of_ble_eq_true rfl) (Nat.le_of_ble_eq_true rfl)) ⟨Nat.zero_le _, Nat.zero_le _⟩ (Nat.le_of_ble_eq_true rfl) ?_
  refine r_if_eq hg 30 dX11_rule_6 (by decide) (fun c3 => ?_) (fun c3 => ?_)
  · rw [if_pos c3] at h
    refine r_ldc hg dX11_rule_30 kc_X11_57 ?_
    exact r_ireturn hr dX11_rule_32 ⟨Nat.zero_le _, Nat.zero_le _⟩ ⟨_, rfl, rfl⟩ (by cases h; rfl)
  · rw [if_neg c3] at h
    refine r_iload_n hg 2 dX11_rule_9 rfl rfl ?_
    refine r_iconst hg dX11_rule_10 ci_0 ?_
    refine r_iload_n hg 1 dX11_rule_11 rfl rfl ?_
    refine r_iconst hg dX11_rule_12 ci_1 ?_
    refine r_icmp_ne hg 21 dX11_rule_13 (by decide) (fun c4 => ?_) (fun c4 => ?_)
    · rw [if_neg c4] at h
      refine r_sipush hg dX11_rule_21 cs_9999 ?_
      exact p_X11_rule_24 hΓ hg hr hX k_this _ _ h
    · rw [if_pos (Classical.not_not.mp c4)] at h
      refine r_ldc hg dX11_rule_16 kc_X11_86 ?_
      refine r_goto hg 24 dX11_rule_18 (by decide) ?_
      exact p_X11_rule_24 hΓ hg hr hX k_this _ _ h

def f_X11_rules (this : Nat) (x1 : Int32) (x2 : Int32) (x3 : Int32) (x4 : Int32) (X : qX) (I : qI) : Option (Int32 × qI) :=
  q_b1 (f_X11_within x1 (nI 0) (nI 6)) fun v1 =>
  if v1 = 0 then
    some ((-1000000001), I)
  else
    q_b2 (f_X7_given (this + 37) x1 (I (this + 1) 13) x2 x3 x4 X I) fun v7 I8 =>
    some (v7, I8)
set_option maxRecDepth 100000 in
set_option maxHeartbeats 4000000 in
theorem s_X11_rules {l : Launch} {Γ : qC} (hΓ : q_gm Γ) {X : qX} (hX : q_Lay X) {this : Nat} {x1 : Int32} {x2 : Int32} {x3 : Int32} {x4 : Int32} (k_this : q_kd X this = some (13, 9)) {I : qI} {z : Int32 × qI} (h : f_X11_rules this x1 x2 x3 x4 X I = some z) : q_Sem l Γ (q_rm 5 0 0) yX11_rules cX11_rules 5 (some .int) [.ref this, .int x1, .int x2, .int x3, .int x4] I X (some (.int z.1), z.2, X) := by
  refine q_met (by decide) (Nat.le_of_ble_eq_true rfl) (fun g hg hr => ?_)
  unfold f_X11_rules at h
  show g 0 0 0 [(0, .ref this), (1, .int x1), (2, .int x2), (3, .int x3), (4, .int x4)] [] I X
  refine r_iload_n hg 1 dX11_rules_0 rfl rfl ?_
  refine r_iconst hg dX11_rules_1 ci_0 ?_
  refine r_bipush hg dX11_rules_2 cb_6 ?_
  obtain ⟨v1, e2, h⟩ := q_b1_some h
  refine r_cS3i hg dX11_rules_4 mt_X11_within ⟨ml_X11_53, mst_X11_within⟩ (s_X11_within hΓ hX e2) (q_room (Nat.le_of_ble_eq_true rfl) (Nat.le_of_ble_eq_true rfl)) ⟨Nat.zero_le _, Nat.zero_le _⟩ (Nat.le_of_ble_eq_true rfl) ?_
  refine r_if_eq hg 35 dX11_rules_7 (by decide) (fun c3 => ?_) (fun c3 => ?_)
  · rw [if_pos c3] at h
    refine r_ldc hg dX11_rules_35 kc_X11_57 ?_
    exact r_ireturn hr dX11_rules_37 ⟨Nat.zero_le _, Nat.zero_le _⟩ ⟨_, rfl, rfl⟩ (by cases h; rfl)
  · rw [if_neg c3] at h
    refine r_aload_n hg 0 dX11_rules_10 rfl rfl ?_
    have e4 := ly_11_0 hX k_this
    refine r_getR hg dX11_rules_11 fl_X11_10 k_this rfl e4.1 ?_
    have e5 := ly_9_4 hX e4.2
    refine r_getR hg dX11_rules_14 fl_X11_256 e4.2 rfl e5.1 ?_
    refine r_iload_n hg 1 dX11_rules_17 rfl rfl ?_
    refine r_aload_n hg 0 dX11_rules_18 rfl rfl ?_
    have e6 := ly_11_0 hX k_this
    refine r_getR hg dX11_rules_19 fl_X11_10 k_this rfl e6.1 ?_
    refine r_getI hg dX11_rules_22 fl_X11_141 e6.2 rfl ?_
    refine r_iload_n hg 2 dX11_rules_25 rfl rfl ?_
    refine r_iload_n hg 3 dX11_rules_26 rfl rfl ?_
    refine r_iload hg 4 dX11_rules_27 rfl ?_
    obtain ⟨v7, I8, e9, h⟩ := q_b2_some h
    refine r_cV5i hg dX11_rules_29 mt_X7_given ml_X11_280 mv_X7_given e5.2 (s_X7_given hΓ hX e5.2 e9) (q_room (Nat.le_of_ble_eq_true rfl) (Nat.le_of_ble_eq_true rfl)) ⟨Nat.zero_le _, Nat.zero_le _⟩ (Nat.le_of_ble_eq_true rfl) ?_
    refine r_goto hg 37 dX11_rules_32 (by decide) ?_
    exact r_ireturn hr dX11_rules_37 ⟨Nat.zero_le _, Nat.zero_le _⟩ ⟨_, rfl, rfl⟩ (by cases h; rfl)

def b_X11_shelf_62 (this : Nat) (x1 : Int32) (x2 : Int32) (x3 : Int32) (X : qX) (I : qI) : Option (Int32 × qI) :=
  q_b1 (f_X8_row (this + 8) x2) fun r3 =>
  q_b2 (f_X11_exchanged r3 x1 x3 X I) fun v5 I6 =>
  some (v5, I6)
set_option maxRecDepth 100000 in
set_option maxHeartbeats 4000000 in
theorem p_X11_shelf_62 {l : Launch} {Γ : qC} {g : qG} {z : Int32 × qI} {this : Nat} {x1 : Int32} {x2 : Int32} {x3 : Int32} {X : qX} (hΓ : q_gm Γ) (hg : q_Ok l Γ RX11 cX11_shelf 4 (q_rm 5 0 0) "shelf" (some .int) g) (hr : q_Rt cX11_shelf (some .int) (q_rm 5 0 0) (some (.int z.1), z.2, X) g) (hX : q_Lay X) (k_this : q_kd X this = some (13, 9)) (I : qI) (h : b_X11_shelf_62 this x1 x2 x3 X I = some z) : g 0 0 62 [(0, .ref this), (1, .int x1), (2, .int x2), (3, .int x3)] [] I X := by
  unfold b_X11_shelf_62 at h
  refine r_aload_n hg 0 dX11_shelf_62 rfl rfl ?_
  have e1 := ly_11_0 hX k_this
  refine r_getR hg dX11_shelf_63 fl_X11_10 k_this rfl e1.1 ?_
  have e2 := ly_9_1 hX e1.2
  refine r_getR hg dX11_shelf_66 fl_X11_87 e1.2 rfl e2.1 ?_
  refine r_iload_n hg 2 dX11_shelf_69 rfl rfl ?_
  obtain ⟨r3, e4, h⟩ := q_b1_some h
  refine r_cV1q hg dX11_shelf_70 mt_X8_row ml_X11_99 mv_X8_row e2.2 (s_X8_row hΓ hX e2.2 e4) (q_room (Nat.le_of_ble_eq_true rfl) (Nat.le_of_ble_eq_true rfl)) ⟨Nat.zero_le _, Nat.zero_le _⟩ (Nat.le_of_ble_eq_true rfl) ?_
  refine r_iload_n hg 1 dX11_shelf_73 rfl rfl ?_
  refine r_iload_n hg 3 dX11_shelf_74 rfl rfl ?_
  obtain ⟨v5, I6, e7, h⟩ := q_b2_some h
  refine r_cS3i hg dX11_shelf_75 mt_X11_exchanged ⟨ml_X11_66, mst_X11_exchanged⟩ (s_X11_exchanged hΓ hX e7) (q_room (Nat.le_of_ble_eq_true rfl) (Nat.le_of_ble_eq_true rfl)) ⟨Nat.zero_le _, Nat.zero_le _⟩ (Nat.le_of_ble_eq_true rfl) ?_
  exact r_ireturn hr dX11_shelf_78 ⟨Nat.zero_le _, Nat.zero_le _⟩ ⟨_, rfl, rfl⟩ (by cases h; rfl)
def b_X11_shelf_44 (this : Nat) (x1 : Int32) (x2 : Int32) (x3 : Int32) (X : qX) (I : qI) : Option (Int32 × qI) :=
  if x2 = (nI 2) then
    q_b1 (f_X11_within x3 (nI 0) (nI 99999)) fun v2 =>
    if v2 = 0 then
      some ((-1000000001), I)
    else
      b_X11_shelf_62 this x1 x2 x3 X I
  else
    b_X11_shelf_62 this x1 x2 x3 X I
set_option maxRecDepth 100000 in
set_option maxHeartbeats 4000000 in
theorem p_X11_shelf_44 {l : Launch} {Γ : qC} {g : qG} {z : Int32 × qI} {this : Nat} {x1 : Int32} {x2 : Int32} {x3 : Int32} {X : qX} (hΓ : q_gm Γ) (hg : q_Ok l Γ RX11 cX11_shelf 4 (q_rm 5 0 0) "shelf" (some .int) g) (hr : q_Rt cX11_shelf (some .int) (q_rm 5 0 0) (some (.int z.1), z.2, X) g) (hX : q_Lay X) (k_this : q_kd X this = some (13, 9)) (I : qI) (h : b_X11_shelf_44 this x1 x2 x3 X I = some z) : g 0 0 44 [(0, .ref this), (1, .int x1), (2, .int x2), (3, .int x3)] [] I X := by
  unfold b_X11_shelf_44 at h
  refine r_iload_n hg 2 dX11_shelf_44 rfl rfl ?_
  refine r_iconst hg dX11_shelf_45 ci_2 ?_
  refine r_icmp_ne hg 62 dX11_shelf_46 (by decide) (fun c1 => ?_) (fun c1 => ?_)
  · rw [if_neg c1] at h
    exact p_X11_shelf_62 hΓ hg hr hX k_this _ h
  · rw [if_pos (Classical.not_not.mp c1)] at h
    refine r_iload_n hg 3 dX11_shelf_49 rfl rfl ?_
    refine r_iconst hg dX11_shelf_50 ci_0 ?_
    refine r_ldc hg dX11_shelf_51 kc_X11_86 ?_
    obtain ⟨v2, e3, h⟩ := q_b1_some h
    refine r_cS3i hg dX11_shelf_53 mt_X11_within ⟨ml_X11_53, mst_X11_within⟩ (s_X11_within hΓ hX e3) (q_room (Nat.le_of_ble_eq_true rfl) (Nat.le_of_ble_eq_true rfl)) ⟨Nat.zero_le _, Nat.zero_le _⟩ (Nat.le_of_ble_eq_true rfl) ?_
    refine r_if_ne hg 62 dX11_shelf_56 (by decide) (fun c4 => ?_) (fun c4 => ?_)
    · rw [if_neg c4] at h
      exact p_X11_shelf_62 hΓ hg hr hX k_this _ h
    · rw [if_pos (Classical.not_not.mp c4)] at h
      refine r_ldc hg dX11_shelf_59 kc_X11_57 ?_
      exact r_ireturn hr dX11_shelf_61 ⟨Nat.zero_le _, Nat.zero_le _⟩ ⟨_, rfl, rfl⟩ (by cases h; rfl)
def f_X11_shelf (this : Nat) (x1 : Int32) (x2 : Int32) (x3 : Int32) (X : qX) (I : qI) : Option (Int32 × qI) :=
  q_b1 (f_X8_has (this + 8) x1 I) fun v3 =>
  if v3 = 0 then
    some ((-1000000001), I)
  else
    q_b1 (f_X11_within x2 (nI 1) (nI 2)) fun v6 =>
    if v6 = 0 then
      some ((-1000000001), I)
    else
      if x2 = (nI 1) then
        q_b1 (f_X11_within x3 (nI 1) (nI 99)) fun v10 =>
        if v10 = 0 then
          some ((-1000000001), I)
        else
          b_X11_shelf_44 this x1 x2 x3 X I
      else
        b_X11_shelf_44 this x1 x2 x3 X I
set_option maxRecDepth 100000 in
set_option maxHeartbeats 4000000 in
theorem s_X11_shelf {l : Launch} {Γ : qC} (hΓ : q_gm Γ) {X : qX} (hX : q_Lay X) {this : Nat} {x1 : Int32} {x2 : Int32} {x3 : Int32} (k_this : q_kd X this = some (13, 9)) {I : qI} {z : Int32 × qI} (h : f_X11_shelf this x1 x2 x3 X I = some z) : q_Sem l Γ (q_rm 5 0 0) yX11_shelf cX11_shelf 4 (some .int) [.ref this, .int x1, .int x2, .int x3] I X (some (.int z.1), z.2, X) := by
  refine q_met (by decide) (Nat.le_of_ble_eq_true rfl) (fun g hg hr => ?_)
  unfold f_X11_shelf at h
  show g 0 0 0 [(0, .ref this), (1, .int x1), (2, .int x2), (3, .int x3)] [] I X
  refine r_aload_n hg 0 dX11_shelf_0 rfl rfl ?_
  have e1 := ly_11_0 hX k_this
  refine r_getR hg dX11_shelf_1 fl_X11_10 k_this rfl e1.1 ?_
  have e2 := ly_9_1 hX e1.2
  refine r_getR hg dX11_shelf_4 fl_X11_87 e1.2 rfl e2.1 ?_
  refine r_iload_n hg 1 dX11_shelf_7 rfl rfl ?_
  obtain ⟨v3, e4, h⟩ := q_b1_some h
  refine r_cV1i hg dX11_shelf_8 mt_X8_has ml_X11_95 mv_X8_has e2.2 (s_X8_has hΓ hX e2.2 e4) (q_room (Nat.le_of_ble_eq_true rfl) (Nat.le_of_ble_eq_true rfl)) ⟨Nat.zero_le _, Nat.zero_le _⟩ (Nat.le_of_ble_eq_true rfl) ?_
  refine r_if_eq hg 23 dX11_shelf_11 (by decide) (fun c5 => ?_) (fun c5 => ?_)
  · rw [if_pos c5] at h
    refine r_ldc hg dX11_shelf_23 kc_X11_57 ?_
    exact r_ireturn hr dX11_shelf_25 ⟨Nat.zero_le _, Nat.zero_le _⟩ ⟨_, rfl, rfl⟩ (by cases h; rfl)
  · rw [if_neg c5] at h
    refine r_iload_n hg 2 dX11_shelf_14 rfl rfl ?_
    refine r_iconst hg dX11_shelf_15 ci_1 ?_
    refine r_iconst hg dX11_shelf_16 ci_2 ?_
    obtain ⟨v6, e7, h⟩ := q_b1_some h
    refine r_cS3i hg dX11_shelf_17 mt_X11_within ⟨ml_X11_53, mst_X11_within⟩ (s_X11_within hΓ hX e7) (q_room (Nat.le_of_ble_eq_true rfl) (Nat.le_of_ble_eq_true rfl)) ⟨Nat.zero_le _, Nat.zero_le _⟩ (Nat.le_of_ble_eq_true rfl) ?_
    refine r_if_ne hg 26 dX11_shelf_20 (by decide) (fun c8 => ?_) (fun c8 => ?_)
    · rw [if_neg c8] at h
      refine r_iload_n hg 2 dX11_shelf_26 rfl rfl ?_
      refine r_iconst hg dX11_shelf_27 ci_1 ?_
      refine r_icmp_ne hg 44 dX11_shelf_28 (by decide) (fun c9 => ?_) (fun c9 => ?_)
      · rw [if_neg c9] at h
        exact p_X11_shelf_44 hΓ hg hr hX k_this _ h
      · rw [if_pos (Classical.not_not.mp c9)] at h
        refine r_iload_n hg 3 dX11_shelf_31 rfl rfl ?_
        refine r_iconst hg dX11_shelf_32 ci_1 ?_
        refine r_bipush hg dX11_shelf_33 cb_99 ?_
        obtain ⟨v10, e11, h⟩ := q_b1_some h
        refine r_cS3i hg dX11_shelf_35 mt_X11_within ⟨ml_X11_53, mst_X11_within⟩ (s_X11_within hΓ hX e11) (q_room (Nat.le_of_ble_eq_true rfl) (Nat.le_of_ble_eq_true rfl)) ⟨Nat.zero_le _, Nat.zero_le _⟩ (Nat.le_of_ble_eq_true rfl) ?_
        refine r_if_ne hg 44 dX11_shelf_38 (by decide) (fun c12 => ?_) (fun c12 => ?_)
        · rw [if_neg c12] at h
          exact p_X11_shelf_44 hΓ hg hr hX k_this _ h
        · rw [if_pos (Classical.not_not.mp c12)] at h
          refine r_ldc hg dX11_shelf_41 kc_X11_57 ?_
          exact r_ireturn hr dX11_shelf_43 ⟨Nat.zero_le _, Nat.zero_le _⟩ ⟨_, rfl, rfl⟩ (by cases h; rfl)
    · rw [if_pos (Classical.not_not.mp c8)] at h
      refine r_ldc hg dX11_shelf_23 kc_X11_57 ?_
      exact r_ireturn hr dX11_shelf_25 ⟨Nat.zero_le _, Nat.zero_le _⟩ ⟨_, rfl, rfl⟩ (by cases h; rfl)

def f_X11_worth (this : Nat) (x1 : Int32) (x2 : Int32) (X : qX) (I : qI) : Option (Int32 × qI) :=
  q_b1 (f_X2_has (this + 13) x1 I) fun v3 =>
  if v3 = 0 then
    some ((-1000000001), I)
  else
    q_b1 (f_X11_within x2 (nI 0) (nI 8)) fun v6 =>
    if v6 = 0 then
      some ((-1000000001), I)
    else
      q_b1 (f_X9_reckon (this + 1) x1 (nI 0) (nI 0) X I) fun I10 =>
      q_b1 (q_rd I10 (this + 62) 7 (nI 0)) fun v14 =>
      if x2 = (nI 7) then
        q_b1 (f_X8_loavesOfCompany (this + 8) v14 I10) fun v28 =>
        some (v28, I10)
      else
        if x2 = (nI 8) then
          q_b1 (f_X8_loavesOfTown (this + 8) v14 I10) fun v24 =>
          some (v24, I10)
        else
          q_b1 (f_X11_looked (some (this + 62)) x2 X I10) fun v20 =>
          some (v20, I10)
set_option maxRecDepth 100000 in
set_option maxHeartbeats 4000000 in
theorem s_X11_worth {l : Launch} {Γ : qC} (hΓ : q_gm Γ) {X : qX} (hX : q_Lay X) {this : Nat} {x1 : Int32} {x2 : Int32} (k_this : q_kd X this = some (13, 9)) {I : qI} {z : Int32 × qI} (h : f_X11_worth this x1 x2 X I = some z) : q_Sem l Γ (q_rm 6 0 0) yX11_worth cX11_worth 4 (some .int) [.ref this, .int x1, .int x2] I X (some (.int z.1), z.2, X) := by
  refine q_met (by decide) (Nat.le_of_ble_eq_true rfl) (fun g hg hr => ?_)
  unfold f_X11_worth at h
  show g 0 0 0 [(0, .ref this), (1, .int x1), (2, .int x2)] [] I X
  refine r_aload_n hg 0 dX11_worth_0 rfl rfl ?_
  have e1 := ly_11_0 hX k_this
  refine r_getR hg dX11_worth_1 fl_X11_10 k_this rfl e1.1 ?_
  have e2 := ly_9_2 hX e1.2
  refine r_getR hg dX11_worth_4 fl_X11_70 e1.2 rfl e2.1 ?_
  refine r_iload_n hg 1 dX11_worth_7 rfl rfl ?_
  obtain ⟨v3, e4, h⟩ := q_b1_some h
  refine r_cV1i hg dX11_worth_8 mt_X2_has ml_X11_119 mv_X2_has e2.2 (s_X2_has hΓ hX e2.2 e4) (q_room (Nat.le_of_ble_eq_true rfl) (Nat.le_of_ble_eq_true rfl)) ⟨Nat.zero_le _, Nat.zero_le _⟩ (Nat.le_of_ble_eq_true rfl) ?_
  refine r_if_eq hg 24 dX11_worth_11 (by decide) (fun c5 => ?_) (fun c5 => ?_)
  · rw [if_pos c5] at h
    refine r_ldc hg dX11_worth_24 kc_X11_57 ?_
    exact r_ireturn hr dX11_worth_26 ⟨Nat.zero_le _, Nat.zero_le _⟩ ⟨_, rfl, rfl⟩ (by cases h; rfl)
  · rw [if_neg c5] at h
    refine r_iload_n hg 2 dX11_worth_14 rfl rfl ?_
    refine r_iconst hg dX11_worth_15 ci_0 ?_
    refine r_bipush hg dX11_worth_16 cb_8 ?_
    obtain ⟨v6, e7, h⟩ := q_b1_some h
    refine r_cS3i hg dX11_worth_18 mt_X11_within ⟨ml_X11_53, mst_X11_within⟩ (s_X11_within hΓ hX e7) (q_room (Nat.le_of_ble_eq_true rfl) (Nat.le_of_ble_eq_true rfl)) ⟨Nat.zero_le _, Nat.zero_le _⟩ (Nat.le_of_ble_eq_true rfl) ?_
    refine r_if_ne hg 27 dX11_worth_21 (by decide) (fun c8 => ?_) (fun c8 => ?_)
    · rw [if_neg c8] at h
      refine r_aload_n hg 0 dX11_worth_27 rfl rfl ?_
      have e9 := ly_11_0 hX k_this
      refine r_getR hg dX11_worth_28 fl_X11_10 k_this rfl e9.1 ?_
      refine r_iload_n hg 1 dX11_worth_31 rfl rfl ?_
      refine r_iconst hg dX11_worth_32 ci_0 ?_
      refine r_iconst hg dX11_worth_33 ci_0 ?_
      obtain ⟨I10, e11, h⟩ := q_b1_some h
      refine r_cV3v hg dX11_worth_34 mt_X9_reckon ml_X11_200 mv_X9_reckon e9.2 (s_X9_reckon hΓ hX e9.2 e11) (q_room (Nat.le_of_ble_eq_true rfl) (Nat.le_of_ble_eq_true rfl)) ⟨Nat.zero_le _, Nat.zero_le _⟩ (Nat.le_of_ble_eq_true rfl) ?_
      refine r_aload_n hg 0 dX11_worth_37 rfl rfl ?_
      have e12 := ly_11_0 hX k_this
      refine r_getR hg dX11_worth_38 fl_X11_10 k_this rfl e12.1 ?_
      have e13 := ly_9_9 hX e12.2
      refine r_getR hg dX11_worth_41 fl_X11_204 e12.2 rfl e13.1 ?_
      refine r_iconst hg dX11_worth_44 ci_0 ?_
      obtain ⟨v14, e15, h⟩ := q_b1_some h
      refine r_iald hg dX11_worth_45 e13.2 e15 ?_
      refine r_istore_n hg (L' := [(3, .int v14), (0, .ref this), (1, .int x1), (2, .int x2)]) dX11_worth_46 rfl (by decide) rfl ?_
      refine r_iload_n hg 3 dX11_worth_47 rfl rfl ?_
      refine r_bipush hg dX11_worth_48 cb_7 ?_
      refine r_icmp_ne hg 65 dX11_worth_50 (by decide) (fun c16 => ?_) (fun c16 => ?_)
      · rw [if_neg c16] at h
        refine r_iload_n hg 3 dX11_worth_65 rfl rfl ?_
        refine r_bipush hg dX11_worth_66 cb_8 ?_
        refine r_icmp_ne hg 83 dX11_worth_68 (by decide) (fun c17 => ?_) (fun c17 => ?_)
        · rw [if_neg c17] at h
          refine r_aload_n hg 1 dX11_worth_83 rfl rfl ?_
          have e18 := ly_11_0 hX k_this
          refine r_getR hg dX11_worth_84 fl_X11_10 k_this rfl e18.1 ?_
          have e19 := ly_9_9 hX e18.2
          refine r_getR hg dX11_worth_87 fl_X11_204 e18.2 rfl e19.1 ?_
          refine r_iload_n hg 3 dX11_worth_90 rfl rfl ?_
          obtain ⟨v20, e21, h⟩ := q_b1_some h
          refine r_cS2i hg dX11_worth_91 mt_X11_looked ⟨ml_X11_80, mst_X11_looked⟩ (s_X11_looked hΓ hX e21) (q_room (Nat.le_of_ble_eq_true rfl) (Nat.le_of_ble_eq_true rfl)) ⟨Nat.zero_le _, Nat.zero_le _⟩ (Nat.le_of_ble_eq_true rfl) ?_
          exact r_ireturn hr dX11_worth_94 ⟨Nat.zero_le _, Nat.zero_le _⟩ ⟨_, rfl, rfl⟩ (by cases h; rfl)
        · rw [if_pos (Classical.not_not.mp c17)] at h
          refine r_aload_n hg 1 dX11_worth_71 rfl rfl ?_
          have e22 := ly_11_0 hX k_this
          refine r_getR hg dX11_worth_72 fl_X11_10 k_this rfl e22.1 ?_
          have e23 := ly_9_1 hX e22.2
          refine r_getR hg dX11_worth_75 fl_X11_87 e22.2 rfl e23.1 ?_
          refine r_iload_n hg 0 dX11_worth_78 rfl rfl ?_
          obtain ⟨v24, e25, h⟩ := q_b1_some h
          refine r_cV1i hg dX11_worth_79 mt_X8_loavesOfTown ml_X11_210 mv_X8_loavesOfTown e23.2 (s_X8_loavesOfTown hΓ hX e23.2 e25) (q_room (Nat.le_of_ble_eq_true rfl) (Nat.le_of_ble_eq_true rfl)) ⟨Nat.zero_le _, Nat.zero_le _⟩ (Nat.le_of_ble_eq_true rfl) ?_
          exact r_ireturn hr dX11_worth_82 ⟨Nat.zero_le _, Nat.zero_le _⟩ ⟨_, rfl, rfl⟩ (by cases h; rfl)
      · rw [if_pos (Classical.not_not.mp c16)] at h
        refine r_aload_n hg 1 dX11_worth_53 rfl rfl ?_
        have e26 := ly_11_0 hX k_this
        refine r_getR hg dX11_worth_54 fl_X11_10 k_this rfl e26.1 ?_
        have e27 := ly_9_1 hX e26.2
        refine r_getR hg dX11_worth_57 fl_X11_87 e26.2 rfl e27.1 ?_
        refine r_iload_n hg 0 dX11_worth_60 rfl rfl ?_
        obtain ⟨v28, e29, h⟩ := q_b1_some h
        refine r_cV1i hg dX11_worth_61 mt_X8_loavesOfCompany ml_X11_207 mv_X8_loavesOfCompany e27.2 (s_X8_loavesOfCompany hΓ hX e27.2 e29) (q_room (Nat.le_of_ble_eq_true rfl) (Nat.le_of_ble_eq_true rfl)) ⟨Nat.zero_le _, Nat.zero_le _⟩ (Nat.le_of_ble_eq_true rfl) ?_
        exact r_ireturn hr dX11_worth_64 ⟨Nat.zero_le _, Nat.zero_le _⟩ ⟨_, rfl, rfl⟩ (by cases h; rfl)
    · rw [if_pos (Classical.not_not.mp c8)] at h
      refine r_ldc hg dX11_worth_24 kc_X11_57 ?_
      exact r_ireturn hr dX11_worth_26 ⟨Nat.zero_le _, Nat.zero_le _⟩ ⟨_, rfl, rfl⟩ (by cases h; rfl)

def f_X11_give (this : Nat) (x1 : Int32) (X : qX) (I : qI) : Option (Int32 × qI) :=
  q_b1 (f_X2_has (this + 13) x1 I) fun v3 =>
  if v3 = 0 then
    some ((-1000000001), I)
  else
    q_b2 (f_X9_wrongFines (this + 1) x1 (nI 1) X I) fun v7 I8 =>
    if v7 = 0 then
      some ((-1000000002), I8)
    else
      q_b1 (f_X2_getCoin (this + 13) x1 v7 I8) fun I13 =>
      some (v7, I13)
set_option maxRecDepth 100000 in
set_option maxHeartbeats 4000000 in
theorem s_X11_give {l : Launch} {Γ : qC} (hΓ : q_gm Γ) {X : qX} (hX : q_Lay X) {this : Nat} {x1 : Int32} (k_this : q_kd X this = some (13, 9)) {I : qI} {z : Int32 × qI} (h : f_X11_give this x1 X I = some z) : q_Sem l Γ (q_rm 7 0 0) yX11_give cX11_give 3 (some .int) [.ref this, .int x1] I X (some (.int z.1), z.2, X) := by
  refine q_met (by decide) (Nat.le_of_ble_eq_true rfl) (fun g hg hr => ?_)
  unfold f_X11_give at h
  show g 0 0 0 [(0, .ref this), (1, .int x1)] [] I X
  refine r_aload_n hg 0 dX11_give_0 rfl rfl ?_
  have e1 := ly_11_0 hX k_this
  refine r_getR hg dX11_give_1 fl_X11_10 k_this rfl e1.1 ?_
  have e2 := ly_9_2 hX e1.2
  refine r_getR hg dX11_give_4 fl_X11_70 e1.2 rfl e2.1 ?_
  refine r_iload_n hg 1 dX11_give_7 rfl rfl ?_
  obtain ⟨v3, e4, h⟩ := q_b1_some h
  refine r_cV1i hg dX11_give_8 mt_X2_has ml_X11_119 mv_X2_has e2.2 (s_X2_has hΓ hX e2.2 e4) (q_room (Nat.le_of_ble_eq_true rfl) (Nat.le_of_ble_eq_true rfl)) ⟨Nat.zero_le _, Nat.zero_le _⟩ (Nat.le_of_ble_eq_true rfl) ?_
  refine r_if_ne hg 17 dX11_give_11 (by decide) (fun c5 => ?_) (fun c5 => ?_)
  · rw [if_neg c5] at h
    refine r_aload_n hg 0 dX11_give_17 rfl rfl ?_
    have e6 := ly_11_0 hX k_this
    refine r_getR hg dX11_give_18 fl_X11_10 k_this rfl e6.1 ?_
    refine r_iload_n hg 1 dX11_give_21 rfl rfl ?_
    refine r_iconst hg dX11_give_22 ci_1 ?_
    obtain ⟨v7, I8, e9, h⟩ := q_b2_some h
    refine r_cV2i hg dX11_give_23 mt_X9_wrongFines ml_X11_196 mv_X9_wrongFines e6.2 (s_X9_wrongFines hΓ hX e6.2 e9) (q_room (Nat.le_of_ble_eq_true rfl) (Nat.le_of_ble_eq_true rfl)) ⟨Nat.zero_le _, Nat.zero_le _⟩ (Nat.le_of_ble_eq_true rfl) ?_
    refine r_istore_n hg (L' := [(2, .int v7), (0, .ref this), (1, .int x1)]) dX11_give_26 rfl (by decide) rfl ?_
    refine r_iload_n hg 0 dX11_give_27 rfl rfl ?_
    refine r_if_ne hg 34 dX11_give_28 (by decide) (fun c10 => ?_) (fun c10 => ?_)
    · rw [if_neg c10] at h
      refine r_aload_n hg 1 dX11_give_34 rfl rfl ?_
      have e11 := ly_11_0 hX k_this
      refine r_getR hg dX11_give_35 fl_X11_10 k_this rfl e11.1 ?_
      have e12 := ly_9_2 hX e11.2
      refine r_getR hg dX11_give_38 fl_X11_70 e11.2 rfl e12.1 ?_
      refine r_iload_n hg 2 dX11_give_41 rfl rfl ?_
      refine r_iload_n hg 0 dX11_give_42 rfl rfl ?_
      obtain ⟨I13, e14, h⟩ := q_b1_some h
      refine r_cV2v hg dX11_give_43 mt_X2_getCoin ml_X11_162 mv_X2_getCoin e12.2 (s_X2_getCoin hΓ hX e12.2 e14) (q_room (Nat.le_of_ble_eq_true rfl) (Nat.le_of_ble_eq_true rfl)) ⟨Nat.zero_le _, Nat.zero_le _⟩ (Nat.le_of_ble_eq_true rfl) ?_
      refine r_iload_n hg 0 dX11_give_46 rfl rfl ?_
      exact r_ireturn hr dX11_give_47 ⟨Nat.zero_le _, Nat.zero_le _⟩ ⟨_, rfl, rfl⟩ (by cases h; rfl)
    · rw [if_pos (Classical.not_not.mp c10)] at h
      refine r_ldc hg dX11_give_31 kc_X11_171 ?_
      exact r_ireturn hr dX11_give_33 ⟨Nat.zero_le _, Nat.zero_le _⟩ ⟨_, rfl, rfl⟩ (by cases h; rfl)
  · rw [if_pos (Classical.not_not.mp c5)] at h
    refine r_ldc hg dX11_give_14 kc_X11_57 ?_
    exact r_ireturn hr dX11_give_16 ⟨Nat.zero_le _, Nat.zero_le _⟩ ⟨_, rfl, rfl⟩ (by cases h; rfl)

def f_X11_round (this : Nat) (X : qX) (I : qI) : Option (Int32 × qI) :=
  q_b2 (f_X10_open (this + 43) (this + 37) (I (this + 1) 13) X I) fun v6 I7 =>
  some (v6, I7)
set_option maxRecDepth 100000 in
set_option maxHeartbeats 4000000 in
theorem s_X11_round {l : Launch} {Γ : qC} (hΓ : q_gm Γ) {X : qX} (hX : q_Lay X) {this : Nat} (k_this : q_kd X this = some (13, 9)) {I : qI} {z : Int32 × qI} (h : f_X11_round this X I = some z) : q_Sem l Γ (q_rm 7 0 0) yX11_round cX11_round 1 (some .int) [.ref this] I X (some (.int z.1), z.2, X) := by
  refine q_met (by decide) (Nat.le_of_ble_eq_true rfl) (fun g hg hr => ?_)
  unfold f_X11_round at h
  show g 0 0 0 [(0, .ref this)] [] I X
  refine r_aload_n hg 0 dX11_round_0 rfl rfl ?_
  have e1 := ly_11_0 hX k_this
  refine r_getR hg dX11_round_1 fl_X11_10 k_this rfl e1.1 ?_
  have e2 := ly_9_5 hX e1.2
  refine r_getR hg dX11_round_4 fl_X11_328 e1.2 rfl e2.1 ?_
  refine r_aload_n hg 0 dX11_round_7 rfl rfl ?_
  have e3 := ly_11_0 hX k_this
  refine r_getR hg dX11_round_8 fl_X11_10 k_this rfl e3.1 ?_
  have e4 := ly_9_4 hX e3.2
  refine r_getR hg dX11_round_11 fl_X11_256 e3.2 rfl e4.1 ?_
  refine r_aload_n hg 0 dX11_round_14 rfl rfl ?_
  have e5 := ly_11_0 hX k_this
  refine r_getR hg dX11_round_15 fl_X11_10 k_this rfl e5.1 ?_
  refine r_getI hg dX11_round_18 fl_X11_141 e5.2 rfl ?_
  obtain ⟨v6, I7, e8, h⟩ := q_b2_some h
  refine r_cV2i hg dX11_round_21 mt_X10_open ml_X11_337 mv_X10_open e2.2 (s_X10_open hΓ hX e2.2 e4.2 e8) (q_room (Nat.le_of_ble_eq_true rfl) (Nat.le_of_ble_eq_true rfl)) ⟨Nat.zero_le _, Nat.zero_le _⟩ (Nat.le_of_ble_eq_true rfl) ?_
  exact r_ireturn hr dX11_round_24 ⟨Nat.zero_le _, Nat.zero_le _⟩ ⟨_, rfl, rfl⟩ (by cases h; rfl)

def f_X11_way (this : Nat) (x1 : Int32) (X : qX) (I : qI) : Option (Int32 × qI) :=
  if 0 ≤ x1 then
    q_b2 (f_X10_openWay (this + 43) (this + 37) (I (this + 1) 13) x1 X I) fun v7 I8 =>
    if 0 ≤ v7 then
      some (v7, I8)
    else
      some ((-1000000005), I8)
  else
    some ((-1000000001), I)
set_option maxRecDepth 100000 in
set_option maxHeartbeats 4000000 in
theorem s_X11_way {l : Launch} {Γ : qC} (hΓ : q_gm Γ) {X : qX} (hX : q_Lay X) {this : Nat} {x1 : Int32} (k_this : q_kd X this = some (13, 9)) {I : qI} {z : Int32 × qI} (h : f_X11_way this x1 X I = some z) : q_Sem l Γ (q_rm 7 0 0) yX11_way cX11_way 3 (some .int) [.ref this, .int x1] I X (some (.int z.1), z.2, X) := by
  refine q_met (by decide) (Nat.le_of_ble_eq_true rfl) (fun g hg hr => ?_)
  unfold f_X11_way at h
  show g 0 0 0 [(0, .ref this), (1, .int x1)] [] I X
  refine r_iload_n hg 1 dX11_way_0 rfl rfl ?_
  refine r_if_ge hg 7 dX11_way_1 (by decide) (fun c1 => ?_) (fun c1 => ?_)
  · rw [if_pos c1] at h
    refine r_aload_n hg 0 dX11_way_7 rfl rfl ?_
    have e2 := ly_11_0 hX k_this
    refine r_getR hg dX11_way_8 fl_X11_10 k_this rfl e2.1 ?_
    have e3 := ly_9_5 hX e2.2
    refine r_getR hg dX11_way_11 fl_X11_328 e2.2 rfl e3.1 ?_
    refine r_aload_n hg 0 dX11_way_14 rfl rfl ?_
    have e4 := ly_11_0 hX k_this
    refine r_getR hg dX11_way_15 fl_X11_10 k_this rfl e4.1 ?_
    have e5 := ly_9_4 hX e4.2
    refine r_getR hg dX11_way_18 fl_X11_256 e4.2 rfl e5.1 ?_
    refine r_aload_n hg 0 dX11_way_21 rfl rfl ?_
    have e6 := ly_11_0 hX k_this
    refine r_getR hg dX11_way_22 fl_X11_10 k_this rfl e6.1 ?_
    refine r_getI hg dX11_way_25 fl_X11_141 e6.2 rfl ?_
    refine r_iload_n hg 1 dX11_way_28 rfl rfl ?_
    obtain ⟨v7, I8, e9, h⟩ := q_b2_some h
    refine r_cV3i hg dX11_way_29 mt_X10_openWay ml_X11_340 mv_X10_openWay e3.2 (s_X10_openWay hΓ hX e3.2 e5.2 e9) (q_room (Nat.le_of_ble_eq_true rfl) (Nat.le_of_ble_eq_true rfl)) ⟨Nat.zero_le _, Nat.zero_le _⟩ (Nat.le_of_ble_eq_true rfl) ?_
    refine r_istore_n hg (L' := [(2, .int v7), (0, .ref this), (1, .int x1)]) dX11_way_32 rfl (by decide) rfl ?_
    refine r_iload_n hg 0 dX11_way_33 rfl rfl ?_
    refine r_if_ge hg 42 dX11_way_34 (by decide) (fun c10 => ?_) (fun c10 => ?_)
    · rw [if_pos c10] at h
      refine r_iload_n hg 0 dX11_way_42 rfl rfl ?_
      exact r_ireturn hr dX11_way_43 ⟨Nat.zero_le _, Nat.zero_le _⟩ ⟨_, rfl, rfl⟩ (by cases h; rfl)
    · rw [if_neg c10] at h
      refine r_ldc hg dX11_way_37 kc_X11_130 ?_
      refine r_goto hg 43 dX11_way_39 (by decide) ?_
      exact r_ireturn hr dX11_way_43 ⟨Nat.zero_le _, Nat.zero_le _⟩ ⟨_, rfl, rfl⟩ (by cases h; rfl)
  · rw [if_neg c1] at h
    refine r_ldc hg dX11_way_4 kc_X11_57 ?_
    exact r_ireturn hr dX11_way_6 ⟨Nat.zero_le _, Nat.zero_le _⟩ ⟨_, rfl, rfl⟩ (by cases h; rfl)

def f_X11_would (this : Nat) (x1 : Int32) (x2 : Int32) (X : qX) (I : qI) : Option (Int32 × qI) :=
  q_b1 (f_X7_has (this + 37) x1 I) fun v3 =>
  if v3 = 0 then
    some ((-1000000001), I)
  else
    q_b1 (f_X11_within x2 (nI 0) (nI 1)) fun v6 =>
    if v6 = 0 then
      some ((-1000000001), I)
    else
      q_b1 (q_rd I (this + 38) 12 x1) fun v12 =>
      if v12 = (nI 6) then
        if x2 = 0 then
          q_b2 (f_X10_openBarred (this + 43) (this + 37) (I (this + 1) 13) x1 X I) fun v28 I29 =>
          some (v28, I29)
        else
          q_b2 (f_X10_othersBarred (this + 43) (this + 37) x1 X I) fun v20 I21 =>
          some (v20, I21)
      else
        some ((-1000000012), I)
set_option maxRecDepth 100000 in
set_option maxHeartbeats 4000000 in
theorem s_X11_would {l : Launch} {Γ : qC} (hΓ : q_gm Γ) {X : qX} (hX : q_Lay X) {this : Nat} {x1 : Int32} {x2 : Int32} (k_this : q_kd X this = some (13, 9)) {I : qI} {z : Int32 × qI} (h : f_X11_would this x1 x2 X I = some z) : q_Sem l Γ (q_rm 7 0 0) yX11_would cX11_would 3 (some .int) [.ref this, .int x1, .int x2] I X (some (.int z.1), z.2, X) := by
  refine q_met (by decide) (Nat.le_of_ble_eq_true rfl) (fun g hg hr => ?_)
  unfold f_X11_would at h
  show g 0 0 0 [(0, .ref this), (1, .int x1), (2, .int x2)] [] I X
  refine r_aload_n hg 0 dX11_would_0 rfl rfl ?_
  have e1 := ly_11_0 hX k_this
  refine r_getR hg dX11_would_1 fl_X11_10 k_this rfl e1.1 ?_
  have e2 := ly_9_4 hX e1.2
  refine r_getR hg dX11_would_4 fl_X11_256 e1.2 rfl e2.1 ?_
  refine r_iload_n hg 1 dX11_would_7 rfl rfl ?_
  obtain ⟨v3, e4, h⟩ := q_b1_some h
  refine r_cV1i hg dX11_would_8 mt_X7_has ml_X11_275 mv_X7_has e2.2 (s_X7_has hΓ hX e2.2 e4) (q_room (Nat.le_of_ble_eq_true rfl) (Nat.le_of_ble_eq_true rfl)) ⟨Nat.zero_le _, Nat.zero_le _⟩ (Nat.le_of_ble_eq_true rfl) ?_
  refine r_if_eq hg 23 dX11_would_11 (by decide) (fun c5 => ?_) (fun c5 => ?_)
  · rw [if_pos c5] at h
    refine r_ldc hg dX11_would_23 kc_X11_57 ?_
    exact r_ireturn hr dX11_would_25 ⟨Nat.zero_le _, Nat.zero_le _⟩ ⟨_, rfl, rfl⟩ (by cases h; rfl)
  · rw [if_neg c5] at h
    refine r_iload_n hg 2 dX11_would_14 rfl rfl ?_
    refine r_iconst hg dX11_would_15 ci_0 ?_
    refine r_iconst hg dX11_would_16 ci_1 ?_
    obtain ⟨v6, e7, h⟩ := q_b1_some h
    refine r_cS3i hg dX11_would_17 mt_X11_within ⟨ml_X11_53, mst_X11_within⟩ (s_X11_within hΓ hX e7) (q_room (Nat.le_of_ble_eq_true rfl) (Nat.le_of_ble_eq_true rfl)) ⟨Nat.zero_le _, Nat.zero_le _⟩ (Nat.le_of_ble_eq_true rfl) ?_
    refine r_if_ne hg 26 dX11_would_20 (by decide) (fun c8 => ?_) (fun c8 => ?_)
    · rw [if_neg c8] at h
      refine r_aload_n hg 0 dX11_would_26 rfl rfl ?_
      have e9 := ly_11_0 hX k_this
      refine r_getR hg dX11_would_27 fl_X11_10 k_this rfl e9.1 ?_
      have e10 := ly_9_4 hX e9.2
      refine r_getR hg dX11_would_30 fl_X11_256 e9.2 rfl e10.1 ?_
      have e11 := ly_7_0 hX e10.2
      refine r_getR hg dX11_would_33 fl_X11_344 e10.2 rfl e11.1 ?_
      refine r_iload_n hg 1 dX11_would_36 rfl rfl ?_
      obtain ⟨v12, e13, h⟩ := q_b1_some h
      refine r_iald hg dX11_would_37 e11.2 e13 ?_
      refine r_bipush hg dX11_would_38 cb_6 ?_
      refine r_icmp_eq hg 46 dX11_would_40 (by decide) (fun c14 => ?_) (fun c14 => ?_)
      · rw [if_pos c14] at h
        refine r_iload_n hg 2 dX11_would_46 rfl rfl ?_
        refine r_if_ne hg 78 dX11_would_47 (by decide) (fun c15 => ?_) (fun c15 => ?_)
        · rw [if_neg c15] at h
          refine r_aload_n hg 0 dX11_would_78 rfl rfl ?_
          have e16 := ly_11_0 hX k_this
          refine r_getR hg dX11_would_79 fl_X11_10 k_this rfl e16.1 ?_
          have e17 := ly_9_5 hX e16.2
          refine r_getR hg dX11_would_82 fl_X11_328 e16.2 rfl e17.1 ?_
          refine r_aload_n hg 0 dX11_would_85 rfl rfl ?_
          have e18 := ly_11_0 hX k_this
          refine r_getR hg dX11_would_86 fl_X11_10 k_this rfl e18.1 ?_
          have e19 := ly_9_4 hX e18.2
          refine r_getR hg dX11_would_89 fl_X11_256 e18.2 rfl e19.1 ?_
          refine r_iload_n hg 1 dX11_would_92 rfl rfl ?_
          obtain ⟨v20, I21, e22, h⟩ := q_b2_some h
          refine r_cV2i hg dX11_would_93 mt_X10_othersBarred ml_X11_349 mv_X10_othersBarred e17.2 (s_X10_othersBarred hΓ hX e17.2 e19.2 e22) (q_room (Nat.le_of_ble_eq_true rfl) (Nat.le_of_ble_eq_true rfl)) ⟨Nat.zero_le _, Nat.zero_le _⟩ (Nat.le_of_ble_eq_true rfl) ?_
          exact r_ireturn hr dX11_would_96 ⟨Nat.zero_le _, Nat.zero_le _⟩ ⟨_, rfl, rfl⟩ (by cases h; rfl)
        · rw [if_pos (Classical.not_not.mp c15)] at h
          refine r_aload_n hg 0 dX11_would_50 rfl rfl ?_
          have e23 := ly_11_0 hX k_this
          refine r_getR hg dX11_would_51 fl_X11_10 k_this rfl e23.1 ?_
          have e24 := ly_9_5 hX e23.2
          refine r_getR hg dX11_would_54 fl_X11_328 e23.2 rfl e24.1 ?_
          refine r_aload_n hg 0 dX11_would_57 rfl rfl ?_
          have e25 := ly_11_0 hX k_this
          refine r_getR hg dX11_would_58 fl_X11_10 k_this rfl e25.1 ?_
          have e26 := ly_9_4 hX e25.2
          refine r_getR hg dX11_would_61 fl_X11_256 e25.2 rfl e26.1 ?_
          refine r_aload_n hg 0 dX11_would_64 rfl rfl ?_
          have e27 := ly_11_0 hX k_this
          refine r_getR hg dX11_would_65 fl_X11_10 k_this rfl e27.1 ?_
          refine r_getI hg dX11_would_68 fl_X11_141 e27.2 rfl ?_
          refine r_iload_n hg 1 dX11_would_71 rfl rfl ?_
          obtain ⟨v28, I29, e30, h⟩ := q_b2_some h
          refine r_cV3i hg dX11_would_72 mt_X10_openBarred ml_X11_346 mv_X10_openBarred e24.2 (s_X10_openBarred hΓ hX e24.2 e26.2 e30) (q_room (Nat.le_of_ble_eq_true rfl) (Nat.le_of_ble_eq_true rfl)) ⟨Nat.zero_le _, Nat.zero_le _⟩ (Nat.le_of_ble_eq_true rfl) ?_
          refine r_goto hg 96 dX11_would_75 (by decide) ?_
          exact r_ireturn hr dX11_would_96 ⟨Nat.zero_le _, Nat.zero_le _⟩ ⟨_, rfl, rfl⟩ (by cases h; rfl)
      · rw [if_neg c14] at h
        refine r_ldc hg dX11_would_43 kc_X11_179 ?_
        exact r_ireturn hr dX11_would_45 ⟨Nat.zero_le _, Nat.zero_le _⟩ ⟨_, rfl, rfl⟩ (by cases h; rfl)
    · rw [if_pos (Classical.not_not.mp c8)] at h
      refine r_ldc hg dX11_would_23 kc_X11_57 ?_
      exact r_ireturn hr dX11_would_25 ⟨Nat.zero_le _, Nat.zero_le _⟩ ⟨_, rfl, rfl⟩ (by cases h; rfl)

def f_X11_wrong (this : Nat) (x1 : Int32) (X : qX) (I : qI) : Option (Int32 × qI) :=
  q_b1 (f_X2_has (this + 13) x1 I) fun v3 =>
  if v3 = 0 then
    some ((-1000000001), I)
  else
    q_b2 (f_X9_wrongFines (this + 1) x1 (nI 0) X I) fun v7 I8 =>
    some (v7, I8)
set_option maxRecDepth 100000 in
set_option maxHeartbeats 4000000 in
theorem s_X11_wrong {l : Launch} {Γ : qC} (hΓ : q_gm Γ) {X : qX} (hX : q_Lay X) {this : Nat} {x1 : Int32} (k_this : q_kd X this = some (13, 9)) {I : qI} {z : Int32 × qI} (h : f_X11_wrong this x1 X I = some z) : q_Sem l Γ (q_rm 7 0 0) yX11_wrong cX11_wrong 2 (some .int) [.ref this, .int x1] I X (some (.int z.1), z.2, X) := by
  refine q_met (by decide) (Nat.le_of_ble_eq_true rfl) (fun g hg hr => ?_)
  unfold f_X11_wrong at h
  show g 0 0 0 [(0, .ref this), (1, .int x1)] [] I X
  refine r_aload_n hg 0 dX11_wrong_0 rfl rfl ?_
  have e1 := ly_11_0 hX k_this
  refine r_getR hg dX11_wrong_1 fl_X11_10 k_this rfl e1.1 ?_
  have e2 := ly_9_2 hX e1.2
  refine r_getR hg dX11_wrong_4 fl_X11_70 e1.2 rfl e2.1 ?_
  refine r_iload_n hg 1 dX11_wrong_7 rfl rfl ?_
  obtain ⟨v3, e4, h⟩ := q_b1_some h
  refine r_cV1i hg dX11_wrong_8 mt_X2_has ml_X11_119 mv_X2_has e2.2 (s_X2_has hΓ hX e2.2 e4) (q_room (Nat.le_of_ble_eq_true rfl) (Nat.le_of_ble_eq_true rfl)) ⟨Nat.zero_le _, Nat.zero_le _⟩ (Nat.le_of_ble_eq_true rfl) ?_
  refine r_if_eq hg 26 dX11_wrong_11 (by decide) (fun c5 => ?_) (fun c5 => ?_)
  · rw [if_pos c5] at h
    refine r_ldc hg dX11_wrong_26 kc_X11_57 ?_
    exact r_ireturn hr dX11_wrong_28 ⟨Nat.zero_le _, Nat.zero_le _⟩ ⟨_, rfl, rfl⟩ (by cases h; rfl)
  · rw [if_neg c5] at h
    refine r_aload_n hg 0 dX11_wrong_14 rfl rfl ?_
    have e6 := ly_11_0 hX k_this
    refine r_getR hg dX11_wrong_15 fl_X11_10 k_this rfl e6.1 ?_
    refine r_iload_n hg 1 dX11_wrong_18 rfl rfl ?_
    refine r_iconst hg dX11_wrong_19 ci_0 ?_
    obtain ⟨v7, I8, e9, h⟩ := q_b2_some h
    refine r_cV2i hg dX11_wrong_20 mt_X9_wrongFines ml_X11_196 mv_X9_wrongFines e6.2 (s_X9_wrongFines hΓ hX e6.2 e9) (q_room (Nat.le_of_ble_eq_true rfl) (Nat.le_of_ble_eq_true rfl)) ⟨Nat.zero_le _, Nat.zero_le _⟩ (Nat.le_of_ble_eq_true rfl) ?_
    refine r_goto hg 28 dX11_wrong_23 (by decide) ?_
    exact r_ireturn hr dX11_wrong_28 ⟨Nat.zero_le _, Nat.zero_le _⟩ ⟨_, rfl, rfl⟩ (by cases h; rfl)

def f_X11_run (this : Nat) (x1 : Int32) (X : qX) (I : qI) : Option (Int32 × qI) :=
  q_b1 (f_X11_within x1 (nI 1) (nI 60)) fun v1 =>
  if v1 = 0 then
    some ((-1000000001), I)
  else
    if ((I (this + 1) 13) + x1) ≤ (nI 6999) then
      q_b1 (f_X9_goBy (this + 1) x1 (nI 0) X I) fun I7 =>
      some ((I7 (this + 1) 13), I7)
    else
      some ((-1000000003), I)
set_option maxRecDepth 100000 in
set_option maxHeartbeats 4000000 in
theorem s_X11_run {l : Launch} {Γ : qC} (hΓ : q_gm Γ) {X : qX} (hX : q_Lay X) {this : Nat} {x1 : Int32} (k_this : q_kd X this = some (13, 9)) {I : qI} {z : Int32 × qI} (h : f_X11_run this x1 X I = some z) : q_Sem l Γ (q_rm 8 0 0) yX11_run cX11_run 2 (some .int) [.ref this, .int x1] I X (some (.int z.1), z.2, X) := by
  refine q_met (by decide) (Nat.le_of_ble_eq_true rfl) (fun g hg hr => ?_)
  unfold f_X11_run at h
  show g 0 0 0 [(0, .ref this), (1, .int x1)] [] I X
  refine r_iload_n hg 1 dX11_run_0 rfl rfl ?_
  refine r_iconst hg dX11_run_1 ci_1 ?_
  refine r_bipush hg dX11_run_2 cb_60 ?_
  obtain ⟨v1, e2, h⟩ := q_b1_some h
  refine r_cS3i hg dX11_run_4 mt_X11_within ⟨ml_X11_53, mst_X11_within⟩ (s_X11_within hΓ hX e2) (q_room (Nat.le_of_ble_eq_true rfl) (Nat.le_of_ble_eq_true rfl)) ⟨Nat.zero_le _, Nat.zero_le _⟩ (Nat.le_of_ble_eq_true rfl) ?_
  refine r_if_ne hg 13 dX11_run_7 (by decide) (fun c3 => ?_) (fun c3 => ?_)
  · rw [if_neg c3] at h
    refine r_aload_n hg 0 dX11_run_13 rfl rfl ?_
    have e4 := ly_11_0 hX k_this
    refine r_getR hg dX11_run_14 fl_X11_10 k_this rfl e4.1 ?_
    refine r_getI hg dX11_run_17 fl_X11_141 e4.2 rfl ?_
    refine r_iload_n hg 1 dX11_run_20 rfl rfl ?_
    refine r_iadd hg dX11_run_21 ?_
    refine r_sipush hg dX11_run_22 cs_6999 ?_
    refine r_icmp_le hg 31 dX11_run_25 (by decide) (fun c5 => ?_) (fun c5 => ?_)
    · rw [if_pos c5] at h
      refine r_aload_n hg 0 dX11_run_31 rfl rfl ?_
      have e6 := ly_11_0 hX k_this
      refine r_getR hg dX11_run_32 fl_X11_10 k_this rfl e6.1 ?_
      refine r_iload_n hg 1 dX11_run_35 rfl rfl ?_
      refine r_iconst hg dX11_run_36 ci_0 ?_
      obtain ⟨I7, e8, h⟩ := q_b1_some h
      refine r_cV2v hg dX11_run_37 mt_X9_goBy ml_X11_151 mv_X9_goBy e6.2 (s_X9_goBy hΓ hX e6.2 e8) (q_room (Nat.le_of_ble_eq_true rfl) (Nat.le_of_ble_eq_true rfl)) ⟨Nat.zero_le _, Nat.zero_le _⟩ (Nat.le_of_ble_eq_true rfl) ?_
      refine r_aload_n hg 0 dX11_run_40 rfl rfl ?_
      have e9 := ly_11_0 hX k_this
      refine r_getR hg dX11_run_41 fl_X11_10 k_this rfl e9.1 ?_
      refine r_getI hg dX11_run_44 fl_X11_141 e9.2 rfl ?_
      exact r_ireturn hr dX11_run_47 ⟨Nat.zero_le _, Nat.zero_le _⟩ ⟨_, rfl, rfl⟩ (by cases h; rfl)
    · rw [if_neg c5] at h
      refine r_ldc hg dX11_run_28 kc_X11_114 ?_
      exact r_ireturn hr dX11_run_30 ⟨Nat.zero_le _, Nat.zero_le _⟩ ⟨_, rfl, rfl⟩ (by cases h; rfl)
  · rw [if_pos (Classical.not_not.mp c3)] at h
    refine r_ldc hg dX11_run_10 kc_X11_57 ?_
    exact r_ireturn hr dX11_run_12 ⟨Nat.zero_le _, Nat.zero_le _⟩ ⟨_, rfl, rfl⟩ (by cases h; rfl)

def f_X11_at (this : Nat) (x1 : Int32) (x2 : Int32) (X : qX) (I : qI) : Option (Int32 × qI) :=
  q_b1 (f_X11_within x1 (nI 1) (nI 7)) fun v1 =>
  if v1 = 0 then
    some ((-1000000001), I)
  else
    q_b1 (f_X11_within x2 (nI 0) (x1 - (nI 1))) fun v4 =>
    if v4 = 0 then
      some ((-1000000001), I)
    else
      q_b2 (f_X6_bestOf (this + 45) x1 I) fun v9 I10 =>
      q_b1 (f_X11_looked (some (this + 52)) x2 X I10) fun v15 =>
      some (v15, I10)
set_option maxRecDepth 100000 in
set_option maxHeartbeats 4000000 in
theorem s_X11_at {l : Launch} {Γ : qC} (hΓ : q_gm Γ) {X : qX} (hX : q_Lay X) {this : Nat} {x1 : Int32} {x2 : Int32} (k_this : q_kd X this = some (13, 9)) {I : qI} {z : Int32 × qI} (h : f_X11_at this x1 x2 X I = some z) : q_Sem l Γ (q_rm 125 0 0) yX11_at cX11_at 3 (some .int) [.ref this, .int x1, .int x2] I X (some (.int z.1), z.2, X) := by
  refine q_met (by decide) (Nat.le_of_ble_eq_true rfl) (fun g hg hr => ?_)
  unfold f_X11_at at h
  show g 0 0 0 [(0, .ref this), (1, .int x1), (2, .int x2)] [] I X
  refine r_iload_n hg 1 dX11_at_0 rfl rfl ?_
  refine r_iconst hg dX11_at_1 ci_1 ?_
  refine r_bipush hg dX11_at_2 cb_7 ?_
  obtain ⟨v1, e2, h⟩ := q_b1_some h
  refine r_cS3i hg dX11_at_4 mt_X11_within ⟨ml_X11_53, mst_X11_within⟩ (s_X11_within hΓ hX e2) (q_room (Nat.le_of_ble_eq_true rfl) (Nat.le_of_ble_eq_true rfl)) ⟨Nat.zero_le _, Nat.zero_le _⟩ (Nat.le_of_ble_eq_true rfl) ?_
  refine r_if_eq hg 21 dX11_at_7 (by decide) (fun c3 => ?_) (fun c3 => ?_)
  · rw [if_pos c3] at h
    refine r_ldc hg dX11_at_21 kc_X11_57 ?_
    exact r_ireturn hr dX11_at_23 ⟨Nat.zero_le _, Nat.zero_le _⟩ ⟨_, rfl, rfl⟩ (by cases h; rfl)
  · rw [if_neg c3] at h
    refine r_iload_n hg 2 dX11_at_10 rfl rfl ?_
    refine r_iconst hg dX11_at_11 ci_0 ?_
    refine r_iload_n hg 1 dX11_at_12 rfl rfl ?_
    refine r_iconst hg dX11_at_13 ci_1 ?_
    refine r_isub hg dX11_at_14 ?_
    obtain ⟨v4, e5, h⟩ := q_b1_some h
    refine r_cS3i hg dX11_at_15 mt_X11_within ⟨ml_X11_53, mst_X11_within⟩ (s_X11_within hΓ hX e5) (q_room (Nat.le_of_ble_eq_true rfl) (Nat.le_of_ble_eq_true rfl)) ⟨Nat.zero_le _, Nat.zero_le _⟩ (Nat.le_of_ble_eq_true rfl) ?_
    refine r_if_ne hg 24 dX11_at_18 (by decide) (fun c6 => ?_) (fun c6 => ?_)
    · rw [if_neg c6] at h
      refine r_aload_n hg 0 dX11_at_24 rfl rfl ?_
      have e7 := ly_11_0 hX k_this
      refine r_getR hg dX11_at_25 fl_X11_10 k_this rfl e7.1 ?_
      have e8 := ly_9_6 hX e7.2
      refine r_getR hg dX11_at_28 fl_X11_354 e7.2 rfl e8.1 ?_
      refine r_iload_n hg 1 dX11_at_31 rfl rfl ?_
      obtain ⟨v9, I10, e11, h⟩ := q_b2_some h
      refine r_cV1i hg dX11_at_32 mt_X6_bestOf ml_X11_360 mv_X6_bestOf e8.2 (s_X6_bestOf hΓ hX e8.2 e11) (q_room (Nat.le_of_ble_eq_true rfl) (Nat.le_of_ble_eq_true rfl)) ⟨Nat.zero_le _, Nat.zero_le _⟩ (Nat.le_of_ble_eq_true rfl) ?_
      refine r_pop hg dX11_at_35 rfl ?_
      refine r_aload_n hg 0 dX11_at_36 rfl rfl ?_
      have e12 := ly_11_0 hX k_this
      refine r_getR hg dX11_at_37 fl_X11_10 k_this rfl e12.1 ?_
      have e13 := ly_9_6 hX e12.2
      refine r_getR hg dX11_at_40 fl_X11_354 e12.2 rfl e13.1 ?_
      have e14 := ly_6_6 hX e13.2
      refine r_getR hg dX11_at_43 fl_X11_363 e13.2 rfl e14.1 ?_
      refine r_iload_n hg 2 dX11_at_46 rfl rfl ?_
      obtain ⟨v15, e16, h⟩ := q_b1_some h
      refine r_cS2i hg dX11_at_47 mt_X11_looked ⟨ml_X11_80, mst_X11_looked⟩ (s_X11_looked hΓ hX e16) (q_room (Nat.le_of_ble_eq_true rfl) (Nat.le_of_ble_eq_true rfl)) ⟨Nat.zero_le _, Nat.zero_le _⟩ (Nat.le_of_ble_eq_true rfl) ?_
      exact r_ireturn hr dX11_at_50 ⟨Nat.zero_le _, Nat.zero_le _⟩ ⟨_, rfl, rfl⟩ (by cases h; rfl)
    · rw [if_pos (Classical.not_not.mp c6)] at h
      refine r_ldc hg dX11_at_21 kc_X11_57 ?_
      exact r_ireturn hr dX11_at_23 ⟨Nat.zero_le _, Nat.zero_le _⟩ ⟨_, rfl, rfl⟩ (by cases h; rfl)

def b_X11_orderChecked_39 (this : Nat) (x1 : Int32) (x2 : Int32) (x3 : Int32) (k39 : Int32 → qI → Option (Int32 × qI)) (x5 : Int32) (I : qI) : Option (Int32 × qI) :=
  if (I (this + 53) 9) ≤ x5 then
    q_b1 (f_X11_firstWrong this x1 ((nI 2) * (I (this + 53) 9)) I) fun v6 =>
    some (v6, I)
  else
    q_b1 (q_rd I (this + 59) 8 x5) fun v12 =>
    q_b1 (q_wr I (this + 204) 60 ((nI 2) * x5) v12) fun I14 =>
    q_b1 (q_rd I14 (this + 60) 8 x5) fun v20 =>
    q_b1 (q_wr I14 (this + 204) 60 (((nI 2) * x5) + (nI 1)) v20) fun I22 =>
    k39 (x5 + (nI 1)) I22
set_option maxRecDepth 100000 in
set_option maxHeartbeats 4000000 in
theorem p_X11_orderChecked_39 {l : Launch} {Γ : qC} {g : qG} {z : Int32 × qI} {this : Nat} {x1 : Int32} {x2 : Int32} {x3 : Int32} {X : qX} (hΓ : q_gm Γ) (hg : q_Ok l Γ RX11 cX11_orderChecked 6 (q_rm 125 0 0) "orderChecked" (some .int) g) (hr : q_Rt cX11_orderChecked (some .int) (q_rm 125 0 0) (some (.int z.1), z.2, X) g) (hX : q_Lay X) (k_this : q_kd X this = some (13, 9)) {k39 : Int32 → qI → Option (Int32 × qI)} (hk39 : ∀ (x5 : Int32) (I : qI), k39 x5 I = some z → g 0 0 39 [(0, .ref this), (1, .int x1), (5, .int x5)] [] I X) (x5 : Int32) (I : qI) (h : b_X11_orderChecked_39 this x1 x2 x3 k39 x5 I = some z) : g 0 0 39 [(0, .ref this), (1, .int x1), (5, .int x5)] [] I X := by
  unfold b_X11_orderChecked_39 at h
  refine r_iload hg 2 dX11_orderChecked_39 rfl ?_
  refine r_aload_n hg 0 dX11_orderChecked_41 rfl rfl ?_
  have e1 := ly_11_0 hX k_this
  refine r_getR hg dX11_orderChecked_42 fl_X11_10 k_this rfl e1.1 ?_
  have e2 := ly_9_7 hX e1.2
  refine r_getR hg dX11_orderChecked_45 fl_X11_378 e1.2 rfl e2.1 ?_
  refine r_getI hg dX11_orderChecked_48 fl_X11_391 e2.2 rfl ?_
  refine r_icmp_ge hg 106 dX11_orderChecked_51 (by decide) (fun c3 => ?_) (fun c3 => ?_)
  · rw [if_pos c3] at h
    refine r_aload_n hg 0 dX11_orderChecked_106 rfl rfl ?_
    refine r_iload_n hg 1 dX11_orderChecked_107 rfl rfl ?_
    refine r_iconst hg dX11_orderChecked_108 ci_2 ?_
    refine r_aload_n hg 0 dX11_orderChecked_109 rfl rfl ?_
    have e4 := ly_11_0 hX k_this
    refine r_getR hg dX11_orderChecked_110 fl_X11_10 k_this rfl e4.1 ?_
    have e5 := ly_9_7 hX e4.2
    refine r_getR hg dX11_orderChecked_113 fl_X11_378 e4.2 rfl e5.1 ?_
    refine r_getI hg dX11_orderChecked_116 fl_X11_391 e5.2 rfl ?_
    refine r_imul hg dX11_orderChecked_119 ?_
    obtain ⟨v6, e7, h⟩ := q_b1_some h
    refine r_cV2i hg dX11_orderChecked_120 mt_X11_firstWrong ml_X11_404 mv_X11_firstWrong k_this (s_X11_firstWrong hΓ hX k_this e7) (q_room (Nat.le_of_ble_eq_true rfl) (Nat.le_of_ble_eq_true rfl)) ⟨Nat.zero_le _, Nat.zero_le _⟩ (Nat.le_of_ble_eq_true rfl) ?_
    exact r_ireturn hr dX11_orderChecked_123 ⟨Nat.zero_le _, Nat.zero_le _⟩ ⟨_, rfl, rfl⟩ (by cases h; rfl)
  · rw [if_neg c3] at h
    refine r_aload_n hg 0 dX11_orderChecked_54 rfl rfl ?_
    have e8 := ly_11_6 hX k_this
    refine r_getR hg dX11_orderChecked_55 fl_X11_40 k_this rfl e8.1 ?_
    refine r_iconst hg dX11_orderChecked_58 ci_2 ?_
    refine r_iload hg 2 dX11_orderChecked_59 rfl ?_
    refine r_imul hg dX11_orderChecked_61 ?_
    refine r_aload_n hg 0 dX11_orderChecked_62 rfl rfl ?_
    have e9 := ly_11_0 hX k_this
    refine r_getR hg dX11_orderChecked_63 fl_X11_10 k_this rfl e9.1 ?_
    have e10 := ly_9_7 hX e9.2
    refine r_getR hg dX11_orderChecked_66 fl_X11_378 e9.2 rfl e10.1 ?_
    have e11 := ly_4_5 hX e10.2
    refine r_getR hg dX11_orderChecked_69 fl_X11_392 e10.2 rfl e11.1 ?_
    refine r_iload hg 2 dX11_orderChecked_72 rfl ?_
    obtain ⟨v12, e13, h⟩ := q_b1_some h
    refine r_iald hg dX11_orderChecked_74 e11.2 e13 ?_
    obtain ⟨I14, e15, h⟩ := q_b1_some h
    refine r_iast hg dX11_orderChecked_75 e8.2 e15 ?_
    refine r_aload_n hg 0 dX11_orderChecked_76 rfl rfl ?_
    have e16 := ly_11_6 hX k_this
    refine r_getR hg dX11_orderChecked_77 fl_X11_40 k_this rfl e16.1 ?_
    refine r_iconst hg dX11_orderChecked_80 ci_2 ?_
    refine r_iload hg 2 dX11_orderChecked_81 rfl ?_
    refine r_imul hg dX11_orderChecked_83 ?_
    refine r_iconst hg dX11_orderChecked_84 ci_1 ?_
    refine r_iadd hg dX11_orderChecked_85 ?_
    refine r_aload_n hg 0 dX11_orderChecked_86 rfl rfl ?_
    have e17 := ly_11_0 hX k_this
    refine r_getR hg dX11_orderChecked_87 fl_X11_10 k_this rfl e17.1 ?_
    have e18 := ly_9_7 hX e17.2
    refine r_getR hg dX11_orderChecked_90 fl_X11_378 e17.2 rfl e18.1 ?_
    have e19 := ly_4_6 hX e18.2
    refine r_getR hg dX11_orderChecked_93 fl_X11_401 e18.2 rfl e19.1 ?_
    refine r_iload hg 2 dX11_orderChecked_96 rfl ?_
    obtain ⟨v20, e21, h⟩ := q_b1_some h
    refine r_iald hg dX11_orderChecked_98 e19.2 e21 ?_
    obtain ⟨I22, e23, h⟩ := q_b1_some h
    refine r_iast hg dX11_orderChecked_99 e16.2 e23 ?_
    refine r_iinc hg 2 (v := (x5 + (nI 1))) (L' := [(5, .int (x5 + (nI 1))), (0, .ref this), (1, .int x1)]) dX11_orderChecked_100 rfl (by rw [ci_1]) (by decide) rfl ?_
    refine r_goto hg 39 dX11_orderChecked_103 (by decide) ?_
    refine r_sub hg [1, 2, 0] rfl ?_
    exact hk39 _ _ h
theorem pl_X11_orderChecked_39 {l : Launch} {Γ : qC} {g : qG} {z : Int32 × qI} {this : Nat} {x1 : Int32} {x2 : Int32} {x3 : Int32} {X : qX} (hΓ : q_gm Γ) (hg : q_Ok l Γ RX11 cX11_orderChecked 6 (q_rm 125 0 0) "orderChecked" (some .int) g) (hr : q_Rt cX11_orderChecked (some .int) (q_rm 125 0 0) (some (.int z.1), z.2, X) g) (hX : q_Lay X) (k_this : q_kd X this = some (13, 9)) : ∀ (n : Nat) (x5 : Int32) (I : qI), q_fix (fun _ _ => none) (b_X11_orderChecked_39 this x1 x2 x3) n x5 I = some z → g 0 0 39 [(0, .ref this), (1, .int x1), (5, .int x5)] [] I X := by
  intro n
  induction n with
  | zero =>
    intro x5 I h
    cases (show (none : Option (Int32 × qI)) = some z from h)
  | succ n ih =>
    intro x5 I h
    exact p_X11_orderChecked_39 hΓ hg hr hX k_this ih _ _ h
def f_X11_orderChecked (this : Nat) (x1 : Int32) (x2 : Int32) (x3 : Int32) (I : qI) : Option (Int32 × qI) :=
  q_b1 (f_X11_isFunded x2 x3) fun v1 =>
  if v1 = 0 then
    some ((-1000000001), I)
  else
    q_b2 (f_X4_found (this + 53) x2 x3 (nI 20000) I) fun v6 I7 =>
    if 0 ≤ v6 then
      q_fix (fun _ _ => none) (b_X11_orderChecked_39 this x1 x2 x3) q_fu (nI 0) I7
    else
      some (v6, I7)
set_option maxRecDepth 100000 in
set_option maxHeartbeats 4000000 in
theorem s_X11_orderChecked {l : Launch} {Γ : qC} (hΓ : q_gm Γ) {X : qX} (hX : q_Lay X) {this : Nat} {x1 : Int32} {x2 : Int32} {x3 : Int32} (k_this : q_kd X this = some (13, 9)) {I : qI} {z : Int32 × qI} (h : f_X11_orderChecked this x1 x2 x3 I = some z) : q_Sem l Γ (q_rm 125 0 0) yX11_orderChecked cX11_orderChecked 6 (some .int) [.ref this, .int x1, .int x2, .int x3] I X (some (.int z.1), z.2, X) := by
  refine q_met (by decide) (Nat.le_of_ble_eq_true rfl) (fun g hg hr => ?_)
  unfold f_X11_orderChecked at h
  show g 0 0 0 [(0, .ref this), (1, .int x1), (2, .int x2), (3, .int x3)] [] I X
  refine r_iload_n hg 2 dX11_orderChecked_0 rfl rfl ?_
  refine r_iload_n hg 3 dX11_orderChecked_1 rfl rfl ?_
  obtain ⟨v1, e2, h⟩ := q_b1_some h
  refine r_cS2i hg dX11_orderChecked_2 mt_X11_isFunded ⟨ml_X11_385, mst_X11_isFunded⟩ (s_X11_isFunded hΓ hX e2) (q_room (Nat.le_of_ble_eq_true rfl) (Nat.le_of_ble_eq_true rfl)) ⟨Nat.zero_le _, Nat.zero_le _⟩ (Nat.le_of_ble_eq_true rfl) ?_
  refine r_if_ne hg 11 dX11_orderChecked_5 (by decide) (fun c3 => ?_) (fun c3 => ?_)
  · rw [if_neg c3] at h
    refine r_aload_n hg 0 dX11_orderChecked_11 rfl rfl ?_
    have e4 := ly_11_0 hX k_this
    refine r_getR hg dX11_orderChecked_12 fl_X11_10 k_this rfl e4.1 ?_
    have e5 := ly_9_7 hX e4.2
    refine r_getR hg dX11_orderChecked_15 fl_X11_378 e4.2 rfl e5.1 ?_
    refine r_iload_n hg 2 dX11_orderChecked_18 rfl rfl ?_
    refine r_iload_n hg 3 dX11_orderChecked_19 rfl rfl ?_
    refine r_sipush hg dX11_orderChecked_20 cs_20000 ?_
    obtain ⟨v6, I7, e8, h⟩ := q_b2_some h
    refine r_cV3i hg dX11_orderChecked_23 mt_X4_found ml_X11_388 mv_X4_found e5.2 (s_X4_found hΓ hX e5.2 e8) (q_room (Nat.le_of_ble_eq_true rfl) (Nat.le_of_ble_eq_true rfl)) ⟨Nat.zero_le _, Nat.zero_le _⟩ (Nat.le_of_ble_eq_true rfl) ?_
    refine r_istore hg (L' := [(4, .int v6), (0, .ref this), (1, .int x1), (2, .int x2), (3, .int x3)]) dX11_orderChecked_26 (by decide) rfl ?_
    refine r_iload hg 0 dX11_orderChecked_28 rfl ?_
    refine r_if_ge hg 36 dX11_orderChecked_30 (by decide) (fun c9 => ?_) (fun c9 => ?_)
    · rw [if_pos c9] at h
      refine r_iconst hg dX11_orderChecked_36 ci_0 ?_
      refine r_istore hg (L' := [(5, .int (nI 0)), (4, .int v6), (0, .ref this), (1, .int x1), (2, .int x2), (3, .int x3)]) dX11_orderChecked_37 (by decide) rfl ?_
      refine r_sub hg [2, 3, 0] rfl ?_
      exact pl_X11_orderChecked_39 hΓ hg hr hX k_this _ _ _ h
    · rw [if_neg c9] at h
      refine r_iload hg 0 dX11_orderChecked_33 rfl ?_
      exact r_ireturn hr dX11_orderChecked_35 ⟨Nat.zero_le _, Nat.zero_le _⟩ ⟨_, rfl, rfl⟩ (by cases h; rfl)
  · rw [if_pos (Classical.not_not.mp c3)] at h
    refine r_ldc hg dX11_orderChecked_8 kc_X11_57 ?_
    exact r_ireturn hr dX11_orderChecked_10 ⟨Nat.zero_le _, Nat.zero_le _⟩ ⟨_, rfl, rfl⟩ (by cases h; rfl)

def f_X11_plan (this : Nat) (x1 : Int32) (x2 : Int32) (x3 : Int32) (I : qI) : Option (Int32 × qI) :=
  q_b1 (f_X11_isFunded x1 x2) fun v1 =>
  if v1 = 0 then
    some ((-1000000001), I)
  else
    q_b1 (f_X11_within x3 (nI 1) (nI 20000)) fun v4 =>
    if v4 = 0 then
      some ((-1000000001), I)
    else
      q_b2 (f_X4_found (this + 53) x1 x2 x3 I) fun v9 I10 =>
      some (v9, I10)
set_option maxRecDepth 100000 in
set_option maxHeartbeats 4000000 in
theorem s_X11_plan {l : Launch} {Γ : qC} (hΓ : q_gm Γ) {X : qX} (hX : q_Lay X) {this : Nat} {x1 : Int32} {x2 : Int32} {x3 : Int32} (k_this : q_kd X this = some (13, 9)) {I : qI} {z : Int32 × qI} (h : f_X11_plan this x1 x2 x3 I = some z) : q_Sem l Γ (q_rm 125 0 0) yX11_plan cX11_plan 4 (some .int) [.ref this, .int x1, .int x2, .int x3] I X (some (.int z.1), z.2, X) := by
  refine q_met (by decide) (Nat.le_of_ble_eq_true rfl) (fun g hg hr => ?_)
  unfold f_X11_plan at h
  show g 0 0 0 [(0, .ref this), (1, .int x1), (2, .int x2), (3, .int x3)] [] I X
  refine r_iload_n hg 1 dX11_plan_0 rfl rfl ?_
  refine r_iload_n hg 2 dX11_plan_1 rfl rfl ?_
  obtain ⟨v1, e2, h⟩ := q_b1_some h
  refine r_cS2i hg dX11_plan_2 mt_X11_isFunded ⟨ml_X11_385, mst_X11_isFunded⟩ (s_X11_isFunded hΓ hX e2) (q_room (Nat.le_of_ble_eq_true rfl) (Nat.le_of_ble_eq_true rfl)) ⟨Nat.zero_le _, Nat.zero_le _⟩ (Nat.le_of_ble_eq_true rfl) ?_
  refine r_if_eq hg 19 dX11_plan_5 (by decide) (fun c3 => ?_) (fun c3 => ?_)
  · rw [if_pos c3] at h
    refine r_ldc hg dX11_plan_19 kc_X11_57 ?_
    exact r_ireturn hr dX11_plan_21 ⟨Nat.zero_le _, Nat.zero_le _⟩ ⟨_, rfl, rfl⟩ (by cases h; rfl)
  · rw [if_neg c3] at h
    refine r_iload_n hg 3 dX11_plan_8 rfl rfl ?_
    refine r_iconst hg dX11_plan_9 ci_1 ?_
    refine r_sipush hg dX11_plan_10 cs_20000 ?_
    obtain ⟨v4, e5, h⟩ := q_b1_some h
    refine r_cS3i hg dX11_plan_13 mt_X11_within ⟨ml_X11_53, mst_X11_within⟩ (s_X11_within hΓ hX e5) (q_room (Nat.le_of_ble_eq_true rfl) (Nat.le_of_ble_eq_true rfl)) ⟨Nat.zero_le _, Nat.zero_le _⟩ (Nat.le_of_ble_eq_true rfl) ?_
    refine r_if_ne hg 22 dX11_plan_16 (by decide) (fun c6 => ?_) (fun c6 => ?_)
    · rw [if_neg c6] at h
      refine r_aload_n hg 0 dX11_plan_22 rfl rfl ?_
      have e7 := ly_11_0 hX k_this
      refine r_getR hg dX11_plan_23 fl_X11_10 k_this rfl e7.1 ?_
      have e8 := ly_9_7 hX e7.2
      refine r_getR hg dX11_plan_26 fl_X11_378 e7.2 rfl e8.1 ?_
      refine r_iload_n hg 1 dX11_plan_29 rfl rfl ?_
      refine r_iload_n hg 2 dX11_plan_30 rfl rfl ?_
      refine r_iload_n hg 3 dX11_plan_31 rfl rfl ?_
      obtain ⟨v9, I10, e11, h⟩ := q_b2_some h
      refine r_cV3i hg dX11_plan_32 mt_X4_found ml_X11_388 mv_X4_found e8.2 (s_X4_found hΓ hX e8.2 e11) (q_room (Nat.le_of_ble_eq_true rfl) (Nat.le_of_ble_eq_true rfl)) ⟨Nat.zero_le _, Nat.zero_le _⟩ (Nat.le_of_ble_eq_true rfl) ?_
      exact r_ireturn hr dX11_plan_35 ⟨Nat.zero_le _, Nat.zero_le _⟩ ⟨_, rfl, rfl⟩ (by cases h; rfl)
    · rw [if_pos (Classical.not_not.mp c6)] at h
      refine r_ldc hg dX11_plan_19 kc_X11_57 ?_
      exact r_ireturn hr dX11_plan_21 ⟨Nat.zero_le _, Nat.zero_le _⟩ ⟨_, rfl, rfl⟩ (by cases h; rfl)

def f_X11_planned (this : Nat) (x1 : Int32) (x2 : Int32) (x3 : Int32) (X : qX) (I : qI) : Option (Int32 × qI) :=
  q_b1 (f_X11_isFunded x1 x2) fun v1 =>
  if v1 = 0 then
    some ((-1000000001), I)
  else
    if 0 ≤ x3 then
      q_b2 (f_X4_found (this + 53) x1 x2 (nI 20000) I) fun v7 I8 =>
      if 0 ≤ v7 then
        if (I8 (this + 53) 9) ≤ x3 then
          some ((-1000000005), I8)
        else
          q_b1 (f_X11_looked (some (this + 59)) x3 X I8) fun v17 =>
          some (v17, I8)
      else
        some (v7, I8)
    else
      some ((-1000000001), I)
set_option maxRecDepth 100000 in
set_option maxHeartbeats 4000000 in
theorem s_X11_planned {l : Launch} {Γ : qC} (hΓ : q_gm Γ) {X : qX} (hX : q_Lay X) {this : Nat} {x1 : Int32} {x2 : Int32} {x3 : Int32} (k_this : q_kd X this = some (13, 9)) {I : qI} {z : Int32 × qI} (h : f_X11_planned this x1 x2 x3 X I = some z) : q_Sem l Γ (q_rm 125 0 0) yX11_planned cX11_planned 5 (some .int) [.ref this, .int x1, .int x2, .int x3] I X (some (.int z.1), z.2, X) := by
  refine q_met (by decide) (Nat.le_of_ble_eq_true rfl) (fun g hg hr => ?_)
  unfold f_X11_planned at h
  show g 0 0 0 [(0, .ref this), (1, .int x1), (2, .int x2), (3, .int x3)] [] I X
  refine r_iload_n hg 1 dX11_planned_0 rfl rfl ?_
  refine r_iload_n hg 2 dX11_planned_1 rfl rfl ?_
  obtain ⟨v1, e2, h⟩ := q_b1_some h
  refine r_cS2i hg dX11_planned_2 mt_X11_isFunded ⟨ml_X11_385, mst_X11_isFunded⟩ (s_X11_isFunded hΓ hX e2) (q_room (Nat.le_of_ble_eq_true rfl) (Nat.le_of_ble_eq_true rfl)) ⟨Nat.zero_le _, Nat.zero_le _⟩ (Nat.le_of_ble_eq_true rfl) ?_
  refine r_if_eq hg 12 dX11_planned_5 (by decide) (fun c3 => ?_) (fun c3 => ?_)
  · rw [if_pos c3] at h
    refine r_ldc hg dX11_planned_12 kc_X11_57 ?_
    exact r_ireturn hr dX11_planned_14 ⟨Nat.zero_le _, Nat.zero_le _⟩ ⟨_, rfl, rfl⟩ (by cases h; rfl)
  · rw [if_neg c3] at h
    refine r_iload_n hg 3 dX11_planned_8 rfl rfl ?_
    refine r_if_ge hg 15 dX11_planned_9 (by decide) (fun c4 => ?_) (fun c4 => ?_)
    · rw [if_pos c4] at h
      refine r_aload_n hg 0 dX11_planned_15 rfl rfl ?_
      have e5 := ly_11_0 hX k_this
      refine r_getR hg dX11_planned_16 fl_X11_10 k_this rfl e5.1 ?_
      have e6 := ly_9_7 hX e5.2
      refine r_getR hg dX11_planned_19 fl_X11_378 e5.2 rfl e6.1 ?_
      refine r_iload_n hg 1 dX11_planned_22 rfl rfl ?_
      refine r_iload_n hg 2 dX11_planned_23 rfl rfl ?_
      refine r_sipush hg dX11_planned_24 cs_20000 ?_
      obtain ⟨v7, I8, e9, h⟩ := q_b2_some h
      refine r_cV3i hg dX11_planned_27 mt_X4_found ml_X11_388 mv_X4_found e6.2 (s_X4_found hΓ hX e6.2 e9) (q_room (Nat.le_of_ble_eq_true rfl) (Nat.le_of_ble_eq_true rfl)) ⟨Nat.zero_le _, Nat.zero_le _⟩ (Nat.le_of_ble_eq_true rfl) ?_
      refine r_istore hg (L' := [(4, .int v7), (0, .ref this), (1, .int x1), (2, .int x2), (3, .int x3)]) dX11_planned_30 (by decide) rfl ?_
      refine r_iload hg 0 dX11_planned_32 rfl ?_
      refine r_if_ge hg 40 dX11_planned_34 (by decide) (fun c10 => ?_) (fun c10 => ?_)
      · rw [if_pos c10] at h
        refine r_iload_n hg 4 dX11_planned_40 rfl rfl ?_
        refine r_aload_n hg 1 dX11_planned_41 rfl rfl ?_
        have e11 := ly_11_0 hX k_this
        refine r_getR hg dX11_planned_42 fl_X11_10 k_this rfl e11.1 ?_
        have e12 := ly_9_7 hX e11.2
        refine r_getR hg dX11_planned_45 fl_X11_378 e11.2 rfl e12.1 ?_
        refine r_getI hg dX11_planned_48 fl_X11_391 e12.2 rfl ?_
        refine r_icmp_ge hg 71 dX11_planned_51 (by decide) (fun c13 => ?_) (fun c13 => ?_)
        · rw [if_pos c13] at h
          refine r_ldc hg dX11_planned_71 kc_X11_130 ?_
          exact r_ireturn hr dX11_planned_73 ⟨Nat.zero_le _, Nat.zero_le _⟩ ⟨_, rfl, rfl⟩ (by cases h; rfl)
        · rw [if_neg c13] at h
          refine r_aload_n hg 1 dX11_planned_54 rfl rfl ?_
          have e14 := ly_11_0 hX k_this
          refine r_getR hg dX11_planned_55 fl_X11_10 k_this rfl e14.1 ?_
          have e15 := ly_9_7 hX e14.2
          refine r_getR hg dX11_planned_58 fl_X11_378 e14.2 rfl e15.1 ?_
          have e16 := ly_4_5 hX e15.2
          refine r_getR hg dX11_planned_61 fl_X11_392 e15.2 rfl e16.1 ?_
          refine r_iload_n hg 4 dX11_planned_64 rfl rfl ?_
          obtain ⟨v17, e18, h⟩ := q_b1_some h
          refine r_cS2i hg dX11_planned_65 mt_X11_looked ⟨ml_X11_80, mst_X11_looked⟩ (s_X11_looked hΓ hX e18) (q_room (Nat.le_of_ble_eq_true rfl) (Nat.le_of_ble_eq_true rfl)) ⟨Nat.zero_le _, Nat.zero_le _⟩ (Nat.le_of_ble_eq_true rfl) ?_
          refine r_goto hg 73 dX11_planned_68 (by decide) ?_
          exact r_ireturn hr dX11_planned_73 ⟨Nat.zero_le _, Nat.zero_le _⟩ ⟨_, rfl, rfl⟩ (by cases h; rfl)
      · rw [if_neg c10] at h
        refine r_iload hg 0 dX11_planned_37 rfl ?_
        exact r_ireturn hr dX11_planned_39 ⟨Nat.zero_le _, Nat.zero_le _⟩ ⟨_, rfl, rfl⟩ (by cases h; rfl)
    · rw [if_neg c4] at h
      refine r_ldc hg dX11_planned_12 kc_X11_57 ?_
      exact r_ireturn hr dX11_planned_14 ⟨Nat.zero_le _, Nat.zero_le _⟩ ⟨_, rfl, rfl⟩ (by cases h; rfl)

def f_X11_seen (this : Nat) (x1 : Int32) (I : qI) : Option (Int32 × qI) :=
  q_b1 (f_X11_within x1 (nI 1) (nI 7)) fun v1 =>
  if v1 = 0 then
    some ((-1000000001), I)
  else
    q_b2 (f_X6_bestOf (this + 45) x1 I) fun v6 I7 =>
    some (v6, I7)
set_option maxRecDepth 100000 in
set_option maxHeartbeats 4000000 in
theorem s_X11_seen {l : Launch} {Γ : qC} (hΓ : q_gm Γ) {X : qX} (hX : q_Lay X) {this : Nat} {x1 : Int32} (k_this : q_kd X this = some (13, 9)) {I : qI} {z : Int32 × qI} (h : f_X11_seen this x1 I = some z) : q_Sem l Γ (q_rm 125 0 0) yX11_seen cX11_seen 2 (some .int) [.ref this, .int x1] I X (some (.int z.1), z.2, X) := by
  refine q_met (by decide) (Nat.le_of_ble_eq_true rfl) (fun g hg hr => ?_)
  unfold f_X11_seen at h
  show g 0 0 0 [(0, .ref this), (1, .int x1)] [] I X
  refine r_iload_n hg 1 dX11_seen_0 rfl rfl ?_
  refine r_iconst hg dX11_seen_1 ci_1 ?_
  refine r_bipush hg dX11_seen_2 cb_7 ?_
  obtain ⟨v1, e2, h⟩ := q_b1_some h
  refine r_cS3i hg dX11_seen_4 mt_X11_within ⟨ml_X11_53, mst_X11_within⟩ (s_X11_within hΓ hX e2) (q_room (Nat.le_of_ble_eq_true rfl) (Nat.le_of_ble_eq_true rfl)) ⟨Nat.zero_le _, Nat.zero_le _⟩ (Nat.le_of_ble_eq_true rfl) ?_
  refine r_if_eq hg 24 dX11_seen_7 (by decide) (fun c3 => ?_) (fun c3 => ?_)
  · rw [if_pos c3] at h
    refine r_ldc hg dX11_seen_24 kc_X11_57 ?_
    exact r_ireturn hr dX11_seen_26 ⟨Nat.zero_le _, Nat.zero_le _⟩ ⟨_, rfl, rfl⟩ (by cases h; rfl)
  · rw [if_neg c3] at h
    refine r_aload_n hg 0 dX11_seen_10 rfl rfl ?_
    have e4 := ly_11_0 hX k_this
    refine r_getR hg dX11_seen_11 fl_X11_10 k_this rfl e4.1 ?_
    have e5 := ly_9_6 hX e4.2
    refine r_getR hg dX11_seen_14 fl_X11_354 e4.2 rfl e5.1 ?_
    refine r_iload_n hg 1 dX11_seen_17 rfl rfl ?_
    obtain ⟨v6, I7, e8, h⟩ := q_b2_some h
    refine r_cV1i hg dX11_seen_18 mt_X6_bestOf ml_X11_360 mv_X6_bestOf e5.2 (s_X6_bestOf hΓ hX e5.2 e8) (q_room (Nat.le_of_ble_eq_true rfl) (Nat.le_of_ble_eq_true rfl)) ⟨Nat.zero_le _, Nat.zero_le _⟩ (Nat.le_of_ble_eq_true rfl) ?_
    refine r_goto hg 26 dX11_seen_21 (by decide) ?_
    exact r_ireturn hr dX11_seen_26 ⟨Nat.zero_le _, Nat.zero_le _⟩ ⟨_, rfl, rfl⟩ (by cases h; rfl)
