theorem dX9_earned_0 : q_at cX9_earned 0 (.aload_n 0) 1 1 := ⟨by decide +kernel, rfl⟩
theorem dX9_earned_1 : q_at cX9_earned 1 (.getfield 35) 3 4 := ⟨by decide +kernel, rfl⟩
theorem dX9_earned_4 : q_at cX9_earned 4 (.getfield 131) 3 7 := ⟨by decide +kernel, rfl⟩
theorem dX9_earned_7 : q_at cX9_earned 7 (.aload_n 0) 1 8 := ⟨by decide +kernel, rfl⟩
theorem dX9_earned_8 : q_at cX9_earned 8 (.getfield 28) 3 11 := ⟨by decide +kernel, rfl⟩
theorem dX9_earned_11 : q_at cX9_earned 11 (.getfield 122) 3 14 := ⟨by decide +kernel, rfl⟩
theorem dX9_earned_14 : q_at cX9_earned 14 (.iload_n 1) 1 15 := ⟨by decide +kernel, rfl⟩
theorem dX9_earned_15 : q_at cX9_earned 15 (.iaload) 1 16 := ⟨by decide +kernel, rfl⟩
theorem dX9_earned_16 : q_at cX9_earned 16 (.iaload) 1 17 := ⟨by decide +kernel, rfl⟩
theorem dX9_earned_17 : q_at cX9_earned 17 (.ireturn) 1 18 := ⟨by decide +kernel, rfl⟩
theorem dX9_owed_0 : q_at cX9_owed 0 (.aload_n 0) 1 1 := ⟨by decide +kernel, rfl⟩
theorem dX9_owed_1 : q_at cX9_owed 1 (.getfield 35) 3 4 := ⟨by decide +kernel, rfl⟩
theorem dX9_owed_4 : q_at cX9_owed 4 (.getfield 131) 3 7 := ⟨by decide +kernel, rfl⟩
theorem dX9_owed_7 : q_at cX9_owed 7 (.aload_n 0) 1 8 := ⟨by decide +kernel, rfl⟩
theorem dX9_owed_8 : q_at cX9_owed 8 (.getfield 28) 3 11 := ⟨by decide +kernel, rfl⟩
theorem dX9_owed_11 : q_at cX9_owed 11 (.getfield 128) 3 14 := ⟨by decide +kernel, rfl⟩
theorem dX9_owed_14 : q_at cX9_owed 14 (.iload_n 1) 1 15 := ⟨by decide +kernel, rfl⟩
theorem dX9_owed_15 : q_at cX9_owed 15 (.iaload) 1 16 := ⟨by decide +kernel, rfl⟩
theorem dX9_owed_16 : q_at cX9_owed 16 (.iaload) 1 17 := ⟨by decide +kernel, rfl⟩
theorem dX9_owed_17 : q_at cX9_owed 17 (.ireturn) 1 18 := ⟨by decide +kernel, rfl⟩
theorem dX9_allEarned_0 : q_at cX9_allEarned 0 (.iconst 0) 1 1 := ⟨by decide +kernel, rfl⟩
theorem dX9_allEarned_1 : q_at cX9_allEarned 1 (.istore_n 1) 1 2 := ⟨by decide +kernel, rfl⟩
theorem dX9_allEarned_2 : q_at cX9_allEarned 2 (.iconst 0) 1 3 := ⟨by decide +kernel, rfl⟩
theorem dX9_allEarned_3 : q_at cX9_allEarned 3 (.istore_n 2) 1 4 := ⟨by decide +kernel, rfl⟩
theorem dX9_allEarned_4 : q_at cX9_allEarned 4 (.iload_n 2) 1 5 := ⟨by decide +kernel, rfl⟩
theorem dX9_allEarned_5 : q_at cX9_allEarned 5 (.aload_n 0) 1 6 := ⟨by decide +kernel, rfl⟩
theorem dX9_allEarned_6 : q_at cX9_allEarned 6 (.getfield 28) 3 9 := ⟨by decide +kernel, rfl⟩
theorem dX9_allEarned_9 : q_at cX9_allEarned 9 (.getfield 134) 3 12 := ⟨by decide +kernel, rfl⟩
theorem dX9_allEarned_12 : q_at cX9_allEarned 12 (.if_icmp .ge 17) 3 15 := ⟨by decide +kernel, rfl⟩
theorem dX9_allEarned_15 : q_at cX9_allEarned 15 (.iload_n 1) 1 16 := ⟨by decide +kernel, rfl⟩
theorem dX9_allEarned_16 : q_at cX9_allEarned 16 (.aload_n 0) 1 17 := ⟨by decide +kernel, rfl⟩
theorem dX9_allEarned_17 : q_at cX9_allEarned 17 (.iload_n 2) 1 18 := ⟨by decide +kernel, rfl⟩
theorem dX9_allEarned_18 : q_at cX9_allEarned 18 (.invokevirtual 137) 3 21 := ⟨by decide +kernel, rfl⟩
theorem dX9_allEarned_21 : q_at cX9_allEarned 21 (.iadd) 1 22 := ⟨by decide +kernel, rfl⟩
theorem dX9_allEarned_22 : q_at cX9_allEarned 22 (.istore_n 1) 1 23 := ⟨by decide +kernel, rfl⟩
theorem dX9_allEarned_23 : q_at cX9_allEarned 23 (.iinc 2 1) 3 26 := ⟨by decide +kernel, rfl⟩
theorem dX9_allEarned_26 : q_at cX9_allEarned 26 (.goto (-22)) 3 29 := ⟨by decide +kernel, rfl⟩
theorem dX9_allEarned_29 : q_at cX9_allEarned 29 (.iload_n 1) 1 30 := ⟨by decide +kernel, rfl⟩
theorem dX9_allEarned_30 : q_at cX9_allEarned 30 (.ireturn) 1 31 := ⟨by decide +kernel, rfl⟩
theorem dX9_allOwed_0 : q_at cX9_allOwed 0 (.iconst 0) 1 1 := ⟨by decide +kernel, rfl⟩
theorem dX9_allOwed_1 : q_at cX9_allOwed 1 (.istore_n 1) 1 2 := ⟨by decide +kernel, rfl⟩
theorem dX9_allOwed_2 : q_at cX9_allOwed 2 (.iconst 0) 1 3 := ⟨by decide +kernel, rfl⟩
theorem dX9_allOwed_3 : q_at cX9_allOwed 3 (.istore_n 2) 1 4 := ⟨by decide +kernel, rfl⟩
theorem dX9_allOwed_4 : q_at cX9_allOwed 4 (.iload_n 2) 1 5 := ⟨by decide +kernel, rfl⟩
theorem dX9_allOwed_5 : q_at cX9_allOwed 5 (.aload_n 0) 1 6 := ⟨by decide +kernel, rfl⟩
theorem dX9_allOwed_6 : q_at cX9_allOwed 6 (.getfield 28) 3 9 := ⟨by decide +kernel, rfl⟩
theorem dX9_allOwed_9 : q_at cX9_allOwed 9 (.getfield 134) 3 12 := ⟨by decide +kernel, rfl⟩
theorem dX9_allOwed_12 : q_at cX9_allOwed 12 (.if_icmp .ge 17) 3 15 := ⟨by decide +kernel, rfl⟩
theorem dX9_allOwed_15 : q_at cX9_allOwed 15 (.iload_n 1) 1 16 := ⟨by decide +kernel, rfl⟩
theorem dX9_allOwed_16 : q_at cX9_allOwed 16 (.aload_n 0) 1 17 := ⟨by decide +kernel, rfl⟩
theorem dX9_allOwed_17 : q_at cX9_allOwed 17 (.iload_n 2) 1 18 := ⟨by decide +kernel, rfl⟩
theorem dX9_allOwed_18 : q_at cX9_allOwed 18 (.invokevirtual 141) 3 21 := ⟨by decide +kernel, rfl⟩
theorem dX9_allOwed_21 : q_at cX9_allOwed 21 (.iadd) 1 22 := ⟨by decide +kernel, rfl⟩
theorem dX9_allOwed_22 : q_at cX9_allOwed 22 (.istore_n 1) 1 23 := ⟨by decide +kernel, rfl⟩
theorem dX9_allOwed_23 : q_at cX9_allOwed 23 (.iinc 2 1) 3 26 := ⟨by decide +kernel, rfl⟩
theorem dX9_allOwed_26 : q_at cX9_allOwed 26 (.goto (-22)) 3 29 := ⟨by decide +kernel, rfl⟩
theorem dX9_allOwed_29 : q_at cX9_allOwed 29 (.iload_n 1) 1 30 := ⟨by decide +kernel, rfl⟩
theorem dX9_allOwed_30 : q_at cX9_allOwed 30 (.ireturn) 1 31 := ⟨by decide +kernel, rfl⟩
theorem dX9_companyLasts_0 : q_at cX9_companyLasts 0 (.aload_n 0) 1 1 := ⟨by decide +kernel, rfl⟩
theorem dX9_companyLasts_1 : q_at cX9_companyLasts 1 (.getfield 67) 3 4 := ⟨by decide +kernel, rfl⟩
theorem dX9_companyLasts_4 : q_at cX9_companyLasts 4 (.iconst 2) 1 5 := ⟨by decide +kernel, rfl⟩
theorem dX9_companyLasts_5 : q_at cX9_companyLasts 5 (.iaload) 1 6 := ⟨by decide +kernel, rfl⟩
theorem dX9_companyLasts_6 : q_at cX9_companyLasts 6 (.istore_n 2) 1 7 := ⟨by decide +kernel, rfl⟩
theorem dX9_companyLasts_7 : q_at cX9_companyLasts 7 (.iconst 0) 1 8 := ⟨by decide +kernel, rfl⟩
theorem dX9_companyLasts_8 : q_at cX9_companyLasts 8 (.istore_n 3) 1 9 := ⟨by decide +kernel, rfl⟩
theorem dX9_companyLasts_9 : q_at cX9_companyLasts 9 (.iload_n 3) 1 10 := ⟨by decide +kernel, rfl⟩
theorem dX9_companyLasts_10 : q_at cX9_companyLasts 10 (.bipush 8) 2 12 := ⟨by decide +kernel, rfl⟩
theorem dX9_companyLasts_12 : q_at cX9_companyLasts 12 (.if_icmp .ge 26) 3 15 := ⟨by decide +kernel, rfl⟩
theorem dX9_companyLasts_15 : q_at cX9_companyLasts 15 (.iload_n 1) 1 16 := ⟨by decide +kernel, rfl⟩
theorem dX9_companyLasts_16 : q_at cX9_companyLasts 16 (.iload_n 3) 1 17 := ⟨by decide +kernel, rfl⟩
theorem dX9_companyLasts_17 : q_at cX9_companyLasts 17 (.ishr) 1 18 := ⟨by decide +kernel, rfl⟩
theorem dX9_companyLasts_18 : q_at cX9_companyLasts 18 (.iconst 1) 1 19 := ⟨by decide +kernel, rfl⟩
theorem dX9_companyLasts_19 : q_at cX9_companyLasts 19 (.iand) 1 20 := ⟨by decide +kernel, rfl⟩
theorem dX9_companyLasts_20 : q_at cX9_companyLasts 20 (.ifCond .ne 12) 3 23 := ⟨by decide +kernel, rfl⟩
theorem dX9_companyLasts_23 : q_at cX9_companyLasts 23 (.iload_n 2) 1 24 := ⟨by decide +kernel, rfl⟩
theorem dX9_companyLasts_24 : q_at cX9_companyLasts 24 (.aload_n 0) 1 25 := ⟨by decide +kernel, rfl⟩
theorem dX9_companyLasts_25 : q_at cX9_companyLasts 25 (.getfield 80) 3 28 := ⟨by decide +kernel, rfl⟩
theorem dX9_companyLasts_28 : q_at cX9_companyLasts 28 (.iload_n 3) 1 29 := ⟨by decide +kernel, rfl⟩
theorem dX9_companyLasts_29 : q_at cX9_companyLasts 29 (.iaload) 1 30 := ⟨by decide +kernel, rfl⟩
theorem dX9_companyLasts_30 : q_at cX9_companyLasts 30 (.isub) 1 31 := ⟨by decide +kernel, rfl⟩
theorem dX9_companyLasts_31 : q_at cX9_companyLasts 31 (.istore_n 2) 1 32 := ⟨by decide +kernel, rfl⟩
theorem dX9_companyLasts_32 : q_at cX9_companyLasts 32 (.iinc 3 1) 3 35 := ⟨by decide +kernel, rfl⟩
theorem dX9_companyLasts_35 : q_at cX9_companyLasts 35 (.goto (-26)) 3 38 := ⟨by decide +kernel, rfl⟩
theorem dX9_companyLasts_38 : q_at cX9_companyLasts 38 (.iload_n 2) 1 39 := ⟨by decide +kernel, rfl⟩
theorem dX9_companyLasts_39 : q_at cX9_companyLasts 39 (.ifCond .gt 9) 3 42 := ⟨by decide +kernel, rfl⟩
theorem dX9_companyLasts_42 : q_at cX9_companyLasts 42 (.sipush 999) 3 45 := ⟨by decide +kernel, rfl⟩
theorem dX9_companyLasts_45 : q_at cX9_companyLasts 45 (.goto 17) 3 48 := ⟨by decide +kernel, rfl⟩
theorem dX9_companyLasts_48 : q_at cX9_companyLasts 48 (.sipush 999) 3 51 := ⟨by decide +kernel, rfl⟩
theorem dX9_companyLasts_51 : q_at cX9_companyLasts 51 (.aload_n 0) 1 52 := ⟨by decide +kernel, rfl⟩
theorem dX9_companyLasts_52 : q_at cX9_companyLasts 52 (.getfield 67) 3 55 := ⟨by decide +kernel, rfl⟩
theorem dX9_companyLasts_55 : q_at cX9_companyLasts 55 (.iconst 1) 1 56 := ⟨by decide +kernel, rfl⟩
theorem dX9_companyLasts_56 : q_at cX9_companyLasts 56 (.iaload) 1 57 := ⟨by decide +kernel, rfl⟩
theorem dX9_companyLasts_57 : q_at cX9_companyLasts 57 (.iload_n 2) 1 58 := ⟨by decide +kernel, rfl⟩
theorem dX9_companyLasts_58 : q_at cX9_companyLasts 58 (.idiv) 1 59 := ⟨by decide +kernel, rfl⟩
theorem dX9_companyLasts_59 : q_at cX9_companyLasts 59 (.invokestatic 233) 3 62 := ⟨by decide +kernel, rfl⟩
theorem dX9_companyLasts_62 : q_at cX9_companyLasts 62 (.ireturn) 1 63 := ⟨by decide +kernel, rfl⟩
theorem dX9_menLast_0 : q_at cX9_menLast 0 (.iconst (-1)) 1 1 := ⟨by decide +kernel, rfl⟩
theorem dX9_menLast_1 : q_at cX9_menLast 1 (.istore_n 2) 1 2 := ⟨by decide +kernel, rfl⟩
theorem dX9_menLast_2 : q_at cX9_menLast 2 (.iconst 0) 1 3 := ⟨by decide +kernel, rfl⟩
theorem dX9_menLast_3 : q_at cX9_menLast 3 (.istore_n 3) 1 4 := ⟨by decide +kernel, rfl⟩
theorem dX9_menLast_4 : q_at cX9_menLast 4 (.iload_n 3) 1 5 := ⟨by decide +kernel, rfl⟩
theorem dX9_menLast_5 : q_at cX9_menLast 5 (.bipush 8) 2 7 := ⟨by decide +kernel, rfl⟩
theorem dX9_menLast_7 : q_at cX9_menLast 7 (.if_icmp .ge 53) 3 10 := ⟨by decide +kernel, rfl⟩
theorem dX9_menLast_10 : q_at cX9_menLast 10 (.iload_n 1) 1 11 := ⟨by decide +kernel, rfl⟩
theorem dX9_menLast_11 : q_at cX9_menLast 11 (.iload_n 3) 1 12 := ⟨by decide +kernel, rfl⟩
theorem dX9_menLast_12 : q_at cX9_menLast 12 (.ishr) 1 13 := ⟨by decide +kernel, rfl⟩
theorem dX9_menLast_13 : q_at cX9_menLast 13 (.iconst 1) 1 14 := ⟨by decide +kernel, rfl⟩
theorem dX9_menLast_14 : q_at cX9_menLast 14 (.iand) 1 15 := ⟨by decide +kernel, rfl⟩
theorem dX9_menLast_15 : q_at cX9_menLast 15 (.ifCond .eq 39) 3 18 := ⟨by decide +kernel, rfl⟩
theorem dX9_menLast_18 : q_at cX9_menLast 18 (.aload_n 0) 1 19 := ⟨by decide +kernel, rfl⟩
theorem dX9_menLast_19 : q_at cX9_menLast 19 (.getfield 77) 3 22 := ⟨by decide +kernel, rfl⟩
theorem dX9_menLast_22 : q_at cX9_menLast 22 (.iload_n 3) 1 23 := ⟨by decide +kernel, rfl⟩
theorem dX9_menLast_23 : q_at cX9_menLast 23 (.iaload) 1 24 := ⟨by decide +kernel, rfl⟩
theorem dX9_menLast_24 : q_at cX9_menLast 24 (.ifCond .ge 6) 3 27 := ⟨by decide +kernel, rfl⟩
theorem dX9_menLast_27 : q_at cX9_menLast 27 (.goto 27) 3 30 := ⟨by decide +kernel, rfl⟩
theorem dX9_menLast_30 : q_at cX9_menLast 30 (.iload_n 2) 1 31 := ⟨by decide +kernel, rfl⟩
theorem dX9_menLast_31 : q_at cX9_menLast 31 (.ifCond .ge 12) 3 34 := ⟨by decide +kernel, rfl⟩
theorem dX9_menLast_34 : q_at cX9_menLast 34 (.aload_n 0) 1 35 := ⟨by decide +kernel, rfl⟩
theorem dX9_menLast_35 : q_at cX9_menLast 35 (.getfield 77) 3 38 := ⟨by decide +kernel, rfl⟩
theorem dX9_menLast_38 : q_at cX9_menLast 38 (.iload_n 3) 1 39 := ⟨by decide +kernel, rfl⟩
theorem dX9_menLast_39 : q_at cX9_menLast 39 (.iaload) 1 40 := ⟨by decide +kernel, rfl⟩
theorem dX9_menLast_40 : q_at cX9_menLast 40 (.goto 13) 3 43 := ⟨by decide +kernel, rfl⟩
theorem dX9_menLast_43 : q_at cX9_menLast 43 (.iload_n 2) 1 44 := ⟨by decide +kernel, rfl⟩
theorem dX9_menLast_44 : q_at cX9_menLast 44 (.aload_n 0) 1 45 := ⟨by decide +kernel, rfl⟩
theorem dX9_menLast_45 : q_at cX9_menLast 45 (.getfield 77) 3 48 := ⟨by decide +kernel, rfl⟩
theorem dX9_menLast_48 : q_at cX9_menLast 48 (.iload_n 3) 1 49 := ⟨by decide +kernel, rfl⟩
theorem dX9_menLast_49 : q_at cX9_menLast 49 (.iaload) 1 50 := ⟨by decide +kernel, rfl⟩
theorem dX9_menLast_50 : q_at cX9_menLast 50 (.invokestatic 233) 3 53 := ⟨by decide +kernel, rfl⟩
theorem dX9_menLast_53 : q_at cX9_menLast 53 (.istore_n 2) 1 54 := ⟨by decide +kernel, rfl⟩
theorem dX9_menLast_54 : q_at cX9_menLast 54 (.iinc 3 1) 3 57 := ⟨by decide +kernel, rfl⟩
theorem dX9_menLast_57 : q_at cX9_menLast 57 (.goto (-53)) 3 60 := ⟨by decide +kernel, rfl⟩
theorem dX9_menLast_60 : q_at cX9_menLast 60 (.iload_n 2) 1 61 := ⟨by decide +kernel, rfl⟩
theorem dX9_menLast_61 : q_at cX9_menLast 61 (.ifCond .ge 9) 3 64 := ⟨by decide +kernel, rfl⟩
theorem dX9_menLast_64 : q_at cX9_menLast 64 (.sipush 999) 3 67 := ⟨by decide +kernel, rfl⟩
theorem dX9_menLast_67 : q_at cX9_menLast 67 (.goto 4) 3 70 := ⟨by decide +kernel, rfl⟩
theorem dX9_menLast_70 : q_at cX9_menLast 70 (.iload_n 2) 1 71 := ⟨by decide +kernel, rfl⟩
theorem dX9_menLast_71 : q_at cX9_menLast 71 (.ireturn) 1 72 := ⟨by decide +kernel, rfl⟩
theorem dX9_newMan_0 : q_at cX9_newMan 0 (.aload_n 0) 1 1 := ⟨by decide +kernel, rfl⟩
theorem dX9_newMan_1 : q_at cX9_newMan 1 (.getfield 28) 3 4 := ⟨by decide +kernel, rfl⟩
theorem dX9_newMan_4 : q_at cX9_newMan 4 (.iload_n 1) 1 5 := ⟨by decide +kernel, rfl⟩
theorem dX9_newMan_5 : q_at cX9_newMan 5 (.iload_n 2) 1 6 := ⟨by decide +kernel, rfl⟩
theorem dX9_newMan_6 : q_at cX9_newMan 6 (.iload_n 3) 1 7 := ⟨by decide +kernel, rfl⟩
theorem dX9_newMan_7 : q_at cX9_newMan 7 (.invokevirtual 118) 3 10 := ⟨by decide +kernel, rfl⟩
theorem dX9_newMan_10 : q_at cX9_newMan 10 (.istore 4) 2 12 := ⟨by decide +kernel, rfl⟩
theorem dX9_newMan_12 : q_at cX9_newMan 12 (.aload_n 0) 1 13 := ⟨by decide +kernel, rfl⟩
theorem dX9_newMan_13 : q_at cX9_newMan 13 (.getfield 28) 3 16 := ⟨by decide +kernel, rfl⟩
theorem dX9_newMan_16 : q_at cX9_newMan 16 (.getfield 122) 3 19 := ⟨by decide +kernel, rfl⟩
theorem dX9_newMan_19 : q_at cX9_newMan 19 (.iload 4) 2 21 := ⟨by decide +kernel, rfl⟩
theorem dX9_newMan_21 : q_at cX9_newMan 21 (.aload_n 0) 1 22 := ⟨by decide +kernel, rfl⟩
theorem dX9_newMan_22 : q_at cX9_newMan 22 (.getfield 35) 3 25 := ⟨by decide +kernel, rfl⟩
theorem dX9_newMan_25 : q_at cX9_newMan 25 (.iconst 1) 1 26 := ⟨by decide +kernel, rfl⟩
theorem dX9_newMan_26 : q_at cX9_newMan 26 (.iload 4) 2 28 := ⟨by decide +kernel, rfl⟩
theorem dX9_newMan_28 : q_at cX9_newMan 28 (.iconst 0) 1 29 := ⟨by decide +kernel, rfl⟩
theorem dX9_newMan_29 : q_at cX9_newMan 29 (.iconst 0) 1 30 := ⟨by decide +kernel, rfl⟩
theorem dX9_newMan_30 : q_at cX9_newMan 30 (.aload_n 0) 1 31 := ⟨by decide +kernel, rfl⟩
theorem dX9_newMan_31 : q_at cX9_newMan 31 (.getfield 83) 3 34 := ⟨by decide +kernel, rfl⟩
theorem dX9_newMan_34 : q_at cX9_newMan 34 (.invokevirtual 125) 3 37 := ⟨by decide +kernel, rfl⟩
theorem dX9_newMan_37 : q_at cX9_newMan 37 (.iastore) 1 38 := ⟨by decide +kernel, rfl⟩
theorem dX9_newMan_38 : q_at cX9_newMan 38 (.aload_n 0) 1 39 := ⟨by decide +kernel, rfl⟩
theorem dX9_newMan_39 : q_at cX9_newMan 39 (.getfield 28) 3 42 := ⟨by decide +kernel, rfl⟩
theorem dX9_newMan_42 : q_at cX9_newMan 42 (.getfield 128) 3 45 := ⟨by decide +kernel, rfl⟩
theorem dX9_newMan_45 : q_at cX9_newMan 45 (.iload 4) 2 47 := ⟨by decide +kernel, rfl⟩
theorem dX9_newMan_47 : q_at cX9_newMan 47 (.aload_n 0) 1 48 := ⟨by decide +kernel, rfl⟩
theorem dX9_newMan_48 : q_at cX9_newMan 48 (.getfield 35) 3 51 := ⟨by decide +kernel, rfl⟩
theorem dX9_newMan_51 : q_at cX9_newMan 51 (.bipush 6) 2 53 := ⟨by decide +kernel, rfl⟩
theorem dX9_newMan_53 : q_at cX9_newMan 53 (.iload 4) 2 55 := ⟨by decide +kernel, rfl⟩
theorem dX9_newMan_55 : q_at cX9_newMan 55 (.iconst 0) 1 56 := ⟨by decide +kernel, rfl⟩
theorem dX9_newMan_56 : q_at cX9_newMan 56 (.iconst 0) 1 57 := ⟨by decide +kernel, rfl⟩
theorem dX9_newMan_57 : q_at cX9_newMan 57 (.aload_n 0) 1 58 := ⟨by decide +kernel, rfl⟩
theorem dX9_newMan_58 : q_at cX9_newMan 58 (.getfield 83) 3 61 := ⟨by decide +kernel, rfl⟩
theorem dX9_newMan_61 : q_at cX9_newMan 61 (.invokevirtual 125) 3 64 := ⟨by decide +kernel, rfl⟩
theorem dX9_newMan_64 : q_at cX9_newMan 64 (.iastore) 1 65 := ⟨by decide +kernel, rfl⟩
theorem dX9_newMan_65 : q_at cX9_newMan 65 (.iload 4) 2 67 := ⟨by decide +kernel, rfl⟩
theorem dX9_newMan_67 : q_at cX9_newMan 67 (.ireturn) 1 68 := ⟨by decide +kernel, rfl⟩
theorem dX9_spreadNews_0 : q_at cX9_spreadNews 0 (.iconst 0) 1 1 := ⟨by decide +kernel, rfl⟩
theorem dX9_spreadNews_1 : q_at cX9_spreadNews 1 (.istore_n 2) 1 2 := ⟨by decide +kernel, rfl⟩
theorem dX9_spreadNews_2 : q_at cX9_spreadNews 2 (.iload_n 2) 1 3 := ⟨by decide +kernel, rfl⟩
theorem dX9_spreadNews_3 : q_at cX9_spreadNews 3 (.bipush 8) 2 5 := ⟨by decide +kernel, rfl⟩
theorem dX9_spreadNews_5 : q_at cX9_spreadNews 5 (.if_icmp .ge 16) 3 8 := ⟨by decide +kernel, rfl⟩
theorem dX9_spreadNews_8 : q_at cX9_spreadNews 8 (.aload_n 0) 1 9 := ⟨by decide +kernel, rfl⟩
theorem dX9_spreadNews_9 : q_at cX9_spreadNews 9 (.getfield 74) 3 12 := ⟨by decide +kernel, rfl⟩
theorem dX9_spreadNews_12 : q_at cX9_spreadNews 12 (.iload_n 2) 1 13 := ⟨by decide +kernel, rfl⟩
theorem dX9_spreadNews_13 : q_at cX9_spreadNews 13 (.iconst (-1)) 1 14 := ⟨by decide +kernel, rfl⟩
theorem dX9_spreadNews_14 : q_at cX9_spreadNews 14 (.iastore) 1 15 := ⟨by decide +kernel, rfl⟩
theorem dX9_spreadNews_15 : q_at cX9_spreadNews 15 (.iinc 2 1) 3 18 := ⟨by decide +kernel, rfl⟩
theorem dX9_spreadNews_18 : q_at cX9_spreadNews 18 (.goto (-16)) 3 21 := ⟨by decide +kernel, rfl⟩
theorem dX9_spreadNews_21 : q_at cX9_spreadNews 21 (.iconst 0) 1 22 := ⟨by decide +kernel, rfl⟩
theorem dX9_spreadNews_22 : q_at cX9_spreadNews 22 (.istore_n 2) 1 23 := ⟨by decide +kernel, rfl⟩
theorem dX9_spreadNews_23 : q_at cX9_spreadNews 23 (.iload_n 2) 1 24 := ⟨by decide +kernel, rfl⟩
theorem dX9_spreadNews_24 : q_at cX9_spreadNews 24 (.aload_n 0) 1 25 := ⟨by decide +kernel, rfl⟩
theorem dX9_spreadNews_25 : q_at cX9_spreadNews 25 (.getfield 28) 3 28 := ⟨by decide +kernel, rfl⟩
theorem dX9_spreadNews_28 : q_at cX9_spreadNews 28 (.getfield 134) 3 31 := ⟨by decide +kernel, rfl⟩
theorem dX9_spreadNews_31 : q_at cX9_spreadNews 31 (.if_icmp .ge 90) 3 34 := ⟨by decide +kernel, rfl⟩
theorem dX9_spreadNews_34 : q_at cX9_spreadNews 34 (.aload_n 0) 1 35 := ⟨by decide +kernel, rfl⟩
theorem dX9_spreadNews_35 : q_at cX9_spreadNews 35 (.getfield 28) 3 38 := ⟨by decide +kernel, rfl⟩
theorem dX9_spreadNews_38 : q_at cX9_spreadNews 38 (.iload_n 2) 1 39 := ⟨by decide +kernel, rfl⟩
theorem dX9_spreadNews_39 : q_at cX9_spreadNews 39 (.invokevirtual 144) 3 42 := ⟨by decide +kernel, rfl⟩
theorem dX9_spreadNews_42 : q_at cX9_spreadNews 42 (.ifCond .ne 73) 3 45 := ⟨by decide +kernel, rfl⟩
theorem dX9_spreadNews_45 : q_at cX9_spreadNews 45 (.aload_n 0) 1 46 := ⟨by decide +kernel, rfl⟩
theorem dX9_spreadNews_46 : q_at cX9_spreadNews 46 (.getfield 28) 3 49 := ⟨by decide +kernel, rfl⟩
theorem dX9_spreadNews_49 : q_at cX9_spreadNews 49 (.iload_n 2) 1 50 := ⟨by decide +kernel, rfl⟩
theorem dX9_spreadNews_50 : q_at cX9_spreadNews 50 (.iload_n 1) 1 51 := ⟨by decide +kernel, rfl⟩
theorem dX9_spreadNews_51 : q_at cX9_spreadNews 51 (.invokevirtual 252) 3 54 := ⟨by decide +kernel, rfl⟩
theorem dX9_spreadNews_54 : q_at cX9_spreadNews 54 (.ifCond .ne 6) 3 57 := ⟨by decide +kernel, rfl⟩
theorem dX9_spreadNews_57 : q_at cX9_spreadNews 57 (.goto 58) 3 60 := ⟨by decide +kernel, rfl⟩
theorem dX9_spreadNews_60 : q_at cX9_spreadNews 60 (.aload_n 0) 1 61 := ⟨by decide +kernel, rfl⟩
theorem dX9_spreadNews_61 : q_at cX9_spreadNews 61 (.getfield 74) 3 64 := ⟨by decide +kernel, rfl⟩
theorem dX9_spreadNews_64 : q_at cX9_spreadNews 64 (.aload_n 0) 1 65 := ⟨by decide +kernel, rfl⟩
theorem dX9_spreadNews_65 : q_at cX9_spreadNews 65 (.getfield 28) 3 68 := ⟨by decide +kernel, rfl⟩
theorem dX9_spreadNews_68 : q_at cX9_spreadNews 68 (.getfield 163) 3 71 := ⟨by decide +kernel, rfl⟩
theorem dX9_spreadNews_71 : q_at cX9_spreadNews 71 (.iload_n 2) 1 72 := ⟨by decide +kernel, rfl⟩
theorem dX9_spreadNews_72 : q_at cX9_spreadNews 72 (.iaload) 1 73 := ⟨by decide +kernel, rfl⟩
theorem dX9_spreadNews_73 : q_at cX9_spreadNews 73 (.iaload) 1 74 := ⟨by decide +kernel, rfl⟩
theorem dX9_spreadNews_74 : q_at cX9_spreadNews 74 (.istore_n 3) 1 75 := ⟨by decide +kernel, rfl⟩
theorem dX9_spreadNews_75 : q_at cX9_spreadNews 75 (.iload_n 3) 1 76 := ⟨by decide +kernel, rfl⟩
theorem dX9_spreadNews_76 : q_at cX9_spreadNews 76 (.ifCond .lt 24) 3 79 := ⟨by decide +kernel, rfl⟩
theorem dX9_spreadNews_79 : q_at cX9_spreadNews 79 (.aload_n 0) 1 80 := ⟨by decide +kernel, rfl⟩
theorem dX9_spreadNews_80 : q_at cX9_spreadNews 80 (.getfield 28) 3 83 := ⟨by decide +kernel, rfl⟩
theorem dX9_spreadNews_83 : q_at cX9_spreadNews 83 (.iload_n 2) 1 84 := ⟨by decide +kernel, rfl⟩
theorem dX9_spreadNews_84 : q_at cX9_spreadNews 84 (.iload_n 1) 1 85 := ⟨by decide +kernel, rfl⟩
theorem dX9_spreadNews_85 : q_at cX9_spreadNews 85 (.invokevirtual 269) 3 88 := ⟨by decide +kernel, rfl⟩
theorem dX9_spreadNews_88 : q_at cX9_spreadNews 88 (.aload_n 0) 1 89 := ⟨by decide +kernel, rfl⟩
theorem dX9_spreadNews_89 : q_at cX9_spreadNews 89 (.getfield 28) 3 92 := ⟨by decide +kernel, rfl⟩
theorem dX9_spreadNews_92 : q_at cX9_spreadNews 92 (.iload_n 3) 1 93 := ⟨by decide +kernel, rfl⟩
theorem dX9_spreadNews_93 : q_at cX9_spreadNews 93 (.iload_n 1) 1 94 := ⟨by decide +kernel, rfl⟩
theorem dX9_spreadNews_94 : q_at cX9_spreadNews 94 (.invokevirtual 269) 3 97 := ⟨by decide +kernel, rfl⟩
theorem dX9_spreadNews_97 : q_at cX9_spreadNews 97 (.if_icmp .le 18) 3 100 := ⟨by decide +kernel, rfl⟩
theorem dX9_spreadNews_100 : q_at cX9_spreadNews 100 (.aload_n 0) 1 101 := ⟨by decide +kernel, rfl⟩
theorem dX9_spreadNews_101 : q_at cX9_spreadNews 101 (.getfield 74) 3 104 := ⟨by decide +kernel, rfl⟩
theorem dX9_spreadNews_104 : q_at cX9_spreadNews 104 (.aload_n 0) 1 105 := ⟨by decide +kernel, rfl⟩
theorem dX9_spreadNews_105 : q_at cX9_spreadNews 105 (.getfield 28) 3 108 := ⟨by decide +kernel, rfl⟩
theorem dX9_spreadNews_108 : q_at cX9_spreadNews 108 (.getfield 163) 3 111 := ⟨by decide +kernel, rfl⟩
theorem dX9_spreadNews_111 : q_at cX9_spreadNews 111 (.iload_n 2) 1 112 := ⟨by decide +kernel, rfl⟩
theorem dX9_spreadNews_112 : q_at cX9_spreadNews 112 (.iaload) 1 113 := ⟨by decide +kernel, rfl⟩
theorem dX9_spreadNews_113 : q_at cX9_spreadNews 113 (.iload_n 2) 1 114 := ⟨by decide +kernel, rfl⟩
theorem dX9_spreadNews_114 : q_at cX9_spreadNews 114 (.iastore) 1 115 := ⟨by decide +kernel, rfl⟩
theorem dX9_spreadNews_115 : q_at cX9_spreadNews 115 (.iinc 2 1) 3 118 := ⟨by decide +kernel, rfl⟩
theorem dX9_spreadNews_118 : q_at cX9_spreadNews 118 (.goto (-95)) 3 121 := ⟨by decide +kernel, rfl⟩
theorem dX9_spreadNews_121 : q_at cX9_spreadNews 121 (.iconst 0) 1 122 := ⟨by decide +kernel, rfl⟩
theorem dX9_spreadNews_122 : q_at cX9_spreadNews 122 (.istore_n 2) 1 123 := ⟨by decide +kernel, rfl⟩
theorem dX9_spreadNews_123 : q_at cX9_spreadNews 123 (.iload_n 2) 1 124 := ⟨by decide +kernel, rfl⟩
theorem dX9_spreadNews_124 : q_at cX9_spreadNews 124 (.aload_n 0) 1 125 := ⟨by decide +kernel, rfl⟩
theorem dX9_spreadNews_125 : q_at cX9_spreadNews 125 (.getfield 28) 3 128 := ⟨by decide +kernel, rfl⟩
theorem dX9_spreadNews_128 : q_at cX9_spreadNews 128 (.getfield 134) 3 131 := ⟨by decide +kernel, rfl⟩
theorem dX9_spreadNews_131 : q_at cX9_spreadNews 131 (.if_icmp .ge 69) 3 134 := ⟨by decide +kernel, rfl⟩
theorem dX9_spreadNews_134 : q_at cX9_spreadNews 134 (.aload_n 0) 1 135 := ⟨by decide +kernel, rfl⟩
theorem dX9_spreadNews_135 : q_at cX9_spreadNews 135 (.getfield 74) 3 138 := ⟨by decide +kernel, rfl⟩
theorem dX9_spreadNews_138 : q_at cX9_spreadNews 138 (.aload_n 0) 1 139 := ⟨by decide +kernel, rfl⟩
theorem dX9_spreadNews_139 : q_at cX9_spreadNews 139 (.getfield 28) 3 142 := ⟨by decide +kernel, rfl⟩
theorem dX9_spreadNews_142 : q_at cX9_spreadNews 142 (.getfield 163) 3 145 := ⟨by decide +kernel, rfl⟩
theorem dX9_spreadNews_145 : q_at cX9_spreadNews 145 (.iload_n 2) 1 146 := ⟨by decide +kernel, rfl⟩
theorem dX9_spreadNews_146 : q_at cX9_spreadNews 146 (.iaload) 1 147 := ⟨by decide +kernel, rfl⟩
theorem dX9_spreadNews_147 : q_at cX9_spreadNews 147 (.iaload) 1 148 := ⟨by decide +kernel, rfl⟩
theorem dX9_spreadNews_148 : q_at cX9_spreadNews 148 (.istore_n 3) 1 149 := ⟨by decide +kernel, rfl⟩
theorem dX9_spreadNews_149 : q_at cX9_spreadNews 149 (.aload_n 0) 1 150 := ⟨by decide +kernel, rfl⟩
theorem dX9_spreadNews_150 : q_at cX9_spreadNews 150 (.getfield 28) 3 153 := ⟨by decide +kernel, rfl⟩
theorem dX9_spreadNews_153 : q_at cX9_spreadNews 153 (.iload_n 2) 1 154 := ⟨by decide +kernel, rfl⟩
theorem dX9_spreadNews_154 : q_at cX9_spreadNews 154 (.invokevirtual 144) 3 157 := ⟨by decide +kernel, rfl⟩
theorem dX9_spreadNews_157 : q_at cX9_spreadNews 157 (.ifCond .ne 37) 3 160 := ⟨by decide +kernel, rfl⟩
theorem dX9_spreadNews_160 : q_at cX9_spreadNews 160 (.iload_n 3) 1 161 := ⟨by decide +kernel, rfl⟩
theorem dX9_spreadNews_161 : q_at cX9_spreadNews 161 (.ifCond .ge 6) 3 164 := ⟨by decide +kernel, rfl⟩
theorem dX9_spreadNews_164 : q_at cX9_spreadNews 164 (.goto 30) 3 167 := ⟨by decide +kernel, rfl⟩
theorem dX9_spreadNews_167 : q_at cX9_spreadNews 167 (.aload_n 0) 1 168 := ⟨by decide +kernel, rfl⟩
theorem dX9_spreadNews_168 : q_at cX9_spreadNews 168 (.getfield 28) 3 171 := ⟨by decide +kernel, rfl⟩
theorem dX9_spreadNews_171 : q_at cX9_spreadNews 171 (.iload_n 2) 1 172 := ⟨by decide +kernel, rfl⟩
theorem dX9_spreadNews_172 : q_at cX9_spreadNews 172 (.iload_n 1) 1 173 := ⟨by decide +kernel, rfl⟩
theorem dX9_spreadNews_173 : q_at cX9_spreadNews 173 (.aload_n 0) 1 174 := ⟨by decide +kernel, rfl⟩
theorem dX9_spreadNews_174 : q_at cX9_spreadNews 174 (.getfield 28) 3 177 := ⟨by decide +kernel, rfl⟩
theorem dX9_spreadNews_177 : q_at cX9_spreadNews 177 (.iload_n 3) 1 178 := ⟨by decide +kernel, rfl⟩
theorem dX9_spreadNews_178 : q_at cX9_spreadNews 178 (.iload_n 1) 1 179 := ⟨by decide +kernel, rfl⟩
theorem dX9_spreadNews_179 : q_at cX9_spreadNews 179 (.invokevirtual 256) 3 182 := ⟨by decide +kernel, rfl⟩
theorem dX9_spreadNews_182 : q_at cX9_spreadNews 182 (.aload_n 0) 1 183 := ⟨by decide +kernel, rfl⟩
theorem dX9_spreadNews_183 : q_at cX9_spreadNews 183 (.getfield 28) 3 186 := ⟨by decide +kernel, rfl⟩
theorem dX9_spreadNews_186 : q_at cX9_spreadNews 186 (.iload_n 3) 1 187 := ⟨by decide +kernel, rfl⟩
theorem dX9_spreadNews_187 : q_at cX9_spreadNews 187 (.iload_n 1) 1 188 := ⟨by decide +kernel, rfl⟩
theorem dX9_spreadNews_188 : q_at cX9_spreadNews 188 (.invokevirtual 269) 3 191 := ⟨by decide +kernel, rfl⟩
theorem dX9_spreadNews_191 : q_at cX9_spreadNews 191 (.invokevirtual 265) 3 194 := ⟨by decide +kernel, rfl⟩
theorem dX9_spreadNews_194 : q_at cX9_spreadNews 194 (.iinc 2 1) 3 197 := ⟨by decide +kernel, rfl⟩
theorem dX9_spreadNews_197 : q_at cX9_spreadNews 197 (.goto (-74)) 3 200 := ⟨by decide +kernel, rfl⟩
theorem dX9_spreadNews_200 : q_at cX9_spreadNews 200 (.return_) 1 201 := ⟨by decide +kernel, rfl⟩
theorem dX9_takeLoaves_0 : q_at cX9_takeLoaves 0 (.aload_n 0) 1 1 := ⟨by decide +kernel, rfl⟩
theorem dX9_takeLoaves_1 : q_at cX9_takeLoaves 1 (.getfield 28) 3 4 := ⟨by decide +kernel, rfl⟩
theorem dX9_takeLoaves_4 : q_at cX9_takeLoaves 4 (.getfield 199) 3 7 := ⟨by decide +kernel, rfl⟩
theorem dX9_takeLoaves_7 : q_at cX9_takeLoaves 7 (.iload_n 1) 1 8 := ⟨by decide +kernel, rfl⟩
theorem dX9_takeLoaves_8 : q_at cX9_takeLoaves 8 (.dup2) 1 9 := ⟨by decide +kernel, rfl⟩
theorem dX9_takeLoaves_9 : q_at cX9_takeLoaves 9 (.iaload) 1 10 := ⟨by decide +kernel, rfl⟩
theorem dX9_takeLoaves_10 : q_at cX9_takeLoaves 10 (.iload_n 3) 1 11 := ⟨by decide +kernel, rfl⟩
theorem dX9_takeLoaves_11 : q_at cX9_takeLoaves 11 (.iadd) 1 12 := ⟨by decide +kernel, rfl⟩
theorem dX9_takeLoaves_12 : q_at cX9_takeLoaves 12 (.iastore) 1 13 := ⟨by decide +kernel, rfl⟩
theorem dX9_takeLoaves_13 : q_at cX9_takeLoaves 13 (.aload_n 0) 1 14 := ⟨by decide +kernel, rfl⟩
theorem dX9_takeLoaves_14 : q_at cX9_takeLoaves 14 (.getfield 21) 3 17 := ⟨by decide +kernel, rfl⟩
theorem dX9_takeLoaves_17 : q_at cX9_takeLoaves 17 (.getfield 259) 3 20 := ⟨by decide +kernel, rfl⟩
theorem dX9_takeLoaves_20 : q_at cX9_takeLoaves 20 (.iload_n 2) 1 21 := ⟨by decide +kernel, rfl⟩
theorem dX9_takeLoaves_21 : q_at cX9_takeLoaves 21 (.dup2) 1 22 := ⟨by decide +kernel, rfl⟩
theorem dX9_takeLoaves_22 : q_at cX9_takeLoaves 22 (.iaload) 1 23 := ⟨by decide +kernel, rfl⟩
theorem dX9_takeLoaves_23 : q_at cX9_takeLoaves 23 (.iload_n 3) 1 24 := ⟨by decide +kernel, rfl⟩
theorem dX9_takeLoaves_24 : q_at cX9_takeLoaves 24 (.isub) 1 25 := ⟨by decide +kernel, rfl⟩
theorem dX9_takeLoaves_25 : q_at cX9_takeLoaves 25 (.iastore) 1 26 := ⟨by decide +kernel, rfl⟩
theorem dX9_takeLoaves_26 : q_at cX9_takeLoaves 26 (.aload_n 0) 1 27 := ⟨by decide +kernel, rfl⟩
theorem dX9_takeLoaves_27 : q_at cX9_takeLoaves 27 (.getfield 21) 3 30 := ⟨by decide +kernel, rfl⟩
theorem dX9_takeLoaves_30 : q_at cX9_takeLoaves 30 (.getfield 214) 3 33 := ⟨by decide +kernel, rfl⟩
theorem dX9_takeLoaves_33 : q_at cX9_takeLoaves 33 (.iload_n 2) 1 34 := ⟨by decide +kernel, rfl⟩
theorem dX9_takeLoaves_34 : q_at cX9_takeLoaves 34 (.iaload) 1 35 := ⟨by decide +kernel, rfl⟩
theorem dX9_takeLoaves_35 : q_at cX9_takeLoaves 35 (.ifCond .ne 16) 3 38 := ⟨by decide +kernel, rfl⟩
theorem dX9_takeLoaves_38 : q_at cX9_takeLoaves 38 (.aload_n 0) 1 39 := ⟨by decide +kernel, rfl⟩
theorem dX9_takeLoaves_39 : q_at cX9_takeLoaves 39 (.getfield 28) 3 42 := ⟨by decide +kernel, rfl⟩
theorem dX9_takeLoaves_42 : q_at cX9_takeLoaves 42 (.getfield 262) 3 45 := ⟨by decide +kernel, rfl⟩
theorem dX9_takeLoaves_45 : q_at cX9_takeLoaves 45 (.iload_n 1) 1 46 := ⟨by decide +kernel, rfl⟩
theorem dX9_takeLoaves_46 : q_at cX9_takeLoaves 46 (.dup2) 1 47 := ⟨by decide +kernel, rfl⟩
theorem dX9_takeLoaves_47 : q_at cX9_takeLoaves 47 (.iaload) 1 48 := ⟨by decide +kernel, rfl⟩
theorem dX9_takeLoaves_48 : q_at cX9_takeLoaves 48 (.iload_n 3) 1 49 := ⟨by decide +kernel, rfl⟩
theorem dX9_takeLoaves_49 : q_at cX9_takeLoaves 49 (.iadd) 1 50 := ⟨by decide +kernel, rfl⟩
theorem dX9_takeLoaves_50 : q_at cX9_takeLoaves 50 (.iastore) 1 51 := ⟨by decide +kernel, rfl⟩
theorem dX9_takeLoaves_51 : q_at cX9_takeLoaves 51 (.aload_n 0) 1 52 := ⟨by decide +kernel, rfl⟩
theorem dX9_takeLoaves_52 : q_at cX9_takeLoaves 52 (.getfield 28) 3 55 := ⟨by decide +kernel, rfl⟩
theorem dX9_takeLoaves_55 : q_at cX9_takeLoaves 55 (.iload_n 1) 1 56 := ⟨by decide +kernel, rfl⟩
theorem dX9_takeLoaves_56 : q_at cX9_takeLoaves 56 (.iload_n 2) 1 57 := ⟨by decide +kernel, rfl⟩
theorem dX9_takeLoaves_57 : q_at cX9_takeLoaves 57 (.aload_n 0) 1 58 := ⟨by decide +kernel, rfl⟩
theorem dX9_takeLoaves_58 : q_at cX9_takeLoaves 58 (.getfield 21) 3 61 := ⟨by decide +kernel, rfl⟩
theorem dX9_takeLoaves_61 : q_at cX9_takeLoaves 61 (.getfield 236) 3 64 := ⟨by decide +kernel, rfl⟩
theorem dX9_takeLoaves_64 : q_at cX9_takeLoaves 64 (.iload_n 2) 1 65 := ⟨by decide +kernel, rfl⟩
theorem dX9_takeLoaves_65 : q_at cX9_takeLoaves 65 (.iaload) 1 66 := ⟨by decide +kernel, rfl⟩
theorem dX9_takeLoaves_66 : q_at cX9_takeLoaves 66 (.aload_n 0) 1 67 := ⟨by decide +kernel, rfl⟩
theorem dX9_takeLoaves_67 : q_at cX9_takeLoaves 67 (.getfield 83) 3 70 := ⟨by decide +kernel, rfl⟩
theorem dX9_takeLoaves_70 : q_at cX9_takeLoaves 70 (.invokevirtual 265) 3 73 := ⟨by decide +kernel, rfl⟩
theorem dX9_takeLoaves_73 : q_at cX9_takeLoaves 73 (.return_) 1 74 := ⟨by decide +kernel, rfl⟩
theorem dX9_townKnownCheapest_0 : q_at cX9_townKnownCheapest 0 (.iconst (-1)) 1 1 := ⟨by decide +kernel, rfl⟩
theorem dX9_townKnownCheapest_1 : q_at cX9_townKnownCheapest 1 (.istore_n 3) 1 2 := ⟨by decide +kernel, rfl⟩
theorem dX9_townKnownCheapest_2 : q_at cX9_townKnownCheapest 2 (.iconst 0) 1 3 := ⟨by decide +kernel, rfl⟩
theorem dX9_townKnownCheapest_3 : q_at cX9_townKnownCheapest 3 (.istore 4) 2 5 := ⟨by decide +kernel, rfl⟩
theorem dX9_townKnownCheapest_5 : q_at cX9_townKnownCheapest 5 (.iconst 0) 1 6 := ⟨by decide +kernel, rfl⟩
theorem dX9_townKnownCheapest_6 : q_at cX9_townKnownCheapest 6 (.istore 5) 2 8 := ⟨by decide +kernel, rfl⟩
theorem dX9_townKnownCheapest_8 : q_at cX9_townKnownCheapest 8 (.iload 5) 2 10 := ⟨by decide +kernel, rfl⟩
theorem dX9_townKnownCheapest_10 : q_at cX9_townKnownCheapest 10 (.aload_n 0) 1 11 := ⟨by decide +kernel, rfl⟩
theorem dX9_townKnownCheapest_11 : q_at cX9_townKnownCheapest 11 (.getfield 21) 3 14 := ⟨by decide +kernel, rfl⟩
theorem dX9_townKnownCheapest_14 : q_at cX9_townKnownCheapest 14 (.getfield 155) 3 17 := ⟨by decide +kernel, rfl⟩
theorem dX9_townKnownCheapest_17 : q_at cX9_townKnownCheapest 17 (.if_icmp .ge 82) 3 20 := ⟨by decide +kernel, rfl⟩
theorem dX9_townKnownCheapest_20 : q_at cX9_townKnownCheapest 20 (.aload_n 0) 1 21 := ⟨by decide +kernel, rfl⟩
theorem dX9_townKnownCheapest_21 : q_at cX9_townKnownCheapest 21 (.getfield 21) 3 24 := ⟨by decide +kernel, rfl⟩
theorem dX9_townKnownCheapest_24 : q_at cX9_townKnownCheapest 24 (.getfield 214) 3 27 := ⟨by decide +kernel, rfl⟩
theorem dX9_townKnownCheapest_27 : q_at cX9_townKnownCheapest 27 (.iload 5) 2 29 := ⟨by decide +kernel, rfl⟩
theorem dX9_townKnownCheapest_29 : q_at cX9_townKnownCheapest 29 (.iaload) 1 30 := ⟨by decide +kernel, rfl⟩
theorem dX9_townKnownCheapest_30 : q_at cX9_townKnownCheapest 30 (.iconst 1) 1 31 := ⟨by decide +kernel, rfl⟩
theorem dX9_townKnownCheapest_31 : q_at cX9_townKnownCheapest 31 (.if_icmp .ne 62) 3 34 := ⟨by decide +kernel, rfl⟩
theorem dX9_townKnownCheapest_34 : q_at cX9_townKnownCheapest 34 (.aload_n 0) 1 35 := ⟨by decide +kernel, rfl⟩
theorem dX9_townKnownCheapest_35 : q_at cX9_townKnownCheapest 35 (.getfield 28) 3 38 := ⟨by decide +kernel, rfl⟩
theorem dX9_townKnownCheapest_38 : q_at cX9_townKnownCheapest 38 (.iload_n 1) 1 39 := ⟨by decide +kernel, rfl⟩
theorem dX9_townKnownCheapest_39 : q_at cX9_townKnownCheapest 39 (.iload 5) 2 41 := ⟨by decide +kernel, rfl⟩
theorem dX9_townKnownCheapest_41 : q_at cX9_townKnownCheapest 41 (.invokevirtual 252) 3 44 := ⟨by decide +kernel, rfl⟩
theorem dX9_townKnownCheapest_44 : q_at cX9_townKnownCheapest 44 (.ifCond .ne 6) 3 47 := ⟨by decide +kernel, rfl⟩
theorem dX9_townKnownCheapest_47 : q_at cX9_townKnownCheapest 47 (.goto 46) 3 50 := ⟨by decide +kernel, rfl⟩
theorem dX9_townKnownCheapest_50 : q_at cX9_townKnownCheapest 50 (.aload_n 0) 1 51 := ⟨by decide +kernel, rfl⟩
theorem dX9_townKnownCheapest_51 : q_at cX9_townKnownCheapest 51 (.getfield 28) 3 54 := ⟨by decide +kernel, rfl⟩
theorem dX9_townKnownCheapest_54 : q_at cX9_townKnownCheapest 54 (.iload_n 1) 1 55 := ⟨by decide +kernel, rfl⟩
theorem dX9_townKnownCheapest_55 : q_at cX9_townKnownCheapest 55 (.iload 5) 2 57 := ⟨by decide +kernel, rfl⟩
theorem dX9_townKnownCheapest_57 : q_at cX9_townKnownCheapest 57 (.invokevirtual 256) 3 60 := ⟨by decide +kernel, rfl⟩
theorem dX9_townKnownCheapest_60 : q_at cX9_townKnownCheapest 60 (.iload_n 2) 1 61 := ⟨by decide +kernel, rfl⟩
theorem dX9_townKnownCheapest_61 : q_at cX9_townKnownCheapest 61 (.imul) 1 62 := ⟨by decide +kernel, rfl⟩
theorem dX9_townKnownCheapest_62 : q_at cX9_townKnownCheapest 62 (.aload_n 0) 1 63 := ⟨by decide +kernel, rfl⟩
theorem dX9_townKnownCheapest_63 : q_at cX9_townKnownCheapest 63 (.getfield 21) 3 66 := ⟨by decide +kernel, rfl⟩
theorem dX9_townKnownCheapest_66 : q_at cX9_townKnownCheapest 66 (.getfield 249) 3 69 := ⟨by decide +kernel, rfl⟩
theorem dX9_townKnownCheapest_69 : q_at cX9_townKnownCheapest 69 (.iload 5) 2 71 := ⟨by decide +kernel, rfl⟩
theorem dX9_townKnownCheapest_71 : q_at cX9_townKnownCheapest 71 (.iaload) 1 72 := ⟨by decide +kernel, rfl⟩
theorem dX9_townKnownCheapest_72 : q_at cX9_townKnownCheapest 72 (.iadd) 1 73 := ⟨by decide +kernel, rfl⟩
theorem dX9_townKnownCheapest_73 : q_at cX9_townKnownCheapest 73 (.istore 6) 2 75 := ⟨by decide +kernel, rfl⟩
theorem dX9_townKnownCheapest_75 : q_at cX9_townKnownCheapest 75 (.iload_n 3) 1 76 := ⟨by decide +kernel, rfl⟩
theorem dX9_townKnownCheapest_76 : q_at cX9_townKnownCheapest 76 (.ifCond .lt 10) 3 79 := ⟨by decide +kernel, rfl⟩
theorem dX9_townKnownCheapest_79 : q_at cX9_townKnownCheapest 79 (.iload 6) 2 81 := ⟨by decide +kernel, rfl⟩
theorem dX9_townKnownCheapest_81 : q_at cX9_townKnownCheapest 81 (.iload 4) 2 83 := ⟨by decide +kernel, rfl⟩
theorem dX9_townKnownCheapest_83 : q_at cX9_townKnownCheapest 83 (.if_icmp .ge 10) 3 86 := ⟨by decide +kernel, rfl⟩
theorem dX9_townKnownCheapest_86 : q_at cX9_townKnownCheapest 86 (.iload 5) 2 88 := ⟨by decide +kernel, rfl⟩
theorem dX9_townKnownCheapest_88 : q_at cX9_townKnownCheapest 88 (.istore_n 3) 1 89 := ⟨by decide +kernel, rfl⟩
theorem dX9_townKnownCheapest_89 : q_at cX9_townKnownCheapest 89 (.iload 6) 2 91 := ⟨by decide +kernel, rfl⟩
theorem dX9_townKnownCheapest_91 : q_at cX9_townKnownCheapest 91 (.istore 4) 2 93 := ⟨by decide +kernel, rfl⟩
theorem dX9_townKnownCheapest_93 : q_at cX9_townKnownCheapest 93 (.iinc 5 1) 3 96 := ⟨by decide +kernel, rfl⟩
theorem dX9_townKnownCheapest_96 : q_at cX9_townKnownCheapest 96 (.goto (-88)) 3 99 := ⟨by decide +kernel, rfl⟩
theorem dX9_townKnownCheapest_99 : q_at cX9_townKnownCheapest 99 (.iload_n 3) 1 100 := ⟨by decide +kernel, rfl⟩
theorem dX9_townKnownCheapest_100 : q_at cX9_townKnownCheapest 100 (.ireturn) 1 101 := ⟨by decide +kernel, rfl⟩
theorem dX9_weeksBound_0 : q_at cX9_weeksBound 0 (.aload_n 0) 1 1 := ⟨by decide +kernel, rfl⟩
theorem dX9_weeksBound_1 : q_at cX9_weeksBound 1 (.getfield 21) 3 4 := ⟨by decide +kernel, rfl⟩
theorem dX9_weeksBound_4 : q_at cX9_weeksBound 4 (.invokevirtual 308) 3 7 := ⟨by decide +kernel, rfl⟩
theorem dX9_weeksBound_7 : q_at cX9_weeksBound 7 (.istore 4) 2 9 := ⟨by decide +kernel, rfl⟩
theorem dX9_weeksBound_9 : q_at cX9_weeksBound 9 (.iload 4) 2 11 := ⟨by decide +kernel, rfl⟩
theorem dX9_weeksBound_11 : q_at cX9_weeksBound 11 (.ifCond .lt 7) 3 14 := ⟨by decide +kernel, rfl⟩
theorem dX9_weeksBound_14 : q_at cX9_weeksBound 14 (.iload_n 3) 1 15 := ⟨by decide +kernel, rfl⟩
theorem dX9_weeksBound_15 : q_at cX9_weeksBound 15 (.ifCond .gt 7) 3 18 := ⟨by decide +kernel, rfl⟩
theorem dX9_weeksBound_18 : q_at cX9_weeksBound 18 (.ldc_w 312) 3 21 := ⟨by decide +kernel, rfl⟩
theorem dX9_weeksBound_21 : q_at cX9_weeksBound 21 (.ireturn) 1 22 := ⟨by decide +kernel, rfl⟩
theorem dX9_weeksBound_22 : q_at cX9_weeksBound 22 (.aload_n 0) 1 23 := ⟨by decide +kernel, rfl⟩
theorem dX9_weeksBound_23 : q_at cX9_weeksBound 23 (.getfield 21) 3 26 := ⟨by decide +kernel, rfl⟩
theorem dX9_weeksBound_26 : q_at cX9_weeksBound 26 (.getfield 236) 3 29 := ⟨by decide +kernel, rfl⟩
theorem dX9_weeksBound_29 : q_at cX9_weeksBound 29 (.iload 4) 2 31 := ⟨by decide +kernel, rfl⟩
theorem dX9_weeksBound_31 : q_at cX9_weeksBound 31 (.iaload) 1 32 := ⟨by decide +kernel, rfl⟩
theorem dX9_weeksBound_32 : q_at cX9_weeksBound 32 (.aload_n 0) 1 33 := ⟨by decide +kernel, rfl⟩
theorem dX9_weeksBound_33 : q_at cX9_weeksBound 33 (.getfield 28) 3 36 := ⟨by decide +kernel, rfl⟩
theorem dX9_weeksBound_36 : q_at cX9_weeksBound 36 (.getfield 190) 3 39 := ⟨by decide +kernel, rfl⟩
theorem dX9_weeksBound_39 : q_at cX9_weeksBound 39 (.iload_n 1) 1 40 := ⟨by decide +kernel, rfl⟩
theorem dX9_weeksBound_40 : q_at cX9_weeksBound 40 (.iaload) 1 41 := ⟨by decide +kernel, rfl⟩
theorem dX9_weeksBound_41 : q_at cX9_weeksBound 41 (.imul) 1 42 := ⟨by decide +kernel, rfl⟩
theorem dX9_weeksBound_42 : q_at cX9_weeksBound 42 (.bipush 7) 2 44 := ⟨by decide +kernel, rfl⟩
theorem dX9_weeksBound_44 : q_at cX9_weeksBound 44 (.imul) 1 45 := ⟨by decide +kernel, rfl⟩
theorem dX9_weeksBound_45 : q_at cX9_weeksBound 45 (.istore 5) 2 47 := ⟨by decide +kernel, rfl⟩
theorem dX9_weeksBound_47 : q_at cX9_weeksBound 47 (.aload_n 0) 1 48 := ⟨by decide +kernel, rfl⟩
theorem dX9_weeksBound_48 : q_at cX9_weeksBound 48 (.iload_n 1) 1 49 := ⟨by decide +kernel, rfl⟩
theorem dX9_weeksBound_49 : q_at cX9_weeksBound 49 (.invokevirtual 141) 3 52 := ⟨by decide +kernel, rfl⟩
theorem dX9_weeksBound_52 : q_at cX9_weeksBound 52 (.istore 6) 2 54 := ⟨by decide +kernel, rfl⟩
theorem dX9_weeksBound_54 : q_at cX9_weeksBound 54 (.iconst 1) 1 55 := ⟨by decide +kernel, rfl⟩
theorem dX9_weeksBound_55 : q_at cX9_weeksBound 55 (.istore 7) 2 57 := ⟨by decide +kernel, rfl⟩
theorem dX9_weeksBound_57 : q_at cX9_weeksBound 57 (.iload 7) 2 59 := ⟨by decide +kernel, rfl⟩
theorem dX9_weeksBound_59 : q_at cX9_weeksBound 59 (.sipush 1000) 3 62 := ⟨by decide +kernel, rfl⟩
theorem dX9_weeksBound_62 : q_at cX9_weeksBound 62 (.if_icmp .gt 41) 3 65 := ⟨by decide +kernel, rfl⟩
theorem dX9_weeksBound_65 : q_at cX9_weeksBound 65 (.iload 6) 2 67 := ⟨by decide +kernel, rfl⟩
theorem dX9_weeksBound_67 : q_at cX9_weeksBound 67 (.iload 5) 2 69 := ⟨by decide +kernel, rfl⟩
theorem dX9_weeksBound_69 : q_at cX9_weeksBound 69 (.iadd) 1 70 := ⟨by decide +kernel, rfl⟩
theorem dX9_weeksBound_70 : q_at cX9_weeksBound 70 (.istore 6) 2 72 := ⟨by decide +kernel, rfl⟩
theorem dX9_weeksBound_72 : q_at cX9_weeksBound 72 (.iload 7) 2 74 := ⟨by decide +kernel, rfl⟩
theorem dX9_weeksBound_74 : q_at cX9_weeksBound 74 (.iload_n 3) 1 75 := ⟨by decide +kernel, rfl⟩
theorem dX9_weeksBound_75 : q_at cX9_weeksBound 75 (.irem) 1 76 := ⟨by decide +kernel, rfl⟩
theorem dX9_weeksBound_76 : q_at cX9_weeksBound 76 (.ifCond .ne 13) 3 79 := ⟨by decide +kernel, rfl⟩
theorem dX9_weeksBound_79 : q_at cX9_weeksBound 79 (.iconst 0) 1 80 := ⟨by decide +kernel, rfl⟩
theorem dX9_weeksBound_80 : q_at cX9_weeksBound 80 (.iload 6) 2 82 := ⟨by decide +kernel, rfl⟩
theorem dX9_weeksBound_82 : q_at cX9_weeksBound 82 (.iload_n 2) 1 83 := ⟨by decide +kernel, rfl⟩
theorem dX9_weeksBound_83 : q_at cX9_weeksBound 83 (.isub) 1 84 := ⟨by decide +kernel, rfl⟩
theorem dX9_weeksBound_84 : q_at cX9_weeksBound 84 (.invokestatic 205) 3 87 := ⟨by decide +kernel, rfl⟩
theorem dX9_weeksBound_87 : q_at cX9_weeksBound 87 (.istore 6) 2 89 := ⟨by decide +kernel, rfl⟩
theorem dX9_weeksBound_89 : q_at cX9_weeksBound 89 (.iload 6) 2 91 := ⟨by decide +kernel, rfl⟩
theorem dX9_weeksBound_91 : q_at cX9_weeksBound 91 (.ifCond .ne 6) 3 94 := ⟨by decide +kernel, rfl⟩
theorem dX9_weeksBound_94 : q_at cX9_weeksBound 94 (.iload 7) 2 96 := ⟨by decide +kernel, rfl⟩
theorem dX9_weeksBound_96 : q_at cX9_weeksBound 96 (.ireturn) 1 97 := ⟨by decide +kernel, rfl⟩
theorem dX9_weeksBound_97 : q_at cX9_weeksBound 97 (.iinc 7 1) 3 100 := ⟨by decide +kernel, rfl⟩
theorem dX9_weeksBound_100 : q_at cX9_weeksBound 100 (.goto (-43)) 3 103 := ⟨by decide +kernel, rfl⟩
theorem dX9_weeksBound_103 : q_at cX9_weeksBound 103 (.ldc_w 312) 3 106 := ⟨by decide +kernel, rfl⟩
theorem dX9_weeksBound_106 : q_at cX9_weeksBound 106 (.ireturn) 1 107 := ⟨by decide +kernel, rfl⟩
theorem dX9_weighStrikes_0 : q_at cX9_weighStrikes 0 (.aload_n 0) 1 1 := ⟨by decide +kernel, rfl⟩
theorem dX9_weighStrikes_1 : q_at cX9_weighStrikes 1 (.getfield 21) 3 4 := ⟨by decide +kernel, rfl⟩
theorem dX9_weighStrikes_4 : q_at cX9_weighStrikes 4 (.iconst 1) 1 5 := ⟨by decide +kernel, rfl⟩
theorem dX9_weighStrikes_5 : q_at cX9_weighStrikes 5 (.invokevirtual 313) 3 8 := ⟨by decide +kernel, rfl⟩
theorem dX9_weighStrikes_8 : q_at cX9_weighStrikes 8 (.istore_n 1) 1 9 := ⟨by decide +kernel, rfl⟩
theorem dX9_weighStrikes_9 : q_at cX9_weighStrikes 9 (.iconst 0) 1 10 := ⟨by decide +kernel, rfl⟩
theorem dX9_weighStrikes_10 : q_at cX9_weighStrikes 10 (.istore_n 2) 1 11 := ⟨by decide +kernel, rfl⟩
theorem dX9_weighStrikes_11 : q_at cX9_weighStrikes 11 (.iload_n 2) 1 12 := ⟨by decide +kernel, rfl⟩
theorem dX9_weighStrikes_12 : q_at cX9_weighStrikes 12 (.bipush 8) 2 14 := ⟨by decide +kernel, rfl⟩
theorem dX9_weighStrikes_14 : q_at cX9_weighStrikes 14 (.if_icmp .ge 23) 3 17 := ⟨by decide +kernel, rfl⟩
theorem dX9_weighStrikes_17 : q_at cX9_weighStrikes 17 (.aload_n 0) 1 18 := ⟨by decide +kernel, rfl⟩
theorem dX9_weighStrikes_18 : q_at cX9_weighStrikes 18 (.getfield 77) 3 21 := ⟨by decide +kernel, rfl⟩
theorem dX9_weighStrikes_21 : q_at cX9_weighStrikes 21 (.iload_n 2) 1 22 := ⟨by decide +kernel, rfl⟩
theorem dX9_weighStrikes_22 : q_at cX9_weighStrikes 22 (.iconst (-1)) 1 23 := ⟨by decide +kernel, rfl⟩
theorem dX9_weighStrikes_23 : q_at cX9_weighStrikes 23 (.iastore) 1 24 := ⟨by decide +kernel, rfl⟩
theorem dX9_weighStrikes_24 : q_at cX9_weighStrikes 24 (.aload_n 0) 1 25 := ⟨by decide +kernel, rfl⟩
theorem dX9_weighStrikes_25 : q_at cX9_weighStrikes 25 (.getfield 80) 3 28 := ⟨by decide +kernel, rfl⟩
theorem dX9_weighStrikes_28 : q_at cX9_weighStrikes 28 (.iload_n 2) 1 29 := ⟨by decide +kernel, rfl⟩
theorem dX9_weighStrikes_29 : q_at cX9_weighStrikes 29 (.iconst 0) 1 30 := ⟨by decide +kernel, rfl⟩
theorem dX9_weighStrikes_30 : q_at cX9_weighStrikes 30 (.iastore) 1 31 := ⟨by decide +kernel, rfl⟩
theorem dX9_weighStrikes_31 : q_at cX9_weighStrikes 31 (.iinc 2 1) 3 34 := ⟨by decide +kernel, rfl⟩
theorem dX9_weighStrikes_34 : q_at cX9_weighStrikes 34 (.goto (-23)) 3 37 := ⟨by decide +kernel, rfl⟩
theorem dX9_weighStrikes_37 : q_at cX9_weighStrikes 37 (.iconst 0) 1 38 := ⟨by decide +kernel, rfl⟩
theorem dX9_weighStrikes_38 : q_at cX9_weighStrikes 38 (.istore_n 2) 1 39 := ⟨by decide +kernel, rfl⟩
theorem dX9_weighStrikes_39 : q_at cX9_weighStrikes 39 (.iload_n 2) 1 40 := ⟨by decide +kernel, rfl⟩
theorem dX9_weighStrikes_40 : q_at cX9_weighStrikes 40 (.aload_n 0) 1 41 := ⟨by decide +kernel, rfl⟩
theorem dX9_weighStrikes_41 : q_at cX9_weighStrikes 41 (.getfield 28) 3 44 := ⟨by decide +kernel, rfl⟩
theorem dX9_weighStrikes_44 : q_at cX9_weighStrikes 44 (.getfield 134) 3 47 := ⟨by decide +kernel, rfl⟩
theorem dX9_weighStrikes_47 : q_at cX9_weighStrikes 47 (.if_icmp .ge 145) 3 50 := ⟨by decide +kernel, rfl⟩
theorem dX9_weighStrikes_50 : q_at cX9_weighStrikes 50 (.aload_n 0) 1 51 := ⟨by decide +kernel, rfl⟩
theorem dX9_weighStrikes_51 : q_at cX9_weighStrikes 51 (.getfield 28) 3 54 := ⟨by decide +kernel, rfl⟩
theorem dX9_weighStrikes_54 : q_at cX9_weighStrikes 54 (.getfield 190) 3 57 := ⟨by decide +kernel, rfl⟩
theorem dX9_weighStrikes_57 : q_at cX9_weighStrikes 57 (.iload_n 2) 1 58 := ⟨by decide +kernel, rfl⟩
theorem dX9_weighStrikes_58 : q_at cX9_weighStrikes 58 (.iaload) 1 59 := ⟨by decide +kernel, rfl⟩
theorem dX9_weighStrikes_59 : q_at cX9_weighStrikes 59 (.istore_n 3) 1 60 := ⟨by decide +kernel, rfl⟩
theorem dX9_weighStrikes_60 : q_at cX9_weighStrikes 60 (.aload_n 0) 1 61 := ⟨by decide +kernel, rfl⟩
theorem dX9_weighStrikes_61 : q_at cX9_weighStrikes 61 (.getfield 28) 3 64 := ⟨by decide +kernel, rfl⟩
theorem dX9_weighStrikes_64 : q_at cX9_weighStrikes 64 (.iload_n 2) 1 65 := ⟨by decide +kernel, rfl⟩
theorem dX9_weighStrikes_65 : q_at cX9_weighStrikes 65 (.invokevirtual 144) 3 68 := ⟨by decide +kernel, rfl⟩
theorem dX9_weighStrikes_68 : q_at cX9_weighStrikes 68 (.ifCond .ne 118) 3 71 := ⟨by decide +kernel, rfl⟩
theorem dX9_weighStrikes_71 : q_at cX9_weighStrikes 71 (.iload_n 3) 1 72 := ⟨by decide +kernel, rfl⟩
theorem dX9_weighStrikes_72 : q_at cX9_weighStrikes 72 (.ifCond .gt 6) 3 75 := ⟨by decide +kernel, rfl⟩
theorem dX9_weighStrikes_75 : q_at cX9_weighStrikes 75 (.goto 111) 3 78 := ⟨by decide +kernel, rfl⟩
theorem dX9_weighStrikes_78 : q_at cX9_weighStrikes 78 (.aload_n 0) 1 79 := ⟨by decide +kernel, rfl⟩
theorem dX9_weighStrikes_79 : q_at cX9_weighStrikes 79 (.getfield 28) 3 82 := ⟨by decide +kernel, rfl⟩
theorem dX9_weighStrikes_82 : q_at cX9_weighStrikes 82 (.getfield 163) 3 85 := ⟨by decide +kernel, rfl⟩
theorem dX9_weighStrikes_85 : q_at cX9_weighStrikes 85 (.iload_n 2) 1 86 := ⟨by decide +kernel, rfl⟩
theorem dX9_weighStrikes_86 : q_at cX9_weighStrikes 86 (.iaload) 1 87 := ⟨by decide +kernel, rfl⟩
theorem dX9_weighStrikes_87 : q_at cX9_weighStrikes 87 (.istore 4) 2 89 := ⟨by decide +kernel, rfl⟩
theorem dX9_weighStrikes_89 : q_at cX9_weighStrikes 89 (.aload_n 0) 1 90 := ⟨by decide +kernel, rfl⟩
theorem dX9_weighStrikes_90 : q_at cX9_weighStrikes 90 (.getfield 28) 3 93 := ⟨by decide +kernel, rfl⟩
theorem dX9_weighStrikes_93 : q_at cX9_weighStrikes 93 (.getfield 199) 3 96 := ⟨by decide +kernel, rfl⟩
theorem dX9_weighStrikes_96 : q_at cX9_weighStrikes 96 (.iload_n 2) 1 97 := ⟨by decide +kernel, rfl⟩
theorem dX9_weighStrikes_97 : q_at cX9_weighStrikes 97 (.iaload) 1 98 := ⟨by decide +kernel, rfl⟩
theorem dX9_weighStrikes_98 : q_at cX9_weighStrikes 98 (.iload_n 1) 1 99 := ⟨by decide +kernel, rfl⟩
theorem dX9_weighStrikes_99 : q_at cX9_weighStrikes 99 (.ifCond .le 17) 3 102 := ⟨by decide +kernel, rfl⟩
theorem dX9_weighStrikes_102 : q_at cX9_weighStrikes 102 (.aload_n 0) 1 103 := ⟨by decide +kernel, rfl⟩
theorem dX9_weighStrikes_103 : q_at cX9_weighStrikes 103 (.getfield 28) 3 106 := ⟨by decide +kernel, rfl⟩
theorem dX9_weighStrikes_106 : q_at cX9_weighStrikes 106 (.getfield 246) 3 109 := ⟨by decide +kernel, rfl⟩
theorem dX9_weighStrikes_109 : q_at cX9_weighStrikes 109 (.iload_n 2) 1 110 := ⟨by decide +kernel, rfl⟩
theorem dX9_weighStrikes_110 : q_at cX9_weighStrikes 110 (.iaload) 1 111 := ⟨by decide +kernel, rfl⟩
theorem dX9_weighStrikes_111 : q_at cX9_weighStrikes 111 (.iload_n 1) 1 112 := ⟨by decide +kernel, rfl⟩
theorem dX9_weighStrikes_112 : q_at cX9_weighStrikes 112 (.idiv) 1 113 := ⟨by decide +kernel, rfl⟩
theorem dX9_weighStrikes_113 : q_at cX9_weighStrikes 113 (.goto 4) 3 116 := ⟨by decide +kernel, rfl⟩
theorem dX9_weighStrikes_116 : q_at cX9_weighStrikes 116 (.iconst 0) 1 117 := ⟨by decide +kernel, rfl⟩
theorem dX9_weighStrikes_117 : q_at cX9_weighStrikes 117 (.iadd) 1 118 := ⟨by decide +kernel, rfl⟩
theorem dX9_weighStrikes_118 : q_at cX9_weighStrikes 118 (.iload_n 3) 1 119 := ⟨by decide +kernel, rfl⟩
theorem dX9_weighStrikes_119 : q_at cX9_weighStrikes 119 (.idiv) 1 120 := ⟨by decide +kernel, rfl⟩
theorem dX9_weighStrikes_120 : q_at cX9_weighStrikes 120 (.istore 5) 2 122 := ⟨by decide +kernel, rfl⟩
theorem dX9_weighStrikes_122 : q_at cX9_weighStrikes 122 (.aload_n 0) 1 123 := ⟨by decide +kernel, rfl⟩
theorem dX9_weighStrikes_123 : q_at cX9_weighStrikes 123 (.getfield 77) 3 126 := ⟨by decide +kernel, rfl⟩
theorem dX9_weighStrikes_126 : q_at cX9_weighStrikes 126 (.iload 4) 2 128 := ⟨by decide +kernel, rfl⟩
theorem dX9_weighStrikes_128 : q_at cX9_weighStrikes 128 (.aload_n 0) 1 129 := ⟨by decide +kernel, rfl⟩
theorem dX9_weighStrikes_129 : q_at cX9_weighStrikes 129 (.getfield 77) 3 132 := ⟨by decide +kernel, rfl⟩
theorem dX9_weighStrikes_132 : q_at cX9_weighStrikes 132 (.iload 4) 2 134 := ⟨by decide +kernel, rfl⟩
theorem dX9_weighStrikes_134 : q_at cX9_weighStrikes 134 (.iaload) 1 135 := ⟨by decide +kernel, rfl⟩
theorem dX9_weighStrikes_135 : q_at cX9_weighStrikes 135 (.ifCond .ge 8) 3 138 := ⟨by decide +kernel, rfl⟩
theorem dX9_weighStrikes_138 : q_at cX9_weighStrikes 138 (.iload 5) 2 140 := ⟨by decide +kernel, rfl⟩
theorem dX9_weighStrikes_140 : q_at cX9_weighStrikes 140 (.goto 15) 3 143 := ⟨by decide +kernel, rfl⟩
theorem dX9_weighStrikes_143 : q_at cX9_weighStrikes 143 (.aload_n 0) 1 144 := ⟨by decide +kernel, rfl⟩
theorem dX9_weighStrikes_144 : q_at cX9_weighStrikes 144 (.getfield 77) 3 147 := ⟨by decide +kernel, rfl⟩
theorem dX9_weighStrikes_147 : q_at cX9_weighStrikes 147 (.iload 4) 2 149 := ⟨by decide +kernel, rfl⟩
theorem dX9_weighStrikes_149 : q_at cX9_weighStrikes 149 (.iaload) 1 150 := ⟨by decide +kernel, rfl⟩
theorem dX9_weighStrikes_150 : q_at cX9_weighStrikes 150 (.iload 5) 2 152 := ⟨by decide +kernel, rfl⟩
theorem dX9_weighStrikes_152 : q_at cX9_weighStrikes 152 (.invokestatic 233) 3 155 := ⟨by decide +kernel, rfl⟩
theorem dX9_weighStrikes_155 : q_at cX9_weighStrikes 155 (.iastore) 1 156 := ⟨by decide +kernel, rfl⟩
theorem dX9_weighStrikes_156 : q_at cX9_weighStrikes 156 (.aload_n 0) 1 157 := ⟨by decide +kernel, rfl⟩
theorem dX9_weighStrikes_157 : q_at cX9_weighStrikes 157 (.getfield 80) 3 160 := ⟨by decide +kernel, rfl⟩
theorem dX9_weighStrikes_160 : q_at cX9_weighStrikes 160 (.iload 4) 2 162 := ⟨by decide +kernel, rfl⟩
theorem dX9_weighStrikes_162 : q_at cX9_weighStrikes 162 (.dup2) 1 163 := ⟨by decide +kernel, rfl⟩
theorem dX9_weighStrikes_163 : q_at cX9_weighStrikes 163 (.iaload) 1 164 := ⟨by decide +kernel, rfl⟩
theorem dX9_weighStrikes_164 : q_at cX9_weighStrikes 164 (.aload_n 0) 1 165 := ⟨by decide +kernel, rfl⟩
theorem dX9_weighStrikes_165 : q_at cX9_weighStrikes 165 (.getfield 28) 3 168 := ⟨by decide +kernel, rfl⟩
theorem dX9_weighStrikes_168 : q_at cX9_weighStrikes 168 (.getfield 166) 3 171 := ⟨by decide +kernel, rfl⟩
theorem dX9_weighStrikes_171 : q_at cX9_weighStrikes 171 (.iload_n 2) 1 172 := ⟨by decide +kernel, rfl⟩
theorem dX9_weighStrikes_172 : q_at cX9_weighStrikes 172 (.iaload) 1 173 := ⟨by decide +kernel, rfl⟩
theorem dX9_weighStrikes_173 : q_at cX9_weighStrikes 173 (.aload_n 0) 1 174 := ⟨by decide +kernel, rfl⟩
theorem dX9_weighStrikes_174 : q_at cX9_weighStrikes 174 (.getfield 12) 3 177 := ⟨by decide +kernel, rfl⟩
theorem dX9_weighStrikes_177 : q_at cX9_weighStrikes 177 (.getfield 169) 3 180 := ⟨by decide +kernel, rfl⟩
theorem dX9_weighStrikes_180 : q_at cX9_weighStrikes 180 (.iload 4) 2 182 := ⟨by decide +kernel, rfl⟩
theorem dX9_weighStrikes_182 : q_at cX9_weighStrikes 182 (.iaload) 1 183 := ⟨by decide +kernel, rfl⟩
theorem dX9_weighStrikes_183 : q_at cX9_weighStrikes 183 (.imul) 1 184 := ⟨by decide +kernel, rfl⟩
theorem dX9_weighStrikes_184 : q_at cX9_weighStrikes 184 (.iadd) 1 185 := ⟨by decide +kernel, rfl⟩
theorem dX9_weighStrikes_185 : q_at cX9_weighStrikes 185 (.iastore) 1 186 := ⟨by decide +kernel, rfl⟩
theorem dX9_weighStrikes_186 : q_at cX9_weighStrikes 186 (.iinc 2 1) 3 189 := ⟨by decide +kernel, rfl⟩
theorem dX9_weighStrikes_189 : q_at cX9_weighStrikes 189 (.goto (-150)) 3 192 := ⟨by decide +kernel, rfl⟩
theorem dX9_weighStrikes_192 : q_at cX9_weighStrikes 192 (.return_) 1 193 := ⟨by decide +kernel, rfl⟩
theorem dX9_buyByChecks_0 : q_at cX9_buyByChecks 0 (.aload_n 0) 1 1 := ⟨by decide +kernel, rfl⟩
theorem dX9_buyByChecks_1 : q_at cX9_buyByChecks 1 (.getfield 28) 3 4 := ⟨by decide +kernel, rfl⟩
theorem dX9_buyByChecks_4 : q_at cX9_buyByChecks 4 (.iload_n 1) 1 5 := ⟨by decide +kernel, rfl⟩
theorem dX9_buyByChecks_5 : q_at cX9_buyByChecks 5 (.invokevirtual 193) 3 8 := ⟨by decide +kernel, rfl⟩
theorem dX9_buyByChecks_8 : q_at cX9_buyByChecks 8 (.aload_n 0) 1 9 := ⟨by decide +kernel, rfl⟩
theorem dX9_buyByChecks_9 : q_at cX9_buyByChecks 9 (.getfield 21) 3 12 := ⟨by decide +kernel, rfl⟩
theorem dX9_buyByChecks_12 : q_at cX9_buyByChecks 12 (.iload_n 2) 1 13 := ⟨by decide +kernel, rfl⟩
theorem dX9_buyByChecks_13 : q_at cX9_buyByChecks 13 (.aload_n 0) 1 14 := ⟨by decide +kernel, rfl⟩
theorem dX9_buyByChecks_14 : q_at cX9_buyByChecks 14 (.getfield 28) 3 17 := ⟨by decide +kernel, rfl⟩
theorem dX9_buyByChecks_17 : q_at cX9_buyByChecks 17 (.getfield 227) 3 20 := ⟨by decide +kernel, rfl⟩
theorem dX9_buyByChecks_20 : q_at cX9_buyByChecks 20 (.iload_n 1) 1 21 := ⟨by decide +kernel, rfl⟩
theorem dX9_buyByChecks_21 : q_at cX9_buyByChecks 21 (.iaload) 1 22 := ⟨by decide +kernel, rfl⟩
theorem dX9_buyByChecks_22 : q_at cX9_buyByChecks 22 (.invokevirtual 230) 3 25 := ⟨by decide +kernel, rfl⟩
theorem dX9_buyByChecks_25 : q_at cX9_buyByChecks 25 (.invokestatic 233) 3 28 := ⟨by decide +kernel, rfl⟩
theorem dX9_buyByChecks_28 : q_at cX9_buyByChecks 28 (.istore_n 3) 1 29 := ⟨by decide +kernel, rfl⟩
theorem dX9_buyByChecks_29 : q_at cX9_buyByChecks 29 (.iload_n 3) 1 30 := ⟨by decide +kernel, rfl⟩
theorem dX9_buyByChecks_30 : q_at cX9_buyByChecks 30 (.ifCond .gt 4) 3 33 := ⟨by decide +kernel, rfl⟩
theorem dX9_buyByChecks_33 : q_at cX9_buyByChecks 33 (.return_) 1 34 := ⟨by decide +kernel, rfl⟩
theorem dX9_buyByChecks_34 : q_at cX9_buyByChecks 34 (.aload_n 0) 1 35 := ⟨by decide +kernel, rfl⟩
theorem dX9_buyByChecks_35 : q_at cX9_buyByChecks 35 (.getfield 28) 3 38 := ⟨by decide +kernel, rfl⟩
theorem dX9_buyByChecks_38 : q_at cX9_buyByChecks 38 (.getfield 227) 3 41 := ⟨by decide +kernel, rfl⟩
theorem dX9_buyByChecks_41 : q_at cX9_buyByChecks 41 (.iload_n 1) 1 42 := ⟨by decide +kernel, rfl⟩
theorem dX9_buyByChecks_42 : q_at cX9_buyByChecks 42 (.dup2) 1 43 := ⟨by decide +kernel, rfl⟩
theorem dX9_buyByChecks_43 : q_at cX9_buyByChecks 43 (.iaload) 1 44 := ⟨by decide +kernel, rfl⟩
theorem dX9_buyByChecks_44 : q_at cX9_buyByChecks 44 (.iload_n 3) 1 45 := ⟨by decide +kernel, rfl⟩
theorem dX9_buyByChecks_45 : q_at cX9_buyByChecks 45 (.aload_n 0) 1 46 := ⟨by decide +kernel, rfl⟩
theorem dX9_buyByChecks_46 : q_at cX9_buyByChecks 46 (.getfield 21) 3 49 := ⟨by decide +kernel, rfl⟩
theorem dX9_buyByChecks_49 : q_at cX9_buyByChecks 49 (.getfield 236) 3 52 := ⟨by decide +kernel, rfl⟩
theorem dX9_buyByChecks_52 : q_at cX9_buyByChecks 52 (.iload_n 2) 1 53 := ⟨by decide +kernel, rfl⟩
theorem dX9_buyByChecks_53 : q_at cX9_buyByChecks 53 (.iaload) 1 54 := ⟨by decide +kernel, rfl⟩
theorem dX9_buyByChecks_54 : q_at cX9_buyByChecks 54 (.imul) 1 55 := ⟨by decide +kernel, rfl⟩
theorem dX9_buyByChecks_55 : q_at cX9_buyByChecks 55 (.isub) 1 56 := ⟨by decide +kernel, rfl⟩
theorem dX9_buyByChecks_56 : q_at cX9_buyByChecks 56 (.iastore) 1 57 := ⟨by decide +kernel, rfl⟩
theorem dX9_buyByChecks_57 : q_at cX9_buyByChecks 57 (.aload_n 0) 1 58 := ⟨by decide +kernel, rfl⟩
theorem dX9_buyByChecks_58 : q_at cX9_buyByChecks 58 (.iload_n 1) 1 59 := ⟨by decide +kernel, rfl⟩
theorem dX9_buyByChecks_59 : q_at cX9_buyByChecks 59 (.iload_n 2) 1 60 := ⟨by decide +kernel, rfl⟩
theorem dX9_buyByChecks_60 : q_at cX9_buyByChecks 60 (.iload_n 3) 1 61 := ⟨by decide +kernel, rfl⟩
theorem dX9_buyByChecks_61 : q_at cX9_buyByChecks 61 (.invokevirtual 239) 3 64 := ⟨by decide +kernel, rfl⟩
theorem dX9_buyByChecks_64 : q_at cX9_buyByChecks 64 (.return_) 1 65 := ⟨by decide +kernel, rfl⟩
theorem dX9_buyInTown_0 : q_at cX9_buyInTown 0 (.aload_n 0) 1 1 := ⟨by decide +kernel, rfl⟩
theorem dX9_buyInTown_1 : q_at cX9_buyInTown 1 (.getfield 28) 3 4 := ⟨by decide +kernel, rfl⟩
theorem dX9_buyInTown_4 : q_at cX9_buyInTown 4 (.iload_n 1) 1 5 := ⟨by decide +kernel, rfl⟩
theorem dX9_buyInTown_5 : q_at cX9_buyInTown 5 (.invokevirtual 193) 3 8 := ⟨by decide +kernel, rfl⟩
theorem dX9_buyInTown_8 : q_at cX9_buyInTown 8 (.istore_n 2) 1 9 := ⟨by decide +kernel, rfl⟩
theorem dX9_buyInTown_9 : q_at cX9_buyInTown 9 (.iload_n 2) 1 10 := ⟨by decide +kernel, rfl⟩
theorem dX9_buyInTown_10 : q_at cX9_buyInTown 10 (.ifCond .le 12) 3 13 := ⟨by decide +kernel, rfl⟩
theorem dX9_buyInTown_13 : q_at cX9_buyInTown 13 (.aload_n 0) 1 14 := ⟨by decide +kernel, rfl⟩
theorem dX9_buyInTown_14 : q_at cX9_buyInTown 14 (.iload_n 1) 1 15 := ⟨by decide +kernel, rfl⟩
theorem dX9_buyInTown_15 : q_at cX9_buyInTown 15 (.iload_n 2) 1 16 := ⟨by decide +kernel, rfl⟩
theorem dX9_buyInTown_16 : q_at cX9_buyInTown 16 (.invokevirtual 243) 3 19 := ⟨by decide +kernel, rfl⟩
theorem dX9_buyInTown_19 : q_at cX9_buyInTown 19 (.goto 4) 3 22 := ⟨by decide +kernel, rfl⟩
theorem dX9_buyInTown_22 : q_at cX9_buyInTown 22 (.iconst (-1)) 1 23 := ⟨by decide +kernel, rfl⟩
theorem dX9_buyInTown_23 : q_at cX9_buyInTown 23 (.istore_n 3) 1 24 := ⟨by decide +kernel, rfl⟩
theorem dX9_buyInTown_24 : q_at cX9_buyInTown 24 (.iload_n 3) 1 25 := ⟨by decide +kernel, rfl⟩
theorem dX9_buyInTown_25 : q_at cX9_buyInTown 25 (.ifCond .ge 4) 3 28 := ⟨by decide +kernel, rfl⟩
theorem dX9_buyInTown_28 : q_at cX9_buyInTown 28 (.return_) 1 29 := ⟨by decide +kernel, rfl⟩
theorem dX9_buyInTown_29 : q_at cX9_buyInTown 29 (.iload_n 2) 1 30 := ⟨by decide +kernel, rfl⟩
theorem dX9_buyInTown_30 : q_at cX9_buyInTown 30 (.aload_n 0) 1 31 := ⟨by decide +kernel, rfl⟩
theorem dX9_buyInTown_31 : q_at cX9_buyInTown 31 (.getfield 21) 3 34 := ⟨by decide +kernel, rfl⟩
theorem dX9_buyInTown_34 : q_at cX9_buyInTown 34 (.iload_n 3) 1 35 := ⟨by decide +kernel, rfl⟩
theorem dX9_buyInTown_35 : q_at cX9_buyInTown 35 (.aload_n 0) 1 36 := ⟨by decide +kernel, rfl⟩
theorem dX9_buyInTown_36 : q_at cX9_buyInTown 36 (.getfield 28) 3 39 := ⟨by decide +kernel, rfl⟩
theorem dX9_buyInTown_39 : q_at cX9_buyInTown 39 (.getfield 246) 3 42 := ⟨by decide +kernel, rfl⟩
theorem dX9_buyInTown_42 : q_at cX9_buyInTown 42 (.iload_n 1) 1 43 := ⟨by decide +kernel, rfl⟩
theorem dX9_buyInTown_43 : q_at cX9_buyInTown 43 (.iaload) 1 44 := ⟨by decide +kernel, rfl⟩
theorem dX9_buyInTown_44 : q_at cX9_buyInTown 44 (.aload_n 0) 1 45 := ⟨by decide +kernel, rfl⟩
theorem dX9_buyInTown_45 : q_at cX9_buyInTown 45 (.getfield 21) 3 48 := ⟨by decide +kernel, rfl⟩
theorem dX9_buyInTown_48 : q_at cX9_buyInTown 48 (.getfield 249) 3 51 := ⟨by decide +kernel, rfl⟩
theorem dX9_buyInTown_51 : q_at cX9_buyInTown 51 (.iload_n 3) 1 52 := ⟨by decide +kernel, rfl⟩
theorem dX9_buyInTown_52 : q_at cX9_buyInTown 52 (.iaload) 1 53 := ⟨by decide +kernel, rfl⟩
theorem dX9_buyInTown_53 : q_at cX9_buyInTown 53 (.isub) 1 54 := ⟨by decide +kernel, rfl⟩
theorem dX9_buyInTown_54 : q_at cX9_buyInTown 54 (.invokevirtual 230) 3 57 := ⟨by decide +kernel, rfl⟩
theorem dX9_buyInTown_57 : q_at cX9_buyInTown 57 (.invokestatic 233) 3 60 := ⟨by decide +kernel, rfl⟩
theorem dX9_buyInTown_60 : q_at cX9_buyInTown 60 (.istore 4) 2 62 := ⟨by decide +kernel, rfl⟩
theorem dX9_buyInTown_62 : q_at cX9_buyInTown 62 (.iload 4) 2 64 := ⟨by decide +kernel, rfl⟩
theorem dX9_buyInTown_64 : q_at cX9_buyInTown 64 (.ifCond .gt 4) 3 67 := ⟨by decide +kernel, rfl⟩
theorem dX9_buyInTown_67 : q_at cX9_buyInTown 67 (.return_) 1 68 := ⟨by decide +kernel, rfl⟩
theorem dX9_buyInTown_68 : q_at cX9_buyInTown 68 (.aload_n 0) 1 69 := ⟨by decide +kernel, rfl⟩
theorem dX9_buyInTown_69 : q_at cX9_buyInTown 69 (.getfield 28) 3 72 := ⟨by decide +kernel, rfl⟩
theorem dX9_buyInTown_72 : q_at cX9_buyInTown 72 (.getfield 246) 3 75 := ⟨by decide +kernel, rfl⟩
theorem dX9_buyInTown_75 : q_at cX9_buyInTown 75 (.iload_n 1) 1 76 := ⟨by decide +kernel, rfl⟩
theorem dX9_buyInTown_76 : q_at cX9_buyInTown 76 (.dup2) 1 77 := ⟨by decide +kernel, rfl⟩
theorem dX9_buyInTown_77 : q_at cX9_buyInTown 77 (.iaload) 1 78 := ⟨by decide +kernel, rfl⟩
theorem dX9_buyInTown_78 : q_at cX9_buyInTown 78 (.iload 4) 2 80 := ⟨by decide +kernel, rfl⟩
theorem dX9_buyInTown_80 : q_at cX9_buyInTown 80 (.aload_n 0) 1 81 := ⟨by decide +kernel, rfl⟩
theorem dX9_buyInTown_81 : q_at cX9_buyInTown 81 (.getfield 21) 3 84 := ⟨by decide +kernel, rfl⟩
theorem dX9_buyInTown_84 : q_at cX9_buyInTown 84 (.getfield 236) 3 87 := ⟨by decide +kernel, rfl⟩
theorem dX9_buyInTown_87 : q_at cX9_buyInTown 87 (.iload_n 3) 1 88 := ⟨by decide +kernel, rfl⟩
theorem dX9_buyInTown_88 : q_at cX9_buyInTown 88 (.iaload) 1 89 := ⟨by decide +kernel, rfl⟩
theorem dX9_buyInTown_89 : q_at cX9_buyInTown 89 (.imul) 1 90 := ⟨by decide +kernel, rfl⟩
theorem dX9_buyInTown_90 : q_at cX9_buyInTown 90 (.aload_n 0) 1 91 := ⟨by decide +kernel, rfl⟩
theorem dX9_buyInTown_91 : q_at cX9_buyInTown 91 (.getfield 21) 3 94 := ⟨by decide +kernel, rfl⟩
theorem dX9_buyInTown_94 : q_at cX9_buyInTown 94 (.getfield 249) 3 97 := ⟨by decide +kernel, rfl⟩
theorem dX9_buyInTown_97 : q_at cX9_buyInTown 97 (.iload_n 3) 1 98 := ⟨by decide +kernel, rfl⟩
theorem dX9_buyInTown_98 : q_at cX9_buyInTown 98 (.iaload) 1 99 := ⟨by decide +kernel, rfl⟩
theorem dX9_buyInTown_99 : q_at cX9_buyInTown 99 (.iadd) 1 100 := ⟨by decide +kernel, rfl⟩
theorem dX9_buyInTown_100 : q_at cX9_buyInTown 100 (.isub) 1 101 := ⟨by decide +kernel, rfl⟩
theorem dX9_buyInTown_101 : q_at cX9_buyInTown 101 (.iastore) 1 102 := ⟨by decide +kernel, rfl⟩
theorem dX9_buyInTown_102 : q_at cX9_buyInTown 102 (.aload_n 0) 1 103 := ⟨by decide +kernel, rfl⟩
theorem dX9_buyInTown_103 : q_at cX9_buyInTown 103 (.iload_n 1) 1 104 := ⟨by decide +kernel, rfl⟩
theorem dX9_buyInTown_104 : q_at cX9_buyInTown 104 (.iload_n 3) 1 105 := ⟨by decide +kernel, rfl⟩
theorem dX9_buyInTown_105 : q_at cX9_buyInTown 105 (.iload 4) 2 107 := ⟨by decide +kernel, rfl⟩
theorem dX9_buyInTown_107 : q_at cX9_buyInTown 107 (.invokevirtual 239) 3 110 := ⟨by decide +kernel, rfl⟩
theorem dX9_buyInTown_110 : q_at cX9_buyInTown 110 (.return_) 1 111 := ⟨by decide +kernel, rfl⟩
theorem dX9_buyOnDebt_0 : q_at cX9_buyOnDebt 0 (.aload_n 0) 1 1 := ⟨by decide +kernel, rfl⟩
theorem dX9_buyOnDebt_1 : q_at cX9_buyOnDebt 1 (.getfield 28) 3 4 := ⟨by decide +kernel, rfl⟩
theorem dX9_buyOnDebt_4 : q_at cX9_buyOnDebt 4 (.iload_n 1) 1 5 := ⟨by decide +kernel, rfl⟩
theorem dX9_buyOnDebt_5 : q_at cX9_buyOnDebt 5 (.invokevirtual 193) 3 8 := ⟨by decide +kernel, rfl⟩
theorem dX9_buyOnDebt_8 : q_at cX9_buyOnDebt 8 (.aload_n 0) 1 9 := ⟨by decide +kernel, rfl⟩
theorem dX9_buyOnDebt_9 : q_at cX9_buyOnDebt 9 (.getfield 21) 3 12 := ⟨by decide +kernel, rfl⟩
theorem dX9_buyOnDebt_12 : q_at cX9_buyOnDebt 12 (.iload_n 2) 1 13 := ⟨by decide +kernel, rfl⟩
theorem dX9_buyOnDebt_13 : q_at cX9_buyOnDebt 13 (.aload_n 0) 1 14 := ⟨by decide +kernel, rfl⟩
theorem dX9_buyOnDebt_14 : q_at cX9_buyOnDebt 14 (.getfield 67) 3 17 := ⟨by decide +kernel, rfl⟩
theorem dX9_buyOnDebt_17 : q_at cX9_buyOnDebt 17 (.iconst 0) 1 18 := ⟨by decide +kernel, rfl⟩
theorem dX9_buyOnDebt_18 : q_at cX9_buyOnDebt 18 (.iaload) 1 19 := ⟨by decide +kernel, rfl⟩
theorem dX9_buyOnDebt_19 : q_at cX9_buyOnDebt 19 (.aload_n 0) 1 20 := ⟨by decide +kernel, rfl⟩
theorem dX9_buyOnDebt_20 : q_at cX9_buyOnDebt 20 (.iload_n 1) 1 21 := ⟨by decide +kernel, rfl⟩
theorem dX9_buyOnDebt_21 : q_at cX9_buyOnDebt 21 (.invokevirtual 141) 3 24 := ⟨by decide +kernel, rfl⟩
theorem dX9_buyOnDebt_24 : q_at cX9_buyOnDebt 24 (.isub) 1 25 := ⟨by decide +kernel, rfl⟩
theorem dX9_buyOnDebt_25 : q_at cX9_buyOnDebt 25 (.invokevirtual 230) 3 28 := ⟨by decide +kernel, rfl⟩
theorem dX9_buyOnDebt_28 : q_at cX9_buyOnDebt 28 (.invokestatic 233) 3 31 := ⟨by decide +kernel, rfl⟩
theorem dX9_buyOnDebt_31 : q_at cX9_buyOnDebt 31 (.istore_n 3) 1 32 := ⟨by decide +kernel, rfl⟩
theorem dX9_buyOnDebt_32 : q_at cX9_buyOnDebt 32 (.iload_n 3) 1 33 := ⟨by decide +kernel, rfl⟩
theorem dX9_buyOnDebt_33 : q_at cX9_buyOnDebt 33 (.ifCond .gt 4) 3 36 := ⟨by decide +kernel, rfl⟩
theorem dX9_buyOnDebt_36 : q_at cX9_buyOnDebt 36 (.return_) 1 37 := ⟨by decide +kernel, rfl⟩
theorem dX9_buyOnDebt_37 : q_at cX9_buyOnDebt 37 (.aload_n 0) 1 38 := ⟨by decide +kernel, rfl⟩
theorem dX9_buyOnDebt_38 : q_at cX9_buyOnDebt 38 (.getfield 35) 3 41 := ⟨by decide +kernel, rfl⟩
theorem dX9_buyOnDebt_41 : q_at cX9_buyOnDebt 41 (.getfield 131) 3 44 := ⟨by decide +kernel, rfl⟩
theorem dX9_buyOnDebt_44 : q_at cX9_buyOnDebt 44 (.aload_n 0) 1 45 := ⟨by decide +kernel, rfl⟩
theorem dX9_buyOnDebt_45 : q_at cX9_buyOnDebt 45 (.getfield 28) 3 48 := ⟨by decide +kernel, rfl⟩
theorem dX9_buyOnDebt_48 : q_at cX9_buyOnDebt 48 (.getfield 128) 3 51 := ⟨by decide +kernel, rfl⟩
theorem dX9_buyOnDebt_51 : q_at cX9_buyOnDebt 51 (.iload_n 1) 1 52 := ⟨by decide +kernel, rfl⟩
theorem dX9_buyOnDebt_52 : q_at cX9_buyOnDebt 52 (.iaload) 1 53 := ⟨by decide +kernel, rfl⟩
theorem dX9_buyOnDebt_53 : q_at cX9_buyOnDebt 53 (.dup2) 1 54 := ⟨by decide +kernel, rfl⟩
theorem dX9_buyOnDebt_54 : q_at cX9_buyOnDebt 54 (.iaload) 1 55 := ⟨by decide +kernel, rfl⟩
theorem dX9_buyOnDebt_55 : q_at cX9_buyOnDebt 55 (.iload_n 3) 1 56 := ⟨by decide +kernel, rfl⟩
theorem dX9_buyOnDebt_56 : q_at cX9_buyOnDebt 56 (.aload_n 0) 1 57 := ⟨by decide +kernel, rfl⟩
theorem dX9_buyOnDebt_57 : q_at cX9_buyOnDebt 57 (.getfield 21) 3 60 := ⟨by decide +kernel, rfl⟩
theorem dX9_buyOnDebt_60 : q_at cX9_buyOnDebt 60 (.getfield 236) 3 63 := ⟨by decide +kernel, rfl⟩
theorem dX9_buyOnDebt_63 : q_at cX9_buyOnDebt 63 (.iload_n 2) 1 64 := ⟨by decide +kernel, rfl⟩
theorem dX9_buyOnDebt_64 : q_at cX9_buyOnDebt 64 (.iaload) 1 65 := ⟨by decide +kernel, rfl⟩
theorem dX9_buyOnDebt_65 : q_at cX9_buyOnDebt 65 (.imul) 1 66 := ⟨by decide +kernel, rfl⟩
theorem dX9_buyOnDebt_66 : q_at cX9_buyOnDebt 66 (.iadd) 1 67 := ⟨by decide +kernel, rfl⟩
theorem dX9_buyOnDebt_67 : q_at cX9_buyOnDebt 67 (.iastore) 1 68 := ⟨by decide +kernel, rfl⟩
theorem dX9_buyOnDebt_68 : q_at cX9_buyOnDebt 68 (.aload_n 0) 1 69 := ⟨by decide +kernel, rfl⟩
theorem dX9_buyOnDebt_69 : q_at cX9_buyOnDebt 69 (.iload_n 1) 1 70 := ⟨by decide +kernel, rfl⟩
theorem dX9_buyOnDebt_70 : q_at cX9_buyOnDebt 70 (.iload_n 2) 1 71 := ⟨by decide +kernel, rfl⟩
theorem dX9_buyOnDebt_71 : q_at cX9_buyOnDebt 71 (.iload_n 3) 1 72 := ⟨by decide +kernel, rfl⟩
theorem dX9_buyOnDebt_72 : q_at cX9_buyOnDebt 72 (.invokevirtual 239) 3 75 := ⟨by decide +kernel, rfl⟩
theorem dX9_buyOnDebt_75 : q_at cX9_buyOnDebt 75 (.return_) 1 76 := ⟨by decide +kernel, rfl⟩
theorem dX9_leastStrike_0 : q_at cX9_leastStrike 0 (.iconst 0) 1 1 := ⟨by decide +kernel, rfl⟩
theorem dX9_leastStrike_1 : q_at cX9_leastStrike 1 (.istore_n 1) 1 2 := ⟨by decide +kernel, rfl⟩
theorem dX9_leastStrike_2 : q_at cX9_leastStrike 2 (.iconst 1) 1 3 := ⟨by decide +kernel, rfl⟩
theorem dX9_leastStrike_3 : q_at cX9_leastStrike 3 (.istore_n 2) 1 4 := ⟨by decide +kernel, rfl⟩
theorem dX9_leastStrike_4 : q_at cX9_leastStrike 4 (.iload_n 2) 1 5 := ⟨by decide +kernel, rfl⟩
theorem dX9_leastStrike_5 : q_at cX9_leastStrike 5 (.sipush 256) 3 8 := ⟨by decide +kernel, rfl⟩
theorem dX9_leastStrike_8 : q_at cX9_leastStrike 8 (.if_icmp .ge 42) 3 11 := ⟨by decide +kernel, rfl⟩
theorem dX9_leastStrike_11 : q_at cX9_leastStrike 11 (.iload_n 1) 1 12 := ⟨by decide +kernel, rfl⟩
theorem dX9_leastStrike_12 : q_at cX9_leastStrike 12 (.ifCond .eq 17) 3 15 := ⟨by decide +kernel, rfl⟩
theorem dX9_leastStrike_15 : q_at cX9_leastStrike 15 (.iload_n 2) 1 16 := ⟨by decide +kernel, rfl⟩
theorem dX9_leastStrike_16 : q_at cX9_leastStrike 16 (.invokestatic 316) 3 19 := ⟨by decide +kernel, rfl⟩
theorem dX9_leastStrike_19 : q_at cX9_leastStrike 19 (.iload_n 1) 1 20 := ⟨by decide +kernel, rfl⟩
theorem dX9_leastStrike_20 : q_at cX9_leastStrike 20 (.invokestatic 316) 3 23 := ⟨by decide +kernel, rfl⟩
theorem dX9_leastStrike_23 : q_at cX9_leastStrike 23 (.if_icmp .lt 6) 3 26 := ⟨by decide +kernel, rfl⟩
theorem dX9_leastStrike_26 : q_at cX9_leastStrike 26 (.goto 18) 3 29 := ⟨by decide +kernel, rfl⟩
theorem dX9_leastStrike_29 : q_at cX9_leastStrike 29 (.aload_n 0) 1 30 := ⟨by decide +kernel, rfl⟩
theorem dX9_leastStrike_30 : q_at cX9_leastStrike 30 (.iload_n 2) 1 31 := ⟨by decide +kernel, rfl⟩
theorem dX9_leastStrike_31 : q_at cX9_leastStrike 31 (.invokevirtual 321) 3 34 := ⟨by decide +kernel, rfl⟩
theorem dX9_leastStrike_34 : q_at cX9_leastStrike 34 (.aload_n 0) 1 35 := ⟨by decide +kernel, rfl⟩
theorem dX9_leastStrike_35 : q_at cX9_leastStrike 35 (.iload_n 2) 1 36 := ⟨by decide +kernel, rfl⟩
theorem dX9_leastStrike_36 : q_at cX9_leastStrike 36 (.invokevirtual 324) 3 39 := ⟨by decide +kernel, rfl⟩
theorem dX9_leastStrike_39 : q_at cX9_leastStrike 39 (.if_icmp .ge 5) 3 42 := ⟨by decide +kernel, rfl⟩
theorem dX9_leastStrike_42 : q_at cX9_leastStrike 42 (.iload_n 2) 1 43 := ⟨by decide +kernel, rfl⟩
theorem dX9_leastStrike_43 : q_at cX9_leastStrike 43 (.istore_n 1) 1 44 := ⟨by decide +kernel, rfl⟩
theorem dX9_leastStrike_44 : q_at cX9_leastStrike 44 (.iinc 2 1) 3 47 := ⟨by decide +kernel, rfl⟩
theorem dX9_leastStrike_47 : q_at cX9_leastStrike 47 (.goto (-43)) 3 50 := ⟨by decide +kernel, rfl⟩
theorem dX9_leastStrike_50 : q_at cX9_leastStrike 50 (.iload_n 1) 1 51 := ⟨by decide +kernel, rfl⟩
theorem dX9_leastStrike_51 : q_at cX9_leastStrike 51 (.ireturn) 1 52 := ⟨by decide +kernel, rfl⟩
theorem dX9_payOut_0 : q_at cX9_payOut 0 (.aload_n 0) 1 1 := ⟨by decide +kernel, rfl⟩
theorem dX9_payOut_1 : q_at cX9_payOut 1 (.getfield 35) 3 4 := ⟨by decide +kernel, rfl⟩
theorem dX9_payOut_4 : q_at cX9_payOut 4 (.getfield 131) 3 7 := ⟨by decide +kernel, rfl⟩
theorem dX9_payOut_7 : q_at cX9_payOut 7 (.aload_n 0) 1 8 := ⟨by decide +kernel, rfl⟩
theorem dX9_payOut_8 : q_at cX9_payOut 8 (.getfield 28) 3 11 := ⟨by decide +kernel, rfl⟩
theorem dX9_payOut_11 : q_at cX9_payOut 11 (.getfield 128) 3 14 := ⟨by decide +kernel, rfl⟩
theorem dX9_payOut_14 : q_at cX9_payOut 14 (.iload_n 1) 1 15 := ⟨by decide +kernel, rfl⟩
theorem dX9_payOut_15 : q_at cX9_payOut 15 (.iaload) 1 16 := ⟨by decide +kernel, rfl⟩
theorem dX9_payOut_16 : q_at cX9_payOut 16 (.dup2) 1 17 := ⟨by decide +kernel, rfl⟩
theorem dX9_payOut_17 : q_at cX9_payOut 17 (.iaload) 1 18 := ⟨by decide +kernel, rfl⟩
theorem dX9_payOut_18 : q_at cX9_payOut 18 (.aload_n 0) 1 19 := ⟨by decide +kernel, rfl⟩
theorem dX9_payOut_19 : q_at cX9_payOut 19 (.getfield 71) 3 22 := ⟨by decide +kernel, rfl⟩
theorem dX9_payOut_22 : q_at cX9_payOut 22 (.bipush 6) 2 24 := ⟨by decide +kernel, rfl⟩
theorem dX9_payOut_24 : q_at cX9_payOut 24 (.iaload) 1 25 := ⟨by decide +kernel, rfl⟩
theorem dX9_payOut_25 : q_at cX9_payOut 25 (.isub) 1 26 := ⟨by decide +kernel, rfl⟩
theorem dX9_payOut_26 : q_at cX9_payOut 26 (.iastore) 1 27 := ⟨by decide +kernel, rfl⟩
theorem dX9_payOut_27 : q_at cX9_payOut 27 (.aload_n 0) 1 28 := ⟨by decide +kernel, rfl⟩
theorem dX9_payOut_28 : q_at cX9_payOut 28 (.getfield 35) 3 31 := ⟨by decide +kernel, rfl⟩
theorem dX9_payOut_31 : q_at cX9_payOut 31 (.getfield 131) 3 34 := ⟨by decide +kernel, rfl⟩
theorem dX9_payOut_34 : q_at cX9_payOut 34 (.aload_n 0) 1 35 := ⟨by decide +kernel, rfl⟩
theorem dX9_payOut_35 : q_at cX9_payOut 35 (.getfield 28) 3 38 := ⟨by decide +kernel, rfl⟩
theorem dX9_payOut_38 : q_at cX9_payOut 38 (.getfield 122) 3 41 := ⟨by decide +kernel, rfl⟩
theorem dX9_payOut_41 : q_at cX9_payOut 41 (.iload_n 1) 1 42 := ⟨by decide +kernel, rfl⟩
theorem dX9_payOut_42 : q_at cX9_payOut 42 (.iaload) 1 43 := ⟨by decide +kernel, rfl⟩
theorem dX9_payOut_43 : q_at cX9_payOut 43 (.iconst 0) 1 44 := ⟨by decide +kernel, rfl⟩
theorem dX9_payOut_44 : q_at cX9_payOut 44 (.iastore) 1 45 := ⟨by decide +kernel, rfl⟩
theorem dX9_payOut_45 : q_at cX9_payOut 45 (.aload_n 0) 1 46 := ⟨by decide +kernel, rfl⟩
theorem dX9_payOut_46 : q_at cX9_payOut 46 (.getfield 28) 3 49 := ⟨by decide +kernel, rfl⟩
theorem dX9_payOut_49 : q_at cX9_payOut 49 (.iload_n 1) 1 50 := ⟨by decide +kernel, rfl⟩
theorem dX9_payOut_50 : q_at cX9_payOut 50 (.aload_n 0) 1 51 := ⟨by decide +kernel, rfl⟩
theorem dX9_payOut_51 : q_at cX9_payOut 51 (.getfield 71) 3 54 := ⟨by decide +kernel, rfl⟩
theorem dX9_payOut_54 : q_at cX9_payOut 54 (.iconst 1) 1 55 := ⟨by decide +kernel, rfl⟩
theorem dX9_payOut_55 : q_at cX9_payOut 55 (.iaload) 1 56 := ⟨by decide +kernel, rfl⟩
theorem dX9_payOut_56 : q_at cX9_payOut 56 (.invokevirtual 288) 3 59 := ⟨by decide +kernel, rfl⟩
theorem dX9_payOut_59 : q_at cX9_payOut 59 (.aload_n 0) 1 60 := ⟨by decide +kernel, rfl⟩
theorem dX9_payOut_60 : q_at cX9_payOut 60 (.getfield 28) 3 63 := ⟨by decide +kernel, rfl⟩
theorem dX9_payOut_63 : q_at cX9_payOut 63 (.iload_n 1) 1 64 := ⟨by decide +kernel, rfl⟩
theorem dX9_payOut_64 : q_at cX9_payOut 64 (.aload_n 0) 1 65 := ⟨by decide +kernel, rfl⟩
theorem dX9_payOut_65 : q_at cX9_payOut 65 (.getfield 71) 3 68 := ⟨by decide +kernel, rfl⟩
theorem dX9_payOut_68 : q_at cX9_payOut 68 (.iconst 2) 1 69 := ⟨by decide +kernel, rfl⟩
theorem dX9_payOut_69 : q_at cX9_payOut 69 (.iaload) 1 70 := ⟨by decide +kernel, rfl⟩
theorem dX9_payOut_70 : q_at cX9_payOut 70 (.invokevirtual 291) 3 73 := ⟨by decide +kernel, rfl⟩
theorem dX9_payOut_73 : q_at cX9_payOut 73 (.return_) 1 74 := ⟨by decide +kernel, rfl⟩
theorem dX9_buy_0 : q_at cX9_buy 0 (.iconst 0) 1 1 := ⟨by decide +kernel, rfl⟩
theorem dX9_buy_1 : q_at cX9_buy 1 (.istore_n 2) 1 2 := ⟨by decide +kernel, rfl⟩
theorem dX9_buy_2 : q_at cX9_buy 2 (.iload_n 2) 1 3 := ⟨by decide +kernel, rfl⟩
theorem dX9_buy_3 : q_at cX9_buy 3 (.aload_n 0) 1 4 := ⟨by decide +kernel, rfl⟩
theorem dX9_buy_4 : q_at cX9_buy 4 (.getfield 21) 3 7 := ⟨by decide +kernel, rfl⟩
theorem dX9_buy_7 : q_at cX9_buy 7 (.getfield 155) 3 10 := ⟨by decide +kernel, rfl⟩
theorem dX9_buy_10 : q_at cX9_buy 10 (.if_icmp .ge 27) 3 13 := ⟨by decide +kernel, rfl⟩
theorem dX9_buy_13 : q_at cX9_buy 13 (.aload_n 0) 1 14 := ⟨by decide +kernel, rfl⟩
theorem dX9_buy_14 : q_at cX9_buy 14 (.getfield 21) 3 17 := ⟨by decide +kernel, rfl⟩
theorem dX9_buy_17 : q_at cX9_buy 17 (.getfield 214) 3 20 := ⟨by decide +kernel, rfl⟩
theorem dX9_buy_20 : q_at cX9_buy 20 (.iload_n 2) 1 21 := ⟨by decide +kernel, rfl⟩
theorem dX9_buy_21 : q_at cX9_buy 21 (.iaload) 1 22 := ⟨by decide +kernel, rfl⟩
theorem dX9_buy_22 : q_at cX9_buy 22 (.ifCond .ne 9) 3 25 := ⟨by decide +kernel, rfl⟩
theorem dX9_buy_25 : q_at cX9_buy 25 (.aload_n 0) 1 26 := ⟨by decide +kernel, rfl⟩
theorem dX9_buy_26 : q_at cX9_buy 26 (.iload_n 1) 1 27 := ⟨by decide +kernel, rfl⟩
theorem dX9_buy_27 : q_at cX9_buy 27 (.iload_n 2) 1 28 := ⟨by decide +kernel, rfl⟩
theorem dX9_buy_28 : q_at cX9_buy 28 (.invokevirtual 217) 3 31 := ⟨by decide +kernel, rfl⟩
theorem dX9_buy_31 : q_at cX9_buy 31 (.iinc 2 1) 3 34 := ⟨by decide +kernel, rfl⟩
theorem dX9_buy_34 : q_at cX9_buy 34 (.goto (-32)) 3 37 := ⟨by decide +kernel, rfl⟩
theorem dX9_buy_37 : q_at cX9_buy 37 (.aload_n 0) 1 38 := ⟨by decide +kernel, rfl⟩
theorem dX9_buy_38 : q_at cX9_buy 38 (.iload_n 1) 1 39 := ⟨by decide +kernel, rfl⟩
theorem dX9_buy_39 : q_at cX9_buy 39 (.invokevirtual 221) 3 42 := ⟨by decide +kernel, rfl⟩
theorem dX9_buy_42 : q_at cX9_buy 42 (.iconst 0) 1 43 := ⟨by decide +kernel, rfl⟩
theorem dX9_buy_43 : q_at cX9_buy 43 (.istore_n 2) 1 44 := ⟨by decide +kernel, rfl⟩
theorem dX9_buy_44 : q_at cX9_buy 44 (.iload_n 2) 1 45 := ⟨by decide +kernel, rfl⟩
theorem dX9_buy_45 : q_at cX9_buy 45 (.aload_n 0) 1 46 := ⟨by decide +kernel, rfl⟩
theorem dX9_buy_46 : q_at cX9_buy 46 (.getfield 21) 3 49 := ⟨by decide +kernel, rfl⟩
theorem dX9_buy_49 : q_at cX9_buy 49 (.getfield 155) 3 52 := ⟨by decide +kernel, rfl⟩
theorem dX9_buy_52 : q_at cX9_buy 52 (.if_icmp .ge 27) 3 55 := ⟨by decide +kernel, rfl⟩
theorem dX9_buy_55 : q_at cX9_buy 55 (.aload_n 0) 1 56 := ⟨by decide +kernel, rfl⟩
theorem dX9_buy_56 : q_at cX9_buy 56 (.getfield 21) 3 59 := ⟨by decide +kernel, rfl⟩
theorem dX9_buy_59 : q_at cX9_buy 59 (.getfield 214) 3 62 := ⟨by decide +kernel, rfl⟩
theorem dX9_buy_62 : q_at cX9_buy 62 (.iload_n 2) 1 63 := ⟨by decide +kernel, rfl⟩
theorem dX9_buy_63 : q_at cX9_buy 63 (.iaload) 1 64 := ⟨by decide +kernel, rfl⟩
theorem dX9_buy_64 : q_at cX9_buy 64 (.ifCond .ne 9) 3 67 := ⟨by decide +kernel, rfl⟩
theorem dX9_buy_67 : q_at cX9_buy 67 (.aload_n 0) 1 68 := ⟨by decide +kernel, rfl⟩
theorem dX9_buy_68 : q_at cX9_buy 68 (.iload_n 1) 1 69 := ⟨by decide +kernel, rfl⟩
theorem dX9_buy_69 : q_at cX9_buy 69 (.iload_n 2) 1 70 := ⟨by decide +kernel, rfl⟩
theorem dX9_buy_70 : q_at cX9_buy 70 (.invokevirtual 224) 3 73 := ⟨by decide +kernel, rfl⟩
theorem dX9_buy_73 : q_at cX9_buy 73 (.iinc 2 1) 3 76 := ⟨by decide +kernel, rfl⟩
theorem dX9_buy_76 : q_at cX9_buy 76 (.goto (-32)) 3 79 := ⟨by decide +kernel, rfl⟩
theorem dX9_buy_79 : q_at cX9_buy 79 (.return_) 1 80 := ⟨by decide +kernel, rfl⟩
theorem dX9_dig_0 : q_at cX9_dig 0 (.aload_n 0) 1 1 := ⟨by decide +kernel, rfl⟩
theorem dX9_dig_1 : q_at cX9_dig 1 (.getfield 28) 3 4 := ⟨by decide +kernel, rfl⟩
theorem dX9_dig_4 : q_at cX9_dig 4 (.getfield 163) 3 7 := ⟨by decide +kernel, rfl⟩
theorem dX9_dig_7 : q_at cX9_dig 7 (.iload_n 1) 1 8 := ⟨by decide +kernel, rfl⟩
theorem dX9_dig_8 : q_at cX9_dig 8 (.iaload) 1 9 := ⟨by decide +kernel, rfl⟩
theorem dX9_dig_9 : q_at cX9_dig 9 (.istore_n 2) 1 10 := ⟨by decide +kernel, rfl⟩
theorem dX9_dig_10 : q_at cX9_dig 10 (.aload_n 0) 1 11 := ⟨by decide +kernel, rfl⟩
theorem dX9_dig_11 : q_at cX9_dig 11 (.getfield 28) 3 14 := ⟨by decide +kernel, rfl⟩
theorem dX9_dig_14 : q_at cX9_dig 14 (.getfield 166) 3 17 := ⟨by decide +kernel, rfl⟩
theorem dX9_dig_17 : q_at cX9_dig 17 (.iload_n 1) 1 18 := ⟨by decide +kernel, rfl⟩
theorem dX9_dig_18 : q_at cX9_dig 18 (.iaload) 1 19 := ⟨by decide +kernel, rfl⟩
theorem dX9_dig_19 : q_at cX9_dig 19 (.istore_n 3) 1 20 := ⟨by decide +kernel, rfl⟩
theorem dX9_dig_20 : q_at cX9_dig 20 (.iload_n 3) 1 21 := ⟨by decide +kernel, rfl⟩
theorem dX9_dig_21 : q_at cX9_dig 21 (.aload_n 0) 1 22 := ⟨by decide +kernel, rfl⟩
theorem dX9_dig_22 : q_at cX9_dig 22 (.getfield 12) 3 25 := ⟨by decide +kernel, rfl⟩
theorem dX9_dig_25 : q_at cX9_dig 25 (.getfield 169) 3 28 := ⟨by decide +kernel, rfl⟩
theorem dX9_dig_28 : q_at cX9_dig 28 (.iload_n 2) 1 29 := ⟨by decide +kernel, rfl⟩
theorem dX9_dig_29 : q_at cX9_dig 29 (.iaload) 1 30 := ⟨by decide +kernel, rfl⟩
theorem dX9_dig_30 : q_at cX9_dig 30 (.imul) 1 31 := ⟨by decide +kernel, rfl⟩
theorem dX9_dig_31 : q_at cX9_dig 31 (.istore 4) 2 33 := ⟨by decide +kernel, rfl⟩
theorem dX9_dig_33 : q_at cX9_dig 33 (.iload 4) 2 35 := ⟨by decide +kernel, rfl⟩
theorem dX9_dig_35 : q_at cX9_dig 35 (.aload_n 0) 1 36 := ⟨by decide +kernel, rfl⟩
theorem dX9_dig_36 : q_at cX9_dig 36 (.getfield 12) 3 39 := ⟨by decide +kernel, rfl⟩
theorem dX9_dig_39 : q_at cX9_dig 39 (.getfield 172) 3 42 := ⟨by decide +kernel, rfl⟩
theorem dX9_dig_42 : q_at cX9_dig 42 (.iload_n 2) 1 43 := ⟨by decide +kernel, rfl⟩
theorem dX9_dig_43 : q_at cX9_dig 43 (.iaload) 1 44 := ⟨by decide +kernel, rfl⟩
theorem dX9_dig_44 : q_at cX9_dig 44 (.imul) 1 45 := ⟨by decide +kernel, rfl⟩
theorem dX9_dig_45 : q_at cX9_dig 45 (.bipush 100) 2 47 := ⟨by decide +kernel, rfl⟩
theorem dX9_dig_47 : q_at cX9_dig 47 (.idiv) 1 48 := ⟨by decide +kernel, rfl⟩
theorem dX9_dig_48 : q_at cX9_dig 48 (.istore 5) 2 50 := ⟨by decide +kernel, rfl⟩
theorem dX9_dig_50 : q_at cX9_dig 50 (.aload_n 0) 1 51 := ⟨by decide +kernel, rfl⟩
theorem dX9_dig_51 : q_at cX9_dig 51 (.getfield 42) 3 54 := ⟨by decide +kernel, rfl⟩
theorem dX9_dig_54 : q_at cX9_dig 54 (.iconst 0) 1 55 := ⟨by decide +kernel, rfl⟩
theorem dX9_dig_55 : q_at cX9_dig 55 (.aload_n 0) 1 56 := ⟨by decide +kernel, rfl⟩
theorem dX9_dig_56 : q_at cX9_dig 56 (.getfield 83) 3 59 := ⟨by decide +kernel, rfl⟩
theorem dX9_dig_59 : q_at cX9_dig 59 (.iload 5) 2 61 := ⟨by decide +kernel, rfl⟩
theorem dX9_dig_61 : q_at cX9_dig 61 (.iload_n 3) 1 62 := ⟨by decide +kernel, rfl⟩
theorem dX9_dig_62 : q_at cX9_dig 62 (.iconst 0) 1 63 := ⟨by decide +kernel, rfl⟩
theorem dX9_dig_63 : q_at cX9_dig 63 (.invokevirtual 175) 3 66 := ⟨by decide +kernel, rfl⟩
theorem dX9_dig_66 : q_at cX9_dig 66 (.istore 6) 2 68 := ⟨by decide +kernel, rfl⟩
theorem dX9_dig_68 : q_at cX9_dig 68 (.aload_n 0) 1 69 := ⟨by decide +kernel, rfl⟩
theorem dX9_dig_69 : q_at cX9_dig 69 (.getfield 35) 3 72 := ⟨by decide +kernel, rfl⟩
theorem dX9_dig_72 : q_at cX9_dig 72 (.getfield 131) 3 75 := ⟨by decide +kernel, rfl⟩
theorem dX9_dig_75 : q_at cX9_dig 75 (.aload_n 0) 1 76 := ⟨by decide +kernel, rfl⟩
theorem dX9_dig_76 : q_at cX9_dig 76 (.getfield 28) 3 79 := ⟨by decide +kernel, rfl⟩
theorem dX9_dig_79 : q_at cX9_dig 79 (.getfield 122) 3 82 := ⟨by decide +kernel, rfl⟩
theorem dX9_dig_82 : q_at cX9_dig 82 (.iload_n 1) 1 83 := ⟨by decide +kernel, rfl⟩
theorem dX9_dig_83 : q_at cX9_dig 83 (.iaload) 1 84 := ⟨by decide +kernel, rfl⟩
theorem dX9_dig_84 : q_at cX9_dig 84 (.dup2) 1 85 := ⟨by decide +kernel, rfl⟩
theorem dX9_dig_85 : q_at cX9_dig 85 (.iaload) 1 86 := ⟨by decide +kernel, rfl⟩
theorem dX9_dig_86 : q_at cX9_dig 86 (.iload 6) 2 88 := ⟨by decide +kernel, rfl⟩
theorem dX9_dig_88 : q_at cX9_dig 88 (.iadd) 1 89 := ⟨by decide +kernel, rfl⟩
theorem dX9_dig_89 : q_at cX9_dig 89 (.iastore) 1 90 := ⟨by decide +kernel, rfl⟩
theorem dX9_dig_90 : q_at cX9_dig 90 (.aload_n 0) 1 91 := ⟨by decide +kernel, rfl⟩
theorem dX9_dig_91 : q_at cX9_dig 91 (.getfield 28) 3 94 := ⟨by decide +kernel, rfl⟩
theorem dX9_dig_94 : q_at cX9_dig 94 (.getfield 178) 3 97 := ⟨by decide +kernel, rfl⟩
theorem dX9_dig_97 : q_at cX9_dig 97 (.iload_n 1) 1 98 := ⟨by decide +kernel, rfl⟩
theorem dX9_dig_98 : q_at cX9_dig 98 (.dup2) 1 99 := ⟨by decide +kernel, rfl⟩
theorem dX9_dig_99 : q_at cX9_dig 99 (.iaload) 1 100 := ⟨by decide +kernel, rfl⟩
theorem dX9_dig_100 : q_at cX9_dig 100 (.aload_n 0) 1 101 := ⟨by decide +kernel, rfl⟩
theorem dX9_dig_101 : q_at cX9_dig 101 (.getfield 42) 3 104 := ⟨by decide +kernel, rfl⟩
theorem dX9_dig_104 : q_at cX9_dig 104 (.iconst 0) 1 105 := ⟨by decide +kernel, rfl⟩
theorem dX9_dig_105 : q_at cX9_dig 105 (.aload_n 0) 1 106 := ⟨by decide +kernel, rfl⟩
theorem dX9_dig_106 : q_at cX9_dig 106 (.getfield 83) 3 109 := ⟨by decide +kernel, rfl⟩
theorem dX9_dig_109 : q_at cX9_dig 109 (.iload 4) 2 111 := ⟨by decide +kernel, rfl⟩
theorem dX9_dig_111 : q_at cX9_dig 111 (.iload_n 3) 1 112 := ⟨by decide +kernel, rfl⟩
theorem dX9_dig_112 : q_at cX9_dig 112 (.iconst 0) 1 113 := ⟨by decide +kernel, rfl⟩
theorem dX9_dig_113 : q_at cX9_dig 113 (.invokevirtual 175) 3 116 := ⟨by decide +kernel, rfl⟩
theorem dX9_dig_116 : q_at cX9_dig 116 (.iload 6) 2 118 := ⟨by decide +kernel, rfl⟩
theorem dX9_dig_118 : q_at cX9_dig 118 (.isub) 1 119 := ⟨by decide +kernel, rfl⟩
theorem dX9_dig_119 : q_at cX9_dig 119 (.iadd) 1 120 := ⟨by decide +kernel, rfl⟩
theorem dX9_dig_120 : q_at cX9_dig 120 (.iastore) 1 121 := ⟨by decide +kernel, rfl⟩
theorem dX9_dig_121 : q_at cX9_dig 121 (.aload_n 0) 1 122 := ⟨by decide +kernel, rfl⟩
theorem dX9_dig_122 : q_at cX9_dig 122 (.getfield 12) 3 125 := ⟨by decide +kernel, rfl⟩
theorem dX9_dig_125 : q_at cX9_dig 125 (.getfield 181) 3 128 := ⟨by decide +kernel, rfl⟩
theorem dX9_dig_128 : q_at cX9_dig 128 (.iload_n 2) 1 129 := ⟨by decide +kernel, rfl⟩
theorem dX9_dig_129 : q_at cX9_dig 129 (.dup2) 1 130 := ⟨by decide +kernel, rfl⟩
theorem dX9_dig_130 : q_at cX9_dig 130 (.iaload) 1 131 := ⟨by decide +kernel, rfl⟩
theorem dX9_dig_131 : q_at cX9_dig 131 (.iload 4) 2 133 := ⟨by decide +kernel, rfl⟩
theorem dX9_dig_133 : q_at cX9_dig 133 (.iadd) 1 134 := ⟨by decide +kernel, rfl⟩
theorem dX9_dig_134 : q_at cX9_dig 134 (.iastore) 1 135 := ⟨by decide +kernel, rfl⟩
theorem dX9_dig_135 : q_at cX9_dig 135 (.aload_n 0) 1 136 := ⟨by decide +kernel, rfl⟩
theorem dX9_dig_136 : q_at cX9_dig 136 (.getfield 12) 3 139 := ⟨by decide +kernel, rfl⟩
theorem dX9_dig_139 : q_at cX9_dig 139 (.getfield 184) 3 142 := ⟨by decide +kernel, rfl⟩
theorem dX9_dig_142 : q_at cX9_dig 142 (.iload_n 2) 1 143 := ⟨by decide +kernel, rfl⟩
theorem dX9_dig_143 : q_at cX9_dig 143 (.dup2) 1 144 := ⟨by decide +kernel, rfl⟩
theorem dX9_dig_144 : q_at cX9_dig 144 (.iaload) 1 145 := ⟨by decide +kernel, rfl⟩
theorem dX9_dig_145 : q_at cX9_dig 145 (.iload 5) 2 147 := ⟨by decide +kernel, rfl⟩
theorem dX9_dig_147 : q_at cX9_dig 147 (.iadd) 1 148 := ⟨by decide +kernel, rfl⟩
theorem dX9_dig_148 : q_at cX9_dig 148 (.iastore) 1 149 := ⟨by decide +kernel, rfl⟩
theorem dX9_dig_149 : q_at cX9_dig 149 (.aload_n 0) 1 150 := ⟨by decide +kernel, rfl⟩
theorem dX9_dig_150 : q_at cX9_dig 150 (.getfield 12) 3 153 := ⟨by decide +kernel, rfl⟩
theorem dX9_dig_153 : q_at cX9_dig 153 (.getfield 187) 3 156 := ⟨by decide +kernel, rfl⟩
theorem dX9_dig_156 : q_at cX9_dig 156 (.iload_n 2) 1 157 := ⟨by decide +kernel, rfl⟩
theorem dX9_dig_157 : q_at cX9_dig 157 (.dup2) 1 158 := ⟨by decide +kernel, rfl⟩
theorem dX9_dig_158 : q_at cX9_dig 158 (.iaload) 1 159 := ⟨by decide +kernel, rfl⟩
theorem dX9_dig_159 : q_at cX9_dig 159 (.iload_n 3) 1 160 := ⟨by decide +kernel, rfl⟩
theorem dX9_dig_160 : q_at cX9_dig 160 (.iadd) 1 161 := ⟨by decide +kernel, rfl⟩
theorem dX9_dig_161 : q_at cX9_dig 161 (.iastore) 1 162 := ⟨by decide +kernel, rfl⟩
theorem dX9_dig_162 : q_at cX9_dig 162 (.return_) 1 163 := ⟨by decide +kernel, rfl⟩
theorem dX9_isKept_0 : q_at cX9_isKept 0 (.aload_n 0) 1 1 := ⟨by decide +kernel, rfl⟩
theorem dX9_isKept_1 : q_at cX9_isKept 1 (.getfield 42) 3 4 := ⟨by decide +kernel, rfl⟩
theorem dX9_isKept_4 : q_at cX9_isKept 4 (.iconst 5) 1 5 := ⟨by decide +kernel, rfl⟩
theorem dX9_isKept_5 : q_at cX9_isKept 5 (.aload_n 0) 1 6 := ⟨by decide +kernel, rfl⟩
theorem dX9_isKept_6 : q_at cX9_isKept 6 (.getfield 83) 3 9 := ⟨by decide +kernel, rfl⟩
theorem dX9_isKept_9 : q_at cX9_isKept 9 (.aload_n 0) 1 10 := ⟨by decide +kernel, rfl⟩
theorem dX9_isKept_10 : q_at cX9_isKept 10 (.getfield 28) 3 13 := ⟨by decide +kernel, rfl⟩
theorem dX9_isKept_13 : q_at cX9_isKept 13 (.getfield 262) 3 16 := ⟨by decide +kernel, rfl⟩
theorem dX9_isKept_16 : q_at cX9_isKept 16 (.iload_n 1) 1 17 := ⟨by decide +kernel, rfl⟩
theorem dX9_isKept_17 : q_at cX9_isKept 17 (.iaload) 1 18 := ⟨by decide +kernel, rfl⟩
theorem dX9_isKept_18 : q_at cX9_isKept 18 (.aload_n 0) 1 19 := ⟨by decide +kernel, rfl⟩
theorem dX9_isKept_19 : q_at cX9_isKept 19 (.iload_n 1) 1 20 := ⟨by decide +kernel, rfl⟩
theorem dX9_isKept_20 : q_at cX9_isKept 20 (.invokevirtual 141) 3 23 := ⟨by decide +kernel, rfl⟩
theorem dX9_isKept_23 : q_at cX9_isKept 23 (.iconst 0) 1 24 := ⟨by decide +kernel, rfl⟩
theorem dX9_isKept_24 : q_at cX9_isKept 24 (.invokevirtual 175) 3 27 := ⟨by decide +kernel, rfl⟩
theorem dX9_isKept_27 : q_at cX9_isKept 27 (.ifCond .eq 7) 3 30 := ⟨by decide +kernel, rfl⟩
theorem dX9_isKept_30 : q_at cX9_isKept 30 (.iconst 1) 1 31 := ⟨by decide +kernel, rfl⟩
theorem dX9_isKept_31 : q_at cX9_isKept 31 (.goto 4) 3 34 := ⟨by decide +kernel, rfl⟩
theorem dX9_isKept_34 : q_at cX9_isKept 34 (.iconst 0) 1 35 := ⟨by decide +kernel, rfl⟩
theorem dX9_isKept_35 : q_at cX9_isKept 35 (.ireturn) 1 36 := ⟨by decide +kernel, rfl⟩
theorem dX9_isWrongFine_0 : q_at cX9_isWrongFine 0 (.aload_n 0) 1 1 := ⟨by decide +kernel, rfl⟩
theorem dX9_isWrongFine_1 : q_at cX9_isWrongFine 1 (.getfield 35) 3 4 := ⟨by decide +kernel, rfl⟩
theorem dX9_isWrongFine_4 : q_at cX9_isWrongFine 4 (.getfield 304) 3 7 := ⟨by decide +kernel, rfl⟩
theorem dX9_isWrongFine_7 : q_at cX9_isWrongFine 7 (.iload_n 1) 1 8 := ⟨by decide +kernel, rfl⟩
theorem dX9_isWrongFine_8 : q_at cX9_isWrongFine 8 (.iaload) 1 9 := ⟨by decide +kernel, rfl⟩
theorem dX9_isWrongFine_9 : q_at cX9_isWrongFine 9 (.iconst 4) 1 10 := ⟨by decide +kernel, rfl⟩
theorem dX9_isWrongFine_10 : q_at cX9_isWrongFine 10 (.if_icmp .ne 28) 3 13 := ⟨by decide +kernel, rfl⟩
theorem dX9_isWrongFine_13 : q_at cX9_isWrongFine 13 (.aload_n 0) 1 14 := ⟨by decide +kernel, rfl⟩
theorem dX9_isWrongFine_14 : q_at cX9_isWrongFine 14 (.getfield 35) 3 17 := ⟨by decide +kernel, rfl⟩
theorem dX9_isWrongFine_17 : q_at cX9_isWrongFine 17 (.getfield 301) 3 20 := ⟨by decide +kernel, rfl⟩
theorem dX9_isWrongFine_20 : q_at cX9_isWrongFine 20 (.iload_n 1) 1 21 := ⟨by decide +kernel, rfl⟩
theorem dX9_isWrongFine_21 : q_at cX9_isWrongFine 21 (.iaload) 1 22 := ⟨by decide +kernel, rfl⟩
theorem dX9_isWrongFine_22 : q_at cX9_isWrongFine 22 (.iconst 1) 1 23 := ⟨by decide +kernel, rfl⟩
theorem dX9_isWrongFine_23 : q_at cX9_isWrongFine 23 (.if_icmp .ne 15) 3 26 := ⟨by decide +kernel, rfl⟩
theorem dX9_isWrongFine_26 : q_at cX9_isWrongFine 26 (.aload_n 0) 1 27 := ⟨by decide +kernel, rfl⟩
theorem dX9_isWrongFine_27 : q_at cX9_isWrongFine 27 (.getfield 35) 3 30 := ⟨by decide +kernel, rfl⟩
theorem dX9_isWrongFine_30 : q_at cX9_isWrongFine 30 (.getfield 131) 3 33 := ⟨by decide +kernel, rfl⟩
theorem dX9_isWrongFine_33 : q_at cX9_isWrongFine 33 (.iload_n 1) 1 34 := ⟨by decide +kernel, rfl⟩
theorem dX9_isWrongFine_34 : q_at cX9_isWrongFine 34 (.iaload) 1 35 := ⟨by decide +kernel, rfl⟩
theorem dX9_isWrongFine_35 : q_at cX9_isWrongFine 35 (.ifCond .gt 5) 3 38 := ⟨by decide +kernel, rfl⟩
theorem dX9_isWrongFine_38 : q_at cX9_isWrongFine 38 (.iconst 0) 1 39 := ⟨by decide +kernel, rfl⟩
theorem dX9_isWrongFine_39 : q_at cX9_isWrongFine 39 (.ireturn) 1 40 := ⟨by decide +kernel, rfl⟩
theorem dX9_isWrongFine_40 : q_at cX9_isWrongFine 40 (.aload_n 0) 1 41 := ⟨by decide +kernel, rfl⟩
theorem dX9_isWrongFine_41 : q_at cX9_isWrongFine 41 (.getfield 42) 3 44 := ⟨by decide +kernel, rfl⟩
theorem dX9_isWrongFine_44 : q_at cX9_isWrongFine 44 (.iconst 4) 1 45 := ⟨by decide +kernel, rfl⟩
theorem dX9_isWrongFine_45 : q_at cX9_isWrongFine 45 (.aload_n 0) 1 46 := ⟨by decide +kernel, rfl⟩
theorem dX9_isWrongFine_46 : q_at cX9_isWrongFine 46 (.getfield 83) 3 49 := ⟨by decide +kernel, rfl⟩
theorem dX9_isWrongFine_49 : q_at cX9_isWrongFine 49 (.aload_n 0) 1 50 := ⟨by decide +kernel, rfl⟩
theorem dX9_isWrongFine_50 : q_at cX9_isWrongFine 50 (.getfield 35) 3 53 := ⟨by decide +kernel, rfl⟩
theorem dX9_isWrongFine_53 : q_at cX9_isWrongFine 53 (.getfield 131) 3 56 := ⟨by decide +kernel, rfl⟩
theorem dX9_isWrongFine_56 : q_at cX9_isWrongFine 56 (.iload_n 1) 1 57 := ⟨by decide +kernel, rfl⟩
theorem dX9_isWrongFine_57 : q_at cX9_isWrongFine 57 (.iaload) 1 58 := ⟨by decide +kernel, rfl⟩
theorem dX9_isWrongFine_58 : q_at cX9_isWrongFine 58 (.aload_n 0) 1 59 := ⟨by decide +kernel, rfl⟩
theorem dX9_isWrongFine_59 : q_at cX9_isWrongFine 59 (.getfield 35) 3 62 := ⟨by decide +kernel, rfl⟩
theorem dX9_isWrongFine_62 : q_at cX9_isWrongFine 62 (.getfield 307) 3 65 := ⟨by decide +kernel, rfl⟩
theorem dX9_isWrongFine_65 : q_at cX9_isWrongFine 65 (.iload_n 1) 1 66 := ⟨by decide +kernel, rfl⟩
theorem dX9_isWrongFine_66 : q_at cX9_isWrongFine 66 (.iaload) 1 67 := ⟨by decide +kernel, rfl⟩
theorem dX9_isWrongFine_67 : q_at cX9_isWrongFine 67 (.iconst 0) 1 68 := ⟨by decide +kernel, rfl⟩
theorem dX9_isWrongFine_68 : q_at cX9_isWrongFine 68 (.invokevirtual 175) 3 71 := ⟨by decide +kernel, rfl⟩
theorem dX9_isWrongFine_71 : q_at cX9_isWrongFine 71 (.ifCond .ne 7) 3 74 := ⟨by decide +kernel, rfl⟩
theorem dX9_isWrongFine_74 : q_at cX9_isWrongFine 74 (.iconst 1) 1 75 := ⟨by decide +kernel, rfl⟩
theorem dX9_isWrongFine_75 : q_at cX9_isWrongFine 75 (.goto 4) 3 78 := ⟨by decide +kernel, rfl⟩
theorem dX9_isWrongFine_78 : q_at cX9_isWrongFine 78 (.iconst 0) 1 79 := ⟨by decide +kernel, rfl⟩
theorem dX9_isWrongFine_79 : q_at cX9_isWrongFine 79 (.ireturn) 1 80 := ⟨by decide +kernel, rfl⟩
theorem dX9_reckon_0 : q_at cX9_reckon 0 (.aload_n 0) 1 1 := ⟨by decide +kernel, rfl⟩
theorem dX9_reckon_1 : q_at cX9_reckon 1 (.iload_n 1) 1 2 := ⟨by decide +kernel, rfl⟩
theorem dX9_reckon_2 : q_at cX9_reckon 2 (.invokevirtual 137) 3 5 := ⟨by decide +kernel, rfl⟩
theorem dX9_reckon_5 : q_at cX9_reckon 5 (.istore 4) 2 7 := ⟨by decide +kernel, rfl⟩
theorem dX9_reckon_7 : q_at cX9_reckon 7 (.iload 4) 2 9 := ⟨by decide +kernel, rfl⟩
theorem dX9_reckon_9 : q_at cX9_reckon 9 (.istore 5) 2 11 := ⟨by decide +kernel, rfl⟩
theorem dX9_reckon_11 : q_at cX9_reckon 11 (.aload_n 0) 1 12 := ⟨by decide +kernel, rfl⟩
theorem dX9_reckon_12 : q_at cX9_reckon 12 (.getfield 71) 3 15 := ⟨by decide +kernel, rfl⟩
theorem dX9_reckon_15 : q_at cX9_reckon 15 (.iconst 3) 1 16 := ⟨by decide +kernel, rfl⟩
theorem dX9_reckon_16 : q_at cX9_reckon 16 (.aload_n 0) 1 17 := ⟨by decide +kernel, rfl⟩
theorem dX9_reckon_17 : q_at cX9_reckon 17 (.getfield 35) 3 20 := ⟨by decide +kernel, rfl⟩
theorem dX9_reckon_20 : q_at cX9_reckon 20 (.iload_n 1) 1 21 := ⟨by decide +kernel, rfl⟩
theorem dX9_reckon_21 : q_at cX9_reckon 21 (.iconst 2) 1 22 := ⟨by decide +kernel, rfl⟩
theorem dX9_reckon_22 : q_at cX9_reckon 22 (.iload 5) 2 24 := ⟨by decide +kernel, rfl⟩
theorem dX9_reckon_24 : q_at cX9_reckon 24 (.iload_n 2) 1 25 := ⟨by decide +kernel, rfl⟩
theorem dX9_reckon_25 : q_at cX9_reckon 25 (.invokevirtual 279) 3 28 := ⟨by decide +kernel, rfl⟩
theorem dX9_reckon_28 : q_at cX9_reckon 28 (.iastore) 1 29 := ⟨by decide +kernel, rfl⟩
theorem dX9_reckon_29 : q_at cX9_reckon 29 (.iload 5) 2 31 := ⟨by decide +kernel, rfl⟩
theorem dX9_reckon_31 : q_at cX9_reckon 31 (.aload_n 0) 1 32 := ⟨by decide +kernel, rfl⟩
theorem dX9_reckon_32 : q_at cX9_reckon 32 (.getfield 71) 3 35 := ⟨by decide +kernel, rfl⟩
theorem dX9_reckon_35 : q_at cX9_reckon 35 (.iconst 3) 1 36 := ⟨by decide +kernel, rfl⟩
theorem dX9_reckon_36 : q_at cX9_reckon 36 (.iaload) 1 37 := ⟨by decide +kernel, rfl⟩
theorem dX9_reckon_37 : q_at cX9_reckon 37 (.isub) 1 38 := ⟨by decide +kernel, rfl⟩
theorem dX9_reckon_38 : q_at cX9_reckon 38 (.istore 5) 2 40 := ⟨by decide +kernel, rfl⟩
theorem dX9_reckon_40 : q_at cX9_reckon 40 (.aload_n 0) 1 41 := ⟨by decide +kernel, rfl⟩
theorem dX9_reckon_41 : q_at cX9_reckon 41 (.getfield 71) 3 44 := ⟨by decide +kernel, rfl⟩
theorem dX9_reckon_44 : q_at cX9_reckon 44 (.iconst 4) 1 45 := ⟨by decide +kernel, rfl⟩
theorem dX9_reckon_45 : q_at cX9_reckon 45 (.aload_n 0) 1 46 := ⟨by decide +kernel, rfl⟩
theorem dX9_reckon_46 : q_at cX9_reckon 46 (.getfield 35) 3 49 := ⟨by decide +kernel, rfl⟩
theorem dX9_reckon_49 : q_at cX9_reckon 49 (.iload_n 1) 1 50 := ⟨by decide +kernel, rfl⟩
theorem dX9_reckon_50 : q_at cX9_reckon 50 (.iconst 4) 1 51 := ⟨by decide +kernel, rfl⟩
theorem dX9_reckon_51 : q_at cX9_reckon 51 (.iload 5) 2 53 := ⟨by decide +kernel, rfl⟩
theorem dX9_reckon_53 : q_at cX9_reckon 53 (.iload_n 2) 1 54 := ⟨by decide +kernel, rfl⟩
theorem dX9_reckon_54 : q_at cX9_reckon 54 (.invokevirtual 279) 3 57 := ⟨by decide +kernel, rfl⟩
theorem dX9_reckon_57 : q_at cX9_reckon 57 (.iastore) 1 58 := ⟨by decide +kernel, rfl⟩
theorem dX9_reckon_58 : q_at cX9_reckon 58 (.iload 5) 2 60 := ⟨by decide +kernel, rfl⟩
theorem dX9_reckon_60 : q_at cX9_reckon 60 (.aload_n 0) 1 61 := ⟨by decide +kernel, rfl⟩
theorem dX9_reckon_61 : q_at cX9_reckon 61 (.getfield 71) 3 64 := ⟨by decide +kernel, rfl⟩
theorem dX9_reckon_64 : q_at cX9_reckon 64 (.iconst 4) 1 65 := ⟨by decide +kernel, rfl⟩
theorem dX9_reckon_65 : q_at cX9_reckon 65 (.iaload) 1 66 := ⟨by decide +kernel, rfl⟩
theorem dX9_reckon_66 : q_at cX9_reckon 66 (.isub) 1 67 := ⟨by decide +kernel, rfl⟩
theorem dX9_reckon_67 : q_at cX9_reckon 67 (.istore 5) 2 69 := ⟨by decide +kernel, rfl⟩
theorem dX9_reckon_69 : q_at cX9_reckon 69 (.iload 5) 2 71 := ⟨by decide +kernel, rfl⟩
theorem dX9_reckon_71 : q_at cX9_reckon 71 (.aload_n 0) 1 72 := ⟨by decide +kernel, rfl⟩
theorem dX9_reckon_72 : q_at cX9_reckon 72 (.getfield 42) 3 75 := ⟨by decide +kernel, rfl⟩
theorem dX9_reckon_75 : q_at cX9_reckon 75 (.iconst 1) 1 76 := ⟨by decide +kernel, rfl⟩
theorem dX9_reckon_76 : q_at cX9_reckon 76 (.aload_n 0) 1 77 := ⟨by decide +kernel, rfl⟩
theorem dX9_reckon_77 : q_at cX9_reckon 77 (.getfield 83) 3 80 := ⟨by decide +kernel, rfl⟩
theorem dX9_reckon_80 : q_at cX9_reckon 80 (.iload 4) 2 82 := ⟨by decide +kernel, rfl⟩
theorem dX9_reckon_82 : q_at cX9_reckon 82 (.iconst 0) 1 83 := ⟨by decide +kernel, rfl⟩
theorem dX9_reckon_83 : q_at cX9_reckon 83 (.iconst 0) 1 84 := ⟨by decide +kernel, rfl⟩
theorem dX9_reckon_84 : q_at cX9_reckon 84 (.invokevirtual 175) 3 87 := ⟨by decide +kernel, rfl⟩
theorem dX9_reckon_87 : q_at cX9_reckon 87 (.invokestatic 233) 3 90 := ⟨by decide +kernel, rfl⟩
theorem dX9_reckon_90 : q_at cX9_reckon 90 (.istore 6) 2 92 := ⟨by decide +kernel, rfl⟩
theorem dX9_reckon_92 : q_at cX9_reckon 92 (.aload_n 0) 1 93 := ⟨by decide +kernel, rfl⟩
theorem dX9_reckon_93 : q_at cX9_reckon 93 (.getfield 71) 3 96 := ⟨by decide +kernel, rfl⟩
theorem dX9_reckon_96 : q_at cX9_reckon 96 (.iconst 5) 1 97 := ⟨by decide +kernel, rfl⟩
theorem dX9_reckon_97 : q_at cX9_reckon 97 (.aload_n 0) 1 98 := ⟨by decide +kernel, rfl⟩
theorem dX9_reckon_98 : q_at cX9_reckon 98 (.getfield 35) 3 101 := ⟨by decide +kernel, rfl⟩
theorem dX9_reckon_101 : q_at cX9_reckon 101 (.iload_n 1) 1 102 := ⟨by decide +kernel, rfl⟩
theorem dX9_reckon_102 : q_at cX9_reckon 102 (.iconst 5) 1 103 := ⟨by decide +kernel, rfl⟩
theorem dX9_reckon_103 : q_at cX9_reckon 103 (.iload 6) 2 105 := ⟨by decide +kernel, rfl⟩
theorem dX9_reckon_105 : q_at cX9_reckon 105 (.iload_n 2) 1 106 := ⟨by decide +kernel, rfl⟩
theorem dX9_reckon_106 : q_at cX9_reckon 106 (.invokevirtual 279) 3 109 := ⟨by decide +kernel, rfl⟩
theorem dX9_reckon_109 : q_at cX9_reckon 109 (.iastore) 1 110 := ⟨by decide +kernel, rfl⟩
theorem dX9_reckon_110 : q_at cX9_reckon 110 (.iload 5) 2 112 := ⟨by decide +kernel, rfl⟩
theorem dX9_reckon_112 : q_at cX9_reckon 112 (.aload_n 0) 1 113 := ⟨by decide +kernel, rfl⟩
theorem dX9_reckon_113 : q_at cX9_reckon 113 (.getfield 71) 3 116 := ⟨by decide +kernel, rfl⟩
theorem dX9_reckon_116 : q_at cX9_reckon 116 (.iconst 5) 1 117 := ⟨by decide +kernel, rfl⟩
theorem dX9_reckon_117 : q_at cX9_reckon 117 (.iaload) 1 118 := ⟨by decide +kernel, rfl⟩
theorem dX9_reckon_118 : q_at cX9_reckon 118 (.isub) 1 119 := ⟨by decide +kernel, rfl⟩
theorem dX9_reckon_119 : q_at cX9_reckon 119 (.istore 5) 2 121 := ⟨by decide +kernel, rfl⟩
theorem dX9_reckon_121 : q_at cX9_reckon 121 (.aload_n 0) 1 122 := ⟨by decide +kernel, rfl⟩
theorem dX9_reckon_122 : q_at cX9_reckon 122 (.getfield 71) 3 125 := ⟨by decide +kernel, rfl⟩
theorem dX9_reckon_125 : q_at cX9_reckon 125 (.bipush 6) 2 127 := ⟨by decide +kernel, rfl⟩
theorem dX9_reckon_127 : q_at cX9_reckon 127 (.iload 5) 2 129 := ⟨by decide +kernel, rfl⟩
theorem dX9_reckon_129 : q_at cX9_reckon 129 (.aload_n 0) 1 130 := ⟨by decide +kernel, rfl⟩
theorem dX9_reckon_130 : q_at cX9_reckon 130 (.iload_n 1) 1 131 := ⟨by decide +kernel, rfl⟩
theorem dX9_reckon_131 : q_at cX9_reckon 131 (.invokevirtual 141) 3 134 := ⟨by decide +kernel, rfl⟩
theorem dX9_reckon_134 : q_at cX9_reckon 134 (.invokestatic 233) 3 137 := ⟨by decide +kernel, rfl⟩
theorem dX9_reckon_137 : q_at cX9_reckon 137 (.iastore) 1 138 := ⟨by decide +kernel, rfl⟩
theorem dX9_reckon_138 : q_at cX9_reckon 138 (.iload 5) 2 140 := ⟨by decide +kernel, rfl⟩
theorem dX9_reckon_140 : q_at cX9_reckon 140 (.aload_n 0) 1 141 := ⟨by decide +kernel, rfl⟩
theorem dX9_reckon_141 : q_at cX9_reckon 141 (.getfield 71) 3 144 := ⟨by decide +kernel, rfl⟩
theorem dX9_reckon_144 : q_at cX9_reckon 144 (.bipush 6) 2 146 := ⟨by decide +kernel, rfl⟩
theorem dX9_reckon_146 : q_at cX9_reckon 146 (.iaload) 1 147 := ⟨by decide +kernel, rfl⟩
theorem dX9_reckon_147 : q_at cX9_reckon 147 (.isub) 1 148 := ⟨by decide +kernel, rfl⟩
theorem dX9_reckon_148 : q_at cX9_reckon 148 (.istore 5) 2 150 := ⟨by decide +kernel, rfl⟩
theorem dX9_reckon_150 : q_at cX9_reckon 150 (.iload_n 3) 1 151 := ⟨by decide +kernel, rfl⟩
theorem dX9_reckon_151 : q_at cX9_reckon 151 (.ifCond .eq 8) 3 154 := ⟨by decide +kernel, rfl⟩
theorem dX9_reckon_154 : q_at cX9_reckon 154 (.bipush 100) 2 156 := ⟨by decide +kernel, rfl⟩
theorem dX9_reckon_156 : q_at cX9_reckon 156 (.goto 25) 3 159 := ⟨by decide +kernel, rfl⟩
theorem dX9_reckon_159 : q_at cX9_reckon 159 (.aload_n 0) 1 160 := ⟨by decide +kernel, rfl⟩
theorem dX9_reckon_160 : q_at cX9_reckon 160 (.getfield 42) 3 163 := ⟨by decide +kernel, rfl⟩
theorem dX9_reckon_163 : q_at cX9_reckon 163 (.iconst 3) 1 164 := ⟨by decide +kernel, rfl⟩
theorem dX9_reckon_164 : q_at cX9_reckon 164 (.aload_n 0) 1 165 := ⟨by decide +kernel, rfl⟩
theorem dX9_reckon_165 : q_at cX9_reckon 165 (.getfield 83) 3 168 := ⟨by decide +kernel, rfl⟩
theorem dX9_reckon_168 : q_at cX9_reckon 168 (.iload 5) 2 170 := ⟨by decide +kernel, rfl⟩
theorem dX9_reckon_170 : q_at cX9_reckon 170 (.aload_n 0) 1 171 := ⟨by decide +kernel, rfl⟩
theorem dX9_reckon_171 : q_at cX9_reckon 171 (.getfield 83) 3 174 := ⟨by decide +kernel, rfl⟩
theorem dX9_reckon_174 : q_at cX9_reckon 174 (.bipush 7) 2 176 := ⟨by decide +kernel, rfl⟩
theorem dX9_reckon_176 : q_at cX9_reckon 176 (.idiv) 1 177 := ⟨by decide +kernel, rfl⟩
theorem dX9_reckon_177 : q_at cX9_reckon 177 (.iconst 0) 1 178 := ⟨by decide +kernel, rfl⟩
theorem dX9_reckon_178 : q_at cX9_reckon 178 (.invokevirtual 175) 3 181 := ⟨by decide +kernel, rfl⟩
theorem dX9_reckon_181 : q_at cX9_reckon 181 (.istore 7) 2 183 := ⟨by decide +kernel, rfl⟩
theorem dX9_reckon_183 : q_at cX9_reckon 183 (.aload_n 0) 1 184 := ⟨by decide +kernel, rfl⟩
theorem dX9_reckon_184 : q_at cX9_reckon 184 (.getfield 71) 3 187 := ⟨by decide +kernel, rfl⟩
theorem dX9_reckon_187 : q_at cX9_reckon 187 (.iconst 0) 1 188 := ⟨by decide +kernel, rfl⟩
theorem dX9_reckon_188 : q_at cX9_reckon 188 (.iload 5) 2 190 := ⟨by decide +kernel, rfl⟩
theorem dX9_reckon_190 : q_at cX9_reckon 190 (.iastore) 1 191 := ⟨by decide +kernel, rfl⟩
theorem dX9_reckon_191 : q_at cX9_reckon 191 (.aload_n 0) 1 192 := ⟨by decide +kernel, rfl⟩
theorem dX9_reckon_192 : q_at cX9_reckon 192 (.getfield 71) 3 195 := ⟨by decide +kernel, rfl⟩
theorem dX9_reckon_195 : q_at cX9_reckon 195 (.iconst 1) 1 196 := ⟨by decide +kernel, rfl⟩
theorem dX9_reckon_196 : q_at cX9_reckon 196 (.iload 5) 2 198 := ⟨by decide +kernel, rfl⟩
theorem dX9_reckon_198 : q_at cX9_reckon 198 (.i2l) 1 199 := ⟨by decide +kernel, rfl⟩
theorem dX9_reckon_199 : q_at cX9_reckon 199 (.iload 7) 2 201 := ⟨by decide +kernel, rfl⟩
theorem dX9_reckon_201 : q_at cX9_reckon 201 (.i2l) 1 202 := ⟨by decide +kernel, rfl⟩
theorem dX9_reckon_202 : q_at cX9_reckon 202 (.lmul) 1 203 := ⟨by decide +kernel, rfl⟩
theorem dX9_reckon_203 : q_at cX9_reckon 203 (.ldc2_w 283) 3 206 := ⟨by decide +kernel, rfl⟩
theorem dX9_reckon_206 : q_at cX9_reckon 206 (.ldiv) 1 207 := ⟨by decide +kernel, rfl⟩
theorem dX9_reckon_207 : q_at cX9_reckon 207 (.l2i) 1 208 := ⟨by decide +kernel, rfl⟩
theorem dX9_reckon_208 : q_at cX9_reckon 208 (.iastore) 1 209 := ⟨by decide +kernel, rfl⟩
theorem dX9_reckon_209 : q_at cX9_reckon 209 (.aload_n 0) 1 210 := ⟨by decide +kernel, rfl⟩
theorem dX9_reckon_210 : q_at cX9_reckon 210 (.getfield 71) 3 213 := ⟨by decide +kernel, rfl⟩
theorem dX9_reckon_213 : q_at cX9_reckon 213 (.iconst 2) 1 214 := ⟨by decide +kernel, rfl⟩
theorem dX9_reckon_214 : q_at cX9_reckon 214 (.iload 5) 2 216 := ⟨by decide +kernel, rfl⟩
theorem dX9_reckon_216 : q_at cX9_reckon 216 (.aload_n 0) 1 217 := ⟨by decide +kernel, rfl⟩
theorem dX9_reckon_217 : q_at cX9_reckon 217 (.getfield 71) 3 220 := ⟨by decide +kernel, rfl⟩
theorem dX9_reckon_220 : q_at cX9_reckon 220 (.iconst 1) 1 221 := ⟨by decide +kernel, rfl⟩
theorem dX9_reckon_221 : q_at cX9_reckon 221 (.iaload) 1 222 := ⟨by decide +kernel, rfl⟩
theorem dX9_reckon_222 : q_at cX9_reckon 222 (.isub) 1 223 := ⟨by decide +kernel, rfl⟩
theorem dX9_reckon_223 : q_at cX9_reckon 223 (.iastore) 1 224 := ⟨by decide +kernel, rfl⟩
theorem dX9_reckon_224 : q_at cX9_reckon 224 (.iload_n 2) 1 225 := ⟨by decide +kernel, rfl⟩
theorem dX9_reckon_225 : q_at cX9_reckon 225 (.ifCond .eq 8) 3 228 := ⟨by decide +kernel, rfl⟩
theorem dX9_reckon_228 : q_at cX9_reckon 228 (.aload_n 0) 1 229 := ⟨by decide +kernel, rfl⟩
theorem dX9_reckon_229 : q_at cX9_reckon 229 (.iload_n 1) 1 230 := ⟨by decide +kernel, rfl⟩
theorem dX9_reckon_230 : q_at cX9_reckon 230 (.invokevirtual 285) 3 233 := ⟨by decide +kernel, rfl⟩
theorem dX9_reckon_233 : q_at cX9_reckon 233 (.return_) 1 234 := ⟨by decide +kernel, rfl⟩
theorem dX9_eat_0 : q_at cX9_eat 0 (.aload_n 0) 1 1 := ⟨by decide +kernel, rfl⟩
theorem dX9_eat_1 : q_at cX9_eat 1 (.getfield 28) 3 4 := ⟨by decide +kernel, rfl⟩
theorem dX9_eat_4 : q_at cX9_eat 4 (.getfield 190) 3 7 := ⟨by decide +kernel, rfl⟩
theorem dX9_eat_7 : q_at cX9_eat 7 (.iload_n 1) 1 8 := ⟨by decide +kernel, rfl⟩
theorem dX9_eat_8 : q_at cX9_eat 8 (.iaload) 1 9 := ⟨by decide +kernel, rfl⟩
theorem dX9_eat_9 : q_at cX9_eat 9 (.istore_n 2) 1 10 := ⟨by decide +kernel, rfl⟩
theorem dX9_eat_10 : q_at cX9_eat 10 (.aload_n 0) 1 11 := ⟨by decide +kernel, rfl⟩
theorem dX9_eat_11 : q_at cX9_eat 11 (.getfield 28) 3 14 := ⟨by decide +kernel, rfl⟩
theorem dX9_eat_14 : q_at cX9_eat 14 (.iload_n 1) 1 15 := ⟨by decide +kernel, rfl⟩
theorem dX9_eat_15 : q_at cX9_eat 15 (.invokevirtual 193) 3 18 := ⟨by decide +kernel, rfl⟩
theorem dX9_eat_18 : q_at cX9_eat 18 (.ifCond .le 8) 3 21 := ⟨by decide +kernel, rfl⟩
theorem dX9_eat_21 : q_at cX9_eat 21 (.aload_n 0) 1 22 := ⟨by decide +kernel, rfl⟩
theorem dX9_eat_22 : q_at cX9_eat 22 (.iload_n 1) 1 23 := ⟨by decide +kernel, rfl⟩
theorem dX9_eat_23 : q_at cX9_eat 23 (.invokevirtual 196) 3 26 := ⟨by decide +kernel, rfl⟩
theorem dX9_eat_26 : q_at cX9_eat 26 (.aload_n 0) 1 27 := ⟨by decide +kernel, rfl⟩
theorem dX9_eat_27 : q_at cX9_eat 27 (.getfield 28) 3 30 := ⟨by decide +kernel, rfl⟩
theorem dX9_eat_30 : q_at cX9_eat 30 (.getfield 199) 3 33 := ⟨by decide +kernel, rfl⟩
theorem dX9_eat_33 : q_at cX9_eat 33 (.iload_n 1) 1 34 := ⟨by decide +kernel, rfl⟩
theorem dX9_eat_34 : q_at cX9_eat 34 (.iaload) 1 35 := ⟨by decide +kernel, rfl⟩
theorem dX9_eat_35 : q_at cX9_eat 35 (.iload_n 2) 1 36 := ⟨by decide +kernel, rfl⟩
theorem dX9_eat_36 : q_at cX9_eat 36 (.if_icmp .ge 7) 3 39 := ⟨by decide +kernel, rfl⟩
theorem dX9_eat_39 : q_at cX9_eat 39 (.iconst 1) 1 40 := ⟨by decide +kernel, rfl⟩
theorem dX9_eat_40 : q_at cX9_eat 40 (.goto 4) 3 43 := ⟨by decide +kernel, rfl⟩
theorem dX9_eat_43 : q_at cX9_eat 43 (.iconst 0) 1 44 := ⟨by decide +kernel, rfl⟩
theorem dX9_eat_44 : q_at cX9_eat 44 (.istore_n 3) 1 45 := ⟨by decide +kernel, rfl⟩
theorem dX9_eat_45 : q_at cX9_eat 45 (.aload_n 0) 1 46 := ⟨by decide +kernel, rfl⟩
theorem dX9_eat_46 : q_at cX9_eat 46 (.getfield 28) 3 49 := ⟨by decide +kernel, rfl⟩
theorem dX9_eat_49 : q_at cX9_eat 49 (.getfield 199) 3 52 := ⟨by decide +kernel, rfl⟩
theorem dX9_eat_52 : q_at cX9_eat 52 (.iload_n 1) 1 53 := ⟨by decide +kernel, rfl⟩
theorem dX9_eat_53 : q_at cX9_eat 53 (.iload_n 3) 1 54 := ⟨by decide +kernel, rfl⟩
theorem dX9_eat_54 : q_at cX9_eat 54 (.ifCond .eq 7) 3 57 := ⟨by decide +kernel, rfl⟩
theorem dX9_eat_57 : q_at cX9_eat 57 (.iconst 0) 1 58 := ⟨by decide +kernel, rfl⟩
theorem dX9_eat_58 : q_at cX9_eat 58 (.goto 14) 3 61 := ⟨by decide +kernel, rfl⟩
theorem dX9_eat_61 : q_at cX9_eat 61 (.aload_n 0) 1 62 := ⟨by decide +kernel, rfl⟩
theorem dX9_eat_62 : q_at cX9_eat 62 (.getfield 28) 3 65 := ⟨by decide +kernel, rfl⟩
theorem dX9_eat_65 : q_at cX9_eat 65 (.getfield 199) 3 68 := ⟨by decide +kernel, rfl⟩
theorem dX9_eat_68 : q_at cX9_eat 68 (.iload_n 1) 1 69 := ⟨by decide +kernel, rfl⟩
theorem dX9_eat_69 : q_at cX9_eat 69 (.iaload) 1 70 := ⟨by decide +kernel, rfl⟩
theorem dX9_eat_70 : q_at cX9_eat 70 (.iload_n 2) 1 71 := ⟨by decide +kernel, rfl⟩
theorem dX9_eat_71 : q_at cX9_eat 71 (.isub) 1 72 := ⟨by decide +kernel, rfl⟩
theorem dX9_eat_72 : q_at cX9_eat 72 (.iastore) 1 73 := ⟨by decide +kernel, rfl⟩
theorem dX9_eat_73 : q_at cX9_eat 73 (.aload_n 0) 1 74 := ⟨by decide +kernel, rfl⟩
theorem dX9_eat_74 : q_at cX9_eat 74 (.getfield 28) 3 77 := ⟨by decide +kernel, rfl⟩
theorem dX9_eat_77 : q_at cX9_eat 77 (.getfield 202) 3 80 := ⟨by decide +kernel, rfl⟩
theorem dX9_eat_80 : q_at cX9_eat 80 (.iload_n 1) 1 81 := ⟨by decide +kernel, rfl⟩
theorem dX9_eat_81 : q_at cX9_eat 81 (.iload_n 3) 1 82 := ⟨by decide +kernel, rfl⟩
theorem dX9_eat_82 : q_at cX9_eat 82 (.ifCond .eq 17) 3 85 := ⟨by decide +kernel, rfl⟩
theorem dX9_eat_85 : q_at cX9_eat 85 (.aload_n 0) 1 86 := ⟨by decide +kernel, rfl⟩
theorem dX9_eat_86 : q_at cX9_eat 86 (.getfield 28) 3 89 := ⟨by decide +kernel, rfl⟩
theorem dX9_eat_89 : q_at cX9_eat 89 (.getfield 202) 3 92 := ⟨by decide +kernel, rfl⟩
theorem dX9_eat_92 : q_at cX9_eat 92 (.iload_n 1) 1 93 := ⟨by decide +kernel, rfl⟩
theorem dX9_eat_93 : q_at cX9_eat 93 (.iaload) 1 94 := ⟨by decide +kernel, rfl⟩
theorem dX9_eat_94 : q_at cX9_eat 94 (.iconst 1) 1 95 := ⟨by decide +kernel, rfl⟩
theorem dX9_eat_95 : q_at cX9_eat 95 (.iadd) 1 96 := ⟨by decide +kernel, rfl⟩
theorem dX9_eat_96 : q_at cX9_eat 96 (.goto 18) 3 99 := ⟨by decide +kernel, rfl⟩
theorem dX9_eat_99 : q_at cX9_eat 99 (.iconst 0) 1 100 := ⟨by decide +kernel, rfl⟩
theorem dX9_eat_100 : q_at cX9_eat 100 (.aload_n 0) 1 101 := ⟨by decide +kernel, rfl⟩
theorem dX9_eat_101 : q_at cX9_eat 101 (.getfield 28) 3 104 := ⟨by decide +kernel, rfl⟩
theorem dX9_eat_104 : q_at cX9_eat 104 (.getfield 202) 3 107 := ⟨by decide +kernel, rfl⟩
theorem dX9_eat_107 : q_at cX9_eat 107 (.iload_n 1) 1 108 := ⟨by decide +kernel, rfl⟩
theorem dX9_eat_108 : q_at cX9_eat 108 (.iaload) 1 109 := ⟨by decide +kernel, rfl⟩
theorem dX9_eat_109 : q_at cX9_eat 109 (.iconst 1) 1 110 := ⟨by decide +kernel, rfl⟩
theorem dX9_eat_110 : q_at cX9_eat 110 (.isub) 1 111 := ⟨by decide +kernel, rfl⟩
theorem dX9_eat_111 : q_at cX9_eat 111 (.invokestatic 205) 3 114 := ⟨by decide +kernel, rfl⟩
theorem dX9_eat_114 : q_at cX9_eat 114 (.iastore) 1 115 := ⟨by decide +kernel, rfl⟩
theorem dX9_eat_115 : q_at cX9_eat 115 (.aload_n 0) 1 116 := ⟨by decide +kernel, rfl⟩
theorem dX9_eat_116 : q_at cX9_eat 116 (.getfield 28) 3 119 := ⟨by decide +kernel, rfl⟩
theorem dX9_eat_119 : q_at cX9_eat 119 (.getfield 202) 3 122 := ⟨by decide +kernel, rfl⟩
theorem dX9_eat_122 : q_at cX9_eat 122 (.iload_n 1) 1 123 := ⟨by decide +kernel, rfl⟩
theorem dX9_eat_123 : q_at cX9_eat 123 (.iaload) 1 124 := ⟨by decide +kernel, rfl⟩
theorem dX9_eat_124 : q_at cX9_eat 124 (.bipush 9) 2 126 := ⟨by decide +kernel, rfl⟩
theorem dX9_eat_126 : q_at cX9_eat 126 (.if_icmp .lt 13) 3 129 := ⟨by decide +kernel, rfl⟩
theorem dX9_eat_129 : q_at cX9_eat 129 (.aload_n 0) 1 130 := ⟨by decide +kernel, rfl⟩
theorem dX9_eat_130 : q_at cX9_eat 130 (.getfield 28) 3 133 := ⟨by decide +kernel, rfl⟩
theorem dX9_eat_133 : q_at cX9_eat 133 (.getfield 211) 3 136 := ⟨by decide +kernel, rfl⟩
theorem dX9_eat_136 : q_at cX9_eat 136 (.iload_n 1) 1 137 := ⟨by decide +kernel, rfl⟩
theorem dX9_eat_137 : q_at cX9_eat 137 (.iconst 1) 1 138 := ⟨by decide +kernel, rfl⟩
theorem dX9_eat_138 : q_at cX9_eat 138 (.iastore) 1 139 := ⟨by decide +kernel, rfl⟩
theorem dX9_eat_139 : q_at cX9_eat 139 (.return_) 1 140 := ⟨by decide +kernel, rfl⟩
theorem dX9_endWeek_0 : q_at cX9_endWeek 0 (.aload_n 0) 1 1 := ⟨by decide +kernel, rfl⟩
theorem dX9_endWeek_1 : q_at cX9_endWeek 1 (.getfield 83) 3 4 := ⟨by decide +kernel, rfl⟩
theorem dX9_endWeek_4 : q_at cX9_endWeek 4 (.bipush 7) 2 6 := ⟨by decide +kernel, rfl⟩
theorem dX9_endWeek_6 : q_at cX9_endWeek 6 (.idiv) 1 7 := ⟨by decide +kernel, rfl⟩
theorem dX9_endWeek_7 : q_at cX9_endWeek 7 (.istore_n 2) 1 8 := ⟨by decide +kernel, rfl⟩
theorem dX9_endWeek_8 : q_at cX9_endWeek 8 (.aload_n 0) 1 9 := ⟨by decide +kernel, rfl⟩
theorem dX9_endWeek_9 : q_at cX9_endWeek 9 (.getfield 42) 3 12 := ⟨by decide +kernel, rfl⟩
theorem dX9_endWeek_12 : q_at cX9_endWeek 12 (.iconst 2) 1 13 := ⟨by decide +kernel, rfl⟩
theorem dX9_endWeek_13 : q_at cX9_endWeek 13 (.aload_n 0) 1 14 := ⟨by decide +kernel, rfl⟩
theorem dX9_endWeek_14 : q_at cX9_endWeek 14 (.getfield 83) 3 17 := ⟨by decide +kernel, rfl⟩
theorem dX9_endWeek_17 : q_at cX9_endWeek 17 (.iload_n 2) 1 18 := ⟨by decide +kernel, rfl⟩
theorem dX9_endWeek_18 : q_at cX9_endWeek 18 (.iconst 0) 1 19 := ⟨by decide +kernel, rfl⟩
theorem dX9_endWeek_19 : q_at cX9_endWeek 19 (.iconst 0) 1 20 := ⟨by decide +kernel, rfl⟩
theorem dX9_endWeek_20 : q_at cX9_endWeek 20 (.invokevirtual 175) 3 23 := ⟨by decide +kernel, rfl⟩
theorem dX9_endWeek_23 : q_at cX9_endWeek 23 (.istore_n 3) 1 24 := ⟨by decide +kernel, rfl⟩
theorem dX9_endWeek_24 : q_at cX9_endWeek 24 (.iload_n 3) 1 25 := ⟨by decide +kernel, rfl⟩
theorem dX9_endWeek_25 : q_at cX9_endWeek 25 (.ifCond .le 52) 3 28 := ⟨by decide +kernel, rfl⟩
theorem dX9_endWeek_28 : q_at cX9_endWeek 28 (.iload_n 2) 1 29 := ⟨by decide +kernel, rfl⟩
theorem dX9_endWeek_29 : q_at cX9_endWeek 29 (.iconst 1) 1 30 := ⟨by decide +kernel, rfl⟩
theorem dX9_endWeek_30 : q_at cX9_endWeek 30 (.iadd) 1 31 := ⟨by decide +kernel, rfl⟩
theorem dX9_endWeek_31 : q_at cX9_endWeek 31 (.iload_n 3) 1 32 := ⟨by decide +kernel, rfl⟩
theorem dX9_endWeek_32 : q_at cX9_endWeek 32 (.irem) 1 33 := ⟨by decide +kernel, rfl⟩
theorem dX9_endWeek_33 : q_at cX9_endWeek 33 (.ifCond .ne 44) 3 36 := ⟨by decide +kernel, rfl⟩
theorem dX9_endWeek_36 : q_at cX9_endWeek 36 (.iconst 0) 1 37 := ⟨by decide +kernel, rfl⟩
theorem dX9_endWeek_37 : q_at cX9_endWeek 37 (.istore 4) 2 39 := ⟨by decide +kernel, rfl⟩
theorem dX9_endWeek_39 : q_at cX9_endWeek 39 (.iload 4) 2 41 := ⟨by decide +kernel, rfl⟩
theorem dX9_endWeek_41 : q_at cX9_endWeek 41 (.aload_n 0) 1 42 := ⟨by decide +kernel, rfl⟩
theorem dX9_endWeek_42 : q_at cX9_endWeek 42 (.getfield 28) 3 45 := ⟨by decide +kernel, rfl⟩
theorem dX9_endWeek_45 : q_at cX9_endWeek 45 (.getfield 134) 3 48 := ⟨by decide +kernel, rfl⟩
theorem dX9_endWeek_48 : q_at cX9_endWeek 48 (.if_icmp .ge 29) 3 51 := ⟨by decide +kernel, rfl⟩
theorem dX9_endWeek_51 : q_at cX9_endWeek 51 (.aload_n 0) 1 52 := ⟨by decide +kernel, rfl⟩
theorem dX9_endWeek_52 : q_at cX9_endWeek 52 (.getfield 28) 3 55 := ⟨by decide +kernel, rfl⟩
theorem dX9_endWeek_55 : q_at cX9_endWeek 55 (.iload 4) 2 57 := ⟨by decide +kernel, rfl⟩
theorem dX9_endWeek_57 : q_at cX9_endWeek 57 (.invokevirtual 144) 3 60 := ⟨by decide +kernel, rfl⟩
theorem dX9_endWeek_60 : q_at cX9_endWeek 60 (.ifCond .ne 11) 3 63 := ⟨by decide +kernel, rfl⟩
theorem dX9_endWeek_63 : q_at cX9_endWeek 63 (.aload_n 0) 1 64 := ⟨by decide +kernel, rfl⟩
theorem dX9_endWeek_64 : q_at cX9_endWeek 64 (.iload 4) 2 66 := ⟨by decide +kernel, rfl⟩
theorem dX9_endWeek_66 : q_at cX9_endWeek 66 (.iconst 1) 1 67 := ⟨by decide +kernel, rfl⟩
theorem dX9_endWeek_67 : q_at cX9_endWeek 67 (.iload_n 1) 1 68 := ⟨by decide +kernel, rfl⟩
theorem dX9_endWeek_68 : q_at cX9_endWeek 68 (.invokevirtual 272) 3 71 := ⟨by decide +kernel, rfl⟩
theorem dX9_endWeek_71 : q_at cX9_endWeek 71 (.iinc 4 1) 3 74 := ⟨by decide +kernel, rfl⟩
theorem dX9_endWeek_74 : q_at cX9_endWeek 74 (.goto (-35)) 3 77 := ⟨by decide +kernel, rfl⟩
theorem dX9_endWeek_77 : q_at cX9_endWeek 77 (.iconst 0) 1 78 := ⟨by decide +kernel, rfl⟩
theorem dX9_endWeek_78 : q_at cX9_endWeek 78 (.istore 4) 2 80 := ⟨by decide +kernel, rfl⟩
theorem dX9_endWeek_80 : q_at cX9_endWeek 80 (.iload 4) 2 82 := ⟨by decide +kernel, rfl⟩
theorem dX9_endWeek_82 : q_at cX9_endWeek 82 (.aload_n 0) 1 83 := ⟨by decide +kernel, rfl⟩
theorem dX9_endWeek_83 : q_at cX9_endWeek 83 (.getfield 28) 3 86 := ⟨by decide +kernel, rfl⟩
theorem dX9_endWeek_86 : q_at cX9_endWeek 86 (.getfield 134) 3 89 := ⟨by decide +kernel, rfl⟩
theorem dX9_endWeek_89 : q_at cX9_endWeek 89 (.if_icmp .ge 52) 3 92 := ⟨by decide +kernel, rfl⟩
theorem dX9_endWeek_92 : q_at cX9_endWeek 92 (.aload_n 0) 1 93 := ⟨by decide +kernel, rfl⟩
theorem dX9_endWeek_93 : q_at cX9_endWeek 93 (.getfield 28) 3 96 := ⟨by decide +kernel, rfl⟩
theorem dX9_endWeek_96 : q_at cX9_endWeek 96 (.iload 4) 2 98 := ⟨by decide +kernel, rfl⟩
theorem dX9_endWeek_98 : q_at cX9_endWeek 98 (.invokevirtual 144) 3 101 := ⟨by decide +kernel, rfl⟩
theorem dX9_endWeek_101 : q_at cX9_endWeek 101 (.ifCond .ne 23) 3 104 := ⟨by decide +kernel, rfl⟩
theorem dX9_endWeek_104 : q_at cX9_endWeek 104 (.aload_n 0) 1 105 := ⟨by decide +kernel, rfl⟩
theorem dX9_endWeek_105 : q_at cX9_endWeek 105 (.iload 4) 2 107 := ⟨by decide +kernel, rfl⟩
theorem dX9_endWeek_107 : q_at cX9_endWeek 107 (.invokevirtual 276) 3 110 := ⟨by decide +kernel, rfl⟩
theorem dX9_endWeek_110 : q_at cX9_endWeek 110 (.ifCond .ne 14) 3 113 := ⟨by decide +kernel, rfl⟩
theorem dX9_endWeek_113 : q_at cX9_endWeek 113 (.aload_n 0) 1 114 := ⟨by decide +kernel, rfl⟩
theorem dX9_endWeek_114 : q_at cX9_endWeek 114 (.getfield 28) 3 117 := ⟨by decide +kernel, rfl⟩
theorem dX9_endWeek_117 : q_at cX9_endWeek 117 (.getfield 211) 3 120 := ⟨by decide +kernel, rfl⟩
theorem dX9_endWeek_120 : q_at cX9_endWeek 120 (.iload 4) 2 122 := ⟨by decide +kernel, rfl⟩
theorem dX9_endWeek_122 : q_at cX9_endWeek 122 (.iconst 1) 1 123 := ⟨by decide +kernel, rfl⟩
theorem dX9_endWeek_123 : q_at cX9_endWeek 123 (.iastore) 1 124 := ⟨by decide +kernel, rfl⟩
theorem dX9_endWeek_124 : q_at cX9_endWeek 124 (.aload_n 0) 1 125 := ⟨by decide +kernel, rfl⟩
theorem dX9_endWeek_125 : q_at cX9_endWeek 125 (.getfield 28) 3 128 := ⟨by decide +kernel, rfl⟩
theorem dX9_endWeek_128 : q_at cX9_endWeek 128 (.getfield 262) 3 131 := ⟨by decide +kernel, rfl⟩
theorem dX9_endWeek_131 : q_at cX9_endWeek 131 (.iload 4) 2 133 := ⟨by decide +kernel, rfl⟩
theorem dX9_endWeek_133 : q_at cX9_endWeek 133 (.iconst 0) 1 134 := ⟨by decide +kernel, rfl⟩
theorem dX9_endWeek_134 : q_at cX9_endWeek 134 (.iastore) 1 135 := ⟨by decide +kernel, rfl⟩
theorem dX9_endWeek_135 : q_at cX9_endWeek 135 (.iinc 4 1) 3 138 := ⟨by decide +kernel, rfl⟩
theorem dX9_endWeek_138 : q_at cX9_endWeek 138 (.goto (-58)) 3 141 := ⟨by decide +kernel, rfl⟩
theorem dX9_endWeek_141 : q_at cX9_endWeek 141 (.return_) 1 142 := ⟨by decide +kernel, rfl⟩
theorem dX9_wrongFines_0 : q_at cX9_wrongFines 0 (.iconst 0) 1 1 := ⟨by decide +kernel, rfl⟩
theorem dX9_wrongFines_1 : q_at cX9_wrongFines 1 (.istore_n 3) 1 2 := ⟨by decide +kernel, rfl⟩
theorem dX9_wrongFines_2 : q_at cX9_wrongFines 2 (.iconst 0) 1 3 := ⟨by decide +kernel, rfl⟩
theorem dX9_wrongFines_3 : q_at cX9_wrongFines 3 (.istore 4) 2 5 := ⟨by decide +kernel, rfl⟩
theorem dX9_wrongFines_5 : q_at cX9_wrongFines 5 (.iload 4) 2 7 := ⟨by decide +kernel, rfl⟩
theorem dX9_wrongFines_7 : q_at cX9_wrongFines 7 (.aload_n 0) 1 8 := ⟨by decide +kernel, rfl⟩
theorem dX9_wrongFines_8 : q_at cX9_wrongFines 8 (.getfield 35) 3 11 := ⟨by decide +kernel, rfl⟩
theorem dX9_wrongFines_11 : q_at cX9_wrongFines 11 (.getfield 294) 3 14 := ⟨by decide +kernel, rfl⟩
theorem dX9_wrongFines_14 : q_at cX9_wrongFines 14 (.if_icmp .ge 63) 3 17 := ⟨by decide +kernel, rfl⟩
theorem dX9_wrongFines_17 : q_at cX9_wrongFines 17 (.aload_n 0) 1 18 := ⟨by decide +kernel, rfl⟩
theorem dX9_wrongFines_18 : q_at cX9_wrongFines 18 (.getfield 35) 3 21 := ⟨by decide +kernel, rfl⟩
theorem dX9_wrongFines_21 : q_at cX9_wrongFines 21 (.getfield 295) 3 24 := ⟨by decide +kernel, rfl⟩
theorem dX9_wrongFines_24 : q_at cX9_wrongFines 24 (.iload 4) 2 26 := ⟨by decide +kernel, rfl⟩
theorem dX9_wrongFines_26 : q_at cX9_wrongFines 26 (.iaload) 1 27 := ⟨by decide +kernel, rfl⟩
theorem dX9_wrongFines_27 : q_at cX9_wrongFines 27 (.iload_n 1) 1 28 := ⟨by decide +kernel, rfl⟩
theorem dX9_wrongFines_28 : q_at cX9_wrongFines 28 (.if_icmp .ne 43) 3 31 := ⟨by decide +kernel, rfl⟩
theorem dX9_wrongFines_31 : q_at cX9_wrongFines 31 (.aload_n 0) 1 32 := ⟨by decide +kernel, rfl⟩
theorem dX9_wrongFines_32 : q_at cX9_wrongFines 32 (.iload 4) 2 34 := ⟨by decide +kernel, rfl⟩
theorem dX9_wrongFines_34 : q_at cX9_wrongFines 34 (.invokevirtual 298) 3 37 := ⟨by decide +kernel, rfl⟩
theorem dX9_wrongFines_37 : q_at cX9_wrongFines 37 (.ifCond .ne 6) 3 40 := ⟨by decide +kernel, rfl⟩
theorem dX9_wrongFines_40 : q_at cX9_wrongFines 40 (.goto 31) 3 43 := ⟨by decide +kernel, rfl⟩
theorem dX9_wrongFines_43 : q_at cX9_wrongFines 43 (.iload_n 3) 1 44 := ⟨by decide +kernel, rfl⟩
theorem dX9_wrongFines_44 : q_at cX9_wrongFines 44 (.aload_n 0) 1 45 := ⟨by decide +kernel, rfl⟩
theorem dX9_wrongFines_45 : q_at cX9_wrongFines 45 (.getfield 35) 3 48 := ⟨by decide +kernel, rfl⟩
theorem dX9_wrongFines_48 : q_at cX9_wrongFines 48 (.getfield 131) 3 51 := ⟨by decide +kernel, rfl⟩
theorem dX9_wrongFines_51 : q_at cX9_wrongFines 51 (.iload 4) 2 53 := ⟨by decide +kernel, rfl⟩
theorem dX9_wrongFines_53 : q_at cX9_wrongFines 53 (.iaload) 1 54 := ⟨by decide +kernel, rfl⟩
theorem dX9_wrongFines_54 : q_at cX9_wrongFines 54 (.iadd) 1 55 := ⟨by decide +kernel, rfl⟩
theorem dX9_wrongFines_55 : q_at cX9_wrongFines 55 (.istore_n 3) 1 56 := ⟨by decide +kernel, rfl⟩
theorem dX9_wrongFines_56 : q_at cX9_wrongFines 56 (.iload_n 2) 1 57 := ⟨by decide +kernel, rfl⟩
theorem dX9_wrongFines_57 : q_at cX9_wrongFines 57 (.ifCond .eq 14) 3 60 := ⟨by decide +kernel, rfl⟩
theorem dX9_wrongFines_60 : q_at cX9_wrongFines 60 (.aload_n 0) 1 61 := ⟨by decide +kernel, rfl⟩
theorem dX9_wrongFines_61 : q_at cX9_wrongFines 61 (.getfield 35) 3 64 := ⟨by decide +kernel, rfl⟩
theorem dX9_wrongFines_64 : q_at cX9_wrongFines 64 (.getfield 301) 3 67 := ⟨by decide +kernel, rfl⟩
theorem dX9_wrongFines_67 : q_at cX9_wrongFines 67 (.iload 4) 2 69 := ⟨by decide +kernel, rfl⟩
theorem dX9_wrongFines_69 : q_at cX9_wrongFines 69 (.iconst 2) 1 70 := ⟨by decide +kernel, rfl⟩
theorem dX9_wrongFines_70 : q_at cX9_wrongFines 70 (.iastore) 1 71 := ⟨by decide +kernel, rfl⟩
theorem dX9_wrongFines_71 : q_at cX9_wrongFines 71 (.iinc 4 1) 3 74 := ⟨by decide +kernel, rfl⟩
theorem dX9_wrongFines_74 : q_at cX9_wrongFines 74 (.goto (-69)) 3 77 := ⟨by decide +kernel, rfl⟩
theorem dX9_wrongFines_77 : q_at cX9_wrongFines 77 (.iload_n 3) 1 78 := ⟨by decide +kernel, rfl⟩
theorem dX9_wrongFines_78 : q_at cX9_wrongFines 78 (.ireturn) 1 79 := ⟨by decide +kernel, rfl⟩
theorem dX9_goBy_0 : q_at cX9_goBy 0 (.iconst 0) 1 1 := ⟨by decide +kernel, rfl⟩
theorem dX9_goBy_1 : q_at cX9_goBy 1 (.istore_n 3) 1 2 := ⟨by decide +kernel, rfl⟩
theorem dX9_goBy_2 : q_at cX9_goBy 2 (.iload_n 3) 1 3 := ⟨by decide +kernel, rfl⟩
theorem dX9_goBy_3 : q_at cX9_goBy 3 (.iload_n 1) 1 4 := ⟨by decide +kernel, rfl⟩
theorem dX9_goBy_4 : q_at cX9_goBy 4 (.if_icmp .ge 141) 3 7 := ⟨by decide +kernel, rfl⟩
theorem dX9_goBy_7 : q_at cX9_goBy 7 (.iconst 0) 1 8 := ⟨by decide +kernel, rfl⟩
theorem dX9_goBy_8 : q_at cX9_goBy 8 (.istore 4) 2 10 := ⟨by decide +kernel, rfl⟩
theorem dX9_goBy_10 : q_at cX9_goBy 10 (.iload 4) 2 12 := ⟨by decide +kernel, rfl⟩
theorem dX9_goBy_12 : q_at cX9_goBy 12 (.aload_n 0) 1 13 := ⟨by decide +kernel, rfl⟩
theorem dX9_goBy_13 : q_at cX9_goBy 13 (.getfield 28) 3 16 := ⟨by decide +kernel, rfl⟩
theorem dX9_goBy_16 : q_at cX9_goBy 16 (.getfield 134) 3 19 := ⟨by decide +kernel, rfl⟩
theorem dX9_goBy_19 : q_at cX9_goBy 19 (.if_icmp .ge 27) 3 22 := ⟨by decide +kernel, rfl⟩
theorem dX9_goBy_22 : q_at cX9_goBy 22 (.aload_n 0) 1 23 := ⟨by decide +kernel, rfl⟩
theorem dX9_goBy_23 : q_at cX9_goBy 23 (.getfield 28) 3 26 := ⟨by decide +kernel, rfl⟩
theorem dX9_goBy_26 : q_at cX9_goBy 26 (.iload 4) 2 28 := ⟨by decide +kernel, rfl⟩
theorem dX9_goBy_28 : q_at cX9_goBy 28 (.invokevirtual 144) 3 31 := ⟨by decide +kernel, rfl⟩
theorem dX9_goBy_31 : q_at cX9_goBy 31 (.ifCond .ne 9) 3 34 := ⟨by decide +kernel, rfl⟩
theorem dX9_goBy_34 : q_at cX9_goBy 34 (.aload_n 0) 1 35 := ⟨by decide +kernel, rfl⟩
theorem dX9_goBy_35 : q_at cX9_goBy 35 (.iload 4) 2 37 := ⟨by decide +kernel, rfl⟩
theorem dX9_goBy_37 : q_at cX9_goBy 37 (.invokevirtual 148) 3 40 := ⟨by decide +kernel, rfl⟩
theorem dX9_goBy_40 : q_at cX9_goBy 40 (.iinc 4 1) 3 43 := ⟨by decide +kernel, rfl⟩
theorem dX9_goBy_43 : q_at cX9_goBy 43 (.goto (-33)) 3 46 := ⟨by decide +kernel, rfl⟩
theorem dX9_goBy_46 : q_at cX9_goBy 46 (.iconst 0) 1 47 := ⟨by decide +kernel, rfl⟩
theorem dX9_goBy_47 : q_at cX9_goBy 47 (.istore 4) 2 49 := ⟨by decide +kernel, rfl⟩
theorem dX9_goBy_49 : q_at cX9_goBy 49 (.iload 4) 2 51 := ⟨by decide +kernel, rfl⟩
theorem dX9_goBy_51 : q_at cX9_goBy 51 (.aload_n 0) 1 52 := ⟨by decide +kernel, rfl⟩
theorem dX9_goBy_52 : q_at cX9_goBy 52 (.getfield 28) 3 55 := ⟨by decide +kernel, rfl⟩
theorem dX9_goBy_55 : q_at cX9_goBy 55 (.getfield 134) 3 58 := ⟨by decide +kernel, rfl⟩
theorem dX9_goBy_58 : q_at cX9_goBy 58 (.if_icmp .ge 27) 3 61 := ⟨by decide +kernel, rfl⟩
theorem dX9_goBy_61 : q_at cX9_goBy 61 (.aload_n 0) 1 62 := ⟨by decide +kernel, rfl⟩
theorem dX9_goBy_62 : q_at cX9_goBy 62 (.getfield 28) 3 65 := ⟨by decide +kernel, rfl⟩
theorem dX9_goBy_65 : q_at cX9_goBy 65 (.iload 4) 2 67 := ⟨by decide +kernel, rfl⟩
theorem dX9_goBy_67 : q_at cX9_goBy 67 (.invokevirtual 144) 3 70 := ⟨by decide +kernel, rfl⟩
theorem dX9_goBy_70 : q_at cX9_goBy 70 (.ifCond .ne 9) 3 73 := ⟨by decide +kernel, rfl⟩
theorem dX9_goBy_73 : q_at cX9_goBy 73 (.aload_n 0) 1 74 := ⟨by decide +kernel, rfl⟩
theorem dX9_goBy_74 : q_at cX9_goBy 74 (.iload 4) 2 76 := ⟨by decide +kernel, rfl⟩
theorem dX9_goBy_76 : q_at cX9_goBy 76 (.invokevirtual 152) 3 79 := ⟨by decide +kernel, rfl⟩
theorem dX9_goBy_79 : q_at cX9_goBy 79 (.iinc 4 1) 3 82 := ⟨by decide +kernel, rfl⟩
theorem dX9_goBy_82 : q_at cX9_goBy 82 (.goto (-33)) 3 85 := ⟨by decide +kernel, rfl⟩
theorem dX9_goBy_85 : q_at cX9_goBy 85 (.iconst 0) 1 86 := ⟨by decide +kernel, rfl⟩
theorem dX9_goBy_86 : q_at cX9_goBy 86 (.istore 4) 2 88 := ⟨by decide +kernel, rfl⟩
theorem dX9_goBy_88 : q_at cX9_goBy 88 (.iload 4) 2 90 := ⟨by decide +kernel, rfl⟩
theorem dX9_goBy_90 : q_at cX9_goBy 90 (.aload_n 0) 1 91 := ⟨by decide +kernel, rfl⟩
theorem dX9_goBy_91 : q_at cX9_goBy 91 (.getfield 21) 3 94 := ⟨by decide +kernel, rfl⟩
theorem dX9_goBy_94 : q_at cX9_goBy 94 (.getfield 155) 3 97 := ⟨by decide +kernel, rfl⟩
theorem dX9_goBy_97 : q_at cX9_goBy 97 (.if_icmp .ge 15) 3 100 := ⟨by decide +kernel, rfl⟩
theorem dX9_goBy_100 : q_at cX9_goBy 100 (.aload_n 0) 1 101 := ⟨by decide +kernel, rfl⟩
theorem dX9_goBy_101 : q_at cX9_goBy 101 (.iload 4) 2 103 := ⟨by decide +kernel, rfl⟩
theorem dX9_goBy_103 : q_at cX9_goBy 103 (.invokevirtual 156) 3 106 := ⟨by decide +kernel, rfl⟩
theorem dX9_goBy_106 : q_at cX9_goBy 106 (.iinc 4 1) 3 109 := ⟨by decide +kernel, rfl⟩
theorem dX9_goBy_109 : q_at cX9_goBy 109 (.goto (-21)) 3 112 := ⟨by decide +kernel, rfl⟩
theorem dX9_goBy_112 : q_at cX9_goBy 112 (.aload_n 0) 1 113 := ⟨by decide +kernel, rfl⟩
theorem dX9_goBy_113 : q_at cX9_goBy 113 (.getfield 83) 3 116 := ⟨by decide +kernel, rfl⟩
theorem dX9_goBy_116 : q_at cX9_goBy 116 (.bipush 7) 2 118 := ⟨by decide +kernel, rfl⟩
theorem dX9_goBy_118 : q_at cX9_goBy 118 (.irem) 1 119 := ⟨by decide +kernel, rfl⟩
theorem dX9_goBy_119 : q_at cX9_goBy 119 (.bipush 6) 2 121 := ⟨by decide +kernel, rfl⟩
theorem dX9_goBy_121 : q_at cX9_goBy 121 (.if_icmp .ne 8) 3 124 := ⟨by decide +kernel, rfl⟩
theorem dX9_goBy_124 : q_at cX9_goBy 124 (.aload_n 0) 1 125 := ⟨by decide +kernel, rfl⟩
theorem dX9_goBy_125 : q_at cX9_goBy 125 (.iload_n 2) 1 126 := ⟨by decide +kernel, rfl⟩
theorem dX9_goBy_126 : q_at cX9_goBy 126 (.invokevirtual 159) 3 129 := ⟨by decide +kernel, rfl⟩
theorem dX9_goBy_129 : q_at cX9_goBy 129 (.aload_n 0) 1 130 := ⟨by decide +kernel, rfl⟩
theorem dX9_goBy_130 : q_at cX9_goBy 130 (.dup) 1 131 := ⟨by decide +kernel, rfl⟩
theorem dX9_goBy_131 : q_at cX9_goBy 131 (.getfield 83) 3 134 := ⟨by decide +kernel, rfl⟩
theorem dX9_goBy_134 : q_at cX9_goBy 134 (.iconst 1) 1 135 := ⟨by decide +kernel, rfl⟩
theorem dX9_goBy_135 : q_at cX9_goBy 135 (.iadd) 1 136 := ⟨by decide +kernel, rfl⟩
theorem dX9_goBy_136 : q_at cX9_goBy 136 (.putfield 83) 3 139 := ⟨by decide +kernel, rfl⟩
theorem dX9_goBy_139 : q_at cX9_goBy 139 (.iinc 3 1) 3 142 := ⟨by decide +kernel, rfl⟩
theorem dX9_goBy_142 : q_at cX9_goBy 142 (.goto (-140)) 3 145 := ⟨by decide +kernel, rfl⟩
theorem dX9_goBy_145 : q_at cX9_goBy 145 (.return_) 1 146 := ⟨by decide +kernel, rfl⟩
def f_X9_earned (this : Nat) (x1 : Int32) (I : qI) : Option (Int32) :=
  q_b1 (q_rd I (this + 23) 12 x1) fun v5 =>
  q_b1 (q_rd I (this + 30) 60 v5) fun v7 =>
  some (v7)
set_option maxRecDepth 100000 in
set_option maxHeartbeats 4000000 in
theorem s_X9_earned {l : Launch} {Γ : qC} (hΓ : q_gm Γ) {X : qX} (hX : q_Lay X) {this : Nat} {x1 : Int32} (k_this : q_kd X this = some (11, 14)) {I : qI} {z : Int32} (h : f_X9_earned this x1 I = some z) : q_Sem l Γ (q_rm 2 0 0) yX9_earned cX9_earned 2 (some .int) [.ref this, .int x1] I X (some (.int z), I, X) := by
  refine q_met (by decide) (Nat.le_of_ble_eq_true rfl) (fun g hg hr => ?_)
  unfold f_X9_earned at h
  show g 0 0 0 [(0, .ref this), (1, .int x1)] [] I X
  refine r_aload_n hg 0 dX9_earned_0 rfl rfl ?_
  have e1 := ly_9_3 hX k_this
  refine r_getR hg dX9_earned_1 fl_X9_35 k_this rfl e1.1 ?_
  have e2 := ly_1_2 hX e1.2
  refine r_getR hg dX9_earned_4 fl_X9_131 e1.2 rfl e2.1 ?_
  refine r_aload_n hg 0 dX9_earned_7 rfl rfl ?_
  have e3 := ly_9_2 hX k_this
  refine r_getR hg dX9_earned_8 fl_X9_28 k_this rfl e3.1 ?_
  have e4 := ly_2_10 hX e3.2
  refine r_getR hg dX9_earned_11 fl_X9_122 e3.2 rfl e4.1 ?_
  refine r_iload_n hg 1 dX9_earned_14 rfl rfl ?_
  obtain ⟨v5, e6, h⟩ := q_b1_some h
  refine r_iald hg dX9_earned_15 e4.2 e6 ?_
  obtain ⟨v7, e8, h⟩ := q_b1_some h
  refine r_iald hg dX9_earned_16 e2.2 e8 ?_
  exact r_ireturn hr dX9_earned_17 ⟨Nat.zero_le _, Nat.zero_le _⟩ ⟨_, rfl, rfl⟩ (by cases h; rfl)

def f_X9_owed (this : Nat) (x1 : Int32) (I : qI) : Option (Int32) :=
  q_b1 (q_rd I (this + 24) 12 x1) fun v5 =>
  q_b1 (q_rd I (this + 30) 60 v5) fun v7 =>
  some (v7)
set_option maxRecDepth 100000 in
set_option maxHeartbeats 4000000 in
theorem s_X9_owed {l : Launch} {Γ : qC} (hΓ : q_gm Γ) {X : qX} (hX : q_Lay X) {this : Nat} {x1 : Int32} (k_this : q_kd X this = some (11, 14)) {I : qI} {z : Int32} (h : f_X9_owed this x1 I = some z) : q_Sem l Γ (q_rm 2 0 0) yX9_owed cX9_owed 2 (some .int) [.ref this, .int x1] I X (some (.int z), I, X) := by
  refine q_met (by decide) (Nat.le_of_ble_eq_true rfl) (fun g hg hr => ?_)
  unfold f_X9_owed at h
  show g 0 0 0 [(0, .ref this), (1, .int x1)] [] I X
  refine r_aload_n hg 0 dX9_owed_0 rfl rfl ?_
  have e1 := ly_9_3 hX k_this
  refine r_getR hg dX9_owed_1 fl_X9_35 k_this rfl e1.1 ?_
  have e2 := ly_1_2 hX e1.2
  refine r_getR hg dX9_owed_4 fl_X9_131 e1.2 rfl e2.1 ?_
  refine r_aload_n hg 0 dX9_owed_7 rfl rfl ?_
  have e3 := ly_9_2 hX k_this
  refine r_getR hg dX9_owed_8 fl_X9_28 k_this rfl e3.1 ?_
  have e4 := ly_2_11 hX e3.2
  refine r_getR hg dX9_owed_11 fl_X9_128 e3.2 rfl e4.1 ?_
  refine r_iload_n hg 1 dX9_owed_14 rfl rfl ?_
  obtain ⟨v5, e6, h⟩ := q_b1_some h
  refine r_iald hg dX9_owed_15 e4.2 e6 ?_
  obtain ⟨v7, e8, h⟩ := q_b1_some h
  refine r_iald hg dX9_owed_16 e2.2 e8 ?_
  exact r_ireturn hr dX9_owed_17 ⟨Nat.zero_le _, Nat.zero_le _⟩ ⟨_, rfl, rfl⟩ (by cases h; rfl)

def b_X9_allEarned_4 (this : Nat) (I : qI) (k4 : Int32 → Int32 → Option (Int32)) (x1 : Int32) (x2 : Int32) : Option (Int32) :=
  if (I (this + 12) 14) ≤ x2 then
    some (x1)
  else
    q_b1 (f_X9_earned this x2 I) fun v3 =>
    k4 (x1 + v3) (x2 + (nI 1))
set_option maxRecDepth 100000 in
set_option maxHeartbeats 4000000 in
theorem p_X9_allEarned_4 {l : Launch} {Γ : qC} {g : qG} {z : Int32} {this : Nat} {X : qX} {I : qI} (hΓ : q_gm Γ) (hg : q_Ok l Γ RX9 cX9_allEarned 3 (q_rm 3 0 0) "allEarned" (some .int) g) (hr : q_Rt cX9_allEarned (some .int) (q_rm 3 0 0) (some (.int z), I, X) g) (hX : q_Lay X) (k_this : q_kd X this = some (11, 14)) {k4 : Int32 → Int32 → Option (Int32)} (hk4 : ∀ (x1 : Int32) (x2 : Int32), k4 x1 x2 = some z → g 0 0 4 [(0, .ref this), (1, .int x1), (2, .int x2)] [] I X) (x1 : Int32) (x2 : Int32) (h : b_X9_allEarned_4 this I k4 x1 x2 = some z) : g 0 0 4 [(0, .ref this), (1, .int x1), (2, .int x2)] [] I X := by
  unfold b_X9_allEarned_4 at h
  refine r_iload_n hg 2 dX9_allEarned_4 rfl rfl ?_
  refine r_aload_n hg 0 dX9_allEarned_5 rfl rfl ?_
  have e1 := ly_9_2 hX k_this
  refine r_getR hg dX9_allEarned_6 fl_X9_28 k_this rfl e1.1 ?_
  refine r_getI hg dX9_allEarned_9 fl_X9_134 e1.2 rfl ?_
  refine r_icmp_ge hg 29 dX9_allEarned_12 (by decide) (fun c2 => ?_) (fun c2 => ?_)
  · rw [if_pos c2] at h
    refine r_iload_n hg 1 dX9_allEarned_29 rfl rfl ?_
    exact r_ireturn hr dX9_allEarned_30 ⟨Nat.zero_le _, Nat.zero_le _⟩ ⟨_, rfl, rfl⟩ (by cases h; rfl)
  · rw [if_neg c2] at h
    refine r_iload_n hg 1 dX9_allEarned_15 rfl rfl ?_
    refine r_aload_n hg 0 dX9_allEarned_16 rfl rfl ?_
    refine r_iload_n hg 2 dX9_allEarned_17 rfl rfl ?_
    obtain ⟨v3, e4, h⟩ := q_b1_some h
    refine r_cV1i hg dX9_allEarned_18 mt_X9_earned ml_X9_137 mv_X9_earned k_this (s_X9_earned hΓ hX k_this e4) (q_room (Nat.le_of_ble_eq_true rfl) (Nat.le_of_ble_eq_true rfl)) ⟨Nat.zero_le _, Nat.zero_le _⟩ (Nat.le_of_ble_eq_true rfl) ?_
    refine r_iadd hg dX9_allEarned_21 ?_
    refine r_istore_n hg (L' := [(1, .int (x1 + v3)), (0, .ref this), (2, .int x2)]) dX9_allEarned_22 rfl (by decide) rfl ?_
    refine r_iinc hg 2 (v := (x2 + (nI 1))) (L' := [(2, .int (x2 + (nI 1))), (1, .int (x1 + v3)), (0, .ref this)]) dX9_allEarned_23 rfl (by rw [ci_1]) (by decide) rfl ?_
    refine r_goto hg 4 dX9_allEarned_26 (by decide) ?_
    refine r_sub hg [2, 1, 0] rfl ?_
    exact hk4 _ _ h
theorem pl_X9_allEarned_4 {l : Launch} {Γ : qC} {g : qG} {z : Int32} {this : Nat} {X : qX} {I : qI} (hΓ : q_gm Γ) (hg : q_Ok l Γ RX9 cX9_allEarned 3 (q_rm 3 0 0) "allEarned" (some .int) g) (hr : q_Rt cX9_allEarned (some .int) (q_rm 3 0 0) (some (.int z), I, X) g) (hX : q_Lay X) (k_this : q_kd X this = some (11, 14)) : ∀ (n : Nat) (x1 : Int32) (x2 : Int32), q_fix (fun _ _ => none) (b_X9_allEarned_4 this I) n x1 x2 = some z → g 0 0 4 [(0, .ref this), (1, .int x1), (2, .int x2)] [] I X := by
  intro n
  induction n with
  | zero =>
    intro x1 x2 h
    cases (show (none : Option (Int32)) = some z from h)
  | succ n ih =>
    intro x1 x2 h
    exact p_X9_allEarned_4 hΓ hg hr hX k_this ih _ _ h
def f_X9_allEarned (this : Nat) (I : qI) : Option (Int32) :=
  q_fix (fun _ _ => none) (b_X9_allEarned_4 this I) q_fu (nI 0) (nI 0)
set_option maxRecDepth 100000 in
set_option maxHeartbeats 4000000 in
theorem s_X9_allEarned {l : Launch} {Γ : qC} (hΓ : q_gm Γ) {X : qX} (hX : q_Lay X) {this : Nat} (k_this : q_kd X this = some (11, 14)) {I : qI} {z : Int32} (h : f_X9_allEarned this I = some z) : q_Sem l Γ (q_rm 3 0 0) yX9_allEarned cX9_allEarned 3 (some .int) [.ref this] I X (some (.int z), I, X) := by
  refine q_met (by decide) (Nat.le_of_ble_eq_true rfl) (fun g hg hr => ?_)
  unfold f_X9_allEarned at h
  show g 0 0 0 [(0, .ref this)] [] I X
  refine r_iconst hg dX9_allEarned_0 ci_0 ?_
  refine r_istore_n hg (L' := [(1, .int (nI 0)), (0, .ref this)]) dX9_allEarned_1 rfl (by decide) rfl ?_
  refine r_iconst hg dX9_allEarned_2 ci_0 ?_
  refine r_istore_n hg (L' := [(2, .int (nI 0)), (1, .int (nI 0)), (0, .ref this)]) dX9_allEarned_3 rfl (by decide) rfl ?_
  refine r_sub hg [2, 1, 0] rfl ?_
  exact pl_X9_allEarned_4 hΓ hg hr hX k_this _ _ _ h

def b_X9_allOwed_4 (this : Nat) (I : qI) (k4 : Int32 → Int32 → Option (Int32)) (x1 : Int32) (x2 : Int32) : Option (Int32) :=
  if (I (this + 12) 14) ≤ x2 then
    some (x1)
  else
    q_b1 (f_X9_owed this x2 I) fun v3 =>
    k4 (x1 + v3) (x2 + (nI 1))
set_option maxRecDepth 100000 in
set_option maxHeartbeats 4000000 in
theorem p_X9_allOwed_4 {l : Launch} {Γ : qC} {g : qG} {z : Int32} {this : Nat} {X : qX} {I : qI} (hΓ : q_gm Γ) (hg : q_Ok l Γ RX9 cX9_allOwed 3 (q_rm 3 0 0) "allOwed" (some .int) g) (hr : q_Rt cX9_allOwed (some .int) (q_rm 3 0 0) (some (.int z), I, X) g) (hX : q_Lay X) (k_this : q_kd X this = some (11, 14)) {k4 : Int32 → Int32 → Option (Int32)} (hk4 : ∀ (x1 : Int32) (x2 : Int32), k4 x1 x2 = some z → g 0 0 4 [(0, .ref this), (1, .int x1), (2, .int x2)] [] I X) (x1 : Int32) (x2 : Int32) (h : b_X9_allOwed_4 this I k4 x1 x2 = some z) : g 0 0 4 [(0, .ref this), (1, .int x1), (2, .int x2)] [] I X := by
  unfold b_X9_allOwed_4 at h
  refine r_iload_n hg 2 dX9_allOwed_4 rfl rfl ?_
  refine r_aload_n hg 0 dX9_allOwed_5 rfl rfl ?_
  have e1 := ly_9_2 hX k_this
  refine r_getR hg dX9_allOwed_6 fl_X9_28 k_this rfl e1.1 ?_
  refine r_getI hg dX9_allOwed_9 fl_X9_134 e1.2 rfl ?_
  refine r_icmp_ge hg 29 dX9_allOwed_12 (by decide) (fun c2 => ?_) (fun c2 => ?_)
  · rw [if_pos c2] at h
    refine r_iload_n hg 1 dX9_allOwed_29 rfl rfl ?_
    exact r_ireturn hr dX9_allOwed_30 ⟨Nat.zero_le _, Nat.zero_le _⟩ ⟨_, rfl, rfl⟩ (by cases h; rfl)
  · rw [if_neg c2] at h
    refine r_iload_n hg 1 dX9_allOwed_15 rfl rfl ?_
    refine r_aload_n hg 0 dX9_allOwed_16 rfl rfl ?_
    refine r_iload_n hg 2 dX9_allOwed_17 rfl rfl ?_
    obtain ⟨v3, e4, h⟩ := q_b1_some h
    refine r_cV1i hg dX9_allOwed_18 mt_X9_owed ml_X9_141 mv_X9_owed k_this (s_X9_owed hΓ hX k_this e4) (q_room (Nat.le_of_ble_eq_true rfl) (Nat.le_of_ble_eq_true rfl)) ⟨Nat.zero_le _, Nat.zero_le _⟩ (Nat.le_of_ble_eq_true rfl) ?_
    refine r_iadd hg dX9_allOwed_21 ?_
    refine r_istore_n hg (L' := [(1, .int (x1 + v3)), (0, .ref this), (2, .int x2)]) dX9_allOwed_22 rfl (by decide) rfl ?_
    refine r_iinc hg 2 (v := (x2 + (nI 1))) (L' := [(2, .int (x2 + (nI 1))), (1, .int (x1 + v3)), (0, .ref this)]) dX9_allOwed_23 rfl (by rw [ci_1]) (by decide) rfl ?_
    refine r_goto hg 4 dX9_allOwed_26 (by decide) ?_
    refine r_sub hg [2, 1, 0] rfl ?_
    exact hk4 _ _ h
theorem pl_X9_allOwed_4 {l : Launch} {Γ : qC} {g : qG} {z : Int32} {this : Nat} {X : qX} {I : qI} (hΓ : q_gm Γ) (hg : q_Ok l Γ RX9 cX9_allOwed 3 (q_rm 3 0 0) "allOwed" (some .int) g) (hr : q_Rt cX9_allOwed (some .int) (q_rm 3 0 0) (some (.int z), I, X) g) (hX : q_Lay X) (k_this : q_kd X this = some (11, 14)) : ∀ (n : Nat) (x1 : Int32) (x2 : Int32), q_fix (fun _ _ => none) (b_X9_allOwed_4 this I) n x1 x2 = some z → g 0 0 4 [(0, .ref this), (1, .int x1), (2, .int x2)] [] I X := by
  intro n
  induction n with
  | zero =>
    intro x1 x2 h
    cases (show (none : Option (Int32)) = some z from h)
  | succ n ih =>
    intro x1 x2 h
    exact p_X9_allOwed_4 hΓ hg hr hX k_this ih _ _ h
def f_X9_allOwed (this : Nat) (I : qI) : Option (Int32) :=
  q_fix (fun _ _ => none) (b_X9_allOwed_4 this I) q_fu (nI 0) (nI 0)
set_option maxRecDepth 100000 in
set_option maxHeartbeats 4000000 in
theorem s_X9_allOwed {l : Launch} {Γ : qC} (hΓ : q_gm Γ) {X : qX} (hX : q_Lay X) {this : Nat} (k_this : q_kd X this = some (11, 14)) {I : qI} {z : Int32} (h : f_X9_allOwed this I = some z) : q_Sem l Γ (q_rm 3 0 0) yX9_allOwed cX9_allOwed 3 (some .int) [.ref this] I X (some (.int z), I, X) := by
  refine q_met (by decide) (Nat.le_of_ble_eq_true rfl) (fun g hg hr => ?_)
  unfold f_X9_allOwed at h
  show g 0 0 0 [(0, .ref this)] [] I X
  refine r_iconst hg dX9_allOwed_0 ci_0 ?_
  refine r_istore_n hg (L' := [(1, .int (nI 0)), (0, .ref this)]) dX9_allOwed_1 rfl (by decide) rfl ?_
  refine r_iconst hg dX9_allOwed_2 ci_0 ?_
  refine r_istore_n hg (L' := [(2, .int (nI 0)), (1, .int (nI 0)), (0, .ref this)]) dX9_allOwed_3 rfl (by decide) rfl ?_
  refine r_sub hg [2, 1, 0] rfl ?_
  exact pl_X9_allOwed_4 hΓ hg hr hX k_this _ _ _ h

def b_X9_companyLasts_32 (this : Nat) (x1 : Int32) (I : qI) (k9 : Int32 → Int32 → Option (Int32)) (x2 : Int32) (x3 : Int32) : Option (Int32) :=
  k9 x2 (x3 + (nI 1))
set_option maxRecDepth 100000 in
set_option maxHeartbeats 4000000 in
theorem p_X9_companyLasts_32 {l : Launch} {Γ : qC} {g : qG} {z : Int32} {this : Nat} {x1 : Int32} {X : qX} {I : qI} (hΓ : q_gm Γ) (hg : q_Ok l Γ RX9 cX9_companyLasts 4 (q_rm 3 0 0) "companyLasts" (some .int) g) (hr : q_Rt cX9_companyLasts (some .int) (q_rm 3 0 0) (some (.int z), I, X) g) (hX : q_Lay X) (k_this : q_kd X this = some (11, 14)) {k9 : Int32 → Int32 → Option (Int32)} (hk9 : ∀ (x2 : Int32) (x3 : Int32), k9 x2 x3 = some z → g 0 0 9 [(0, .ref this), (1, .int x1), (2, .int x2), (3, .int x3)] [] I X) (x2 : Int32) (x3 : Int32) (h : b_X9_companyLasts_32 this x1 I k9 x2 x3 = some z) : g 0 0 32 [(0, .ref this), (1, .int x1), (2, .int x2), (3, .int x3)] [] I X := by
  unfold b_X9_companyLasts_32 at h
  refine r_iinc hg 3 (v := (x3 + (nI 1))) (L' := [(3, .int (x3 + (nI 1))), (0, .ref this), (1, .int x1), (2, .int x2)]) dX9_companyLasts_32 rfl (by rw [ci_1]) (by decide) rfl ?_
  refine r_goto hg 9 dX9_companyLasts_35 (by decide) ?_
  refine r_sub hg [1, 2, 3, 0] rfl ?_
  exact hk9 _ _ h
def b_X9_companyLasts_9 (this : Nat) (x1 : Int32) (I : qI) (k9 : Int32 → Int32 → Option (Int32)) (x2 : Int32) (x3 : Int32) : Option (Int32) :=
  if (nI 8) ≤ x3 then
    if 0 < x2 then
      q_b1 (q_rd I (this + 60) 3 (nI 1)) fun v4 =>
      if x2 = 0 then none else
      some ((q_min (nI 999) (v4 / x2)))
    else
      some ((nI 999))
  else
    if ((x1 >>> (x3 &&& 31)) &&& (nI 1)) = 0 then
      q_b1 (q_rd I (this + 64) 8 x3) fun v9 =>
      b_X9_companyLasts_32 this x1 I k9 (x2 - v9) x3
    else
      b_X9_companyLasts_32 this x1 I k9 x2 x3
set_option maxRecDepth 100000 in
set_option maxHeartbeats 4000000 in
theorem p_X9_companyLasts_9 {l : Launch} {Γ : qC} {g : qG} {z : Int32} {this : Nat} {x1 : Int32} {X : qX} {I : qI} (hΓ : q_gm Γ) (hg : q_Ok l Γ RX9 cX9_companyLasts 4 (q_rm 3 0 0) "companyLasts" (some .int) g) (hr : q_Rt cX9_companyLasts (some .int) (q_rm 3 0 0) (some (.int z), I, X) g) (hX : q_Lay X) (k_this : q_kd X this = some (11, 14)) {k9 : Int32 → Int32 → Option (Int32)} (hk9 : ∀ (x2 : Int32) (x3 : Int32), k9 x2 x3 = some z → g 0 0 9 [(0, .ref this), (1, .int x1), (2, .int x2), (3, .int x3)] [] I X) (x2 : Int32) (x3 : Int32) (h : b_X9_companyLasts_9 this x1 I k9 x2 x3 = some z) : g 0 0 9 [(0, .ref this), (1, .int x1), (2, .int x2), (3, .int x3)] [] I X := by
  unfold b_X9_companyLasts_9 at h
  refine r_iload_n hg 3 dX9_companyLasts_9 rfl rfl ?_
  refine r_bipush hg dX9_companyLasts_10 cb_8 ?_
  refine r_icmp_ge hg 38 dX9_companyLasts_12 (by decide) (fun c1 => ?_) (fun c1 => ?_)
  · rw [if_pos c1] at h
    refine r_iload_n hg 2 dX9_companyLasts_38 rfl rfl ?_
    refine r_if_gt hg 48 dX9_companyLasts_39 (by decide) (fun c2 => ?_) (fun c2 => ?_)
    · rw [if_pos c2] at h
      refine r_sipush hg dX9_companyLasts_48 cs_999 ?_
      refine r_aload_n hg 0 dX9_companyLasts_51 rfl rfl ?_
      have e3 := ly_9_8 hX k_this
      refine r_getR hg dX9_companyLasts_52 fl_X9_67 k_this rfl e3.1 ?_
      refine r_iconst hg dX9_companyLasts_55 ci_1 ?_
      obtain ⟨v4, e5, h⟩ := q_b1_some h
      refine r_iald hg dX9_companyLasts_56 e3.2 e5 ?_
      refine r_iload_n hg 2 dX9_companyLasts_57 rfl rfl ?_
      by_cases c6 : x2 = 0
      · rw [if_pos c6] at h; cases h
      rw [if_neg c6] at h
      refine r_idiv hg dX9_companyLasts_58 c6 ?_
      refine r_minq hg dX9_companyLasts_59 mm_X9_233 ⟨Nat.le_of_ble_eq_true rfl, Nat.le_of_ble_eq_true rfl⟩ ⟨Nat.zero_le _, Nat.zero_le _⟩ ?_
      exact r_ireturn hr dX9_companyLasts_62 ⟨Nat.zero_le _, Nat.zero_le _⟩ ⟨_, rfl, rfl⟩ (by cases h; rfl)
    · rw [if_neg c2] at h
      refine r_sipush hg dX9_companyLasts_42 cs_999 ?_
      refine r_goto hg 62 dX9_companyLasts_45 (by decide) ?_
      exact r_ireturn hr dX9_companyLasts_62 ⟨Nat.zero_le _, Nat.zero_le _⟩ ⟨_, rfl, rfl⟩ (by cases h; rfl)
  · rw [if_neg c1] at h
    refine r_iload_n hg 1 dX9_companyLasts_15 rfl rfl ?_
    refine r_iload_n hg 3 dX9_companyLasts_16 rfl rfl ?_
    refine r_ishr hg dX9_companyLasts_17 ?_
    refine r_iconst hg dX9_companyLasts_18 ci_1 ?_
    refine r_iand hg dX9_companyLasts_19 ?_
    refine r_if_ne hg 32 dX9_companyLasts_20 (by decide) (fun c7 => ?_) (fun c7 => ?_)
    · rw [if_neg c7] at h
      exact p_X9_companyLasts_32 hΓ hg hr hX k_this hk9 _ _ h
    · rw [if_pos (Classical.not_not.mp c7)] at h
      refine r_iload_n hg 2 dX9_companyLasts_23 rfl rfl ?_
      refine r_aload_n hg 0 dX9_companyLasts_24 rfl rfl ?_
      have e8 := ly_9_12 hX k_this
      refine r_getR hg dX9_companyLasts_25 fl_X9_80 k_this rfl e8.1 ?_
      refine r_iload_n hg 3 dX9_companyLasts_28 rfl rfl ?_
      obtain ⟨v9, e10, h⟩ := q_b1_some h
      refine r_iald hg dX9_companyLasts_29 e8.2 e10 ?_
      refine r_isub hg dX9_companyLasts_30 ?_
      refine r_istore_n hg (L' := [(2, .int (x2 - v9)), (0, .ref this), (1, .int x1), (3, .int x3)]) dX9_companyLasts_31 rfl (by decide) rfl ?_
      refine r_sub hg [1, 2, 0, 3] rfl ?_
      exact p_X9_companyLasts_32 hΓ hg hr hX k_this hk9 _ _ h
theorem pl_X9_companyLasts_9 {l : Launch} {Γ : qC} {g : qG} {z : Int32} {this : Nat} {x1 : Int32} {X : qX} {I : qI} (hΓ : q_gm Γ) (hg : q_Ok l Γ RX9 cX9_companyLasts 4 (q_rm 3 0 0) "companyLasts" (some .int) g) (hr : q_Rt cX9_companyLasts (some .int) (q_rm 3 0 0) (some (.int z), I, X) g) (hX : q_Lay X) (k_this : q_kd X this = some (11, 14)) : ∀ (n : Nat) (x2 : Int32) (x3 : Int32), q_fix (fun _ _ => none) (b_X9_companyLasts_9 this x1 I) n x2 x3 = some z → g 0 0 9 [(0, .ref this), (1, .int x1), (2, .int x2), (3, .int x3)] [] I X := by
  intro n
  induction n with
  | zero =>
    intro x2 x3 h
    cases (show (none : Option (Int32)) = some z from h)
  | succ n ih =>
    intro x2 x3 h
    exact p_X9_companyLasts_9 hΓ hg hr hX k_this ih _ _ h
def f_X9_companyLasts (this : Nat) (x1 : Int32) (I : qI) : Option (Int32) :=
  q_b1 (q_rd I (this + 60) 3 (nI 2)) fun v2 =>
  q_fix (fun _ _ => none) (b_X9_companyLasts_9 this x1 I) q_fu v2 (nI 0)
set_option maxRecDepth 100000 in
set_option maxHeartbeats 4000000 in
theorem s_X9_companyLasts {l : Launch} {Γ : qC} (hΓ : q_gm Γ) {X : qX} (hX : q_Lay X) {this : Nat} {x1 : Int32} (k_this : q_kd X this = some (11, 14)) {I : qI} {z : Int32} (h : f_X9_companyLasts this x1 I = some z) : q_Sem l Γ (q_rm 3 0 0) yX9_companyLasts cX9_companyLasts 4 (some .int) [.ref this, .int x1] I X (some (.int z), I, X) := by
  refine q_met (by decide) (Nat.le_of_ble_eq_true rfl) (fun g hg hr => ?_)
  unfold f_X9_companyLasts at h
  show g 0 0 0 [(0, .ref this), (1, .int x1)] [] I X
  refine r_aload_n hg 0 dX9_companyLasts_0 rfl rfl ?_
  have e1 := ly_9_8 hX k_this
  refine r_getR hg dX9_companyLasts_1 fl_X9_67 k_this rfl e1.1 ?_
  refine r_iconst hg dX9_companyLasts_4 ci_2 ?_
  obtain ⟨v2, e3, h⟩ := q_b1_some h
  refine r_iald hg dX9_companyLasts_5 e1.2 e3 ?_
  refine r_istore_n hg (L' := [(2, .int v2), (0, .ref this), (1, .int x1)]) dX9_companyLasts_6 rfl (by decide) rfl ?_
  refine r_iconst hg dX9_companyLasts_7 ci_0 ?_
  refine r_istore_n hg (L' := [(3, .int (nI 0)), (2, .int v2), (0, .ref this), (1, .int x1)]) dX9_companyLasts_8 rfl (by decide) rfl ?_
  refine r_sub hg [2, 3, 1, 0] rfl ?_
  exact pl_X9_companyLasts_9 hΓ hg hr hX k_this _ _ _ h

def b_X9_menLast_54 (this : Nat) (x1 : Int32) (I : qI) (k4 : Int32 → Int32 → Option (Int32)) (x2 : Int32) (x3 : Int32) : Option (Int32) :=
  k4 x2 (x3 + (nI 1))
set_option maxRecDepth 100000 in
set_option maxHeartbeats 4000000 in
theorem p_X9_menLast_54 {l : Launch} {Γ : qC} {g : qG} {z : Int32} {this : Nat} {x1 : Int32} {X : qX} {I : qI} (hΓ : q_gm Γ) (hg : q_Ok l Γ RX9 cX9_menLast 4 (q_rm 3 0 0) "menLast" (some .int) g) (hr : q_Rt cX9_menLast (some .int) (q_rm 3 0 0) (some (.int z), I, X) g) (hX : q_Lay X) (k_this : q_kd X this = some (11, 14)) {k4 : Int32 → Int32 → Option (Int32)} (hk4 : ∀ (x2 : Int32) (x3 : Int32), k4 x2 x3 = some z → g 0 0 4 [(0, .ref this), (1, .int x1), (2, .int x2), (3, .int x3)] [] I X) (x2 : Int32) (x3 : Int32) (h : b_X9_menLast_54 this x1 I k4 x2 x3 = some z) : g 0 0 54 [(0, .ref this), (1, .int x1), (2, .int x2), (3, .int x3)] [] I X := by
  unfold b_X9_menLast_54 at h
  refine r_iinc hg 3 (v := (x3 + (nI 1))) (L' := [(3, .int (x3 + (nI 1))), (0, .ref this), (1, .int x1), (2, .int x2)]) dX9_menLast_54 rfl (by rw [ci_1]) (by decide) rfl ?_
  refine r_goto hg 4 dX9_menLast_57 (by decide) ?_
  refine r_sub hg [1, 2, 3, 0] rfl ?_
  exact hk4 _ _ h
def b_X9_menLast_53 (this : Nat) (x1 : Int32) (I : qI) (k4 : Int32 → Int32 → Option (Int32)) (x3 : Int32) (s0 : Int32) : Option (Int32) :=
  b_X9_menLast_54 this x1 I k4 s0 x3
set_option maxRecDepth 100000 in
set_option maxHeartbeats 4000000 in
theorem p_X9_menLast_53 {l : Launch} {Γ : qC} {g : qG} {z : Int32} {this : Nat} {x1 : Int32} {X : qX} {I : qI} (hΓ : q_gm Γ) (hg : q_Ok l Γ RX9 cX9_menLast 4 (q_rm 3 0 0) "menLast" (some .int) g) (hr : q_Rt cX9_menLast (some .int) (q_rm 3 0 0) (some (.int z), I, X) g) (hX : q_Lay X) (k_this : q_kd X this = some (11, 14)) {k4 : Int32 → Int32 → Option (Int32)} (hk4 : ∀ (x2 : Int32) (x3 : Int32), k4 x2 x3 = some z → g 0 0 4 [(0, .ref this), (1, .int x1), (2, .int x2), (3, .int x3)] [] I X) (x3 : Int32) (s0 : Int32) (h : b_X9_menLast_53 this x1 I k4 x3 s0 = some z) : g 0 0 53 [(0, .ref this), (1, .int x1), (3, .int x3)] [.int s0] I X := by
  unfold b_X9_menLast_53 at h
  refine r_istore_n hg (L' := [(2, .int s0), (0, .ref this), (1, .int x1), (3, .int x3)]) dX9_menLast_53 rfl (by decide) rfl ?_
  refine r_sub hg [1, 2, 0, 3] rfl ?_
  exact p_X9_menLast_54 hΓ hg hr hX k_this hk4 _ _ h
def b_X9_menLast_4 (this : Nat) (x1 : Int32) (I : qI) (k4 : Int32 → Int32 → Option (Int32)) (x2 : Int32) (x3 : Int32) : Option (Int32) :=
  if (nI 8) ≤ x3 then
    if 0 ≤ x2 then
      some (x2)
    else
      some ((nI 999))
  else
    if ((x1 >>> (x3 &&& 31)) &&& (nI 1)) = 0 then
      b_X9_menLast_54 this x1 I k4 x2 x3
    else
      q_b1 (q_rd I (this + 63) 8 x3) fun v5 =>
      if 0 ≤ v5 then
        if 0 ≤ x2 then
          q_b1 (q_rd I (this + 63) 8 x3) fun v10 =>
          b_X9_menLast_53 this x1 I k4 x3 (q_min x2 v10)
        else
          q_b1 (q_rd I (this + 63) 8 x3) fun v13 =>
          b_X9_menLast_53 this x1 I k4 x3 v13
      else
        b_X9_menLast_54 this x1 I k4 x2 x3
set_option maxRecDepth 100000 in
set_option maxHeartbeats 4000000 in
theorem p_X9_menLast_4 {l : Launch} {Γ : qC} {g : qG} {z : Int32} {this : Nat} {x1 : Int32} {X : qX} {I : qI} (hΓ : q_gm Γ) (hg : q_Ok l Γ RX9 cX9_menLast 4 (q_rm 3 0 0) "menLast" (some .int) g) (hr : q_Rt cX9_menLast (some .int) (q_rm 3 0 0) (some (.int z), I, X) g) (hX : q_Lay X) (k_this : q_kd X this = some (11, 14)) {k4 : Int32 → Int32 → Option (Int32)} (hk4 : ∀ (x2 : Int32) (x3 : Int32), k4 x2 x3 = some z → g 0 0 4 [(0, .ref this), (1, .int x1), (2, .int x2), (3, .int x3)] [] I X) (x2 : Int32) (x3 : Int32) (h : b_X9_menLast_4 this x1 I k4 x2 x3 = some z) : g 0 0 4 [(0, .ref this), (1, .int x1), (2, .int x2), (3, .int x3)] [] I X := by
  unfold b_X9_menLast_4 at h
  refine r_iload_n hg 3 dX9_menLast_4 rfl rfl ?_
  refine r_bipush hg dX9_menLast_5 cb_8 ?_
  refine r_icmp_ge hg 60 dX9_menLast_7 (by decide) (fun c1 => ?_) (fun c1 => ?_)
  · rw [if_pos c1] at h
    refine r_iload_n hg 2 dX9_menLast_60 rfl rfl ?_
    refine r_if_ge hg 70 dX9_menLast_61 (by decide) (fun c2 => ?_) (fun c2 => ?_)
    · rw [if_pos c2] at h
      refine r_iload_n hg 2 dX9_menLast_70 rfl rfl ?_
      exact r_ireturn hr dX9_menLast_71 ⟨Nat.zero_le _, Nat.zero_le _⟩ ⟨_, rfl, rfl⟩ (by cases h; rfl)
    · rw [if_neg c2] at h
      refine r_sipush hg dX9_menLast_64 cs_999 ?_
      refine r_goto hg 71 dX9_menLast_67 (by decide) ?_
      exact r_ireturn hr dX9_menLast_71 ⟨Nat.zero_le _, Nat.zero_le _⟩ ⟨_, rfl, rfl⟩ (by cases h; rfl)
  · rw [if_neg c1] at h
    refine r_iload_n hg 1 dX9_menLast_10 rfl rfl ?_
    refine r_iload_n hg 3 dX9_menLast_11 rfl rfl ?_
    refine r_ishr hg dX9_menLast_12 ?_
    refine r_iconst hg dX9_menLast_13 ci_1 ?_
    refine r_iand hg dX9_menLast_14 ?_
    refine r_if_eq hg 54 dX9_menLast_15 (by decide) (fun c3 => ?_) (fun c3 => ?_)
    · rw [if_pos c3] at h
      exact p_X9_menLast_54 hΓ hg hr hX k_this hk4 _ _ h
    · rw [if_neg c3] at h
      refine r_aload_n hg 0 dX9_menLast_18 rfl rfl ?_
      have e4 := ly_9_11 hX k_this
      refine r_getR hg dX9_menLast_19 fl_X9_77 k_this rfl e4.1 ?_
      refine r_iload_n hg 3 dX9_menLast_22 rfl rfl ?_
      obtain ⟨v5, e6, h⟩ := q_b1_some h
      refine r_iald hg dX9_menLast_23 e4.2 e6 ?_
      refine r_if_ge hg 30 dX9_menLast_24 (by decide) (fun c7 => ?_) (fun c7 => ?_)
      · rw [if_pos c7] at h
        refine r_iload_n hg 2 dX9_menLast_30 rfl rfl ?_
        refine r_if_ge hg 43 dX9_menLast_31 (by decide) (fun c8 => ?_) (fun c8 => ?_)
        · rw [if_pos c8] at h
          refine r_iload_n hg 2 dX9_menLast_43 rfl rfl ?_
          refine r_aload_n hg 0 dX9_menLast_44 rfl rfl ?_
          have e9 := ly_9_11 hX k_this
          refine r_getR hg dX9_menLast_45 fl_X9_77 k_this rfl e9.1 ?_
          refine r_iload_n hg 3 dX9_menLast_48 rfl rfl ?_
          obtain ⟨v10, e11, h⟩ := q_b1_some h
          refine r_iald hg dX9_menLast_49 e9.2 e11 ?_
          refine r_minq hg dX9_menLast_50 mm_X9_233 ⟨Nat.le_of_ble_eq_true rfl, Nat.le_of_ble_eq_true rfl⟩ ⟨Nat.zero_le _, Nat.zero_le _⟩ ?_
          refine r_sub hg [0, 1, 3] rfl ?_
          exact p_X9_menLast_53 hΓ hg hr hX k_this hk4 _ _ h
        · rw [if_neg c8] at h
          refine r_aload_n hg 0 dX9_menLast_34 rfl rfl ?_
          have e12 := ly_9_11 hX k_this
          refine r_getR hg dX9_menLast_35 fl_X9_77 k_this rfl e12.1 ?_
          refine r_iload_n hg 3 dX9_menLast_38 rfl rfl ?_
          obtain ⟨v13, e14, h⟩ := q_b1_some h
          refine r_iald hg dX9_menLast_39 e12.2 e14 ?_
          refine r_goto hg 53 dX9_menLast_40 (by decide) ?_
          refine r_sub hg [0, 1, 3] rfl ?_
          exact p_X9_menLast_53 hΓ hg hr hX k_this hk4 _ _ h
      · rw [if_neg c7] at h
        refine r_goto hg 54 dX9_menLast_27 (by decide) ?_
        exact p_X9_menLast_54 hΓ hg hr hX k_this hk4 _ _ h
theorem pl_X9_menLast_4 {l : Launch} {Γ : qC} {g : qG} {z : Int32} {this : Nat} {x1 : Int32} {X : qX} {I : qI} (hΓ : q_gm Γ) (hg : q_Ok l Γ RX9 cX9_menLast 4 (q_rm 3 0 0) "menLast" (some .int) g) (hr : q_Rt cX9_menLast (some .int) (q_rm 3 0 0) (some (.int z), I, X) g) (hX : q_Lay X) (k_this : q_kd X this = some (11, 14)) : ∀ (n : Nat) (x2 : Int32) (x3 : Int32), q_fix (fun _ _ => none) (b_X9_menLast_4 this x1 I) n x2 x3 = some z → g 0 0 4 [(0, .ref this), (1, .int x1), (2, .int x2), (3, .int x3)] [] I X := by
  intro n
  induction n with
  | zero =>
    intro x2 x3 h
    cases (show (none : Option (Int32)) = some z from h)
  | succ n ih =>
    intro x2 x3 h
    exact p_X9_menLast_4 hΓ hg hr hX k_this ih _ _ h
def f_X9_menLast (this : Nat) (x1 : Int32) (I : qI) : Option (Int32) :=
  q_fix (fun _ _ => none) (b_X9_menLast_4 this x1 I) q_fu (-1) (nI 0)
set_option maxRecDepth 100000 in
set_option maxHeartbeats 4000000 in
theorem s_X9_menLast {l : Launch} {Γ : qC} (hΓ : q_gm Γ) {X : qX} (hX : q_Lay X) {this : Nat} {x1 : Int32} (k_this : q_kd X this = some (11, 14)) {I : qI} {z : Int32} (h : f_X9_menLast this x1 I = some z) : q_Sem l Γ (q_rm 3 0 0) yX9_menLast cX9_menLast 4 (some .int) [.ref this, .int x1] I X (some (.int z), I, X) := by
  refine q_met (by decide) (Nat.le_of_ble_eq_true rfl) (fun g hg hr => ?_)
  unfold f_X9_menLast at h
  show g 0 0 0 [(0, .ref this), (1, .int x1)] [] I X
  refine r_iconst hg dX9_menLast_0 ci_m1 ?_
  refine r_istore_n hg (L' := [(2, .int (-1)), (0, .ref this), (1, .int x1)]) dX9_menLast_1 rfl (by decide) rfl ?_
  refine r_iconst hg dX9_menLast_2 ci_0 ?_
  refine r_istore_n hg (L' := [(3, .int (nI 0)), (2, .int (-1)), (0, .ref this), (1, .int x1)]) dX9_menLast_3 rfl (by decide) rfl ?_
  refine r_sub hg [2, 3, 1, 0] rfl ?_
  exact pl_X9_menLast_4 hΓ hg hr hX k_this _ _ _ h

def f_X9_newMan (this : Nat) (x1 : Int32) (x2 : Int32) (x3 : Int32) (I : qI) : Option (Int32 × qI) :=
  q_b2 (f_X2_added (this + 12) x1 x2 x3 I) fun v2 I3 =>
  q_b2 (f_X1_added (this + 27) (nI 1) v2 (nI 0) (nI 0) (I3 this 13) I3) fun v8 I9 =>
  q_b1 (q_wr I9 (this + 23) 12 v2 v8) fun I11 =>
  q_b2 (f_X1_added (this + 27) (nI 6) v2 (nI 0) (nI 0) (I11 this 13) I11) fun v16 I17 =>
  q_b1 (q_wr I17 (this + 24) 12 v2 v16) fun I19 =>
  some (v2, I19)
set_option maxRecDepth 100000 in
set_option maxHeartbeats 4000000 in
theorem s_X9_newMan {l : Launch} {Γ : qC} (hΓ : q_gm Γ) {X : qX} (hX : q_Lay X) {this : Nat} {x1 : Int32} {x2 : Int32} {x3 : Int32} (k_this : q_kd X this = some (11, 14)) {I : qI} {z : Int32 × qI} (h : f_X9_newMan this x1 x2 x3 I = some z) : q_Sem l Γ (q_rm 3 0 0) yX9_newMan cX9_newMan 5 (some .int) [.ref this, .int x1, .int x2, .int x3] I X (some (.int z.1), z.2, X) := by
  refine q_met (by decide) (Nat.le_of_ble_eq_true rfl) (fun g hg hr => ?_)
  unfold f_X9_newMan at h
  show g 0 0 0 [(0, .ref this), (1, .int x1), (2, .int x2), (3, .int x3)] [] I X
  refine r_aload_n hg 0 dX9_newMan_0 rfl rfl ?_
  have e1 := ly_9_2 hX k_this
  refine r_getR hg dX9_newMan_1 fl_X9_28 k_this rfl e1.1 ?_
  refine r_iload_n hg 1 dX9_newMan_4 rfl rfl ?_
  refine r_iload_n hg 2 dX9_newMan_5 rfl rfl ?_
  refine r_iload_n hg 3 dX9_newMan_6 rfl rfl ?_
  obtain ⟨v2, I3, e4, h⟩ := q_b2_some h
  refine r_cV3i hg dX9_newMan_7 mt_X2_added ml_X9_118 mv_X2_added e1.2 (s_X2_added hΓ hX e1.2 e4) (q_room (Nat.le_of_ble_eq_true rfl) (Nat.le_of_ble_eq_true rfl)) ⟨Nat.zero_le _, Nat.zero_le _⟩ (Nat.le_of_ble_eq_true rfl) ?_
  refine r_istore hg (L' := [(4, .int v2), (0, .ref this), (1, .int x1), (2, .int x2), (3, .int x3)]) dX9_newMan_10 (by decide) rfl ?_
  refine r_aload_n hg 1 dX9_newMan_12 rfl rfl ?_
  have e5 := ly_9_2 hX k_this
  refine r_getR hg dX9_newMan_13 fl_X9_28 k_this rfl e5.1 ?_
  have e6 := ly_2_10 hX e5.2
  refine r_getR hg dX9_newMan_16 fl_X9_122 e5.2 rfl e6.1 ?_
  refine r_iload hg 0 dX9_newMan_19 rfl ?_
  refine r_aload_n hg 1 dX9_newMan_21 rfl rfl ?_
  have e7 := ly_9_3 hX k_this
  refine r_getR hg dX9_newMan_22 fl_X9_35 k_this rfl e7.1 ?_
  refine r_iconst hg dX9_newMan_25 ci_1 ?_
  refine r_iload hg 0 dX9_newMan_26 rfl ?_
  refine r_iconst hg dX9_newMan_28 ci_0 ?_
  refine r_iconst hg dX9_newMan_29 ci_0 ?_
  refine r_aload_n hg 1 dX9_newMan_30 rfl rfl ?_
  refine r_getI hg dX9_newMan_31 fl_X9_83 k_this rfl ?_
  obtain ⟨v8, I9, e10, h⟩ := q_b2_some h
  refine r_cV5i hg dX9_newMan_34 mt_X1_added ml_X9_125 mv_X1_added e7.2 (s_X1_added hΓ hX e7.2 e10) (q_room (Nat.le_of_ble_eq_true rfl) (Nat.le_of_ble_eq_true rfl)) ⟨Nat.zero_le _, Nat.zero_le _⟩ (Nat.le_of_ble_eq_true rfl) ?_
  obtain ⟨I11, e12, h⟩ := q_b1_some h
  refine r_iast hg dX9_newMan_37 e6.2 e12 ?_
  refine r_aload_n hg 1 dX9_newMan_38 rfl rfl ?_
  have e13 := ly_9_2 hX k_this
  refine r_getR hg dX9_newMan_39 fl_X9_28 k_this rfl e13.1 ?_
  have e14 := ly_2_11 hX e13.2
  refine r_getR hg dX9_newMan_42 fl_X9_128 e13.2 rfl e14.1 ?_
  refine r_iload hg 0 dX9_newMan_45 rfl ?_
  refine r_aload_n hg 1 dX9_newMan_47 rfl rfl ?_
  have e15 := ly_9_3 hX k_this
  refine r_getR hg dX9_newMan_48 fl_X9_35 k_this rfl e15.1 ?_
  refine r_bipush hg dX9_newMan_51 cb_6 ?_
  refine r_iload hg 0 dX9_newMan_53 rfl ?_
  refine r_iconst hg dX9_newMan_55 ci_0 ?_
  refine r_iconst hg dX9_newMan_56 ci_0 ?_
  refine r_aload_n hg 1 dX9_newMan_57 rfl rfl ?_
  refine r_getI hg dX9_newMan_58 fl_X9_83 k_this rfl ?_
  obtain ⟨v16, I17, e18, h⟩ := q_b2_some h
  refine r_cV5i hg dX9_newMan_61 mt_X1_added ml_X9_125 mv_X1_added e15.2 (s_X1_added hΓ hX e15.2 e18) (q_room (Nat.le_of_ble_eq_true rfl) (Nat.le_of_ble_eq_true rfl)) ⟨Nat.zero_le _, Nat.zero_le _⟩ (Nat.le_of_ble_eq_true rfl) ?_
  obtain ⟨I19, e20, h⟩ := q_b1_some h
  refine r_iast hg dX9_newMan_64 e14.2 e20 ?_
  refine r_iload hg 0 dX9_newMan_65 rfl ?_
  exact r_ireturn hr dX9_newMan_67 ⟨Nat.zero_le _, Nat.zero_le _⟩ ⟨_, rfl, rfl⟩ (by cases h; rfl)

def b_X9_spreadNews_194 (this : Nat) (x1 : Int32) (k123 : Int32 → qI → Option (qI)) (x2 : Int32) (I : qI) : Option (qI) :=
  k123 (x2 + (nI 1)) I
set_option maxRecDepth 100000 in
set_option maxHeartbeats 4000000 in
theorem p_X9_spreadNews_194 {l : Launch} {Γ : qC} {g : qG} {z : qI} {this : Nat} {x1 : Int32} {X : qX} (hΓ : q_gm Γ) (hg : q_Ok l Γ RX9 cX9_spreadNews 4 (q_rm 3 0 0) "spreadNews" none g) (hr : q_Rt cX9_spreadNews none (q_rm 3 0 0) (none, z, X) g) (hX : q_Lay X) (k_this : q_kd X this = some (11, 14)) {k123 : Int32 → qI → Option (qI)} (hk123 : ∀ (x2 : Int32) (I : qI), k123 x2 I = some z → g 0 0 123 [(0, .ref this), (1, .int x1), (2, .int x2)] [] I X) (x2 : Int32) (I : qI) (h : b_X9_spreadNews_194 this x1 k123 x2 I = some z) : g 0 0 194 [(0, .ref this), (1, .int x1), (2, .int x2)] [] I X := by
  unfold b_X9_spreadNews_194 at h
  refine r_iinc hg 2 (v := (x2 + (nI 1))) (L' := [(2, .int (x2 + (nI 1))), (0, .ref this), (1, .int x1)]) dX9_spreadNews_194 rfl (by rw [ci_1]) (by decide) rfl ?_
  refine r_goto hg 123 dX9_spreadNews_197 (by decide) ?_
  refine r_sub hg [1, 2, 0] rfl ?_
  exact hk123 _ _ h
def b_X9_spreadNews_123 (this : Nat) (x1 : Int32) (k123 : Int32 → qI → Option (qI)) (x2 : Int32) (I : qI) : Option (qI) :=
  if (I (this + 12) 14) ≤ x2 then
    some (I)
  else
    q_b1 (q_rd I (this + 13) 12 x2) fun v6 =>
    q_b1 (q_rd I (this + 62) 8 v6) fun v8 =>
    q_b1 (f_X2_isGone (this + 12) x2 I) fun v11 =>
    if v11 = 0 then
      if 0 ≤ v8 then
        q_b1 (f_X2_priceKnown (this + 12) v8 x1 I) fun v17 =>
        q_b1 (f_X2_dayKnown (this + 12) v8 x1 I) fun v20 =>
        q_b1 (f_X2_learn (this + 12) x2 x1 v17 v20 I) fun I22 =>
        b_X9_spreadNews_194 this x1 k123 x2 I22
      else
        b_X9_spreadNews_194 this x1 k123 x2 I
    else
      b_X9_spreadNews_194 this x1 k123 x2 I
set_option maxRecDepth 100000 in
set_option maxHeartbeats 4000000 in
theorem p_X9_spreadNews_123 {l : Launch} {Γ : qC} {g : qG} {z : qI} {this : Nat} {x1 : Int32} {X : qX} (hΓ : q_gm Γ) (hg : q_Ok l Γ RX9 cX9_spreadNews 4 (q_rm 3 0 0) "spreadNews" none g) (hr : q_Rt cX9_spreadNews none (q_rm 3 0 0) (none, z, X) g) (hX : q_Lay X) (k_this : q_kd X this = some (11, 14)) {k123 : Int32 → qI → Option (qI)} (hk123 : ∀ (x2 : Int32) (I : qI), k123 x2 I = some z → g 0 0 123 [(0, .ref this), (1, .int x1), (2, .int x2)] [] I X) (x2 : Int32) (I : qI) (h : b_X9_spreadNews_123 this x1 k123 x2 I = some z) : g 0 0 123 [(0, .ref this), (1, .int x1), (2, .int x2)] [] I X := by
  unfold b_X9_spreadNews_123 at h
  refine r_iload_n hg 2 dX9_spreadNews_123 rfl rfl ?_
  refine r_aload_n hg 0 dX9_spreadNews_124 rfl rfl ?_
  have e1 := ly_9_2 hX k_this
  refine r_getR hg dX9_spreadNews_125 fl_X9_28 k_this rfl e1.1 ?_
  refine r_getI hg dX9_spreadNews_128 fl_X9_134 e1.2 rfl ?_
  refine r_icmp_ge hg 200 dX9_spreadNews_131 (by decide) (fun c2 => ?_) (fun c2 => ?_)
  · rw [if_pos c2] at h
    exact r_return hr dX9_spreadNews_200 ⟨Nat.zero_le _, Nat.zero_le _⟩ rfl (by cases h; rfl)
  · rw [if_neg c2] at h
    refine r_aload_n hg 0 dX9_spreadNews_134 rfl rfl ?_
    have e3 := ly_9_10 hX k_this
    refine r_getR hg dX9_spreadNews_135 fl_X9_74 k_this rfl e3.1 ?_
    refine r_aload_n hg 0 dX9_spreadNews_138 rfl rfl ?_
    have e4 := ly_9_2 hX k_this
    refine r_getR hg dX9_spreadNews_139 fl_X9_28 k_this rfl e4.1 ?_
    have e5 := ly_2_0 hX e4.2
    refine r_getR hg dX9_spreadNews_142 fl_X9_163 e4.2 rfl e5.1 ?_
    refine r_iload_n hg 2 dX9_spreadNews_145 rfl rfl ?_
    obtain ⟨v6, e7, h⟩ := q_b1_some h
    refine r_iald hg dX9_spreadNews_146 e5.2 e7 ?_
    obtain ⟨v8, e9, h⟩ := q_b1_some h
    refine r_iald hg dX9_spreadNews_147 e3.2 e9 ?_
    refine r_istore_n hg (L' := [(3, .int v8), (0, .ref this), (1, .int x1), (2, .int x2)]) dX9_spreadNews_148 rfl (by decide) rfl ?_
    refine r_aload_n hg 1 dX9_spreadNews_149 rfl rfl ?_
    have e10 := ly_9_2 hX k_this
    refine r_getR hg dX9_spreadNews_150 fl_X9_28 k_this rfl e10.1 ?_
    refine r_iload_n hg 3 dX9_spreadNews_153 rfl rfl ?_
    obtain ⟨v11, e12, h⟩ := q_b1_some h
    refine r_cV1i hg dX9_spreadNews_154 mt_X2_isGone ml_X9_144 mv_X2_isGone e10.2 (s_X2_isGone hΓ hX e10.2 e12) (q_room (Nat.le_of_ble_eq_true rfl) (Nat.le_of_ble_eq_true rfl)) ⟨Nat.zero_le _, Nat.zero_le _⟩ (Nat.le_of_ble_eq_true rfl) ?_
    refine r_if_ne hg 194 dX9_spreadNews_157 (by decide) (fun c13 => ?_) (fun c13 => ?_)
    · rw [if_neg c13] at h
      refine r_sub hg [1, 2, 3] rfl ?_
      exact p_X9_spreadNews_194 hΓ hg hr hX k_this hk123 _ _ h
    · rw [if_pos (Classical.not_not.mp c13)] at h
      refine r_iload_n hg 0 dX9_spreadNews_160 rfl rfl ?_
      refine r_if_ge hg 167 dX9_spreadNews_161 (by decide) (fun c14 => ?_) (fun c14 => ?_)
      · rw [if_pos c14] at h
        refine r_aload_n hg 1 dX9_spreadNews_167 rfl rfl ?_
        have e15 := ly_9_2 hX k_this
        refine r_getR hg dX9_spreadNews_168 fl_X9_28 k_this rfl e15.1 ?_
        refine r_iload_n hg 3 dX9_spreadNews_171 rfl rfl ?_
        refine r_iload_n hg 2 dX9_spreadNews_172 rfl rfl ?_
        refine r_aload_n hg 1 dX9_spreadNews_173 rfl rfl ?_
        have e16 := ly_9_2 hX k_this
        refine r_getR hg dX9_spreadNews_174 fl_X9_28 k_this rfl e16.1 ?_
        refine r_iload_n hg 0 dX9_spreadNews_177 rfl rfl ?_
        refine r_iload_n hg 2 dX9_spreadNews_178 rfl rfl ?_
        obtain ⟨v17, e18, h⟩ := q_b1_some h
        refine r_cV2i hg dX9_spreadNews_179 mt_X2_priceKnown ml_X9_256 mv_X2_priceKnown e16.2 (s_X2_priceKnown hΓ hX e16.2 e18) (q_room (Nat.le_of_ble_eq_true rfl) (Nat.le_of_ble_eq_true rfl)) ⟨Nat.zero_le _, Nat.zero_le _⟩ (Nat.le_of_ble_eq_true rfl) ?_
        refine r_aload_n hg 1 dX9_spreadNews_182 rfl rfl ?_
        have e19 := ly_9_2 hX k_this
        refine r_getR hg dX9_spreadNews_183 fl_X9_28 k_this rfl e19.1 ?_
        refine r_iload_n hg 0 dX9_spreadNews_186 rfl rfl ?_
        refine r_iload_n hg 2 dX9_spreadNews_187 rfl rfl ?_
        obtain ⟨v20, e21, h⟩ := q_b1_some h
        refine r_cV2i hg dX9_spreadNews_188 mt_X2_dayKnown ml_X9_269 mv_X2_dayKnown e19.2 (s_X2_dayKnown hΓ hX e19.2 e21) (q_room (Nat.le_of_ble_eq_true rfl) (Nat.le_of_ble_eq_true rfl)) ⟨Nat.zero_le _, Nat.zero_le _⟩ (Nat.le_of_ble_eq_true rfl) ?_
        obtain ⟨I22, e23, h⟩ := q_b1_some h
        refine r_cV4v hg dX9_spreadNews_191 mt_X2_learn ml_X9_265 mv_X2_learn e15.2 (s_X2_learn hΓ hX e15.2 e23) (q_room (Nat.le_of_ble_eq_true rfl) (Nat.le_of_ble_eq_true rfl)) ⟨Nat.zero_le _, Nat.zero_le _⟩ (Nat.le_of_ble_eq_true rfl) ?_
        refine r_sub hg [1, 2, 3] rfl ?_
        exact p_X9_spreadNews_194 hΓ hg hr hX k_this hk123 _ _ h
      · rw [if_neg c14] at h
        refine r_goto hg 194 dX9_spreadNews_164 (by decide) ?_
        refine r_sub hg [1, 2, 3] rfl ?_
        exact p_X9_spreadNews_194 hΓ hg hr hX k_this hk123 _ _ h
theorem pl_X9_spreadNews_123 {l : Launch} {Γ : qC} {g : qG} {z : qI} {this : Nat} {x1 : Int32} {X : qX} (hΓ : q_gm Γ) (hg : q_Ok l Γ RX9 cX9_spreadNews 4 (q_rm 3 0 0) "spreadNews" none g) (hr : q_Rt cX9_spreadNews none (q_rm 3 0 0) (none, z, X) g) (hX : q_Lay X) (k_this : q_kd X this = some (11, 14)) : ∀ (n : Nat) (x2 : Int32) (I : qI), q_fix (fun _ _ => none) (b_X9_spreadNews_123 this x1) n x2 I = some z → g 0 0 123 [(0, .ref this), (1, .int x1), (2, .int x2)] [] I X := by
  intro n
  induction n with
  | zero =>
    intro x2 I h
    cases (show (none : Option (qI)) = some z from h)
  | succ n ih =>
    intro x2 I h
    exact p_X9_spreadNews_123 hΓ hg hr hX k_this ih _ _ h
def b_X9_spreadNews_115 (this : Nat) (x1 : Int32) (k23 : Int32 → qI → Option (qI)) (x2 : Int32) (I : qI) : Option (qI) :=
  k23 (x2 + (nI 1)) I
set_option maxRecDepth 100000 in
set_option maxHeartbeats 4000000 in
theorem p_X9_spreadNews_115 {l : Launch} {Γ : qC} {g : qG} {z : qI} {this : Nat} {x1 : Int32} {X : qX} (hΓ : q_gm Γ) (hg : q_Ok l Γ RX9 cX9_spreadNews 4 (q_rm 3 0 0) "spreadNews" none g) (hr : q_Rt cX9_spreadNews none (q_rm 3 0 0) (none, z, X) g) (hX : q_Lay X) (k_this : q_kd X this = some (11, 14)) {k23 : Int32 → qI → Option (qI)} (hk23 : ∀ (x2 : Int32) (I : qI), k23 x2 I = some z → g 0 0 23 [(0, .ref this), (1, .int x1), (2, .int x2)] [] I X) (x2 : Int32) (I : qI) (h : b_X9_spreadNews_115 this x1 k23 x2 I = some z) : g 0 0 115 [(0, .ref this), (1, .int x1), (2, .int x2)] [] I X := by
  unfold b_X9_spreadNews_115 at h
  refine r_iinc hg 2 (v := (x2 + (nI 1))) (L' := [(2, .int (x2 + (nI 1))), (0, .ref this), (1, .int x1)]) dX9_spreadNews_115 rfl (by rw [ci_1]) (by decide) rfl ?_
  refine r_goto hg 23 dX9_spreadNews_118 (by decide) ?_
  refine r_sub hg [1, 2, 0] rfl ?_
  exact hk23 _ _ h
def b_X9_spreadNews_100 (this : Nat) (x1 : Int32) (k23 : Int32 → qI → Option (qI)) (x2 : Int32) (I : qI) : Option (qI) :=
  q_b1 (q_rd I (this + 13) 12 x2) fun v4 =>
  q_b1 (q_wr I (this + 62) 8 v4 x2) fun I6 =>
  b_X9_spreadNews_115 this x1 k23 x2 I6
set_option maxRecDepth 100000 in
set_option maxHeartbeats 4000000 in
theorem p_X9_spreadNews_100 {l : Launch} {Γ : qC} {g : qG} {z : qI} {this : Nat} {x1 : Int32} {X : qX} (hΓ : q_gm Γ) (hg : q_Ok l Γ RX9 cX9_spreadNews 4 (q_rm 3 0 0) "spreadNews" none g) (hr : q_Rt cX9_spreadNews none (q_rm 3 0 0) (none, z, X) g) (hX : q_Lay X) (k_this : q_kd X this = some (11, 14)) {k23 : Int32 → qI → Option (qI)} (hk23 : ∀ (x2 : Int32) (I : qI), k23 x2 I = some z → g 0 0 23 [(0, .ref this), (1, .int x1), (2, .int x2)] [] I X) (x2 : Int32) (I : qI) (h : b_X9_spreadNews_100 this x1 k23 x2 I = some z) : g 0 0 100 [(0, .ref this), (1, .int x1), (2, .int x2)] [] I X := by
  unfold b_X9_spreadNews_100 at h
  refine r_aload_n hg 0 dX9_spreadNews_100 rfl rfl ?_
  have e1 := ly_9_10 hX k_this
  refine r_getR hg dX9_spreadNews_101 fl_X9_74 k_this rfl e1.1 ?_
  refine r_aload_n hg 0 dX9_spreadNews_104 rfl rfl ?_
  have e2 := ly_9_2 hX k_this
  refine r_getR hg dX9_spreadNews_105 fl_X9_28 k_this rfl e2.1 ?_
  have e3 := ly_2_0 hX e2.2
  refine r_getR hg dX9_spreadNews_108 fl_X9_163 e2.2 rfl e3.1 ?_
  refine r_iload_n hg 2 dX9_spreadNews_111 rfl rfl ?_
  obtain ⟨v4, e5, h⟩ := q_b1_some h
  refine r_iald hg dX9_spreadNews_112 e3.2 e5 ?_
  refine r_iload_n hg 2 dX9_spreadNews_113 rfl rfl ?_
  obtain ⟨I6, e7, h⟩ := q_b1_some h
  refine r_iast hg dX9_spreadNews_114 e1.2 e7 ?_
  exact p_X9_spreadNews_115 hΓ hg hr hX k_this hk23 _ _ h
def b_X9_spreadNews_23 (this : Nat) (x1 : Int32) (k23 : Int32 → qI → Option (qI)) (x2 : Int32) (I : qI) : Option (qI) :=
  if (I (this + 12) 14) ≤ x2 then
    q_fix (fun _ _ => none) (b_X9_spreadNews_123 this x1) q_fu (nI 0) I
  else
    q_b1 (f_X2_isGone (this + 12) x2 I) fun v4 =>
    if v4 = 0 then
      q_b1 (f_X2_knows (this + 12) x2 x1 I) fun v8 =>
      if v8 = 0 then
        b_X9_spreadNews_115 this x1 k23 x2 I
      else
        q_b1 (q_rd I (this + 13) 12 x2) fun v14 =>
        q_b1 (q_rd I (this + 62) 8 v14) fun v16 =>
        if v16 < 0 then
          b_X9_spreadNews_100 this x1 k23 x2 I
        else
          q_b1 (f_X2_dayKnown (this + 12) x2 x1 I) fun v20 =>
          q_b1 (f_X2_dayKnown (this + 12) v16 x1 I) fun v23 =>
          if v20 ≤ v23 then
            b_X9_spreadNews_115 this x1 k23 x2 I
          else
            b_X9_spreadNews_100 this x1 k23 x2 I
    else
      b_X9_spreadNews_115 this x1 k23 x2 I
set_option maxRecDepth 100000 in
set_option maxHeartbeats 4000000 in
theorem p_X9_spreadNews_23 {l : Launch} {Γ : qC} {g : qG} {z : qI} {this : Nat} {x1 : Int32} {X : qX} (hΓ : q_gm Γ) (hg : q_Ok l Γ RX9 cX9_spreadNews 4 (q_rm 3 0 0) "spreadNews" none g) (hr : q_Rt cX9_spreadNews none (q_rm 3 0 0) (none, z, X) g) (hX : q_Lay X) (k_this : q_kd X this = some (11, 14)) {k23 : Int32 → qI → Option (qI)} (hk23 : ∀ (x2 : Int32) (I : qI), k23 x2 I = some z → g 0 0 23 [(0, .ref this), (1, .int x1), (2, .int x2)] [] I X) (x2 : Int32) (I : qI) (h : b_X9_spreadNews_23 this x1 k23 x2 I = some z) : g 0 0 23 [(0, .ref this), (1, .int x1), (2, .int x2)] [] I X := by
  unfold b_X9_spreadNews_23 at h
  refine r_iload_n hg 2 dX9_spreadNews_23 rfl rfl ?_
  refine r_aload_n hg 0 dX9_spreadNews_24 rfl rfl ?_
  have e1 := ly_9_2 hX k_this
  refine r_getR hg dX9_spreadNews_25 fl_X9_28 k_this rfl e1.1 ?_
  refine r_getI hg dX9_spreadNews_28 fl_X9_134 e1.2 rfl ?_
  refine r_icmp_ge hg 121 dX9_spreadNews_31 (by decide) (fun c2 => ?_) (fun c2 => ?_)
  · rw [if_pos c2] at h
    refine r_iconst hg dX9_spreadNews_121 ci_0 ?_
    refine r_istore_n hg (L' := [(2, .int (nI 0)), (0, .ref this), (1, .int x1)]) dX9_spreadNews_122 rfl (by decide) rfl ?_
    refine r_sub hg [1, 2, 0] rfl ?_
    exact pl_X9_spreadNews_123 hΓ hg hr hX k_this _ _ _ h
  · rw [if_neg c2] at h
    refine r_aload_n hg 0 dX9_spreadNews_34 rfl rfl ?_
    have e3 := ly_9_2 hX k_this
    refine r_getR hg dX9_spreadNews_35 fl_X9_28 k_this rfl e3.1 ?_
    refine r_iload_n hg 2 dX9_spreadNews_38 rfl rfl ?_
    obtain ⟨v4, e5, h⟩ := q_b1_some h
    refine r_cV1i hg dX9_spreadNews_39 mt_X2_isGone ml_X9_144 mv_X2_isGone e3.2 (s_X2_isGone hΓ hX e3.2 e5) (q_room (Nat.le_of_ble_eq_true rfl) (Nat.le_of_ble_eq_true rfl)) ⟨Nat.zero_le _, Nat.zero_le _⟩ (Nat.le_of_ble_eq_true rfl) ?_
    refine r_if_ne hg 115 dX9_spreadNews_42 (by decide) (fun c6 => ?_) (fun c6 => ?_)
    · rw [if_neg c6] at h
      exact p_X9_spreadNews_115 hΓ hg hr hX k_this hk23 _ _ h
    · rw [if_pos (Classical.not_not.mp c6)] at h
      refine r_aload_n hg 0 dX9_spreadNews_45 rfl rfl ?_
      have e7 := ly_9_2 hX k_this
      refine r_getR hg dX9_spreadNews_46 fl_X9_28 k_this rfl e7.1 ?_
      refine r_iload_n hg 2 dX9_spreadNews_49 rfl rfl ?_
      refine r_iload_n hg 1 dX9_spreadNews_50 rfl rfl ?_
      obtain ⟨v8, e9, h⟩ := q_b1_some h
      refine r_cV2i hg dX9_spreadNews_51 mt_X2_knows ml_X9_252 mv_X2_knows e7.2 (s_X2_knows hΓ hX e7.2 e9) (q_room (Nat.le_of_ble_eq_true rfl) (Nat.le_of_ble_eq_true rfl)) ⟨Nat.zero_le _, Nat.zero_le _⟩ (Nat.le_of_ble_eq_true rfl) ?_
      refine r_if_ne hg 60 dX9_spreadNews_54 (by decide) (fun c10 => ?_) (fun c10 => ?_)
      · rw [if_neg c10] at h
        refine r_aload_n hg 0 dX9_spreadNews_60 rfl rfl ?_
        have e11 := ly_9_10 hX k_this
        refine r_getR hg dX9_spreadNews_61 fl_X9_74 k_this rfl e11.1 ?_
        refine r_aload_n hg 0 dX9_spreadNews_64 rfl rfl ?_
        have e12 := ly_9_2 hX k_this
        refine r_getR hg dX9_spreadNews_65 fl_X9_28 k_this rfl e12.1 ?_
        have e13 := ly_2_0 hX e12.2
        refine r_getR hg dX9_spreadNews_68 fl_X9_163 e12.2 rfl e13.1 ?_
        refine r_iload_n hg 2 dX9_spreadNews_71 rfl rfl ?_
        obtain ⟨v14, e15, h⟩ := q_b1_some h
        refine r_iald hg dX9_spreadNews_72 e13.2 e15 ?_
        obtain ⟨v16, e17, h⟩ := q_b1_some h
        refine r_iald hg dX9_spreadNews_73 e11.2 e17 ?_
        refine r_istore_n hg (L' := [(3, .int v16), (0, .ref this), (1, .int x1), (2, .int x2)]) dX9_spreadNews_74 rfl (by decide) rfl ?_
        refine r_iload_n hg 0 dX9_spreadNews_75 rfl rfl ?_
        refine r_if_lt hg 100 dX9_spreadNews_76 (by decide) (fun c18 => ?_) (fun c18 => ?_)
        · rw [if_pos c18] at h
          refine r_sub hg [1, 2, 3] rfl ?_
          exact p_X9_spreadNews_100 hΓ hg hr hX k_this hk23 _ _ h
        · rw [if_neg c18] at h
          refine r_aload_n hg 1 dX9_spreadNews_79 rfl rfl ?_
          have e19 := ly_9_2 hX k_this
          refine r_getR hg dX9_spreadNews_80 fl_X9_28 k_this rfl e19.1 ?_
          refine r_iload_n hg 3 dX9_spreadNews_83 rfl rfl ?_
          refine r_iload_n hg 2 dX9_spreadNews_84 rfl rfl ?_
          obtain ⟨v20, e21, h⟩ := q_b1_some h
          refine r_cV2i hg dX9_spreadNews_85 mt_X2_dayKnown ml_X9_269 mv_X2_dayKnown e19.2 (s_X2_dayKnown hΓ hX e19.2 e21) (q_room (Nat.le_of_ble_eq_true rfl) (Nat.le_of_ble_eq_true rfl)) ⟨Nat.zero_le _, Nat.zero_le _⟩ (Nat.le_of_ble_eq_true rfl) ?_
          refine r_aload_n hg 1 dX9_spreadNews_88 rfl rfl ?_
          have e22 := ly_9_2 hX k_this
          refine r_getR hg dX9_spreadNews_89 fl_X9_28 k_this rfl e22.1 ?_
          refine r_iload_n hg 0 dX9_spreadNews_92 rfl rfl ?_
          refine r_iload_n hg 2 dX9_spreadNews_93 rfl rfl ?_
          obtain ⟨v23, e24, h⟩ := q_b1_some h
          refine r_cV2i hg dX9_spreadNews_94 mt_X2_dayKnown ml_X9_269 mv_X2_dayKnown e22.2 (s_X2_dayKnown hΓ hX e22.2 e24) (q_room (Nat.le_of_ble_eq_true rfl) (Nat.le_of_ble_eq_true rfl)) ⟨Nat.zero_le _, Nat.zero_le _⟩ (Nat.le_of_ble_eq_true rfl) ?_
          refine r_icmp_le hg 115 dX9_spreadNews_97 (by decide) (fun c25 => ?_) (fun c25 => ?_)
          · rw [if_pos c25] at h
            refine r_sub hg [1, 2, 3] rfl ?_
            exact p_X9_spreadNews_115 hΓ hg hr hX k_this hk23 _ _ h
          · rw [if_neg c25] at h
            refine r_sub hg [1, 2, 3] rfl ?_
            exact p_X9_spreadNews_100 hΓ hg hr hX k_this hk23 _ _ h
      · rw [if_pos (Classical.not_not.mp c10)] at h
        refine r_goto hg 115 dX9_spreadNews_57 (by decide) ?_
        exact p_X9_spreadNews_115 hΓ hg hr hX k_this hk23 _ _ h
theorem pl_X9_spreadNews_23 {l : Launch} {Γ : qC} {g : qG} {z : qI} {this : Nat} {x1 : Int32} {X : qX} (hΓ : q_gm Γ) (hg : q_Ok l Γ RX9 cX9_spreadNews 4 (q_rm 3 0 0) "spreadNews" none g) (hr : q_Rt cX9_spreadNews none (q_rm 3 0 0) (none, z, X) g) (hX : q_Lay X) (k_this : q_kd X this = some (11, 14)) : ∀ (n : Nat) (x2 : Int32) (I : qI), q_fix (fun _ _ => none) (b_X9_spreadNews_23 this x1) n x2 I = some z → g 0 0 23 [(0, .ref this), (1, .int x1), (2, .int x2)] [] I X := by
  intro n
  induction n with
  | zero =>
    intro x2 I h
    cases (show (none : Option (qI)) = some z from h)
  | succ n ih =>
    intro x2 I h
    exact p_X9_spreadNews_23 hΓ hg hr hX k_this ih _ _ h
def b_X9_spreadNews_2 (this : Nat) (x1 : Int32) (k2 : Int32 → qI → Option (qI)) (x2 : Int32) (I : qI) : Option (qI) :=
  if (nI 8) ≤ x2 then
    q_fix (fun _ _ => none) (b_X9_spreadNews_23 this x1) q_fu (nI 0) I
  else
    q_b1 (q_wr I (this + 62) 8 x2 (-1)) fun I3 =>
    k2 (x2 + (nI 1)) I3
set_option maxRecDepth 100000 in
set_option maxHeartbeats 4000000 in
theorem p_X9_spreadNews_2 {l : Launch} {Γ : qC} {g : qG} {z : qI} {this : Nat} {x1 : Int32} {X : qX} (hΓ : q_gm Γ) (hg : q_Ok l Γ RX9 cX9_spreadNews 4 (q_rm 3 0 0) "spreadNews" none g) (hr : q_Rt cX9_spreadNews none (q_rm 3 0 0) (none, z, X) g) (hX : q_Lay X) (k_this : q_kd X this = some (11, 14)) {k2 : Int32 → qI → Option (qI)} (hk2 : ∀ (x2 : Int32) (I : qI), k2 x2 I = some z → g 0 0 2 [(0, .ref this), (1, .int x1), (2, .int x2)] [] I X) (x2 : Int32) (I : qI) (h : b_X9_spreadNews_2 this x1 k2 x2 I = some z) : g 0 0 2 [(0, .ref this), (1, .int x1), (2, .int x2)] [] I X := by
  unfold b_X9_spreadNews_2 at h
  refine r_iload_n hg 2 dX9_spreadNews_2 rfl rfl ?_
  refine r_bipush hg dX9_spreadNews_3 cb_8 ?_
  refine r_icmp_ge hg 21 dX9_spreadNews_5 (by decide) (fun c1 => ?_) (fun c1 => ?_)
  · rw [if_pos c1] at h
    refine r_iconst hg dX9_spreadNews_21 ci_0 ?_
    refine r_istore_n hg (L' := [(2, .int (nI 0)), (0, .ref this), (1, .int x1)]) dX9_spreadNews_22 rfl (by decide) rfl ?_
    refine r_sub hg [1, 2, 0] rfl ?_
    exact pl_X9_spreadNews_23 hΓ hg hr hX k_this _ _ _ h
  · rw [if_neg c1] at h
    refine r_aload_n hg 0 dX9_spreadNews_8 rfl rfl ?_
    have e2 := ly_9_10 hX k_this
    refine r_getR hg dX9_spreadNews_9 fl_X9_74 k_this rfl e2.1 ?_
    refine r_iload_n hg 2 dX9_spreadNews_12 rfl rfl ?_
    refine r_iconst hg dX9_spreadNews_13 ci_m1 ?_
    obtain ⟨I3, e4, h⟩ := q_b1_some h
    refine r_iast hg dX9_spreadNews_14 e2.2 e4 ?_
    refine r_iinc hg 2 (v := (x2 + (nI 1))) (L' := [(2, .int (x2 + (nI 1))), (0, .ref this), (1, .int x1)]) dX9_spreadNews_15 rfl (by rw [ci_1]) (by decide) rfl ?_
    refine r_goto hg 2 dX9_spreadNews_18 (by decide) ?_
    refine r_sub hg [1, 2, 0] rfl ?_
    exact hk2 _ _ h
theorem pl_X9_spreadNews_2 {l : Launch} {Γ : qC} {g : qG} {z : qI} {this : Nat} {x1 : Int32} {X : qX} (hΓ : q_gm Γ) (hg : q_Ok l Γ RX9 cX9_spreadNews 4 (q_rm 3 0 0) "spreadNews" none g) (hr : q_Rt cX9_spreadNews none (q_rm 3 0 0) (none, z, X) g) (hX : q_Lay X) (k_this : q_kd X this = some (11, 14)) : ∀ (n : Nat) (x2 : Int32) (I : qI), q_fix (fun _ _ => none) (b_X9_spreadNews_2 this x1) n x2 I = some z → g 0 0 2 [(0, .ref this), (1, .int x1), (2, .int x2)] [] I X := by
  intro n
  induction n with
  | zero =>
    intro x2 I h
    cases (show (none : Option (qI)) = some z from h)
  | succ n ih =>
    intro x2 I h
    exact p_X9_spreadNews_2 hΓ hg hr hX k_this ih _ _ h
def f_X9_spreadNews (this : Nat) (x1 : Int32) (I : qI) : Option (qI) :=
  q_fix (fun _ _ => none) (b_X9_spreadNews_2 this x1) q_fu (nI 0) I
set_option maxRecDepth 100000 in
set_option maxHeartbeats 4000000 in
theorem s_X9_spreadNews {l : Launch} {Γ : qC} (hΓ : q_gm Γ) {X : qX} (hX : q_Lay X) {this : Nat} {x1 : Int32} (k_this : q_kd X this = some (11, 14)) {I : qI} {z : qI} (h : f_X9_spreadNews this x1 I = some z) : q_Sem l Γ (q_rm 3 0 0) yX9_spreadNews cX9_spreadNews 4 none [.ref this, .int x1] I X (none, z, X) := by
  refine q_met (by decide) (Nat.le_of_ble_eq_true rfl) (fun g hg hr => ?_)
  unfold f_X9_spreadNews at h
  show g 0 0 0 [(0, .ref this), (1, .int x1)] [] I X
  refine r_iconst hg dX9_spreadNews_0 ci_0 ?_
  refine r_istore_n hg (L' := [(2, .int (nI 0)), (0, .ref this), (1, .int x1)]) dX9_spreadNews_1 rfl (by decide) rfl ?_
  refine r_sub hg [1, 2, 0] rfl ?_
  exact pl_X9_spreadNews_2 hΓ hg hr hX k_this _ _ _ h

def b_X9_takeLoaves_51 (this : Nat) (x1 : Int32) (x2 : Int32) (x3 : Int32) (I : qI) : Option (qI) :=
  q_b1 (q_rd I (this + 9) 6 x2) fun v4 =>
  q_b1 (f_X2_learn (this + 12) x1 x2 v4 (I this 13) I) fun I6 =>
  some (I6)
set_option maxRecDepth 100000 in
set_option maxHeartbeats 4000000 in
theorem p_X9_takeLoaves_51 {l : Launch} {Γ : qC} {g : qG} {z : qI} {this : Nat} {x1 : Int32} {x2 : Int32} {x3 : Int32} {X : qX} (hΓ : q_gm Γ) (hg : q_Ok l Γ RX9 cX9_takeLoaves 4 (q_rm 3 0 0) "takeLoaves" none g) (hr : q_Rt cX9_takeLoaves none (q_rm 3 0 0) (none, z, X) g) (hX : q_Lay X) (k_this : q_kd X this = some (11, 14)) (I : qI) (h : b_X9_takeLoaves_51 this x1 x2 x3 I = some z) : g 0 0 51 [(0, .ref this), (1, .int x1), (2, .int x2)] [] I X := by
  unfold b_X9_takeLoaves_51 at h
  refine r_aload_n hg 0 dX9_takeLoaves_51 rfl rfl ?_
  have e1 := ly_9_2 hX k_this
  refine r_getR hg dX9_takeLoaves_52 fl_X9_28 k_this rfl e1.1 ?_
  refine r_iload_n hg 1 dX9_takeLoaves_55 rfl rfl ?_
  refine r_iload_n hg 2 dX9_takeLoaves_56 rfl rfl ?_
  refine r_aload_n hg 0 dX9_takeLoaves_57 rfl rfl ?_
  have e2 := ly_9_1 hX k_this
  refine r_getR hg dX9_takeLoaves_58 fl_X9_21 k_this rfl e2.1 ?_
  have e3 := ly_8_1 hX e2.2
  refine r_getR hg dX9_takeLoaves_61 fl_X9_236 e2.2 rfl e3.1 ?_
  refine r_iload_n hg 2 dX9_takeLoaves_64 rfl rfl ?_
  obtain ⟨v4, e5, h⟩ := q_b1_some h
  refine r_iald hg dX9_takeLoaves_65 e3.2 e5 ?_
  refine r_aload_n hg 0 dX9_takeLoaves_66 rfl rfl ?_
  refine r_getI hg dX9_takeLoaves_67 fl_X9_83 k_this rfl ?_
  obtain ⟨I6, e7, h⟩ := q_b1_some h
  refine r_cV4v hg dX9_takeLoaves_70 mt_X2_learn ml_X9_265 mv_X2_learn e1.2 (s_X2_learn hΓ hX e1.2 e7) (q_room (Nat.le_of_ble_eq_true rfl) (Nat.le_of_ble_eq_true rfl)) ⟨Nat.zero_le _, Nat.zero_le _⟩ (Nat.le_of_ble_eq_true rfl) ?_
  exact r_return hr dX9_takeLoaves_73 ⟨Nat.zero_le _, Nat.zero_le _⟩ rfl (by cases h; rfl)
def f_X9_takeLoaves (this : Nat) (x1 : Int32) (x2 : Int32) (x3 : Int32) (I : qI) : Option (qI) :=
  q_b1 (q_rd I (this + 16) 12 x1) fun v3 =>
  q_b1 (q_wr I (this + 16) 12 x1 (v3 + x3)) fun I5 =>
  q_b1 (q_rd I5 (this + 10) 6 x2) fun v9 =>
  q_b1 (q_wr I5 (this + 10) 6 x2 (v9 - x3)) fun I11 =>
  q_b1 (q_rd I11 (this + 8) 6 x2) fun v15 =>
  if v15 = 0 then
    q_b1 (q_rd I11 (this + 20) 12 x1) fun v20 =>
    q_b1 (q_wr I11 (this + 20) 12 x1 (v20 + x3)) fun I22 =>
    b_X9_takeLoaves_51 this x1 x2 x3 I22
  else
    b_X9_takeLoaves_51 this x1 x2 x3 I11
set_option maxRecDepth 100000 in
set_option maxHeartbeats 4000000 in
theorem s_X9_takeLoaves {l : Launch} {Γ : qC} (hΓ : q_gm Γ) {X : qX} (hX : q_Lay X) {this : Nat} {x1 : Int32} {x2 : Int32} {x3 : Int32} (k_this : q_kd X this = some (11, 14)) {I : qI} {z : qI} (h : f_X9_takeLoaves this x1 x2 x3 I = some z) : q_Sem l Γ (q_rm 3 0 0) yX9_takeLoaves cX9_takeLoaves 4 none [.ref this, .int x1, .int x2, .int x3] I X (none, z, X) := by
  refine q_met (by decide) (Nat.le_of_ble_eq_true rfl) (fun g hg hr => ?_)
  unfold f_X9_takeLoaves at h
  show g 0 0 0 [(0, .ref this), (1, .int x1), (2, .int x2), (3, .int x3)] [] I X
  refine r_aload_n hg 0 dX9_takeLoaves_0 rfl rfl ?_
  have e1 := ly_9_2 hX k_this
  refine r_getR hg dX9_takeLoaves_1 fl_X9_28 k_this rfl e1.1 ?_
  have e2 := ly_2_3 hX e1.2
  refine r_getR hg dX9_takeLoaves_4 fl_X9_199 e1.2 rfl e2.1 ?_
  refine r_iload_n hg 1 dX9_takeLoaves_7 rfl rfl ?_
  refine r_dup2 hg dX9_takeLoaves_8 rfl rfl ?_
  obtain ⟨v3, e4, h⟩ := q_b1_some h
  refine r_iald hg dX9_takeLoaves_9 e2.2 e4 ?_
  refine r_iload_n hg 3 dX9_takeLoaves_10 rfl rfl ?_
  refine r_iadd hg dX9_takeLoaves_11 ?_
  obtain ⟨I5, e6, h⟩ := q_b1_some h
  refine r_iast hg dX9_takeLoaves_12 e2.2 e6 ?_
  refine r_aload_n hg 0 dX9_takeLoaves_13 rfl rfl ?_
  have e7 := ly_9_1 hX k_this
  refine r_getR hg dX9_takeLoaves_14 fl_X9_21 k_this rfl e7.1 ?_
  have e8 := ly_8_2 hX e7.2
  refine r_getR hg dX9_takeLoaves_17 fl_X9_259 e7.2 rfl e8.1 ?_
  refine r_iload_n hg 2 dX9_takeLoaves_20 rfl rfl ?_
  refine r_dup2 hg dX9_takeLoaves_21 rfl rfl ?_
  obtain ⟨v9, e10, h⟩ := q_b1_some h
  refine r_iald hg dX9_takeLoaves_22 e8.2 e10 ?_
  refine r_iload_n hg 3 dX9_takeLoaves_23 rfl rfl ?_
  refine r_isub hg dX9_takeLoaves_24 ?_
  obtain ⟨I11, e12, h⟩ := q_b1_some h
  refine r_iast hg dX9_takeLoaves_25 e8.2 e12 ?_
  refine r_aload_n hg 0 dX9_takeLoaves_26 rfl rfl ?_
  have e13 := ly_9_1 hX k_this
  refine r_getR hg dX9_takeLoaves_27 fl_X9_21 k_this rfl e13.1 ?_
  have e14 := ly_8_0 hX e13.2
  refine r_getR hg dX9_takeLoaves_30 fl_X9_214 e13.2 rfl e14.1 ?_
  refine r_iload_n hg 2 dX9_takeLoaves_33 rfl rfl ?_
  obtain ⟨v15, e16, h⟩ := q_b1_some h
  refine r_iald hg dX9_takeLoaves_34 e14.2 e16 ?_
  refine r_if_ne hg 51 dX9_takeLoaves_35 (by decide) (fun c17 => ?_) (fun c17 => ?_)
  · rw [if_neg c17] at h
    refine r_sub hg [0, 1, 2] rfl ?_
    exact p_X9_takeLoaves_51 hΓ hg hr hX k_this _ h
  · rw [if_pos (Classical.not_not.mp c17)] at h
    refine r_aload_n hg 0 dX9_takeLoaves_38 rfl rfl ?_
    have e18 := ly_9_2 hX k_this
    refine r_getR hg dX9_takeLoaves_39 fl_X9_28 k_this rfl e18.1 ?_
    have e19 := ly_2_7 hX e18.2
    refine r_getR hg dX9_takeLoaves_42 fl_X9_262 e18.2 rfl e19.1 ?_
    refine r_iload_n hg 1 dX9_takeLoaves_45 rfl rfl ?_
    refine r_dup2 hg dX9_takeLoaves_46 rfl rfl ?_
    obtain ⟨v20, e21, h⟩ := q_b1_some h
    refine r_iald hg dX9_takeLoaves_47 e19.2 e21 ?_
    refine r_iload_n hg 3 dX9_takeLoaves_48 rfl rfl ?_
    refine r_iadd hg dX9_takeLoaves_49 ?_
    obtain ⟨I22, e23, h⟩ := q_b1_some h
    refine r_iast hg dX9_takeLoaves_50 e19.2 e23 ?_
    refine r_sub hg [0, 1, 2] rfl ?_
    exact p_X9_takeLoaves_51 hΓ hg hr hX k_this _ h

def b_X9_townKnownCheapest_93 (this : Nat) (x1 : Int32) (x2 : Int32) (I : qI) (k8 : Int32 → Int32 → Int32 → Option (Int32)) (x3 : Int32) (x4 : Int32) (x5 : Int32) : Option (Int32) :=
  k8 x3 x4 (x5 + (nI 1))
set_option maxRecDepth 100000 in
set_option maxHeartbeats 4000000 in
theorem p_X9_townKnownCheapest_93 {l : Launch} {Γ : qC} {g : qG} {z : Int32} {this : Nat} {x1 : Int32} {x2 : Int32} {X : qX} {I : qI} (hΓ : q_gm Γ) (hg : q_Ok l Γ RX9 cX9_townKnownCheapest 7 (q_rm 3 0 0) "townKnownCheapest" (some .int) g) (hr : q_Rt cX9_townKnownCheapest (some .int) (q_rm 3 0 0) (some (.int z), I, X) g) (hX : q_Lay X) (k_this : q_kd X this = some (11, 14)) {k8 : Int32 → Int32 → Int32 → Option (Int32)} (hk8 : ∀ (x3 : Int32) (x4 : Int32) (x5 : Int32), k8 x3 x4 x5 = some z → g 0 0 8 [(0, .ref this), (1, .int x1), (2, .int x2), (3, .int x3), (4, .int x4), (5, .int x5)] [] I X) (x3 : Int32) (x4 : Int32) (x5 : Int32) (h : b_X9_townKnownCheapest_93 this x1 x2 I k8 x3 x4 x5 = some z) : g 0 0 93 [(0, .ref this), (1, .int x1), (2, .int x2), (3, .int x3), (4, .int x4), (5, .int x5)] [] I X := by
  unfold b_X9_townKnownCheapest_93 at h
  refine r_iinc hg 5 (v := (x5 + (nI 1))) (L' := [(5, .int (x5 + (nI 1))), (0, .ref this), (1, .int x1), (2, .int x2), (3, .int x3), (4, .int x4)]) dX9_townKnownCheapest_93 rfl (by rw [ci_1]) (by decide) rfl ?_
  refine r_goto hg 8 dX9_townKnownCheapest_96 (by decide) ?_
  refine r_sub hg [1, 2, 3, 4, 5, 0] rfl ?_
  exact hk8 _ _ _ h
def b_X9_townKnownCheapest_86 (this : Nat) (x1 : Int32) (x2 : Int32) (I : qI) (k8 : Int32 → Int32 → Int32 → Option (Int32)) (x5 : Int32) (x6 : Int32) : Option (Int32) :=
  b_X9_townKnownCheapest_93 this x1 x2 I k8 x5 x6 x5
set_option maxRecDepth 100000 in
set_option maxHeartbeats 4000000 in
theorem p_X9_townKnownCheapest_86 {l : Launch} {Γ : qC} {g : qG} {z : Int32} {this : Nat} {x1 : Int32} {x2 : Int32} {X : qX} {I : qI} (hΓ : q_gm Γ) (hg : q_Ok l Γ RX9 cX9_townKnownCheapest 7 (q_rm 3 0 0) "townKnownCheapest" (some .int) g) (hr : q_Rt cX9_townKnownCheapest (some .int) (q_rm 3 0 0) (some (.int z), I, X) g) (hX : q_Lay X) (k_this : q_kd X this = some (11, 14)) {k8 : Int32 → Int32 → Int32 → Option (Int32)} (hk8 : ∀ (x3 : Int32) (x4 : Int32) (x5 : Int32), k8 x3 x4 x5 = some z → g 0 0 8 [(0, .ref this), (1, .int x1), (2, .int x2), (3, .int x3), (4, .int x4), (5, .int x5)] [] I X) (x5 : Int32) (x6 : Int32) (h : b_X9_townKnownCheapest_86 this x1 x2 I k8 x5 x6 = some z) : g 0 0 86 [(0, .ref this), (1, .int x1), (2, .int x2), (5, .int x5), (6, .int x6)] [] I X := by
  unfold b_X9_townKnownCheapest_86 at h
  refine r_iload hg 3 dX9_townKnownCheapest_86 rfl ?_
  refine r_istore_n hg (L' := [(3, .int x5), (0, .ref this), (1, .int x1), (2, .int x2), (5, .int x5), (6, .int x6)]) dX9_townKnownCheapest_88 rfl (by decide) rfl ?_
  refine r_iload hg 5 dX9_townKnownCheapest_89 rfl ?_
  refine r_istore hg (L' := [(4, .int x6), (3, .int x5), (0, .ref this), (1, .int x1), (2, .int x2), (5, .int x5), (6, .int x6)]) dX9_townKnownCheapest_91 (by decide) rfl ?_
  refine r_sub hg [2, 3, 4, 1, 0, 5] rfl ?_
  exact p_X9_townKnownCheapest_93 hΓ hg hr hX k_this hk8 _ _ _ h
def b_X9_townKnownCheapest_8 (this : Nat) (x1 : Int32) (x2 : Int32) (I : qI) (k8 : Int32 → Int32 → Int32 → Option (Int32)) (x3 : Int32) (x4 : Int32) (x5 : Int32) : Option (Int32) :=
  if (I (this + 7) 4) ≤ x5 then
    some (x3)
  else
    q_b1 (q_rd I (this + 8) 6 x5) fun v5 =>
    if v5 = (nI 1) then
      q_b1 (f_X2_knows (this + 12) x1 x5 I) fun v9 =>
      if v9 = 0 then
        b_X9_townKnownCheapest_93 this x1 x2 I k8 x3 x4 x5
      else
        q_b1 (f_X2_priceKnown (this + 12) x1 x5 I) fun v13 =>
        q_b1 (q_rd I (this + 11) 6 x5) fun v17 =>
        if x3 < 0 then
          b_X9_townKnownCheapest_86 this x1 x2 I k8 x5 ((v13 * x2) + v17)
        else
          if x4 ≤ ((v13 * x2) + v17) then
            b_X9_townKnownCheapest_93 this x1 x2 I k8 x3 x4 x5
          else
            b_X9_townKnownCheapest_86 this x1 x2 I k8 x5 ((v13 * x2) + v17)
    else
      b_X9_townKnownCheapest_93 this x1 x2 I k8 x3 x4 x5
set_option maxRecDepth 100000 in
set_option maxHeartbeats 4000000 in
theorem p_X9_townKnownCheapest_8 {l : Launch} {Γ : qC} {g : qG} {z : Int32} {this : Nat} {x1 : Int32} {x2 : Int32} {X : qX} {I : qI} (hΓ : q_gm Γ) (hg : q_Ok l Γ RX9 cX9_townKnownCheapest 7 (q_rm 3 0 0) "townKnownCheapest" (some .int) g) (hr : q_Rt cX9_townKnownCheapest (some .int) (q_rm 3 0 0) (some (.int z), I, X) g) (hX : q_Lay X) (k_this : q_kd X this = some (11, 14)) {k8 : Int32 → Int32 → Int32 → Option (Int32)} (hk8 : ∀ (x3 : Int32) (x4 : Int32) (x5 : Int32), k8 x3 x4 x5 = some z → g 0 0 8 [(0, .ref this), (1, .int x1), (2, .int x2), (3, .int x3), (4, .int x4), (5, .int x5)] [] I X) (x3 : Int32) (x4 : Int32) (x5 : Int32) (h : b_X9_townKnownCheapest_8 this x1 x2 I k8 x3 x4 x5 = some z) : g 0 0 8 [(0, .ref this), (1, .int x1), (2, .int x2), (3, .int x3), (4, .int x4), (5, .int x5)] [] I X := by
  unfold b_X9_townKnownCheapest_8 at h
  refine r_iload hg 5 dX9_townKnownCheapest_8 rfl ?_
  refine r_aload_n hg 0 dX9_townKnownCheapest_10 rfl rfl ?_
  have e1 := ly_9_1 hX k_this
  refine r_getR hg dX9_townKnownCheapest_11 fl_X9_21 k_this rfl e1.1 ?_
  refine r_getI hg dX9_townKnownCheapest_14 fl_X9_155 e1.2 rfl ?_
  refine r_icmp_ge hg 99 dX9_townKnownCheapest_17 (by decide) (fun c2 => ?_) (fun c2 => ?_)
  · rw [if_pos c2] at h
    refine r_iload_n hg 3 dX9_townKnownCheapest_99 rfl rfl ?_
    exact r_ireturn hr dX9_townKnownCheapest_100 ⟨Nat.zero_le _, Nat.zero_le _⟩ ⟨_, rfl, rfl⟩ (by cases h; rfl)
  · rw [if_neg c2] at h
    refine r_aload_n hg 0 dX9_townKnownCheapest_20 rfl rfl ?_
    have e3 := ly_9_1 hX k_this
    refine r_getR hg dX9_townKnownCheapest_21 fl_X9_21 k_this rfl e3.1 ?_
    have e4 := ly_8_0 hX e3.2
    refine r_getR hg dX9_townKnownCheapest_24 fl_X9_214 e3.2 rfl e4.1 ?_
    refine r_iload hg 5 dX9_townKnownCheapest_27 rfl ?_
    obtain ⟨v5, e6, h⟩ := q_b1_some h
    refine r_iald hg dX9_townKnownCheapest_29 e4.2 e6 ?_
    refine r_iconst hg dX9_townKnownCheapest_30 ci_1 ?_
    refine r_icmp_ne hg 93 dX9_townKnownCheapest_31 (by decide) (fun c7 => ?_) (fun c7 => ?_)
    · rw [if_neg c7] at h
      exact p_X9_townKnownCheapest_93 hΓ hg hr hX k_this hk8 _ _ _ h
    · rw [if_pos (Classical.not_not.mp c7)] at h
      refine r_aload_n hg 0 dX9_townKnownCheapest_34 rfl rfl ?_
      have e8 := ly_9_2 hX k_this
      refine r_getR hg dX9_townKnownCheapest_35 fl_X9_28 k_this rfl e8.1 ?_
      refine r_iload_n hg 1 dX9_townKnownCheapest_38 rfl rfl ?_
      refine r_iload hg 5 dX9_townKnownCheapest_39 rfl ?_
      obtain ⟨v9, e10, h⟩ := q_b1_some h
      refine r_cV2i hg dX9_townKnownCheapest_41 mt_X2_knows ml_X9_252 mv_X2_knows e8.2 (s_X2_knows hΓ hX e8.2 e10) (q_room (Nat.le_of_ble_eq_true rfl) (Nat.le_of_ble_eq_true rfl)) ⟨Nat.zero_le _, Nat.zero_le _⟩ (Nat.le_of_ble_eq_true rfl) ?_
      refine r_if_ne hg 50 dX9_townKnownCheapest_44 (by decide) (fun c11 => ?_) (fun c11 => ?_)
      · rw [if_neg c11] at h
        refine r_aload_n hg 0 dX9_townKnownCheapest_50 rfl rfl ?_
        have e12 := ly_9_2 hX k_this
        refine r_getR hg dX9_townKnownCheapest_51 fl_X9_28 k_this rfl e12.1 ?_
        refine r_iload_n hg 1 dX9_townKnownCheapest_54 rfl rfl ?_
        refine r_iload hg 5 dX9_townKnownCheapest_55 rfl ?_
        obtain ⟨v13, e14, h⟩ := q_b1_some h
        refine r_cV2i hg dX9_townKnownCheapest_57 mt_X2_priceKnown ml_X9_256 mv_X2_priceKnown e12.2 (s_X2_priceKnown hΓ hX e12.2 e14) (q_room (Nat.le_of_ble_eq_true rfl) (Nat.le_of_ble_eq_true rfl)) ⟨Nat.zero_le _, Nat.zero_le _⟩ (Nat.le_of_ble_eq_true rfl) ?_
        refine r_iload_n hg 2 dX9_townKnownCheapest_60 rfl rfl ?_
        refine r_imul hg dX9_townKnownCheapest_61 ?_
        refine r_aload_n hg 0 dX9_townKnownCheapest_62 rfl rfl ?_
        have e15 := ly_9_1 hX k_this
        refine r_getR hg dX9_townKnownCheapest_63 fl_X9_21 k_this rfl e15.1 ?_
        have e16 := ly_8_3 hX e15.2
        refine r_getR hg dX9_townKnownCheapest_66 fl_X9_249 e15.2 rfl e16.1 ?_
        refine r_iload hg 5 dX9_townKnownCheapest_69 rfl ?_
        obtain ⟨v17, e18, h⟩ := q_b1_some h
        refine r_iald hg dX9_townKnownCheapest_71 e16.2 e18 ?_
        refine r_iadd hg dX9_townKnownCheapest_72 ?_
        refine r_istore hg (L' := [(6, .int ((v13 * x2) + v17)), (0, .ref this), (1, .int x1), (2, .int x2), (3, .int x3), (4, .int x4), (5, .int x5)]) dX9_townKnownCheapest_73 (by decide) rfl ?_
        refine r_iload_n hg 4 dX9_townKnownCheapest_75 rfl rfl ?_
        refine r_if_lt hg 86 dX9_townKnownCheapest_76 (by decide) (fun c19 => ?_) (fun c19 => ?_)
        · rw [if_pos c19] at h
          refine r_sub hg [1, 2, 3, 6, 0] rfl ?_
          exact p_X9_townKnownCheapest_86 hΓ hg hr hX k_this hk8 _ _ h
        · rw [if_neg c19] at h
          refine r_iload hg 0 dX9_townKnownCheapest_79 rfl ?_
          refine r_iload hg 5 dX9_townKnownCheapest_81 rfl ?_
          refine r_icmp_ge hg 93 dX9_townKnownCheapest_83 (by decide) (fun c20 => ?_) (fun c20 => ?_)
          · rw [if_pos c20] at h
            refine r_sub hg [1, 2, 3, 4, 5, 6] rfl ?_
            exact p_X9_townKnownCheapest_93 hΓ hg hr hX k_this hk8 _ _ _ h
          · rw [if_neg c20] at h
            refine r_sub hg [1, 2, 3, 6, 0] rfl ?_
            exact p_X9_townKnownCheapest_86 hΓ hg hr hX k_this hk8 _ _ h
      · rw [if_pos (Classical.not_not.mp c11)] at h
        refine r_goto hg 93 dX9_townKnownCheapest_47 (by decide) ?_
        exact p_X9_townKnownCheapest_93 hΓ hg hr hX k_this hk8 _ _ _ h
theorem pl_X9_townKnownCheapest_8 {l : Launch} {Γ : qC} {g : qG} {z : Int32} {this : Nat} {x1 : Int32} {x2 : Int32} {X : qX} {I : qI} (hΓ : q_gm Γ) (hg : q_Ok l Γ RX9 cX9_townKnownCheapest 7 (q_rm 3 0 0) "townKnownCheapest" (some .int) g) (hr : q_Rt cX9_townKnownCheapest (some .int) (q_rm 3 0 0) (some (.int z), I, X) g) (hX : q_Lay X) (k_this : q_kd X this = some (11, 14)) : ∀ (n : Nat) (x3 : Int32) (x4 : Int32) (x5 : Int32), q_fix (fun _ _ _ => none) (b_X9_townKnownCheapest_8 this x1 x2 I) n x3 x4 x5 = some z → g 0 0 8 [(0, .ref this), (1, .int x1), (2, .int x2), (3, .int x3), (4, .int x4), (5, .int x5)] [] I X := by
  intro n
  induction n with
  | zero =>
    intro x3 x4 x5 h
    cases (show (none : Option (Int32)) = some z from h)
  | succ n ih =>
    intro x3 x4 x5 h
    exact p_X9_townKnownCheapest_8 hΓ hg hr hX k_this ih _ _ _ h
def f_X9_townKnownCheapest (this : Nat) (x1 : Int32) (x2 : Int32) (I : qI) : Option (Int32) :=
  q_fix (fun _ _ _ => none) (b_X9_townKnownCheapest_8 this x1 x2 I) q_fu (-1) (nI 0) (nI 0)
set_option maxRecDepth 100000 in
set_option maxHeartbeats 4000000 in
theorem s_X9_townKnownCheapest {l : Launch} {Γ : qC} (hΓ : q_gm Γ) {X : qX} (hX : q_Lay X) {this : Nat} {x1 : Int32} {x2 : Int32} (k_this : q_kd X this = some (11, 14)) {I : qI} {z : Int32} (h : f_X9_townKnownCheapest this x1 x2 I = some z) : q_Sem l Γ (q_rm 3 0 0) yX9_townKnownCheapest cX9_townKnownCheapest 7 (some .int) [.ref this, .int x1, .int x2] I X (some (.int z), I, X) := by
  refine q_met (by decide) (Nat.le_of_ble_eq_true rfl) (fun g hg hr => ?_)
  unfold f_X9_townKnownCheapest at h
  show g 0 0 0 [(0, .ref this), (1, .int x1), (2, .int x2)] [] I X
  refine r_iconst hg dX9_townKnownCheapest_0 ci_m1 ?_
  refine r_istore_n hg (L' := [(3, .int (-1)), (0, .ref this), (1, .int x1), (2, .int x2)]) dX9_townKnownCheapest_1 rfl (by decide) rfl ?_
  refine r_iconst hg dX9_townKnownCheapest_2 ci_0 ?_
  refine r_istore hg (L' := [(4, .int (nI 0)), (3, .int (-1)), (0, .ref this), (1, .int x1), (2, .int x2)]) dX9_townKnownCheapest_3 (by decide) rfl ?_
  refine r_iconst hg dX9_townKnownCheapest_5 ci_0 ?_
  refine r_istore hg (L' := [(5, .int (nI 0)), (4, .int (nI 0)), (3, .int (-1)), (0, .ref this), (1, .int x1), (2, .int x2)]) dX9_townKnownCheapest_6 (by decide) rfl ?_
  refine r_sub hg [3, 4, 5, 2, 1, 0] rfl ?_
  exact pl_X9_townKnownCheapest_8 hΓ hg hr hX k_this _ _ _ _ h

def b_X9_weeksBound_89 (this : Nat) (x1 : Int32) (x2 : Int32) (x3 : Int32) (I : qI) (k57 : Int32 → Int32 → Int32 → Option (Int32)) (x5 : Int32) (x6 : Int32) (x7 : Int32) : Option (Int32) :=
  if x6 = 0 then
    some (x7)
  else
    k57 x5 x6 (x7 + (nI 1))
set_option maxRecDepth 100000 in
set_option maxHeartbeats 4000000 in
theorem p_X9_weeksBound_89 {l : Launch} {Γ : qC} {g : qG} {z : Int32} {this : Nat} {x1 : Int32} {x2 : Int32} {x3 : Int32} {X : qX} {I : qI} (hΓ : q_gm Γ) (hg : q_Ok l Γ RX9 cX9_weeksBound 8 (q_rm 3 0 0) "weeksBound" (some .int) g) (hr : q_Rt cX9_weeksBound (some .int) (q_rm 3 0 0) (some (.int z), I, X) g) (hX : q_Lay X) (k_this : q_kd X this = some (11, 14)) {k57 : Int32 → Int32 → Int32 → Option (Int32)} (hk57 : ∀ (x5 : Int32) (x6 : Int32) (x7 : Int32), k57 x5 x6 x7 = some z → g 0 0 57 [(2, .int x2), (3, .int x3), (5, .int x5), (6, .int x6), (7, .int x7)] [] I X) (x5 : Int32) (x6 : Int32) (x7 : Int32) (h : b_X9_weeksBound_89 this x1 x2 x3 I k57 x5 x6 x7 = some z) : g 0 0 89 [(2, .int x2), (3, .int x3), (5, .int x5), (6, .int x6), (7, .int x7)] [] I X := by
  unfold b_X9_weeksBound_89 at h
  refine r_iload hg 3 dX9_weeksBound_89 rfl ?_
  refine r_if_ne hg 97 dX9_weeksBound_91 (by decide) (fun c1 => ?_) (fun c1 => ?_)
  · rw [if_neg c1] at h
    refine r_iinc hg 4 (v := (x7 + (nI 1))) (L' := [(7, .int (x7 + (nI 1))), (2, .int x2), (3, .int x3), (5, .int x5), (6, .int x6)]) dX9_weeksBound_97 rfl (by rw [ci_1]) (by decide) rfl ?_
    refine r_goto hg 57 dX9_weeksBound_100 (by decide) ?_
    refine r_sub hg [1, 2, 3, 4, 0] rfl ?_
    exact hk57 _ _ _ h
  · rw [if_pos (Classical.not_not.mp c1)] at h
    refine r_iload hg 4 dX9_weeksBound_94 rfl ?_
    exact r_ireturn hr dX9_weeksBound_96 ⟨Nat.zero_le _, Nat.zero_le _⟩ ⟨_, rfl, rfl⟩ (by cases h; rfl)
def b_X9_weeksBound_57 (this : Nat) (x1 : Int32) (x2 : Int32) (x3 : Int32) (I : qI) (k57 : Int32 → Int32 → Int32 → Option (Int32)) (x5 : Int32) (x6 : Int32) (x7 : Int32) : Option (Int32) :=
  if (nI 1000) < x7 then
    some ((-1000000005))
  else
    if x3 = 0 then none else
    if (q_rem x7 x3) = 0 then
      b_X9_weeksBound_89 this x1 x2 x3 I k57 x5 (q_max (nI 0) ((x6 + x5) - x2)) x7
    else
      b_X9_weeksBound_89 this x1 x2 x3 I k57 x5 (x6 + x5) x7
set_option maxRecDepth 100000 in
set_option maxHeartbeats 4000000 in
theorem p_X9_weeksBound_57 {l : Launch} {Γ : qC} {g : qG} {z : Int32} {this : Nat} {x1 : Int32} {x2 : Int32} {x3 : Int32} {X : qX} {I : qI} (hΓ : q_gm Γ) (hg : q_Ok l Γ RX9 cX9_weeksBound 8 (q_rm 3 0 0) "weeksBound" (some .int) g) (hr : q_Rt cX9_weeksBound (some .int) (q_rm 3 0 0) (some (.int z), I, X) g) (hX : q_Lay X) (k_this : q_kd X this = some (11, 14)) {k57 : Int32 → Int32 → Int32 → Option (Int32)} (hk57 : ∀ (x5 : Int32) (x6 : Int32) (x7 : Int32), k57 x5 x6 x7 = some z → g 0 0 57 [(2, .int x2), (3, .int x3), (5, .int x5), (6, .int x6), (7, .int x7)] [] I X) (x5 : Int32) (x6 : Int32) (x7 : Int32) (h : b_X9_weeksBound_57 this x1 x2 x3 I k57 x5 x6 x7 = some z) : g 0 0 57 [(2, .int x2), (3, .int x3), (5, .int x5), (6, .int x6), (7, .int x7)] [] I X := by
  unfold b_X9_weeksBound_57 at h
  refine r_iload hg 4 dX9_weeksBound_57 rfl ?_
  refine r_sipush hg dX9_weeksBound_59 cs_1000 ?_
  refine r_icmp_gt hg 103 dX9_weeksBound_62 (by decide) (fun c1 => ?_) (fun c1 => ?_)
  · rw [if_pos c1] at h
    refine r_ldcw hg dX9_weeksBound_103 kc_X9_312 ?_
    exact r_ireturn hr dX9_weeksBound_106 ⟨Nat.zero_le _, Nat.zero_le _⟩ ⟨_, rfl, rfl⟩ (by cases h; rfl)
  · rw [if_neg c1] at h
    refine r_iload hg 3 dX9_weeksBound_65 rfl ?_
    refine r_iload hg 2 dX9_weeksBound_67 rfl ?_
    refine r_iadd hg dX9_weeksBound_69 ?_
    refine r_istore hg (L' := [(6, .int (x6 + x5)), (2, .int x2), (3, .int x3), (5, .int x5), (7, .int x7)]) dX9_weeksBound_70 (by decide) rfl ?_
    refine r_iload hg 4 dX9_weeksBound_72 rfl ?_
    refine r_iload_n hg 2 dX9_weeksBound_74 rfl rfl ?_
    by_cases c2 : x3 = 0
    · rw [if_pos c2] at h; cases h
    rw [if_neg c2] at h
    refine r_iremq hg dX9_weeksBound_75 c2 ?_
    refine r_if_ne hg 89 dX9_weeksBound_76 (by decide) (fun c3 => ?_) (fun c3 => ?_)
    · rw [if_neg c3] at h
      refine r_sub hg [1, 2, 3, 0, 4] rfl ?_
      exact p_X9_weeksBound_89 hΓ hg hr hX k_this hk57 _ _ _ h
    · rw [if_pos (Classical.not_not.mp c3)] at h
      refine r_iconst hg dX9_weeksBound_79 ci_0 ?_
      refine r_iload hg 0 dX9_weeksBound_80 rfl ?_
      refine r_iload_n hg 1 dX9_weeksBound_82 rfl rfl ?_
      refine r_isub hg dX9_weeksBound_83 ?_
      refine r_maxq hg dX9_weeksBound_84 mm_X9_205 ⟨Nat.le_of_ble_eq_true rfl, Nat.le_of_ble_eq_true rfl⟩ ⟨Nat.zero_le _, Nat.zero_le _⟩ ?_
      refine r_istore hg (L' := [(6, .int (q_max (nI 0) ((x6 + x5) - x2))), (2, .int x2), (3, .int x3), (5, .int x5), (7, .int x7)]) dX9_weeksBound_87 (by decide) rfl ?_
      refine r_sub hg [1, 2, 3, 0, 4] rfl ?_
      exact p_X9_weeksBound_89 hΓ hg hr hX k_this hk57 _ _ _ h
theorem pl_X9_weeksBound_57 {l : Launch} {Γ : qC} {g : qG} {z : Int32} {this : Nat} {x1 : Int32} {x2 : Int32} {x3 : Int32} {X : qX} {I : qI} (hΓ : q_gm Γ) (hg : q_Ok l Γ RX9 cX9_weeksBound 8 (q_rm 3 0 0) "weeksBound" (some .int) g) (hr : q_Rt cX9_weeksBound (some .int) (q_rm 3 0 0) (some (.int z), I, X) g) (hX : q_Lay X) (k_this : q_kd X this = some (11, 14)) : ∀ (n : Nat) (x5 : Int32) (x6 : Int32) (x7 : Int32), q_fix (fun _ _ _ => none) (b_X9_weeksBound_57 this x1 x2 x3 I) n x5 x6 x7 = some z → g 0 0 57 [(2, .int x2), (3, .int x3), (5, .int x5), (6, .int x6), (7, .int x7)] [] I X := by
  intro n
  induction n with
  | zero =>
    intro x5 x6 x7 h
    cases (show (none : Option (Int32)) = some z from h)
  | succ n ih =>
    intro x5 x6 x7 h
    exact p_X9_weeksBound_57 hΓ hg hr hX k_this ih _ _ _ h
def f_X9_weeksBound (this : Nat) (x1 : Int32) (x2 : Int32) (x3 : Int32) (I : qI) : Option (Int32) :=
  q_b1 (f_X8_firstCompany (this + 7) I) fun v2 =>
  if v2 < 0 then
    some ((-1000000005))
  else
    if 0 < x3 then
      q_b1 (q_rd I (this + 9) 6 v2) fun v8 =>
      q_b1 (q_rd I (this + 15) 12 x1) fun v12 =>
      q_b1 (f_X9_owed this x1 I) fun v14 =>
      q_fix (fun _ _ _ => none) (b_X9_weeksBound_57 this x1 x2 x3 I) q_fu ((v8 * v12) * (nI 7)) v14 (nI 1)
    else
      some ((-1000000005))
set_option maxRecDepth 100000 in
set_option maxHeartbeats 4000000 in
theorem s_X9_weeksBound {l : Launch} {Γ : qC} (hΓ : q_gm Γ) {X : qX} (hX : q_Lay X) {this : Nat} {x1 : Int32} {x2 : Int32} {x3 : Int32} (k_this : q_kd X this = some (11, 14)) {I : qI} {z : Int32} (h : f_X9_weeksBound this x1 x2 x3 I = some z) : q_Sem l Γ (q_rm 3 0 0) yX9_weeksBound cX9_weeksBound 8 (some .int) [.ref this, .int x1, .int x2, .int x3] I X (some (.int z), I, X) := by
  refine q_met (by decide) (Nat.le_of_ble_eq_true rfl) (fun g hg hr => ?_)
  unfold f_X9_weeksBound at h
  show g 0 0 0 [(0, .ref this), (1, .int x1), (2, .int x2), (3, .int x3)] [] I X
  refine r_aload_n hg 0 dX9_weeksBound_0 rfl rfl ?_
  have e1 := ly_9_1 hX k_this
  refine r_getR hg dX9_weeksBound_1 fl_X9_21 k_this rfl e1.1 ?_
  obtain ⟨v2, e3, h⟩ := q_b1_some h
  refine r_cV0i hg dX9_weeksBound_4 mt_X8_firstCompany ml_X9_308 mv_X8_firstCompany e1.2 (s_X8_firstCompany hΓ hX e1.2 e3) (q_room (Nat.le_of_ble_eq_true rfl) (Nat.le_of_ble_eq_true rfl)) ⟨Nat.zero_le _, Nat.zero_le _⟩ (Nat.le_of_ble_eq_true rfl) ?_
  refine r_istore hg (L' := [(4, .int v2), (0, .ref this), (1, .int x1), (2, .int x2), (3, .int x3)]) dX9_weeksBound_7 (by decide) rfl ?_
  refine r_iload hg 0 dX9_weeksBound_9 rfl ?_
  refine r_if_lt hg 18 dX9_weeksBound_11 (by decide) (fun c4 => ?_) (fun c4 => ?_)
  · rw [if_pos c4] at h
    refine r_ldcw hg dX9_weeksBound_18 kc_X9_312 ?_
    exact r_ireturn hr dX9_weeksBound_21 ⟨Nat.zero_le _, Nat.zero_le _⟩ ⟨_, rfl, rfl⟩ (by cases h; rfl)
  · rw [if_neg c4] at h
    refine r_iload_n hg 4 dX9_weeksBound_14 rfl rfl ?_
    refine r_if_gt hg 22 dX9_weeksBound_15 (by decide) (fun c5 => ?_) (fun c5 => ?_)
    · rw [if_pos c5] at h
      refine r_aload_n hg 1 dX9_weeksBound_22 rfl rfl ?_
      have e6 := ly_9_1 hX k_this
      refine r_getR hg dX9_weeksBound_23 fl_X9_21 k_this rfl e6.1 ?_
      have e7 := ly_8_1 hX e6.2
      refine r_getR hg dX9_weeksBound_26 fl_X9_236 e6.2 rfl e7.1 ?_
      refine r_iload hg 0 dX9_weeksBound_29 rfl ?_
      obtain ⟨v8, e9, h⟩ := q_b1_some h
      refine r_iald hg dX9_weeksBound_31 e7.2 e9 ?_
      refine r_aload_n hg 1 dX9_weeksBound_32 rfl rfl ?_
      have e10 := ly_9_2 hX k_this
      refine r_getR hg dX9_weeksBound_33 fl_X9_28 k_this rfl e10.1 ?_
      have e11 := ly_2_2 hX e10.2
      refine r_getR hg dX9_weeksBound_36 fl_X9_190 e10.2 rfl e11.1 ?_
      refine r_iload_n hg 2 dX9_weeksBound_39 rfl rfl ?_
      obtain ⟨v12, e13, h⟩ := q_b1_some h
      refine r_iald hg dX9_weeksBound_40 e11.2 e13 ?_
      refine r_imul hg dX9_weeksBound_41 ?_
      refine r_bipush hg dX9_weeksBound_42 cb_7 ?_
      refine r_imul hg dX9_weeksBound_44 ?_
      refine r_istore hg (L' := [(5, .int ((v8 * v12) * (nI 7))), (4, .int v2), (0, .ref this), (1, .int x1), (2, .int x2), (3, .int x3)]) dX9_weeksBound_45 (by decide) rfl ?_
      refine r_aload_n hg 2 dX9_weeksBound_47 rfl rfl ?_
      refine r_iload_n hg 3 dX9_weeksBound_48 rfl rfl ?_
      obtain ⟨v14, e15, h⟩ := q_b1_some h
      refine r_cV1i hg dX9_weeksBound_49 mt_X9_owed ml_X9_141 mv_X9_owed k_this (s_X9_owed hΓ hX k_this e15) (q_room (Nat.le_of_ble_eq_true rfl) (Nat.le_of_ble_eq_true rfl)) ⟨Nat.zero_le _, Nat.zero_le _⟩ (Nat.le_of_ble_eq_true rfl) ?_
      refine r_istore hg (L' := [(6, .int v14), (5, .int ((v8 * v12) * (nI 7))), (4, .int v2), (0, .ref this), (1, .int x1), (2, .int x2), (3, .int x3)]) dX9_weeksBound_52 (by decide) rfl ?_
      refine r_iconst hg dX9_weeksBound_54 ci_1 ?_
      refine r_istore hg (L' := [(7, .int (nI 1)), (6, .int v14), (5, .int ((v8 * v12) * (nI 7))), (4, .int v2), (0, .ref this), (1, .int x1), (2, .int x2), (3, .int x3)]) dX9_weeksBound_55 (by decide) rfl ?_
      refine r_sub hg [6, 7, 2, 1, 0] rfl ?_
      exact pl_X9_weeksBound_57 hΓ hg hr hX k_this _ _ _ _ h
    · rw [if_neg c5] at h
      refine r_ldcw hg dX9_weeksBound_18 kc_X9_312 ?_
      exact r_ireturn hr dX9_weeksBound_21 ⟨Nat.zero_le _, Nat.zero_le _⟩ ⟨_, rfl, rfl⟩ (by cases h; rfl)

def b_X9_weighStrikes_186 (this : Nat) (k39 : Int32 → Int32 → qI → Option (qI)) (x1 : Int32) (x2 : Int32) (I : qI) : Option (qI) :=
  k39 x1 (x2 + (nI 1)) I
set_option maxRecDepth 100000 in
set_option maxHeartbeats 4000000 in
theorem p_X9_weighStrikes_186 {l : Launch} {Γ : qC} {g : qG} {z : qI} {this : Nat} {X : qX} (hΓ : q_gm Γ) (hg : q_Ok l Γ RX9 cX9_weighStrikes 6 (q_rm 3 0 0) "weighStrikes" none g) (hr : q_Rt cX9_weighStrikes none (q_rm 3 0 0) (none, z, X) g) (hX : q_Lay X) (k_this : q_kd X this = some (11, 14)) {k39 : Int32 → Int32 → qI → Option (qI)} (hk39 : ∀ (x1 : Int32) (x2 : Int32) (I : qI), k39 x1 x2 I = some z → g 0 0 39 [(0, .ref this), (1, .int x1), (2, .int x2)] [] I X) (x1 : Int32) (x2 : Int32) (I : qI) (h : b_X9_weighStrikes_186 this k39 x1 x2 I = some z) : g 0 0 186 [(0, .ref this), (1, .int x1), (2, .int x2)] [] I X := by
  unfold b_X9_weighStrikes_186 at h
  refine r_iinc hg 2 (v := (x2 + (nI 1))) (L' := [(2, .int (x2 + (nI 1))), (0, .ref this), (1, .int x1)]) dX9_weighStrikes_186 rfl (by rw [ci_1]) (by decide) rfl ?_
  refine r_goto hg 39 dX9_weighStrikes_189 (by decide) ?_
  refine r_sub hg [1, 2, 0] rfl ?_
  exact hk39 _ _ _ h
def b_X9_weighStrikes_155 (this : Nat) (k39 : Int32 → Int32 → qI → Option (qI)) (x1 : Int32) (x2 : Int32) (x4 : Int32) (s1 : Int32) (s2 : Int32) (I : qI) : Option (qI) :=
  q_b1 (q_wr I (this + 63) 8 s1 s2) fun I2 =>
  q_b1 (q_rd I2 (this + 64) 8 x4) fun v5 =>
  q_b1 (q_rd I2 (this + 14) 12 x2) fun v9 =>
  q_b1 (q_rd I2 (this + 2) 8 x4) fun v13 =>
  q_b1 (q_wr I2 (this + 64) 8 x4 (v5 + (v9 * v13))) fun I15 =>
  b_X9_weighStrikes_186 this k39 x1 x2 I15
set_option maxRecDepth 100000 in
set_option maxHeartbeats 4000000 in
theorem p_X9_weighStrikes_155 {l : Launch} {Γ : qC} {g : qG} {z : qI} {this : Nat} {X : qX} (hΓ : q_gm Γ) (hg : q_Ok l Γ RX9 cX9_weighStrikes 6 (q_rm 3 0 0) "weighStrikes" none g) (hr : q_Rt cX9_weighStrikes none (q_rm 3 0 0) (none, z, X) g) (hX : q_Lay X) (k_this : q_kd X this = some (11, 14)) {k39 : Int32 → Int32 → qI → Option (qI)} (hk39 : ∀ (x1 : Int32) (x2 : Int32) (I : qI), k39 x1 x2 I = some z → g 0 0 39 [(0, .ref this), (1, .int x1), (2, .int x2)] [] I X) (x1 : Int32) (x2 : Int32) (x4 : Int32) (s1 : Int32) (s2 : Int32) (I : qI) (h : b_X9_weighStrikes_155 this k39 x1 x2 x4 s1 s2 I = some z) : g 0 0 155 [(0, .ref this), (1, .int x1), (2, .int x2), (4, .int x4)] [.int s2, .int s1, .ref (this + 63)] I X := by
  unfold b_X9_weighStrikes_155 at h
  have e1 := ly_9_11 hX k_this
  obtain ⟨I2, e3, h⟩ := q_b1_some h
  refine r_iast hg dX9_weighStrikes_155 e1.2 e3 ?_
  refine r_aload_n hg 0 dX9_weighStrikes_156 rfl rfl ?_
  have e4 := ly_9_12 hX k_this
  refine r_getR hg dX9_weighStrikes_157 fl_X9_80 k_this rfl e4.1 ?_
  refine r_iload hg 3 dX9_weighStrikes_160 rfl ?_
  refine r_dup2 hg dX9_weighStrikes_162 rfl rfl ?_
  obtain ⟨v5, e6, h⟩ := q_b1_some h
  refine r_iald hg dX9_weighStrikes_163 e4.2 e6 ?_
  refine r_aload_n hg 0 dX9_weighStrikes_164 rfl rfl ?_
  have e7 := ly_9_2 hX k_this
  refine r_getR hg dX9_weighStrikes_165 fl_X9_28 k_this rfl e7.1 ?_
  have e8 := ly_2_1 hX e7.2
  refine r_getR hg dX9_weighStrikes_168 fl_X9_166 e7.2 rfl e8.1 ?_
  refine r_iload_n hg 2 dX9_weighStrikes_171 rfl rfl ?_
  obtain ⟨v9, e10, h⟩ := q_b1_some h
  refine r_iald hg dX9_weighStrikes_172 e8.2 e10 ?_
  refine r_aload_n hg 0 dX9_weighStrikes_173 rfl rfl ?_
  have e11 := ly_9_0 hX k_this
  refine r_getR hg dX9_weighStrikes_174 fl_X9_12 k_this rfl e11.1 ?_
  have e12 := ly_3_0 hX e11.2
  refine r_getR hg dX9_weighStrikes_177 fl_X9_169 e11.2 rfl e12.1 ?_
  refine r_iload hg 3 dX9_weighStrikes_180 rfl ?_
  obtain ⟨v13, e14, h⟩ := q_b1_some h
  refine r_iald hg dX9_weighStrikes_182 e12.2 e14 ?_
  refine r_imul hg dX9_weighStrikes_183 ?_
  refine r_iadd hg dX9_weighStrikes_184 ?_
  obtain ⟨I15, e16, h⟩ := q_b1_some h
  refine r_iast hg dX9_weighStrikes_185 e4.2 e16 ?_
  refine r_sub hg [0, 1, 2] rfl ?_
  exact p_X9_weighStrikes_186 hΓ hg hr hX k_this hk39 _ _ _ h
def b_X9_weighStrikes_117 (this : Nat) (k39 : Int32 → Int32 → qI → Option (qI)) (x1 : Int32) (x2 : Int32) (x3 : Int32) (x4 : Int32) (s0 : Int32) (s1 : Int32) (I : qI) : Option (qI) :=
  if x3 = 0 then none else
  q_b1 (q_rd I (this + 63) 8 x4) fun v4 =>
  if 0 ≤ v4 then
    q_b1 (q_rd I (this + 63) 8 x4) fun v8 =>
    b_X9_weighStrikes_155 this k39 x1 x2 x4 x4 (q_min v8 ((s0 + s1) / x3)) I
  else
    b_X9_weighStrikes_155 this k39 x1 x2 x4 x4 ((s0 + s1) / x3) I
set_option maxRecDepth 100000 in
set_option maxHeartbeats 4000000 in
theorem p_X9_weighStrikes_117 {l : Launch} {Γ : qC} {g : qG} {z : qI} {this : Nat} {X : qX} (hΓ : q_gm Γ) (hg : q_Ok l Γ RX9 cX9_weighStrikes 6 (q_rm 3 0 0) "weighStrikes" none g) (hr : q_Rt cX9_weighStrikes none (q_rm 3 0 0) (none, z, X) g) (hX : q_Lay X) (k_this : q_kd X this = some (11, 14)) {k39 : Int32 → Int32 → qI → Option (qI)} (hk39 : ∀ (x1 : Int32) (x2 : Int32) (I : qI), k39 x1 x2 I = some z → g 0 0 39 [(0, .ref this), (1, .int x1), (2, .int x2)] [] I X) (x1 : Int32) (x2 : Int32) (x3 : Int32) (x4 : Int32) (s0 : Int32) (s1 : Int32) (I : qI) (h : b_X9_weighStrikes_117 this k39 x1 x2 x3 x4 s0 s1 I = some z) : g 0 0 117 [(0, .ref this), (1, .int x1), (2, .int x2), (3, .int x3), (4, .int x4)] [.int s1, .int s0] I X := by
  unfold b_X9_weighStrikes_117 at h
  refine r_iadd hg dX9_weighStrikes_117 ?_
  refine r_iload_n hg 3 dX9_weighStrikes_118 rfl rfl ?_
  by_cases c1 : x3 = 0
  · rw [if_pos c1] at h; cases h
  rw [if_neg c1] at h
  refine r_idiv hg dX9_weighStrikes_119 c1 ?_
  refine r_istore hg (L' := [(5, .int ((s0 + s1) / x3)), (0, .ref this), (1, .int x1), (2, .int x2), (3, .int x3), (4, .int x4)]) dX9_weighStrikes_120 (by decide) rfl ?_
  refine r_aload_n hg 1 dX9_weighStrikes_122 rfl rfl ?_
  have e2 := ly_9_11 hX k_this
  refine r_getR hg dX9_weighStrikes_123 fl_X9_77 k_this rfl e2.1 ?_
  refine r_iload hg 5 dX9_weighStrikes_126 rfl ?_
  refine r_aload_n hg 1 dX9_weighStrikes_128 rfl rfl ?_
  have e3 := ly_9_11 hX k_this
  refine r_getR hg dX9_weighStrikes_129 fl_X9_77 k_this rfl e3.1 ?_
  refine r_iload hg 5 dX9_weighStrikes_132 rfl ?_
  obtain ⟨v4, e5, h⟩ := q_b1_some h
  refine r_iald hg dX9_weighStrikes_134 e3.2 e5 ?_
  refine r_if_ge hg 143 dX9_weighStrikes_135 (by decide) (fun c6 => ?_) (fun c6 => ?_)
  · rw [if_pos c6] at h
    refine r_aload_n hg 1 dX9_weighStrikes_143 rfl rfl ?_
    have e7 := ly_9_11 hX k_this
    refine r_getR hg dX9_weighStrikes_144 fl_X9_77 k_this rfl e7.1 ?_
    refine r_iload hg 5 dX9_weighStrikes_147 rfl ?_
    obtain ⟨v8, e9, h⟩ := q_b1_some h
    refine r_iald hg dX9_weighStrikes_149 e7.2 e9 ?_
    refine r_iload hg 0 dX9_weighStrikes_150 rfl ?_
    refine r_minq hg dX9_weighStrikes_152 mm_X9_233 ⟨Nat.le_of_ble_eq_true rfl, Nat.le_of_ble_eq_true rfl⟩ ⟨Nat.zero_le _, Nat.zero_le _⟩ ?_
    refine r_sub hg [1, 2, 3, 5] rfl ?_
    exact p_X9_weighStrikes_155 hΓ hg hr hX k_this hk39 _ _ _ _ _ _ h
  · rw [if_neg c6] at h
    refine r_iload hg 0 dX9_weighStrikes_138 rfl ?_
    refine r_goto hg 155 dX9_weighStrikes_140 (by decide) ?_
    refine r_sub hg [1, 2, 3, 5] rfl ?_
    exact p_X9_weighStrikes_155 hΓ hg hr hX k_this hk39 _ _ _ _ _ _ h
def b_X9_weighStrikes_39 (this : Nat) (k39 : Int32 → Int32 → qI → Option (qI)) (x1 : Int32) (x2 : Int32) (I : qI) : Option (qI) :=
  if (I (this + 12) 14) ≤ x2 then
    some (I)
  else
    q_b1 (q_rd I (this + 15) 12 x2) fun v5 =>
    q_b1 (f_X2_isGone (this + 12) x2 I) fun v8 =>
    if v8 = 0 then
      if 0 < v5 then
        q_b1 (q_rd I (this + 13) 12 x2) fun v14 =>
        q_b1 (q_rd I (this + 16) 12 x2) fun v18 =>
        if x1 ≤ 0 then
          b_X9_weighStrikes_117 this k39 x1 x2 v5 v14 v18 (nI 0) I
        else
          q_b1 (q_rd I (this + 17) 12 x2) fun v23 =>
          if x1 = 0 then none else
          b_X9_weighStrikes_117 this k39 x1 x2 v5 v14 v18 (v23 / x1) I
      else
        b_X9_weighStrikes_186 this k39 x1 x2 I
    else
      b_X9_weighStrikes_186 this k39 x1 x2 I
set_option maxRecDepth 100000 in
set_option maxHeartbeats 4000000 in
theorem p_X9_weighStrikes_39 {l : Launch} {Γ : qC} {g : qG} {z : qI} {this : Nat} {X : qX} (hΓ : q_gm Γ) (hg : q_Ok l Γ RX9 cX9_weighStrikes 6 (q_rm 3 0 0) "weighStrikes" none g) (hr : q_Rt cX9_weighStrikes none (q_rm 3 0 0) (none, z, X) g) (hX : q_Lay X) (k_this : q_kd X this = some (11, 14)) {k39 : Int32 → Int32 → qI → Option (qI)} (hk39 : ∀ (x1 : Int32) (x2 : Int32) (I : qI), k39 x1 x2 I = some z → g 0 0 39 [(0, .ref this), (1, .int x1), (2, .int x2)] [] I X) (x1 : Int32) (x2 : Int32) (I : qI) (h : b_X9_weighStrikes_39 this k39 x1 x2 I = some z) : g 0 0 39 [(0, .ref this), (1, .int x1), (2, .int x2)] [] I X := by
  unfold b_X9_weighStrikes_39 at h
  refine r_iload_n hg 2 dX9_weighStrikes_39 rfl rfl ?_
  refine r_aload_n hg 0 dX9_weighStrikes_40 rfl rfl ?_
  have e1 := ly_9_2 hX k_this
  refine r_getR hg dX9_weighStrikes_41 fl_X9_28 k_this rfl e1.1 ?_
  refine r_getI hg dX9_weighStrikes_44 fl_X9_134 e1.2 rfl ?_
  refine r_icmp_ge hg 192 dX9_weighStrikes_47 (by decide) (fun c2 => ?_) (fun c2 => ?_)
  · rw [if_pos c2] at h
    exact r_return hr dX9_weighStrikes_192 ⟨Nat.zero_le _, Nat.zero_le _⟩ rfl (by cases h; rfl)
  · rw [if_neg c2] at h
    refine r_aload_n hg 0 dX9_weighStrikes_50 rfl rfl ?_
    have e3 := ly_9_2 hX k_this
    refine r_getR hg dX9_weighStrikes_51 fl_X9_28 k_this rfl e3.1 ?_
    have e4 := ly_2_2 hX e3.2
    refine r_getR hg dX9_weighStrikes_54 fl_X9_190 e3.2 rfl e4.1 ?_
    refine r_iload_n hg 2 dX9_weighStrikes_57 rfl rfl ?_
    obtain ⟨v5, e6, h⟩ := q_b1_some h
    refine r_iald hg dX9_weighStrikes_58 e4.2 e6 ?_
    refine r_istore_n hg (L' := [(3, .int v5), (0, .ref this), (1, .int x1), (2, .int x2)]) dX9_weighStrikes_59 rfl (by decide) rfl ?_
    refine r_aload_n hg 1 dX9_weighStrikes_60 rfl rfl ?_
    have e7 := ly_9_2 hX k_this
    refine r_getR hg dX9_weighStrikes_61 fl_X9_28 k_this rfl e7.1 ?_
    refine r_iload_n hg 3 dX9_weighStrikes_64 rfl rfl ?_
    obtain ⟨v8, e9, h⟩ := q_b1_some h
    refine r_cV1i hg dX9_weighStrikes_65 mt_X2_isGone ml_X9_144 mv_X2_isGone e7.2 (s_X2_isGone hΓ hX e7.2 e9) (q_room (Nat.le_of_ble_eq_true rfl) (Nat.le_of_ble_eq_true rfl)) ⟨Nat.zero_le _, Nat.zero_le _⟩ (Nat.le_of_ble_eq_true rfl) ?_
    refine r_if_ne hg 186 dX9_weighStrikes_68 (by decide) (fun c10 => ?_) (fun c10 => ?_)
    · rw [if_neg c10] at h
      refine r_sub hg [1, 2, 3] rfl ?_
      exact p_X9_weighStrikes_186 hΓ hg hr hX k_this hk39 _ _ _ h
    · rw [if_pos (Classical.not_not.mp c10)] at h
      refine r_iload_n hg 0 dX9_weighStrikes_71 rfl rfl ?_
      refine r_if_gt hg 78 dX9_weighStrikes_72 (by decide) (fun c11 => ?_) (fun c11 => ?_)
      · rw [if_pos c11] at h
        refine r_aload_n hg 1 dX9_weighStrikes_78 rfl rfl ?_
        have e12 := ly_9_2 hX k_this
        refine r_getR hg dX9_weighStrikes_79 fl_X9_28 k_this rfl e12.1 ?_
        have e13 := ly_2_0 hX e12.2
        refine r_getR hg dX9_weighStrikes_82 fl_X9_163 e12.2 rfl e13.1 ?_
        refine r_iload_n hg 3 dX9_weighStrikes_85 rfl rfl ?_
        obtain ⟨v14, e15, h⟩ := q_b1_some h
        refine r_iald hg dX9_weighStrikes_86 e13.2 e15 ?_
        refine r_istore hg (L' := [(4, .int v14), (3, .int v5), (0, .ref this), (1, .int x1), (2, .int x2)]) dX9_weighStrikes_87 (by decide) rfl ?_
        refine r_aload_n hg 2 dX9_weighStrikes_89 rfl rfl ?_
        have e16 := ly_9_2 hX k_this
        refine r_getR hg dX9_weighStrikes_90 fl_X9_28 k_this rfl e16.1 ?_
        have e17 := ly_2_3 hX e16.2
        refine r_getR hg dX9_weighStrikes_93 fl_X9_199 e16.2 rfl e17.1 ?_
        refine r_iload_n hg 4 dX9_weighStrikes_96 rfl rfl ?_
        obtain ⟨v18, e19, h⟩ := q_b1_some h
        refine r_iald hg dX9_weighStrikes_97 e17.2 e19 ?_
        refine r_iload_n hg 3 dX9_weighStrikes_98 rfl rfl ?_
        refine r_if_le hg 116 dX9_weighStrikes_99 (by decide) (fun c20 => ?_) (fun c20 => ?_)
        · rw [if_pos c20] at h
          refine r_iconst hg dX9_weighStrikes_116 ci_0 ?_
          refine r_sub hg [2, 3, 4, 1, 0] rfl ?_
          exact p_X9_weighStrikes_117 hΓ hg hr hX k_this hk39 _ _ _ _ _ _ _ h
        · rw [if_neg c20] at h
          refine r_aload_n hg 2 dX9_weighStrikes_102 rfl rfl ?_
          have e21 := ly_9_2 hX k_this
          refine r_getR hg dX9_weighStrikes_103 fl_X9_28 k_this rfl e21.1 ?_
          have e22 := ly_2_4 hX e21.2
          refine r_getR hg dX9_weighStrikes_106 fl_X9_246 e21.2 rfl e22.1 ?_
          refine r_iload_n hg 4 dX9_weighStrikes_109 rfl rfl ?_
          obtain ⟨v23, e24, h⟩ := q_b1_some h
          refine r_iald hg dX9_weighStrikes_110 e22.2 e24 ?_
          refine r_iload_n hg 3 dX9_weighStrikes_111 rfl rfl ?_
          by_cases c25 : x1 = 0
          · rw [if_pos c25] at h; cases h
          rw [if_neg c25] at h
          refine r_idiv hg dX9_weighStrikes_112 c25 ?_
          refine r_goto hg 117 dX9_weighStrikes_113 (by decide) ?_
          refine r_sub hg [2, 3, 4, 1, 0] rfl ?_
          exact p_X9_weighStrikes_117 hΓ hg hr hX k_this hk39 _ _ _ _ _ _ _ h
      · rw [if_neg c11] at h
        refine r_goto hg 186 dX9_weighStrikes_75 (by decide) ?_
        refine r_sub hg [1, 2, 3] rfl ?_
        exact p_X9_weighStrikes_186 hΓ hg hr hX k_this hk39 _ _ _ h
theorem pl_X9_weighStrikes_39 {l : Launch} {Γ : qC} {g : qG} {z : qI} {this : Nat} {X : qX} (hΓ : q_gm Γ) (hg : q_Ok l Γ RX9 cX9_weighStrikes 6 (q_rm 3 0 0) "weighStrikes" none g) (hr : q_Rt cX9_weighStrikes none (q_rm 3 0 0) (none, z, X) g) (hX : q_Lay X) (k_this : q_kd X this = some (11, 14)) : ∀ (n : Nat) (x1 : Int32) (x2 : Int32) (I : qI), q_fix (fun _ _ _ => none) (b_X9_weighStrikes_39 this) n x1 x2 I = some z → g 0 0 39 [(0, .ref this), (1, .int x1), (2, .int x2)] [] I X := by
  intro n
  induction n with
  | zero =>
    intro x1 x2 I h
    cases (show (none : Option (qI)) = some z from h)
  | succ n ih =>
    intro x1 x2 I h
    exact p_X9_weighStrikes_39 hΓ hg hr hX k_this ih _ _ _ h
def b_X9_weighStrikes_11 (this : Nat) (k11 : Int32 → Int32 → qI → Option (qI)) (x1 : Int32) (x2 : Int32) (I : qI) : Option (qI) :=
  if (nI 8) ≤ x2 then
    q_fix (fun _ _ _ => none) (b_X9_weighStrikes_39 this) q_fu x1 (nI 0) I
  else
    q_b1 (q_wr I (this + 63) 8 x2 (-1)) fun I3 =>
    q_b1 (q_wr I3 (this + 64) 8 x2 (nI 0)) fun I6 =>
    k11 x1 (x2 + (nI 1)) I6
set_option maxRecDepth 100000 in
set_option maxHeartbeats 4000000 in
theorem p_X9_weighStrikes_11 {l : Launch} {Γ : qC} {g : qG} {z : qI} {this : Nat} {X : qX} (hΓ : q_gm Γ) (hg : q_Ok l Γ RX9 cX9_weighStrikes 6 (q_rm 3 0 0) "weighStrikes" none g) (hr : q_Rt cX9_weighStrikes none (q_rm 3 0 0) (none, z, X) g) (hX : q_Lay X) (k_this : q_kd X this = some (11, 14)) {k11 : Int32 → Int32 → qI → Option (qI)} (hk11 : ∀ (x1 : Int32) (x2 : Int32) (I : qI), k11 x1 x2 I = some z → g 0 0 11 [(0, .ref this), (1, .int x1), (2, .int x2)] [] I X) (x1 : Int32) (x2 : Int32) (I : qI) (h : b_X9_weighStrikes_11 this k11 x1 x2 I = some z) : g 0 0 11 [(0, .ref this), (1, .int x1), (2, .int x2)] [] I X := by
  unfold b_X9_weighStrikes_11 at h
  refine r_iload_n hg 2 dX9_weighStrikes_11 rfl rfl ?_
  refine r_bipush hg dX9_weighStrikes_12 cb_8 ?_
  refine r_icmp_ge hg 37 dX9_weighStrikes_14 (by decide) (fun c1 => ?_) (fun c1 => ?_)
  · rw [if_pos c1] at h
    refine r_iconst hg dX9_weighStrikes_37 ci_0 ?_
    refine r_istore_n hg (L' := [(2, .int (nI 0)), (0, .ref this), (1, .int x1)]) dX9_weighStrikes_38 rfl (by decide) rfl ?_
    refine r_sub hg [1, 2, 0] rfl ?_
    exact pl_X9_weighStrikes_39 hΓ hg hr hX k_this _ _ _ _ h
  · rw [if_neg c1] at h
    refine r_aload_n hg 0 dX9_weighStrikes_17 rfl rfl ?_
    have e2 := ly_9_11 hX k_this
    refine r_getR hg dX9_weighStrikes_18 fl_X9_77 k_this rfl e2.1 ?_
    refine r_iload_n hg 2 dX9_weighStrikes_21 rfl rfl ?_
    refine r_iconst hg dX9_weighStrikes_22 ci_m1 ?_
    obtain ⟨I3, e4, h⟩ := q_b1_some h
    refine r_iast hg dX9_weighStrikes_23 e2.2 e4 ?_
    refine r_aload_n hg 0 dX9_weighStrikes_24 rfl rfl ?_
    have e5 := ly_9_12 hX k_this
    refine r_getR hg dX9_weighStrikes_25 fl_X9_80 k_this rfl e5.1 ?_
    refine r_iload_n hg 2 dX9_weighStrikes_28 rfl rfl ?_
    refine r_iconst hg dX9_weighStrikes_29 ci_0 ?_
    obtain ⟨I6, e7, h⟩ := q_b1_some h
    refine r_iast hg dX9_weighStrikes_30 e5.2 e7 ?_
    refine r_iinc hg 2 (v := (x2 + (nI 1))) (L' := [(2, .int (x2 + (nI 1))), (0, .ref this), (1, .int x1)]) dX9_weighStrikes_31 rfl (by rw [ci_1]) (by decide) rfl ?_
    refine r_goto hg 11 dX9_weighStrikes_34 (by decide) ?_
    refine r_sub hg [1, 2, 0] rfl ?_
    exact hk11 _ _ _ h
theorem pl_X9_weighStrikes_11 {l : Launch} {Γ : qC} {g : qG} {z : qI} {this : Nat} {X : qX} (hΓ : q_gm Γ) (hg : q_Ok l Γ RX9 cX9_weighStrikes 6 (q_rm 3 0 0) "weighStrikes" none g) (hr : q_Rt cX9_weighStrikes none (q_rm 3 0 0) (none, z, X) g) (hX : q_Lay X) (k_this : q_kd X this = some (11, 14)) : ∀ (n : Nat) (x1 : Int32) (x2 : Int32) (I : qI), q_fix (fun _ _ _ => none) (b_X9_weighStrikes_11 this) n x1 x2 I = some z → g 0 0 11 [(0, .ref this), (1, .int x1), (2, .int x2)] [] I X := by
  intro n
  induction n with
  | zero =>
    intro x1 x2 I h
    cases (show (none : Option (qI)) = some z from h)
  | succ n ih =>
    intro x1 x2 I h
    exact p_X9_weighStrikes_11 hΓ hg hr hX k_this ih _ _ _ h
def f_X9_weighStrikes (this : Nat) (I : qI) : Option (qI) :=
  q_b1 (f_X8_leastPrice (this + 7) (nI 1) I) fun v2 =>
  q_fix (fun _ _ _ => none) (b_X9_weighStrikes_11 this) q_fu v2 (nI 0) I
set_option maxRecDepth 100000 in
set_option maxHeartbeats 4000000 in
theorem s_X9_weighStrikes {l : Launch} {Γ : qC} (hΓ : q_gm Γ) {X : qX} (hX : q_Lay X) {this : Nat} (k_this : q_kd X this = some (11, 14)) {I : qI} {z : qI} (h : f_X9_weighStrikes this I = some z) : q_Sem l Γ (q_rm 3 0 0) yX9_weighStrikes cX9_weighStrikes 6 none [.ref this] I X (none, z, X) := by
  refine q_met (by decide) (Nat.le_of_ble_eq_true rfl) (fun g hg hr => ?_)
  unfold f_X9_weighStrikes at h
  show g 0 0 0 [(0, .ref this)] [] I X
  refine r_aload_n hg 0 dX9_weighStrikes_0 rfl rfl ?_
  have e1 := ly_9_1 hX k_this
  refine r_getR hg dX9_weighStrikes_1 fl_X9_21 k_this rfl e1.1 ?_
  refine r_iconst hg dX9_weighStrikes_4 ci_1 ?_
  obtain ⟨v2, e3, h⟩ := q_b1_some h
  refine r_cV1i hg dX9_weighStrikes_5 mt_X8_leastPrice ml_X9_313 mv_X8_leastPrice e1.2 (s_X8_leastPrice hΓ hX e1.2 e3) (q_room (Nat.le_of_ble_eq_true rfl) (Nat.le_of_ble_eq_true rfl)) ⟨Nat.zero_le _, Nat.zero_le _⟩ (Nat.le_of_ble_eq_true rfl) ?_
  refine r_istore_n hg (L' := [(1, .int v2), (0, .ref this)]) dX9_weighStrikes_8 rfl (by decide) rfl ?_
  refine r_iconst hg dX9_weighStrikes_9 ci_0 ?_
  refine r_istore_n hg (L' := [(2, .int (nI 0)), (1, .int v2), (0, .ref this)]) dX9_weighStrikes_10 rfl (by decide) rfl ?_
  refine r_sub hg [2, 1, 0] rfl ?_
  exact pl_X9_weighStrikes_11 hΓ hg hr hX k_this _ _ _ _ h

def f_X9_buyByChecks (this : Nat) (x1 : Int32) (x2 : Int32) (I : qI) : Option (qI) :=
  q_b1 (f_X2_lacks (this + 12) x1 I) fun v2 =>
  q_b1 (q_rd I (this + 18) 12 x1) fun v7 =>
  q_b1 (f_X8_loavesFor (this + 7) x2 v7 I) fun v9 =>
  if 0 < (q_min v2 v9) then
    q_b1 (q_rd I (this + 18) 12 x1) fun v14 =>
    q_b1 (q_rd I (this + 9) 6 x2) fun v18 =>
    q_b1 (q_wr I (this + 18) 12 x1 (v14 - ((q_min v2 v9) * v18))) fun I20 =>
    q_b1 (f_X9_takeLoaves this x1 x2 (q_min v2 v9) I20) fun I22 =>
    some (I22)
  else
    some (I)
set_option maxRecDepth 100000 in
set_option maxHeartbeats 4000000 in
theorem s_X9_buyByChecks {l : Launch} {Γ : qC} (hΓ : q_gm Γ) {X : qX} (hX : q_Lay X) {this : Nat} {x1 : Int32} {x2 : Int32} (k_this : q_kd X this = some (11, 14)) {I : qI} {z : qI} (h : f_X9_buyByChecks this x1 x2 I = some z) : q_Sem l Γ (q_rm 4 0 0) yX9_buyByChecks cX9_buyByChecks 4 none [.ref this, .int x1, .int x2] I X (none, z, X) := by
  refine q_met (by decide) (Nat.le_of_ble_eq_true rfl) (fun g hg hr => ?_)
  unfold f_X9_buyByChecks at h
  show g 0 0 0 [(0, .ref this), (1, .int x1), (2, .int x2)] [] I X
  refine r_aload_n hg 0 dX9_buyByChecks_0 rfl rfl ?_
  have e1 := ly_9_2 hX k_this
  refine r_getR hg dX9_buyByChecks_1 fl_X9_28 k_this rfl e1.1 ?_
  refine r_iload_n hg 1 dX9_buyByChecks_4 rfl rfl ?_
  obtain ⟨v2, e3, h⟩ := q_b1_some h
  refine r_cV1i hg dX9_buyByChecks_5 mt_X2_lacks ml_X9_193 mv_X2_lacks e1.2 (s_X2_lacks hΓ hX e1.2 e3) (q_room (Nat.le_of_ble_eq_true rfl) (Nat.le_of_ble_eq_true rfl)) ⟨Nat.zero_le _, Nat.zero_le _⟩ (Nat.le_of_ble_eq_true rfl) ?_
  refine r_aload_n hg 0 dX9_buyByChecks_8 rfl rfl ?_
  have e4 := ly_9_1 hX k_this
  refine r_getR hg dX9_buyByChecks_9 fl_X9_21 k_this rfl e4.1 ?_
  refine r_iload_n hg 2 dX9_buyByChecks_12 rfl rfl ?_
  refine r_aload_n hg 0 dX9_buyByChecks_13 rfl rfl ?_
  have e5 := ly_9_2 hX k_this
  refine r_getR hg dX9_buyByChecks_14 fl_X9_28 k_this rfl e5.1 ?_
  have e6 := ly_2_5 hX e5.2
  refine r_getR hg dX9_buyByChecks_17 fl_X9_227 e5.2 rfl e6.1 ?_
  refine r_iload_n hg 1 dX9_buyByChecks_20 rfl rfl ?_
  obtain ⟨v7, e8, h⟩ := q_b1_some h
  refine r_iald hg dX9_buyByChecks_21 e6.2 e8 ?_
  obtain ⟨v9, e10, h⟩ := q_b1_some h
  refine r_cV2i hg dX9_buyByChecks_22 mt_X8_loavesFor ml_X9_230 mv_X8_loavesFor e4.2 (s_X8_loavesFor hΓ hX e4.2 e10) (q_room (Nat.le_of_ble_eq_true rfl) (Nat.le_of_ble_eq_true rfl)) ⟨Nat.zero_le _, Nat.zero_le _⟩ (Nat.le_of_ble_eq_true rfl) ?_
  refine r_minq hg dX9_buyByChecks_25 mm_X9_233 ⟨Nat.le_of_ble_eq_true rfl, Nat.le_of_ble_eq_true rfl⟩ ⟨Nat.zero_le _, Nat.zero_le _⟩ ?_
  refine r_istore_n hg (L' := [(3, .int (q_min v2 v9)), (0, .ref this), (1, .int x1), (2, .int x2)]) dX9_buyByChecks_28 rfl (by decide) rfl ?_
  refine r_iload_n hg 0 dX9_buyByChecks_29 rfl rfl ?_
  refine r_if_gt hg 34 dX9_buyByChecks_30 (by decide) (fun c11 => ?_) (fun c11 => ?_)
  · rw [if_pos c11] at h
    refine r_aload_n hg 1 dX9_buyByChecks_34 rfl rfl ?_
    have e12 := ly_9_2 hX k_this
    refine r_getR hg dX9_buyByChecks_35 fl_X9_28 k_this rfl e12.1 ?_
    have e13 := ly_2_5 hX e12.2
    refine r_getR hg dX9_buyByChecks_38 fl_X9_227 e12.2 rfl e13.1 ?_
    refine r_iload_n hg 2 dX9_buyByChecks_41 rfl rfl ?_
    refine r_dup2 hg dX9_buyByChecks_42 rfl rfl ?_
    obtain ⟨v14, e15, h⟩ := q_b1_some h
    refine r_iald hg dX9_buyByChecks_43 e13.2 e15 ?_
    refine r_iload_n hg 0 dX9_buyByChecks_44 rfl rfl ?_
    refine r_aload_n hg 1 dX9_buyByChecks_45 rfl rfl ?_
    have e16 := ly_9_1 hX k_this
    refine r_getR hg dX9_buyByChecks_46 fl_X9_21 k_this rfl e16.1 ?_
    have e17 := ly_8_1 hX e16.2
    refine r_getR hg dX9_buyByChecks_49 fl_X9_236 e16.2 rfl e17.1 ?_
    refine r_iload_n hg 3 dX9_buyByChecks_52 rfl rfl ?_
    obtain ⟨v18, e19, h⟩ := q_b1_some h
    refine r_iald hg dX9_buyByChecks_53 e17.2 e19 ?_
    refine r_imul hg dX9_buyByChecks_54 ?_
    refine r_isub hg dX9_buyByChecks_55 ?_
    obtain ⟨I20, e21, h⟩ := q_b1_some h
    refine r_iast hg dX9_buyByChecks_56 e13.2 e21 ?_
    refine r_aload_n hg 1 dX9_buyByChecks_57 rfl rfl ?_
    refine r_iload_n hg 2 dX9_buyByChecks_58 rfl rfl ?_
    refine r_iload_n hg 3 dX9_buyByChecks_59 rfl rfl ?_
    refine r_iload_n hg 0 dX9_buyByChecks_60 rfl rfl ?_
    obtain ⟨I22, e23, h⟩ := q_b1_some h
    refine r_cV3v hg dX9_buyByChecks_61 mt_X9_takeLoaves ml_X9_239 mv_X9_takeLoaves k_this (s_X9_takeLoaves hΓ hX k_this e23) (q_room (Nat.le_of_ble_eq_true rfl) (Nat.le_of_ble_eq_true rfl)) ⟨Nat.zero_le _, Nat.zero_le _⟩ (Nat.le_of_ble_eq_true rfl) ?_
    exact r_return hr dX9_buyByChecks_64 ⟨Nat.zero_le _, Nat.zero_le _⟩ rfl (by cases h; rfl)
  · rw [if_neg c11] at h
    exact r_return hr dX9_buyByChecks_33 ⟨Nat.zero_le _, Nat.zero_le _⟩ rfl (by cases h; rfl)

def b_X9_buyInTown_23 (this : Nat) (x1 : Int32) (x2 : Int32) (s0 : Int32) (I : qI) : Option (qI) :=
  if 0 ≤ s0 then
    q_b1 (q_rd I (this + 17) 12 x1) fun v5 =>
    q_b1 (q_rd I (this + 11) 6 s0) fun v9 =>
    q_b1 (f_X8_loavesFor (this + 7) s0 (v5 - v9) I) fun v11 =>
    if 0 < (q_min x2 v11) then
      q_b1 (q_rd I (this + 17) 12 x1) fun v16 =>
      q_b1 (q_rd I (this + 9) 6 s0) fun v20 =>
      q_b1 (q_rd I (this + 11) 6 s0) fun v24 =>
      q_b1 (q_wr I (this + 17) 12 x1 (v16 - (((q_min x2 v11) * v20) + v24))) fun I26 =>
      q_b1 (f_X9_takeLoaves this x1 s0 (q_min x2 v11) I26) fun I28 =>
      some (I28)
    else
      some (I)
  else
    some (I)
set_option maxRecDepth 100000 in
set_option maxHeartbeats 4000000 in
theorem p_X9_buyInTown_23 {l : Launch} {Γ : qC} {g : qG} {z : qI} {this : Nat} {x1 : Int32} {X : qX} (hΓ : q_gm Γ) (hg : q_Ok l Γ RX9 cX9_buyInTown 5 (q_rm 4 0 0) "buyInTown" none g) (hr : q_Rt cX9_buyInTown none (q_rm 4 0 0) (none, z, X) g) (hX : q_Lay X) (k_this : q_kd X this = some (11, 14)) (x2 : Int32) (s0 : Int32) (I : qI) (h : b_X9_buyInTown_23 this x1 x2 s0 I = some z) : g 0 0 23 [(0, .ref this), (1, .int x1), (2, .int x2)] [.int s0] I X := by
  unfold b_X9_buyInTown_23 at h
  refine r_istore_n hg (L' := [(3, .int s0), (0, .ref this), (1, .int x1), (2, .int x2)]) dX9_buyInTown_23 rfl (by decide) rfl ?_
  refine r_iload_n hg 0 dX9_buyInTown_24 rfl rfl ?_
  refine r_if_ge hg 29 dX9_buyInTown_25 (by decide) (fun c1 => ?_) (fun c1 => ?_)
  · rw [if_pos c1] at h
    refine r_iload_n hg 3 dX9_buyInTown_29 rfl rfl ?_
    refine r_aload_n hg 1 dX9_buyInTown_30 rfl rfl ?_
    have e2 := ly_9_1 hX k_this
    refine r_getR hg dX9_buyInTown_31 fl_X9_21 k_this rfl e2.1 ?_
    refine r_iload_n hg 0 dX9_buyInTown_34 rfl rfl ?_
    refine r_aload_n hg 1 dX9_buyInTown_35 rfl rfl ?_
    have e3 := ly_9_2 hX k_this
    refine r_getR hg dX9_buyInTown_36 fl_X9_28 k_this rfl e3.1 ?_
    have e4 := ly_2_4 hX e3.2
    refine r_getR hg dX9_buyInTown_39 fl_X9_246 e3.2 rfl e4.1 ?_
    refine r_iload_n hg 2 dX9_buyInTown_42 rfl rfl ?_
    obtain ⟨v5, e6, h⟩ := q_b1_some h
    refine r_iald hg dX9_buyInTown_43 e4.2 e6 ?_
    refine r_aload_n hg 1 dX9_buyInTown_44 rfl rfl ?_
    have e7 := ly_9_1 hX k_this
    refine r_getR hg dX9_buyInTown_45 fl_X9_21 k_this rfl e7.1 ?_
    have e8 := ly_8_3 hX e7.2
    refine r_getR hg dX9_buyInTown_48 fl_X9_249 e7.2 rfl e8.1 ?_
    refine r_iload_n hg 0 dX9_buyInTown_51 rfl rfl ?_
    obtain ⟨v9, e10, h⟩ := q_b1_some h
    refine r_iald hg dX9_buyInTown_52 e8.2 e10 ?_
    refine r_isub hg dX9_buyInTown_53 ?_
    obtain ⟨v11, e12, h⟩ := q_b1_some h
    refine r_cV2i hg dX9_buyInTown_54 mt_X8_loavesFor ml_X9_230 mv_X8_loavesFor e2.2 (s_X8_loavesFor hΓ hX e2.2 e12) (q_room (Nat.le_of_ble_eq_true rfl) (Nat.le_of_ble_eq_true rfl)) ⟨Nat.zero_le _, Nat.zero_le _⟩ (Nat.le_of_ble_eq_true rfl) ?_
    refine r_minq hg dX9_buyInTown_57 mm_X9_233 ⟨Nat.le_of_ble_eq_true rfl, Nat.le_of_ble_eq_true rfl⟩ ⟨Nat.zero_le _, Nat.zero_le _⟩ ?_
    refine r_istore hg (L' := [(4, .int (q_min x2 v11)), (3, .int s0), (0, .ref this), (1, .int x1), (2, .int x2)]) dX9_buyInTown_60 (by decide) rfl ?_
    refine r_iload hg 0 dX9_buyInTown_62 rfl ?_
    refine r_if_gt hg 68 dX9_buyInTown_64 (by decide) (fun c13 => ?_) (fun c13 => ?_)
    · rw [if_pos c13] at h
      refine r_aload_n hg 2 dX9_buyInTown_68 rfl rfl ?_
      have e14 := ly_9_2 hX k_this
      refine r_getR hg dX9_buyInTown_69 fl_X9_28 k_this rfl e14.1 ?_
      have e15 := ly_2_4 hX e14.2
      refine r_getR hg dX9_buyInTown_72 fl_X9_246 e14.2 rfl e15.1 ?_
      refine r_iload_n hg 3 dX9_buyInTown_75 rfl rfl ?_
      refine r_dup2 hg dX9_buyInTown_76 rfl rfl ?_
      obtain ⟨v16, e17, h⟩ := q_b1_some h
      refine r_iald hg dX9_buyInTown_77 e15.2 e17 ?_
      refine r_iload hg 0 dX9_buyInTown_78 rfl ?_
      refine r_aload_n hg 2 dX9_buyInTown_80 rfl rfl ?_
      have e18 := ly_9_1 hX k_this
      refine r_getR hg dX9_buyInTown_81 fl_X9_21 k_this rfl e18.1 ?_
      have e19 := ly_8_1 hX e18.2
      refine r_getR hg dX9_buyInTown_84 fl_X9_236 e18.2 rfl e19.1 ?_
      refine r_iload_n hg 1 dX9_buyInTown_87 rfl rfl ?_
      obtain ⟨v20, e21, h⟩ := q_b1_some h
      refine r_iald hg dX9_buyInTown_88 e19.2 e21 ?_
      refine r_imul hg dX9_buyInTown_89 ?_
      refine r_aload_n hg 2 dX9_buyInTown_90 rfl rfl ?_
      have e22 := ly_9_1 hX k_this
      refine r_getR hg dX9_buyInTown_91 fl_X9_21 k_this rfl e22.1 ?_
      have e23 := ly_8_3 hX e22.2
      refine r_getR hg dX9_buyInTown_94 fl_X9_249 e22.2 rfl e23.1 ?_
      refine r_iload_n hg 1 dX9_buyInTown_97 rfl rfl ?_
      obtain ⟨v24, e25, h⟩ := q_b1_some h
      refine r_iald hg dX9_buyInTown_98 e23.2 e25 ?_
      refine r_iadd hg dX9_buyInTown_99 ?_
      refine r_isub hg dX9_buyInTown_100 ?_
      obtain ⟨I26, e27, h⟩ := q_b1_some h
      refine r_iast hg dX9_buyInTown_101 e15.2 e27 ?_
      refine r_aload_n hg 2 dX9_buyInTown_102 rfl rfl ?_
      refine r_iload_n hg 3 dX9_buyInTown_103 rfl rfl ?_
      refine r_iload_n hg 1 dX9_buyInTown_104 rfl rfl ?_
      refine r_iload hg 0 dX9_buyInTown_105 rfl ?_
      obtain ⟨I28, e29, h⟩ := q_b1_some h
      refine r_cV3v hg dX9_buyInTown_107 mt_X9_takeLoaves ml_X9_239 mv_X9_takeLoaves k_this (s_X9_takeLoaves hΓ hX k_this e29) (q_room (Nat.le_of_ble_eq_true rfl) (Nat.le_of_ble_eq_true rfl)) ⟨Nat.zero_le _, Nat.zero_le _⟩ (Nat.le_of_ble_eq_true rfl) ?_
      exact r_return hr dX9_buyInTown_110 ⟨Nat.zero_le _, Nat.zero_le _⟩ rfl (by cases h; rfl)
    · rw [if_neg c13] at h
      exact r_return hr dX9_buyInTown_67 ⟨Nat.zero_le _, Nat.zero_le _⟩ rfl (by cases h; rfl)
  · rw [if_neg c1] at h
    exact r_return hr dX9_buyInTown_28 ⟨Nat.zero_le _, Nat.zero_le _⟩ rfl (by cases h; rfl)
def f_X9_buyInTown (this : Nat) (x1 : Int32) (I : qI) : Option (qI) :=
  q_b1 (f_X2_lacks (this + 12) x1 I) fun v2 =>
  if v2 ≤ 0 then
    b_X9_buyInTown_23 this x1 v2 (-1) I
  else
    q_b1 (f_X9_townKnownCheapest this x1 v2 I) fun v5 =>
    b_X9_buyInTown_23 this x1 v2 v5 I
set_option maxRecDepth 100000 in
set_option maxHeartbeats 4000000 in
theorem s_X9_buyInTown {l : Launch} {Γ : qC} (hΓ : q_gm Γ) {X : qX} (hX : q_Lay X) {this : Nat} {x1 : Int32} (k_this : q_kd X this = some (11, 14)) {I : qI} {z : qI} (h : f_X9_buyInTown this x1 I = some z) : q_Sem l Γ (q_rm 4 0 0) yX9_buyInTown cX9_buyInTown 5 none [.ref this, .int x1] I X (none, z, X) := by
  refine q_met (by decide) (Nat.le_of_ble_eq_true rfl) (fun g hg hr => ?_)
  unfold f_X9_buyInTown at h
  show g 0 0 0 [(0, .ref this), (1, .int x1)] [] I X
  refine r_aload_n hg 0 dX9_buyInTown_0 rfl rfl ?_
  have e1 := ly_9_2 hX k_this
  refine r_getR hg dX9_buyInTown_1 fl_X9_28 k_this rfl e1.1 ?_
  refine r_iload_n hg 1 dX9_buyInTown_4 rfl rfl ?_
  obtain ⟨v2, e3, h⟩ := q_b1_some h
  refine r_cV1i hg dX9_buyInTown_5 mt_X2_lacks ml_X9_193 mv_X2_lacks e1.2 (s_X2_lacks hΓ hX e1.2 e3) (q_room (Nat.le_of_ble_eq_true rfl) (Nat.le_of_ble_eq_true rfl)) ⟨Nat.zero_le _, Nat.zero_le _⟩ (Nat.le_of_ble_eq_true rfl) ?_
  refine r_istore_n hg (L' := [(2, .int v2), (0, .ref this), (1, .int x1)]) dX9_buyInTown_8 rfl (by decide) rfl ?_
  refine r_iload_n hg 0 dX9_buyInTown_9 rfl rfl ?_
  refine r_if_le hg 22 dX9_buyInTown_10 (by decide) (fun c4 => ?_) (fun c4 => ?_)
  · rw [if_pos c4] at h
    refine r_iconst hg dX9_buyInTown_22 ci_m1 ?_
    refine r_sub hg [1, 2, 0] rfl ?_
    exact p_X9_buyInTown_23 hΓ hg hr hX k_this _ _ _ h
  · rw [if_neg c4] at h
    refine r_aload_n hg 1 dX9_buyInTown_13 rfl rfl ?_
    refine r_iload_n hg 2 dX9_buyInTown_14 rfl rfl ?_
    refine r_iload_n hg 0 dX9_buyInTown_15 rfl rfl ?_
    obtain ⟨v5, e6, h⟩ := q_b1_some h
    refine r_cV2i hg dX9_buyInTown_16 mt_X9_townKnownCheapest ml_X9_243 mv_X9_townKnownCheapest k_this (s_X9_townKnownCheapest hΓ hX k_this e6) (q_room (Nat.le_of_ble_eq_true rfl) (Nat.le_of_ble_eq_true rfl)) ⟨Nat.zero_le _, Nat.zero_le _⟩ (Nat.le_of_ble_eq_true rfl) ?_
    refine r_goto hg 23 dX9_buyInTown_19 (by decide) ?_
    refine r_sub hg [1, 2, 0] rfl ?_
    exact p_X9_buyInTown_23 hΓ hg hr hX k_this _ _ _ h

def f_X9_buyOnDebt (this : Nat) (x1 : Int32) (x2 : Int32) (I : qI) : Option (qI) :=
  q_b1 (f_X2_lacks (this + 12) x1 I) fun v2 =>
  q_b1 (q_rd I (this + 60) 3 (nI 0)) fun v6 =>
  q_b1 (f_X9_owed this x1 I) fun v8 =>
  q_b1 (f_X8_loavesFor (this + 7) x2 (v6 - v8) I) fun v10 =>
  if 0 < (q_min v2 v10) then
    q_b1 (q_rd I (this + 24) 12 x1) fun v17 =>
    q_b1 (q_rd I (this + 30) 60 v17) fun v19 =>
    q_b1 (q_rd I (this + 9) 6 x2) fun v23 =>
    q_b1 (q_wr I (this + 30) 60 v17 (v19 + ((q_min v2 v10) * v23))) fun I25 =>
    q_b1 (f_X9_takeLoaves this x1 x2 (q_min v2 v10) I25) fun I27 =>
    some (I27)
  else
    some (I)
set_option maxRecDepth 100000 in
set_option maxHeartbeats 4000000 in
theorem s_X9_buyOnDebt {l : Launch} {Γ : qC} (hΓ : q_gm Γ) {X : qX} (hX : q_Lay X) {this : Nat} {x1 : Int32} {x2 : Int32} (k_this : q_kd X this = some (11, 14)) {I : qI} {z : qI} (h : f_X9_buyOnDebt this x1 x2 I = some z) : q_Sem l Γ (q_rm 4 0 0) yX9_buyOnDebt cX9_buyOnDebt 4 none [.ref this, .int x1, .int x2] I X (none, z, X) := by
  refine q_met (by decide) (Nat.le_of_ble_eq_true rfl) (fun g hg hr => ?_)
  unfold f_X9_buyOnDebt at h
  show g 0 0 0 [(0, .ref this), (1, .int x1), (2, .int x2)] [] I X
  refine r_aload_n hg 0 dX9_buyOnDebt_0 rfl rfl ?_
  have e1 := ly_9_2 hX k_this
  refine r_getR hg dX9_buyOnDebt_1 fl_X9_28 k_this rfl e1.1 ?_
  refine r_iload_n hg 1 dX9_buyOnDebt_4 rfl rfl ?_
  obtain ⟨v2, e3, h⟩ := q_b1_some h
  refine r_cV1i hg dX9_buyOnDebt_5 mt_X2_lacks ml_X9_193 mv_X2_lacks e1.2 (s_X2_lacks hΓ hX e1.2 e3) (q_room (Nat.le_of_ble_eq_true rfl) (Nat.le_of_ble_eq_true rfl)) ⟨Nat.zero_le _, Nat.zero_le _⟩ (Nat.le_of_ble_eq_true rfl) ?_
  refine r_aload_n hg 0 dX9_buyOnDebt_8 rfl rfl ?_
  have e4 := ly_9_1 hX k_this
  refine r_getR hg dX9_buyOnDebt_9 fl_X9_21 k_this rfl e4.1 ?_
  refine r_iload_n hg 2 dX9_buyOnDebt_12 rfl rfl ?_
  refine r_aload_n hg 0 dX9_buyOnDebt_13 rfl rfl ?_
  have e5 := ly_9_8 hX k_this
  refine r_getR hg dX9_buyOnDebt_14 fl_X9_67 k_this rfl e5.1 ?_
  refine r_iconst hg dX9_buyOnDebt_17 ci_0 ?_
  obtain ⟨v6, e7, h⟩ := q_b1_some h
  refine r_iald hg dX9_buyOnDebt_18 e5.2 e7 ?_
  refine r_aload_n hg 0 dX9_buyOnDebt_19 rfl rfl ?_
  refine r_iload_n hg 1 dX9_buyOnDebt_20 rfl rfl ?_
  obtain ⟨v8, e9, h⟩ := q_b1_some h
  refine r_cV1i hg dX9_buyOnDebt_21 mt_X9_owed ml_X9_141 mv_X9_owed k_this (s_X9_owed hΓ hX k_this e9) (q_room (Nat.le_of_ble_eq_true rfl) (Nat.le_of_ble_eq_true rfl)) ⟨Nat.zero_le _, Nat.zero_le _⟩ (Nat.le_of_ble_eq_true rfl) ?_
  refine r_isub hg dX9_buyOnDebt_24 ?_
  obtain ⟨v10, e11, h⟩ := q_b1_some h
  refine r_cV2i hg dX9_buyOnDebt_25 mt_X8_loavesFor ml_X9_230 mv_X8_loavesFor e4.2 (s_X8_loavesFor hΓ hX e4.2 e11) (q_room (Nat.le_of_ble_eq_true rfl) (Nat.le_of_ble_eq_true rfl)) ⟨Nat.zero_le _, Nat.zero_le _⟩ (Nat.le_of_ble_eq_true rfl) ?_
  refine r_minq hg dX9_buyOnDebt_28 mm_X9_233 ⟨Nat.le_of_ble_eq_true rfl, Nat.le_of_ble_eq_true rfl⟩ ⟨Nat.zero_le _, Nat.zero_le _⟩ ?_
  refine r_istore_n hg (L' := [(3, .int (q_min v2 v10)), (0, .ref this), (1, .int x1), (2, .int x2)]) dX9_buyOnDebt_31 rfl (by decide) rfl ?_
  refine r_iload_n hg 0 dX9_buyOnDebt_32 rfl rfl ?_
  refine r_if_gt hg 37 dX9_buyOnDebt_33 (by decide) (fun c12 => ?_) (fun c12 => ?_)
  · rw [if_pos c12] at h
    refine r_aload_n hg 1 dX9_buyOnDebt_37 rfl rfl ?_
    have e13 := ly_9_3 hX k_this
    refine r_getR hg dX9_buyOnDebt_38 fl_X9_35 k_this rfl e13.1 ?_
    have e14 := ly_1_2 hX e13.2
    refine r_getR hg dX9_buyOnDebt_41 fl_X9_131 e13.2 rfl e14.1 ?_
    refine r_aload_n hg 1 dX9_buyOnDebt_44 rfl rfl ?_
    have e15 := ly_9_2 hX k_this
    refine r_getR hg dX9_buyOnDebt_45 fl_X9_28 k_this rfl e15.1 ?_
    have e16 := ly_2_11 hX e15.2
    refine r_getR hg dX9_buyOnDebt_48 fl_X9_128 e15.2 rfl e16.1 ?_
    refine r_iload_n hg 2 dX9_buyOnDebt_51 rfl rfl ?_
    obtain ⟨v17, e18, h⟩ := q_b1_some h
    refine r_iald hg dX9_buyOnDebt_52 e16.2 e18 ?_
    refine r_dup2 hg dX9_buyOnDebt_53 rfl rfl ?_
    obtain ⟨v19, e20, h⟩ := q_b1_some h
    refine r_iald hg dX9_buyOnDebt_54 e14.2 e20 ?_
    refine r_iload_n hg 0 dX9_buyOnDebt_55 rfl rfl ?_
    refine r_aload_n hg 1 dX9_buyOnDebt_56 rfl rfl ?_
    have e21 := ly_9_1 hX k_this
    refine r_getR hg dX9_buyOnDebt_57 fl_X9_21 k_this rfl e21.1 ?_
    have e22 := ly_8_1 hX e21.2
    refine r_getR hg dX9_buyOnDebt_60 fl_X9_236 e21.2 rfl e22.1 ?_
    refine r_iload_n hg 3 dX9_buyOnDebt_63 rfl rfl ?_
    obtain ⟨v23, e24, h⟩ := q_b1_some h
    refine r_iald hg dX9_buyOnDebt_64 e22.2 e24 ?_
    refine r_imul hg dX9_buyOnDebt_65 ?_
    refine r_iadd hg dX9_buyOnDebt_66 ?_
    obtain ⟨I25, e26, h⟩ := q_b1_some h
    refine r_iast hg dX9_buyOnDebt_67 e14.2 e26 ?_
    refine r_aload_n hg 1 dX9_buyOnDebt_68 rfl rfl ?_
    refine r_iload_n hg 2 dX9_buyOnDebt_69 rfl rfl ?_
    refine r_iload_n hg 3 dX9_buyOnDebt_70 rfl rfl ?_
    refine r_iload_n hg 0 dX9_buyOnDebt_71 rfl rfl ?_
    obtain ⟨I27, e28, h⟩ := q_b1_some h
    refine r_cV3v hg dX9_buyOnDebt_72 mt_X9_takeLoaves ml_X9_239 mv_X9_takeLoaves k_this (s_X9_takeLoaves hΓ hX k_this e28) (q_room (Nat.le_of_ble_eq_true rfl) (Nat.le_of_ble_eq_true rfl)) ⟨Nat.zero_le _, Nat.zero_le _⟩ (Nat.le_of_ble_eq_true rfl) ?_
    exact r_return hr dX9_buyOnDebt_75 ⟨Nat.zero_le _, Nat.zero_le _⟩ rfl (by cases h; rfl)
  · rw [if_neg c12] at h
    exact r_return hr dX9_buyOnDebt_36 ⟨Nat.zero_le _, Nat.zero_le _⟩ rfl (by cases h; rfl)

def b_X9_leastStrike_44 (this : Nat) (I : qI) (k4 : Int32 → Int32 → Option (Int32)) (x1 : Int32) (x2 : Int32) : Option (Int32) :=
  k4 x1 (x2 + (nI 1))
set_option maxRecDepth 100000 in
set_option maxHeartbeats 4000000 in
theorem p_X9_leastStrike_44 {l : Launch} {Γ : qC} {g : qG} {z : Int32} {this : Nat} {X : qX} {I : qI} (hΓ : q_gm Γ) (hg : q_Ok l Γ RX9 cX9_leastStrike 3 (q_rm 4 0 0) "leastStrike" (some .int) g) (hr : q_Rt cX9_leastStrike (some .int) (q_rm 4 0 0) (some (.int z), I, X) g) (hX : q_Lay X) (k_this : q_kd X this = some (11, 14)) {k4 : Int32 → Int32 → Option (Int32)} (hk4 : ∀ (x1 : Int32) (x2 : Int32), k4 x1 x2 = some z → g 0 0 4 [(0, .ref this), (1, .int x1), (2, .int x2)] [] I X) (x1 : Int32) (x2 : Int32) (h : b_X9_leastStrike_44 this I k4 x1 x2 = some z) : g 0 0 44 [(0, .ref this), (1, .int x1), (2, .int x2)] [] I X := by
  unfold b_X9_leastStrike_44 at h
  refine r_iinc hg 2 (v := (x2 + (nI 1))) (L' := [(2, .int (x2 + (nI 1))), (0, .ref this), (1, .int x1)]) dX9_leastStrike_44 rfl (by rw [ci_1]) (by decide) rfl ?_
  refine r_goto hg 4 dX9_leastStrike_47 (by decide) ?_
  refine r_sub hg [1, 2, 0] rfl ?_
  exact hk4 _ _ h
def b_X9_leastStrike_29 (this : Nat) (I : qI) (k4 : Int32 → Int32 → Option (Int32)) (x1 : Int32) (x2 : Int32) : Option (Int32) :=
  q_b1 (f_X9_companyLasts this x2 I) fun v1 =>
  q_b1 (f_X9_menLast this x2 I) fun v3 =>
  if v3 ≤ v1 then
    b_X9_leastStrike_44 this I k4 x1 x2
  else
    b_X9_leastStrike_44 this I k4 x2 x2
set_option maxRecDepth 100000 in
set_option maxHeartbeats 4000000 in
theorem p_X9_leastStrike_29 {l : Launch} {Γ : qC} {g : qG} {z : Int32} {this : Nat} {X : qX} {I : qI} (hΓ : q_gm Γ) (hg : q_Ok l Γ RX9 cX9_leastStrike 3 (q_rm 4 0 0) "leastStrike" (some .int) g) (hr : q_Rt cX9_leastStrike (some .int) (q_rm 4 0 0) (some (.int z), I, X) g) (hX : q_Lay X) (k_this : q_kd X this = some (11, 14)) {k4 : Int32 → Int32 → Option (Int32)} (hk4 : ∀ (x1 : Int32) (x2 : Int32), k4 x1 x2 = some z → g 0 0 4 [(0, .ref this), (1, .int x1), (2, .int x2)] [] I X) (x1 : Int32) (x2 : Int32) (h : b_X9_leastStrike_29 this I k4 x1 x2 = some z) : g 0 0 29 [(0, .ref this), (1, .int x1), (2, .int x2)] [] I X := by
  unfold b_X9_leastStrike_29 at h
  refine r_aload_n hg 0 dX9_leastStrike_29 rfl rfl ?_
  refine r_iload_n hg 2 dX9_leastStrike_30 rfl rfl ?_
  obtain ⟨v1, e2, h⟩ := q_b1_some h
  refine r_cV1i hg dX9_leastStrike_31 mt_X9_companyLasts ml_X9_321 mv_X9_companyLasts k_this (s_X9_companyLasts hΓ hX k_this e2) (q_room (Nat.le_of_ble_eq_true rfl) (Nat.le_of_ble_eq_true rfl)) ⟨Nat.zero_le _, Nat.zero_le _⟩ (Nat.le_of_ble_eq_true rfl) ?_
  refine r_aload_n hg 0 dX9_leastStrike_34 rfl rfl ?_
  refine r_iload_n hg 2 dX9_leastStrike_35 rfl rfl ?_
  obtain ⟨v3, e4, h⟩ := q_b1_some h
  refine r_cV1i hg dX9_leastStrike_36 mt_X9_menLast ml_X9_324 mv_X9_menLast k_this (s_X9_menLast hΓ hX k_this e4) (q_room (Nat.le_of_ble_eq_true rfl) (Nat.le_of_ble_eq_true rfl)) ⟨Nat.zero_le _, Nat.zero_le _⟩ (Nat.le_of_ble_eq_true rfl) ?_
  refine r_icmp_ge hg 44 dX9_leastStrike_39 (by decide) (fun c5 => ?_) (fun c5 => ?_)
  · rw [if_pos c5] at h
    exact p_X9_leastStrike_44 hΓ hg hr hX k_this hk4 _ _ h
  · rw [if_neg c5] at h
    refine r_iload_n hg 2 dX9_leastStrike_42 rfl rfl ?_
    refine r_istore_n hg (L' := [(1, .int x2), (0, .ref this), (2, .int x2)]) dX9_leastStrike_43 rfl (by decide) rfl ?_
    refine r_sub hg [1, 0, 2] rfl ?_
    exact p_X9_leastStrike_44 hΓ hg hr hX k_this hk4 _ _ h
def b_X9_leastStrike_4 (this : Nat) (I : qI) (k4 : Int32 → Int32 → Option (Int32)) (x1 : Int32) (x2 : Int32) : Option (Int32) :=
  if (nI 256) ≤ x2 then
    some (x1)
  else
    if x1 = 0 then
      b_X9_leastStrike_29 this I k4 x1 x2
    else
      q_b1 (f_J6_bitCount_0f7a4 x2) fun v3 =>
      q_b1 (f_J6_bitCount_0f7a4 x1) fun v5 =>
      if v3 < v5 then
        b_X9_leastStrike_29 this I k4 x1 x2
      else
        b_X9_leastStrike_44 this I k4 x1 x2
set_option maxRecDepth 100000 in
set_option maxHeartbeats 4000000 in
theorem p_X9_leastStrike_4 {l : Launch} {Γ : qC} {g : qG} {z : Int32} {this : Nat} {X : qX} {I : qI} (hΓ : q_gm Γ) (hg : q_Ok l Γ RX9 cX9_leastStrike 3 (q_rm 4 0 0) "leastStrike" (some .int) g) (hr : q_Rt cX9_leastStrike (some .int) (q_rm 4 0 0) (some (.int z), I, X) g) (hX : q_Lay X) (k_this : q_kd X this = some (11, 14)) {k4 : Int32 → Int32 → Option (Int32)} (hk4 : ∀ (x1 : Int32) (x2 : Int32), k4 x1 x2 = some z → g 0 0 4 [(0, .ref this), (1, .int x1), (2, .int x2)] [] I X) (x1 : Int32) (x2 : Int32) (h : b_X9_leastStrike_4 this I k4 x1 x2 = some z) : g 0 0 4 [(0, .ref this), (1, .int x1), (2, .int x2)] [] I X := by
  unfold b_X9_leastStrike_4 at h
  refine r_iload_n hg 2 dX9_leastStrike_4 rfl rfl ?_
  refine r_sipush hg dX9_leastStrike_5 cs_256 ?_
  refine r_icmp_ge hg 50 dX9_leastStrike_8 (by decide) (fun c1 => ?_) (fun c1 => ?_)
  · rw [if_pos c1] at h
    refine r_iload_n hg 1 dX9_leastStrike_50 rfl rfl ?_
    exact r_ireturn hr dX9_leastStrike_51 ⟨Nat.zero_le _, Nat.zero_le _⟩ ⟨_, rfl, rfl⟩ (by cases h; rfl)
  · rw [if_neg c1] at h
    refine r_iload_n hg 1 dX9_leastStrike_11 rfl rfl ?_
    refine r_if_eq hg 29 dX9_leastStrike_12 (by decide) (fun c2 => ?_) (fun c2 => ?_)
    · rw [if_pos c2] at h
      exact p_X9_leastStrike_29 hΓ hg hr hX k_this hk4 _ _ h
    · rw [if_neg c2] at h
      refine r_iload_n hg 2 dX9_leastStrike_15 rfl rfl ?_
      obtain ⟨v3, e4, h⟩ := q_b1_some h
      refine r_cS1i hg dX9_leastStrike_16 mt_J6_bitCount_0f7a4 ⟨ml_X9_316, mst_J6_bitCount_0f7a4⟩ (s_J6_bitCount_0f7a4 hΓ hX e4) (q_room (Nat.le_of_ble_eq_true rfl) (Nat.le_of_ble_eq_true rfl)) ⟨Nat.zero_le _, Nat.zero_le _⟩ (Nat.le_of_ble_eq_true rfl) ?_
      refine r_iload_n hg 1 dX9_leastStrike_19 rfl rfl ?_
      obtain ⟨v5, e6, h⟩ := q_b1_some h
      refine r_cS1i hg dX9_leastStrike_20 mt_J6_bitCount_0f7a4 ⟨ml_X9_316, mst_J6_bitCount_0f7a4⟩ (s_J6_bitCount_0f7a4 hΓ hX e6) (q_room (Nat.le_of_ble_eq_true rfl) (Nat.le_of_ble_eq_true rfl)) ⟨Nat.zero_le _, Nat.zero_le _⟩ (Nat.le_of_ble_eq_true rfl) ?_
      refine r_icmp_lt hg 29 dX9_leastStrike_23 (by decide) (fun c7 => ?_) (fun c7 => ?_)
      · rw [if_pos c7] at h
        exact p_X9_leastStrike_29 hΓ hg hr hX k_this hk4 _ _ h
      · rw [if_neg c7] at h
        refine r_goto hg 44 dX9_leastStrike_26 (by decide) ?_
        exact p_X9_leastStrike_44 hΓ hg hr hX k_this hk4 _ _ h
theorem pl_X9_leastStrike_4 {l : Launch} {Γ : qC} {g : qG} {z : Int32} {this : Nat} {X : qX} {I : qI} (hΓ : q_gm Γ) (hg : q_Ok l Γ RX9 cX9_leastStrike 3 (q_rm 4 0 0) "leastStrike" (some .int) g) (hr : q_Rt cX9_leastStrike (some .int) (q_rm 4 0 0) (some (.int z), I, X) g) (hX : q_Lay X) (k_this : q_kd X this = some (11, 14)) : ∀ (n : Nat) (x1 : Int32) (x2 : Int32), q_fix (fun _ _ => none) (b_X9_leastStrike_4 this I) n x1 x2 = some z → g 0 0 4 [(0, .ref this), (1, .int x1), (2, .int x2)] [] I X := by
  intro n
  induction n with
  | zero =>
    intro x1 x2 h
    cases (show (none : Option (Int32)) = some z from h)
  | succ n ih =>
    intro x1 x2 h
    exact p_X9_leastStrike_4 hΓ hg hr hX k_this ih _ _ h
def f_X9_leastStrike (this : Nat) (I : qI) : Option (Int32) :=
  q_fix (fun _ _ => none) (b_X9_leastStrike_4 this I) q_fu (nI 0) (nI 1)
set_option maxRecDepth 100000 in
set_option maxHeartbeats 4000000 in
theorem s_X9_leastStrike {l : Launch} {Γ : qC} (hΓ : q_gm Γ) {X : qX} (hX : q_Lay X) {this : Nat} (k_this : q_kd X this = some (11, 14)) {I : qI} {z : Int32} (h : f_X9_leastStrike this I = some z) : q_Sem l Γ (q_rm 4 0 0) yX9_leastStrike cX9_leastStrike 3 (some .int) [.ref this] I X (some (.int z), I, X) := by
  refine q_met (by decide) (Nat.le_of_ble_eq_true rfl) (fun g hg hr => ?_)
  unfold f_X9_leastStrike at h
  show g 0 0 0 [(0, .ref this)] [] I X
  refine r_iconst hg dX9_leastStrike_0 ci_0 ?_
  refine r_istore_n hg (L' := [(1, .int (nI 0)), (0, .ref this)]) dX9_leastStrike_1 rfl (by decide) rfl ?_
  refine r_iconst hg dX9_leastStrike_2 ci_1 ?_
  refine r_istore_n hg (L' := [(2, .int (nI 1)), (1, .int (nI 0)), (0, .ref this)]) dX9_leastStrike_3 rfl (by decide) rfl ?_
  refine r_sub hg [2, 1, 0] rfl ?_
  exact pl_X9_leastStrike_4 hΓ hg hr hX k_this _ _ _ h

def f_X9_payOut (this : Nat) (x1 : Int32) (I : qI) : Option (qI) :=
  q_b1 (q_rd I (this + 24) 12 x1) fun v5 =>
  q_b1 (q_rd I (this + 30) 60 v5) fun v7 =>
  q_b1 (q_rd I (this + 61) 7 (nI 6)) fun v10 =>
  q_b1 (q_wr I (this + 30) 60 v5 (v7 - v10)) fun I12 =>
  q_b1 (q_rd I12 (this + 23) 12 x1) fun v18 =>
  q_b1 (q_wr I12 (this + 30) 60 v18 (nI 0)) fun I20 =>
  q_b1 (q_rd I20 (this + 61) 7 (nI 1)) fun v24 =>
  q_b1 (f_X2_getCoin (this + 12) x1 v24 I20) fun I26 =>
  q_b1 (q_rd I26 (this + 61) 7 (nI 2)) fun v30 =>
  q_b1 (f_X2_getChecks (this + 12) x1 v30 I26) fun I32 =>
  some (I32)
set_option maxRecDepth 100000 in
set_option maxHeartbeats 4000000 in
theorem s_X9_payOut {l : Launch} {Γ : qC} (hΓ : q_gm Γ) {X : qX} (hX : q_Lay X) {this : Nat} {x1 : Int32} (k_this : q_kd X this = some (11, 14)) {I : qI} {z : qI} (h : f_X9_payOut this x1 I = some z) : q_Sem l Γ (q_rm 4 0 0) yX9_payOut cX9_payOut 2 none [.ref this, .int x1] I X (none, z, X) := by
  refine q_met (by decide) (Nat.le_of_ble_eq_true rfl) (fun g hg hr => ?_)
  unfold f_X9_payOut at h
  show g 0 0 0 [(0, .ref this), (1, .int x1)] [] I X
  refine r_aload_n hg 0 dX9_payOut_0 rfl rfl ?_
  have e1 := ly_9_3 hX k_this
  refine r_getR hg dX9_payOut_1 fl_X9_35 k_this rfl e1.1 ?_
  have e2 := ly_1_2 hX e1.2
  refine r_getR hg dX9_payOut_4 fl_X9_131 e1.2 rfl e2.1 ?_
  refine r_aload_n hg 0 dX9_payOut_7 rfl rfl ?_
  have e3 := ly_9_2 hX k_this
  refine r_getR hg dX9_payOut_8 fl_X9_28 k_this rfl e3.1 ?_
  have e4 := ly_2_11 hX e3.2
  refine r_getR hg dX9_payOut_11 fl_X9_128 e3.2 rfl e4.1 ?_
  refine r_iload_n hg 1 dX9_payOut_14 rfl rfl ?_
  obtain ⟨v5, e6, h⟩ := q_b1_some h
  refine r_iald hg dX9_payOut_15 e4.2 e6 ?_
  refine r_dup2 hg dX9_payOut_16 rfl rfl ?_
  obtain ⟨v7, e8, h⟩ := q_b1_some h
  refine r_iald hg dX9_payOut_17 e2.2 e8 ?_
  refine r_aload_n hg 0 dX9_payOut_18 rfl rfl ?_
  have e9 := ly_9_9 hX k_this
  refine r_getR hg dX9_payOut_19 fl_X9_71 k_this rfl e9.1 ?_
  refine r_bipush hg dX9_payOut_22 cb_6 ?_
  obtain ⟨v10, e11, h⟩ := q_b1_some h
  refine r_iald hg dX9_payOut_24 e9.2 e11 ?_
  refine r_isub hg dX9_payOut_25 ?_
  obtain ⟨I12, e13, h⟩ := q_b1_some h
  refine r_iast hg dX9_payOut_26 e2.2 e13 ?_
  refine r_aload_n hg 0 dX9_payOut_27 rfl rfl ?_
  have e14 := ly_9_3 hX k_this
  refine r_getR hg dX9_payOut_28 fl_X9_35 k_this rfl e14.1 ?_
  have e15 := ly_1_2 hX e14.2
  refine r_getR hg dX9_payOut_31 fl_X9_131 e14.2 rfl e15.1 ?_
  refine r_aload_n hg 0 dX9_payOut_34 rfl rfl ?_
  have e16 := ly_9_2 hX k_this
  refine r_getR hg dX9_payOut_35 fl_X9_28 k_this rfl e16.1 ?_
  have e17 := ly_2_10 hX e16.2
  refine r_getR hg dX9_payOut_38 fl_X9_122 e16.2 rfl e17.1 ?_
  refine r_iload_n hg 1 dX9_payOut_41 rfl rfl ?_
  obtain ⟨v18, e19, h⟩ := q_b1_some h
  refine r_iald hg dX9_payOut_42 e17.2 e19 ?_
  refine r_iconst hg dX9_payOut_43 ci_0 ?_
  obtain ⟨I20, e21, h⟩ := q_b1_some h
  refine r_iast hg dX9_payOut_44 e15.2 e21 ?_
  refine r_aload_n hg 0 dX9_payOut_45 rfl rfl ?_
  have e22 := ly_9_2 hX k_this
  refine r_getR hg dX9_payOut_46 fl_X9_28 k_this rfl e22.1 ?_
  refine r_iload_n hg 1 dX9_payOut_49 rfl rfl ?_
  refine r_aload_n hg 0 dX9_payOut_50 rfl rfl ?_
  have e23 := ly_9_9 hX k_this
  refine r_getR hg dX9_payOut_51 fl_X9_71 k_this rfl e23.1 ?_
  refine r_iconst hg dX9_payOut_54 ci_1 ?_
  obtain ⟨v24, e25, h⟩ := q_b1_some h
  refine r_iald hg dX9_payOut_55 e23.2 e25 ?_
  obtain ⟨I26, e27, h⟩ := q_b1_some h
  refine r_cV2v hg dX9_payOut_56 mt_X2_getCoin ml_X9_288 mv_X2_getCoin e22.2 (s_X2_getCoin hΓ hX e22.2 e27) (q_room (Nat.le_of_ble_eq_true rfl) (Nat.le_of_ble_eq_true rfl)) ⟨Nat.zero_le _, Nat.zero_le _⟩ (Nat.le_of_ble_eq_true rfl) ?_
  refine r_aload_n hg 0 dX9_payOut_59 rfl rfl ?_
  have e28 := ly_9_2 hX k_this
  refine r_getR hg dX9_payOut_60 fl_X9_28 k_this rfl e28.1 ?_
  refine r_iload_n hg 1 dX9_payOut_63 rfl rfl ?_
  refine r_aload_n hg 0 dX9_payOut_64 rfl rfl ?_
  have e29 := ly_9_9 hX k_this
  refine r_getR hg dX9_payOut_65 fl_X9_71 k_this rfl e29.1 ?_
  refine r_iconst hg dX9_payOut_68 ci_2 ?_
  obtain ⟨v30, e31, h⟩ := q_b1_some h
  refine r_iald hg dX9_payOut_69 e29.2 e31 ?_
  obtain ⟨I32, e33, h⟩ := q_b1_some h
  refine r_cV2v hg dX9_payOut_70 mt_X2_getChecks ml_X9_291 mv_X2_getChecks e28.2 (s_X2_getChecks hΓ hX e28.2 e33) (q_room (Nat.le_of_ble_eq_true rfl) (Nat.le_of_ble_eq_true rfl)) ⟨Nat.zero_le _, Nat.zero_le _⟩ (Nat.le_of_ble_eq_true rfl) ?_
  exact r_return hr dX9_payOut_73 ⟨Nat.zero_le _, Nat.zero_le _⟩ rfl (by cases h; rfl)

def b_X9_buy_73 (this : Nat) (x1 : Int32) (k44 : Int32 → qI → Option (qI)) (x2 : Int32) (I : qI) : Option (qI) :=
  k44 (x2 + (nI 1)) I
set_option maxRecDepth 100000 in
set_option maxHeartbeats 4000000 in
theorem p_X9_buy_73 {l : Launch} {Γ : qC} {g : qG} {z : qI} {this : Nat} {x1 : Int32} {X : qX} (hΓ : q_gm Γ) (hg : q_Ok l Γ RX9 cX9_buy 3 (q_rm 5 0 0) "buy" none g) (hr : q_Rt cX9_buy none (q_rm 5 0 0) (none, z, X) g) (hX : q_Lay X) (k_this : q_kd X this = some (11, 14)) {k44 : Int32 → qI → Option (qI)} (hk44 : ∀ (x2 : Int32) (I : qI), k44 x2 I = some z → g 0 0 44 [(0, .ref this), (1, .int x1), (2, .int x2)] [] I X) (x2 : Int32) (I : qI) (h : b_X9_buy_73 this x1 k44 x2 I = some z) : g 0 0 73 [(0, .ref this), (1, .int x1), (2, .int x2)] [] I X := by
  unfold b_X9_buy_73 at h
  refine r_iinc hg 2 (v := (x2 + (nI 1))) (L' := [(2, .int (x2 + (nI 1))), (0, .ref this), (1, .int x1)]) dX9_buy_73 rfl (by rw [ci_1]) (by decide) rfl ?_
  refine r_goto hg 44 dX9_buy_76 (by decide) ?_
  refine r_sub hg [1, 2, 0] rfl ?_
  exact hk44 _ _ h
def b_X9_buy_44 (this : Nat) (x1 : Int32) (k44 : Int32 → qI → Option (qI)) (x2 : Int32) (I : qI) : Option (qI) :=
  if (I (this + 7) 4) ≤ x2 then
    some (I)
  else
    q_b1 (q_rd I (this + 8) 6 x2) fun v5 =>
    if v5 = 0 then
      q_b1 (f_X9_buyOnDebt this x1 x2 I) fun I8 =>
      b_X9_buy_73 this x1 k44 x2 I8
    else
      b_X9_buy_73 this x1 k44 x2 I
set_option maxRecDepth 100000 in
set_option maxHeartbeats 4000000 in
theorem p_X9_buy_44 {l : Launch} {Γ : qC} {g : qG} {z : qI} {this : Nat} {x1 : Int32} {X : qX} (hΓ : q_gm Γ) (hg : q_Ok l Γ RX9 cX9_buy 3 (q_rm 5 0 0) "buy" none g) (hr : q_Rt cX9_buy none (q_rm 5 0 0) (none, z, X) g) (hX : q_Lay X) (k_this : q_kd X this = some (11, 14)) {k44 : Int32 → qI → Option (qI)} (hk44 : ∀ (x2 : Int32) (I : qI), k44 x2 I = some z → g 0 0 44 [(0, .ref this), (1, .int x1), (2, .int x2)] [] I X) (x2 : Int32) (I : qI) (h : b_X9_buy_44 this x1 k44 x2 I = some z) : g 0 0 44 [(0, .ref this), (1, .int x1), (2, .int x2)] [] I X := by
  unfold b_X9_buy_44 at h
  refine r_iload_n hg 2 dX9_buy_44 rfl rfl ?_
  refine r_aload_n hg 0 dX9_buy_45 rfl rfl ?_
  have e1 := ly_9_1 hX k_this
  refine r_getR hg dX9_buy_46 fl_X9_21 k_this rfl e1.1 ?_
  refine r_getI hg dX9_buy_49 fl_X9_155 e1.2 rfl ?_
  refine r_icmp_ge hg 79 dX9_buy_52 (by decide) (fun c2 => ?_) (fun c2 => ?_)
  · rw [if_pos c2] at h
    exact r_return hr dX9_buy_79 ⟨Nat.zero_le _, Nat.zero_le _⟩ rfl (by cases h; rfl)
  · rw [if_neg c2] at h
    refine r_aload_n hg 0 dX9_buy_55 rfl rfl ?_
    have e3 := ly_9_1 hX k_this
    refine r_getR hg dX9_buy_56 fl_X9_21 k_this rfl e3.1 ?_
    have e4 := ly_8_0 hX e3.2
    refine r_getR hg dX9_buy_59 fl_X9_214 e3.2 rfl e4.1 ?_
    refine r_iload_n hg 2 dX9_buy_62 rfl rfl ?_
    obtain ⟨v5, e6, h⟩ := q_b1_some h
    refine r_iald hg dX9_buy_63 e4.2 e6 ?_
    refine r_if_ne hg 73 dX9_buy_64 (by decide) (fun c7 => ?_) (fun c7 => ?_)
    · rw [if_neg c7] at h
      exact p_X9_buy_73 hΓ hg hr hX k_this hk44 _ _ h
    · rw [if_pos (Classical.not_not.mp c7)] at h
      refine r_aload_n hg 0 dX9_buy_67 rfl rfl ?_
      refine r_iload_n hg 1 dX9_buy_68 rfl rfl ?_
      refine r_iload_n hg 2 dX9_buy_69 rfl rfl ?_
      obtain ⟨I8, e9, h⟩ := q_b1_some h
      refine r_cV2v hg dX9_buy_70 mt_X9_buyOnDebt ml_X9_224 mv_X9_buyOnDebt k_this (s_X9_buyOnDebt hΓ hX k_this e9) (q_room (Nat.le_of_ble_eq_true rfl) (Nat.le_of_ble_eq_true rfl)) ⟨Nat.zero_le _, Nat.zero_le _⟩ (Nat.le_of_ble_eq_true rfl) ?_
      exact p_X9_buy_73 hΓ hg hr hX k_this hk44 _ _ h
theorem pl_X9_buy_44 {l : Launch} {Γ : qC} {g : qG} {z : qI} {this : Nat} {x1 : Int32} {X : qX} (hΓ : q_gm Γ) (hg : q_Ok l Γ RX9 cX9_buy 3 (q_rm 5 0 0) "buy" none g) (hr : q_Rt cX9_buy none (q_rm 5 0 0) (none, z, X) g) (hX : q_Lay X) (k_this : q_kd X this = some (11, 14)) : ∀ (n : Nat) (x2 : Int32) (I : qI), q_fix (fun _ _ => none) (b_X9_buy_44 this x1) n x2 I = some z → g 0 0 44 [(0, .ref this), (1, .int x1), (2, .int x2)] [] I X := by
  intro n
  induction n with
  | zero =>
    intro x2 I h
    cases (show (none : Option (qI)) = some z from h)
  | succ n ih =>
    intro x2 I h
    exact p_X9_buy_44 hΓ hg hr hX k_this ih _ _ h
def b_X9_buy_31 (this : Nat) (x1 : Int32) (k2 : Int32 → qI → Option (qI)) (x2 : Int32) (I : qI) : Option (qI) :=
  k2 (x2 + (nI 1)) I
set_option maxRecDepth 100000 in
set_option maxHeartbeats 4000000 in
theorem p_X9_buy_31 {l : Launch} {Γ : qC} {g : qG} {z : qI} {this : Nat} {x1 : Int32} {X : qX} (hΓ : q_gm Γ) (hg : q_Ok l Γ RX9 cX9_buy 3 (q_rm 5 0 0) "buy" none g) (hr : q_Rt cX9_buy none (q_rm 5 0 0) (none, z, X) g) (hX : q_Lay X) (k_this : q_kd X this = some (11, 14)) {k2 : Int32 → qI → Option (qI)} (hk2 : ∀ (x2 : Int32) (I : qI), k2 x2 I = some z → g 0 0 2 [(0, .ref this), (1, .int x1), (2, .int x2)] [] I X) (x2 : Int32) (I : qI) (h : b_X9_buy_31 this x1 k2 x2 I = some z) : g 0 0 31 [(0, .ref this), (1, .int x1), (2, .int x2)] [] I X := by
  unfold b_X9_buy_31 at h
  refine r_iinc hg 2 (v := (x2 + (nI 1))) (L' := [(2, .int (x2 + (nI 1))), (0, .ref this), (1, .int x1)]) dX9_buy_31 rfl (by rw [ci_1]) (by decide) rfl ?_
  refine r_goto hg 2 dX9_buy_34 (by decide) ?_
  refine r_sub hg [1, 2, 0] rfl ?_
  exact hk2 _ _ h
def b_X9_buy_2 (this : Nat) (x1 : Int32) (k2 : Int32 → qI → Option (qI)) (x2 : Int32) (I : qI) : Option (qI) :=
  if (I (this + 7) 4) ≤ x2 then
    q_b1 (f_X9_buyInTown this x1 I) fun I3 =>
    q_fix (fun _ _ => none) (b_X9_buy_44 this x1) q_fu (nI 0) I3
  else
    q_b1 (q_rd I (this + 8) 6 x2) fun v7 =>
    if v7 = 0 then
      q_b1 (f_X9_buyByChecks this x1 x2 I) fun I10 =>
      b_X9_buy_31 this x1 k2 x2 I10
    else
      b_X9_buy_31 this x1 k2 x2 I
set_option maxRecDepth 100000 in
set_option maxHeartbeats 4000000 in
theorem p_X9_buy_2 {l : Launch} {Γ : qC} {g : qG} {z : qI} {this : Nat} {x1 : Int32} {X : qX} (hΓ : q_gm Γ) (hg : q_Ok l Γ RX9 cX9_buy 3 (q_rm 5 0 0) "buy" none g) (hr : q_Rt cX9_buy none (q_rm 5 0 0) (none, z, X) g) (hX : q_Lay X) (k_this : q_kd X this = some (11, 14)) {k2 : Int32 → qI → Option (qI)} (hk2 : ∀ (x2 : Int32) (I : qI), k2 x2 I = some z → g 0 0 2 [(0, .ref this), (1, .int x1), (2, .int x2)] [] I X) (x2 : Int32) (I : qI) (h : b_X9_buy_2 this x1 k2 x2 I = some z) : g 0 0 2 [(0, .ref this), (1, .int x1), (2, .int x2)] [] I X := by
  unfold b_X9_buy_2 at h
  refine r_iload_n hg 2 dX9_buy_2 rfl rfl ?_
  refine r_aload_n hg 0 dX9_buy_3 rfl rfl ?_
  have e1 := ly_9_1 hX k_this
  refine r_getR hg dX9_buy_4 fl_X9_21 k_this rfl e1.1 ?_
  refine r_getI hg dX9_buy_7 fl_X9_155 e1.2 rfl ?_
  refine r_icmp_ge hg 37 dX9_buy_10 (by decide) (fun c2 => ?_) (fun c2 => ?_)
  · rw [if_pos c2] at h
    refine r_aload_n hg 0 dX9_buy_37 rfl rfl ?_
    refine r_iload_n hg 1 dX9_buy_38 rfl rfl ?_
    obtain ⟨I3, e4, h⟩ := q_b1_some h
    refine r_cV1v hg dX9_buy_39 mt_X9_buyInTown ml_X9_221 mv_X9_buyInTown k_this (s_X9_buyInTown hΓ hX k_this e4) (q_room (Nat.le_of_ble_eq_true rfl) (Nat.le_of_ble_eq_true rfl)) ⟨Nat.zero_le _, Nat.zero_le _⟩ (Nat.le_of_ble_eq_true rfl) ?_
    refine r_iconst hg dX9_buy_42 ci_0 ?_
    refine r_istore_n hg (L' := [(2, .int (nI 0)), (0, .ref this), (1, .int x1)]) dX9_buy_43 rfl (by decide) rfl ?_
    refine r_sub hg [1, 2, 0] rfl ?_
    exact pl_X9_buy_44 hΓ hg hr hX k_this _ _ _ h
  · rw [if_neg c2] at h
    refine r_aload_n hg 0 dX9_buy_13 rfl rfl ?_
    have e5 := ly_9_1 hX k_this
    refine r_getR hg dX9_buy_14 fl_X9_21 k_this rfl e5.1 ?_
    have e6 := ly_8_0 hX e5.2
    refine r_getR hg dX9_buy_17 fl_X9_214 e5.2 rfl e6.1 ?_
    refine r_iload_n hg 2 dX9_buy_20 rfl rfl ?_
    obtain ⟨v7, e8, h⟩ := q_b1_some h
    refine r_iald hg dX9_buy_21 e6.2 e8 ?_
    refine r_if_ne hg 31 dX9_buy_22 (by decide) (fun c9 => ?_) (fun c9 => ?_)
    · rw [if_neg c9] at h
      exact p_X9_buy_31 hΓ hg hr hX k_this hk2 _ _ h
    · rw [if_pos (Classical.not_not.mp c9)] at h
      refine r_aload_n hg 0 dX9_buy_25 rfl rfl ?_
      refine r_iload_n hg 1 dX9_buy_26 rfl rfl ?_
      refine r_iload_n hg 2 dX9_buy_27 rfl rfl ?_
      obtain ⟨I10, e11, h⟩ := q_b1_some h
      refine r_cV2v hg dX9_buy_28 mt_X9_buyByChecks ml_X9_217 mv_X9_buyByChecks k_this (s_X9_buyByChecks hΓ hX k_this e11) (q_room (Nat.le_of_ble_eq_true rfl) (Nat.le_of_ble_eq_true rfl)) ⟨Nat.zero_le _, Nat.zero_le _⟩ (Nat.le_of_ble_eq_true rfl) ?_
      exact p_X9_buy_31 hΓ hg hr hX k_this hk2 _ _ h
theorem pl_X9_buy_2 {l : Launch} {Γ : qC} {g : qG} {z : qI} {this : Nat} {x1 : Int32} {X : qX} (hΓ : q_gm Γ) (hg : q_Ok l Γ RX9 cX9_buy 3 (q_rm 5 0 0) "buy" none g) (hr : q_Rt cX9_buy none (q_rm 5 0 0) (none, z, X) g) (hX : q_Lay X) (k_this : q_kd X this = some (11, 14)) : ∀ (n : Nat) (x2 : Int32) (I : qI), q_fix (fun _ _ => none) (b_X9_buy_2 this x1) n x2 I = some z → g 0 0 2 [(0, .ref this), (1, .int x1), (2, .int x2)] [] I X := by
  intro n
  induction n with
  | zero =>
    intro x2 I h
    cases (show (none : Option (qI)) = some z from h)
  | succ n ih =>
    intro x2 I h
    exact p_X9_buy_2 hΓ hg hr hX k_this ih _ _ h
def f_X9_buy (this : Nat) (x1 : Int32) (I : qI) : Option (qI) :=
  q_fix (fun _ _ => none) (b_X9_buy_2 this x1) q_fu (nI 0) I
set_option maxRecDepth 100000 in
set_option maxHeartbeats 4000000 in
theorem s_X9_buy {l : Launch} {Γ : qC} (hΓ : q_gm Γ) {X : qX} (hX : q_Lay X) {this : Nat} {x1 : Int32} (k_this : q_kd X this = some (11, 14)) {I : qI} {z : qI} (h : f_X9_buy this x1 I = some z) : q_Sem l Γ (q_rm 5 0 0) yX9_buy cX9_buy 3 none [.ref this, .int x1] I X (none, z, X) := by
  refine q_met (by decide) (Nat.le_of_ble_eq_true rfl) (fun g hg hr => ?_)
  unfold f_X9_buy at h
  show g 0 0 0 [(0, .ref this), (1, .int x1)] [] I X
  refine r_iconst hg dX9_buy_0 ci_0 ?_
  refine r_istore_n hg (L' := [(2, .int (nI 0)), (0, .ref this), (1, .int x1)]) dX9_buy_1 rfl (by decide) rfl ?_
  refine r_sub hg [1, 2, 0] rfl ?_
  exact pl_X9_buy_2 hΓ hg hr hX k_this _ _ _ h

def f_X9_dig (this : Nat) (x1 : Int32) (X : qX) (I : qI) : Option (qI) :=
  q_b1 (q_rd I (this + 13) 12 x1) fun v3 =>
  q_b1 (q_rd I (this + 14) 12 x1) fun v7 =>
  q_b1 (q_rd I (this + 2) 8 v3) fun v11 =>
  q_b1 (q_rd I (this + 3) 8 v3) fun v15 =>
  q_b2 (f_X7_given (this + 36) (nI 0) (I this 13) (((v7 * v11) * v15) / (nI 100)) v7 (nI 0) X I) fun v18 I19 =>
  q_b1 (q_rd I19 (this + 23) 12 x1) fun v25 =>
  q_b1 (q_rd I19 (this + 30) 60 v25) fun v27 =>
  q_b1 (q_wr I19 (this + 30) 60 v25 (v27 + v18)) fun I29 =>
  q_b1 (q_rd I29 (this + 21) 12 x1) fun v33 =>
  q_b2 (f_X7_given (this + 36) (nI 0) (I29 this 13) (v7 * v11) v7 (nI 0) X I29) fun v36 I37 =>
  q_b1 (q_wr I37 (this + 21) 12 x1 (v33 + (v36 - v18))) fun I39 =>
  q_b1 (q_rd I39 (this + 4) 8 v3) fun v43 =>
  q_b1 (q_wr I39 (this + 4) 8 v3 (v43 + (v7 * v11))) fun I45 =>
  q_b1 (q_rd I45 (this + 5) 8 v3) fun v49 =>
  q_b1 (q_wr I45 (this + 5) 8 v3 (v49 + (((v7 * v11) * v15) / (nI 100)))) fun I51 =>
  q_b1 (q_rd I51 (this + 6) 8 v3) fun v55 =>
  q_b1 (q_wr I51 (this + 6) 8 v3 (v55 + v7)) fun I57 =>
  some (I57)
set_option maxRecDepth 100000 in
set_option maxHeartbeats 4000000 in
theorem s_X9_dig {l : Launch} {Γ : qC} (hΓ : q_gm Γ) {X : qX} (hX : q_Lay X) {this : Nat} {x1 : Int32} (k_this : q_kd X this = some (11, 14)) {I : qI} {z : qI} (h : f_X9_dig this x1 X I = some z) : q_Sem l Γ (q_rm 5 0 0) yX9_dig cX9_dig 7 none [.ref this, .int x1] I X (none, z, X) := by
  refine q_met (by decide) (Nat.le_of_ble_eq_true rfl) (fun g hg hr => ?_)
  unfold f_X9_dig at h
  show g 0 0 0 [(0, .ref this), (1, .int x1)] [] I X
  refine r_aload_n hg 0 dX9_dig_0 rfl rfl ?_
  have e1 := ly_9_2 hX k_this
  refine r_getR hg dX9_dig_1 fl_X9_28 k_this rfl e1.1 ?_
  have e2 := ly_2_0 hX e1.2
  refine r_getR hg dX9_dig_4 fl_X9_163 e1.2 rfl e2.1 ?_
  refine r_iload_n hg 1 dX9_dig_7 rfl rfl ?_
  obtain ⟨v3, e4, h⟩ := q_b1_some h
  refine r_iald hg dX9_dig_8 e2.2 e4 ?_
  refine r_istore_n hg (L' := [(2, .int v3), (0, .ref this), (1, .int x1)]) dX9_dig_9 rfl (by decide) rfl ?_
  refine r_aload_n hg 1 dX9_dig_10 rfl rfl ?_
  have e5 := ly_9_2 hX k_this
  refine r_getR hg dX9_dig_11 fl_X9_28 k_this rfl e5.1 ?_
  have e6 := ly_2_1 hX e5.2
  refine r_getR hg dX9_dig_14 fl_X9_166 e5.2 rfl e6.1 ?_
  refine r_iload_n hg 2 dX9_dig_17 rfl rfl ?_
  obtain ⟨v7, e8, h⟩ := q_b1_some h
  refine r_iald hg dX9_dig_18 e6.2 e8 ?_
  refine r_istore_n hg (L' := [(3, .int v7), (2, .int v3), (0, .ref this), (1, .int x1)]) dX9_dig_19 rfl (by decide) rfl ?_
  refine r_iload_n hg 0 dX9_dig_20 rfl rfl ?_
  refine r_aload_n hg 2 dX9_dig_21 rfl rfl ?_
  have e9 := ly_9_0 hX k_this
  refine r_getR hg dX9_dig_22 fl_X9_12 k_this rfl e9.1 ?_
  have e10 := ly_3_0 hX e9.2
  refine r_getR hg dX9_dig_25 fl_X9_169 e9.2 rfl e10.1 ?_
  refine r_iload_n hg 1 dX9_dig_28 rfl rfl ?_
  obtain ⟨v11, e12, h⟩ := q_b1_some h
  refine r_iald hg dX9_dig_29 e10.2 e12 ?_
  refine r_imul hg dX9_dig_30 ?_
  refine r_istore hg (L' := [(4, .int (v7 * v11)), (3, .int v7), (2, .int v3), (0, .ref this), (1, .int x1)]) dX9_dig_31 (by decide) rfl ?_
  refine r_iload hg 0 dX9_dig_33 rfl ?_
  refine r_aload_n hg 3 dX9_dig_35 rfl rfl ?_
  have e13 := ly_9_0 hX k_this
  refine r_getR hg dX9_dig_36 fl_X9_12 k_this rfl e13.1 ?_
  have e14 := ly_3_1 hX e13.2
  refine r_getR hg dX9_dig_39 fl_X9_172 e13.2 rfl e14.1 ?_
  refine r_iload_n hg 2 dX9_dig_42 rfl rfl ?_
  obtain ⟨v15, e16, h⟩ := q_b1_some h
  refine r_iald hg dX9_dig_43 e14.2 e16 ?_
  refine r_imul hg dX9_dig_44 ?_
  refine r_bipush hg dX9_dig_45 cb_100 ?_
  refine r_idiv hg dX9_dig_47 nz_100 ?_
  refine r_istore hg (L' := [(5, .int (((v7 * v11) * v15) / (nI 100))), (4, .int (v7 * v11)), (3, .int v7), (2, .int v3), (0, .ref this), (1, .int x1)]) dX9_dig_48 (by decide) rfl ?_
  refine r_aload_n hg 4 dX9_dig_50 rfl rfl ?_
  have e17 := ly_9_4 hX k_this
  refine r_getR hg dX9_dig_51 fl_X9_42 k_this rfl e17.1 ?_
  refine r_iconst hg dX9_dig_54 ci_0 ?_
  refine r_aload_n hg 4 dX9_dig_55 rfl rfl ?_
  refine r_getI hg dX9_dig_56 fl_X9_83 k_this rfl ?_
  refine r_iload hg 0 dX9_dig_59 rfl ?_
  refine r_iload_n hg 2 dX9_dig_61 rfl rfl ?_
  refine r_iconst hg dX9_dig_62 ci_0 ?_
  obtain ⟨v18, I19, e20, h⟩ := q_b2_some h
  refine r_cV5i hg dX9_dig_63 mt_X7_given ml_X9_175 mv_X7_given e17.2 (s_X7_given hΓ hX e17.2 e20) (q_room (Nat.le_of_ble_eq_true rfl) (Nat.le_of_ble_eq_true rfl)) ⟨Nat.zero_le _, Nat.zero_le _⟩ (Nat.le_of_ble_eq_true rfl) ?_
  refine r_istore hg (L' := [(6, .int v18), (5, .int (((v7 * v11) * v15) / (nI 100))), (4, .int (v7 * v11)), (3, .int v7), (2, .int v3), (0, .ref this), (1, .int x1)]) dX9_dig_66 (by decide) rfl ?_
  refine r_aload_n hg 5 dX9_dig_68 rfl rfl ?_
  have e21 := ly_9_3 hX k_this
  refine r_getR hg dX9_dig_69 fl_X9_35 k_this rfl e21.1 ?_
  have e22 := ly_1_2 hX e21.2
  refine r_getR hg dX9_dig_72 fl_X9_131 e21.2 rfl e22.1 ?_
  refine r_aload_n hg 5 dX9_dig_75 rfl rfl ?_
  have e23 := ly_9_2 hX k_this
  refine r_getR hg dX9_dig_76 fl_X9_28 k_this rfl e23.1 ?_
  have e24 := ly_2_10 hX e23.2
  refine r_getR hg dX9_dig_79 fl_X9_122 e23.2 rfl e24.1 ?_
  refine r_iload_n hg 6 dX9_dig_82 rfl rfl ?_
  obtain ⟨v25, e26, h⟩ := q_b1_some h
  refine r_iald hg dX9_dig_83 e24.2 e26 ?_
  refine r_dup2 hg dX9_dig_84 rfl rfl ?_
  obtain ⟨v27, e28, h⟩ := q_b1_some h
  refine r_iald hg dX9_dig_85 e22.2 e28 ?_
  refine r_iload hg 0 dX9_dig_86 rfl ?_
  refine r_iadd hg dX9_dig_88 ?_
  obtain ⟨I29, e30, h⟩ := q_b1_some h
  refine r_iast hg dX9_dig_89 e22.2 e30 ?_
  refine r_aload_n hg 5 dX9_dig_90 rfl rfl ?_
  have e31 := ly_9_2 hX k_this
  refine r_getR hg dX9_dig_91 fl_X9_28 k_this rfl e31.1 ?_
  have e32 := ly_2_8 hX e31.2
  refine r_getR hg dX9_dig_94 fl_X9_178 e31.2 rfl e32.1 ?_
  refine r_iload_n hg 6 dX9_dig_97 rfl rfl ?_
  refine r_dup2 hg dX9_dig_98 rfl rfl ?_
  obtain ⟨v33, e34, h⟩ := q_b1_some h
  refine r_iald hg dX9_dig_99 e32.2 e34 ?_
  refine r_aload_n hg 5 dX9_dig_100 rfl rfl ?_
  have e35 := ly_9_4 hX k_this
  refine r_getR hg dX9_dig_101 fl_X9_42 k_this rfl e35.1 ?_
  refine r_iconst hg dX9_dig_104 ci_0 ?_
  refine r_aload_n hg 5 dX9_dig_105 rfl rfl ?_
  refine r_getI hg dX9_dig_106 fl_X9_83 k_this rfl ?_
  refine r_iload hg 2 dX9_dig_109 rfl ?_
  refine r_iload_n hg 3 dX9_dig_111 rfl rfl ?_
  refine r_iconst hg dX9_dig_112 ci_0 ?_
  obtain ⟨v36, I37, e38, h⟩ := q_b2_some h
  refine r_cV5i hg dX9_dig_113 mt_X7_given ml_X9_175 mv_X7_given e35.2 (s_X7_given hΓ hX e35.2 e38) (q_room (Nat.le_of_ble_eq_true rfl) (Nat.le_of_ble_eq_true rfl)) ⟨Nat.zero_le _, Nat.zero_le _⟩ (Nat.le_of_ble_eq_true rfl) ?_
  refine r_iload hg 0 dX9_dig_116 rfl ?_
  refine r_isub hg dX9_dig_118 ?_
  refine r_iadd hg dX9_dig_119 ?_
  obtain ⟨I39, e40, h⟩ := q_b1_some h
  refine r_iast hg dX9_dig_120 e32.2 e40 ?_
  refine r_aload_n hg 5 dX9_dig_121 rfl rfl ?_
  have e41 := ly_9_0 hX k_this
  refine r_getR hg dX9_dig_122 fl_X9_12 k_this rfl e41.1 ?_
  have e42 := ly_3_2 hX e41.2
  refine r_getR hg dX9_dig_125 fl_X9_181 e41.2 rfl e42.1 ?_
  refine r_iload_n hg 4 dX9_dig_128 rfl rfl ?_
  refine r_dup2 hg dX9_dig_129 rfl rfl ?_
  obtain ⟨v43, e44, h⟩ := q_b1_some h
  refine r_iald hg dX9_dig_130 e42.2 e44 ?_
  refine r_iload hg 2 dX9_dig_131 rfl ?_
  refine r_iadd hg dX9_dig_133 ?_
  obtain ⟨I45, e46, h⟩ := q_b1_some h
  refine r_iast hg dX9_dig_134 e42.2 e46 ?_
  refine r_aload_n hg 5 dX9_dig_135 rfl rfl ?_
  have e47 := ly_9_0 hX k_this
  refine r_getR hg dX9_dig_136 fl_X9_12 k_this rfl e47.1 ?_
  have e48 := ly_3_3 hX e47.2
  refine r_getR hg dX9_dig_139 fl_X9_184 e47.2 rfl e48.1 ?_
  refine r_iload_n hg 4 dX9_dig_142 rfl rfl ?_
  refine r_dup2 hg dX9_dig_143 rfl rfl ?_
  obtain ⟨v49, e50, h⟩ := q_b1_some h
  refine r_iald hg dX9_dig_144 e48.2 e50 ?_
  refine r_iload hg 1 dX9_dig_145 rfl ?_
  refine r_iadd hg dX9_dig_147 ?_
  obtain ⟨I51, e52, h⟩ := q_b1_some h
  refine r_iast hg dX9_dig_148 e48.2 e52 ?_
  refine r_aload_n hg 5 dX9_dig_149 rfl rfl ?_
  have e53 := ly_9_0 hX k_this
  refine r_getR hg dX9_dig_150 fl_X9_12 k_this rfl e53.1 ?_
  have e54 := ly_3_4 hX e53.2
  refine r_getR hg dX9_dig_153 fl_X9_187 e53.2 rfl e54.1 ?_
  refine r_iload_n hg 4 dX9_dig_156 rfl rfl ?_
  refine r_dup2 hg dX9_dig_157 rfl rfl ?_
  obtain ⟨v55, e56, h⟩ := q_b1_some h
  refine r_iald hg dX9_dig_158 e54.2 e56 ?_
  refine r_iload_n hg 3 dX9_dig_159 rfl rfl ?_
  refine r_iadd hg dX9_dig_160 ?_
  obtain ⟨I57, e58, h⟩ := q_b1_some h
  refine r_iast hg dX9_dig_161 e54.2 e58 ?_
  exact r_return hr dX9_dig_162 ⟨Nat.zero_le _, Nat.zero_le _⟩ rfl (by cases h; rfl)

def f_X9_isKept (this : Nat) (x1 : Int32) (X : qX) (I : qI) : Option (Int32 × qI) :=
  q_b1 (q_rd I (this + 20) 12 x1) fun v4 =>
  q_b1 (f_X9_owed this x1 I) fun v6 =>
  q_b2 (f_X7_given (this + 36) (nI 5) (I this 13) v4 v6 (nI 0) X I) fun v8 I9 =>
  if v8 = 0 then
    some ((nI 0), I9)
  else
    some ((nI 1), I9)
set_option maxRecDepth 100000 in
set_option maxHeartbeats 4000000 in
theorem s_X9_isKept {l : Launch} {Γ : qC} (hΓ : q_gm Γ) {X : qX} (hX : q_Lay X) {this : Nat} {x1 : Int32} (k_this : q_kd X this = some (11, 14)) {I : qI} {z : Int32 × qI} (h : f_X9_isKept this x1 X I = some z) : q_Sem l Γ (q_rm 5 0 0) yX9_isKept cX9_isKept 2 (some .boolean) [.ref this, .int x1] I X (some (.int z.1), z.2, X) := by
  refine q_met (by decide) (Nat.le_of_ble_eq_true rfl) (fun g hg hr => ?_)
  unfold f_X9_isKept at h
  show g 0 0 0 [(0, .ref this), (1, .int x1)] [] I X
  refine r_aload_n hg 0 dX9_isKept_0 rfl rfl ?_
  have e1 := ly_9_4 hX k_this
  refine r_getR hg dX9_isKept_1 fl_X9_42 k_this rfl e1.1 ?_
  refine r_iconst hg dX9_isKept_4 ci_5 ?_
  refine r_aload_n hg 0 dX9_isKept_5 rfl rfl ?_
  refine r_getI hg dX9_isKept_6 fl_X9_83 k_this rfl ?_
  refine r_aload_n hg 0 dX9_isKept_9 rfl rfl ?_
  have e2 := ly_9_2 hX k_this
  refine r_getR hg dX9_isKept_10 fl_X9_28 k_this rfl e2.1 ?_
  have e3 := ly_2_7 hX e2.2
  refine r_getR hg dX9_isKept_13 fl_X9_262 e2.2 rfl e3.1 ?_
  refine r_iload_n hg 1 dX9_isKept_16 rfl rfl ?_
  obtain ⟨v4, e5, h⟩ := q_b1_some h
  refine r_iald hg dX9_isKept_17 e3.2 e5 ?_
  refine r_aload_n hg 0 dX9_isKept_18 rfl rfl ?_
  refine r_iload_n hg 1 dX9_isKept_19 rfl rfl ?_
  obtain ⟨v6, e7, h⟩ := q_b1_some h
  refine r_cV1i hg dX9_isKept_20 mt_X9_owed ml_X9_141 mv_X9_owed k_this (s_X9_owed hΓ hX k_this e7) (q_room (Nat.le_of_ble_eq_true rfl) (Nat.le_of_ble_eq_true rfl)) ⟨Nat.zero_le _, Nat.zero_le _⟩ (Nat.le_of_ble_eq_true rfl) ?_
  refine r_iconst hg dX9_isKept_23 ci_0 ?_
  obtain ⟨v8, I9, e10, h⟩ := q_b2_some h
  refine r_cV5i hg dX9_isKept_24 mt_X7_given ml_X9_175 mv_X7_given e1.2 (s_X7_given hΓ hX e1.2 e10) (q_room (Nat.le_of_ble_eq_true rfl) (Nat.le_of_ble_eq_true rfl)) ⟨Nat.zero_le _, Nat.zero_le _⟩ (Nat.le_of_ble_eq_true rfl) ?_
  refine r_if_eq hg 34 dX9_isKept_27 (by decide) (fun c11 => ?_) (fun c11 => ?_)
  · rw [if_pos c11] at h
    refine r_iconst hg dX9_isKept_34 ci_0 ?_
    exact r_ireturn hr dX9_isKept_35 ⟨Nat.zero_le _, Nat.zero_le _⟩ ⟨_, rfl, bz_0.1⟩ (by cases h; rfl)
  · rw [if_neg c11] at h
    refine r_iconst hg dX9_isKept_30 ci_1 ?_
    refine r_goto hg 35 dX9_isKept_31 (by decide) ?_
    exact r_ireturn hr dX9_isKept_35 ⟨Nat.zero_le _, Nat.zero_le _⟩ ⟨_, rfl, bz_1.1⟩ (by cases h; rfl)

def f_X9_isWrongFine (this : Nat) (x1 : Int32) (X : qX) (I : qI) : Option (Int32 × qI) :=
  q_b1 (q_rd I (this + 28) 60 x1) fun v3 =>
  if v3 = (nI 4) then
    q_b1 (q_rd I (this + 33) 60 x1) fun v8 =>
    if v8 = (nI 1) then
      q_b1 (q_rd I (this + 30) 60 x1) fun v13 =>
      if 0 < v13 then
        q_b1 (q_rd I (this + 30) 60 x1) fun v19 =>
        q_b1 (q_rd I (this + 31) 60 x1) fun v23 =>
        q_b2 (f_X7_given (this + 36) (nI 4) (I this 13) v19 v23 (nI 0) X I) fun v25 I26 =>
        if v25 = 0 then
          some ((nI 1), I26)
        else
          some ((nI 0), I26)
      else
        some ((nI 0), I)
    else
      some ((nI 0), I)
  else
    some ((nI 0), I)
set_option maxRecDepth 100000 in
set_option maxHeartbeats 4000000 in
theorem s_X9_isWrongFine {l : Launch} {Γ : qC} (hΓ : q_gm Γ) {X : qX} (hX : q_Lay X) {this : Nat} {x1 : Int32} (k_this : q_kd X this = some (11, 14)) {I : qI} {z : Int32 × qI} (h : f_X9_isWrongFine this x1 X I = some z) : q_Sem l Γ (q_rm 5 0 0) yX9_isWrongFine cX9_isWrongFine 2 (some .boolean) [.ref this, .int x1] I X (some (.int z.1), z.2, X) := by
  refine q_met (by decide) (Nat.le_of_ble_eq_true rfl) (fun g hg hr => ?_)
  unfold f_X9_isWrongFine at h
  show g 0 0 0 [(0, .ref this), (1, .int x1)] [] I X
  refine r_aload_n hg 0 dX9_isWrongFine_0 rfl rfl ?_
  have e1 := ly_9_3 hX k_this
  refine r_getR hg dX9_isWrongFine_1 fl_X9_35 k_this rfl e1.1 ?_
  have e2 := ly_1_0 hX e1.2
  refine r_getR hg dX9_isWrongFine_4 fl_X9_304 e1.2 rfl e2.1 ?_
  refine r_iload_n hg 1 dX9_isWrongFine_7 rfl rfl ?_
  obtain ⟨v3, e4, h⟩ := q_b1_some h
  refine r_iald hg dX9_isWrongFine_8 e2.2 e4 ?_
  refine r_iconst hg dX9_isWrongFine_9 ci_4 ?_
  refine r_icmp_ne hg 38 dX9_isWrongFine_10 (by decide) (fun c5 => ?_) (fun c5 => ?_)
  · rw [if_neg c5] at h
    refine r_iconst hg dX9_isWrongFine_38 ci_0 ?_
    exact r_ireturn hr dX9_isWrongFine_39 ⟨Nat.zero_le _, Nat.zero_le _⟩ ⟨_, rfl, bz_0.1⟩ (by cases h; rfl)
  · rw [if_pos (Classical.not_not.mp c5)] at h
    refine r_aload_n hg 0 dX9_isWrongFine_13 rfl rfl ?_
    have e6 := ly_9_3 hX k_this
    refine r_getR hg dX9_isWrongFine_14 fl_X9_35 k_this rfl e6.1 ?_
    have e7 := ly_1_5 hX e6.2
    refine r_getR hg dX9_isWrongFine_17 fl_X9_301 e6.2 rfl e7.1 ?_
    refine r_iload_n hg 1 dX9_isWrongFine_20 rfl rfl ?_
    obtain ⟨v8, e9, h⟩ := q_b1_some h
    refine r_iald hg dX9_isWrongFine_21 e7.2 e9 ?_
    refine r_iconst hg dX9_isWrongFine_22 ci_1 ?_
    refine r_icmp_ne hg 38 dX9_isWrongFine_23 (by decide) (fun c10 => ?_) (fun c10 => ?_)
    · rw [if_neg c10] at h
      refine r_iconst hg dX9_isWrongFine_38 ci_0 ?_
      exact r_ireturn hr dX9_isWrongFine_39 ⟨Nat.zero_le _, Nat.zero_le _⟩ ⟨_, rfl, bz_0.1⟩ (by cases h; rfl)
    · rw [if_pos (Classical.not_not.mp c10)] at h
      refine r_aload_n hg 0 dX9_isWrongFine_26 rfl rfl ?_
      have e11 := ly_9_3 hX k_this
      refine r_getR hg dX9_isWrongFine_27 fl_X9_35 k_this rfl e11.1 ?_
      have e12 := ly_1_2 hX e11.2
      refine r_getR hg dX9_isWrongFine_30 fl_X9_131 e11.2 rfl e12.1 ?_
      refine r_iload_n hg 1 dX9_isWrongFine_33 rfl rfl ?_
      obtain ⟨v13, e14, h⟩ := q_b1_some h
      refine r_iald hg dX9_isWrongFine_34 e12.2 e14 ?_
      refine r_if_gt hg 40 dX9_isWrongFine_35 (by decide) (fun c15 => ?_) (fun c15 => ?_)
      · rw [if_pos c15] at h
        refine r_aload_n hg 0 dX9_isWrongFine_40 rfl rfl ?_
        have e16 := ly_9_4 hX k_this
        refine r_getR hg dX9_isWrongFine_41 fl_X9_42 k_this rfl e16.1 ?_
        refine r_iconst hg dX9_isWrongFine_44 ci_4 ?_
        refine r_aload_n hg 0 dX9_isWrongFine_45 rfl rfl ?_
        refine r_getI hg dX9_isWrongFine_46 fl_X9_83 k_this rfl ?_
        refine r_aload_n hg 0 dX9_isWrongFine_49 rfl rfl ?_
        have e17 := ly_9_3 hX k_this
        refine r_getR hg dX9_isWrongFine_50 fl_X9_35 k_this rfl e17.1 ?_
        have e18 := ly_1_2 hX e17.2
        refine r_getR hg dX9_isWrongFine_53 fl_X9_131 e17.2 rfl e18.1 ?_
        refine r_iload_n hg 1 dX9_isWrongFine_56 rfl rfl ?_
        obtain ⟨v19, e20, h⟩ := q_b1_some h
        refine r_iald hg dX9_isWrongFine_57 e18.2 e20 ?_
        refine r_aload_n hg 0 dX9_isWrongFine_58 rfl rfl ?_
        have e21 := ly_9_3 hX k_this
        refine r_getR hg dX9_isWrongFine_59 fl_X9_35 k_this rfl e21.1 ?_
        have e22 := ly_1_3 hX e21.2
        refine r_getR hg dX9_isWrongFine_62 fl_X9_307 e21.2 rfl e22.1 ?_
        refine r_iload_n hg 1 dX9_isWrongFine_65 rfl rfl ?_
        obtain ⟨v23, e24, h⟩ := q_b1_some h
        refine r_iald hg dX9_isWrongFine_66 e22.2 e24 ?_
        refine r_iconst hg dX9_isWrongFine_67 ci_0 ?_
        obtain ⟨v25, I26, e27, h⟩ := q_b2_some h
        refine r_cV5i hg dX9_isWrongFine_68 mt_X7_given ml_X9_175 mv_X7_given e16.2 (s_X7_given hΓ hX e16.2 e27) (q_room (Nat.le_of_ble_eq_true rfl) (Nat.le_of_ble_eq_true rfl)) ⟨Nat.zero_le _, Nat.zero_le _⟩ (Nat.le_of_ble_eq_true rfl) ?_
        refine r_if_ne hg 78 dX9_isWrongFine_71 (by decide) (fun c28 => ?_) (fun c28 => ?_)
        · rw [if_neg c28] at h
          refine r_iconst hg dX9_isWrongFine_78 ci_0 ?_
          exact r_ireturn hr dX9_isWrongFine_79 ⟨Nat.zero_le _, Nat.zero_le _⟩ ⟨_, rfl, bz_0.1⟩ (by cases h; rfl)
        · rw [if_pos (Classical.not_not.mp c28)] at h
          refine r_iconst hg dX9_isWrongFine_74 ci_1 ?_
          refine r_goto hg 79 dX9_isWrongFine_75 (by decide) ?_
          exact r_ireturn hr dX9_isWrongFine_79 ⟨Nat.zero_le _, Nat.zero_le _⟩ ⟨_, rfl, bz_1.1⟩ (by cases h; rfl)
      · rw [if_neg c15] at h
        refine r_iconst hg dX9_isWrongFine_38 ci_0 ?_
        exact r_ireturn hr dX9_isWrongFine_39 ⟨Nat.zero_le _, Nat.zero_le _⟩ ⟨_, rfl, bz_0.1⟩ (by cases h; rfl)

def b_X9_reckon_181 (this : Nat) (x1 : Int32) (x2 : Int32) (x3 : Int32) (X : qX) (x5 : Int32) (s0 : Int32) (I : qI) : Option (qI) :=
  q_b1 (q_wr I (this + 61) 7 (nI 0) x5) fun I2 =>
  q_b1 (q_wr I2 (this + 61) 7 (nI 1) (((x5.toInt64 * s0.toInt64) / (100 : Int64)).toInt32)) fun I5 =>
  q_b1 (q_rd I5 (this + 61) 7 (nI 1)) fun v9 =>
  q_b1 (q_wr I5 (this + 61) 7 (nI 2) (x5 - v9)) fun I11 =>
  if x2 = 0 then
    some (I11)
  else
    q_b1 (f_X9_payOut this x1 I11) fun I14 =>
    some (I14)
set_option maxRecDepth 100000 in
set_option maxHeartbeats 4000000 in
theorem p_X9_reckon_181 {l : Launch} {Γ : qC} {g : qG} {z : qI} {this : Nat} {x1 : Int32} {x2 : Int32} {x3 : Int32} {X : qX} (hΓ : q_gm Γ) (hg : q_Ok l Γ RX9 cX9_reckon 8 (q_rm 5 0 0) "reckon" none g) (hr : q_Rt cX9_reckon none (q_rm 5 0 0) (none, z, X) g) (hX : q_Lay X) (k_this : q_kd X this = some (11, 14)) (x5 : Int32) (s0 : Int32) (I : qI) (h : b_X9_reckon_181 this x1 x2 x3 X x5 s0 I = some z) : g 0 0 181 [(0, .ref this), (1, .int x1), (2, .int x2), (5, .int x5)] [.int s0] I X := by
  unfold b_X9_reckon_181 at h
  refine r_istore hg (L' := [(7, .int s0), (0, .ref this), (1, .int x1), (2, .int x2), (5, .int x5)]) dX9_reckon_181 (by decide) rfl ?_
  refine r_aload_n hg 1 dX9_reckon_183 rfl rfl ?_
  have e1 := ly_9_9 hX k_this
  refine r_getR hg dX9_reckon_184 fl_X9_71 k_this rfl e1.1 ?_
  refine r_iconst hg dX9_reckon_187 ci_0 ?_
  refine r_iload hg 4 dX9_reckon_188 rfl ?_
  obtain ⟨I2, e3, h⟩ := q_b1_some h
  refine r_iast hg dX9_reckon_190 e1.2 e3 ?_
  refine r_aload_n hg 1 dX9_reckon_191 rfl rfl ?_
  have e4 := ly_9_9 hX k_this
  refine r_getR hg dX9_reckon_192 fl_X9_71 k_this rfl e4.1 ?_
  refine r_iconst hg dX9_reckon_195 ci_1 ?_
  refine r_iload hg 4 dX9_reckon_196 rfl ?_
  refine r_i2l hg dX9_reckon_198 ?_
  refine r_iload hg 0 dX9_reckon_199 rfl ?_
  refine r_i2l hg dX9_reckon_201 ?_
  refine r_lmul hg dX9_reckon_202 ?_
  refine r_ldc2 hg dX9_reckon_203 kl_X9_283 ?_
  refine r_ldiv hg dX9_reckon_206 nzl_100 ?_
  refine r_l2i hg dX9_reckon_207 ?_
  obtain ⟨I5, e6, h⟩ := q_b1_some h
  refine r_iast hg dX9_reckon_208 e4.2 e6 ?_
  refine r_aload_n hg 1 dX9_reckon_209 rfl rfl ?_
  have e7 := ly_9_9 hX k_this
  refine r_getR hg dX9_reckon_210 fl_X9_71 k_this rfl e7.1 ?_
  refine r_iconst hg dX9_reckon_213 ci_2 ?_
  refine r_iload hg 4 dX9_reckon_214 rfl ?_
  refine r_aload_n hg 1 dX9_reckon_216 rfl rfl ?_
  have e8 := ly_9_9 hX k_this
  refine r_getR hg dX9_reckon_217 fl_X9_71 k_this rfl e8.1 ?_
  refine r_iconst hg dX9_reckon_220 ci_1 ?_
  obtain ⟨v9, e10, h⟩ := q_b1_some h
  refine r_iald hg dX9_reckon_221 e8.2 e10 ?_
  refine r_isub hg dX9_reckon_222 ?_
  obtain ⟨I11, e12, h⟩ := q_b1_some h
  refine r_iast hg dX9_reckon_223 e7.2 e12 ?_
  refine r_iload_n hg 3 dX9_reckon_224 rfl rfl ?_
  refine r_if_eq hg 233 dX9_reckon_225 (by decide) (fun c13 => ?_) (fun c13 => ?_)
  · rw [if_pos c13] at h
    exact r_return hr dX9_reckon_233 ⟨Nat.zero_le _, Nat.zero_le _⟩ rfl (by cases h; rfl)
  · rw [if_neg c13] at h
    refine r_aload_n hg 1 dX9_reckon_228 rfl rfl ?_
    refine r_iload_n hg 2 dX9_reckon_229 rfl rfl ?_
    obtain ⟨I14, e15, h⟩ := q_b1_some h
    refine r_cV1v hg dX9_reckon_230 mt_X9_payOut ml_X9_285 mv_X9_payOut k_this (s_X9_payOut hΓ hX k_this e15) (q_room (Nat.le_of_ble_eq_true rfl) (Nat.le_of_ble_eq_true rfl)) ⟨Nat.zero_le _, Nat.zero_le _⟩ (Nat.le_of_ble_eq_true rfl) ?_
    exact r_return hr dX9_reckon_233 ⟨Nat.zero_le _, Nat.zero_le _⟩ rfl (by cases h; rfl)
def f_X9_reckon (this : Nat) (x1 : Int32) (x2 : Int32) (x3 : Int32) (X : qX) (I : qI) : Option (qI) :=
  q_b1 (f_X9_earned this x1 I) fun v1 =>
  q_b2 (f_X1_taken (this + 27) x1 (nI 2) v1 x2 I) fun v5 I6 =>
  q_b1 (q_wr I6 (this + 61) 7 (nI 3) v5) fun I8 =>
  q_b1 (q_rd I8 (this + 61) 7 (nI 3)) fun v11 =>
  q_b2 (f_X1_taken (this + 27) x1 (nI 4) (v1 - v11) x2 I8) fun v15 I16 =>
  q_b1 (q_wr I16 (this + 61) 7 (nI 4) v15) fun I18 =>
  q_b1 (q_rd I18 (this + 61) 7 (nI 4)) fun v21 =>
  q_b2 (f_X7_given (this + 36) (nI 1) (I18 this 13) v1 (nI 0) (nI 0) X I18) fun v24 I25 =>
  q_b2 (f_X1_taken (this + 27) x1 (nI 5) (q_min ((v1 - v11) - v21) v24) x2 I25) fun v29 I30 =>
  q_b1 (q_wr I30 (this + 61) 7 (nI 5) v29) fun I32 =>
  q_b1 (q_rd I32 (this + 61) 7 (nI 5)) fun v35 =>
  q_b1 (f_X9_owed this x1 I32) fun v38 =>
  q_b1 (q_wr I32 (this + 61) 7 (nI 6) (q_min (((v1 - v11) - v21) - v35) v38)) fun I40 =>
  q_b1 (q_rd I40 (this + 61) 7 (nI 6)) fun v43 =>
  if x3 = 0 then
    q_b2 (f_X7_given (this + 36) (nI 3) (I40 this 13) ((((v1 - v11) - v21) - v35) - v43) ((I40 this 13) / (nI 7)) (nI 0) X I40) fun v47 I48 =>
    b_X9_reckon_181 this x1 x2 x3 X ((((v1 - v11) - v21) - v35) - v43) v47 I48
  else
    b_X9_reckon_181 this x1 x2 x3 X ((((v1 - v11) - v21) - v35) - v43) (nI 100) I40
set_option maxRecDepth 100000 in
set_option maxHeartbeats 4000000 in
theorem s_X9_reckon {l : Launch} {Γ : qC} (hΓ : q_gm Γ) {X : qX} (hX : q_Lay X) {this : Nat} {x1 : Int32} {x2 : Int32} {x3 : Int32} (k_this : q_kd X this = some (11, 14)) {I : qI} {z : qI} (h : f_X9_reckon this x1 x2 x3 X I = some z) : q_Sem l Γ (q_rm 5 0 0) yX9_reckon cX9_reckon 8 none [.ref this, .int x1, .int x2, .int x3] I X (none, z, X) := by
  refine q_met (by decide) (Nat.le_of_ble_eq_true rfl) (fun g hg hr => ?_)
  unfold f_X9_reckon at h
  show g 0 0 0 [(0, .ref this), (1, .int x1), (2, .int x2), (3, .int x3)] [] I X
  refine r_aload_n hg 0 dX9_reckon_0 rfl rfl ?_
  refine r_iload_n hg 1 dX9_reckon_1 rfl rfl ?_
  obtain ⟨v1, e2, h⟩ := q_b1_some h
  refine r_cV1i hg dX9_reckon_2 mt_X9_earned ml_X9_137 mv_X9_earned k_this (s_X9_earned hΓ hX k_this e2) (q_room (Nat.le_of_ble_eq_true rfl) (Nat.le_of_ble_eq_true rfl)) ⟨Nat.zero_le _, Nat.zero_le _⟩ (Nat.le_of_ble_eq_true rfl) ?_
  refine r_istore hg (L' := [(4, .int v1), (0, .ref this), (1, .int x1), (2, .int x2), (3, .int x3)]) dX9_reckon_5 (by decide) rfl ?_
  refine r_iload hg 0 dX9_reckon_7 rfl ?_
  refine r_istore hg (L' := [(5, .int v1), (4, .int v1), (0, .ref this), (1, .int x1), (2, .int x2), (3, .int x3)]) dX9_reckon_9 (by decide) rfl ?_
  refine r_aload_n hg 2 dX9_reckon_11 rfl rfl ?_
  have e3 := ly_9_9 hX k_this
  refine r_getR hg dX9_reckon_12 fl_X9_71 k_this rfl e3.1 ?_
  refine r_iconst hg dX9_reckon_15 ci_3 ?_
  refine r_aload_n hg 2 dX9_reckon_16 rfl rfl ?_
  have e4 := ly_9_3 hX k_this
  refine r_getR hg dX9_reckon_17 fl_X9_35 k_this rfl e4.1 ?_
  refine r_iload_n hg 3 dX9_reckon_20 rfl rfl ?_
  refine r_iconst hg dX9_reckon_21 ci_2 ?_
  refine r_iload hg 0 dX9_reckon_22 rfl ?_
  refine r_iload_n hg 4 dX9_reckon_24 rfl rfl ?_
  obtain ⟨v5, I6, e7, h⟩ := q_b2_some h
  refine r_cV4i hg dX9_reckon_25 mt_X1_taken ml_X9_279 mv_X1_taken e4.2 (s_X1_taken hΓ hX e4.2 e7) (q_room (Nat.le_of_ble_eq_true rfl) (Nat.le_of_ble_eq_true rfl)) ⟨Nat.zero_le _, Nat.zero_le _⟩ (Nat.le_of_ble_eq_true rfl) ?_
  obtain ⟨I8, e9, h⟩ := q_b1_some h
  refine r_iast hg dX9_reckon_28 e3.2 e9 ?_
  refine r_iload hg 0 dX9_reckon_29 rfl ?_
  refine r_aload_n hg 2 dX9_reckon_31 rfl rfl ?_
  have e10 := ly_9_9 hX k_this
  refine r_getR hg dX9_reckon_32 fl_X9_71 k_this rfl e10.1 ?_
  refine r_iconst hg dX9_reckon_35 ci_3 ?_
  obtain ⟨v11, e12, h⟩ := q_b1_some h
  refine r_iald hg dX9_reckon_36 e10.2 e12 ?_
  refine r_isub hg dX9_reckon_37 ?_
  refine r_istore hg (L' := [(5, .int (v1 - v11)), (4, .int v1), (0, .ref this), (1, .int x1), (2, .int x2), (3, .int x3)]) dX9_reckon_38 (by decide) rfl ?_
  refine r_aload_n hg 2 dX9_reckon_40 rfl rfl ?_
  have e13 := ly_9_9 hX k_this
  refine r_getR hg dX9_reckon_41 fl_X9_71 k_this rfl e13.1 ?_
  refine r_iconst hg dX9_reckon_44 ci_4 ?_
  refine r_aload_n hg 2 dX9_reckon_45 rfl rfl ?_
  have e14 := ly_9_3 hX k_this
  refine r_getR hg dX9_reckon_46 fl_X9_35 k_this rfl e14.1 ?_
  refine r_iload_n hg 3 dX9_reckon_49 rfl rfl ?_
  refine r_iconst hg dX9_reckon_50 ci_4 ?_
  refine r_iload hg 0 dX9_reckon_51 rfl ?_
  refine r_iload_n hg 4 dX9_reckon_53 rfl rfl ?_
  obtain ⟨v15, I16, e17, h⟩ := q_b2_some h
  refine r_cV4i hg dX9_reckon_54 mt_X1_taken ml_X9_279 mv_X1_taken e14.2 (s_X1_taken hΓ hX e14.2 e17) (q_room (Nat.le_of_ble_eq_true rfl) (Nat.le_of_ble_eq_true rfl)) ⟨Nat.zero_le _, Nat.zero_le _⟩ (Nat.le_of_ble_eq_true rfl) ?_
  obtain ⟨I18, e19, h⟩ := q_b1_some h
  refine r_iast hg dX9_reckon_57 e13.2 e19 ?_
  refine r_iload hg 0 dX9_reckon_58 rfl ?_
  refine r_aload_n hg 2 dX9_reckon_60 rfl rfl ?_
  have e20 := ly_9_9 hX k_this
  refine r_getR hg dX9_reckon_61 fl_X9_71 k_this rfl e20.1 ?_
  refine r_iconst hg dX9_reckon_64 ci_4 ?_
  obtain ⟨v21, e22, h⟩ := q_b1_some h
  refine r_iald hg dX9_reckon_65 e20.2 e22 ?_
  refine r_isub hg dX9_reckon_66 ?_
  refine r_istore hg (L' := [(5, .int ((v1 - v11) - v21)), (4, .int v1), (0, .ref this), (1, .int x1), (2, .int x2), (3, .int x3)]) dX9_reckon_67 (by decide) rfl ?_
  refine r_iload hg 0 dX9_reckon_69 rfl ?_
  refine r_aload_n hg 2 dX9_reckon_71 rfl rfl ?_
  have e23 := ly_9_4 hX k_this
  refine r_getR hg dX9_reckon_72 fl_X9_42 k_this rfl e23.1 ?_
  refine r_iconst hg dX9_reckon_75 ci_1 ?_
  refine r_aload_n hg 2 dX9_reckon_76 rfl rfl ?_
  refine r_getI hg dX9_reckon_77 fl_X9_83 k_this rfl ?_
  refine r_iload hg 1 dX9_reckon_80 rfl ?_
  refine r_iconst hg dX9_reckon_82 ci_0 ?_
  refine r_iconst hg dX9_reckon_83 ci_0 ?_
  obtain ⟨v24, I25, e26, h⟩ := q_b2_some h
  refine r_cV5i hg dX9_reckon_84 mt_X7_given ml_X9_175 mv_X7_given e23.2 (s_X7_given hΓ hX e23.2 e26) (q_room (Nat.le_of_ble_eq_true rfl) (Nat.le_of_ble_eq_true rfl)) ⟨Nat.zero_le _, Nat.zero_le _⟩ (Nat.le_of_ble_eq_true rfl) ?_
  refine r_minq hg dX9_reckon_87 mm_X9_233 ⟨Nat.le_of_ble_eq_true rfl, Nat.le_of_ble_eq_true rfl⟩ ⟨Nat.zero_le _, Nat.zero_le _⟩ ?_
  refine r_istore hg (L' := [(6, .int (q_min ((v1 - v11) - v21) v24)), (5, .int ((v1 - v11) - v21)), (4, .int v1), (0, .ref this), (1, .int x1), (2, .int x2), (3, .int x3)]) dX9_reckon_90 (by decide) rfl ?_
  refine r_aload_n hg 3 dX9_reckon_92 rfl rfl ?_
  have e27 := ly_9_9 hX k_this
  refine r_getR hg dX9_reckon_93 fl_X9_71 k_this rfl e27.1 ?_
  refine r_iconst hg dX9_reckon_96 ci_5 ?_
  refine r_aload_n hg 3 dX9_reckon_97 rfl rfl ?_
  have e28 := ly_9_3 hX k_this
  refine r_getR hg dX9_reckon_98 fl_X9_35 k_this rfl e28.1 ?_
  refine r_iload_n hg 4 dX9_reckon_101 rfl rfl ?_
  refine r_iconst hg dX9_reckon_102 ci_5 ?_
  refine r_iload hg 0 dX9_reckon_103 rfl ?_
  refine r_iload_n hg 5 dX9_reckon_105 rfl rfl ?_
  obtain ⟨v29, I30, e31, h⟩ := q_b2_some h
  refine r_cV4i hg dX9_reckon_106 mt_X1_taken ml_X9_279 mv_X1_taken e28.2 (s_X1_taken hΓ hX e28.2 e31) (q_room (Nat.le_of_ble_eq_true rfl) (Nat.le_of_ble_eq_true rfl)) ⟨Nat.zero_le _, Nat.zero_le _⟩ (Nat.le_of_ble_eq_true rfl) ?_
  obtain ⟨I32, e33, h⟩ := q_b1_some h
  refine r_iast hg dX9_reckon_109 e27.2 e33 ?_
  refine r_iload hg 1 dX9_reckon_110 rfl ?_
  refine r_aload_n hg 3 dX9_reckon_112 rfl rfl ?_
  have e34 := ly_9_9 hX k_this
  refine r_getR hg dX9_reckon_113 fl_X9_71 k_this rfl e34.1 ?_
  refine r_iconst hg dX9_reckon_116 ci_5 ?_
  obtain ⟨v35, e36, h⟩ := q_b1_some h
  refine r_iald hg dX9_reckon_117 e34.2 e36 ?_
  refine r_isub hg dX9_reckon_118 ?_
  refine r_istore hg (L' := [(5, .int (((v1 - v11) - v21) - v35)), (6, .int (q_min ((v1 - v11) - v21) v24)), (4, .int v1), (0, .ref this), (1, .int x1), (2, .int x2), (3, .int x3)]) dX9_reckon_119 (by decide) rfl ?_
  refine r_aload_n hg 3 dX9_reckon_121 rfl rfl ?_
  have e37 := ly_9_9 hX k_this
  refine r_getR hg dX9_reckon_122 fl_X9_71 k_this rfl e37.1 ?_
  refine r_bipush hg dX9_reckon_125 cb_6 ?_
  refine r_iload hg 0 dX9_reckon_127 rfl ?_
  refine r_aload_n hg 3 dX9_reckon_129 rfl rfl ?_
  refine r_iload_n hg 4 dX9_reckon_130 rfl rfl ?_
  obtain ⟨v38, e39, h⟩ := q_b1_some h
  refine r_cV1i hg dX9_reckon_131 mt_X9_owed ml_X9_141 mv_X9_owed k_this (s_X9_owed hΓ hX k_this e39) (q_room (Nat.le_of_ble_eq_true rfl) (Nat.le_of_ble_eq_true rfl)) ⟨Nat.zero_le _, Nat.zero_le _⟩ (Nat.le_of_ble_eq_true rfl) ?_
  refine r_minq hg dX9_reckon_134 mm_X9_233 ⟨Nat.le_of_ble_eq_true rfl, Nat.le_of_ble_eq_true rfl⟩ ⟨Nat.zero_le _, Nat.zero_le _⟩ ?_
  obtain ⟨I40, e41, h⟩ := q_b1_some h
  refine r_iast hg dX9_reckon_137 e37.2 e41 ?_
  refine r_iload hg 0 dX9_reckon_138 rfl ?_
  refine r_aload_n hg 3 dX9_reckon_140 rfl rfl ?_
  have e42 := ly_9_9 hX k_this
  refine r_getR hg dX9_reckon_141 fl_X9_71 k_this rfl e42.1 ?_
  refine r_bipush hg dX9_reckon_144 cb_6 ?_
  obtain ⟨v43, e44, h⟩ := q_b1_some h
  refine r_iald hg dX9_reckon_146 e42.2 e44 ?_
  refine r_isub hg dX9_reckon_147 ?_
  refine r_istore hg (L' := [(5, .int ((((v1 - v11) - v21) - v35) - v43)), (6, .int (q_min ((v1 - v11) - v21) v24)), (4, .int v1), (0, .ref this), (1, .int x1), (2, .int x2), (3, .int x3)]) dX9_reckon_148 (by decide) rfl ?_
  refine r_iload_n hg 6 dX9_reckon_150 rfl rfl ?_
  refine r_if_eq hg 159 dX9_reckon_151 (by decide) (fun c45 => ?_) (fun c45 => ?_)
  · rw [if_pos c45] at h
    refine r_aload_n hg 3 dX9_reckon_159 rfl rfl ?_
    have e46 := ly_9_4 hX k_this
    refine r_getR hg dX9_reckon_160 fl_X9_42 k_this rfl e46.1 ?_
    refine r_iconst hg dX9_reckon_163 ci_3 ?_
    refine r_aload_n hg 3 dX9_reckon_164 rfl rfl ?_
    refine r_getI hg dX9_reckon_165 fl_X9_83 k_this rfl ?_
    refine r_iload hg 0 dX9_reckon_168 rfl ?_
    refine r_aload_n hg 3 dX9_reckon_170 rfl rfl ?_
    refine r_getI hg dX9_reckon_171 fl_X9_83 k_this rfl ?_
    refine r_bipush hg dX9_reckon_174 cb_7 ?_
    refine r_idiv hg dX9_reckon_176 nz_7 ?_
    refine r_iconst hg dX9_reckon_177 ci_0 ?_
    obtain ⟨v47, I48, e49, h⟩ := q_b2_some h
    refine r_cV5i hg dX9_reckon_178 mt_X7_given ml_X9_175 mv_X7_given e46.2 (s_X7_given hΓ hX e46.2 e49) (q_room (Nat.le_of_ble_eq_true rfl) (Nat.le_of_ble_eq_true rfl)) ⟨Nat.zero_le _, Nat.zero_le _⟩ (Nat.le_of_ble_eq_true rfl) ?_
    refine r_sub hg [3, 4, 5, 0] rfl ?_
    exact p_X9_reckon_181 hΓ hg hr hX k_this _ _ _ h
  · rw [if_neg c45] at h
    refine r_bipush hg dX9_reckon_154 cb_100 ?_
    refine r_goto hg 181 dX9_reckon_156 (by decide) ?_
    refine r_sub hg [3, 4, 5, 0] rfl ?_
    exact p_X9_reckon_181 hΓ hg hr hX k_this _ _ _ h

def b_X9_eat_114 (this : Nat) (x1 : Int32) (s2 : Int32) (I : qI) : Option (qI) :=
  q_b1 (q_wr I (this + 19) 12 x1 s2) fun I3 =>
  q_b1 (q_rd I3 (this + 19) 12 x1) fun v7 =>
  if v7 < (nI 9) then
    some (I3)
  else
    q_b1 (q_wr I3 (this + 22) 12 x1 (nI 1)) fun I12 =>
    some (I12)
set_option maxRecDepth 100000 in
set_option maxHeartbeats 4000000 in
theorem p_X9_eat_114 {l : Launch} {Γ : qC} {g : qG} {z : qI} {this : Nat} {x1 : Int32} {X : qX} (hΓ : q_gm Γ) (hg : q_Ok l Γ RX9 cX9_eat 4 (q_rm 6 0 0) "eat" none g) (hr : q_Rt cX9_eat none (q_rm 6 0 0) (none, z, X) g) (hX : q_Lay X) (k_this : q_kd X this = some (11, 14)) (s2 : Int32) (I : qI) (h : b_X9_eat_114 this x1 s2 I = some z) : g 0 0 114 [(0, .ref this), (1, .int x1)] [.int s2, .int x1, .ref (this + 19)] I X := by
  unfold b_X9_eat_114 at h
  have e1 := ly_9_2 hX k_this
  have e2 := ly_2_6 hX e1.2
  obtain ⟨I3, e4, h⟩ := q_b1_some h
  refine r_iast hg dX9_eat_114 e2.2 e4 ?_
  refine r_aload_n hg 0 dX9_eat_115 rfl rfl ?_
  have e5 := ly_9_2 hX k_this
  refine r_getR hg dX9_eat_116 fl_X9_28 k_this rfl e5.1 ?_
  have e6 := ly_2_6 hX e5.2
  refine r_getR hg dX9_eat_119 fl_X9_202 e5.2 rfl e6.1 ?_
  refine r_iload_n hg 1 dX9_eat_122 rfl rfl ?_
  obtain ⟨v7, e8, h⟩ := q_b1_some h
  refine r_iald hg dX9_eat_123 e6.2 e8 ?_
  refine r_bipush hg dX9_eat_124 cb_9 ?_
  refine r_icmp_lt hg 139 dX9_eat_126 (by decide) (fun c9 => ?_) (fun c9 => ?_)
  · rw [if_pos c9] at h
    exact r_return hr dX9_eat_139 ⟨Nat.zero_le _, Nat.zero_le _⟩ rfl (by cases h; rfl)
  · rw [if_neg c9] at h
    refine r_aload_n hg 0 dX9_eat_129 rfl rfl ?_
    have e10 := ly_9_2 hX k_this
    refine r_getR hg dX9_eat_130 fl_X9_28 k_this rfl e10.1 ?_
    have e11 := ly_2_9 hX e10.2
    refine r_getR hg dX9_eat_133 fl_X9_211 e10.2 rfl e11.1 ?_
    refine r_iload_n hg 1 dX9_eat_136 rfl rfl ?_
    refine r_iconst hg dX9_eat_137 ci_1 ?_
    obtain ⟨I12, e13, h⟩ := q_b1_some h
    refine r_iast hg dX9_eat_138 e11.2 e13 ?_
    exact r_return hr dX9_eat_139 ⟨Nat.zero_le _, Nat.zero_le _⟩ rfl (by cases h; rfl)
def b_X9_eat_72 (this : Nat) (x1 : Int32) (x3 : Int32) (s2 : Int32) (I : qI) : Option (qI) :=
  q_b1 (q_wr I (this + 16) 12 x1 s2) fun I3 =>
  if x3 = 0 then
    q_b1 (q_rd I3 (this + 19) 12 x1) fun v10 =>
    b_X9_eat_114 this x1 (q_max (nI 0) (v10 - (nI 1))) I3
  else
    q_b1 (q_rd I3 (this + 19) 12 x1) fun v14 =>
    b_X9_eat_114 this x1 (v14 + (nI 1)) I3
set_option maxRecDepth 100000 in
set_option maxHeartbeats 4000000 in
theorem p_X9_eat_72 {l : Launch} {Γ : qC} {g : qG} {z : qI} {this : Nat} {x1 : Int32} {X : qX} (hΓ : q_gm Γ) (hg : q_Ok l Γ RX9 cX9_eat 4 (q_rm 6 0 0) "eat" none g) (hr : q_Rt cX9_eat none (q_rm 6 0 0) (none, z, X) g) (hX : q_Lay X) (k_this : q_kd X this = some (11, 14)) (x3 : Int32) (s2 : Int32) (I : qI) (h : b_X9_eat_72 this x1 x3 s2 I = some z) : g 0 0 72 [(0, .ref this), (1, .int x1), (3, .int x3)] [.int s2, .int x1, .ref (this + 16)] I X := by
  unfold b_X9_eat_72 at h
  have e1 := ly_9_2 hX k_this
  have e2 := ly_2_3 hX e1.2
  obtain ⟨I3, e4, h⟩ := q_b1_some h
  refine r_iast hg dX9_eat_72 e2.2 e4 ?_
  refine r_aload_n hg 0 dX9_eat_73 rfl rfl ?_
  have e5 := ly_9_2 hX k_this
  refine r_getR hg dX9_eat_74 fl_X9_28 k_this rfl e5.1 ?_
  have e6 := ly_2_6 hX e5.2
  refine r_getR hg dX9_eat_77 fl_X9_202 e5.2 rfl e6.1 ?_
  refine r_iload_n hg 1 dX9_eat_80 rfl rfl ?_
  refine r_iload_n hg 2 dX9_eat_81 rfl rfl ?_
  refine r_if_eq hg 99 dX9_eat_82 (by decide) (fun c7 => ?_) (fun c7 => ?_)
  · rw [if_pos c7] at h
    refine r_iconst hg dX9_eat_99 ci_0 ?_
    refine r_aload_n hg 0 dX9_eat_100 rfl rfl ?_
    have e8 := ly_9_2 hX k_this
    refine r_getR hg dX9_eat_101 fl_X9_28 k_this rfl e8.1 ?_
    have e9 := ly_2_6 hX e8.2
    refine r_getR hg dX9_eat_104 fl_X9_202 e8.2 rfl e9.1 ?_
    refine r_iload_n hg 1 dX9_eat_107 rfl rfl ?_
    obtain ⟨v10, e11, h⟩ := q_b1_some h
    refine r_iald hg dX9_eat_108 e9.2 e11 ?_
    refine r_iconst hg dX9_eat_109 ci_1 ?_
    refine r_isub hg dX9_eat_110 ?_
    refine r_maxq hg dX9_eat_111 mm_X9_205 ⟨Nat.le_of_ble_eq_true rfl, Nat.le_of_ble_eq_true rfl⟩ ⟨Nat.zero_le _, Nat.zero_le _⟩ ?_
    refine r_sub hg [0, 1] rfl ?_
    exact p_X9_eat_114 hΓ hg hr hX k_this _ _ h
  · rw [if_neg c7] at h
    refine r_aload_n hg 0 dX9_eat_85 rfl rfl ?_
    have e12 := ly_9_2 hX k_this
    refine r_getR hg dX9_eat_86 fl_X9_28 k_this rfl e12.1 ?_
    have e13 := ly_2_6 hX e12.2
    refine r_getR hg dX9_eat_89 fl_X9_202 e12.2 rfl e13.1 ?_
    refine r_iload_n hg 1 dX9_eat_92 rfl rfl ?_
    obtain ⟨v14, e15, h⟩ := q_b1_some h
    refine r_iald hg dX9_eat_93 e13.2 e15 ?_
    refine r_iconst hg dX9_eat_94 ci_1 ?_
    refine r_iadd hg dX9_eat_95 ?_
    refine r_goto hg 114 dX9_eat_96 (by decide) ?_
    refine r_sub hg [0, 1] rfl ?_
    exact p_X9_eat_114 hΓ hg hr hX k_this _ _ h
def b_X9_eat_44 (this : Nat) (x1 : Int32) (x2 : Int32) (s0 : Int32) (I : qI) : Option (qI) :=
  if s0 = 0 then
    q_b1 (q_rd I (this + 16) 12 x1) fun v6 =>
    b_X9_eat_72 this x1 s0 (v6 - x2) I
  else
    b_X9_eat_72 this x1 s0 (nI 0) I
set_option maxRecDepth 100000 in
set_option maxHeartbeats 4000000 in
theorem p_X9_eat_44 {l : Launch} {Γ : qC} {g : qG} {z : qI} {this : Nat} {x1 : Int32} {X : qX} (hΓ : q_gm Γ) (hg : q_Ok l Γ RX9 cX9_eat 4 (q_rm 6 0 0) "eat" none g) (hr : q_Rt cX9_eat none (q_rm 6 0 0) (none, z, X) g) (hX : q_Lay X) (k_this : q_kd X this = some (11, 14)) (x2 : Int32) (s0 : Int32) (I : qI) (h : b_X9_eat_44 this x1 x2 s0 I = some z) : g 0 0 44 [(0, .ref this), (1, .int x1), (2, .int x2)] [.int s0] I X := by
  unfold b_X9_eat_44 at h
  refine r_istore_n hg (L' := [(3, .int s0), (0, .ref this), (1, .int x1), (2, .int x2)]) dX9_eat_44 rfl (by decide) rfl ?_
  refine r_aload_n hg 1 dX9_eat_45 rfl rfl ?_
  have e1 := ly_9_2 hX k_this
  refine r_getR hg dX9_eat_46 fl_X9_28 k_this rfl e1.1 ?_
  have e2 := ly_2_3 hX e1.2
  refine r_getR hg dX9_eat_49 fl_X9_199 e1.2 rfl e2.1 ?_
  refine r_iload_n hg 2 dX9_eat_52 rfl rfl ?_
  refine r_iload_n hg 0 dX9_eat_53 rfl rfl ?_
  refine r_if_eq hg 61 dX9_eat_54 (by decide) (fun c3 => ?_) (fun c3 => ?_)
  · rw [if_pos c3] at h
    refine r_aload_n hg 1 dX9_eat_61 rfl rfl ?_
    have e4 := ly_9_2 hX k_this
    refine r_getR hg dX9_eat_62 fl_X9_28 k_this rfl e4.1 ?_
    have e5 := ly_2_3 hX e4.2
    refine r_getR hg dX9_eat_65 fl_X9_199 e4.2 rfl e5.1 ?_
    refine r_iload_n hg 2 dX9_eat_68 rfl rfl ?_
    obtain ⟨v6, e7, h⟩ := q_b1_some h
    refine r_iald hg dX9_eat_69 e5.2 e7 ?_
    refine r_iload_n hg 3 dX9_eat_70 rfl rfl ?_
    refine r_isub hg dX9_eat_71 ?_
    refine r_sub hg [1, 2, 0] rfl ?_
    exact p_X9_eat_72 hΓ hg hr hX k_this _ _ _ h
  · rw [if_neg c3] at h
    refine r_iconst hg dX9_eat_57 ci_0 ?_
    refine r_goto hg 72 dX9_eat_58 (by decide) ?_
    refine r_sub hg [1, 2, 0] rfl ?_
    exact p_X9_eat_72 hΓ hg hr hX k_this _ _ _ h
def b_X9_eat_26 (this : Nat) (x1 : Int32) (x2 : Int32) (I : qI) : Option (qI) :=
  q_b1 (q_rd I (this + 16) 12 x1) fun v3 =>
  if x2 ≤ v3 then
    b_X9_eat_44 this x1 x2 (nI 0) I
  else
    b_X9_eat_44 this x1 x2 (nI 1) I
set_option maxRecDepth 100000 in
set_option maxHeartbeats 4000000 in
theorem p_X9_eat_26 {l : Launch} {Γ : qC} {g : qG} {z : qI} {this : Nat} {x1 : Int32} {X : qX} (hΓ : q_gm Γ) (hg : q_Ok l Γ RX9 cX9_eat 4 (q_rm 6 0 0) "eat" none g) (hr : q_Rt cX9_eat none (q_rm 6 0 0) (none, z, X) g) (hX : q_Lay X) (k_this : q_kd X this = some (11, 14)) (x2 : Int32) (I : qI) (h : b_X9_eat_26 this x1 x2 I = some z) : g 0 0 26 [(0, .ref this), (1, .int x1), (2, .int x2)] [] I X := by
  unfold b_X9_eat_26 at h
  refine r_aload_n hg 0 dX9_eat_26 rfl rfl ?_
  have e1 := ly_9_2 hX k_this
  refine r_getR hg dX9_eat_27 fl_X9_28 k_this rfl e1.1 ?_
  have e2 := ly_2_3 hX e1.2
  refine r_getR hg dX9_eat_30 fl_X9_199 e1.2 rfl e2.1 ?_
  refine r_iload_n hg 1 dX9_eat_33 rfl rfl ?_
  obtain ⟨v3, e4, h⟩ := q_b1_some h
  refine r_iald hg dX9_eat_34 e2.2 e4 ?_
  refine r_iload_n hg 2 dX9_eat_35 rfl rfl ?_
  refine r_icmp_ge hg 43 dX9_eat_36 (by decide) (fun c5 => ?_) (fun c5 => ?_)
  · rw [if_pos c5] at h
    refine r_iconst hg dX9_eat_43 ci_0 ?_
    exact p_X9_eat_44 hΓ hg hr hX k_this _ _ _ h
  · rw [if_neg c5] at h
    refine r_iconst hg dX9_eat_39 ci_1 ?_
    refine r_goto hg 44 dX9_eat_40 (by decide) ?_
    exact p_X9_eat_44 hΓ hg hr hX k_this _ _ _ h
def f_X9_eat (this : Nat) (x1 : Int32) (I : qI) : Option (qI) :=
  q_b1 (q_rd I (this + 15) 12 x1) fun v3 =>
  q_b1 (f_X2_lacks (this + 12) x1 I) fun v6 =>
  if v6 ≤ 0 then
    b_X9_eat_26 this x1 v3 I
  else
    q_b1 (f_X9_buy this x1 I) fun I9 =>
    b_X9_eat_26 this x1 v3 I9
set_option maxRecDepth 100000 in
set_option maxHeartbeats 4000000 in
theorem s_X9_eat {l : Launch} {Γ : qC} (hΓ : q_gm Γ) {X : qX} (hX : q_Lay X) {this : Nat} {x1 : Int32} (k_this : q_kd X this = some (11, 14)) {I : qI} {z : qI} (h : f_X9_eat this x1 I = some z) : q_Sem l Γ (q_rm 6 0 0) yX9_eat cX9_eat 4 none [.ref this, .int x1] I X (none, z, X) := by
  refine q_met (by decide) (Nat.le_of_ble_eq_true rfl) (fun g hg hr => ?_)
  unfold f_X9_eat at h
  show g 0 0 0 [(0, .ref this), (1, .int x1)] [] I X
  refine r_aload_n hg 0 dX9_eat_0 rfl rfl ?_
  have e1 := ly_9_2 hX k_this
  refine r_getR hg dX9_eat_1 fl_X9_28 k_this rfl e1.1 ?_
  have e2 := ly_2_2 hX e1.2
  refine r_getR hg dX9_eat_4 fl_X9_190 e1.2 rfl e2.1 ?_
  refine r_iload_n hg 1 dX9_eat_7 rfl rfl ?_
  obtain ⟨v3, e4, h⟩ := q_b1_some h
  refine r_iald hg dX9_eat_8 e2.2 e4 ?_
  refine r_istore_n hg (L' := [(2, .int v3), (0, .ref this), (1, .int x1)]) dX9_eat_9 rfl (by decide) rfl ?_
  refine r_aload_n hg 1 dX9_eat_10 rfl rfl ?_
  have e5 := ly_9_2 hX k_this
  refine r_getR hg dX9_eat_11 fl_X9_28 k_this rfl e5.1 ?_
  refine r_iload_n hg 2 dX9_eat_14 rfl rfl ?_
  obtain ⟨v6, e7, h⟩ := q_b1_some h
  refine r_cV1i hg dX9_eat_15 mt_X2_lacks ml_X9_193 mv_X2_lacks e5.2 (s_X2_lacks hΓ hX e5.2 e7) (q_room (Nat.le_of_ble_eq_true rfl) (Nat.le_of_ble_eq_true rfl)) ⟨Nat.zero_le _, Nat.zero_le _⟩ (Nat.le_of_ble_eq_true rfl) ?_
  refine r_if_le hg 26 dX9_eat_18 (by decide) (fun c8 => ?_) (fun c8 => ?_)
  · rw [if_pos c8] at h
    refine r_sub hg [1, 2, 0] rfl ?_
    exact p_X9_eat_26 hΓ hg hr hX k_this _ _ h
  · rw [if_neg c8] at h
    refine r_aload_n hg 1 dX9_eat_21 rfl rfl ?_
    refine r_iload_n hg 2 dX9_eat_22 rfl rfl ?_
    obtain ⟨I9, e10, h⟩ := q_b1_some h
    refine r_cV1v hg dX9_eat_23 mt_X9_buy ml_X9_196 mv_X9_buy k_this (s_X9_buy hΓ hX k_this e10) (q_room (Nat.le_of_ble_eq_true rfl) (Nat.le_of_ble_eq_true rfl)) ⟨Nat.zero_le _, Nat.zero_le _⟩ (Nat.le_of_ble_eq_true rfl) ?_
    refine r_sub hg [1, 2, 0] rfl ?_
    exact p_X9_eat_26 hΓ hg hr hX k_this _ _ h

def b_X9_endWeek_124 (this : Nat) (x1 : Int32) (X : qX) (k80 : Int32 → qI → Option (qI)) (x4 : Int32) (I : qI) : Option (qI) :=
  q_b1 (q_wr I (this + 20) 12 x4 (nI 0)) fun I3 =>
  k80 (x4 + (nI 1)) I3
set_option maxRecDepth 100000 in
set_option maxHeartbeats 4000000 in
theorem p_X9_endWeek_124 {l : Launch} {Γ : qC} {g : qG} {z : qI} {this : Nat} {x1 : Int32} {X : qX} (hΓ : q_gm Γ) (hg : q_Ok l Γ RX9 cX9_endWeek 5 (q_rm 6 0 0) "endWeek" none g) (hr : q_Rt cX9_endWeek none (q_rm 6 0 0) (none, z, X) g) (hX : q_Lay X) (k_this : q_kd X this = some (11, 14)) {k80 : Int32 → qI → Option (qI)} (hk80 : ∀ (x4 : Int32) (I : qI), k80 x4 I = some z → g 0 0 80 [(0, .ref this), (4, .int x4)] [] I X) (x4 : Int32) (I : qI) (h : b_X9_endWeek_124 this x1 X k80 x4 I = some z) : g 0 0 124 [(0, .ref this), (4, .int x4)] [] I X := by
  unfold b_X9_endWeek_124 at h
  refine r_aload_n hg 0 dX9_endWeek_124 rfl rfl ?_
  have e1 := ly_9_2 hX k_this
  refine r_getR hg dX9_endWeek_125 fl_X9_28 k_this rfl e1.1 ?_
  have e2 := ly_2_7 hX e1.2
  refine r_getR hg dX9_endWeek_128 fl_X9_262 e1.2 rfl e2.1 ?_
  refine r_iload hg 1 dX9_endWeek_131 rfl ?_
  refine r_iconst hg dX9_endWeek_133 ci_0 ?_
  obtain ⟨I3, e4, h⟩ := q_b1_some h
  refine r_iast hg dX9_endWeek_134 e2.2 e4 ?_
  refine r_iinc hg 1 (v := (x4 + (nI 1))) (L' := [(4, .int (x4 + (nI 1))), (0, .ref this)]) dX9_endWeek_135 rfl (by rw [ci_1]) (by decide) rfl ?_
  refine r_goto hg 80 dX9_endWeek_138 (by decide) ?_
  refine r_sub hg [1, 0] rfl ?_
  exact hk80 _ _ h
def b_X9_endWeek_80 (this : Nat) (x1 : Int32) (X : qX) (k80 : Int32 → qI → Option (qI)) (x4 : Int32) (I : qI) : Option (qI) :=
  if (I (this + 12) 14) ≤ x4 then
    some (I)
  else
    q_b1 (f_X2_isGone (this + 12) x4 I) fun v4 =>
    if v4 = 0 then
      q_b2 (f_X9_isKept this x4 X I) fun v7 I8 =>
      if v7 = 0 then
        q_b1 (q_wr I8 (this + 22) 12 x4 (nI 1)) fun I13 =>
        b_X9_endWeek_124 this x1 X k80 x4 I13
      else
        b_X9_endWeek_124 this x1 X k80 x4 I8
    else
      b_X9_endWeek_124 this x1 X k80 x4 I
set_option maxRecDepth 100000 in
set_option maxHeartbeats 4000000 in
theorem p_X9_endWeek_80 {l : Launch} {Γ : qC} {g : qG} {z : qI} {this : Nat} {x1 : Int32} {X : qX} (hΓ : q_gm Γ) (hg : q_Ok l Γ RX9 cX9_endWeek 5 (q_rm 6 0 0) "endWeek" none g) (hr : q_Rt cX9_endWeek none (q_rm 6 0 0) (none, z, X) g) (hX : q_Lay X) (k_this : q_kd X this = some (11, 14)) {k80 : Int32 → qI → Option (qI)} (hk80 : ∀ (x4 : Int32) (I : qI), k80 x4 I = some z → g 0 0 80 [(0, .ref this), (4, .int x4)] [] I X) (x4 : Int32) (I : qI) (h : b_X9_endWeek_80 this x1 X k80 x4 I = some z) : g 0 0 80 [(0, .ref this), (4, .int x4)] [] I X := by
  unfold b_X9_endWeek_80 at h
  refine r_iload hg 1 dX9_endWeek_80 rfl ?_
  refine r_aload_n hg 0 dX9_endWeek_82 rfl rfl ?_
  have e1 := ly_9_2 hX k_this
  refine r_getR hg dX9_endWeek_83 fl_X9_28 k_this rfl e1.1 ?_
  refine r_getI hg dX9_endWeek_86 fl_X9_134 e1.2 rfl ?_
  refine r_icmp_ge hg 141 dX9_endWeek_89 (by decide) (fun c2 => ?_) (fun c2 => ?_)
  · rw [if_pos c2] at h
    exact r_return hr dX9_endWeek_141 ⟨Nat.zero_le _, Nat.zero_le _⟩ rfl (by cases h; rfl)
  · rw [if_neg c2] at h
    refine r_aload_n hg 0 dX9_endWeek_92 rfl rfl ?_
    have e3 := ly_9_2 hX k_this
    refine r_getR hg dX9_endWeek_93 fl_X9_28 k_this rfl e3.1 ?_
    refine r_iload hg 1 dX9_endWeek_96 rfl ?_
    obtain ⟨v4, e5, h⟩ := q_b1_some h
    refine r_cV1i hg dX9_endWeek_98 mt_X2_isGone ml_X9_144 mv_X2_isGone e3.2 (s_X2_isGone hΓ hX e3.2 e5) (q_room (Nat.le_of_ble_eq_true rfl) (Nat.le_of_ble_eq_true rfl)) ⟨Nat.zero_le _, Nat.zero_le _⟩ (Nat.le_of_ble_eq_true rfl) ?_
    refine r_if_ne hg 124 dX9_endWeek_101 (by decide) (fun c6 => ?_) (fun c6 => ?_)
    · rw [if_neg c6] at h
      exact p_X9_endWeek_124 hΓ hg hr hX k_this hk80 _ _ h
    · rw [if_pos (Classical.not_not.mp c6)] at h
      refine r_aload_n hg 0 dX9_endWeek_104 rfl rfl ?_
      refine r_iload hg 1 dX9_endWeek_105 rfl ?_
      obtain ⟨v7, I8, e9, h⟩ := q_b2_some h
      refine r_cV1i hg dX9_endWeek_107 mt_X9_isKept ml_X9_276 mv_X9_isKept k_this (s_X9_isKept hΓ hX k_this e9) (q_room (Nat.le_of_ble_eq_true rfl) (Nat.le_of_ble_eq_true rfl)) ⟨Nat.zero_le _, Nat.zero_le _⟩ (Nat.le_of_ble_eq_true rfl) ?_
      refine r_if_ne hg 124 dX9_endWeek_110 (by decide) (fun c10 => ?_) (fun c10 => ?_)
      · rw [if_neg c10] at h
        exact p_X9_endWeek_124 hΓ hg hr hX k_this hk80 _ _ h
      · rw [if_pos (Classical.not_not.mp c10)] at h
        refine r_aload_n hg 0 dX9_endWeek_113 rfl rfl ?_
        have e11 := ly_9_2 hX k_this
        refine r_getR hg dX9_endWeek_114 fl_X9_28 k_this rfl e11.1 ?_
        have e12 := ly_2_9 hX e11.2
        refine r_getR hg dX9_endWeek_117 fl_X9_211 e11.2 rfl e12.1 ?_
        refine r_iload hg 1 dX9_endWeek_120 rfl ?_
        refine r_iconst hg dX9_endWeek_122 ci_1 ?_
        obtain ⟨I13, e14, h⟩ := q_b1_some h
        refine r_iast hg dX9_endWeek_123 e12.2 e14 ?_
        exact p_X9_endWeek_124 hΓ hg hr hX k_this hk80 _ _ h
theorem pl_X9_endWeek_80 {l : Launch} {Γ : qC} {g : qG} {z : qI} {this : Nat} {x1 : Int32} {X : qX} (hΓ : q_gm Γ) (hg : q_Ok l Γ RX9 cX9_endWeek 5 (q_rm 6 0 0) "endWeek" none g) (hr : q_Rt cX9_endWeek none (q_rm 6 0 0) (none, z, X) g) (hX : q_Lay X) (k_this : q_kd X this = some (11, 14)) : ∀ (n : Nat) (x4 : Int32) (I : qI), q_fix (fun _ _ => none) (b_X9_endWeek_80 this x1 X) n x4 I = some z → g 0 0 80 [(0, .ref this), (4, .int x4)] [] I X := by
  intro n
  induction n with
  | zero =>
    intro x4 I h
    cases (show (none : Option (qI)) = some z from h)
  | succ n ih =>
    intro x4 I h
    exact p_X9_endWeek_80 hΓ hg hr hX k_this ih _ _ h
def b_X9_endWeek_77 (this : Nat) (x1 : Int32) (X : qX) (I : qI) : Option (qI) :=
  q_fix (fun _ _ => none) (b_X9_endWeek_80 this x1 X) q_fu (nI 0) I
set_option maxRecDepth 100000 in
set_option maxHeartbeats 4000000 in
theorem p_X9_endWeek_77 {l : Launch} {Γ : qC} {g : qG} {z : qI} {this : Nat} {x1 : Int32} {X : qX} (hΓ : q_gm Γ) (hg : q_Ok l Γ RX9 cX9_endWeek 5 (q_rm 6 0 0) "endWeek" none g) (hr : q_Rt cX9_endWeek none (q_rm 6 0 0) (none, z, X) g) (hX : q_Lay X) (k_this : q_kd X this = some (11, 14)) (I : qI) (h : b_X9_endWeek_77 this x1 X I = some z) : g 0 0 77 [(0, .ref this)] [] I X := by
  unfold b_X9_endWeek_77 at h
  refine r_iconst hg dX9_endWeek_77 ci_0 ?_
  refine r_istore hg (L' := [(4, .int (nI 0)), (0, .ref this)]) dX9_endWeek_78 (by decide) rfl ?_
  refine r_sub hg [1, 0] rfl ?_
  exact pl_X9_endWeek_80 hΓ hg hr hX k_this _ _ _ h
def b_X9_endWeek_71 (this : Nat) (x1 : Int32) (X : qX) (k39 : Int32 → qI → Option (qI)) (x4 : Int32) (I : qI) : Option (qI) :=
  k39 (x4 + (nI 1)) I
set_option maxRecDepth 100000 in
set_option maxHeartbeats 4000000 in
theorem p_X9_endWeek_71 {l : Launch} {Γ : qC} {g : qG} {z : qI} {this : Nat} {x1 : Int32} {X : qX} (hΓ : q_gm Γ) (hg : q_Ok l Γ RX9 cX9_endWeek 5 (q_rm 6 0 0) "endWeek" none g) (hr : q_Rt cX9_endWeek none (q_rm 6 0 0) (none, z, X) g) (hX : q_Lay X) (k_this : q_kd X this = some (11, 14)) {k39 : Int32 → qI → Option (qI)} (hk39 : ∀ (x4 : Int32) (I : qI), k39 x4 I = some z → g 0 0 39 [(0, .ref this), (1, .int x1), (4, .int x4)] [] I X) (x4 : Int32) (I : qI) (h : b_X9_endWeek_71 this x1 X k39 x4 I = some z) : g 0 0 71 [(0, .ref this), (1, .int x1), (4, .int x4)] [] I X := by
  unfold b_X9_endWeek_71 at h
  refine r_iinc hg 2 (v := (x4 + (nI 1))) (L' := [(4, .int (x4 + (nI 1))), (0, .ref this), (1, .int x1)]) dX9_endWeek_71 rfl (by rw [ci_1]) (by decide) rfl ?_
  refine r_goto hg 39 dX9_endWeek_74 (by decide) ?_
  refine r_sub hg [1, 2, 0] rfl ?_
  exact hk39 _ _ h
def b_X9_endWeek_39 (this : Nat) (x1 : Int32) (X : qX) (k39 : Int32 → qI → Option (qI)) (x4 : Int32) (I : qI) : Option (qI) :=
  if (I (this + 12) 14) ≤ x4 then
    b_X9_endWeek_77 this x1 X I
  else
    q_b1 (f_X2_isGone (this + 12) x4 I) fun v4 =>
    if v4 = 0 then
      q_b1 (f_X9_reckon this x4 (nI 1) x1 X I) fun I7 =>
      b_X9_endWeek_71 this x1 X k39 x4 I7
    else
      b_X9_endWeek_71 this x1 X k39 x4 I
set_option maxRecDepth 100000 in
set_option maxHeartbeats 4000000 in
theorem p_X9_endWeek_39 {l : Launch} {Γ : qC} {g : qG} {z : qI} {this : Nat} {x1 : Int32} {X : qX} (hΓ : q_gm Γ) (hg : q_Ok l Γ RX9 cX9_endWeek 5 (q_rm 6 0 0) "endWeek" none g) (hr : q_Rt cX9_endWeek none (q_rm 6 0 0) (none, z, X) g) (hX : q_Lay X) (k_this : q_kd X this = some (11, 14)) {k39 : Int32 → qI → Option (qI)} (hk39 : ∀ (x4 : Int32) (I : qI), k39 x4 I = some z → g 0 0 39 [(0, .ref this), (1, .int x1), (4, .int x4)] [] I X) (x4 : Int32) (I : qI) (h : b_X9_endWeek_39 this x1 X k39 x4 I = some z) : g 0 0 39 [(0, .ref this), (1, .int x1), (4, .int x4)] [] I X := by
  unfold b_X9_endWeek_39 at h
  refine r_iload hg 2 dX9_endWeek_39 rfl ?_
  refine r_aload_n hg 0 dX9_endWeek_41 rfl rfl ?_
  have e1 := ly_9_2 hX k_this
  refine r_getR hg dX9_endWeek_42 fl_X9_28 k_this rfl e1.1 ?_
  refine r_getI hg dX9_endWeek_45 fl_X9_134 e1.2 rfl ?_
  refine r_icmp_ge hg 77 dX9_endWeek_48 (by decide) (fun c2 => ?_) (fun c2 => ?_)
  · rw [if_pos c2] at h
    refine r_sub hg [0] rfl ?_
    exact p_X9_endWeek_77 hΓ hg hr hX k_this _ h
  · rw [if_neg c2] at h
    refine r_aload_n hg 0 dX9_endWeek_51 rfl rfl ?_
    have e3 := ly_9_2 hX k_this
    refine r_getR hg dX9_endWeek_52 fl_X9_28 k_this rfl e3.1 ?_
    refine r_iload hg 2 dX9_endWeek_55 rfl ?_
    obtain ⟨v4, e5, h⟩ := q_b1_some h
    refine r_cV1i hg dX9_endWeek_57 mt_X2_isGone ml_X9_144 mv_X2_isGone e3.2 (s_X2_isGone hΓ hX e3.2 e5) (q_room (Nat.le_of_ble_eq_true rfl) (Nat.le_of_ble_eq_true rfl)) ⟨Nat.zero_le _, Nat.zero_le _⟩ (Nat.le_of_ble_eq_true rfl) ?_
    refine r_if_ne hg 71 dX9_endWeek_60 (by decide) (fun c6 => ?_) (fun c6 => ?_)
    · rw [if_neg c6] at h
      exact p_X9_endWeek_71 hΓ hg hr hX k_this hk39 _ _ h
    · rw [if_pos (Classical.not_not.mp c6)] at h
      refine r_aload_n hg 0 dX9_endWeek_63 rfl rfl ?_
      refine r_iload hg 2 dX9_endWeek_64 rfl ?_
      refine r_iconst hg dX9_endWeek_66 ci_1 ?_
      refine r_iload_n hg 1 dX9_endWeek_67 rfl rfl ?_
      obtain ⟨I7, e8, h⟩ := q_b1_some h
      refine r_cV3v hg dX9_endWeek_68 mt_X9_reckon ml_X9_272 mv_X9_reckon k_this (s_X9_reckon hΓ hX k_this e8) (q_room (Nat.le_of_ble_eq_true rfl) (Nat.le_of_ble_eq_true rfl)) ⟨Nat.zero_le _, Nat.zero_le _⟩ (Nat.le_of_ble_eq_true rfl) ?_
      exact p_X9_endWeek_71 hΓ hg hr hX k_this hk39 _ _ h
theorem pl_X9_endWeek_39 {l : Launch} {Γ : qC} {g : qG} {z : qI} {this : Nat} {x1 : Int32} {X : qX} (hΓ : q_gm Γ) (hg : q_Ok l Γ RX9 cX9_endWeek 5 (q_rm 6 0 0) "endWeek" none g) (hr : q_Rt cX9_endWeek none (q_rm 6 0 0) (none, z, X) g) (hX : q_Lay X) (k_this : q_kd X this = some (11, 14)) : ∀ (n : Nat) (x4 : Int32) (I : qI), q_fix (fun _ _ => none) (b_X9_endWeek_39 this x1 X) n x4 I = some z → g 0 0 39 [(0, .ref this), (1, .int x1), (4, .int x4)] [] I X := by
  intro n
  induction n with
  | zero =>
    intro x4 I h
    cases (show (none : Option (qI)) = some z from h)
  | succ n ih =>
    intro x4 I h
    exact p_X9_endWeek_39 hΓ hg hr hX k_this ih _ _ h
def f_X9_endWeek (this : Nat) (x1 : Int32) (X : qX) (I : qI) : Option (qI) :=
  q_b2 (f_X7_given (this + 36) (nI 2) (I this 13) ((I this 13) / (nI 7)) (nI 0) (nI 0) X I) fun v2 I3 =>
  if v2 ≤ 0 then
    b_X9_endWeek_77 this x1 X I3
  else
    if v2 = 0 then none else
    if (q_rem (((I this 13) / (nI 7)) + (nI 1)) v2) = 0 then
      q_fix (fun _ _ => none) (b_X9_endWeek_39 this x1 X) q_fu (nI 0) I3
    else
      b_X9_endWeek_77 this x1 X I3
set_option maxRecDepth 100000 in
set_option maxHeartbeats 4000000 in
theorem s_X9_endWeek {l : Launch} {Γ : qC} (hΓ : q_gm Γ) {X : qX} (hX : q_Lay X) {this : Nat} {x1 : Int32} (k_this : q_kd X this = some (11, 14)) {I : qI} {z : qI} (h : f_X9_endWeek this x1 X I = some z) : q_Sem l Γ (q_rm 6 0 0) yX9_endWeek cX9_endWeek 5 none [.ref this, .int x1] I X (none, z, X) := by
  refine q_met (by decide) (Nat.le_of_ble_eq_true rfl) (fun g hg hr => ?_)
  unfold f_X9_endWeek at h
  show g 0 0 0 [(0, .ref this), (1, .int x1)] [] I X
  refine r_aload_n hg 0 dX9_endWeek_0 rfl rfl ?_
  refine r_getI hg dX9_endWeek_1 fl_X9_83 k_this rfl ?_
  refine r_bipush hg dX9_endWeek_4 cb_7 ?_
  refine r_idiv hg dX9_endWeek_6 nz_7 ?_
  refine r_istore_n hg (L' := [(2, .int ((I this 13) / (nI 7))), (0, .ref this), (1, .int x1)]) dX9_endWeek_7 rfl (by decide) rfl ?_
  refine r_aload_n hg 1 dX9_endWeek_8 rfl rfl ?_
  have e1 := ly_9_4 hX k_this
  refine r_getR hg dX9_endWeek_9 fl_X9_42 k_this rfl e1.1 ?_
  refine r_iconst hg dX9_endWeek_12 ci_2 ?_
  refine r_aload_n hg 1 dX9_endWeek_13 rfl rfl ?_
  refine r_getI hg dX9_endWeek_14 fl_X9_83 k_this rfl ?_
  refine r_iload_n hg 0 dX9_endWeek_17 rfl rfl ?_
  refine r_iconst hg dX9_endWeek_18 ci_0 ?_
  refine r_iconst hg dX9_endWeek_19 ci_0 ?_
  obtain ⟨v2, I3, e4, h⟩ := q_b2_some h
  refine r_cV5i hg dX9_endWeek_20 mt_X7_given ml_X9_175 mv_X7_given e1.2 (s_X7_given hΓ hX e1.2 e4) (q_room (Nat.le_of_ble_eq_true rfl) (Nat.le_of_ble_eq_true rfl)) ⟨Nat.zero_le _, Nat.zero_le _⟩ (Nat.le_of_ble_eq_true rfl) ?_
  refine r_istore_n hg (L' := [(3, .int v2), (2, .int ((I this 13) / (nI 7))), (0, .ref this), (1, .int x1)]) dX9_endWeek_23 rfl (by decide) rfl ?_
  refine r_iload_n hg 0 dX9_endWeek_24 rfl rfl ?_
  refine r_if_le hg 77 dX9_endWeek_25 (by decide) (fun c5 => ?_) (fun c5 => ?_)
  · rw [if_pos c5] at h
    refine r_sub hg [2] rfl ?_
    exact p_X9_endWeek_77 hΓ hg hr hX k_this _ h
  · rw [if_neg c5] at h
    refine r_iload_n hg 1 dX9_endWeek_28 rfl rfl ?_
    refine r_iconst hg dX9_endWeek_29 ci_1 ?_
    refine r_iadd hg dX9_endWeek_30 ?_
    refine r_iload_n hg 0 dX9_endWeek_31 rfl rfl ?_
    by_cases c6 : v2 = 0
    · rw [if_pos c6] at h; cases h
    rw [if_neg c6] at h
    refine r_iremq hg dX9_endWeek_32 c6 ?_
    refine r_if_ne hg 77 dX9_endWeek_33 (by decide) (fun c7 => ?_) (fun c7 => ?_)
    · rw [if_neg c7] at h
      refine r_sub hg [2] rfl ?_
      exact p_X9_endWeek_77 hΓ hg hr hX k_this _ h
    · rw [if_pos (Classical.not_not.mp c7)] at h
      refine r_iconst hg dX9_endWeek_36 ci_0 ?_
      refine r_istore hg (L' := [(4, .int (nI 0)), (3, .int v2), (2, .int ((I this 13) / (nI 7))), (0, .ref this), (1, .int x1)]) dX9_endWeek_37 (by decide) rfl ?_
      refine r_sub hg [3, 4, 0] rfl ?_
      exact pl_X9_endWeek_39 hΓ hg hr hX k_this _ _ _ h

def b_X9_wrongFines_71 (this : Nat) (x1 : Int32) (x2 : Int32) (X : qX) (k5 : Int32 → Int32 → qI → Option (Int32 × qI)) (x3 : Int32) (x4 : Int32) (I : qI) : Option (Int32 × qI) :=
  k5 x3 (x4 + (nI 1)) I
set_option maxRecDepth 100000 in
set_option maxHeartbeats 4000000 in
theorem p_X9_wrongFines_71 {l : Launch} {Γ : qC} {g : qG} {z : Int32 × qI} {this : Nat} {x1 : Int32} {x2 : Int32} {X : qX} (hΓ : q_gm Γ) (hg : q_Ok l Γ RX9 cX9_wrongFines 5 (q_rm 6 0 0) "wrongFines" (some .int) g) (hr : q_Rt cX9_wrongFines (some .int) (q_rm 6 0 0) (some (.int z.1), z.2, X) g) (hX : q_Lay X) (k_this : q_kd X this = some (11, 14)) {k5 : Int32 → Int32 → qI → Option (Int32 × qI)} (hk5 : ∀ (x3 : Int32) (x4 : Int32) (I : qI), k5 x3 x4 I = some z → g 0 0 5 [(0, .ref this), (1, .int x1), (2, .int x2), (3, .int x3), (4, .int x4)] [] I X) (x3 : Int32) (x4 : Int32) (I : qI) (h : b_X9_wrongFines_71 this x1 x2 X k5 x3 x4 I = some z) : g 0 0 71 [(0, .ref this), (1, .int x1), (2, .int x2), (3, .int x3), (4, .int x4)] [] I X := by
  unfold b_X9_wrongFines_71 at h
  refine r_iinc hg 4 (v := (x4 + (nI 1))) (L' := [(4, .int (x4 + (nI 1))), (0, .ref this), (1, .int x1), (2, .int x2), (3, .int x3)]) dX9_wrongFines_71 rfl (by rw [ci_1]) (by decide) rfl ?_
  refine r_goto hg 5 dX9_wrongFines_74 (by decide) ?_
  refine r_sub hg [1, 2, 3, 4, 0] rfl ?_
  exact hk5 _ _ _ h
def b_X9_wrongFines_5 (this : Nat) (x1 : Int32) (x2 : Int32) (X : qX) (k5 : Int32 → Int32 → qI → Option (Int32 × qI)) (x3 : Int32) (x4 : Int32) (I : qI) : Option (Int32 × qI) :=
  if (I (this + 27) 8) ≤ x4 then
    some (x3, I)
  else
    q_b1 (q_rd I (this + 29) 60 x4) fun v5 =>
    if v5 = x1 then
      q_b2 (f_X9_isWrongFine this x4 X I) fun v8 I9 =>
      if v8 = 0 then
        b_X9_wrongFines_71 this x1 x2 X k5 x3 x4 I9
      else
        q_b1 (q_rd I9 (this + 30) 60 x4) fun v14 =>
        if x2 = 0 then
          b_X9_wrongFines_71 this x1 x2 X k5 (x3 + v14) x4 I9
        else
          q_b1 (q_wr I9 (this + 33) 60 x4 (nI 2)) fun I19 =>
          b_X9_wrongFines_71 this x1 x2 X k5 (x3 + v14) x4 I19
    else
      b_X9_wrongFines_71 this x1 x2 X k5 x3 x4 I
set_option maxRecDepth 100000 in
set_option maxHeartbeats 4000000 in
theorem p_X9_wrongFines_5 {l : Launch} {Γ : qC} {g : qG} {z : Int32 × qI} {this : Nat} {x1 : Int32} {x2 : Int32} {X : qX} (hΓ : q_gm Γ) (hg : q_Ok l Γ RX9 cX9_wrongFines 5 (q_rm 6 0 0) "wrongFines" (some .int) g) (hr : q_Rt cX9_wrongFines (some .int) (q_rm 6 0 0) (some (.int z.1), z.2, X) g) (hX : q_Lay X) (k_this : q_kd X this = some (11, 14)) {k5 : Int32 → Int32 → qI → Option (Int32 × qI)} (hk5 : ∀ (x3 : Int32) (x4 : Int32) (I : qI), k5 x3 x4 I = some z → g 0 0 5 [(0, .ref this), (1, .int x1), (2, .int x2), (3, .int x3), (4, .int x4)] [] I X) (x3 : Int32) (x4 : Int32) (I : qI) (h : b_X9_wrongFines_5 this x1 x2 X k5 x3 x4 I = some z) : g 0 0 5 [(0, .ref this), (1, .int x1), (2, .int x2), (3, .int x3), (4, .int x4)] [] I X := by
  unfold b_X9_wrongFines_5 at h
  refine r_iload hg 4 dX9_wrongFines_5 rfl ?_
  refine r_aload_n hg 0 dX9_wrongFines_7 rfl rfl ?_
  have e1 := ly_9_3 hX k_this
  refine r_getR hg dX9_wrongFines_8 fl_X9_35 k_this rfl e1.1 ?_
  refine r_getI hg dX9_wrongFines_11 fl_X9_294 e1.2 rfl ?_
  refine r_icmp_ge hg 77 dX9_wrongFines_14 (by decide) (fun c2 => ?_) (fun c2 => ?_)
  · rw [if_pos c2] at h
    refine r_iload_n hg 3 dX9_wrongFines_77 rfl rfl ?_
    exact r_ireturn hr dX9_wrongFines_78 ⟨Nat.zero_le _, Nat.zero_le _⟩ ⟨_, rfl, rfl⟩ (by cases h; rfl)
  · rw [if_neg c2] at h
    refine r_aload_n hg 0 dX9_wrongFines_17 rfl rfl ?_
    have e3 := ly_9_3 hX k_this
    refine r_getR hg dX9_wrongFines_18 fl_X9_35 k_this rfl e3.1 ?_
    have e4 := ly_1_1 hX e3.2
    refine r_getR hg dX9_wrongFines_21 fl_X9_295 e3.2 rfl e4.1 ?_
    refine r_iload hg 4 dX9_wrongFines_24 rfl ?_
    obtain ⟨v5, e6, h⟩ := q_b1_some h
    refine r_iald hg dX9_wrongFines_26 e4.2 e6 ?_
    refine r_iload_n hg 1 dX9_wrongFines_27 rfl rfl ?_
    refine r_icmp_ne hg 71 dX9_wrongFines_28 (by decide) (fun c7 => ?_) (fun c7 => ?_)
    · rw [if_neg c7] at h
      exact p_X9_wrongFines_71 hΓ hg hr hX k_this hk5 _ _ _ h
    · rw [if_pos (Classical.not_not.mp c7)] at h
      refine r_aload_n hg 0 dX9_wrongFines_31 rfl rfl ?_
      refine r_iload hg 4 dX9_wrongFines_32 rfl ?_
      obtain ⟨v8, I9, e10, h⟩ := q_b2_some h
      refine r_cV1i hg dX9_wrongFines_34 mt_X9_isWrongFine ml_X9_298 mv_X9_isWrongFine k_this (s_X9_isWrongFine hΓ hX k_this e10) (q_room (Nat.le_of_ble_eq_true rfl) (Nat.le_of_ble_eq_true rfl)) ⟨Nat.zero_le _, Nat.zero_le _⟩ (Nat.le_of_ble_eq_true rfl) ?_
      refine r_if_ne hg 43 dX9_wrongFines_37 (by decide) (fun c11 => ?_) (fun c11 => ?_)
      · rw [if_neg c11] at h
        refine r_iload_n hg 3 dX9_wrongFines_43 rfl rfl ?_
        refine r_aload_n hg 0 dX9_wrongFines_44 rfl rfl ?_
        have e12 := ly_9_3 hX k_this
        refine r_getR hg dX9_wrongFines_45 fl_X9_35 k_this rfl e12.1 ?_
        have e13 := ly_1_2 hX e12.2
        refine r_getR hg dX9_wrongFines_48 fl_X9_131 e12.2 rfl e13.1 ?_
        refine r_iload hg 4 dX9_wrongFines_51 rfl ?_
        obtain ⟨v14, e15, h⟩ := q_b1_some h
        refine r_iald hg dX9_wrongFines_53 e13.2 e15 ?_
        refine r_iadd hg dX9_wrongFines_54 ?_
        refine r_istore_n hg (L' := [(3, .int (x3 + v14)), (0, .ref this), (1, .int x1), (2, .int x2), (4, .int x4)]) dX9_wrongFines_55 rfl (by decide) rfl ?_
        refine r_iload_n hg 3 dX9_wrongFines_56 rfl rfl ?_
        refine r_if_eq hg 71 dX9_wrongFines_57 (by decide) (fun c16 => ?_) (fun c16 => ?_)
        · rw [if_pos c16] at h
          refine r_sub hg [1, 2, 3, 0, 4] rfl ?_
          exact p_X9_wrongFines_71 hΓ hg hr hX k_this hk5 _ _ _ h
        · rw [if_neg c16] at h
          refine r_aload_n hg 1 dX9_wrongFines_60 rfl rfl ?_
          have e17 := ly_9_3 hX k_this
          refine r_getR hg dX9_wrongFines_61 fl_X9_35 k_this rfl e17.1 ?_
          have e18 := ly_1_5 hX e17.2
          refine r_getR hg dX9_wrongFines_64 fl_X9_301 e17.2 rfl e18.1 ?_
          refine r_iload hg 4 dX9_wrongFines_67 rfl ?_
          refine r_iconst hg dX9_wrongFines_69 ci_2 ?_
          obtain ⟨I19, e20, h⟩ := q_b1_some h
          refine r_iast hg dX9_wrongFines_70 e18.2 e20 ?_
          refine r_sub hg [1, 2, 3, 0, 4] rfl ?_
          exact p_X9_wrongFines_71 hΓ hg hr hX k_this hk5 _ _ _ h
      · rw [if_pos (Classical.not_not.mp c11)] at h
        refine r_goto hg 71 dX9_wrongFines_40 (by decide) ?_
        exact p_X9_wrongFines_71 hΓ hg hr hX k_this hk5 _ _ _ h
theorem pl_X9_wrongFines_5 {l : Launch} {Γ : qC} {g : qG} {z : Int32 × qI} {this : Nat} {x1 : Int32} {x2 : Int32} {X : qX} (hΓ : q_gm Γ) (hg : q_Ok l Γ RX9 cX9_wrongFines 5 (q_rm 6 0 0) "wrongFines" (some .int) g) (hr : q_Rt cX9_wrongFines (some .int) (q_rm 6 0 0) (some (.int z.1), z.2, X) g) (hX : q_Lay X) (k_this : q_kd X this = some (11, 14)) : ∀ (n : Nat) (x3 : Int32) (x4 : Int32) (I : qI), q_fix (fun _ _ _ => none) (b_X9_wrongFines_5 this x1 x2 X) n x3 x4 I = some z → g 0 0 5 [(0, .ref this), (1, .int x1), (2, .int x2), (3, .int x3), (4, .int x4)] [] I X := by
  intro n
  induction n with
  | zero =>
    intro x3 x4 I h
    cases (show (none : Option (Int32 × qI)) = some z from h)
  | succ n ih =>
    intro x3 x4 I h
    exact p_X9_wrongFines_5 hΓ hg hr hX k_this ih _ _ _ h
def f_X9_wrongFines (this : Nat) (x1 : Int32) (x2 : Int32) (X : qX) (I : qI) : Option (Int32 × qI) :=
  q_fix (fun _ _ _ => none) (b_X9_wrongFines_5 this x1 x2 X) q_fu (nI 0) (nI 0) I
set_option maxRecDepth 100000 in
set_option maxHeartbeats 4000000 in
theorem s_X9_wrongFines {l : Launch} {Γ : qC} (hΓ : q_gm Γ) {X : qX} (hX : q_Lay X) {this : Nat} {x1 : Int32} {x2 : Int32} (k_this : q_kd X this = some (11, 14)) {I : qI} {z : Int32 × qI} (h : f_X9_wrongFines this x1 x2 X I = some z) : q_Sem l Γ (q_rm 6 0 0) yX9_wrongFines cX9_wrongFines 5 (some .int) [.ref this, .int x1, .int x2] I X (some (.int z.1), z.2, X) := by
  refine q_met (by decide) (Nat.le_of_ble_eq_true rfl) (fun g hg hr => ?_)
  unfold f_X9_wrongFines at h
  show g 0 0 0 [(0, .ref this), (1, .int x1), (2, .int x2)] [] I X
  refine r_iconst hg dX9_wrongFines_0 ci_0 ?_
  refine r_istore_n hg (L' := [(3, .int (nI 0)), (0, .ref this), (1, .int x1), (2, .int x2)]) dX9_wrongFines_1 rfl (by decide) rfl ?_
  refine r_iconst hg dX9_wrongFines_2 ci_0 ?_
  refine r_istore hg (L' := [(4, .int (nI 0)), (3, .int (nI 0)), (0, .ref this), (1, .int x1), (2, .int x2)]) dX9_wrongFines_3 (by decide) rfl ?_
  refine r_sub hg [2, 3, 4, 1, 0] rfl ?_
  exact pl_X9_wrongFines_5 hΓ hg hr hX k_this _ _ _ _ h

def b_X9_goBy_129 (this : Nat) (x1 : Int32) (x2 : Int32) (X : qX) (k2 : Int32 → qI → Option (qI)) (x3 : Int32) (I : qI) : Option (qI) :=
  q_b1 (some (q_up I this 13 ((I this 13) + (nI 1)))) fun I1 =>
  k2 (x3 + (nI 1)) I1
set_option maxRecDepth 100000 in
set_option maxHeartbeats 4000000 in
theorem p_X9_goBy_129 {l : Launch} {Γ : qC} {g : qG} {z : qI} {this : Nat} {x1 : Int32} {x2 : Int32} {X : qX} (hΓ : q_gm Γ) (hg : q_Ok l Γ RX9 cX9_goBy 5 (q_rm 7 0 0) "goBy" none g) (hr : q_Rt cX9_goBy none (q_rm 7 0 0) (none, z, X) g) (hX : q_Lay X) (k_this : q_kd X this = some (11, 14)) {k2 : Int32 → qI → Option (qI)} (hk2 : ∀ (x3 : Int32) (I : qI), k2 x3 I = some z → g 0 0 2 [(0, .ref this), (1, .int x1), (2, .int x2), (3, .int x3)] [] I X) (x3 : Int32) (I : qI) (h : b_X9_goBy_129 this x1 x2 X k2 x3 I = some z) : g 0 0 129 [(0, .ref this), (1, .int x1), (2, .int x2), (3, .int x3)] [] I X := by
  unfold b_X9_goBy_129 at h
  refine r_aload_n hg 0 dX9_goBy_129 rfl rfl ?_
  refine r_dup hg dX9_goBy_130 rfl ?_
  refine r_getI hg dX9_goBy_131 fl_X9_83 k_this rfl ?_
  refine r_iconst hg dX9_goBy_134 ci_1 ?_
  refine r_iadd hg dX9_goBy_135 ?_
  obtain ⟨I1, e2, h⟩ := q_b1_some h
  obtain rfl := Option.some.inj e2
  refine r_putI hg dX9_goBy_136 fl_X9_83 k_this rfl ⟨rfl, rfl⟩ ?_
  refine r_iinc hg 3 (v := (x3 + (nI 1))) (L' := [(3, .int (x3 + (nI 1))), (0, .ref this), (1, .int x1), (2, .int x2)]) dX9_goBy_139 rfl (by rw [ci_1]) (by decide) rfl ?_
  refine r_goto hg 2 dX9_goBy_142 (by decide) ?_
  refine r_sub hg [1, 2, 3, 0] rfl ?_
  exact hk2 _ _ h
def b_X9_goBy_88 (this : Nat) (x1 : Int32) (x2 : Int32) (X : qX) (k2 : Int32 → qI → Option (qI)) (k88 : Int32 → Int32 → qI → Option (qI)) (x3 : Int32) (x4 : Int32) (I : qI) : Option (qI) :=
  if (I (this + 7) 4) ≤ x4 then
    if (q_rem (I this 13) (nI 7)) = (nI 6) then
      q_b1 (f_X9_endWeek this x2 X I) fun I4 =>
      b_X9_goBy_129 this x1 x2 X k2 x3 I4
    else
      b_X9_goBy_129 this x1 x2 X k2 x3 I
  else
    q_b1 (f_X9_spreadNews this x4 I) fun I6 =>
    k88 x3 (x4 + (nI 1)) I6
set_option maxRecDepth 100000 in
set_option maxHeartbeats 4000000 in
theorem p_X9_goBy_88 {l : Launch} {Γ : qC} {g : qG} {z : qI} {this : Nat} {x1 : Int32} {x2 : Int32} {X : qX} (hΓ : q_gm Γ) (hg : q_Ok l Γ RX9 cX9_goBy 5 (q_rm 7 0 0) "goBy" none g) (hr : q_Rt cX9_goBy none (q_rm 7 0 0) (none, z, X) g) (hX : q_Lay X) (k_this : q_kd X this = some (11, 14)) {k2 : Int32 → qI → Option (qI)} (hk2 : ∀ (x3 : Int32) (I : qI), k2 x3 I = some z → g 0 0 2 [(0, .ref this), (1, .int x1), (2, .int x2), (3, .int x3)] [] I X) {k88 : Int32 → Int32 → qI → Option (qI)} (hk88 : ∀ (x3 : Int32) (x4 : Int32) (I : qI), k88 x3 x4 I = some z → g 0 0 88 [(0, .ref this), (1, .int x1), (2, .int x2), (3, .int x3), (4, .int x4)] [] I X) (x3 : Int32) (x4 : Int32) (I : qI) (h : b_X9_goBy_88 this x1 x2 X k2 k88 x3 x4 I = some z) : g 0 0 88 [(0, .ref this), (1, .int x1), (2, .int x2), (3, .int x3), (4, .int x4)] [] I X := by
  unfold b_X9_goBy_88 at h
  refine r_iload hg 4 dX9_goBy_88 rfl ?_
  refine r_aload_n hg 0 dX9_goBy_90 rfl rfl ?_
  have e1 := ly_9_1 hX k_this
  refine r_getR hg dX9_goBy_91 fl_X9_21 k_this rfl e1.1 ?_
  refine r_getI hg dX9_goBy_94 fl_X9_155 e1.2 rfl ?_
  refine r_icmp_ge hg 112 dX9_goBy_97 (by decide) (fun c2 => ?_) (fun c2 => ?_)
  · rw [if_pos c2] at h
    refine r_aload_n hg 0 dX9_goBy_112 rfl rfl ?_
    refine r_getI hg dX9_goBy_113 fl_X9_83 k_this rfl ?_
    refine r_bipush hg dX9_goBy_116 cb_7 ?_
    refine r_iremq hg dX9_goBy_118 nz_7 ?_
    refine r_bipush hg dX9_goBy_119 cb_6 ?_
    refine r_icmp_ne hg 129 dX9_goBy_121 (by decide) (fun c3 => ?_) (fun c3 => ?_)
    · rw [if_neg c3] at h
      refine r_sub hg [0, 1, 2, 3] rfl ?_
      exact p_X9_goBy_129 hΓ hg hr hX k_this hk2 _ _ h
    · rw [if_pos (Classical.not_not.mp c3)] at h
      refine r_aload_n hg 0 dX9_goBy_124 rfl rfl ?_
      refine r_iload_n hg 2 dX9_goBy_125 rfl rfl ?_
      obtain ⟨I4, e5, h⟩ := q_b1_some h
      refine r_cV1v hg dX9_goBy_126 mt_X9_endWeek ml_X9_159 mv_X9_endWeek k_this (s_X9_endWeek hΓ hX k_this e5) (q_room (Nat.le_of_ble_eq_true rfl) (Nat.le_of_ble_eq_true rfl)) ⟨Nat.zero_le _, Nat.zero_le _⟩ (Nat.le_of_ble_eq_true rfl) ?_
      refine r_sub hg [0, 1, 2, 3] rfl ?_
      exact p_X9_goBy_129 hΓ hg hr hX k_this hk2 _ _ h
  · rw [if_neg c2] at h
    refine r_aload_n hg 0 dX9_goBy_100 rfl rfl ?_
    refine r_iload hg 4 dX9_goBy_101 rfl ?_
    obtain ⟨I6, e7, h⟩ := q_b1_some h
    refine r_cV1v hg dX9_goBy_103 mt_X9_spreadNews ml_X9_156 mv_X9_spreadNews k_this (s_X9_spreadNews hΓ hX k_this e7) (q_room (Nat.le_of_ble_eq_true rfl) (Nat.le_of_ble_eq_true rfl)) ⟨Nat.zero_le _, Nat.zero_le _⟩ (Nat.le_of_ble_eq_true rfl) ?_
    refine r_iinc hg 4 (v := (x4 + (nI 1))) (L' := [(4, .int (x4 + (nI 1))), (0, .ref this), (1, .int x1), (2, .int x2), (3, .int x3)]) dX9_goBy_106 rfl (by rw [ci_1]) (by decide) rfl ?_
    refine r_goto hg 88 dX9_goBy_109 (by decide) ?_
    refine r_sub hg [1, 2, 3, 4, 0] rfl ?_
    exact hk88 _ _ _ h
theorem pl_X9_goBy_88 {l : Launch} {Γ : qC} {g : qG} {z : qI} {this : Nat} {x1 : Int32} {x2 : Int32} {X : qX} (hΓ : q_gm Γ) (hg : q_Ok l Γ RX9 cX9_goBy 5 (q_rm 7 0 0) "goBy" none g) (hr : q_Rt cX9_goBy none (q_rm 7 0 0) (none, z, X) g) (hX : q_Lay X) (k_this : q_kd X this = some (11, 14)) {k2 : Int32 → qI → Option (qI)} (hk2 : ∀ (x3 : Int32) (I : qI), k2 x3 I = some z → g 0 0 2 [(0, .ref this), (1, .int x1), (2, .int x2), (3, .int x3)] [] I X) : ∀ (n : Nat) (x3 : Int32) (x4 : Int32) (I : qI), q_fix (fun _ _ _ => none) (b_X9_goBy_88 this x1 x2 X k2) n x3 x4 I = some z → g 0 0 88 [(0, .ref this), (1, .int x1), (2, .int x2), (3, .int x3), (4, .int x4)] [] I X := by
  intro n
  induction n with
  | zero =>
    intro x3 x4 I h
    cases (show (none : Option (qI)) = some z from h)
  | succ n ih =>
    intro x3 x4 I h
    exact p_X9_goBy_88 hΓ hg hr hX k_this hk2 ih _ _ _ h
def b_X9_goBy_79 (this : Nat) (x1 : Int32) (x2 : Int32) (X : qX) (k2 : Int32 → qI → Option (qI)) (k49 : Int32 → Int32 → qI → Option (qI)) (x3 : Int32) (x4 : Int32) (I : qI) : Option (qI) :=
  k49 x3 (x4 + (nI 1)) I
set_option maxRecDepth 100000 in
set_option maxHeartbeats 4000000 in
theorem p_X9_goBy_79 {l : Launch} {Γ : qC} {g : qG} {z : qI} {this : Nat} {x1 : Int32} {x2 : Int32} {X : qX} (hΓ : q_gm Γ) (hg : q_Ok l Γ RX9 cX9_goBy 5 (q_rm 7 0 0) "goBy" none g) (hr : q_Rt cX9_goBy none (q_rm 7 0 0) (none, z, X) g) (hX : q_Lay X) (k_this : q_kd X this = some (11, 14)) {k2 : Int32 → qI → Option (qI)} (hk2 : ∀ (x3 : Int32) (I : qI), k2 x3 I = some z → g 0 0 2 [(0, .ref this), (1, .int x1), (2, .int x2), (3, .int x3)] [] I X) {k49 : Int32 → Int32 → qI → Option (qI)} (hk49 : ∀ (x3 : Int32) (x4 : Int32) (I : qI), k49 x3 x4 I = some z → g 0 0 49 [(0, .ref this), (1, .int x1), (2, .int x2), (3, .int x3), (4, .int x4)] [] I X) (x3 : Int32) (x4 : Int32) (I : qI) (h : b_X9_goBy_79 this x1 x2 X k2 k49 x3 x4 I = some z) : g 0 0 79 [(0, .ref this), (1, .int x1), (2, .int x2), (3, .int x3), (4, .int x4)] [] I X := by
  unfold b_X9_goBy_79 at h
  refine r_iinc hg 4 (v := (x4 + (nI 1))) (L' := [(4, .int (x4 + (nI 1))), (0, .ref this), (1, .int x1), (2, .int x2), (3, .int x3)]) dX9_goBy_79 rfl (by rw [ci_1]) (by decide) rfl ?_
  refine r_goto hg 49 dX9_goBy_82 (by decide) ?_
  refine r_sub hg [1, 2, 3, 4, 0] rfl ?_
  exact hk49 _ _ _ h
def b_X9_goBy_49 (this : Nat) (x1 : Int32) (x2 : Int32) (X : qX) (k2 : Int32 → qI → Option (qI)) (k49 : Int32 → Int32 → qI → Option (qI)) (x3 : Int32) (x4 : Int32) (I : qI) : Option (qI) :=
  if (I (this + 12) 14) ≤ x4 then
    q_fix (fun _ _ _ => none) (b_X9_goBy_88 this x1 x2 X k2) q_fu x3 (nI 0) I
  else
    q_b1 (f_X2_isGone (this + 12) x4 I) fun v4 =>
    if v4 = 0 then
      q_b1 (f_X9_eat this x4 I) fun I7 =>
      b_X9_goBy_79 this x1 x2 X k2 k49 x3 x4 I7
    else
      b_X9_goBy_79 this x1 x2 X k2 k49 x3 x4 I
set_option maxRecDepth 100000 in
set_option maxHeartbeats 4000000 in
theorem p_X9_goBy_49 {l : Launch} {Γ : qC} {g : qG} {z : qI} {this : Nat} {x1 : Int32} {x2 : Int32} {X : qX} (hΓ : q_gm Γ) (hg : q_Ok l Γ RX9 cX9_goBy 5 (q_rm 7 0 0) "goBy" none g) (hr : q_Rt cX9_goBy none (q_rm 7 0 0) (none, z, X) g) (hX : q_Lay X) (k_this : q_kd X this = some (11, 14)) {k2 : Int32 → qI → Option (qI)} (hk2 : ∀ (x3 : Int32) (I : qI), k2 x3 I = some z → g 0 0 2 [(0, .ref this), (1, .int x1), (2, .int x2), (3, .int x3)] [] I X) {k49 : Int32 → Int32 → qI → Option (qI)} (hk49 : ∀ (x3 : Int32) (x4 : Int32) (I : qI), k49 x3 x4 I = some z → g 0 0 49 [(0, .ref this), (1, .int x1), (2, .int x2), (3, .int x3), (4, .int x4)] [] I X) (x3 : Int32) (x4 : Int32) (I : qI) (h : b_X9_goBy_49 this x1 x2 X k2 k49 x3 x4 I = some z) : g 0 0 49 [(0, .ref this), (1, .int x1), (2, .int x2), (3, .int x3), (4, .int x4)] [] I X := by
  unfold b_X9_goBy_49 at h
  refine r_iload hg 4 dX9_goBy_49 rfl ?_
  refine r_aload_n hg 0 dX9_goBy_51 rfl rfl ?_
  have e1 := ly_9_2 hX k_this
  refine r_getR hg dX9_goBy_52 fl_X9_28 k_this rfl e1.1 ?_
  refine r_getI hg dX9_goBy_55 fl_X9_134 e1.2 rfl ?_
  refine r_icmp_ge hg 85 dX9_goBy_58 (by decide) (fun c2 => ?_) (fun c2 => ?_)
  · rw [if_pos c2] at h
    refine r_iconst hg dX9_goBy_85 ci_0 ?_
    refine r_istore hg (L' := [(4, .int (nI 0)), (0, .ref this), (1, .int x1), (2, .int x2), (3, .int x3)]) dX9_goBy_86 (by decide) rfl ?_
    refine r_sub hg [1, 2, 3, 4, 0] rfl ?_
    exact pl_X9_goBy_88 hΓ hg hr hX k_this hk2 _ _ _ _ h
  · rw [if_neg c2] at h
    refine r_aload_n hg 0 dX9_goBy_61 rfl rfl ?_
    have e3 := ly_9_2 hX k_this
    refine r_getR hg dX9_goBy_62 fl_X9_28 k_this rfl e3.1 ?_
    refine r_iload hg 4 dX9_goBy_65 rfl ?_
    obtain ⟨v4, e5, h⟩ := q_b1_some h
    refine r_cV1i hg dX9_goBy_67 mt_X2_isGone ml_X9_144 mv_X2_isGone e3.2 (s_X2_isGone hΓ hX e3.2 e5) (q_room (Nat.le_of_ble_eq_true rfl) (Nat.le_of_ble_eq_true rfl)) ⟨Nat.zero_le _, Nat.zero_le _⟩ (Nat.le_of_ble_eq_true rfl) ?_
    refine r_if_ne hg 79 dX9_goBy_70 (by decide) (fun c6 => ?_) (fun c6 => ?_)
    · rw [if_neg c6] at h
      exact p_X9_goBy_79 hΓ hg hr hX k_this hk2 hk49 _ _ _ h
    · rw [if_pos (Classical.not_not.mp c6)] at h
      refine r_aload_n hg 0 dX9_goBy_73 rfl rfl ?_
      refine r_iload hg 4 dX9_goBy_74 rfl ?_
      obtain ⟨I7, e8, h⟩ := q_b1_some h
      refine r_cV1v hg dX9_goBy_76 mt_X9_eat ml_X9_152 mv_X9_eat k_this (s_X9_eat hΓ hX k_this e8) (q_room (Nat.le_of_ble_eq_true rfl) (Nat.le_of_ble_eq_true rfl)) ⟨Nat.zero_le _, Nat.zero_le _⟩ (Nat.le_of_ble_eq_true rfl) ?_
      exact p_X9_goBy_79 hΓ hg hr hX k_this hk2 hk49 _ _ _ h
theorem pl_X9_goBy_49 {l : Launch} {Γ : qC} {g : qG} {z : qI} {this : Nat} {x1 : Int32} {x2 : Int32} {X : qX} (hΓ : q_gm Γ) (hg : q_Ok l Γ RX9 cX9_goBy 5 (q_rm 7 0 0) "goBy" none g) (hr : q_Rt cX9_goBy none (q_rm 7 0 0) (none, z, X) g) (hX : q_Lay X) (k_this : q_kd X this = some (11, 14)) {k2 : Int32 → qI → Option (qI)} (hk2 : ∀ (x3 : Int32) (I : qI), k2 x3 I = some z → g 0 0 2 [(0, .ref this), (1, .int x1), (2, .int x2), (3, .int x3)] [] I X) : ∀ (n : Nat) (x3 : Int32) (x4 : Int32) (I : qI), q_fix (fun _ _ _ => none) (b_X9_goBy_49 this x1 x2 X k2) n x3 x4 I = some z → g 0 0 49 [(0, .ref this), (1, .int x1), (2, .int x2), (3, .int x3), (4, .int x4)] [] I X := by
  intro n
  induction n with
  | zero =>
    intro x3 x4 I h
    cases (show (none : Option (qI)) = some z from h)
  | succ n ih =>
    intro x3 x4 I h
    exact p_X9_goBy_49 hΓ hg hr hX k_this hk2 ih _ _ _ h
def b_X9_goBy_40 (this : Nat) (x1 : Int32) (x2 : Int32) (X : qX) (k2 : Int32 → qI → Option (qI)) (k10 : Int32 → Int32 → qI → Option (qI)) (x3 : Int32) (x4 : Int32) (I : qI) : Option (qI) :=
  k10 x3 (x4 + (nI 1)) I
set_option maxRecDepth 100000 in
set_option maxHeartbeats 4000000 in
theorem p_X9_goBy_40 {l : Launch} {Γ : qC} {g : qG} {z : qI} {this : Nat} {x1 : Int32} {x2 : Int32} {X : qX} (hΓ : q_gm Γ) (hg : q_Ok l Γ RX9 cX9_goBy 5 (q_rm 7 0 0) "goBy" none g) (hr : q_Rt cX9_goBy none (q_rm 7 0 0) (none, z, X) g) (hX : q_Lay X) (k_this : q_kd X this = some (11, 14)) {k2 : Int32 → qI → Option (qI)} (hk2 : ∀ (x3 : Int32) (I : qI), k2 x3 I = some z → g 0 0 2 [(0, .ref this), (1, .int x1), (2, .int x2), (3, .int x3)] [] I X) {k10 : Int32 → Int32 → qI → Option (qI)} (hk10 : ∀ (x3 : Int32) (x4 : Int32) (I : qI), k10 x3 x4 I = some z → g 0 0 10 [(0, .ref this), (1, .int x1), (2, .int x2), (3, .int x3), (4, .int x4)] [] I X) (x3 : Int32) (x4 : Int32) (I : qI) (h : b_X9_goBy_40 this x1 x2 X k2 k10 x3 x4 I = some z) : g 0 0 40 [(0, .ref this), (1, .int x1), (2, .int x2), (3, .int x3), (4, .int x4)] [] I X := by
  unfold b_X9_goBy_40 at h
  refine r_iinc hg 4 (v := (x4 + (nI 1))) (L' := [(4, .int (x4 + (nI 1))), (0, .ref this), (1, .int x1), (2, .int x2), (3, .int x3)]) dX9_goBy_40 rfl (by rw [ci_1]) (by decide) rfl ?_
  refine r_goto hg 10 dX9_goBy_43 (by decide) ?_
  refine r_sub hg [1, 2, 3, 4, 0] rfl ?_
  exact hk10 _ _ _ h
def b_X9_goBy_10 (this : Nat) (x1 : Int32) (x2 : Int32) (X : qX) (k2 : Int32 → qI → Option (qI)) (k10 : Int32 → Int32 → qI → Option (qI)) (x3 : Int32) (x4 : Int32) (I : qI) : Option (qI) :=
  if (I (this + 12) 14) ≤ x4 then
    q_fix (fun _ _ _ => none) (b_X9_goBy_49 this x1 x2 X k2) q_fu x3 (nI 0) I
  else
    q_b1 (f_X2_isGone (this + 12) x4 I) fun v4 =>
    if v4 = 0 then
      q_b1 (f_X9_dig this x4 X I) fun I7 =>
      b_X9_goBy_40 this x1 x2 X k2 k10 x3 x4 I7
    else
      b_X9_goBy_40 this x1 x2 X k2 k10 x3 x4 I
set_option maxRecDepth 100000 in
set_option maxHeartbeats 4000000 in
theorem p_X9_goBy_10 {l : Launch} {Γ : qC} {g : qG} {z : qI} {this : Nat} {x1 : Int32} {x2 : Int32} {X : qX} (hΓ : q_gm Γ) (hg : q_Ok l Γ RX9 cX9_goBy 5 (q_rm 7 0 0) "goBy" none g) (hr : q_Rt cX9_goBy none (q_rm 7 0 0) (none, z, X) g) (hX : q_Lay X) (k_this : q_kd X this = some (11, 14)) {k2 : Int32 → qI → Option (qI)} (hk2 : ∀ (x3 : Int32) (I : qI), k2 x3 I = some z → g 0 0 2 [(0, .ref this), (1, .int x1), (2, .int x2), (3, .int x3)] [] I X) {k10 : Int32 → Int32 → qI → Option (qI)} (hk10 : ∀ (x3 : Int32) (x4 : Int32) (I : qI), k10 x3 x4 I = some z → g 0 0 10 [(0, .ref this), (1, .int x1), (2, .int x2), (3, .int x3), (4, .int x4)] [] I X) (x3 : Int32) (x4 : Int32) (I : qI) (h : b_X9_goBy_10 this x1 x2 X k2 k10 x3 x4 I = some z) : g 0 0 10 [(0, .ref this), (1, .int x1), (2, .int x2), (3, .int x3), (4, .int x4)] [] I X := by
  unfold b_X9_goBy_10 at h
  refine r_iload hg 4 dX9_goBy_10 rfl ?_
  refine r_aload_n hg 0 dX9_goBy_12 rfl rfl ?_
  have e1 := ly_9_2 hX k_this
  refine r_getR hg dX9_goBy_13 fl_X9_28 k_this rfl e1.1 ?_
  refine r_getI hg dX9_goBy_16 fl_X9_134 e1.2 rfl ?_
  refine r_icmp_ge hg 46 dX9_goBy_19 (by decide) (fun c2 => ?_) (fun c2 => ?_)
  · rw [if_pos c2] at h
    refine r_iconst hg dX9_goBy_46 ci_0 ?_
    refine r_istore hg (L' := [(4, .int (nI 0)), (0, .ref this), (1, .int x1), (2, .int x2), (3, .int x3)]) dX9_goBy_47 (by decide) rfl ?_
    refine r_sub hg [1, 2, 3, 4, 0] rfl ?_
    exact pl_X9_goBy_49 hΓ hg hr hX k_this hk2 _ _ _ _ h
  · rw [if_neg c2] at h
    refine r_aload_n hg 0 dX9_goBy_22 rfl rfl ?_
    have e3 := ly_9_2 hX k_this
    refine r_getR hg dX9_goBy_23 fl_X9_28 k_this rfl e3.1 ?_
    refine r_iload hg 4 dX9_goBy_26 rfl ?_
    obtain ⟨v4, e5, h⟩ := q_b1_some h
    refine r_cV1i hg dX9_goBy_28 mt_X2_isGone ml_X9_144 mv_X2_isGone e3.2 (s_X2_isGone hΓ hX e3.2 e5) (q_room (Nat.le_of_ble_eq_true rfl) (Nat.le_of_ble_eq_true rfl)) ⟨Nat.zero_le _, Nat.zero_le _⟩ (Nat.le_of_ble_eq_true rfl) ?_
    refine r_if_ne hg 40 dX9_goBy_31 (by decide) (fun c6 => ?_) (fun c6 => ?_)
    · rw [if_neg c6] at h
      exact p_X9_goBy_40 hΓ hg hr hX k_this hk2 hk10 _ _ _ h
    · rw [if_pos (Classical.not_not.mp c6)] at h
      refine r_aload_n hg 0 dX9_goBy_34 rfl rfl ?_
      refine r_iload hg 4 dX9_goBy_35 rfl ?_
      obtain ⟨I7, e8, h⟩ := q_b1_some h
      refine r_cV1v hg dX9_goBy_37 mt_X9_dig ml_X9_148 mv_X9_dig k_this (s_X9_dig hΓ hX k_this e8) (q_room (Nat.le_of_ble_eq_true rfl) (Nat.le_of_ble_eq_true rfl)) ⟨Nat.zero_le _, Nat.zero_le _⟩ (Nat.le_of_ble_eq_true rfl) ?_
      exact p_X9_goBy_40 hΓ hg hr hX k_this hk2 hk10 _ _ _ h
theorem pl_X9_goBy_10 {l : Launch} {Γ : qC} {g : qG} {z : qI} {this : Nat} {x1 : Int32} {x2 : Int32} {X : qX} (hΓ : q_gm Γ) (hg : q_Ok l Γ RX9 cX9_goBy 5 (q_rm 7 0 0) "goBy" none g) (hr : q_Rt cX9_goBy none (q_rm 7 0 0) (none, z, X) g) (hX : q_Lay X) (k_this : q_kd X this = some (11, 14)) {k2 : Int32 → qI → Option (qI)} (hk2 : ∀ (x3 : Int32) (I : qI), k2 x3 I = some z → g 0 0 2 [(0, .ref this), (1, .int x1), (2, .int x2), (3, .int x3)] [] I X) : ∀ (n : Nat) (x3 : Int32) (x4 : Int32) (I : qI), q_fix (fun _ _ _ => none) (b_X9_goBy_10 this x1 x2 X k2) n x3 x4 I = some z → g 0 0 10 [(0, .ref this), (1, .int x1), (2, .int x2), (3, .int x3), (4, .int x4)] [] I X := by
  intro n
  induction n with
  | zero =>
    intro x3 x4 I h
    cases (show (none : Option (qI)) = some z from h)
  | succ n ih =>
    intro x3 x4 I h
    exact p_X9_goBy_10 hΓ hg hr hX k_this hk2 ih _ _ _ h
def b_X9_goBy_2 (this : Nat) (x1 : Int32) (x2 : Int32) (X : qX) (k2 : Int32 → qI → Option (qI)) (x3 : Int32) (I : qI) : Option (qI) :=
  if x1 ≤ x3 then
    some (I)
  else
    q_fix (fun _ _ _ => none) (b_X9_goBy_10 this x1 x2 X k2) q_fu x3 (nI 0) I
set_option maxRecDepth 100000 in
set_option maxHeartbeats 4000000 in
theorem p_X9_goBy_2 {l : Launch} {Γ : qC} {g : qG} {z : qI} {this : Nat} {x1 : Int32} {x2 : Int32} {X : qX} (hΓ : q_gm Γ) (hg : q_Ok l Γ RX9 cX9_goBy 5 (q_rm 7 0 0) "goBy" none g) (hr : q_Rt cX9_goBy none (q_rm 7 0 0) (none, z, X) g) (hX : q_Lay X) (k_this : q_kd X this = some (11, 14)) {k2 : Int32 → qI → Option (qI)} (hk2 : ∀ (x3 : Int32) (I : qI), k2 x3 I = some z → g 0 0 2 [(0, .ref this), (1, .int x1), (2, .int x2), (3, .int x3)] [] I X) (x3 : Int32) (I : qI) (h : b_X9_goBy_2 this x1 x2 X k2 x3 I = some z) : g 0 0 2 [(0, .ref this), (1, .int x1), (2, .int x2), (3, .int x3)] [] I X := by
  unfold b_X9_goBy_2 at h
  refine r_iload_n hg 3 dX9_goBy_2 rfl rfl ?_
  refine r_iload_n hg 1 dX9_goBy_3 rfl rfl ?_
  refine r_icmp_ge hg 145 dX9_goBy_4 (by decide) (fun c1 => ?_) (fun c1 => ?_)
  · rw [if_pos c1] at h
    exact r_return hr dX9_goBy_145 ⟨Nat.zero_le _, Nat.zero_le _⟩ rfl (by cases h; rfl)
  · rw [if_neg c1] at h
    refine r_iconst hg dX9_goBy_7 ci_0 ?_
    refine r_istore hg (L' := [(4, .int (nI 0)), (0, .ref this), (1, .int x1), (2, .int x2), (3, .int x3)]) dX9_goBy_8 (by decide) rfl ?_
    refine r_sub hg [1, 2, 3, 4, 0] rfl ?_
    exact pl_X9_goBy_10 hΓ hg hr hX k_this hk2 _ _ _ _ h
theorem pl_X9_goBy_2 {l : Launch} {Γ : qC} {g : qG} {z : qI} {this : Nat} {x1 : Int32} {x2 : Int32} {X : qX} (hΓ : q_gm Γ) (hg : q_Ok l Γ RX9 cX9_goBy 5 (q_rm 7 0 0) "goBy" none g) (hr : q_Rt cX9_goBy none (q_rm 7 0 0) (none, z, X) g) (hX : q_Lay X) (k_this : q_kd X this = some (11, 14)) : ∀ (n : Nat) (x3 : Int32) (I : qI), q_fix (fun _ _ => none) (b_X9_goBy_2 this x1 x2 X) n x3 I = some z → g 0 0 2 [(0, .ref this), (1, .int x1), (2, .int x2), (3, .int x3)] [] I X := by
  intro n
  induction n with
  | zero =>
    intro x3 I h
    cases (show (none : Option (qI)) = some z from h)
  | succ n ih =>
    intro x3 I h
    exact p_X9_goBy_2 hΓ hg hr hX k_this ih _ _ h
def f_X9_goBy (this : Nat) (x1 : Int32) (x2 : Int32) (X : qX) (I : qI) : Option (qI) :=
  q_fix (fun _ _ => none) (b_X9_goBy_2 this x1 x2 X) q_fu (nI 0) I
set_option maxRecDepth 100000 in
set_option maxHeartbeats 4000000 in
theorem s_X9_goBy {l : Launch} {Γ : qC} (hΓ : q_gm Γ) {X : qX} (hX : q_Lay X) {this : Nat} {x1 : Int32} {x2 : Int32} (k_this : q_kd X this = some (11, 14)) {I : qI} {z : qI} (h : f_X9_goBy this x1 x2 X I = some z) : q_Sem l Γ (q_rm 7 0 0) yX9_goBy cX9_goBy 5 none [.ref this, .int x1, .int x2] I X (none, z, X) := by
  refine q_met (by decide) (Nat.le_of_ble_eq_true rfl) (fun g hg hr => ?_)
  unfold f_X9_goBy at h
  show g 0 0 0 [(0, .ref this), (1, .int x1), (2, .int x2)] [] I X
  refine r_iconst hg dX9_goBy_0 ci_0 ?_
  refine r_istore_n hg (L' := [(3, .int (nI 0)), (0, .ref this), (1, .int x1), (2, .int x2)]) dX9_goBy_1 rfl (by decide) rfl ?_
  refine r_sub hg [1, 2, 3, 0] rfl ?_
  exact pl_X9_goBy_2 hΓ hg hr hX k_this _ _ _ h
