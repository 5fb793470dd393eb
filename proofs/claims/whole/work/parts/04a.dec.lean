theorem dX0_init_0 : decode cX0_init 0 = .ok (.aload_n 0, 1) := by decide +kernel
theorem dX0_init_1 : decode cX0_init 1 = .ok (.invokespecial 3, 3) := by decide +kernel
theorem dX0_init_4 : decode cX0_init 4 = .ok (.aload_n 0, 1) := by decide +kernel
theorem dX0_init_5 : decode cX0_init 5 = .ok (.iconst 4, 1) := by decide +kernel
theorem dX0_init_6 : decode cX0_init 6 = .ok (.newarray .int, 2) := by decide +kernel
theorem dX0_init_8 : decode cX0_init 8 = .ok (.putfield 9, 3) := by decide +kernel
theorem dX0_init_11 : decode cX0_init 11 = .ok (.aload_n 0, 1) := by decide +kernel
theorem dX0_init_12 : decode cX0_init 12 = .ok (.iload_n 1, 1) := by decide +kernel
theorem dX0_init_13 : decode cX0_init 13 = .ok (.putfield 15, 3) := by decide +kernel
theorem dX0_init_16 : decode cX0_init 16 = .ok (.aload_n 0, 1) := by decide +kernel
theorem dX0_init_17 : decode cX0_init 17 = .ok (.iload_n 1, 1) := by decide +kernel
theorem dX0_init_18 : decode cX0_init 18 = .ok (.iconst 4, 1) := by decide +kernel
theorem dX0_init_19 : decode cX0_init 19 = .ok (.imul, 1) := by decide +kernel
theorem dX0_init_20 : decode cX0_init 20 = .ok (.newarray .int, 2) := by decide +kernel
theorem dX0_init_22 : decode cX0_init 22 = .ok (.putfield 19, 3) := by decide +kernel
theorem dX0_init_25 : decode cX0_init 25 = .ok (.return_, 1) := by decide +kernel
theorem dX0_copyFrom_0 : decode cX0_copyFrom 0 = .ok (.aload_n 0, 1) := by decide +kernel
theorem dX0_copyFrom_1 : decode cX0_copyFrom 1 = .ok (.aload_n 1, 1) := by decide +kernel
theorem dX0_copyFrom_2 : decode cX0_copyFrom 2 = .ok (.getfield 22, 3) := by decide +kernel
theorem dX0_copyFrom_5 : decode cX0_copyFrom 5 = .ok (.putfield 22, 3) := by decide +kernel
theorem dX0_copyFrom_8 : decode cX0_copyFrom 8 = .ok (.aload_n 1, 1) := by decide +kernel
theorem dX0_copyFrom_9 : decode cX0_copyFrom 9 = .ok (.getfield 9, 3) := by decide +kernel
theorem dX0_copyFrom_12 : decode cX0_copyFrom 12 = .ok (.iconst 0, 1) := by decide +kernel
theorem dX0_copyFrom_13 : decode cX0_copyFrom 13 = .ok (.aload_n 0, 1) := by decide +kernel
theorem dX0_copyFrom_14 : decode cX0_copyFrom 14 = .ok (.getfield 9, 3) := by decide +kernel
theorem dX0_copyFrom_17 : decode cX0_copyFrom 17 = .ok (.iconst 0, 1) := by decide +kernel
theorem dX0_copyFrom_18 : decode cX0_copyFrom 18 = .ok (.iconst 4, 1) := by decide +kernel
theorem dX0_copyFrom_19 : decode cX0_copyFrom 19 = .ok (.invokestatic 25, 3) := by decide +kernel
theorem dX0_copyFrom_22 : decode cX0_copyFrom 22 = .ok (.aload_n 1, 1) := by decide +kernel
theorem dX0_copyFrom_23 : decode cX0_copyFrom 23 = .ok (.invokevirtual 31, 3) := by decide +kernel
theorem dX0_copyFrom_26 : decode cX0_copyFrom 26 = .ok (.iconst 4, 1) := by decide +kernel
theorem dX0_copyFrom_27 : decode cX0_copyFrom 27 = .ok (.imul, 1) := by decide +kernel
theorem dX0_copyFrom_28 : decode cX0_copyFrom 28 = .ok (.aload_n 0, 1) := by decide +kernel
theorem dX0_copyFrom_29 : decode cX0_copyFrom 29 = .ok (.getfield 19, 3) := by decide +kernel
theorem dX0_copyFrom_32 : decode cX0_copyFrom 32 = .ok (.arraylength, 1) := by decide +kernel
theorem dX0_copyFrom_33 : decode cX0_copyFrom 33 = .ok (.invokestatic 35, 3) := by decide +kernel
theorem dX0_copyFrom_36 : decode cX0_copyFrom 36 = .ok (.istore_n 2, 1) := by decide +kernel
theorem dX0_copyFrom_37 : decode cX0_copyFrom 37 = .ok (.aload_n 1, 1) := by decide +kernel
theorem dX0_copyFrom_38 : decode cX0_copyFrom 38 = .ok (.getfield 19, 3) := by decide +kernel
theorem dX0_copyFrom_41 : decode cX0_copyFrom 41 = .ok (.iconst 0, 1) := by decide +kernel
theorem dX0_copyFrom_42 : decode cX0_copyFrom 42 = .ok (.aload_n 0, 1) := by decide +kernel
theorem dX0_copyFrom_43 : decode cX0_copyFrom 43 = .ok (.getfield 19, 3) := by decide +kernel
theorem dX0_copyFrom_46 : decode cX0_copyFrom 46 = .ok (.iconst 0, 1) := by decide +kernel
theorem dX0_copyFrom_47 : decode cX0_copyFrom 47 = .ok (.iload_n 2, 1) := by decide +kernel
theorem dX0_copyFrom_48 : decode cX0_copyFrom 48 = .ok (.invokestatic 25, 3) := by decide +kernel
theorem dX0_copyFrom_51 : decode cX0_copyFrom 51 = .ok (.return_, 1) := by decide +kernel
theorem dX0_kept_0 : decode cX0_kept 0 = .ok (.aload_n 0, 1) := by decide +kernel
theorem dX0_kept_1 : decode cX0_kept 1 = .ok (.getfield 22, 3) := by decide +kernel
theorem dX0_kept_4 : decode cX0_kept 4 = .ok (.aload_n 0, 1) := by decide +kernel
theorem dX0_kept_5 : decode cX0_kept 5 = .ok (.getfield 15, 3) := by decide +kernel
theorem dX0_kept_8 : decode cX0_kept 8 = .ok (.invokestatic 35, 3) := by decide +kernel
theorem dX0_kept_11 : decode cX0_kept 11 = .ok (.ireturn, 1) := by decide +kernel
theorem dX0_first_0 : decode cX0_first 0 = .ok (.aload_n 0, 1) := by decide +kernel
theorem dX0_first_1 : decode cX0_first 1 = .ok (.getfield 22, 3) := by decide +kernel
theorem dX0_first_4 : decode cX0_first 4 = .ok (.aload_n 0, 1) := by decide +kernel
theorem dX0_first_5 : decode cX0_first 5 = .ok (.invokevirtual 31, 3) := by decide +kernel
theorem dX0_first_8 : decode cX0_first 8 = .ok (.isub, 1) := by decide +kernel
theorem dX0_first_9 : decode cX0_first 9 = .ok (.ireturn, 1) := by decide +kernel
theorem dX0_has_0 : decode cX0_has 0 = .ok (.iload_n 1, 1) := by decide +kernel
theorem dX0_has_1 : decode cX0_has 1 = .ok (.aload_n 0, 1) := by decide +kernel
theorem dX0_has_2 : decode cX0_has 2 = .ok (.invokevirtual 41, 3) := by decide +kernel
theorem dX0_has_5 : decode cX0_has 5 = .ok (.if_icmp .lt 15, 3) := by decide +kernel
theorem dX0_has_8 : decode cX0_has 8 = .ok (.iload_n 1, 1) := by decide +kernel
theorem dX0_has_9 : decode cX0_has 9 = .ok (.aload_n 0, 1) := by decide +kernel
theorem dX0_has_10 : decode cX0_has 10 = .ok (.getfield 22, 3) := by decide +kernel
theorem dX0_has_13 : decode cX0_has 13 = .ok (.if_icmp .ge 7, 3) := by decide +kernel
theorem dX0_has_16 : decode cX0_has 16 = .ok (.iconst 1, 1) := by decide +kernel
theorem dX0_has_17 : decode cX0_has 17 = .ok (.goto 4, 3) := by decide +kernel
theorem dX0_has_20 : decode cX0_has 20 = .ok (.iconst 0, 1) := by decide +kernel
theorem dX0_has_21 : decode cX0_has 21 = .ok (.ireturn, 1) := by decide +kernel
theorem dX0_at_0 : decode cX0_at 0 = .ok (.iload_n 2, 1) := by decide +kernel
theorem dX0_at_1 : decode cX0_at 1 = .ok (.ifCond .ge 12, 3) := by decide +kernel
theorem dX0_at_4 : decode cX0_at 4 = .ok (.aload_n 0, 1) := by decide +kernel
theorem dX0_at_5 : decode cX0_at 5 = .ok (.getfield 9, 3) := by decide +kernel
theorem dX0_at_8 : decode cX0_at 8 = .ok (.iload_n 1, 1) := by decide +kernel
theorem dX0_at_9 : decode cX0_at 9 = .ok (.iaload, 1) := by decide +kernel
theorem dX0_at_10 : decode cX0_at 10 = .ok (.goto 18, 3) := by decide +kernel
theorem dX0_at_13 : decode cX0_at 13 = .ok (.aload_n 0, 1) := by decide +kernel
theorem dX0_at_14 : decode cX0_at 14 = .ok (.getfield 19, 3) := by decide +kernel
theorem dX0_at_17 : decode cX0_at 17 = .ok (.iload_n 2, 1) := by decide +kernel
theorem dX0_at_18 : decode cX0_at 18 = .ok (.aload_n 0, 1) := by decide +kernel
theorem dX0_at_19 : decode cX0_at 19 = .ok (.getfield 15, 3) := by decide +kernel
theorem dX0_at_22 : decode cX0_at 22 = .ok (.irem, 1) := by decide +kernel
theorem dX0_at_23 : decode cX0_at 23 = .ok (.iconst 4, 1) := by decide +kernel
theorem dX0_at_24 : decode cX0_at 24 = .ok (.imul, 1) := by decide +kernel
theorem dX0_at_25 : decode cX0_at 25 = .ok (.iload_n 1, 1) := by decide +kernel
theorem dX0_at_26 : decode cX0_at 26 = .ok (.iadd, 1) := by decide +kernel
theorem dX0_at_27 : decode cX0_at 27 = .ok (.iaload, 1) := by decide +kernel
theorem dX0_at_28 : decode cX0_at 28 = .ok (.ireturn, 1) := by decide +kernel
theorem dX0_add_0 : decode cX0_add 0 = .ok (.aload_n 1, 1) := by decide +kernel
theorem dX0_add_1 : decode cX0_add 1 = .ok (.iconst 0, 1) := by decide +kernel
theorem dX0_add_2 : decode cX0_add 2 = .ok (.aload_n 0, 1) := by decide +kernel
theorem dX0_add_3 : decode cX0_add 3 = .ok (.getfield 19, 3) := by decide +kernel
theorem dX0_add_6 : decode cX0_add 6 = .ok (.aload_n 0, 1) := by decide +kernel
theorem dX0_add_7 : decode cX0_add 7 = .ok (.getfield 22, 3) := by decide +kernel
theorem dX0_add_10 : decode cX0_add 10 = .ok (.aload_n 0, 1) := by decide +kernel
theorem dX0_add_11 : decode cX0_add 11 = .ok (.getfield 15, 3) := by decide +kernel
theorem dX0_add_14 : decode cX0_add 14 = .ok (.irem, 1) := by decide +kernel
theorem dX0_add_15 : decode cX0_add 15 = .ok (.iconst 4, 1) := by decide +kernel
theorem dX0_add_16 : decode cX0_add 16 = .ok (.imul, 1) := by decide +kernel
theorem dX0_add_17 : decode cX0_add 17 = .ok (.iconst 4, 1) := by decide +kernel
theorem dX0_add_18 : decode cX0_add 18 = .ok (.invokestatic 25, 3) := by decide +kernel
theorem dX0_add_21 : decode cX0_add 21 = .ok (.aload_n 0, 1) := by decide +kernel
theorem dX0_add_22 : decode cX0_add 22 = .ok (.dup, 1) := by decide +kernel
theorem dX0_add_23 : decode cX0_add 23 = .ok (.getfield 22, 3) := by decide +kernel
theorem dX0_add_26 : decode cX0_add 26 = .ok (.iconst 1, 1) := by decide +kernel
theorem dX0_add_27 : decode cX0_add 27 = .ok (.iadd, 1) := by decide +kernel
theorem dX0_add_28 : decode cX0_add 28 = .ok (.putfield 22, 3) := by decide +kernel
theorem dX0_add_31 : decode cX0_add 31 = .ok (.return_, 1) := by decide +kernel
theorem dX0_leastRound_0 : decode cX0_leastRound 0 = .ok (.iconst 1, 1) := by decide +kernel
theorem dX0_leastRound_1 : decode cX0_leastRound 1 = .ok (.istore_n 2, 1) := by decide +kernel
theorem dX0_leastRound_2 : decode cX0_leastRound 2 = .ok (.iload_n 2, 1) := by decide +kernel
theorem dX0_leastRound_3 : decode cX0_leastRound 3 = .ok (.bipush 100, 2) := by decide +kernel
theorem dX0_leastRound_5 : decode cX0_leastRound 5 = .ok (.if_icmp .gt 30, 3) := by decide +kernel
theorem dX0_leastRound_8 : decode cX0_leastRound 8 = .ok (.iconst 2, 1) := by decide +kernel
theorem dX0_leastRound_9 : decode cX0_leastRound 9 = .ok (.iload_n 2, 1) := by decide +kernel
theorem dX0_leastRound_10 : decode cX0_leastRound 10 = .ok (.imul, 1) := by decide +kernel
theorem dX0_leastRound_11 : decode cX0_leastRound 11 = .ok (.aload_n 0, 1) := by decide +kernel
theorem dX0_leastRound_12 : decode cX0_leastRound 12 = .ok (.invokevirtual 31, 3) := by decide +kernel
theorem dX0_leastRound_15 : decode cX0_leastRound 15 = .ok (.if_icmp .gt 20, 3) := by decide +kernel
theorem dX0_leastRound_18 : decode cX0_leastRound 18 = .ok (.aload_n 0, 1) := by decide +kernel
theorem dX0_leastRound_19 : decode cX0_leastRound 19 = .ok (.iload_n 2, 1) := by decide +kernel
theorem dX0_leastRound_20 : decode cX0_leastRound 20 = .ok (.iload_n 1, 1) := by decide +kernel
theorem dX0_leastRound_21 : decode cX0_leastRound 21 = .ok (.invokevirtual 44, 3) := by decide +kernel
theorem dX0_leastRound_24 : decode cX0_leastRound 24 = .ok (.ifCond .eq 5, 3) := by decide +kernel
theorem dX0_leastRound_27 : decode cX0_leastRound 27 = .ok (.iload_n 2, 1) := by decide +kernel
theorem dX0_leastRound_28 : decode cX0_leastRound 28 = .ok (.ireturn, 1) := by decide +kernel
theorem dX0_leastRound_29 : decode cX0_leastRound 29 = .ok (.iinc 2 1, 3) := by decide +kernel
theorem dX0_leastRound_32 : decode cX0_leastRound 32 = .ok (.goto (-30), 3) := by decide +kernel
theorem dX0_leastRound_35 : decode cX0_leastRound 35 = .ok (.iconst (-1), 1) := by decide +kernel
theorem dX0_leastRound_36 : decode cX0_leastRound 36 = .ok (.ireturn, 1) := by decide +kernel
theorem dX0_isRound_0 : decode cX0_isRound 0 = .ok (.aload_n 0, 1) := by decide +kernel
theorem dX0_isRound_1 : decode cX0_isRound 1 = .ok (.getfield 22, 3) := by decide +kernel
theorem dX0_isRound_4 : decode cX0_isRound 4 = .ok (.iload_n 1, 1) := by decide +kernel
theorem dX0_isRound_5 : decode cX0_isRound 5 = .ok (.isub, 1) := by decide +kernel
theorem dX0_isRound_6 : decode cX0_isRound 6 = .ok (.istore_n 3, 1) := by decide +kernel
theorem dX0_isRound_7 : decode cX0_isRound 7 = .ok (.iload_n 3, 1) := by decide +kernel
theorem dX0_isRound_8 : decode cX0_isRound 8 = .ok (.aload_n 0, 1) := by decide +kernel
theorem dX0_isRound_9 : decode cX0_isRound 9 = .ok (.getfield 22, 3) := by decide +kernel
theorem dX0_isRound_12 : decode cX0_isRound 12 = .ok (.if_icmp .ge 45, 3) := by decide +kernel
theorem dX0_isRound_15 : decode cX0_isRound 15 = .ok (.iconst 0, 1) := by decide +kernel
theorem dX0_isRound_16 : decode cX0_isRound 16 = .ok (.istore 4, 2) := by decide +kernel
theorem dX0_isRound_18 : decode cX0_isRound 18 = .ok (.iload 4, 2) := by decide +kernel
theorem dX0_isRound_20 : decode cX0_isRound 20 = .ok (.iload_n 2, 1) := by decide +kernel
theorem dX0_isRound_21 : decode cX0_isRound 21 = .ok (.if_icmp .ge 30, 3) := by decide +kernel
theorem dX0_isRound_24 : decode cX0_isRound 24 = .ok (.aload_n 0, 1) := by decide +kernel
theorem dX0_isRound_25 : decode cX0_isRound 25 = .ok (.iload 4, 2) := by decide +kernel
theorem dX0_isRound_27 : decode cX0_isRound 27 = .ok (.iload_n 3, 1) := by decide +kernel
theorem dX0_isRound_28 : decode cX0_isRound 28 = .ok (.invokevirtual 48, 3) := by decide +kernel
theorem dX0_isRound_31 : decode cX0_isRound 31 = .ok (.aload_n 0, 1) := by decide +kernel
theorem dX0_isRound_32 : decode cX0_isRound 32 = .ok (.iload 4, 2) := by decide +kernel
theorem dX0_isRound_34 : decode cX0_isRound 34 = .ok (.iload_n 3, 1) := by decide +kernel
theorem dX0_isRound_35 : decode cX0_isRound 35 = .ok (.iload_n 1, 1) := by decide +kernel
theorem dX0_isRound_36 : decode cX0_isRound 36 = .ok (.isub, 1) := by decide +kernel
theorem dX0_isRound_37 : decode cX0_isRound 37 = .ok (.invokevirtual 48, 3) := by decide +kernel
theorem dX0_isRound_40 : decode cX0_isRound 40 = .ok (.if_icmp .eq 5, 3) := by decide +kernel
theorem dX0_isRound_43 : decode cX0_isRound 43 = .ok (.iconst 0, 1) := by decide +kernel
theorem dX0_isRound_44 : decode cX0_isRound 44 = .ok (.ireturn, 1) := by decide +kernel
theorem dX0_isRound_45 : decode cX0_isRound 45 = .ok (.iinc 4 1, 3) := by decide +kernel
theorem dX0_isRound_48 : decode cX0_isRound 48 = .ok (.goto (-30), 3) := by decide +kernel
theorem dX0_isRound_51 : decode cX0_isRound 51 = .ok (.iinc 3 1, 3) := by decide +kernel
theorem dX0_isRound_54 : decode cX0_isRound 54 = .ok (.goto (-47), 3) := by decide +kernel
theorem dX0_isRound_57 : decode cX0_isRound 57 = .ok (.iconst 1, 1) := by decide +kernel
theorem dX0_isRound_58 : decode cX0_isRound 58 = .ok (.ireturn, 1) := by decide +kernel
theorem dX0_wentUp_0 : decode cX0_wentUp 0 = .ok (.aload_n 0, 1) := by decide +kernel
theorem dX0_wentUp_1 : decode cX0_wentUp 1 = .ok (.iload_n 1, 1) := by decide +kernel
theorem dX0_wentUp_2 : decode cX0_wentUp 2 = .ok (.iload_n 2, 1) := by decide +kernel
theorem dX0_wentUp_3 : decode cX0_wentUp 3 = .ok (.invokevirtual 48, 3) := by decide +kernel
theorem dX0_wentUp_6 : decode cX0_wentUp 6 = .ok (.aload_n 0, 1) := by decide +kernel
theorem dX0_wentUp_7 : decode cX0_wentUp 7 = .ok (.iload_n 1, 1) := by decide +kernel
theorem dX0_wentUp_8 : decode cX0_wentUp 8 = .ok (.iload_n 2, 1) := by decide +kernel
theorem dX0_wentUp_9 : decode cX0_wentUp 9 = .ok (.iconst 1, 1) := by decide +kernel
theorem dX0_wentUp_10 : decode cX0_wentUp 10 = .ok (.isub, 1) := by decide +kernel
theorem dX0_wentUp_11 : decode cX0_wentUp 11 = .ok (.invokevirtual 48, 3) := by decide +kernel
theorem dX0_wentUp_14 : decode cX0_wentUp 14 = .ok (.if_icmp .le 7, 3) := by decide +kernel
theorem dX0_wentUp_17 : decode cX0_wentUp 17 = .ok (.iconst 1, 1) := by decide +kernel
theorem dX0_wentUp_18 : decode cX0_wentUp 18 = .ok (.goto 4, 3) := by decide +kernel
theorem dX0_wentUp_21 : decode cX0_wentUp 21 = .ok (.iconst 0, 1) := by decide +kernel
theorem dX0_wentUp_22 : decode cX0_wentUp 22 = .ok (.ireturn, 1) := by decide +kernel
theorem dX0_isLead_0 : decode cX0_isLead 0 = .ok (.iconst 0, 1) := by decide +kernel
theorem dX0_isLead_1 : decode cX0_isLead 1 = .ok (.istore 4, 2) := by decide +kernel
theorem dX0_isLead_3 : decode cX0_isLead 3 = .ok (.iload 4, 2) := by decide +kernel
theorem dX0_isLead_5 : decode cX0_isLead 5 = .ok (.iload_n 3, 1) := by decide +kernel
theorem dX0_isLead_6 : decode cX0_isLead 6 = .ok (.if_icmp .ge 44, 3) := by decide +kernel
theorem dX0_isLead_9 : decode cX0_isLead 9 = .ok (.aload_n 0, 1) := by decide +kernel
theorem dX0_isLead_10 : decode cX0_isLead 10 = .ok (.iload 4, 2) := by decide +kernel
theorem dX0_isLead_12 : decode cX0_isLead 12 = .ok (.iload_n 2, 1) := by decide +kernel
theorem dX0_isLead_13 : decode cX0_isLead 13 = .ok (.invokevirtual 51, 3) := by decide +kernel
theorem dX0_isLead_16 : decode cX0_isLead 16 = .ok (.iload 4, 2) := by decide +kernel
theorem dX0_isLead_18 : decode cX0_isLead 18 = .ok (.iload_n 1, 1) := by decide +kernel
theorem dX0_isLead_19 : decode cX0_isLead 19 = .ok (.if_icmp .ne 7, 3) := by decide +kernel
theorem dX0_isLead_22 : decode cX0_isLead 22 = .ok (.iconst 1, 1) := by decide +kernel
theorem dX0_isLead_23 : decode cX0_isLead 23 = .ok (.goto 4, 3) := by decide +kernel
theorem dX0_isLead_26 : decode cX0_isLead 26 = .ok (.iconst 0, 1) := by decide +kernel
theorem dX0_isLead_27 : decode cX0_isLead 27 = .ok (.if_icmp .ne 15, 3) := by decide +kernel
theorem dX0_isLead_30 : decode cX0_isLead 30 = .ok (.aload_n 0, 1) := by decide +kernel
theorem dX0_isLead_31 : decode cX0_isLead 31 = .ok (.iload 4, 2) := by decide +kernel
theorem dX0_isLead_33 : decode cX0_isLead 33 = .ok (.iload_n 2, 1) := by decide +kernel
theorem dX0_isLead_34 : decode cX0_isLead 34 = .ok (.iconst 1, 1) := by decide +kernel
theorem dX0_isLead_35 : decode cX0_isLead 35 = .ok (.isub, 1) := by decide +kernel
theorem dX0_isLead_36 : decode cX0_isLead 36 = .ok (.invokevirtual 51, 3) := by decide +kernel
theorem dX0_isLead_39 : decode cX0_isLead 39 = .ok (.ifCond .eq 5, 3) := by decide +kernel
theorem dX0_isLead_42 : decode cX0_isLead 42 = .ok (.iconst 0, 1) := by decide +kernel
theorem dX0_isLead_43 : decode cX0_isLead 43 = .ok (.ireturn, 1) := by decide +kernel
theorem dX0_isLead_44 : decode cX0_isLead 44 = .ok (.iinc 4 1, 3) := by decide +kernel
theorem dX0_isLead_47 : decode cX0_isLead 47 = .ok (.goto (-44), 3) := by decide +kernel
theorem dX0_isLead_50 : decode cX0_isLead 50 = .ok (.iconst 1, 1) := by decide +kernel
theorem dX0_isLead_51 : decode cX0_isLead 51 = .ok (.ireturn, 1) := by decide +kernel
theorem dX0_isFollowed_0 : decode cX0_isFollowed 0 = .ok (.aload_n 0, 1) := by decide +kernel
theorem dX0_isFollowed_1 : decode cX0_isFollowed 1 = .ok (.iload_n 2, 1) := by decide +kernel
theorem dX0_isFollowed_2 : decode cX0_isFollowed 2 = .ok (.bipush 6, 2) := by decide +kernel
theorem dX0_isFollowed_4 : decode cX0_isFollowed 4 = .ok (.iadd, 1) := by decide +kernel
theorem dX0_isFollowed_5 : decode cX0_isFollowed 5 = .ok (.invokevirtual 54, 3) := by decide +kernel
theorem dX0_isFollowed_8 : decode cX0_isFollowed 8 = .ok (.ifCond .ne 5, 3) := by decide +kernel
theorem dX0_isFollowed_11 : decode cX0_isFollowed 11 = .ok (.iconst 0, 1) := by decide +kernel
theorem dX0_isFollowed_12 : decode cX0_isFollowed 12 = .ok (.ireturn, 1) := by decide +kernel
theorem dX0_isFollowed_13 : decode cX0_isFollowed 13 = .ok (.iconst 0, 1) := by decide +kernel
theorem dX0_isFollowed_14 : decode cX0_isFollowed 14 = .ok (.istore 4, 2) := by decide +kernel
theorem dX0_isFollowed_16 : decode cX0_isFollowed 16 = .ok (.iload 4, 2) := by decide +kernel
theorem dX0_isFollowed_18 : decode cX0_isFollowed 18 = .ok (.iload_n 3, 1) := by decide +kernel
theorem dX0_isFollowed_19 : decode cX0_isFollowed 19 = .ok (.if_icmp .ge 27, 3) := by decide +kernel
theorem dX0_isFollowed_22 : decode cX0_isFollowed 22 = .ok (.iload 4, 2) := by decide +kernel
theorem dX0_isFollowed_24 : decode cX0_isFollowed 24 = .ok (.iload_n 1, 1) := by decide +kernel
theorem dX0_isFollowed_25 : decode cX0_isFollowed 25 = .ok (.if_icmp .eq 15, 3) := by decide +kernel
theorem dX0_isFollowed_28 : decode cX0_isFollowed 28 = .ok (.aload_n 0, 1) := by decide +kernel
theorem dX0_isFollowed_29 : decode cX0_isFollowed 29 = .ok (.iload 4, 2) := by decide +kernel
theorem dX0_isFollowed_31 : decode cX0_isFollowed 31 = .ok (.iload_n 2, 1) := by decide +kernel
theorem dX0_isFollowed_32 : decode cX0_isFollowed 32 = .ok (.invokevirtual 58, 3) := by decide +kernel
theorem dX0_isFollowed_35 : decode cX0_isFollowed 35 = .ok (.ifCond .ne 5, 3) := by decide +kernel
theorem dX0_isFollowed_38 : decode cX0_isFollowed 38 = .ok (.iconst 0, 1) := by decide +kernel
theorem dX0_isFollowed_39 : decode cX0_isFollowed 39 = .ok (.ireturn, 1) := by decide +kernel
theorem dX0_isFollowed_40 : decode cX0_isFollowed 40 = .ok (.iinc 4 1, 3) := by decide +kernel
theorem dX0_isFollowed_43 : decode cX0_isFollowed 43 = .ok (.goto (-27), 3) := by decide +kernel
theorem dX0_isFollowed_46 : decode cX0_isFollowed 46 = .ok (.iconst 1, 1) := by decide +kernel
theorem dX0_isFollowed_47 : decode cX0_isFollowed 47 = .ok (.ireturn, 1) := by decide +kernel
theorem dX0_wentUpBehind_0 : decode cX0_wentUpBehind 0 = .ok (.iload_n 2, 1) := by decide +kernel
theorem dX0_wentUpBehind_1 : decode cX0_wentUpBehind 1 = .ok (.iconst 1, 1) := by decide +kernel
theorem dX0_wentUpBehind_2 : decode cX0_wentUpBehind 2 = .ok (.iadd, 1) := by decide +kernel
theorem dX0_wentUpBehind_3 : decode cX0_wentUpBehind 3 = .ok (.istore_n 3, 1) := by decide +kernel
theorem dX0_wentUpBehind_4 : decode cX0_wentUpBehind 4 = .ok (.iload_n 3, 1) := by decide +kernel
theorem dX0_wentUpBehind_5 : decode cX0_wentUpBehind 5 = .ok (.iload_n 2, 1) := by decide +kernel
theorem dX0_wentUpBehind_6 : decode cX0_wentUpBehind 6 = .ok (.bipush 6, 2) := by decide +kernel
theorem dX0_wentUpBehind_8 : decode cX0_wentUpBehind 8 = .ok (.iadd, 1) := by decide +kernel
theorem dX0_wentUpBehind_9 : decode cX0_wentUpBehind 9 = .ok (.if_icmp .gt 20, 3) := by decide +kernel
theorem dX0_wentUpBehind_12 : decode cX0_wentUpBehind 12 = .ok (.aload_n 0, 1) := by decide +kernel
theorem dX0_wentUpBehind_13 : decode cX0_wentUpBehind 13 = .ok (.iload_n 1, 1) := by decide +kernel
theorem dX0_wentUpBehind_14 : decode cX0_wentUpBehind 14 = .ok (.iload_n 3, 1) := by decide +kernel
theorem dX0_wentUpBehind_15 : decode cX0_wentUpBehind 15 = .ok (.invokevirtual 51, 3) := by decide +kernel
theorem dX0_wentUpBehind_18 : decode cX0_wentUpBehind 18 = .ok (.ifCond .eq 5, 3) := by decide +kernel
theorem dX0_wentUpBehind_21 : decode cX0_wentUpBehind 21 = .ok (.iconst 1, 1) := by decide +kernel
theorem dX0_wentUpBehind_22 : decode cX0_wentUpBehind 22 = .ok (.ireturn, 1) := by decide +kernel
theorem dX0_wentUpBehind_23 : decode cX0_wentUpBehind 23 = .ok (.iinc 3 1, 3) := by decide +kernel
theorem dX0_wentUpBehind_26 : decode cX0_wentUpBehind 26 = .ok (.goto (-22), 3) := by decide +kernel
theorem dX0_wentUpBehind_29 : decode cX0_wentUpBehind 29 = .ok (.iconst 0, 1) := by decide +kernel
theorem dX0_wentUpBehind_30 : decode cX0_wentUpBehind 30 = .ok (.ireturn, 1) := by decide +kernel
theorem dX1_init_0 : decode cX1_init 0 = .ok (.aload_n 0, 1) := by decide +kernel
theorem dX1_init_1 : decode cX1_init 1 = .ok (.invokespecial 3, 3) := by decide +kernel
theorem dX1_init_4 : decode cX1_init 4 = .ok (.aload_n 0, 1) := by decide +kernel
theorem dX1_init_5 : decode cX1_init 5 = .ok (.bipush 10, 2) := by decide +kernel
theorem dX1_init_7 : decode cX1_init 7 = .ok (.newarray .int, 2) := by decide +kernel
theorem dX1_init_9 : decode cX1_init 9 = .ok (.putfield 9, 3) := by decide +kernel
theorem dX1_init_12 : decode cX1_init 12 = .ok (.aload_n 0, 1) := by decide +kernel
theorem dX1_init_13 : decode cX1_init 13 = .ok (.bipush 10, 2) := by decide +kernel
theorem dX1_init_15 : decode cX1_init 15 = .ok (.newarray .int, 2) := by decide +kernel
theorem dX1_init_17 : decode cX1_init 17 = .ok (.putfield 15, 3) := by decide +kernel
theorem dX1_init_20 : decode cX1_init 20 = .ok (.aload_n 0, 1) := by decide +kernel
theorem dX1_init_21 : decode cX1_init 21 = .ok (.bipush 10, 2) := by decide +kernel
theorem dX1_init_23 : decode cX1_init 23 = .ok (.newarray .int, 2) := by decide +kernel
theorem dX1_init_25 : decode cX1_init 25 = .ok (.putfield 18, 3) := by decide +kernel
theorem dX1_init_28 : decode cX1_init 28 = .ok (.return_, 1) := by decide +kernel
theorem dX1_copyFrom_0 : decode cX1_copyFrom 0 = .ok (.aload_n 0, 1) := by decide +kernel
theorem dX1_copyFrom_1 : decode cX1_copyFrom 1 = .ok (.aload_n 1, 1) := by decide +kernel
theorem dX1_copyFrom_2 : decode cX1_copyFrom 2 = .ok (.getfield 21, 3) := by decide +kernel
theorem dX1_copyFrom_5 : decode cX1_copyFrom 5 = .ok (.putfield 21, 3) := by decide +kernel
theorem dX1_copyFrom_8 : decode cX1_copyFrom 8 = .ok (.aload_n 1, 1) := by decide +kernel
theorem dX1_copyFrom_9 : decode cX1_copyFrom 9 = .ok (.getfield 9, 3) := by decide +kernel
theorem dX1_copyFrom_12 : decode cX1_copyFrom 12 = .ok (.iconst 0, 1) := by decide +kernel
theorem dX1_copyFrom_13 : decode cX1_copyFrom 13 = .ok (.aload_n 0, 1) := by decide +kernel
theorem dX1_copyFrom_14 : decode cX1_copyFrom 14 = .ok (.getfield 9, 3) := by decide +kernel
theorem dX1_copyFrom_17 : decode cX1_copyFrom 17 = .ok (.iconst 0, 1) := by decide +kernel
theorem dX1_copyFrom_18 : decode cX1_copyFrom 18 = .ok (.bipush 10, 2) := by decide +kernel
theorem dX1_copyFrom_20 : decode cX1_copyFrom 20 = .ok (.invokestatic 25, 3) := by decide +kernel
theorem dX1_copyFrom_23 : decode cX1_copyFrom 23 = .ok (.aload_n 1, 1) := by decide +kernel
theorem dX1_copyFrom_24 : decode cX1_copyFrom 24 = .ok (.getfield 15, 3) := by decide +kernel
theorem dX1_copyFrom_27 : decode cX1_copyFrom 27 = .ok (.iconst 0, 1) := by decide +kernel
theorem dX1_copyFrom_28 : decode cX1_copyFrom 28 = .ok (.aload_n 0, 1) := by decide +kernel
theorem dX1_copyFrom_29 : decode cX1_copyFrom 29 = .ok (.getfield 15, 3) := by decide +kernel
theorem dX1_copyFrom_32 : decode cX1_copyFrom 32 = .ok (.iconst 0, 1) := by decide +kernel
theorem dX1_copyFrom_33 : decode cX1_copyFrom 33 = .ok (.bipush 10, 2) := by decide +kernel
theorem dX1_copyFrom_35 : decode cX1_copyFrom 35 = .ok (.invokestatic 25, 3) := by decide +kernel
theorem dX1_copyFrom_38 : decode cX1_copyFrom 38 = .ok (.aload_n 1, 1) := by decide +kernel
theorem dX1_copyFrom_39 : decode cX1_copyFrom 39 = .ok (.getfield 18, 3) := by decide +kernel
theorem dX1_copyFrom_42 : decode cX1_copyFrom 42 = .ok (.iconst 0, 1) := by decide +kernel
theorem dX1_copyFrom_43 : decode cX1_copyFrom 43 = .ok (.aload_n 0, 1) := by decide +kernel
theorem dX1_copyFrom_44 : decode cX1_copyFrom 44 = .ok (.getfield 18, 3) := by decide +kernel
theorem dX1_copyFrom_47 : decode cX1_copyFrom 47 = .ok (.iconst 0, 1) := by decide +kernel
theorem dX1_copyFrom_48 : decode cX1_copyFrom 48 = .ok (.bipush 10, 2) := by decide +kernel
theorem dX1_copyFrom_50 : decode cX1_copyFrom 50 = .ok (.invokestatic 25, 3) := by decide +kernel
theorem dX1_copyFrom_53 : decode cX1_copyFrom 53 = .ok (.return_, 1) := by decide +kernel
theorem dX1_add_0 : decode cX1_add 0 = .ok (.aload_n 0, 1) := by decide +kernel
theorem dX1_add_1 : decode cX1_add 1 = .ok (.getfield 21, 3) := by decide +kernel
theorem dX1_add_4 : decode cX1_add 4 = .ok (.bipush 10, 2) := by decide +kernel
theorem dX1_add_6 : decode cX1_add 6 = .ok (.if_icmp .ne 7, 3) := by decide +kernel
theorem dX1_add_9 : decode cX1_add 9 = .ok (.aload_n 0, 1) := by decide +kernel
theorem dX1_add_10 : decode cX1_add 10 = .ok (.invokevirtual 31, 3) := by decide +kernel
theorem dX1_add_13 : decode cX1_add 13 = .ok (.aload_n 0, 1) := by decide +kernel
theorem dX1_add_14 : decode cX1_add 14 = .ok (.getfield 9, 3) := by decide +kernel
theorem dX1_add_17 : decode cX1_add 17 = .ok (.aload_n 0, 1) := by decide +kernel
theorem dX1_add_18 : decode cX1_add 18 = .ok (.getfield 21, 3) := by decide +kernel
theorem dX1_add_21 : decode cX1_add 21 = .ok (.iload_n 1, 1) := by decide +kernel
theorem dX1_add_22 : decode cX1_add 22 = .ok (.iastore, 1) := by decide +kernel
theorem dX1_add_23 : decode cX1_add 23 = .ok (.aload_n 0, 1) := by decide +kernel
theorem dX1_add_24 : decode cX1_add 24 = .ok (.getfield 15, 3) := by decide +kernel
theorem dX1_add_27 : decode cX1_add 27 = .ok (.aload_n 0, 1) := by decide +kernel
theorem dX1_add_28 : decode cX1_add 28 = .ok (.getfield 21, 3) := by decide +kernel
theorem dX1_add_31 : decode cX1_add 31 = .ok (.iload_n 2, 1) := by decide +kernel
theorem dX1_add_32 : decode cX1_add 32 = .ok (.iastore, 1) := by decide +kernel
theorem dX1_add_33 : decode cX1_add 33 = .ok (.aload_n 0, 1) := by decide +kernel
theorem dX1_add_34 : decode cX1_add 34 = .ok (.getfield 18, 3) := by decide +kernel
theorem dX1_add_37 : decode cX1_add 37 = .ok (.aload_n 0, 1) := by decide +kernel
theorem dX1_add_38 : decode cX1_add 38 = .ok (.getfield 21, 3) := by decide +kernel
theorem dX1_add_41 : decode cX1_add 41 = .ok (.iload_n 3, 1) := by decide +kernel
theorem dX1_add_42 : decode cX1_add 42 = .ok (.iastore, 1) := by decide +kernel
theorem dX1_add_43 : decode cX1_add 43 = .ok (.aload_n 0, 1) := by decide +kernel
theorem dX1_add_44 : decode cX1_add 44 = .ok (.dup, 1) := by decide +kernel
theorem dX1_add_45 : decode cX1_add 45 = .ok (.getfield 21, 3) := by decide +kernel
theorem dX1_add_48 : decode cX1_add 48 = .ok (.iconst 1, 1) := by decide +kernel
theorem dX1_add_49 : decode cX1_add 49 = .ok (.iadd, 1) := by decide +kernel
theorem dX1_add_50 : decode cX1_add 50 = .ok (.putfield 21, 3) := by decide +kernel
theorem dX1_add_53 : decode cX1_add 53 = .ok (.return_, 1) := by decide +kernel
theorem dX1_dropOldest_0 : decode cX1_dropOldest 0 = .ok (.aload_n 0, 1) := by decide +kernel
theorem dX1_dropOldest_1 : decode cX1_dropOldest 1 = .ok (.dup, 1) := by decide +kernel
theorem dX1_dropOldest_2 : decode cX1_dropOldest 2 = .ok (.getfield 21, 3) := by decide +kernel
theorem dX1_dropOldest_5 : decode cX1_dropOldest 5 = .ok (.iconst 1, 1) := by decide +kernel
theorem dX1_dropOldest_6 : decode cX1_dropOldest 6 = .ok (.isub, 1) := by decide +kernel
theorem dX1_dropOldest_7 : decode cX1_dropOldest 7 = .ok (.putfield 21, 3) := by decide +kernel
theorem dX1_dropOldest_10 : decode cX1_dropOldest 10 = .ok (.aload_n 0, 1) := by decide +kernel
theorem dX1_dropOldest_11 : decode cX1_dropOldest 11 = .ok (.getfield 9, 3) := by decide +kernel
theorem dX1_dropOldest_14 : decode cX1_dropOldest 14 = .ok (.iconst 1, 1) := by decide +kernel
theorem dX1_dropOldest_15 : decode cX1_dropOldest 15 = .ok (.aload_n 0, 1) := by decide +kernel
theorem dX1_dropOldest_16 : decode cX1_dropOldest 16 = .ok (.getfield 9, 3) := by decide +kernel
theorem dX1_dropOldest_19 : decode cX1_dropOldest 19 = .ok (.iconst 0, 1) := by decide +kernel
theorem dX1_dropOldest_20 : decode cX1_dropOldest 20 = .ok (.aload_n 0, 1) := by decide +kernel
theorem dX1_dropOldest_21 : decode cX1_dropOldest 21 = .ok (.getfield 21, 3) := by decide +kernel
theorem dX1_dropOldest_24 : decode cX1_dropOldest 24 = .ok (.invokestatic 25, 3) := by decide +kernel
theorem dX1_dropOldest_27 : decode cX1_dropOldest 27 = .ok (.aload_n 0, 1) := by decide +kernel
theorem dX1_dropOldest_28 : decode cX1_dropOldest 28 = .ok (.getfield 15, 3) := by decide +kernel
theorem dX1_dropOldest_31 : decode cX1_dropOldest 31 = .ok (.iconst 1, 1) := by decide +kernel
theorem dX1_dropOldest_32 : decode cX1_dropOldest 32 = .ok (.aload_n 0, 1) := by decide +kernel
theorem dX1_dropOldest_33 : decode cX1_dropOldest 33 = .ok (.getfield 15, 3) := by decide +kernel
theorem dX1_dropOldest_36 : decode cX1_dropOldest 36 = .ok (.iconst 0, 1) := by decide +kernel
theorem dX1_dropOldest_37 : decode cX1_dropOldest 37 = .ok (.aload_n 0, 1) := by decide +kernel
theorem dX1_dropOldest_38 : decode cX1_dropOldest 38 = .ok (.getfield 21, 3) := by decide +kernel
theorem dX1_dropOldest_41 : decode cX1_dropOldest 41 = .ok (.invokestatic 25, 3) := by decide +kernel
theorem dX1_dropOldest_44 : decode cX1_dropOldest 44 = .ok (.aload_n 0, 1) := by decide +kernel
theorem dX1_dropOldest_45 : decode cX1_dropOldest 45 = .ok (.getfield 18, 3) := by decide +kernel
theorem dX1_dropOldest_48 : decode cX1_dropOldest 48 = .ok (.iconst 1, 1) := by decide +kernel
theorem dX1_dropOldest_49 : decode cX1_dropOldest 49 = .ok (.aload_n 0, 1) := by decide +kernel
theorem dX1_dropOldest_50 : decode cX1_dropOldest 50 = .ok (.getfield 18, 3) := by decide +kernel
theorem dX1_dropOldest_53 : decode cX1_dropOldest 53 = .ok (.iconst 0, 1) := by decide +kernel
theorem dX1_dropOldest_54 : decode cX1_dropOldest 54 = .ok (.aload_n 0, 1) := by decide +kernel
theorem dX1_dropOldest_55 : decode cX1_dropOldest 55 = .ok (.getfield 21, 3) := by decide +kernel
theorem dX1_dropOldest_58 : decode cX1_dropOldest 58 = .ok (.invokestatic 25, 3) := by decide +kernel
theorem dX1_dropOldest_61 : decode cX1_dropOldest 61 = .ok (.return_, 1) := by decide +kernel
theorem dX1_counts_0 : decode cX1_counts 0 = .ok (.aload_n 0, 1) := by decide +kernel
theorem dX1_counts_1 : decode cX1_counts 1 = .ok (.getfield 9, 3) := by decide +kernel
theorem dX1_counts_4 : decode cX1_counts 4 = .ok (.iload_n 1, 1) := by decide +kernel
theorem dX1_counts_5 : decode cX1_counts 5 = .ok (.iaload, 1) := by decide +kernel
theorem dX1_counts_6 : decode cX1_counts 6 = .ok (.iload_n 2, 1) := by decide +kernel
theorem dX1_counts_7 : decode cX1_counts 7 = .ok (.if_icmp .ne 60, 3) := by decide +kernel
theorem dX1_counts_10 : decode cX1_counts 10 = .ok (.aload_n 0, 1) := by decide +kernel
theorem dX1_counts_11 : decode cX1_counts 11 = .ok (.getfield 18, 3) := by decide +kernel
theorem dX1_counts_14 : decode cX1_counts 14 = .ok (.iload_n 1, 1) := by decide +kernel
theorem dX1_counts_15 : decode cX1_counts 15 = .ok (.iaload, 1) := by decide +kernel
theorem dX1_counts_16 : decode cX1_counts 16 = .ok (.ifCond .le 7, 3) := by decide +kernel
theorem dX1_counts_19 : decode cX1_counts 19 = .ok (.iconst 1, 1) := by decide +kernel
theorem dX1_counts_20 : decode cX1_counts 20 = .ok (.goto 4, 3) := by decide +kernel
theorem dX1_counts_23 : decode cX1_counts 23 = .ok (.iconst 0, 1) := by decide +kernel
theorem dX1_counts_24 : decode cX1_counts 24 = .ok (.iload 4, 2) := by decide +kernel
theorem dX1_counts_26 : decode cX1_counts 26 = .ok (.if_icmp .ne 41, 3) := by decide +kernel
theorem dX1_counts_29 : decode cX1_counts 29 = .ok (.aload 5, 2) := by decide +kernel
theorem dX1_counts_31 : decode cX1_counts 31 = .ok (.aload_n 0, 1) := by decide +kernel
theorem dX1_counts_32 : decode cX1_counts 32 = .ok (.getfield 15, 3) := by decide +kernel
theorem dX1_counts_35 : decode cX1_counts 35 = .ok (.iload_n 1, 1) := by decide +kernel
theorem dX1_counts_36 : decode cX1_counts 36 = .ok (.iaload, 1) := by decide +kernel
theorem dX1_counts_37 : decode cX1_counts 37 = .ok (.iconst 1, 1) := by decide +kernel
theorem dX1_counts_38 : decode cX1_counts 38 = .ok (.isub, 1) := by decide +kernel
theorem dX1_counts_39 : decode cX1_counts 39 = .ok (.invokevirtual 34, 3) := by decide +kernel
theorem dX1_counts_42 : decode cX1_counts 42 = .ok (.ifCond .eq 25, 3) := by decide +kernel
theorem dX1_counts_45 : decode cX1_counts 45 = .ok (.aload 5, 2) := by decide +kernel
theorem dX1_counts_47 : decode cX1_counts 47 = .ok (.aload_n 0, 1) := by decide +kernel
theorem dX1_counts_48 : decode cX1_counts 48 = .ok (.getfield 15, 3) := by decide +kernel
theorem dX1_counts_51 : decode cX1_counts 51 = .ok (.iload_n 1, 1) := by decide +kernel
theorem dX1_counts_52 : decode cX1_counts 52 = .ok (.iaload, 1) := by decide +kernel
theorem dX1_counts_53 : decode cX1_counts 53 = .ok (.iconst 1, 1) := by decide +kernel
theorem dX1_counts_54 : decode cX1_counts 54 = .ok (.isub, 1) := by decide +kernel
theorem dX1_counts_55 : decode cX1_counts 55 = .ok (.iload_n 3, 1) := by decide +kernel
theorem dX1_counts_56 : decode cX1_counts 56 = .ok (.iadd, 1) := by decide +kernel
theorem dX1_counts_57 : decode cX1_counts 57 = .ok (.invokevirtual 34, 3) := by decide +kernel
theorem dX1_counts_60 : decode cX1_counts 60 = .ok (.ifCond .eq 7, 3) := by decide +kernel
theorem dX1_counts_63 : decode cX1_counts 63 = .ok (.iconst 1, 1) := by decide +kernel
theorem dX1_counts_64 : decode cX1_counts 64 = .ok (.goto 4, 3) := by decide +kernel
theorem dX1_counts_67 : decode cX1_counts 67 = .ok (.iconst 0, 1) := by decide +kernel
theorem dX1_counts_68 : decode cX1_counts 68 = .ok (.ireturn, 1) := by decide +kernel
theorem dX1_wentAlong_0 : decode cX1_wentAlong 0 = .ok (.aload_n 3, 1) := by decide +kernel
theorem dX1_wentAlong_1 : decode cX1_wentAlong 1 = .ok (.aload_n 0, 1) := by decide +kernel
theorem dX1_wentAlong_2 : decode cX1_wentAlong 2 = .ok (.getfield 9, 3) := by decide +kernel
theorem dX1_wentAlong_5 : decode cX1_wentAlong 5 = .ok (.iload_n 1, 1) := by decide +kernel
theorem dX1_wentAlong_6 : decode cX1_wentAlong 6 = .ok (.iaload, 1) := by decide +kernel
theorem dX1_wentAlong_7 : decode cX1_wentAlong 7 = .ok (.aload_n 0, 1) := by decide +kernel
theorem dX1_wentAlong_8 : decode cX1_wentAlong 8 = .ok (.getfield 15, 3) := by decide +kernel
theorem dX1_wentAlong_11 : decode cX1_wentAlong 11 = .ok (.iload_n 1, 1) := by decide +kernel
theorem dX1_wentAlong_12 : decode cX1_wentAlong 12 = .ok (.iaload, 1) := by decide +kernel
theorem dX1_wentAlong_13 : decode cX1_wentAlong 13 = .ok (.iconst 1, 1) := by decide +kernel
theorem dX1_wentAlong_14 : decode cX1_wentAlong 14 = .ok (.isub, 1) := by decide +kernel
theorem dX1_wentAlong_15 : decode cX1_wentAlong 15 = .ok (.invokevirtual 40, 3) := by decide +kernel
theorem dX1_wentAlong_18 : decode cX1_wentAlong 18 = .ok (.istore 4, 2) := by decide +kernel
theorem dX1_wentAlong_20 : decode cX1_wentAlong 20 = .ok (.aload_n 3, 1) := by decide +kernel
theorem dX1_wentAlong_21 : decode cX1_wentAlong 21 = .ok (.aload_n 0, 1) := by decide +kernel
theorem dX1_wentAlong_22 : decode cX1_wentAlong 22 = .ok (.getfield 9, 3) := by decide +kernel
theorem dX1_wentAlong_25 : decode cX1_wentAlong 25 = .ok (.iload_n 1, 1) := by decide +kernel
theorem dX1_wentAlong_26 : decode cX1_wentAlong 26 = .ok (.iaload, 1) := by decide +kernel
theorem dX1_wentAlong_27 : decode cX1_wentAlong 27 = .ok (.aload_n 0, 1) := by decide +kernel
theorem dX1_wentAlong_28 : decode cX1_wentAlong 28 = .ok (.getfield 15, 3) := by decide +kernel
theorem dX1_wentAlong_31 : decode cX1_wentAlong 31 = .ok (.iload_n 1, 1) := by decide +kernel
theorem dX1_wentAlong_32 : decode cX1_wentAlong 32 = .ok (.iaload, 1) := by decide +kernel
theorem dX1_wentAlong_33 : decode cX1_wentAlong 33 = .ok (.iconst 1, 1) := by decide +kernel
theorem dX1_wentAlong_34 : decode cX1_wentAlong 34 = .ok (.isub, 1) := by decide +kernel
theorem dX1_wentAlong_35 : decode cX1_wentAlong 35 = .ok (.iload_n 2, 1) := by decide +kernel
theorem dX1_wentAlong_36 : decode cX1_wentAlong 36 = .ok (.iadd, 1) := by decide +kernel
theorem dX1_wentAlong_37 : decode cX1_wentAlong 37 = .ok (.invokevirtual 40, 3) := by decide +kernel
theorem dX1_wentAlong_40 : decode cX1_wentAlong 40 = .ok (.istore 5, 2) := by decide +kernel
theorem dX1_wentAlong_42 : decode cX1_wentAlong 42 = .ok (.iconst 0, 1) := by decide +kernel
theorem dX1_wentAlong_43 : decode cX1_wentAlong 43 = .ok (.aload_n 0, 1) := by decide +kernel
theorem dX1_wentAlong_44 : decode cX1_wentAlong 44 = .ok (.getfield 18, 3) := by decide +kernel
theorem dX1_wentAlong_47 : decode cX1_wentAlong 47 = .ok (.iload_n 1, 1) := by decide +kernel
theorem dX1_wentAlong_48 : decode cX1_wentAlong 48 = .ok (.iaload, 1) := by decide +kernel
theorem dX1_wentAlong_49 : decode cX1_wentAlong 49 = .ok (.ifCond .le 11, 3) := by decide +kernel
theorem dX1_wentAlong_52 : decode cX1_wentAlong 52 = .ok (.iload 5, 2) := by decide +kernel
theorem dX1_wentAlong_54 : decode cX1_wentAlong 54 = .ok (.iload 4, 2) := by decide +kernel
theorem dX1_wentAlong_56 : decode cX1_wentAlong 56 = .ok (.isub, 1) := by decide +kernel
theorem dX1_wentAlong_57 : decode cX1_wentAlong 57 = .ok (.goto 8, 3) := by decide +kernel
theorem dX1_wentAlong_60 : decode cX1_wentAlong 60 = .ok (.iload 4, 2) := by decide +kernel
theorem dX1_wentAlong_62 : decode cX1_wentAlong 62 = .ok (.iload 5, 2) := by decide +kernel
theorem dX1_wentAlong_64 : decode cX1_wentAlong 64 = .ok (.isub, 1) := by decide +kernel
theorem dX1_wentAlong_65 : decode cX1_wentAlong 65 = .ok (.invokestatic 44, 3) := by decide +kernel
theorem dX1_wentAlong_68 : decode cX1_wentAlong 68 = .ok (.ireturn, 1) := by decide +kernel
theorem dX2_init_0 : decode cX2_init 0 = .ok (.aload_n 0, 1) := by decide +kernel
theorem dX2_init_1 : decode cX2_init 1 = .ok (.invokespecial 3, 3) := by decide +kernel
theorem dX2_init_4 : decode cX2_init 4 = .ok (.aload_n 0, 1) := by decide +kernel
theorem dX2_init_5 : decode cX2_init 5 = .ok (.iconst 4, 1) := by decide +kernel
theorem dX2_init_6 : decode cX2_init 6 = .ok (.newarray .int, 2) := by decide +kernel
theorem dX2_init_8 : decode cX2_init 8 = .ok (.putfield 9, 3) := by decide +kernel
theorem dX2_init_11 : decode cX2_init 11 = .ok (.aload_n 0, 1) := by decide +kernel
theorem dX2_init_12 : decode cX2_init 12 = .ok (.iconst 4, 1) := by decide +kernel
theorem dX2_init_13 : decode cX2_init 13 = .ok (.newarray .int, 2) := by decide +kernel
theorem dX2_init_15 : decode cX2_init 15 = .ok (.putfield 15, 3) := by decide +kernel
theorem dX2_init_18 : decode cX2_init 18 = .ok (.aload_n 0, 1) := by decide +kernel
theorem dX2_init_19 : decode cX2_init 19 = .ok (.iconst 4, 1) := by decide +kernel
theorem dX2_init_20 : decode cX2_init 20 = .ok (.newarray .int, 2) := by decide +kernel
theorem dX2_init_22 : decode cX2_init 22 = .ok (.putfield 18, 3) := by decide +kernel
theorem dX2_init_25 : decode cX2_init 25 = .ok (.aload_n 0, 1) := by decide +kernel
theorem dX2_init_26 : decode cX2_init 26 = .ok (.iconst 4, 1) := by decide +kernel
theorem dX2_init_27 : decode cX2_init 27 = .ok (.newarray .long, 2) := by decide +kernel
theorem dX2_init_29 : decode cX2_init 29 = .ok (.putfield 21, 3) := by decide +kernel
theorem dX2_init_32 : decode cX2_init 32 = .ok (.aload_n 0, 1) := by decide +kernel
theorem dX2_init_33 : decode cX2_init 33 = .ok (.iconst 4, 1) := by decide +kernel
theorem dX2_init_34 : decode cX2_init 34 = .ok (.newarray .long, 2) := by decide +kernel
theorem dX2_init_36 : decode cX2_init 36 = .ok (.putfield 25, 3) := by decide +kernel
theorem dX2_init_39 : decode cX2_init 39 = .ok (.aload_n 0, 1) := by decide +kernel
theorem dX2_init_40 : decode cX2_init 40 = .ok (.iconst 4, 1) := by decide +kernel
theorem dX2_init_41 : decode cX2_init 41 = .ok (.anewarray 28, 3) := by decide +kernel
theorem dX2_init_44 : decode cX2_init 44 = .ok (.putfield 30, 3) := by decide +kernel
theorem dX2_init_47 : decode cX2_init 47 = .ok (.aload_n 0, 1) := by decide +kernel
theorem dX2_init_48 : decode cX2_init 48 = .ok (.new 34, 3) := by decide +kernel
theorem dX2_init_51 : decode cX2_init 51 = .ok (.dup, 1) := by decide +kernel
theorem dX2_init_52 : decode cX2_init 52 = .ok (.invokespecial 36, 3) := by decide +kernel
theorem dX2_init_55 : decode cX2_init 55 = .ok (.putfield 37, 3) := by decide +kernel
theorem dX2_init_58 : decode cX2_init 58 = .ok (.aload_n 0, 1) := by decide +kernel
theorem dX2_init_59 : decode cX2_init 59 = .ok (.new 41, 3) := by decide +kernel
theorem dX2_init_62 : decode cX2_init 62 = .ok (.dup, 1) := by decide +kernel
theorem dX2_init_63 : decode cX2_init 63 = .ok (.sipush 256, 3) := by decide +kernel
theorem dX2_init_66 : decode cX2_init 66 = .ok (.invokespecial 43, 3) := by decide +kernel
theorem dX2_init_69 : decode cX2_init 69 = .ok (.putfield 46, 3) := by decide +kernel
theorem dX2_init_72 : decode cX2_init 72 = .ok (.aload_n 0, 1) := by decide +kernel
theorem dX2_init_73 : decode cX2_init 73 = .ok (.new 41, 3) := by decide +kernel
theorem dX2_init_76 : decode cX2_init 76 = .ok (.dup, 1) := by decide +kernel
theorem dX2_init_77 : decode cX2_init 77 = .ok (.bipush 60, 2) := by decide +kernel
theorem dX2_init_79 : decode cX2_init 79 = .ok (.invokespecial 43, 3) := by decide +kernel
theorem dX2_init_82 : decode cX2_init 82 = .ok (.putfield 50, 3) := by decide +kernel
theorem dX2_init_85 : decode cX2_init 85 = .ok (.aload_n 0, 1) := by decide +kernel
theorem dX2_init_86 : decode cX2_init 86 = .ok (.new 53, 3) := by decide +kernel
theorem dX2_init_89 : decode cX2_init 89 = .ok (.dup, 1) := by decide +kernel
theorem dX2_init_90 : decode cX2_init 90 = .ok (.invokespecial 55, 3) := by decide +kernel
theorem dX2_init_93 : decode cX2_init 93 = .ok (.putfield 56, 3) := by decide +kernel
theorem dX2_init_96 : decode cX2_init 96 = .ok (.aload_n 0, 1) := by decide +kernel
theorem dX2_init_97 : decode cX2_init 97 = .ok (.bipush 8, 2) := by decide +kernel
theorem dX2_init_99 : decode cX2_init 99 = .ok (.newarray .int, 2) := by decide +kernel
theorem dX2_init_101 : decode cX2_init 101 = .ok (.putfield 60, 3) := by decide +kernel
theorem dX2_init_104 : decode cX2_init 104 = .ok (.aload_n 0, 1) := by decide +kernel
theorem dX2_init_105 : decode cX2_init 105 = .ok (.new 63, 3) := by decide +kernel
theorem dX2_init_108 : decode cX2_init 108 = .ok (.dup, 1) := by decide +kernel
theorem dX2_init_109 : decode cX2_init 109 = .ok (.invokespecial 65, 3) := by decide +kernel
theorem dX2_init_112 : decode cX2_init 112 = .ok (.putfield 66, 3) := by decide +kernel
theorem dX2_init_115 : decode cX2_init 115 = .ok (.aload_n 0, 1) := by decide +kernel
theorem dX2_init_116 : decode cX2_init 116 = .ok (.iconst 4, 1) := by decide +kernel
theorem dX2_init_117 : decode cX2_init 117 = .ok (.newarray .int, 2) := by decide +kernel
theorem dX2_init_119 : decode cX2_init 119 = .ok (.putfield 70, 3) := by decide +kernel
theorem dX2_init_122 : decode cX2_init 122 = .ok (.aload_n 0, 1) := by decide +kernel
theorem dX2_init_123 : decode cX2_init 123 = .ok (.bipush 9, 2) := by decide +kernel
theorem dX2_init_125 : decode cX2_init 125 = .ok (.newarray .int, 2) := by decide +kernel
theorem dX2_init_127 : decode cX2_init 127 = .ok (.putfield 73, 3) := by decide +kernel
theorem dX2_init_130 : decode cX2_init 130 = .ok (.return_, 1) := by decide +kernel
theorem dX2_copyFrom_0 : decode cX2_copyFrom 0 = .ok (.aload_n 0, 1) := by decide +kernel
theorem dX2_copyFrom_1 : decode cX2_copyFrom 1 = .ok (.aload_n 1, 1) := by decide +kernel
theorem dX2_copyFrom_2 : decode cX2_copyFrom 2 = .ok (.getfield 76, 3) := by decide +kernel
theorem dX2_copyFrom_5 : decode cX2_copyFrom 5 = .ok (.putfield 76, 3) := by decide +kernel
theorem dX2_copyFrom_8 : decode cX2_copyFrom 8 = .ok (.aload_n 0, 1) := by decide +kernel
theorem dX2_copyFrom_9 : decode cX2_copyFrom 9 = .ok (.aload_n 1, 1) := by decide +kernel
theorem dX2_copyFrom_10 : decode cX2_copyFrom 10 = .ok (.getfield 80, 3) := by decide +kernel
theorem dX2_copyFrom_13 : decode cX2_copyFrom 13 = .ok (.putfield 80, 3) := by decide +kernel
theorem dX2_copyFrom_16 : decode cX2_copyFrom 16 = .ok (.aload_n 0, 1) := by decide +kernel
theorem dX2_copyFrom_17 : decode cX2_copyFrom 17 = .ok (.aload_n 1, 1) := by decide +kernel
theorem dX2_copyFrom_18 : decode cX2_copyFrom 18 = .ok (.getfield 84, 3) := by decide +kernel
theorem dX2_copyFrom_21 : decode cX2_copyFrom 21 = .ok (.putfield 84, 3) := by decide +kernel
theorem dX2_copyFrom_24 : decode cX2_copyFrom 24 = .ok (.aload_n 0, 1) := by decide +kernel
theorem dX2_copyFrom_25 : decode cX2_copyFrom 25 = .ok (.aload_n 1, 1) := by decide +kernel
theorem dX2_copyFrom_26 : decode cX2_copyFrom 26 = .ok (.getfield 88, 3) := by decide +kernel
theorem dX2_copyFrom_29 : decode cX2_copyFrom 29 = .ok (.putfield 88, 3) := by decide +kernel
theorem dX2_copyFrom_32 : decode cX2_copyFrom 32 = .ok (.aload_n 1, 1) := by decide +kernel
theorem dX2_copyFrom_33 : decode cX2_copyFrom 33 = .ok (.getfield 9, 3) := by decide +kernel
theorem dX2_copyFrom_36 : decode cX2_copyFrom 36 = .ok (.iconst 0, 1) := by decide +kernel
theorem dX2_copyFrom_37 : decode cX2_copyFrom 37 = .ok (.aload_n 0, 1) := by decide +kernel
theorem dX2_copyFrom_38 : decode cX2_copyFrom 38 = .ok (.getfield 9, 3) := by decide +kernel
theorem dX2_copyFrom_41 : decode cX2_copyFrom 41 = .ok (.iconst 0, 1) := by decide +kernel
theorem dX2_copyFrom_42 : decode cX2_copyFrom 42 = .ok (.iconst 4, 1) := by decide +kernel
theorem dX2_copyFrom_43 : decode cX2_copyFrom 43 = .ok (.invokestatic 91, 3) := by decide +kernel
theorem dX2_copyFrom_46 : decode cX2_copyFrom 46 = .ok (.aload_n 1, 1) := by decide +kernel
theorem dX2_copyFrom_47 : decode cX2_copyFrom 47 = .ok (.getfield 15, 3) := by decide +kernel
theorem dX2_copyFrom_50 : decode cX2_copyFrom 50 = .ok (.iconst 0, 1) := by decide +kernel
theorem dX2_copyFrom_51 : decode cX2_copyFrom 51 = .ok (.aload_n 0, 1) := by decide +kernel
theorem dX2_copyFrom_52 : decode cX2_copyFrom 52 = .ok (.getfield 15, 3) := by decide +kernel
theorem dX2_copyFrom_55 : decode cX2_copyFrom 55 = .ok (.iconst 0, 1) := by decide +kernel
theorem dX2_copyFrom_56 : decode cX2_copyFrom 56 = .ok (.iconst 4, 1) := by decide +kernel
theorem dX2_copyFrom_57 : decode cX2_copyFrom 57 = .ok (.invokestatic 91, 3) := by decide +kernel
theorem dX2_copyFrom_60 : decode cX2_copyFrom 60 = .ok (.aload_n 1, 1) := by decide +kernel
theorem dX2_copyFrom_61 : decode cX2_copyFrom 61 = .ok (.getfield 18, 3) := by decide +kernel
theorem dX2_copyFrom_64 : decode cX2_copyFrom 64 = .ok (.iconst 0, 1) := by decide +kernel
theorem dX2_copyFrom_65 : decode cX2_copyFrom 65 = .ok (.aload_n 0, 1) := by decide +kernel
theorem dX2_copyFrom_66 : decode cX2_copyFrom 66 = .ok (.getfield 18, 3) := by decide +kernel
theorem dX2_copyFrom_69 : decode cX2_copyFrom 69 = .ok (.iconst 0, 1) := by decide +kernel
theorem dX2_copyFrom_70 : decode cX2_copyFrom 70 = .ok (.iconst 4, 1) := by decide +kernel
theorem dX2_copyFrom_71 : decode cX2_copyFrom 71 = .ok (.invokestatic 91, 3) := by decide +kernel
theorem dX2_copyFrom_74 : decode cX2_copyFrom 74 = .ok (.aload_n 1, 1) := by decide +kernel
theorem dX2_copyFrom_75 : decode cX2_copyFrom 75 = .ok (.getfield 21, 3) := by decide +kernel
theorem dX2_copyFrom_78 : decode cX2_copyFrom 78 = .ok (.iconst 0, 1) := by decide +kernel
theorem dX2_copyFrom_79 : decode cX2_copyFrom 79 = .ok (.aload_n 0, 1) := by decide +kernel
theorem dX2_copyFrom_80 : decode cX2_copyFrom 80 = .ok (.getfield 21, 3) := by decide +kernel
theorem dX2_copyFrom_83 : decode cX2_copyFrom 83 = .ok (.iconst 0, 1) := by decide +kernel
theorem dX2_copyFrom_84 : decode cX2_copyFrom 84 = .ok (.iconst 4, 1) := by decide +kernel
theorem dX2_copyFrom_85 : decode cX2_copyFrom 85 = .ok (.invokestatic 91, 3) := by decide +kernel
theorem dX2_copyFrom_88 : decode cX2_copyFrom 88 = .ok (.aload_n 1, 1) := by decide +kernel
theorem dX2_copyFrom_89 : decode cX2_copyFrom 89 = .ok (.getfield 25, 3) := by decide +kernel
theorem dX2_copyFrom_92 : decode cX2_copyFrom 92 = .ok (.iconst 0, 1) := by decide +kernel
theorem dX2_copyFrom_93 : decode cX2_copyFrom 93 = .ok (.aload_n 0, 1) := by decide +kernel
theorem dX2_copyFrom_94 : decode cX2_copyFrom 94 = .ok (.getfield 25, 3) := by decide +kernel
theorem dX2_copyFrom_97 : decode cX2_copyFrom 97 = .ok (.iconst 0, 1) := by decide +kernel
theorem dX2_copyFrom_98 : decode cX2_copyFrom 98 = .ok (.iconst 4, 1) := by decide +kernel
theorem dX2_copyFrom_99 : decode cX2_copyFrom 99 = .ok (.invokestatic 91, 3) := by decide +kernel
theorem dX2_copyFrom_102 : decode cX2_copyFrom 102 = .ok (.aload_n 1, 1) := by decide +kernel
theorem dX2_copyFrom_103 : decode cX2_copyFrom 103 = .ok (.getfield 60, 3) := by decide +kernel
theorem dX2_copyFrom_106 : decode cX2_copyFrom 106 = .ok (.iconst 0, 1) := by decide +kernel
theorem dX2_copyFrom_107 : decode cX2_copyFrom 107 = .ok (.aload_n 0, 1) := by decide +kernel
theorem dX2_copyFrom_108 : decode cX2_copyFrom 108 = .ok (.getfield 60, 3) := by decide +kernel
theorem dX2_copyFrom_111 : decode cX2_copyFrom 111 = .ok (.iconst 0, 1) := by decide +kernel
theorem dX2_copyFrom_112 : decode cX2_copyFrom 112 = .ok (.bipush 8, 2) := by decide +kernel
theorem dX2_copyFrom_114 : decode cX2_copyFrom 114 = .ok (.invokestatic 91, 3) := by decide +kernel
theorem dX2_copyFrom_117 : decode cX2_copyFrom 117 = .ok (.iconst 0, 1) := by decide +kernel
theorem dX2_copyFrom_118 : decode cX2_copyFrom 118 = .ok (.istore_n 2, 1) := by decide +kernel
theorem dX2_copyFrom_119 : decode cX2_copyFrom 119 = .ok (.iload_n 2, 1) := by decide +kernel
theorem dX2_copyFrom_120 : decode cX2_copyFrom 120 = .ok (.iconst 4, 1) := by decide +kernel
theorem dX2_copyFrom_121 : decode cX2_copyFrom 121 = .ok (.if_icmp .ge 21, 3) := by decide +kernel
theorem dX2_copyFrom_124 : decode cX2_copyFrom 124 = .ok (.aload_n 0, 1) := by decide +kernel
theorem dX2_copyFrom_125 : decode cX2_copyFrom 125 = .ok (.getfield 30, 3) := by decide +kernel
theorem dX2_copyFrom_128 : decode cX2_copyFrom 128 = .ok (.iload_n 2, 1) := by decide +kernel
theorem dX2_copyFrom_129 : decode cX2_copyFrom 129 = .ok (.aload_n 1, 1) := by decide +kernel
theorem dX2_copyFrom_130 : decode cX2_copyFrom 130 = .ok (.getfield 30, 3) := by decide +kernel
theorem dX2_copyFrom_133 : decode cX2_copyFrom 133 = .ok (.iload_n 2, 1) := by decide +kernel
theorem dX2_copyFrom_134 : decode cX2_copyFrom 134 = .ok (.aaload, 1) := by decide +kernel
theorem dX2_copyFrom_135 : decode cX2_copyFrom 135 = .ok (.aastore, 1) := by decide +kernel
theorem dX2_copyFrom_136 : decode cX2_copyFrom 136 = .ok (.iinc 2 1, 3) := by decide +kernel
theorem dX2_copyFrom_139 : decode cX2_copyFrom 139 = .ok (.goto (-20), 3) := by decide +kernel
theorem dX2_copyFrom_142 : decode cX2_copyFrom 142 = .ok (.aload_n 0, 1) := by decide +kernel
theorem dX2_copyFrom_143 : decode cX2_copyFrom 143 = .ok (.getfield 37, 3) := by decide +kernel
theorem dX2_copyFrom_146 : decode cX2_copyFrom 146 = .ok (.aload_n 1, 1) := by decide +kernel
theorem dX2_copyFrom_147 : decode cX2_copyFrom 147 = .ok (.getfield 37, 3) := by decide +kernel
theorem dX2_copyFrom_150 : decode cX2_copyFrom 150 = .ok (.invokevirtual 97, 3) := by decide +kernel
theorem dX2_copyFrom_153 : decode cX2_copyFrom 153 = .ok (.aload_n 0, 1) := by decide +kernel
theorem dX2_copyFrom_154 : decode cX2_copyFrom 154 = .ok (.getfield 46, 3) := by decide +kernel
theorem dX2_copyFrom_157 : decode cX2_copyFrom 157 = .ok (.aload_n 1, 1) := by decide +kernel
theorem dX2_copyFrom_158 : decode cX2_copyFrom 158 = .ok (.getfield 46, 3) := by decide +kernel
theorem dX2_copyFrom_161 : decode cX2_copyFrom 161 = .ok (.invokevirtual 101, 3) := by decide +kernel
theorem dX2_copyFrom_164 : decode cX2_copyFrom 164 = .ok (.aload_n 0, 1) := by decide +kernel
theorem dX2_copyFrom_165 : decode cX2_copyFrom 165 = .ok (.getfield 50, 3) := by decide +kernel
theorem dX2_copyFrom_168 : decode cX2_copyFrom 168 = .ok (.aload_n 1, 1) := by decide +kernel
theorem dX2_copyFrom_169 : decode cX2_copyFrom 169 = .ok (.getfield 50, 3) := by decide +kernel
theorem dX2_copyFrom_172 : decode cX2_copyFrom 172 = .ok (.invokevirtual 101, 3) := by decide +kernel
theorem dX2_copyFrom_175 : decode cX2_copyFrom 175 = .ok (.aload_n 0, 1) := by decide +kernel
theorem dX2_copyFrom_176 : decode cX2_copyFrom 176 = .ok (.getfield 56, 3) := by decide +kernel
theorem dX2_copyFrom_179 : decode cX2_copyFrom 179 = .ok (.aload_n 1, 1) := by decide +kernel
theorem dX2_copyFrom_180 : decode cX2_copyFrom 180 = .ok (.getfield 56, 3) := by decide +kernel
theorem dX2_copyFrom_183 : decode cX2_copyFrom 183 = .ok (.invokevirtual 104, 3) := by decide +kernel
theorem dX2_copyFrom_186 : decode cX2_copyFrom 186 = .ok (.aload_n 0, 1) := by decide +kernel
theorem dX2_copyFrom_187 : decode cX2_copyFrom 187 = .ok (.getfield 66, 3) := by decide +kernel
theorem dX2_copyFrom_190 : decode cX2_copyFrom 190 = .ok (.aload_n 1, 1) := by decide +kernel
theorem dX2_copyFrom_191 : decode cX2_copyFrom 191 = .ok (.getfield 66, 3) := by decide +kernel
theorem dX2_copyFrom_194 : decode cX2_copyFrom 194 = .ok (.invokevirtual 107, 3) := by decide +kernel
theorem dX2_copyFrom_197 : decode cX2_copyFrom 197 = .ok (.return_, 1) := by decide +kernel
theorem dX2_addStation_0 : decode cX2_addStation 0 = .ok (.aload_n 0, 1) := by decide +kernel
theorem dX2_addStation_1 : decode cX2_addStation 1 = .ok (.getfield 76, 3) := by decide +kernel
theorem dX2_addStation_4 : decode cX2_addStation 4 = .ok (.iconst 4, 1) := by decide +kernel
theorem dX2_addStation_5 : decode cX2_addStation 5 = .ok (.if_icmp .lt 5, 3) := by decide +kernel
theorem dX2_addStation_8 : decode cX2_addStation 8 = .ok (.iconst (-1), 1) := by decide +kernel
theorem dX2_addStation_9 : decode cX2_addStation 9 = .ok (.ireturn, 1) := by decide +kernel
theorem dX2_addStation_10 : decode cX2_addStation 10 = .ok (.aload_n 0, 1) := by decide +kernel
theorem dX2_addStation_11 : decode cX2_addStation 11 = .ok (.dup, 1) := by decide +kernel
theorem dX2_addStation_12 : decode cX2_addStation 12 = .ok (.getfield 76, 3) := by decide +kernel
theorem dX2_addStation_15 : decode cX2_addStation 15 = .ok (.dup_x1, 1) := by decide +kernel
theorem dX2_addStation_16 : decode cX2_addStation 16 = .ok (.iconst 1, 1) := by decide +kernel
theorem dX2_addStation_17 : decode cX2_addStation 17 = .ok (.iadd, 1) := by decide +kernel
theorem dX2_addStation_18 : decode cX2_addStation 18 = .ok (.putfield 76, 3) := by decide +kernel
theorem dX2_addStation_21 : decode cX2_addStation 21 = .ok (.istore 4, 2) := by decide +kernel
theorem dX2_addStation_23 : decode cX2_addStation 23 = .ok (.aload_n 0, 1) := by decide +kernel
theorem dX2_addStation_24 : decode cX2_addStation 24 = .ok (.getfield 9, 3) := by decide +kernel
theorem dX2_addStation_27 : decode cX2_addStation 27 = .ok (.iload 4, 2) := by decide +kernel
theorem dX2_addStation_29 : decode cX2_addStation 29 = .ok (.iload_n 1, 1) := by decide +kernel
theorem dX2_addStation_30 : decode cX2_addStation 30 = .ok (.iastore, 1) := by decide +kernel
theorem dX2_addStation_31 : decode cX2_addStation 31 = .ok (.aload_n 0, 1) := by decide +kernel
theorem dX2_addStation_32 : decode cX2_addStation 32 = .ok (.getfield 15, 3) := by decide +kernel
theorem dX2_addStation_35 : decode cX2_addStation 35 = .ok (.iload 4, 2) := by decide +kernel
theorem dX2_addStation_37 : decode cX2_addStation 37 = .ok (.iload_n 3, 1) := by decide +kernel
theorem dX2_addStation_38 : decode cX2_addStation 38 = .ok (.iastore, 1) := by decide +kernel
theorem dX2_addStation_39 : decode cX2_addStation 39 = .ok (.aload_n 0, 1) := by decide +kernel
theorem dX2_addStation_40 : decode cX2_addStation 40 = .ok (.getfield 18, 3) := by decide +kernel
theorem dX2_addStation_43 : decode cX2_addStation 43 = .ok (.iload 4, 2) := by decide +kernel
theorem dX2_addStation_45 : decode cX2_addStation 45 = .ok (.iconst (-1), 1) := by decide +kernel
theorem dX2_addStation_46 : decode cX2_addStation 46 = .ok (.iastore, 1) := by decide +kernel
theorem dX2_addStation_47 : decode cX2_addStation 47 = .ok (.aload_n 0, 1) := by decide +kernel
theorem dX2_addStation_48 : decode cX2_addStation 48 = .ok (.getfield 46, 3) := by decide +kernel
theorem dX2_addStation_51 : decode cX2_addStation 51 = .ok (.getfield 110, 3) := by decide +kernel
theorem dX2_addStation_54 : decode cX2_addStation 54 = .ok (.iload 4, 2) := by decide +kernel
theorem dX2_addStation_56 : decode cX2_addStation 56 = .ok (.iload_n 2, 1) := by decide +kernel
theorem dX2_addStation_57 : decode cX2_addStation 57 = .ok (.iastore, 1) := by decide +kernel
theorem dX2_addStation_58 : decode cX2_addStation 58 = .ok (.iload 4, 2) := by decide +kernel
theorem dX2_addStation_60 : decode cX2_addStation 60 = .ok (.ireturn, 1) := by decide +kernel
theorem dX2_addLevel_0 : decode cX2_addLevel 0 = .ok (.aload_n 0, 1) := by decide +kernel
theorem dX2_addLevel_1 : decode cX2_addLevel 1 = .ok (.getfield 88, 3) := by decide +kernel
theorem dX2_addLevel_4 : decode cX2_addLevel 4 = .ok (.bipush 8, 2) := by decide +kernel
theorem dX2_addLevel_6 : decode cX2_addLevel 6 = .ok (.if_icmp .lt 5, 3) := by decide +kernel
theorem dX2_addLevel_9 : decode cX2_addLevel 9 = .ok (.iconst (-1), 1) := by decide +kernel
theorem dX2_addLevel_10 : decode cX2_addLevel 10 = .ok (.ireturn, 1) := by decide +kernel
theorem dX2_addLevel_11 : decode cX2_addLevel 11 = .ok (.aload_n 0, 1) := by decide +kernel
theorem dX2_addLevel_12 : decode cX2_addLevel 12 = .ok (.getfield 60, 3) := by decide +kernel
theorem dX2_addLevel_15 : decode cX2_addLevel 15 = .ok (.aload_n 0, 1) := by decide +kernel
theorem dX2_addLevel_16 : decode cX2_addLevel 16 = .ok (.getfield 88, 3) := by decide +kernel
theorem dX2_addLevel_19 : decode cX2_addLevel 19 = .ok (.iload_n 1, 1) := by decide +kernel
theorem dX2_addLevel_20 : decode cX2_addLevel 20 = .ok (.iastore, 1) := by decide +kernel
theorem dX2_addLevel_21 : decode cX2_addLevel 21 = .ok (.aload_n 0, 1) := by decide +kernel
theorem dX2_addLevel_22 : decode cX2_addLevel 22 = .ok (.dup, 1) := by decide +kernel
theorem dX2_addLevel_23 : decode cX2_addLevel 23 = .ok (.getfield 88, 3) := by decide +kernel
theorem dX2_addLevel_26 : decode cX2_addLevel 26 = .ok (.dup_x1, 1) := by decide +kernel
theorem dX2_addLevel_27 : decode cX2_addLevel 27 = .ok (.iconst 1, 1) := by decide +kernel
theorem dX2_addLevel_28 : decode cX2_addLevel 28 = .ok (.iadd, 1) := by decide +kernel
theorem dX2_addLevel_29 : decode cX2_addLevel 29 = .ok (.putfield 88, 3) := by decide +kernel
theorem dX2_addLevel_32 : decode cX2_addLevel 32 = .ok (.ireturn, 1) := by decide +kernel
theorem dX2_addTold_0 : decode cX2_addTold 0 = .ok (.aload_n 0, 1) := by decide +kernel
theorem dX2_addTold_1 : decode cX2_addTold 1 = .ok (.getfield 50, 3) := by decide +kernel
theorem dX2_addTold_4 : decode cX2_addTold 4 = .ok (.getfield 113, 3) := by decide +kernel
theorem dX2_addTold_7 : decode cX2_addTold 7 = .ok (.bipush 60, 2) := by decide +kernel
theorem dX2_addTold_9 : decode cX2_addTold 9 = .ok (.if_icmp .lt 5, 3) := by decide +kernel
theorem dX2_addTold_12 : decode cX2_addTold 12 = .ok (.iconst (-1), 1) := by decide +kernel
theorem dX2_addTold_13 : decode cX2_addTold 13 = .ok (.ireturn, 1) := by decide +kernel
theorem dX2_addTold_14 : decode cX2_addTold 14 = .ok (.aload_n 0, 1) := by decide +kernel
theorem dX2_addTold_15 : decode cX2_addTold 15 = .ok (.getfield 50, 3) := by decide +kernel
theorem dX2_addTold_18 : decode cX2_addTold 18 = .ok (.getfield 113, 3) := by decide +kernel
theorem dX2_addTold_21 : decode cX2_addTold 21 = .ok (.ifCond .ne 17, 3) := by decide +kernel
theorem dX2_addTold_24 : decode cX2_addTold 24 = .ok (.aload_n 1, 1) := by decide +kernel
theorem dX2_addTold_25 : decode cX2_addTold 25 = .ok (.iconst 0, 1) := by decide +kernel
theorem dX2_addTold_26 : decode cX2_addTold 26 = .ok (.aload_n 0, 1) := by decide +kernel
theorem dX2_addTold_27 : decode cX2_addTold 27 = .ok (.getfield 50, 3) := by decide +kernel
theorem dX2_addTold_30 : decode cX2_addTold 30 = .ok (.getfield 110, 3) := by decide +kernel
theorem dX2_addTold_33 : decode cX2_addTold 33 = .ok (.iconst 0, 1) := by decide +kernel
theorem dX2_addTold_34 : decode cX2_addTold 34 = .ok (.iconst 4, 1) := by decide +kernel
theorem dX2_addTold_35 : decode cX2_addTold 35 = .ok (.invokestatic 91, 3) := by decide +kernel
theorem dX2_addTold_38 : decode cX2_addTold 38 = .ok (.aload_n 0, 1) := by decide +kernel
theorem dX2_addTold_39 : decode cX2_addTold 39 = .ok (.getfield 50, 3) := by decide +kernel
theorem dX2_addTold_42 : decode cX2_addTold 42 = .ok (.aload_n 1, 1) := by decide +kernel
theorem dX2_addTold_43 : decode cX2_addTold 43 = .ok (.invokevirtual 116, 3) := by decide +kernel
theorem dX2_addTold_46 : decode cX2_addTold 46 = .ok (.aload_n 0, 1) := by decide +kernel
theorem dX2_addTold_47 : decode cX2_addTold 47 = .ok (.getfield 50, 3) := by decide +kernel
theorem dX2_addTold_50 : decode cX2_addTold 50 = .ok (.getfield 113, 3) := by decide +kernel
theorem dX2_addTold_53 : decode cX2_addTold 53 = .ok (.ireturn, 1) := by decide +kernel
theorem dX2_priceNow_0 : decode cX2_priceNow 0 = .ok (.aload_n 0, 1) := by decide +kernel
theorem dX2_priceNow_1 : decode cX2_priceNow 1 = .ok (.getfield 46, 3) := by decide +kernel
theorem dX2_priceNow_4 : decode cX2_priceNow 4 = .ok (.iload_n 1, 1) := by decide +kernel
theorem dX2_priceNow_5 : decode cX2_priceNow 5 = .ok (.aload_n 0, 1) := by decide +kernel
theorem dX2_priceNow_6 : decode cX2_priceNow 6 = .ok (.getfield 46, 3) := by decide +kernel
theorem dX2_priceNow_9 : decode cX2_priceNow 9 = .ok (.getfield 113, 3) := by decide +kernel
theorem dX2_priceNow_12 : decode cX2_priceNow 12 = .ok (.iconst 1, 1) := by decide +kernel
theorem dX2_priceNow_13 : decode cX2_priceNow 13 = .ok (.isub, 1) := by decide +kernel
theorem dX2_priceNow_14 : decode cX2_priceNow 14 = .ok (.invokevirtual 120, 3) := by decide +kernel
theorem dX2_priceNow_17 : decode cX2_priceNow 17 = .ok (.ireturn, 1) := by decide +kernel
theorem dX2_takePricesNow_0 : decode cX2_takePricesNow 0 = .ok (.iconst 0, 1) := by decide +kernel
theorem dX2_takePricesNow_1 : decode cX2_takePricesNow 1 = .ok (.istore_n 2, 1) := by decide +kernel
theorem dX2_takePricesNow_2 : decode cX2_takePricesNow 2 = .ok (.iload_n 2, 1) := by decide +kernel
theorem dX2_takePricesNow_3 : decode cX2_takePricesNow 3 = .ok (.aload_n 0, 1) := by decide +kernel
theorem dX2_takePricesNow_4 : decode cX2_takePricesNow 4 = .ok (.getfield 76, 3) := by decide +kernel
theorem dX2_takePricesNow_7 : decode cX2_takePricesNow 7 = .ok (.if_icmp .ge 17, 3) := by decide +kernel
theorem dX2_takePricesNow_10 : decode cX2_takePricesNow 10 = .ok (.aload_n 1, 1) := by decide +kernel
theorem dX2_takePricesNow_11 : decode cX2_takePricesNow 11 = .ok (.iload_n 2, 1) := by decide +kernel
theorem dX2_takePricesNow_12 : decode cX2_takePricesNow 12 = .ok (.aload_n 0, 1) := by decide +kernel
theorem dX2_takePricesNow_13 : decode cX2_takePricesNow 13 = .ok (.iload_n 2, 1) := by decide +kernel
theorem dX2_takePricesNow_14 : decode cX2_takePricesNow 14 = .ok (.invokevirtual 124, 3) := by decide +kernel
theorem dX2_takePricesNow_17 : decode cX2_takePricesNow 17 = .ok (.iastore, 1) := by decide +kernel
theorem dX2_takePricesNow_18 : decode cX2_takePricesNow 18 = .ok (.iinc 2 1, 3) := by decide +kernel
theorem dX2_takePricesNow_21 : decode cX2_takePricesNow 21 = .ok (.goto (-19), 3) := by decide +kernel
theorem dX2_takePricesNow_24 : decode cX2_takePricesNow 24 = .ok (.return_, 1) := by decide +kernel
theorem dX2_known_0 : decode cX2_known 0 = .ok (.aload_n 0, 1) := by decide +kernel
theorem dX2_known_1 : decode cX2_known 1 = .ok (.getfield 84, 3) := by decide +kernel
theorem dX2_known_4 : decode cX2_known 4 = .ok (.ifnull 24, 3) := by decide +kernel
theorem dX2_known_7 : decode cX2_known 7 = .ok (.aload_n 0, 1) := by decide +kernel
theorem dX2_known_8 : decode cX2_known 8 = .ok (.getfield 84, 3) := by decide +kernel
theorem dX2_known_11 : decode cX2_known 11 = .ok (.getfield 128, 3) := by decide +kernel
theorem dX2_known_14 : decode cX2_known 14 = .ok (.ifCond .eq 14, 3) := by decide +kernel
theorem dX2_known_17 : decode cX2_known 17 = .ok (.iconst 1, 1) := by decide +kernel
theorem dX2_known_18 : decode cX2_known 18 = .ok (.aload_n 0, 1) := by decide +kernel
theorem dX2_known_19 : decode cX2_known 19 = .ok (.getfield 76, 3) := by decide +kernel
theorem dX2_known_22 : decode cX2_known 22 = .ok (.ishl, 1) := by decide +kernel
theorem dX2_known_23 : decode cX2_known 23 = .ok (.iconst 1, 1) := by decide +kernel
theorem dX2_known_24 : decode cX2_known 24 = .ok (.isub, 1) := by decide +kernel
theorem dX2_known_25 : decode cX2_known 25 = .ok (.goto 4, 3) := by decide +kernel
theorem dX2_known_28 : decode cX2_known 28 = .ok (.iconst 0, 1) := by decide +kernel
theorem dX2_known_29 : decode cX2_known 29 = .ok (.ireturn, 1) := by decide +kernel
theorem dX2_runHour_0 : decode cX2_runHour 0 = .ok (.aload_n 0, 1) := by decide +kernel
theorem dX2_runHour_1 : decode cX2_runHour 1 = .ok (.getfield 46, 3) := by decide +kernel
theorem dX2_runHour_4 : decode cX2_runHour 4 = .ok (.getfield 113, 3) := by decide +kernel
theorem dX2_runHour_7 : decode cX2_runHour 7 = .ok (.istore_n 1, 1) := by decide +kernel
theorem dX2_runHour_8 : decode cX2_runHour 8 = .ok (.iconst 0, 1) := by decide +kernel
theorem dX2_runHour_9 : decode cX2_runHour 9 = .ok (.istore_n 2, 1) := by decide +kernel
theorem dX2_runHour_10 : decode cX2_runHour 10 = .ok (.iload_n 2, 1) := by decide +kernel
theorem dX2_runHour_11 : decode cX2_runHour 11 = .ok (.aload_n 0, 1) := by decide +kernel
theorem dX2_runHour_12 : decode cX2_runHour 12 = .ok (.getfield 76, 3) := by decide +kernel
theorem dX2_runHour_15 : decode cX2_runHour 15 = .ok (.if_icmp .ge 35, 3) := by decide +kernel
theorem dX2_runHour_18 : decode cX2_runHour 18 = .ok (.aload_n 0, 1) := by decide +kernel
theorem dX2_runHour_19 : decode cX2_runHour 19 = .ok (.getfield 70, 3) := by decide +kernel
theorem dX2_runHour_22 : decode cX2_runHour 22 = .ok (.iload_n 2, 1) := by decide +kernel
theorem dX2_runHour_23 : decode cX2_runHour 23 = .ok (.aload_n 0, 1) := by decide +kernel
theorem dX2_runHour_24 : decode cX2_runHour 24 = .ok (.aload_n 0, 1) := by decide +kernel
theorem dX2_runHour_25 : decode cX2_runHour 25 = .ok (.getfield 46, 3) := by decide +kernel
theorem dX2_runHour_28 : decode cX2_runHour 28 = .ok (.iload_n 2, 1) := by decide +kernel
theorem dX2_runHour_29 : decode cX2_runHour 29 = .ok (.iload_n 1, 1) := by decide +kernel
theorem dX2_runHour_30 : decode cX2_runHour 30 = .ok (.iload_n 1, 1) := by decide +kernel
theorem dX2_runHour_31 : decode cX2_runHour 31 = .ok (.aload_n 0, 1) := by decide +kernel
theorem dX2_runHour_32 : decode cX2_runHour 32 = .ok (.getfield 18, 3) := by decide +kernel
theorem dX2_runHour_35 : decode cX2_runHour 35 = .ok (.iload_n 2, 1) := by decide +kernel
theorem dX2_runHour_36 : decode cX2_runHour 36 = .ok (.iaload, 1) := by decide +kernel
theorem dX2_runHour_37 : decode cX2_runHour 37 = .ok (.invokestatic 133, 3) := by decide +kernel
theorem dX2_runHour_40 : decode cX2_runHour 40 = .ok (.invokevirtual 136, 3) := by decide +kernel
theorem dX2_runHour_43 : decode cX2_runHour 43 = .ok (.iastore, 1) := by decide +kernel
theorem dX2_runHour_44 : decode cX2_runHour 44 = .ok (.iinc 2 1, 3) := by decide +kernel
theorem dX2_runHour_47 : decode cX2_runHour 47 = .ok (.goto (-37), 3) := by decide +kernel
theorem dX2_runHour_50 : decode cX2_runHour 50 = .ok (.iconst 0, 1) := by decide +kernel
theorem dX2_runHour_51 : decode cX2_runHour 51 = .ok (.istore_n 2, 1) := by decide +kernel
theorem dX2_runHour_52 : decode cX2_runHour 52 = .ok (.iload_n 2, 1) := by decide +kernel
theorem dX2_runHour_53 : decode cX2_runHour 53 = .ok (.aload_n 0, 1) := by decide +kernel
theorem dX2_runHour_54 : decode cX2_runHour 54 = .ok (.getfield 76, 3) := by decide +kernel
theorem dX2_runHour_57 : decode cX2_runHour 57 = .ok (.if_icmp .ge 30, 3) := by decide +kernel
theorem dX2_runHour_60 : decode cX2_runHour 60 = .ok (.aload_n 0, 1) := by decide +kernel
theorem dX2_runHour_61 : decode cX2_runHour 61 = .ok (.getfield 70, 3) := by decide +kernel
theorem dX2_runHour_64 : decode cX2_runHour 64 = .ok (.iload_n 2, 1) := by decide +kernel
theorem dX2_runHour_65 : decode cX2_runHour 65 = .ok (.iaload, 1) := by decide +kernel
theorem dX2_runHour_66 : decode cX2_runHour 66 = .ok (.aload_n 0, 1) := by decide +kernel
theorem dX2_runHour_67 : decode cX2_runHour 67 = .ok (.iload_n 2, 1) := by decide +kernel
theorem dX2_runHour_68 : decode cX2_runHour 68 = .ok (.invokevirtual 124, 3) := by decide +kernel
theorem dX2_runHour_71 : decode cX2_runHour 71 = .ok (.if_icmp .eq 10, 3) := by decide +kernel
theorem dX2_runHour_74 : decode cX2_runHour 74 = .ok (.aload_n 0, 1) := by decide +kernel
theorem dX2_runHour_75 : decode cX2_runHour 75 = .ok (.getfield 18, 3) := by decide +kernel
theorem dX2_runHour_78 : decode cX2_runHour 78 = .ok (.iload_n 2, 1) := by decide +kernel
theorem dX2_runHour_79 : decode cX2_runHour 79 = .ok (.iload_n 1, 1) := by decide +kernel
theorem dX2_runHour_80 : decode cX2_runHour 80 = .ok (.iastore, 1) := by decide +kernel
theorem dX2_runHour_81 : decode cX2_runHour 81 = .ok (.iinc 2 1, 3) := by decide +kernel
theorem dX2_runHour_84 : decode cX2_runHour 84 = .ok (.goto (-32), 3) := by decide +kernel
theorem dX2_runHour_87 : decode cX2_runHour 87 = .ok (.aload_n 0, 1) := by decide +kernel
theorem dX2_runHour_88 : decode cX2_runHour 88 = .ok (.getfield 46, 3) := by decide +kernel
theorem dX2_runHour_91 : decode cX2_runHour 91 = .ok (.aload_n 0, 1) := by decide +kernel
theorem dX2_runHour_92 : decode cX2_runHour 92 = .ok (.getfield 70, 3) := by decide +kernel
theorem dX2_runHour_95 : decode cX2_runHour 95 = .ok (.invokevirtual 116, 3) := by decide +kernel
theorem dX2_runHour_98 : decode cX2_runHour 98 = .ok (.aload_n 0, 1) := by decide +kernel
theorem dX2_runHour_99 : decode cX2_runHour 99 = .ok (.invokevirtual 140, 3) := by decide +kernel
theorem dX2_runHour_102 : decode cX2_runHour 102 = .ok (.istore_n 2, 1) := by decide +kernel
theorem dX2_runHour_103 : decode cX2_runHour 103 = .ok (.iconst 0, 1) := by decide +kernel
theorem dX2_runHour_104 : decode cX2_runHour 104 = .ok (.istore_n 3, 1) := by decide +kernel
theorem dX2_runHour_105 : decode cX2_runHour 105 = .ok (.iload_n 3, 1) := by decide +kernel
theorem dX2_runHour_106 : decode cX2_runHour 106 = .ok (.aload_n 0, 1) := by decide +kernel
theorem dX2_runHour_107 : decode cX2_runHour 107 = .ok (.getfield 37, 3) := by decide +kernel
theorem dX2_runHour_110 : decode cX2_runHour 110 = .ok (.getfield 144, 3) := by decide +kernel
theorem dX2_runHour_113 : decode cX2_runHour 113 = .ok (.if_icmp .ge 35, 3) := by decide +kernel
theorem dX2_runHour_116 : decode cX2_runHour 116 = .ok (.aload_n 0, 1) := by decide +kernel
theorem dX2_runHour_117 : decode cX2_runHour 117 = .ok (.aload_n 0, 1) := by decide +kernel
theorem dX2_runHour_118 : decode cX2_runHour 118 = .ok (.getfield 37, 3) := by decide +kernel
theorem dX2_runHour_121 : decode cX2_runHour 121 = .ok (.iload_n 3, 1) := by decide +kernel
theorem dX2_runHour_122 : decode cX2_runHour 122 = .ok (.aload_n 0, 1) := by decide +kernel
theorem dX2_runHour_123 : decode cX2_runHour 123 = .ok (.getfield 70, 3) := by decide +kernel
theorem dX2_runHour_126 : decode cX2_runHour 126 = .ok (.iload_n 2, 1) := by decide +kernel
theorem dX2_runHour_127 : decode cX2_runHour 127 = .ok (.invokevirtual 147, 3) := by decide +kernel
theorem dX2_runHour_130 : decode cX2_runHour 130 = .ok (.aload_n 0, 1) := by decide +kernel
theorem dX2_runHour_131 : decode cX2_runHour 131 = .ok (.getfield 37, 3) := by decide +kernel
theorem dX2_runHour_134 : decode cX2_runHour 134 = .ok (.getfield 151, 3) := by decide +kernel
theorem dX2_runHour_137 : decode cX2_runHour 137 = .ok (.iload_n 3, 1) := by decide +kernel
theorem dX2_runHour_138 : decode cX2_runHour 138 = .ok (.iaload, 1) := by decide +kernel
theorem dX2_runHour_139 : decode cX2_runHour 139 = .ok (.invokevirtual 154, 3) := by decide +kernel
theorem dX2_runHour_142 : decode cX2_runHour 142 = .ok (.iinc 3 1, 3) := by decide +kernel
theorem dX2_runHour_145 : decode cX2_runHour 145 = .ok (.goto (-40), 3) := by decide +kernel
theorem dX2_runHour_148 : decode cX2_runHour 148 = .ok (.return_, 1) := by decide +kernel
theorem dX2_sell_0 : decode cX2_sell 0 = .ok (.aload_n 0, 1) := by decide +kernel
theorem dX2_sell_1 : decode cX2_sell 1 = .ok (.getfield 21, 3) := by decide +kernel
theorem dX2_sell_4 : decode cX2_sell 4 = .ok (.iload_n 1, 1) := by decide +kernel
theorem dX2_sell_5 : decode cX2_sell 5 = .ok (.dup2, 1) := by decide +kernel
theorem dX2_sell_6 : decode cX2_sell 6 = .ok (.laload, 1) := by decide +kernel
theorem dX2_sell_7 : decode cX2_sell 7 = .ok (.iload_n 2, 1) := by decide +kernel
theorem dX2_sell_8 : decode cX2_sell 8 = .ok (.aload_n 0, 1) := by decide +kernel
theorem dX2_sell_9 : decode cX2_sell 9 = .ok (.getfield 70, 3) := by decide +kernel
theorem dX2_sell_12 : decode cX2_sell 12 = .ok (.iload_n 1, 1) := by decide +kernel
theorem dX2_sell_13 : decode cX2_sell 13 = .ok (.iaload, 1) := by decide +kernel
theorem dX2_sell_14 : decode cX2_sell 14 = .ok (.aload_n 0, 1) := by decide +kernel
theorem dX2_sell_15 : decode cX2_sell 15 = .ok (.getfield 9, 3) := by decide +kernel
theorem dX2_sell_18 : decode cX2_sell 18 = .ok (.iload_n 1, 1) := by decide +kernel
theorem dX2_sell_19 : decode cX2_sell 19 = .ok (.iaload, 1) := by decide +kernel
theorem dX2_sell_20 : decode cX2_sell 20 = .ok (.isub, 1) := by decide +kernel
theorem dX2_sell_21 : decode cX2_sell 21 = .ok (.imul, 1) := by decide +kernel
theorem dX2_sell_22 : decode cX2_sell 22 = .ok (.i2l, 1) := by decide +kernel
theorem dX2_sell_23 : decode cX2_sell 23 = .ok (.ladd, 1) := by decide +kernel
theorem dX2_sell_24 : decode cX2_sell 24 = .ok (.lastore, 1) := by decide +kernel
theorem dX2_sell_25 : decode cX2_sell 25 = .ok (.aload_n 0, 1) := by decide +kernel
theorem dX2_sell_26 : decode cX2_sell 26 = .ok (.getfield 25, 3) := by decide +kernel
theorem dX2_sell_29 : decode cX2_sell 29 = .ok (.iload_n 1, 1) := by decide +kernel
theorem dX2_sell_30 : decode cX2_sell 30 = .ok (.dup2, 1) := by decide +kernel
theorem dX2_sell_31 : decode cX2_sell 31 = .ok (.laload, 1) := by decide +kernel
theorem dX2_sell_32 : decode cX2_sell 32 = .ok (.iload_n 2, 1) := by decide +kernel
theorem dX2_sell_33 : decode cX2_sell 33 = .ok (.i2l, 1) := by decide +kernel
theorem dX2_sell_34 : decode cX2_sell 34 = .ok (.ladd, 1) := by decide +kernel
theorem dX2_sell_35 : decode cX2_sell 35 = .ok (.lastore, 1) := by decide +kernel
theorem dX2_sell_36 : decode cX2_sell 36 = .ok (.aload_n 0, 1) := by decide +kernel
theorem dX2_sell_37 : decode cX2_sell 37 = .ok (.dup, 1) := by decide +kernel
theorem dX2_sell_38 : decode cX2_sell 38 = .ok (.getfield 80, 3) := by decide +kernel
theorem dX2_sell_41 : decode cX2_sell 41 = .ok (.iload_n 2, 1) := by decide +kernel
theorem dX2_sell_42 : decode cX2_sell 42 = .ok (.aload_n 0, 1) := by decide +kernel
theorem dX2_sell_43 : decode cX2_sell 43 = .ok (.getfield 70, 3) := by decide +kernel
theorem dX2_sell_46 : decode cX2_sell 46 = .ok (.iload_n 1, 1) := by decide +kernel
theorem dX2_sell_47 : decode cX2_sell 47 = .ok (.iaload, 1) := by decide +kernel
theorem dX2_sell_48 : decode cX2_sell 48 = .ok (.imul, 1) := by decide +kernel
theorem dX2_sell_49 : decode cX2_sell 49 = .ok (.i2l, 1) := by decide +kernel
theorem dX2_sell_50 : decode cX2_sell 50 = .ok (.ladd, 1) := by decide +kernel
theorem dX2_sell_51 : decode cX2_sell 51 = .ok (.putfield 80, 3) := by decide +kernel
theorem dX2_sell_54 : decode cX2_sell 54 = .ok (.return_, 1) := by decide +kernel
theorem dX2_decide_0 : decode cX2_decide 0 = .ok (.aload_n 0, 1) := by decide +kernel
theorem dX2_decide_1 : decode cX2_decide 1 = .ok (.aload_n 1, 1) := by decide +kernel
theorem dX2_decide_2 : decode cX2_decide 2 = .ok (.iload_n 2, 1) := by decide +kernel
theorem dX2_decide_3 : decode cX2_decide 3 = .ok (.iload_n 3, 1) := by decide +kernel
theorem dX2_decide_4 : decode cX2_decide 4 = .ok (.iload 4, 2) := by decide +kernel
theorem dX2_decide_6 : decode cX2_decide 6 = .ok (.invokevirtual 158, 3) := by decide +kernel
theorem dX2_decide_9 : decode cX2_decide 9 = .ok (.aload_n 0, 1) := by decide +kernel
theorem dX2_decide_10 : decode cX2_decide 10 = .ok (.getfield 30, 3) := by decide +kernel
theorem dX2_decide_13 : decode cX2_decide 13 = .ok (.iload_n 2, 1) := by decide +kernel
theorem dX2_decide_14 : decode cX2_decide 14 = .ok (.aaload, 1) := by decide +kernel
theorem dX2_decide_15 : decode cX2_decide 15 = .ok (.astore 5, 2) := by decide +kernel
theorem dX2_decide_17 : decode cX2_decide 17 = .ok (.aload 5, 2) := by decide +kernel
theorem dX2_decide_19 : decode cX2_decide 19 = .ok (.ifnonnull 12, 3) := by decide +kernel
theorem dX2_decide_22 : decode cX2_decide 22 = .ok (.aload_n 0, 1) := by decide +kernel
theorem dX2_decide_23 : decode cX2_decide 23 = .ok (.getfield 73, 3) := by decide +kernel
theorem dX2_decide_26 : decode cX2_decide 26 = .ok (.iconst 0, 1) := by decide +kernel
theorem dX2_decide_27 : decode cX2_decide 27 = .ok (.iaload, 1) := by decide +kernel
theorem dX2_decide_28 : decode cX2_decide 28 = .ok (.goto 12, 3) := by decide +kernel
theorem dX2_decide_31 : decode cX2_decide 31 = .ok (.aload 5, 2) := by decide +kernel
theorem dX2_decide_33 : decode cX2_decide 33 = .ok (.aload_n 0, 1) := by decide +kernel
theorem dX2_decide_34 : decode cX2_decide 34 = .ok (.getfield 73, 3) := by decide +kernel
theorem dX2_decide_37 : decode cX2_decide 37 = .ok (.invokevirtual 162, 3) := by decide +kernel
theorem dX2_decide_40 : decode cX2_decide 40 = .ok (.istore 6, 2) := by decide +kernel
theorem dX2_decide_42 : decode cX2_decide 42 = .ok (.aload_n 0, 1) := by decide +kernel
theorem dX2_decide_43 : decode cX2_decide 43 = .ok (.getfield 84, 3) := by decide +kernel
theorem dX2_decide_46 : decode cX2_decide 46 = .ok (.ifnonnull 11, 3) := by decide +kernel
theorem dX2_decide_49 : decode cX2_decide 49 = .ok (.iload 6, 2) := by decide +kernel
theorem dX2_decide_51 : decode cX2_decide 51 = .ok (.invokestatic 166, 3) := by decide +kernel
theorem dX2_decide_54 : decode cX2_decide 54 = .ok (.goto 16, 3) := by decide +kernel
theorem dX2_decide_57 : decode cX2_decide 57 = .ok (.aload_n 0, 1) := by decide +kernel
theorem dX2_decide_58 : decode cX2_decide 58 = .ok (.getfield 84, 3) := by decide +kernel
theorem dX2_decide_61 : decode cX2_decide 61 = .ok (.iload 6, 2) := by decide +kernel
theorem dX2_decide_63 : decode cX2_decide 63 = .ok (.aload_n 0, 1) := by decide +kernel
theorem dX2_decide_64 : decode cX2_decide 64 = .ok (.getfield 73, 3) := by decide +kernel
theorem dX2_decide_67 : decode cX2_decide 67 = .ok (.invokevirtual 169, 3) := by decide +kernel
theorem dX2_decide_70 : decode cX2_decide 70 = .ok (.ireturn, 1) := by decide +kernel
theorem dX2_look_0 : decode cX2_look 0 = .ok (.aload_n 0, 1) := by decide +kernel
theorem dX2_look_1 : decode cX2_look 1 = .ok (.getfield 73, 3) := by decide +kernel
theorem dX2_look_4 : decode cX2_look 4 = .ok (.iconst 0, 1) := by decide +kernel
theorem dX2_look_5 : decode cX2_look 5 = .ok (.aload_n 1, 1) := by decide +kernel
theorem dX2_look_6 : decode cX2_look 6 = .ok (.iload_n 2, 1) := by decide +kernel
theorem dX2_look_7 : decode cX2_look 7 = .ok (.iload_n 3, 1) := by decide +kernel
theorem dX2_look_8 : decode cX2_look 8 = .ok (.iconst 1, 1) := by decide +kernel
theorem dX2_look_9 : decode cX2_look 9 = .ok (.isub, 1) := by decide +kernel
theorem dX2_look_10 : decode cX2_look 10 = .ok (.invokevirtual 120, 3) := by decide +kernel
theorem dX2_look_13 : decode cX2_look 13 = .ok (.iastore, 1) := by decide +kernel
theorem dX2_look_14 : decode cX2_look 14 = .ok (.aload_n 0, 1) := by decide +kernel
theorem dX2_look_15 : decode cX2_look 15 = .ok (.getfield 73, 3) := by decide +kernel
theorem dX2_look_18 : decode cX2_look 18 = .ok (.iconst 3, 1) := by decide +kernel
theorem dX2_look_19 : decode cX2_look 19 = .ok (.aload_n 0, 1) := by decide +kernel
theorem dX2_look_20 : decode cX2_look 20 = .ok (.getfield 9, 3) := by decide +kernel
theorem dX2_look_23 : decode cX2_look 23 = .ok (.iload_n 2, 1) := by decide +kernel
theorem dX2_look_24 : decode cX2_look 24 = .ok (.iaload, 1) := by decide +kernel
theorem dX2_look_25 : decode cX2_look 25 = .ok (.iastore, 1) := by decide +kernel
theorem dX2_look_26 : decode cX2_look 26 = .ok (.aload_n 0, 1) := by decide +kernel
theorem dX2_look_27 : decode cX2_look 27 = .ok (.getfield 73, 3) := by decide +kernel
theorem dX2_look_30 : decode cX2_look 30 = .ok (.iconst 4, 1) := by decide +kernel
theorem dX2_look_31 : decode cX2_look 31 = .ok (.iload_n 3, 1) := by decide +kernel
theorem dX2_look_32 : decode cX2_look 32 = .ok (.bipush 24, 2) := by decide +kernel
theorem dX2_look_34 : decode cX2_look 34 = .ok (.irem, 1) := by decide +kernel
theorem dX2_look_35 : decode cX2_look 35 = .ok (.iastore, 1) := by decide +kernel
theorem dX2_look_36 : decode cX2_look 36 = .ok (.aload_n 0, 1) := by decide +kernel
theorem dX2_look_37 : decode cX2_look 37 = .ok (.getfield 73, 3) := by decide +kernel
theorem dX2_look_40 : decode cX2_look 40 = .ok (.iconst 5, 1) := by decide +kernel
theorem dX2_look_41 : decode cX2_look 41 = .ok (.iload_n 3, 1) := by decide +kernel
theorem dX2_look_42 : decode cX2_look 42 = .ok (.bipush 24, 2) := by decide +kernel
theorem dX2_look_44 : decode cX2_look 44 = .ok (.idiv, 1) := by decide +kernel
theorem dX2_look_45 : decode cX2_look 45 = .ok (.bipush 7, 2) := by decide +kernel
theorem dX2_look_47 : decode cX2_look 47 = .ok (.irem, 1) := by decide +kernel
theorem dX2_look_48 : decode cX2_look 48 = .ok (.iastore, 1) := by decide +kernel
theorem dX2_look_49 : decode cX2_look 49 = .ok (.aload_n 0, 1) := by decide +kernel
theorem dX2_look_50 : decode cX2_look 50 = .ok (.getfield 73, 3) := by decide +kernel
theorem dX2_look_53 : decode cX2_look 53 = .ok (.bipush 6, 2) := by decide +kernel
theorem dX2_look_55 : decode cX2_look 55 = .ok (.iload 4, 2) := by decide +kernel
theorem dX2_look_57 : decode cX2_look 57 = .ok (.iastore, 1) := by decide +kernel
theorem dX2_look_58 : decode cX2_look 58 = .ok (.aload_n 0, 1) := by decide +kernel
theorem dX2_look_59 : decode cX2_look 59 = .ok (.aload_n 1, 1) := by decide +kernel
theorem dX2_look_60 : decode cX2_look 60 = .ok (.iload_n 2, 1) := by decide +kernel
theorem dX2_look_61 : decode cX2_look 61 = .ok (.iload_n 3, 1) := by decide +kernel
theorem dX2_look_62 : decode cX2_look 62 = .ok (.iconst 1, 1) := by decide +kernel
theorem dX2_look_63 : decode cX2_look 63 = .ok (.isub, 1) := by decide +kernel
theorem dX2_look_64 : decode cX2_look 64 = .ok (.aload_n 0, 1) := by decide +kernel
theorem dX2_look_65 : decode cX2_look 65 = .ok (.getfield 15, 3) := by decide +kernel
theorem dX2_look_68 : decode cX2_look 68 = .ok (.iload_n 2, 1) := by decide +kernel
theorem dX2_look_69 : decode cX2_look 69 = .ok (.iaload, 1) := by decide +kernel
theorem dX2_look_70 : decode cX2_look 70 = .ok (.isub, 1) := by decide +kernel
theorem dX2_look_71 : decode cX2_look 71 = .ok (.invokevirtual 173, 3) := by decide +kernel
theorem dX2_look_74 : decode cX2_look 74 = .ok (.return_, 1) := by decide +kernel
theorem dX2_lookAtOthers_0 : decode cX2_lookAtOthers 0 = .ok (.bipush 100, 2) := by decide +kernel
theorem dX2_lookAtOthers_2 : decode cX2_lookAtOthers 2 = .ok (.istore 4, 2) := by decide +kernel
theorem dX2_lookAtOthers_4 : decode cX2_lookAtOthers 4 = .ok (.iconst (-1), 1) := by decide +kernel
theorem dX2_lookAtOthers_5 : decode cX2_lookAtOthers 5 = .ok (.istore 5, 2) := by decide +kernel
theorem dX2_lookAtOthers_7 : decode cX2_lookAtOthers 7 = .ok (.iconst 0, 1) := by decide +kernel
theorem dX2_lookAtOthers_8 : decode cX2_lookAtOthers 8 = .ok (.istore 6, 2) := by decide +kernel
theorem dX2_lookAtOthers_10 : decode cX2_lookAtOthers 10 = .ok (.iconst 0, 1) := by decide +kernel
theorem dX2_lookAtOthers_11 : decode cX2_lookAtOthers 11 = .ok (.istore 7, 2) := by decide +kernel
theorem dX2_lookAtOthers_13 : decode cX2_lookAtOthers 13 = .ok (.iconst 0, 1) := by decide +kernel
theorem dX2_lookAtOthers_14 : decode cX2_lookAtOthers 14 = .ok (.istore 8, 2) := by decide +kernel
theorem dX2_lookAtOthers_16 : decode cX2_lookAtOthers 16 = .ok (.iload 8, 2) := by decide +kernel
theorem dX2_lookAtOthers_18 : decode cX2_lookAtOthers 18 = .ok (.aload_n 0, 1) := by decide +kernel
theorem dX2_lookAtOthers_19 : decode cX2_lookAtOthers 19 = .ok (.getfield 76, 3) := by decide +kernel
theorem dX2_lookAtOthers_22 : decode cX2_lookAtOthers 22 = .ok (.if_icmp .ge 87, 3) := by decide +kernel
theorem dX2_lookAtOthers_25 : decode cX2_lookAtOthers 25 = .ok (.iload 8, 2) := by decide +kernel
theorem dX2_lookAtOthers_27 : decode cX2_lookAtOthers 27 = .ok (.iload_n 2, 1) := by decide +kernel
theorem dX2_lookAtOthers_28 : decode cX2_lookAtOthers 28 = .ok (.if_icmp .eq 75, 3) := by decide +kernel
theorem dX2_lookAtOthers_31 : decode cX2_lookAtOthers 31 = .ok (.aload_n 1, 1) := by decide +kernel
theorem dX2_lookAtOthers_32 : decode cX2_lookAtOthers 32 = .ok (.iload 8, 2) := by decide +kernel
theorem dX2_lookAtOthers_34 : decode cX2_lookAtOthers 34 = .ok (.iload_n 3, 1) := by decide +kernel
theorem dX2_lookAtOthers_35 : decode cX2_lookAtOthers 35 = .ok (.invokevirtual 120, 3) := by decide +kernel
theorem dX2_lookAtOthers_38 : decode cX2_lookAtOthers 38 = .ok (.istore 9, 2) := by decide +kernel
theorem dX2_lookAtOthers_40 : decode cX2_lookAtOthers 40 = .ok (.aload_n 1, 1) := by decide +kernel
theorem dX2_lookAtOthers_41 : decode cX2_lookAtOthers 41 = .ok (.iload 8, 2) := by decide +kernel
theorem dX2_lookAtOthers_43 : decode cX2_lookAtOthers 43 = .ok (.iload_n 3, 1) := by decide +kernel
theorem dX2_lookAtOthers_44 : decode cX2_lookAtOthers 44 = .ok (.iconst 1, 1) := by decide +kernel
theorem dX2_lookAtOthers_45 : decode cX2_lookAtOthers 45 = .ok (.isub, 1) := by decide +kernel
theorem dX2_lookAtOthers_46 : decode cX2_lookAtOthers 46 = .ok (.invokevirtual 120, 3) := by decide +kernel
theorem dX2_lookAtOthers_49 : decode cX2_lookAtOthers 49 = .ok (.istore 10, 2) := by decide +kernel
theorem dX2_lookAtOthers_51 : decode cX2_lookAtOthers 51 = .ok (.iload 4, 2) := by decide +kernel
theorem dX2_lookAtOthers_53 : decode cX2_lookAtOthers 53 = .ok (.iload 9, 2) := by decide +kernel
theorem dX2_lookAtOthers_55 : decode cX2_lookAtOthers 55 = .ok (.invokestatic 177, 3) := by decide +kernel
theorem dX2_lookAtOthers_58 : decode cX2_lookAtOthers 58 = .ok (.istore 4, 2) := by decide +kernel
theorem dX2_lookAtOthers_60 : decode cX2_lookAtOthers 60 = .ok (.iload 5, 2) := by decide +kernel
theorem dX2_lookAtOthers_62 : decode cX2_lookAtOthers 62 = .ok (.iload 9, 2) := by decide +kernel
theorem dX2_lookAtOthers_64 : decode cX2_lookAtOthers 64 = .ok (.invokestatic 182, 3) := by decide +kernel
theorem dX2_lookAtOthers_67 : decode cX2_lookAtOthers 67 = .ok (.istore 5, 2) := by decide +kernel
theorem dX2_lookAtOthers_69 : decode cX2_lookAtOthers 69 = .ok (.iload 6, 2) := by decide +kernel
theorem dX2_lookAtOthers_71 : decode cX2_lookAtOthers 71 = .ok (.iload 9, 2) := by decide +kernel
theorem dX2_lookAtOthers_73 : decode cX2_lookAtOthers 73 = .ok (.iload 10, 2) := by decide +kernel
theorem dX2_lookAtOthers_75 : decode cX2_lookAtOthers 75 = .ok (.if_icmp .le 7, 3) := by decide +kernel
theorem dX2_lookAtOthers_78 : decode cX2_lookAtOthers 78 = .ok (.iconst 1, 1) := by decide +kernel
theorem dX2_lookAtOthers_79 : decode cX2_lookAtOthers 79 = .ok (.goto 4, 3) := by decide +kernel
theorem dX2_lookAtOthers_82 : decode cX2_lookAtOthers 82 = .ok (.iconst 0, 1) := by decide +kernel
theorem dX2_lookAtOthers_83 : decode cX2_lookAtOthers 83 = .ok (.iadd, 1) := by decide +kernel
theorem dX2_lookAtOthers_84 : decode cX2_lookAtOthers 84 = .ok (.istore 6, 2) := by decide +kernel
theorem dX2_lookAtOthers_86 : decode cX2_lookAtOthers 86 = .ok (.iload 7, 2) := by decide +kernel
theorem dX2_lookAtOthers_88 : decode cX2_lookAtOthers 88 = .ok (.iload 9, 2) := by decide +kernel
theorem dX2_lookAtOthers_90 : decode cX2_lookAtOthers 90 = .ok (.iload 10, 2) := by decide +kernel
theorem dX2_lookAtOthers_92 : decode cX2_lookAtOthers 92 = .ok (.if_icmp .ge 7, 3) := by decide +kernel
theorem dX2_lookAtOthers_95 : decode cX2_lookAtOthers 95 = .ok (.iconst 1, 1) := by decide +kernel
theorem dX2_lookAtOthers_96 : decode cX2_lookAtOthers 96 = .ok (.goto 4, 3) := by decide +kernel
theorem dX2_lookAtOthers_99 : decode cX2_lookAtOthers 99 = .ok (.iconst 0, 1) := by decide +kernel
theorem dX2_lookAtOthers_100 : decode cX2_lookAtOthers 100 = .ok (.iadd, 1) := by decide +kernel
theorem dX2_lookAtOthers_101 : decode cX2_lookAtOthers 101 = .ok (.istore 7, 2) := by decide +kernel
theorem dX2_lookAtOthers_103 : decode cX2_lookAtOthers 103 = .ok (.iinc 8 1, 3) := by decide +kernel
theorem dX2_lookAtOthers_106 : decode cX2_lookAtOthers 106 = .ok (.goto (-90), 3) := by decide +kernel
theorem dX2_lookAtOthers_109 : decode cX2_lookAtOthers 109 = .ok (.iload 5, 2) := by decide +kernel
theorem dX2_lookAtOthers_111 : decode cX2_lookAtOthers 111 = .ok (.iconst (-1), 1) := by decide +kernel
theorem dX2_lookAtOthers_112 : decode cX2_lookAtOthers 112 = .ok (.if_icmp .ne 7, 3) := by decide +kernel
theorem dX2_lookAtOthers_115 : decode cX2_lookAtOthers 115 = .ok (.iconst 1, 1) := by decide +kernel
theorem dX2_lookAtOthers_116 : decode cX2_lookAtOthers 116 = .ok (.goto 4, 3) := by decide +kernel
theorem dX2_lookAtOthers_119 : decode cX2_lookAtOthers 119 = .ok (.iconst 0, 1) := by decide +kernel
theorem dX2_lookAtOthers_120 : decode cX2_lookAtOthers 120 = .ok (.istore 8, 2) := by decide +kernel
theorem dX2_lookAtOthers_122 : decode cX2_lookAtOthers 122 = .ok (.aload_n 0, 1) := by decide +kernel
theorem dX2_lookAtOthers_123 : decode cX2_lookAtOthers 123 = .ok (.getfield 73, 3) := by decide +kernel
theorem dX2_lookAtOthers_126 : decode cX2_lookAtOthers 126 = .ok (.iconst 1, 1) := by decide +kernel
theorem dX2_lookAtOthers_127 : decode cX2_lookAtOthers 127 = .ok (.iload 8, 2) := by decide +kernel
theorem dX2_lookAtOthers_129 : decode cX2_lookAtOthers 129 = .ok (.ifCond .eq 12, 3) := by decide +kernel
theorem dX2_lookAtOthers_132 : decode cX2_lookAtOthers 132 = .ok (.aload_n 0, 1) := by decide +kernel
theorem dX2_lookAtOthers_133 : decode cX2_lookAtOthers 133 = .ok (.getfield 73, 3) := by decide +kernel
theorem dX2_lookAtOthers_136 : decode cX2_lookAtOthers 136 = .ok (.iconst 0, 1) := by decide +kernel
theorem dX2_lookAtOthers_137 : decode cX2_lookAtOthers 137 = .ok (.iaload, 1) := by decide +kernel
theorem dX2_lookAtOthers_138 : decode cX2_lookAtOthers 138 = .ok (.goto 5, 3) := by decide +kernel
theorem dX2_lookAtOthers_141 : decode cX2_lookAtOthers 141 = .ok (.iload 4, 2) := by decide +kernel
theorem dX2_lookAtOthers_143 : decode cX2_lookAtOthers 143 = .ok (.iastore, 1) := by decide +kernel
theorem dX2_lookAtOthers_144 : decode cX2_lookAtOthers 144 = .ok (.aload_n 0, 1) := by decide +kernel
theorem dX2_lookAtOthers_145 : decode cX2_lookAtOthers 145 = .ok (.getfield 73, 3) := by decide +kernel
theorem dX2_lookAtOthers_148 : decode cX2_lookAtOthers 148 = .ok (.iconst 2, 1) := by decide +kernel
theorem dX2_lookAtOthers_149 : decode cX2_lookAtOthers 149 = .ok (.iload 8, 2) := by decide +kernel
theorem dX2_lookAtOthers_151 : decode cX2_lookAtOthers 151 = .ok (.ifCond .eq 12, 3) := by decide +kernel
theorem dX2_lookAtOthers_154 : decode cX2_lookAtOthers 154 = .ok (.aload_n 0, 1) := by decide +kernel
theorem dX2_lookAtOthers_155 : decode cX2_lookAtOthers 155 = .ok (.getfield 73, 3) := by decide +kernel
theorem dX2_lookAtOthers_158 : decode cX2_lookAtOthers 158 = .ok (.iconst 0, 1) := by decide +kernel
theorem dX2_lookAtOthers_159 : decode cX2_lookAtOthers 159 = .ok (.iaload, 1) := by decide +kernel
theorem dX2_lookAtOthers_160 : decode cX2_lookAtOthers 160 = .ok (.goto 5, 3) := by decide +kernel
theorem dX2_lookAtOthers_163 : decode cX2_lookAtOthers 163 = .ok (.iload 5, 2) := by decide +kernel
theorem dX2_lookAtOthers_165 : decode cX2_lookAtOthers 165 = .ok (.iastore, 1) := by decide +kernel
theorem dX2_lookAtOthers_166 : decode cX2_lookAtOthers 166 = .ok (.aload_n 0, 1) := by decide +kernel
theorem dX2_lookAtOthers_167 : decode cX2_lookAtOthers 167 = .ok (.getfield 73, 3) := by decide +kernel
theorem dX2_lookAtOthers_170 : decode cX2_lookAtOthers 170 = .ok (.bipush 7, 2) := by decide +kernel
theorem dX2_lookAtOthers_172 : decode cX2_lookAtOthers 172 = .ok (.iload 6, 2) := by decide +kernel
theorem dX2_lookAtOthers_174 : decode cX2_lookAtOthers 174 = .ok (.iastore, 1) := by decide +kernel
theorem dX2_lookAtOthers_175 : decode cX2_lookAtOthers 175 = .ok (.aload_n 0, 1) := by decide +kernel
theorem dX2_lookAtOthers_176 : decode cX2_lookAtOthers 176 = .ok (.getfield 73, 3) := by decide +kernel
theorem dX2_lookAtOthers_179 : decode cX2_lookAtOthers 179 = .ok (.bipush 8, 2) := by decide +kernel
theorem dX2_lookAtOthers_181 : decode cX2_lookAtOthers 181 = .ok (.iload 7, 2) := by decide +kernel
theorem dX2_lookAtOthers_183 : decode cX2_lookAtOthers 183 = .ok (.iastore, 1) := by decide +kernel
theorem dX2_lookAtOthers_184 : decode cX2_lookAtOthers 184 = .ok (.return_, 1) := by decide +kernel
theorem dX2_firstMisfit_0 : decode cX2_firstMisfit 0 = .ok (.iconst (-1), 1) := by decide +kernel
theorem dX2_firstMisfit_1 : decode cX2_firstMisfit 1 = .ok (.istore_n 2, 1) := by decide +kernel
theorem dX2_firstMisfit_2 : decode cX2_firstMisfit 2 = .ok (.iconst 1, 1) := by decide +kernel
theorem dX2_firstMisfit_3 : decode cX2_firstMisfit 3 = .ok (.istore_n 3, 1) := by decide +kernel
theorem dX2_firstMisfit_4 : decode cX2_firstMisfit 4 = .ok (.iload_n 3, 1) := by decide +kernel
theorem dX2_firstMisfit_5 : decode cX2_firstMisfit 5 = .ok (.aload_n 0, 1) := by decide +kernel
theorem dX2_firstMisfit_6 : decode cX2_firstMisfit 6 = .ok (.getfield 50, 3) := by decide +kernel
theorem dX2_firstMisfit_9 : decode cX2_firstMisfit 9 = .ok (.getfield 113, 3) := by decide +kernel
theorem dX2_firstMisfit_12 : decode cX2_firstMisfit 12 = .ok (.if_icmp .ge 60, 3) := by decide +kernel
theorem dX2_firstMisfit_15 : decode cX2_firstMisfit 15 = .ok (.aload_n 0, 1) := by decide +kernel
theorem dX2_firstMisfit_16 : decode cX2_firstMisfit 16 = .ok (.getfield 50, 3) := by decide +kernel
theorem dX2_firstMisfit_19 : decode cX2_firstMisfit 19 = .ok (.iload_n 1, 1) := by decide +kernel
theorem dX2_firstMisfit_20 : decode cX2_firstMisfit 20 = .ok (.iload_n 3, 1) := by decide +kernel
theorem dX2_firstMisfit_21 : decode cX2_firstMisfit 21 = .ok (.invokevirtual 120, 3) := by decide +kernel
theorem dX2_firstMisfit_24 : decode cX2_firstMisfit 24 = .ok (.istore 4, 2) := by decide +kernel
theorem dX2_firstMisfit_26 : decode cX2_firstMisfit 26 = .ok (.iload 4, 2) := by decide +kernel
theorem dX2_firstMisfit_28 : decode cX2_firstMisfit 28 = .ok (.aload_n 0, 1) := by decide +kernel
theorem dX2_firstMisfit_29 : decode cX2_firstMisfit 29 = .ok (.aload_n 0, 1) := by decide +kernel
theorem dX2_firstMisfit_30 : decode cX2_firstMisfit 30 = .ok (.getfield 50, 3) := by decide +kernel
theorem dX2_firstMisfit_33 : decode cX2_firstMisfit 33 = .ok (.iload_n 1, 1) := by decide +kernel
theorem dX2_firstMisfit_34 : decode cX2_firstMisfit 34 = .ok (.iload_n 3, 1) := by decide +kernel
theorem dX2_firstMisfit_35 : decode cX2_firstMisfit 35 = .ok (.iload_n 3, 1) := by decide +kernel
theorem dX2_firstMisfit_36 : decode cX2_firstMisfit 36 = .ok (.iload_n 2, 1) := by decide +kernel
theorem dX2_firstMisfit_37 : decode cX2_firstMisfit 37 = .ok (.invokestatic 133, 3) := by decide +kernel
theorem dX2_firstMisfit_40 : decode cX2_firstMisfit 40 = .ok (.invokevirtual 136, 3) := by decide +kernel
theorem dX2_firstMisfit_43 : decode cX2_firstMisfit 43 = .ok (.if_icmp .eq 5, 3) := by decide +kernel
theorem dX2_firstMisfit_46 : decode cX2_firstMisfit 46 = .ok (.iload_n 3, 1) := by decide +kernel
theorem dX2_firstMisfit_47 : decode cX2_firstMisfit 47 = .ok (.ireturn, 1) := by decide +kernel
theorem dX2_firstMisfit_48 : decode cX2_firstMisfit 48 = .ok (.iload 4, 2) := by decide +kernel
theorem dX2_firstMisfit_50 : decode cX2_firstMisfit 50 = .ok (.aload_n 0, 1) := by decide +kernel
theorem dX2_firstMisfit_51 : decode cX2_firstMisfit 51 = .ok (.getfield 50, 3) := by decide +kernel
theorem dX2_firstMisfit_54 : decode cX2_firstMisfit 54 = .ok (.iload_n 1, 1) := by decide +kernel
theorem dX2_firstMisfit_55 : decode cX2_firstMisfit 55 = .ok (.iload_n 3, 1) := by decide +kernel
theorem dX2_firstMisfit_56 : decode cX2_firstMisfit 56 = .ok (.iconst 1, 1) := by decide +kernel
theorem dX2_firstMisfit_57 : decode cX2_firstMisfit 57 = .ok (.isub, 1) := by decide +kernel
theorem dX2_firstMisfit_58 : decode cX2_firstMisfit 58 = .ok (.invokevirtual 120, 3) := by decide +kernel
theorem dX2_firstMisfit_61 : decode cX2_firstMisfit 61 = .ok (.if_icmp .eq 5, 3) := by decide +kernel
theorem dX2_firstMisfit_64 : decode cX2_firstMisfit 64 = .ok (.iload_n 3, 1) := by decide +kernel
theorem dX2_firstMisfit_65 : decode cX2_firstMisfit 65 = .ok (.istore_n 2, 1) := by decide +kernel
theorem dX2_firstMisfit_66 : decode cX2_firstMisfit 66 = .ok (.iinc 3 1, 3) := by decide +kernel
theorem dX2_firstMisfit_69 : decode cX2_firstMisfit 69 = .ok (.goto (-65), 3) := by decide +kernel
theorem dX2_firstMisfit_72 : decode cX2_firstMisfit 72 = .ok (.iconst (-1), 1) := by decide +kernel
theorem dX2_firstMisfit_73 : decode cX2_firstMisfit 73 = .ok (.ireturn, 1) := by decide +kernel
theorem dX3_init_0 : decode cX3_init 0 = .ok (.aload_n 0, 1) := by decide +kernel
theorem dX3_init_1 : decode cX3_init 1 = .ok (.invokespecial 3, 3) := by decide +kernel
theorem dX3_init_4 : decode cX3_init 4 = .ok (.aload_n 0, 1) := by decide +kernel
theorem dX3_init_5 : decode cX3_init 5 = .ok (.bipush 6, 2) := by decide +kernel
theorem dX3_init_7 : decode cX3_init 7 = .ok (.newarray .int, 2) := by decide +kernel
theorem dX3_init_9 : decode cX3_init 9 = .ok (.putfield 9, 3) := by decide +kernel
theorem dX3_init_12 : decode cX3_init 12 = .ok (.aload_n 0, 1) := by decide +kernel
theorem dX3_init_13 : decode cX3_init 13 = .ok (.bipush 6, 2) := by decide +kernel
theorem dX3_init_15 : decode cX3_init 15 = .ok (.newarray .int, 2) := by decide +kernel
theorem dX3_init_17 : decode cX3_init 17 = .ok (.putfield 15, 3) := by decide +kernel
theorem dX3_init_20 : decode cX3_init 20 = .ok (.aload_n 0, 1) := by decide +kernel
theorem dX3_init_21 : decode cX3_init 21 = .ok (.bipush 6, 2) := by decide +kernel
theorem dX3_init_23 : decode cX3_init 23 = .ok (.newarray .int, 2) := by decide +kernel
theorem dX3_init_25 : decode cX3_init 25 = .ok (.putfield 18, 3) := by decide +kernel
theorem dX3_init_28 : decode cX3_init 28 = .ok (.aload_n 0, 1) := by decide +kernel
theorem dX3_init_29 : decode cX3_init 29 = .ok (.bipush 6, 2) := by decide +kernel
theorem dX3_init_31 : decode cX3_init 31 = .ok (.newarray .int, 2) := by decide +kernel
theorem dX3_init_33 : decode cX3_init 33 = .ok (.putfield 21, 3) := by decide +kernel
theorem dX3_init_36 : decode cX3_init 36 = .ok (.return_, 1) := by decide +kernel
theorem dX3_copyFrom_0 : decode cX3_copyFrom 0 = .ok (.aload_n 0, 1) := by decide +kernel
theorem dX3_copyFrom_1 : decode cX3_copyFrom 1 = .ok (.aload_n 1, 1) := by decide +kernel
theorem dX3_copyFrom_2 : decode cX3_copyFrom 2 = .ok (.getfield 24, 3) := by decide +kernel
theorem dX3_copyFrom_5 : decode cX3_copyFrom 5 = .ok (.putfield 24, 3) := by decide +kernel
theorem dX3_copyFrom_8 : decode cX3_copyFrom 8 = .ok (.aload_n 1, 1) := by decide +kernel
theorem dX3_copyFrom_9 : decode cX3_copyFrom 9 = .ok (.getfield 9, 3) := by decide +kernel
theorem dX3_copyFrom_12 : decode cX3_copyFrom 12 = .ok (.iconst 0, 1) := by decide +kernel
theorem dX3_copyFrom_13 : decode cX3_copyFrom 13 = .ok (.aload_n 0, 1) := by decide +kernel
theorem dX3_copyFrom_14 : decode cX3_copyFrom 14 = .ok (.getfield 9, 3) := by decide +kernel
theorem dX3_copyFrom_17 : decode cX3_copyFrom 17 = .ok (.iconst 0, 1) := by decide +kernel
theorem dX3_copyFrom_18 : decode cX3_copyFrom 18 = .ok (.bipush 6, 2) := by decide +kernel
theorem dX3_copyFrom_20 : decode cX3_copyFrom 20 = .ok (.invokestatic 28, 3) := by decide +kernel
theorem dX3_copyFrom_23 : decode cX3_copyFrom 23 = .ok (.aload_n 1, 1) := by decide +kernel
theorem dX3_copyFrom_24 : decode cX3_copyFrom 24 = .ok (.getfield 15, 3) := by decide +kernel
theorem dX3_copyFrom_27 : decode cX3_copyFrom 27 = .ok (.iconst 0, 1) := by decide +kernel
theorem dX3_copyFrom_28 : decode cX3_copyFrom 28 = .ok (.aload_n 0, 1) := by decide +kernel
theorem dX3_copyFrom_29 : decode cX3_copyFrom 29 = .ok (.getfield 15, 3) := by decide +kernel
theorem dX3_copyFrom_32 : decode cX3_copyFrom 32 = .ok (.iconst 0, 1) := by decide +kernel
theorem dX3_copyFrom_33 : decode cX3_copyFrom 33 = .ok (.bipush 6, 2) := by decide +kernel
theorem dX3_copyFrom_35 : decode cX3_copyFrom 35 = .ok (.invokestatic 28, 3) := by decide +kernel
theorem dX3_copyFrom_38 : decode cX3_copyFrom 38 = .ok (.aload_n 1, 1) := by decide +kernel
theorem dX3_copyFrom_39 : decode cX3_copyFrom 39 = .ok (.getfield 18, 3) := by decide +kernel
theorem dX3_copyFrom_42 : decode cX3_copyFrom 42 = .ok (.iconst 0, 1) := by decide +kernel
theorem dX3_copyFrom_43 : decode cX3_copyFrom 43 = .ok (.aload_n 0, 1) := by decide +kernel
theorem dX3_copyFrom_44 : decode cX3_copyFrom 44 = .ok (.getfield 18, 3) := by decide +kernel
theorem dX3_copyFrom_47 : decode cX3_copyFrom 47 = .ok (.iconst 0, 1) := by decide +kernel
theorem dX3_copyFrom_48 : decode cX3_copyFrom 48 = .ok (.bipush 6, 2) := by decide +kernel
theorem dX3_copyFrom_50 : decode cX3_copyFrom 50 = .ok (.invokestatic 28, 3) := by decide +kernel
theorem dX3_copyFrom_53 : decode cX3_copyFrom 53 = .ok (.aload_n 1, 1) := by decide +kernel
theorem dX3_copyFrom_54 : decode cX3_copyFrom 54 = .ok (.getfield 21, 3) := by decide +kernel
theorem dX3_copyFrom_57 : decode cX3_copyFrom 57 = .ok (.iconst 0, 1) := by decide +kernel
theorem dX3_copyFrom_58 : decode cX3_copyFrom 58 = .ok (.aload_n 0, 1) := by decide +kernel
theorem dX3_copyFrom_59 : decode cX3_copyFrom 59 = .ok (.getfield 21, 3) := by decide +kernel
theorem dX3_copyFrom_62 : decode cX3_copyFrom 62 = .ok (.iconst 0, 1) := by decide +kernel
theorem dX3_copyFrom_63 : decode cX3_copyFrom 63 = .ok (.bipush 6, 2) := by decide +kernel
theorem dX3_copyFrom_65 : decode cX3_copyFrom 65 = .ok (.invokestatic 28, 3) := by decide +kernel
theorem dX3_copyFrom_68 : decode cX3_copyFrom 68 = .ok (.return_, 1) := by decide +kernel
theorem dX3_add_0 : decode cX3_add 0 = .ok (.aload_n 0, 1) := by decide +kernel
theorem dX3_add_1 : decode cX3_add 1 = .ok (.getfield 24, 3) := by decide +kernel
theorem dX3_add_4 : decode cX3_add 4 = .ok (.bipush 6, 2) := by decide +kernel
theorem dX3_add_6 : decode cX3_add 6 = .ok (.if_icmp .lt 5, 3) := by decide +kernel
theorem dX3_add_9 : decode cX3_add 9 = .ok (.iconst (-1), 1) := by decide +kernel
theorem dX3_add_10 : decode cX3_add 10 = .ok (.ireturn, 1) := by decide +kernel
theorem dX3_add_11 : decode cX3_add 11 = .ok (.aload_n 0, 1) := by decide +kernel
theorem dX3_add_12 : decode cX3_add 12 = .ok (.getfield 9, 3) := by decide +kernel
theorem dX3_add_15 : decode cX3_add 15 = .ok (.aload_n 0, 1) := by decide +kernel
theorem dX3_add_16 : decode cX3_add 16 = .ok (.getfield 24, 3) := by decide +kernel
theorem dX3_add_19 : decode cX3_add 19 = .ok (.iload_n 1, 1) := by decide +kernel
theorem dX3_add_20 : decode cX3_add 20 = .ok (.iastore, 1) := by decide +kernel
theorem dX3_add_21 : decode cX3_add 21 = .ok (.aload_n 0, 1) := by decide +kernel
theorem dX3_add_22 : decode cX3_add 22 = .ok (.getfield 15, 3) := by decide +kernel
theorem dX3_add_25 : decode cX3_add 25 = .ok (.aload_n 0, 1) := by decide +kernel
theorem dX3_add_26 : decode cX3_add 26 = .ok (.getfield 24, 3) := by decide +kernel
theorem dX3_add_29 : decode cX3_add 29 = .ok (.iload_n 2, 1) := by decide +kernel
theorem dX3_add_30 : decode cX3_add 30 = .ok (.iastore, 1) := by decide +kernel
theorem dX3_add_31 : decode cX3_add 31 = .ok (.aload_n 0, 1) := by decide +kernel
theorem dX3_add_32 : decode cX3_add 32 = .ok (.getfield 18, 3) := by decide +kernel
theorem dX3_add_35 : decode cX3_add 35 = .ok (.aload_n 0, 1) := by decide +kernel
theorem dX3_add_36 : decode cX3_add 36 = .ok (.getfield 24, 3) := by decide +kernel
theorem dX3_add_39 : decode cX3_add 39 = .ok (.iload_n 3, 1) := by decide +kernel
theorem dX3_add_40 : decode cX3_add 40 = .ok (.iastore, 1) := by decide +kernel
theorem dX3_add_41 : decode cX3_add 41 = .ok (.aload_n 0, 1) := by decide +kernel
theorem dX3_add_42 : decode cX3_add 42 = .ok (.getfield 21, 3) := by decide +kernel
theorem dX3_add_45 : decode cX3_add 45 = .ok (.aload_n 0, 1) := by decide +kernel
theorem dX3_add_46 : decode cX3_add 46 = .ok (.getfield 24, 3) := by decide +kernel
theorem dX3_add_49 : decode cX3_add 49 = .ok (.iload 4, 2) := by decide +kernel
theorem dX3_add_51 : decode cX3_add 51 = .ok (.iastore, 1) := by decide +kernel
theorem dX3_add_52 : decode cX3_add 52 = .ok (.aload_n 0, 1) := by decide +kernel
theorem dX3_add_53 : decode cX3_add 53 = .ok (.dup, 1) := by decide +kernel
theorem dX3_add_54 : decode cX3_add 54 = .ok (.getfield 24, 3) := by decide +kernel
theorem dX3_add_57 : decode cX3_add 57 = .ok (.dup_x1, 1) := by decide +kernel
theorem dX3_add_58 : decode cX3_add 58 = .ok (.iconst 1, 1) := by decide +kernel
theorem dX3_add_59 : decode cX3_add 59 = .ok (.iadd, 1) := by decide +kernel
theorem dX3_add_60 : decode cX3_add 60 = .ok (.putfield 24, 3) := by decide +kernel
theorem dX3_add_63 : decode cX3_add 63 = .ok (.ireturn, 1) := by decide +kernel
theorem dX3_placeOf_0 : decode cX3_placeOf 0 = .ok (.aload_n 0, 1) := by decide +kernel
theorem dX3_placeOf_1 : decode cX3_placeOf 1 = .ok (.getfield 15, 3) := by decide +kernel
theorem dX3_placeOf_4 : decode cX3_placeOf 4 = .ok (.iload_n 1, 1) := by decide +kernel
theorem dX3_placeOf_5 : decode cX3_placeOf 5 = .ok (.iaload, 1) := by decide +kernel
theorem dX3_placeOf_6 : decode cX3_placeOf 6 = .ok (.istore 4, 2) := by decide +kernel
theorem dX3_placeOf_8 : decode cX3_placeOf 8 = .ok (.aload_n 2, 1) := by decide +kernel
theorem dX3_placeOf_9 : decode cX3_placeOf 9 = .ok (.iload 4, 2) := by decide +kernel
theorem dX3_placeOf_11 : decode cX3_placeOf 11 = .ok (.iaload, 1) := by decide +kernel
theorem dX3_placeOf_12 : decode cX3_placeOf 12 = .ok (.istore 5, 2) := by decide +kernel
theorem dX3_placeOf_14 : decode cX3_placeOf 14 = .ok (.aload_n 0, 1) := by decide +kernel
theorem dX3_placeOf_15 : decode cX3_placeOf 15 = .ok (.getfield 18, 3) := by decide +kernel
theorem dX3_placeOf_18 : decode cX3_placeOf 18 = .ok (.iload_n 1, 1) := by decide +kernel
theorem dX3_placeOf_19 : decode cX3_placeOf 19 = .ok (.iaload, 1) := by decide +kernel
theorem dX3_placeOf_20 : decode cX3_placeOf 20 = .ok (.iload_n 3, 1) := by decide +kernel
theorem dX3_placeOf_21 : decode cX3_placeOf 21 = .ok (.ior, 1) := by decide +kernel
theorem dX3_placeOf_22 : decode cX3_placeOf 22 = .ok (.istore 6, 2) := by decide +kernel
theorem dX3_placeOf_24 : decode cX3_placeOf 24 = .ok (.iconst 0, 1) := by decide +kernel
theorem dX3_placeOf_25 : decode cX3_placeOf 25 = .ok (.istore 7, 2) := by decide +kernel
theorem dX3_placeOf_27 : decode cX3_placeOf 27 = .ok (.iload 7, 2) := by decide +kernel
theorem dX3_placeOf_29 : decode cX3_placeOf 29 = .ok (.iconst 4, 1) := by decide +kernel
theorem dX3_placeOf_30 : decode cX3_placeOf 30 = .ok (.if_icmp .ge 76, 3) := by decide +kernel
theorem dX3_placeOf_33 : decode cX3_placeOf 33 = .ok (.iload 7, 2) := by decide +kernel
theorem dX3_placeOf_35 : decode cX3_placeOf 35 = .ok (.aload_n 0, 1) := by decide +kernel
theorem dX3_placeOf_36 : decode cX3_placeOf 36 = .ok (.getfield 15, 3) := by decide +kernel
theorem dX3_placeOf_39 : decode cX3_placeOf 39 = .ok (.iload_n 1, 1) := by decide +kernel
theorem dX3_placeOf_40 : decode cX3_placeOf 40 = .ok (.iaload, 1) := by decide +kernel
theorem dX3_placeOf_41 : decode cX3_placeOf 41 = .ok (.if_icmp .eq 18, 3) := by decide +kernel
theorem dX3_placeOf_44 : decode cX3_placeOf 44 = .ok (.iload 6, 2) := by decide +kernel
theorem dX3_placeOf_46 : decode cX3_placeOf 46 = .ok (.iload 7, 2) := by decide +kernel
theorem dX3_placeOf_48 : decode cX3_placeOf 48 = .ok (.ishr, 1) := by decide +kernel
theorem dX3_placeOf_49 : decode cX3_placeOf 49 = .ok (.iconst 1, 1) := by decide +kernel
theorem dX3_placeOf_50 : decode cX3_placeOf 50 = .ok (.iand, 1) := by decide +kernel
theorem dX3_placeOf_51 : decode cX3_placeOf 51 = .ok (.iconst 1, 1) := by decide +kernel
theorem dX3_placeOf_52 : decode cX3_placeOf 52 = .ok (.if_icmp .ne 7, 3) := by decide +kernel
theorem dX3_placeOf_55 : decode cX3_placeOf 55 = .ok (.iconst 1, 1) := by decide +kernel
theorem dX3_placeOf_56 : decode cX3_placeOf 56 = .ok (.goto 4, 3) := by decide +kernel
theorem dX3_placeOf_59 : decode cX3_placeOf 59 = .ok (.iconst 0, 1) := by decide +kernel
theorem dX3_placeOf_60 : decode cX3_placeOf 60 = .ok (.istore 8, 2) := by decide +kernel
theorem dX3_placeOf_62 : decode cX3_placeOf 62 = .ok (.iload 8, 2) := by decide +kernel
theorem dX3_placeOf_64 : decode cX3_placeOf 64 = .ok (.ifCond .eq 36, 3) := by decide +kernel
theorem dX3_placeOf_67 : decode cX3_placeOf 67 = .ok (.aload_n 2, 1) := by decide +kernel
theorem dX3_placeOf_68 : decode cX3_placeOf 68 = .ok (.iload 7, 2) := by decide +kernel
theorem dX3_placeOf_70 : decode cX3_placeOf 70 = .ok (.iaload, 1) := by decide +kernel
theorem dX3_placeOf_71 : decode cX3_placeOf 71 = .ok (.aload_n 0, 1) := by decide +kernel
theorem dX3_placeOf_72 : decode cX3_placeOf 72 = .ok (.getfield 21, 3) := by decide +kernel
theorem dX3_placeOf_75 : decode cX3_placeOf 75 = .ok (.iload_n 1, 1) := by decide +kernel
theorem dX3_placeOf_76 : decode cX3_placeOf 76 = .ok (.iaload, 1) := by decide +kernel
theorem dX3_placeOf_77 : decode cX3_placeOf 77 = .ok (.iadd, 1) := by decide +kernel
theorem dX3_placeOf_78 : decode cX3_placeOf 78 = .ok (.iload 5, 2) := by decide +kernel
theorem dX3_placeOf_80 : decode cX3_placeOf 80 = .ok (.if_icmp .ge 20, 3) := by decide +kernel
theorem dX3_placeOf_83 : decode cX3_placeOf 83 = .ok (.aload_n 2, 1) := by decide +kernel
theorem dX3_placeOf_84 : decode cX3_placeOf 84 = .ok (.iload 7, 2) := by decide +kernel
theorem dX3_placeOf_86 : decode cX3_placeOf 86 = .ok (.iaload, 1) := by decide +kernel
theorem dX3_placeOf_87 : decode cX3_placeOf 87 = .ok (.aload_n 0, 1) := by decide +kernel
theorem dX3_placeOf_88 : decode cX3_placeOf 88 = .ok (.getfield 21, 3) := by decide +kernel
theorem dX3_placeOf_91 : decode cX3_placeOf 91 = .ok (.iload_n 1, 1) := by decide +kernel
theorem dX3_placeOf_92 : decode cX3_placeOf 92 = .ok (.iaload, 1) := by decide +kernel
theorem dX3_placeOf_93 : decode cX3_placeOf 93 = .ok (.iadd, 1) := by decide +kernel
theorem dX3_placeOf_94 : decode cX3_placeOf 94 = .ok (.istore 5, 2) := by decide +kernel
theorem dX3_placeOf_96 : decode cX3_placeOf 96 = .ok (.iload 7, 2) := by decide +kernel
theorem dX3_placeOf_98 : decode cX3_placeOf 98 = .ok (.istore 4, 2) := by decide +kernel
theorem dX3_placeOf_100 : decode cX3_placeOf 100 = .ok (.iinc 7 1, 3) := by decide +kernel
theorem dX3_placeOf_103 : decode cX3_placeOf 103 = .ok (.goto (-76), 3) := by decide +kernel
theorem dX3_placeOf_106 : decode cX3_placeOf 106 = .ok (.iload 4, 2) := by decide +kernel
theorem dX3_placeOf_108 : decode cX3_placeOf 108 = .ok (.ireturn, 1) := by decide +kernel
theorem dX3_soldAt_0 : decode cX3_soldAt 0 = .ok (.iconst 0, 1) := by decide +kernel
theorem dX3_soldAt_1 : decode cX3_soldAt 1 = .ok (.istore 4, 2) := by decide +kernel
theorem dX3_soldAt_3 : decode cX3_soldAt 3 = .ok (.iconst 0, 1) := by decide +kernel
theorem dX3_soldAt_4 : decode cX3_soldAt 4 = .ok (.istore 5, 2) := by decide +kernel
theorem dX3_soldAt_6 : decode cX3_soldAt 6 = .ok (.iload 5, 2) := by decide +kernel
theorem dX3_soldAt_8 : decode cX3_soldAt 8 = .ok (.aload_n 0, 1) := by decide +kernel
theorem dX3_soldAt_9 : decode cX3_soldAt 9 = .ok (.getfield 24, 3) := by decide +kernel
theorem dX3_soldAt_12 : decode cX3_soldAt 12 = .ok (.if_icmp .ge 33, 3) := by decide +kernel
theorem dX3_soldAt_15 : decode cX3_soldAt 15 = .ok (.aload_n 0, 1) := by decide +kernel
theorem dX3_soldAt_16 : decode cX3_soldAt 16 = .ok (.iload 5, 2) := by decide +kernel
theorem dX3_soldAt_18 : decode cX3_soldAt 18 = .ok (.aload_n 2, 1) := by decide +kernel
theorem dX3_soldAt_19 : decode cX3_soldAt 19 = .ok (.iload_n 3, 1) := by decide +kernel
theorem dX3_soldAt_20 : decode cX3_soldAt 20 = .ok (.invokevirtual 34, 3) := by decide +kernel
theorem dX3_soldAt_23 : decode cX3_soldAt 23 = .ok (.iload_n 1, 1) := by decide +kernel
theorem dX3_soldAt_24 : decode cX3_soldAt 24 = .ok (.if_icmp .ne 15, 3) := by decide +kernel
theorem dX3_soldAt_27 : decode cX3_soldAt 27 = .ok (.iload 4, 2) := by decide +kernel
theorem dX3_soldAt_29 : decode cX3_soldAt 29 = .ok (.aload_n 0, 1) := by decide +kernel
theorem dX3_soldAt_30 : decode cX3_soldAt 30 = .ok (.getfield 9, 3) := by decide +kernel
theorem dX3_soldAt_33 : decode cX3_soldAt 33 = .ok (.iload 5, 2) := by decide +kernel
theorem dX3_soldAt_35 : decode cX3_soldAt 35 = .ok (.iaload, 1) := by decide +kernel
theorem dX3_soldAt_36 : decode cX3_soldAt 36 = .ok (.iadd, 1) := by decide +kernel
theorem dX3_soldAt_37 : decode cX3_soldAt 37 = .ok (.istore 4, 2) := by decide +kernel
theorem dX3_soldAt_39 : decode cX3_soldAt 39 = .ok (.iinc 5 1, 3) := by decide +kernel
theorem dX3_soldAt_42 : decode cX3_soldAt 42 = .ok (.goto (-36), 3) := by decide +kernel
theorem dX3_soldAt_45 : decode cX3_soldAt 45 = .ok (.iload 4, 2) := by decide +kernel
theorem dX3_soldAt_47 : decode cX3_soldAt 47 = .ok (.ireturn, 1) := by decide +kernel
theorem dX4_init_0 : decode cX4_init 0 = .ok (.aload_n 0, 1) := by decide +kernel
theorem dX4_init_1 : decode cX4_init 1 = .ok (.invokespecial 3, 3) := by decide +kernel
theorem dX4_init_4 : decode cX4_init 4 = .ok (.aload_n 0, 1) := by decide +kernel
theorem dX4_init_5 : decode cX4_init 5 = .ok (.bipush 8, 2) := by decide +kernel
theorem dX4_init_7 : decode cX4_init 7 = .ok (.bipush 8, 2) := by decide +kernel
theorem dX4_init_9 : decode cX4_init 9 = .ok (.multianewarray 9 2, 4) := by decide +kernel
theorem dX4_init_13 : decode cX4_init 13 = .ok (.putfield 11, 3) := by decide +kernel
theorem dX4_init_16 : decode cX4_init 16 = .ok (.aload_n 0, 1) := by decide +kernel
theorem dX4_init_17 : decode cX4_init 17 = .ok (.bipush 8, 2) := by decide +kernel
theorem dX4_init_19 : decode cX4_init 19 = .ok (.bipush 8, 2) := by decide +kernel
theorem dX4_init_21 : decode cX4_init 21 = .ok (.multianewarray 9 2, 4) := by decide +kernel
theorem dX4_init_25 : decode cX4_init 25 = .ok (.putfield 16, 3) := by decide +kernel
theorem dX4_init_28 : decode cX4_init 28 = .ok (.aload_n 0, 1) := by decide +kernel
theorem dX4_init_29 : decode cX4_init 29 = .ok (.iconst 4, 1) := by decide +kernel
theorem dX4_init_30 : decode cX4_init 30 = .ok (.newarray .int, 2) := by decide +kernel
theorem dX4_init_32 : decode cX4_init 32 = .ok (.putfield 19, 3) := by decide +kernel
theorem dX4_init_35 : decode cX4_init 35 = .ok (.aload_n 0, 1) := by decide +kernel
theorem dX4_init_36 : decode cX4_init 36 = .ok (.bipush 40, 2) := by decide +kernel
theorem dX4_init_38 : decode cX4_init 38 = .ok (.bipush 8, 2) := by decide +kernel
theorem dX4_init_40 : decode cX4_init 40 = .ok (.multianewarray 9 2, 4) := by decide +kernel
theorem dX4_init_44 : decode cX4_init 44 = .ok (.putfield 23, 3) := by decide +kernel
theorem dX4_init_47 : decode cX4_init 47 = .ok (.aload_n 0, 1) := by decide +kernel
theorem dX4_init_48 : decode cX4_init 48 = .ok (.bipush 41, 2) := by decide +kernel
theorem dX4_init_50 : decode cX4_init 50 = .ok (.bipush 8, 2) := by decide +kernel
theorem dX4_init_52 : decode cX4_init 52 = .ok (.multianewarray 9 2, 4) := by decide +kernel
theorem dX4_init_56 : decode cX4_init 56 = .ok (.putfield 26, 3) := by decide +kernel
theorem dX4_init_59 : decode cX4_init 59 = .ok (.aload_n 0, 1) := by decide +kernel
theorem dX4_init_60 : decode cX4_init 60 = .ok (.bipush 41, 2) := by decide +kernel
theorem dX4_init_62 : decode cX4_init 62 = .ok (.bipush 8, 2) := by decide +kernel
theorem dX4_init_64 : decode cX4_init 64 = .ok (.multianewarray 9 2, 4) := by decide +kernel
theorem dX4_init_68 : decode cX4_init 68 = .ok (.putfield 29, 3) := by decide +kernel
theorem dX4_init_71 : decode cX4_init 71 = .ok (.return_, 1) := by decide +kernel
theorem dX4_begin_0 : decode cX4_begin 0 = .ok (.aload_n 0, 1) := by decide +kernel
theorem dX4_begin_1 : decode cX4_begin 1 = .ok (.aload_n 1, 1) := by decide +kernel
theorem dX4_begin_2 : decode cX4_begin 2 = .ok (.getfield 32, 3) := by decide +kernel
theorem dX4_begin_5 : decode cX4_begin 5 = .ok (.putfield 38, 3) := by decide +kernel
theorem dX4_begin_8 : decode cX4_begin 8 = .ok (.aload_n 1, 1) := by decide +kernel
theorem dX4_begin_9 : decode cX4_begin 9 = .ok (.aload_n 0, 1) := by decide +kernel
theorem dX4_begin_10 : decode cX4_begin 10 = .ok (.getfield 19, 3) := by decide +kernel
theorem dX4_begin_13 : decode cX4_begin 13 = .ok (.invokevirtual 41, 3) := by decide +kernel
theorem dX4_begin_16 : decode cX4_begin 16 = .ok (.aload_n 1, 1) := by decide +kernel
theorem dX4_begin_17 : decode cX4_begin 17 = .ok (.invokevirtual 45, 3) := by decide +kernel
theorem dX4_begin_20 : decode cX4_begin 20 = .ok (.istore 4, 2) := by decide +kernel
theorem dX4_begin_22 : decode cX4_begin 22 = .ok (.iconst 0, 1) := by decide +kernel
theorem dX4_begin_23 : decode cX4_begin 23 = .ok (.istore 5, 2) := by decide +kernel
theorem dX4_begin_25 : decode cX4_begin 25 = .ok (.iload 5, 2) := by decide +kernel
theorem dX4_begin_27 : decode cX4_begin 27 = .ok (.aload_n 0, 1) := by decide +kernel
theorem dX4_begin_28 : decode cX4_begin 28 = .ok (.getfield 38, 3) := by decide +kernel
theorem dX4_begin_31 : decode cX4_begin 31 = .ok (.if_icmp .ge 129, 3) := by decide +kernel
theorem dX4_begin_34 : decode cX4_begin 34 = .ok (.iconst 0, 1) := by decide +kernel
theorem dX4_begin_35 : decode cX4_begin 35 = .ok (.istore 6, 2) := by decide +kernel
theorem dX4_begin_37 : decode cX4_begin 37 = .ok (.iload 6, 2) := by decide +kernel
theorem dX4_begin_39 : decode cX4_begin 39 = .ok (.aload_n 0, 1) := by decide +kernel
theorem dX4_begin_40 : decode cX4_begin 40 = .ok (.getfield 38, 3) := by decide +kernel
theorem dX4_begin_43 : decode cX4_begin 43 = .ok (.if_icmp .ge 111, 3) := by decide +kernel
theorem dX4_begin_46 : decode cX4_begin 46 = .ok (.aload_n 0, 1) := by decide +kernel
theorem dX4_begin_47 : decode cX4_begin 47 = .ok (.getfield 19, 3) := by decide +kernel
theorem dX4_begin_50 : decode cX4_begin 50 = .ok (.iload_n 2, 1) := by decide +kernel
theorem dX4_begin_51 : decode cX4_begin 51 = .ok (.aload_n 1, 1) := by decide +kernel
theorem dX4_begin_52 : decode cX4_begin 52 = .ok (.getfield 49, 3) := by decide +kernel
theorem dX4_begin_55 : decode cX4_begin 55 = .ok (.iload 5, 2) := by decide +kernel
theorem dX4_begin_57 : decode cX4_begin 57 = .ok (.iaload, 1) := by decide +kernel
theorem dX4_begin_58 : decode cX4_begin 58 = .ok (.iastore, 1) := by decide +kernel
theorem dX4_begin_59 : decode cX4_begin 59 = .ok (.aload_n 0, 1) := by decide +kernel
theorem dX4_begin_60 : decode cX4_begin 60 = .ok (.getfield 19, 3) := by decide +kernel
theorem dX4_begin_63 : decode cX4_begin 63 = .ok (.iload_n 3, 1) := by decide +kernel
theorem dX4_begin_64 : decode cX4_begin 64 = .ok (.aload_n 1, 1) := by decide +kernel
theorem dX4_begin_65 : decode cX4_begin 65 = .ok (.getfield 49, 3) := by decide +kernel
theorem dX4_begin_68 : decode cX4_begin 68 = .ok (.iload 6, 2) := by decide +kernel
theorem dX4_begin_70 : decode cX4_begin 70 = .ok (.iaload, 1) := by decide +kernel
theorem dX4_begin_71 : decode cX4_begin 71 = .ok (.iastore, 1) := by decide +kernel
theorem dX4_begin_72 : decode cX4_begin 72 = .ok (.aload_n 0, 1) := by decide +kernel
theorem dX4_begin_73 : decode cX4_begin 73 = .ok (.getfield 11, 3) := by decide +kernel
theorem dX4_begin_76 : decode cX4_begin 76 = .ok (.iload 5, 2) := by decide +kernel
theorem dX4_begin_78 : decode cX4_begin 78 = .ok (.aaload, 1) := by decide +kernel
theorem dX4_begin_79 : decode cX4_begin 79 = .ok (.iload 6, 2) := by decide +kernel
theorem dX4_begin_81 : decode cX4_begin 81 = .ok (.aload_n 1, 1) := by decide +kernel
theorem dX4_begin_82 : decode cX4_begin 82 = .ok (.getfield 51, 3) := by decide +kernel
theorem dX4_begin_85 : decode cX4_begin 85 = .ok (.iload_n 2, 1) := by decide +kernel
theorem dX4_begin_86 : decode cX4_begin 86 = .ok (.aload_n 0, 1) := by decide +kernel
theorem dX4_begin_87 : decode cX4_begin 87 = .ok (.getfield 19, 3) := by decide +kernel
theorem dX4_begin_90 : decode cX4_begin 90 = .ok (.iload 4, 2) := by decide +kernel
theorem dX4_begin_92 : decode cX4_begin 92 = .ok (.invokevirtual 55, 3) := by decide +kernel
theorem dX4_begin_95 : decode cX4_begin 95 = .ok (.aload_n 0, 1) := by decide +kernel
theorem dX4_begin_96 : decode cX4_begin 96 = .ok (.getfield 19, 3) := by decide +kernel
theorem dX4_begin_99 : decode cX4_begin 99 = .ok (.iload_n 2, 1) := by decide +kernel
theorem dX4_begin_100 : decode cX4_begin 100 = .ok (.iaload, 1) := by decide +kernel
theorem dX4_begin_101 : decode cX4_begin 101 = .ok (.aload_n 1, 1) := by decide +kernel
theorem dX4_begin_102 : decode cX4_begin 102 = .ok (.getfield 61, 3) := by decide +kernel
theorem dX4_begin_105 : decode cX4_begin 105 = .ok (.iload_n 2, 1) := by decide +kernel
theorem dX4_begin_106 : decode cX4_begin 106 = .ok (.iaload, 1) := by decide +kernel
theorem dX4_begin_107 : decode cX4_begin 107 = .ok (.isub, 1) := by decide +kernel
theorem dX4_begin_108 : decode cX4_begin 108 = .ok (.imul, 1) := by decide +kernel
theorem dX4_begin_109 : decode cX4_begin 109 = .ok (.iastore, 1) := by decide +kernel
theorem dX4_begin_110 : decode cX4_begin 110 = .ok (.aload_n 0, 1) := by decide +kernel
theorem dX4_begin_111 : decode cX4_begin 111 = .ok (.getfield 16, 3) := by decide +kernel
theorem dX4_begin_114 : decode cX4_begin 114 = .ok (.iload 5, 2) := by decide +kernel
theorem dX4_begin_116 : decode cX4_begin 116 = .ok (.aaload, 1) := by decide +kernel
theorem dX4_begin_117 : decode cX4_begin 117 = .ok (.iload 6, 2) := by decide +kernel
theorem dX4_begin_119 : decode cX4_begin 119 = .ok (.aload_n 1, 1) := by decide +kernel
theorem dX4_begin_120 : decode cX4_begin 120 = .ok (.getfield 51, 3) := by decide +kernel
theorem dX4_begin_123 : decode cX4_begin 123 = .ok (.iload_n 3, 1) := by decide +kernel
theorem dX4_begin_124 : decode cX4_begin 124 = .ok (.aload_n 0, 1) := by decide +kernel
theorem dX4_begin_125 : decode cX4_begin 125 = .ok (.getfield 19, 3) := by decide +kernel
theorem dX4_begin_128 : decode cX4_begin 128 = .ok (.iload 4, 2) := by decide +kernel
theorem dX4_begin_130 : decode cX4_begin 130 = .ok (.invokevirtual 55, 3) := by decide +kernel
theorem dX4_begin_133 : decode cX4_begin 133 = .ok (.aload_n 0, 1) := by decide +kernel
theorem dX4_begin_134 : decode cX4_begin 134 = .ok (.getfield 19, 3) := by decide +kernel
theorem dX4_begin_137 : decode cX4_begin 137 = .ok (.iload_n 3, 1) := by decide +kernel
theorem dX4_begin_138 : decode cX4_begin 138 = .ok (.iaload, 1) := by decide +kernel
theorem dX4_begin_139 : decode cX4_begin 139 = .ok (.aload_n 1, 1) := by decide +kernel
theorem dX4_begin_140 : decode cX4_begin 140 = .ok (.getfield 61, 3) := by decide +kernel
theorem dX4_begin_143 : decode cX4_begin 143 = .ok (.iload_n 3, 1) := by decide +kernel
theorem dX4_begin_144 : decode cX4_begin 144 = .ok (.iaload, 1) := by decide +kernel
theorem dX4_begin_145 : decode cX4_begin 145 = .ok (.isub, 1) := by decide +kernel
theorem dX4_begin_146 : decode cX4_begin 146 = .ok (.imul, 1) := by decide +kernel
theorem dX4_begin_147 : decode cX4_begin 147 = .ok (.iastore, 1) := by decide +kernel
theorem dX4_begin_148 : decode cX4_begin 148 = .ok (.iinc 6 1, 3) := by decide +kernel
theorem dX4_begin_151 : decode cX4_begin 151 = .ok (.goto (-114), 3) := by decide +kernel
theorem dX4_begin_154 : decode cX4_begin 154 = .ok (.iinc 5 1, 3) := by decide +kernel
theorem dX4_begin_157 : decode cX4_begin 157 = .ok (.goto (-132), 3) := by decide +kernel
theorem dX4_begin_160 : decode cX4_begin 160 = .ok (.return_, 1) := by decide +kernel
theorem dX4_together_0 : decode cX4_together 0 = .ok (.aload_n 0, 1) := by decide +kernel
theorem dX4_together_1 : decode cX4_together 1 = .ok (.getfield 11, 3) := by decide +kernel
theorem dX4_together_4 : decode cX4_together 4 = .ok (.iload_n 1, 1) := by decide +kernel
theorem dX4_together_5 : decode cX4_together 5 = .ok (.aaload, 1) := by decide +kernel
theorem dX4_together_6 : decode cX4_together 6 = .ok (.iload_n 2, 1) := by decide +kernel
theorem dX4_together_7 : decode cX4_together 7 = .ok (.iaload, 1) := by decide +kernel
theorem dX4_together_8 : decode cX4_together 8 = .ok (.aload_n 0, 1) := by decide +kernel
theorem dX4_together_9 : decode cX4_together 9 = .ok (.getfield 16, 3) := by decide +kernel
theorem dX4_together_12 : decode cX4_together 12 = .ok (.iload_n 1, 1) := by decide +kernel
theorem dX4_together_13 : decode cX4_together 13 = .ok (.aaload, 1) := by decide +kernel
theorem dX4_together_14 : decode cX4_together 14 = .ok (.iload_n 2, 1) := by decide +kernel
theorem dX4_together_15 : decode cX4_together 15 = .ok (.iaload, 1) := by decide +kernel
theorem dX4_together_16 : decode cX4_together 16 = .ok (.iadd, 1) := by decide +kernel
theorem dX4_together_17 : decode cX4_together 17 = .ok (.ireturn, 1) := by decide +kernel
theorem dX4_replyOfA_0 : decode cX4_replyOfA 0 = .ok (.iconst 0, 1) := by decide +kernel
theorem dX4_replyOfA_1 : decode cX4_replyOfA 1 = .ok (.istore_n 2, 1) := by decide +kernel
theorem dX4_replyOfA_2 : decode cX4_replyOfA 2 = .ok (.iconst 1, 1) := by decide +kernel
theorem dX4_replyOfA_3 : decode cX4_replyOfA 3 = .ok (.istore_n 3, 1) := by decide +kernel
theorem dX4_replyOfA_4 : decode cX4_replyOfA 4 = .ok (.iload_n 3, 1) := by decide +kernel
theorem dX4_replyOfA_5 : decode cX4_replyOfA 5 = .ok (.aload_n 0, 1) := by decide +kernel
theorem dX4_replyOfA_6 : decode cX4_replyOfA 6 = .ok (.getfield 38, 3) := by decide +kernel
theorem dX4_replyOfA_9 : decode cX4_replyOfA 9 = .ok (.if_icmp .ge 30, 3) := by decide +kernel
theorem dX4_replyOfA_12 : decode cX4_replyOfA 12 = .ok (.aload_n 0, 1) := by decide +kernel
theorem dX4_replyOfA_13 : decode cX4_replyOfA 13 = .ok (.getfield 11, 3) := by decide +kernel
theorem dX4_replyOfA_16 : decode cX4_replyOfA 16 = .ok (.iload_n 3, 1) := by decide +kernel
theorem dX4_replyOfA_17 : decode cX4_replyOfA 17 = .ok (.aaload, 1) := by decide +kernel
theorem dX4_replyOfA_18 : decode cX4_replyOfA 18 = .ok (.iload_n 1, 1) := by decide +kernel
theorem dX4_replyOfA_19 : decode cX4_replyOfA 19 = .ok (.iaload, 1) := by decide +kernel
theorem dX4_replyOfA_20 : decode cX4_replyOfA 20 = .ok (.aload_n 0, 1) := by decide +kernel
theorem dX4_replyOfA_21 : decode cX4_replyOfA 21 = .ok (.getfield 11, 3) := by decide +kernel
theorem dX4_replyOfA_24 : decode cX4_replyOfA 24 = .ok (.iload_n 2, 1) := by decide +kernel
theorem dX4_replyOfA_25 : decode cX4_replyOfA 25 = .ok (.aaload, 1) := by decide +kernel
theorem dX4_replyOfA_26 : decode cX4_replyOfA 26 = .ok (.iload_n 1, 1) := by decide +kernel
theorem dX4_replyOfA_27 : decode cX4_replyOfA 27 = .ok (.iaload, 1) := by decide +kernel
theorem dX4_replyOfA_28 : decode cX4_replyOfA 28 = .ok (.if_icmp .le 5, 3) := by decide +kernel
theorem dX4_replyOfA_31 : decode cX4_replyOfA 31 = .ok (.iload_n 3, 1) := by decide +kernel
theorem dX4_replyOfA_32 : decode cX4_replyOfA 32 = .ok (.istore_n 2, 1) := by decide +kernel
theorem dX4_replyOfA_33 : decode cX4_replyOfA 33 = .ok (.iinc 3 1, 3) := by decide +kernel
theorem dX4_replyOfA_36 : decode cX4_replyOfA 36 = .ok (.goto (-32), 3) := by decide +kernel
theorem dX4_replyOfA_39 : decode cX4_replyOfA 39 = .ok (.iload_n 2, 1) := by decide +kernel
theorem dX4_replyOfA_40 : decode cX4_replyOfA 40 = .ok (.ireturn, 1) := by decide +kernel
theorem dX4_isEven_0 : decode cX4_isEven 0 = .ok (.iconst 0, 1) := by decide +kernel
theorem dX4_isEven_1 : decode cX4_isEven 1 = .ok (.istore_n 3, 1) := by decide +kernel
theorem dX4_isEven_2 : decode cX4_isEven 2 = .ok (.iload_n 3, 1) := by decide +kernel
theorem dX4_isEven_3 : decode cX4_isEven 3 = .ok (.aload_n 0, 1) := by decide +kernel
theorem dX4_isEven_4 : decode cX4_isEven 4 = .ok (.getfield 38, 3) := by decide +kernel
theorem dX4_isEven_7 : decode cX4_isEven 7 = .ok (.if_icmp .ge 49, 3) := by decide +kernel
theorem dX4_isEven_10 : decode cX4_isEven 10 = .ok (.aload_n 0, 1) := by decide +kernel
theorem dX4_isEven_11 : decode cX4_isEven 11 = .ok (.getfield 11, 3) := by decide +kernel
theorem dX4_isEven_14 : decode cX4_isEven 14 = .ok (.iload_n 3, 1) := by decide +kernel
theorem dX4_isEven_15 : decode cX4_isEven 15 = .ok (.aaload, 1) := by decide +kernel
theorem dX4_isEven_16 : decode cX4_isEven 16 = .ok (.iload_n 2, 1) := by decide +kernel
theorem dX4_isEven_17 : decode cX4_isEven 17 = .ok (.iaload, 1) := by decide +kernel
theorem dX4_isEven_18 : decode cX4_isEven 18 = .ok (.aload_n 0, 1) := by decide +kernel
theorem dX4_isEven_19 : decode cX4_isEven 19 = .ok (.getfield 11, 3) := by decide +kernel
theorem dX4_isEven_22 : decode cX4_isEven 22 = .ok (.iload_n 1, 1) := by decide +kernel
theorem dX4_isEven_23 : decode cX4_isEven 23 = .ok (.aaload, 1) := by decide +kernel
theorem dX4_isEven_24 : decode cX4_isEven 24 = .ok (.iload_n 2, 1) := by decide +kernel
theorem dX4_isEven_25 : decode cX4_isEven 25 = .ok (.iaload, 1) := by decide +kernel
theorem dX4_isEven_26 : decode cX4_isEven 26 = .ok (.if_icmp .gt 22, 3) := by decide +kernel
theorem dX4_isEven_29 : decode cX4_isEven 29 = .ok (.aload_n 0, 1) := by decide +kernel
theorem dX4_isEven_30 : decode cX4_isEven 30 = .ok (.getfield 16, 3) := by decide +kernel
theorem dX4_isEven_33 : decode cX4_isEven 33 = .ok (.iload_n 1, 1) := by decide +kernel
theorem dX4_isEven_34 : decode cX4_isEven 34 = .ok (.aaload, 1) := by decide +kernel
theorem dX4_isEven_35 : decode cX4_isEven 35 = .ok (.iload_n 3, 1) := by decide +kernel
theorem dX4_isEven_36 : decode cX4_isEven 36 = .ok (.iaload, 1) := by decide +kernel
theorem dX4_isEven_37 : decode cX4_isEven 37 = .ok (.aload_n 0, 1) := by decide +kernel
theorem dX4_isEven_38 : decode cX4_isEven 38 = .ok (.getfield 16, 3) := by decide +kernel
theorem dX4_isEven_41 : decode cX4_isEven 41 = .ok (.iload_n 1, 1) := by decide +kernel
theorem dX4_isEven_42 : decode cX4_isEven 42 = .ok (.aaload, 1) := by decide +kernel
theorem dX4_isEven_43 : decode cX4_isEven 43 = .ok (.iload_n 2, 1) := by decide +kernel
theorem dX4_isEven_44 : decode cX4_isEven 44 = .ok (.iaload, 1) := by decide +kernel
theorem dX4_isEven_45 : decode cX4_isEven 45 = .ok (.if_icmp .le 5, 3) := by decide +kernel
theorem dX4_isEven_48 : decode cX4_isEven 48 = .ok (.iconst 0, 1) := by decide +kernel
theorem dX4_isEven_49 : decode cX4_isEven 49 = .ok (.ireturn, 1) := by decide +kernel
theorem dX4_isEven_50 : decode cX4_isEven 50 = .ok (.iinc 3 1, 3) := by decide +kernel
theorem dX4_isEven_53 : decode cX4_isEven 53 = .ok (.goto (-51), 3) := by decide +kernel
theorem dX4_isEven_56 : decode cX4_isEven 56 = .ok (.iconst 1, 1) := by decide +kernel
theorem dX4_isEven_57 : decode cX4_isEven 57 = .ok (.ireturn, 1) := by decide +kernel
theorem dX4_evenPairs_0 : decode cX4_evenPairs 0 = .ok (.iconst 0, 1) := by decide +kernel
theorem dX4_evenPairs_1 : decode cX4_evenPairs 1 = .ok (.istore_n 1, 1) := by decide +kernel
theorem dX4_evenPairs_2 : decode cX4_evenPairs 2 = .ok (.iconst 0, 1) := by decide +kernel
theorem dX4_evenPairs_3 : decode cX4_evenPairs 3 = .ok (.istore_n 2, 1) := by decide +kernel
theorem dX4_evenPairs_4 : decode cX4_evenPairs 4 = .ok (.iload_n 2, 1) := by decide +kernel
theorem dX4_evenPairs_5 : decode cX4_evenPairs 5 = .ok (.aload_n 0, 1) := by decide +kernel
theorem dX4_evenPairs_6 : decode cX4_evenPairs 6 = .ok (.getfield 38, 3) := by decide +kernel
theorem dX4_evenPairs_9 : decode cX4_evenPairs 9 = .ok (.if_icmp .ge 42, 3) := by decide +kernel
theorem dX4_evenPairs_12 : decode cX4_evenPairs 12 = .ok (.iconst 0, 1) := by decide +kernel
theorem dX4_evenPairs_13 : decode cX4_evenPairs 13 = .ok (.istore_n 3, 1) := by decide +kernel
theorem dX4_evenPairs_14 : decode cX4_evenPairs 14 = .ok (.iload_n 3, 1) := by decide +kernel
theorem dX4_evenPairs_15 : decode cX4_evenPairs 15 = .ok (.aload_n 0, 1) := by decide +kernel
theorem dX4_evenPairs_16 : decode cX4_evenPairs 16 = .ok (.getfield 38, 3) := by decide +kernel
theorem dX4_evenPairs_19 : decode cX4_evenPairs 19 = .ok (.if_icmp .ge 26, 3) := by decide +kernel
theorem dX4_evenPairs_22 : decode cX4_evenPairs 22 = .ok (.iload_n 1, 1) := by decide +kernel
theorem dX4_evenPairs_23 : decode cX4_evenPairs 23 = .ok (.aload_n 0, 1) := by decide +kernel
theorem dX4_evenPairs_24 : decode cX4_evenPairs 24 = .ok (.iload_n 2, 1) := by decide +kernel
theorem dX4_evenPairs_25 : decode cX4_evenPairs 25 = .ok (.iload_n 3, 1) := by decide +kernel
theorem dX4_evenPairs_26 : decode cX4_evenPairs 26 = .ok (.invokevirtual 64, 3) := by decide +kernel
theorem dX4_evenPairs_29 : decode cX4_evenPairs 29 = .ok (.ifCond .eq 7, 3) := by decide +kernel
theorem dX4_evenPairs_32 : decode cX4_evenPairs 32 = .ok (.iconst 1, 1) := by decide +kernel
theorem dX4_evenPairs_33 : decode cX4_evenPairs 33 = .ok (.goto 4, 3) := by decide +kernel
theorem dX4_evenPairs_36 : decode cX4_evenPairs 36 = .ok (.iconst 0, 1) := by decide +kernel
theorem dX4_evenPairs_37 : decode cX4_evenPairs 37 = .ok (.iadd, 1) := by decide +kernel
theorem dX4_evenPairs_38 : decode cX4_evenPairs 38 = .ok (.istore_n 1, 1) := by decide +kernel
theorem dX4_evenPairs_39 : decode cX4_evenPairs 39 = .ok (.iinc 3 1, 3) := by decide +kernel
theorem dX4_evenPairs_42 : decode cX4_evenPairs 42 = .ok (.goto (-28), 3) := by decide +kernel
theorem dX4_evenPairs_45 : decode cX4_evenPairs 45 = .ok (.iinc 2 1, 3) := by decide +kernel
theorem dX4_evenPairs_48 : decode cX4_evenPairs 48 = .ok (.goto (-44), 3) := by decide +kernel
theorem dX4_evenPairs_51 : decode cX4_evenPairs 51 = .ok (.iload_n 1, 1) := by decide +kernel
theorem dX4_evenPairs_52 : decode cX4_evenPairs 52 = .ok (.ireturn, 1) := by decide +kernel
theorem dX4_evenPair_0 : decode cX4_evenPair 0 = .ok (.iconst 0, 1) := by decide +kernel
theorem dX4_evenPair_1 : decode cX4_evenPair 1 = .ok (.istore_n 2, 1) := by decide +kernel
theorem dX4_evenPair_2 : decode cX4_evenPair 2 = .ok (.iconst 0, 1) := by decide +kernel
theorem dX4_evenPair_3 : decode cX4_evenPair 3 = .ok (.istore_n 3, 1) := by decide +kernel
theorem dX4_evenPair_4 : decode cX4_evenPair 4 = .ok (.iload_n 3, 1) := by decide +kernel
theorem dX4_evenPair_5 : decode cX4_evenPair 5 = .ok (.aload_n 0, 1) := by decide +kernel
theorem dX4_evenPair_6 : decode cX4_evenPair 6 = .ok (.getfield 38, 3) := by decide +kernel
theorem dX4_evenPair_9 : decode cX4_evenPair 9 = .ok (.if_icmp .ge 52, 3) := by decide +kernel
theorem dX4_evenPair_12 : decode cX4_evenPair 12 = .ok (.iconst 0, 1) := by decide +kernel
theorem dX4_evenPair_13 : decode cX4_evenPair 13 = .ok (.istore 4, 2) := by decide +kernel
theorem dX4_evenPair_15 : decode cX4_evenPair 15 = .ok (.iload 4, 2) := by decide +kernel
theorem dX4_evenPair_17 : decode cX4_evenPair 17 = .ok (.aload_n 0, 1) := by decide +kernel
theorem dX4_evenPair_18 : decode cX4_evenPair 18 = .ok (.getfield 38, 3) := by decide +kernel
theorem dX4_evenPair_21 : decode cX4_evenPair 21 = .ok (.if_icmp .ge 34, 3) := by decide +kernel
theorem dX4_evenPair_24 : decode cX4_evenPair 24 = .ok (.aload_n 0, 1) := by decide +kernel
theorem dX4_evenPair_25 : decode cX4_evenPair 25 = .ok (.iload_n 3, 1) := by decide +kernel
theorem dX4_evenPair_26 : decode cX4_evenPair 26 = .ok (.iload 4, 2) := by decide +kernel
theorem dX4_evenPair_28 : decode cX4_evenPair 28 = .ok (.invokevirtual 64, 3) := by decide +kernel
theorem dX4_evenPair_31 : decode cX4_evenPair 31 = .ok (.ifCond .eq 18, 3) := by decide +kernel
theorem dX4_evenPair_34 : decode cX4_evenPair 34 = .ok (.iload_n 2, 1) := by decide +kernel
theorem dX4_evenPair_35 : decode cX4_evenPair 35 = .ok (.iload_n 1, 1) := by decide +kernel
theorem dX4_evenPair_36 : decode cX4_evenPair 36 = .ok (.if_icmp .ne 10, 3) := by decide +kernel
theorem dX4_evenPair_39 : decode cX4_evenPair 39 = .ok (.iload_n 3, 1) := by decide +kernel
theorem dX4_evenPair_40 : decode cX4_evenPair 40 = .ok (.iload 4, 2) := by decide +kernel
theorem dX4_evenPair_42 : decode cX4_evenPair 42 = .ok (.invokestatic 68, 3) := by decide +kernel
theorem dX4_evenPair_45 : decode cX4_evenPair 45 = .ok (.ireturn, 1) := by decide +kernel
theorem dX4_evenPair_46 : decode cX4_evenPair 46 = .ok (.iinc 2 1, 3) := by decide +kernel
theorem dX4_evenPair_49 : decode cX4_evenPair 49 = .ok (.iinc 4 1, 3) := by decide +kernel
theorem dX4_evenPair_52 : decode cX4_evenPair 52 = .ok (.goto (-37), 3) := by decide +kernel
theorem dX4_evenPair_55 : decode cX4_evenPair 55 = .ok (.iinc 3 1, 3) := by decide +kernel
theorem dX4_evenPair_58 : decode cX4_evenPair 58 = .ok (.goto (-54), 3) := by decide +kernel
theorem dX4_evenPair_61 : decode cX4_evenPair 61 = .ok (.iconst (-1), 1) := by decide +kernel
theorem dX4_evenPair_62 : decode cX4_evenPair 62 = .ok (.ireturn, 1) := by decide +kernel
theorem dX4_jointPair_0 : decode cX4_jointPair 0 = .ok (.iconst (-1), 1) := by decide +kernel
theorem dX4_jointPair_1 : decode cX4_jointPair 1 = .ok (.istore_n 1, 1) := by decide +kernel
theorem dX4_jointPair_2 : decode cX4_jointPair 2 = .ok (.iconst 0, 1) := by decide +kernel
theorem dX4_jointPair_3 : decode cX4_jointPair 3 = .ok (.istore_n 2, 1) := by decide +kernel
theorem dX4_jointPair_4 : decode cX4_jointPair 4 = .ok (.iconst 0, 1) := by decide +kernel
theorem dX4_jointPair_5 : decode cX4_jointPair 5 = .ok (.istore_n 3, 1) := by decide +kernel
theorem dX4_jointPair_6 : decode cX4_jointPair 6 = .ok (.iload_n 3, 1) := by decide +kernel
theorem dX4_jointPair_7 : decode cX4_jointPair 7 = .ok (.aload_n 0, 1) := by decide +kernel
theorem dX4_jointPair_8 : decode cX4_jointPair 8 = .ok (.getfield 38, 3) := by decide +kernel
theorem dX4_jointPair_11 : decode cX4_jointPair 11 = .ok (.if_icmp .ge 58, 3) := by decide +kernel
theorem dX4_jointPair_14 : decode cX4_jointPair 14 = .ok (.iconst 0, 1) := by decide +kernel
theorem dX4_jointPair_15 : decode cX4_jointPair 15 = .ok (.istore 4, 2) := by decide +kernel
theorem dX4_jointPair_17 : decode cX4_jointPair 17 = .ok (.iload 4, 2) := by decide +kernel
theorem dX4_jointPair_19 : decode cX4_jointPair 19 = .ok (.aload_n 0, 1) := by decide +kernel
theorem dX4_jointPair_20 : decode cX4_jointPair 20 = .ok (.getfield 38, 3) := by decide +kernel
theorem dX4_jointPair_23 : decode cX4_jointPair 23 = .ok (.if_icmp .ge 40, 3) := by decide +kernel
theorem dX4_jointPair_26 : decode cX4_jointPair 26 = .ok (.iload_n 1, 1) := by decide +kernel
theorem dX4_jointPair_27 : decode cX4_jointPair 27 = .ok (.iconst (-1), 1) := by decide +kernel
theorem dX4_jointPair_28 : decode cX4_jointPair 28 = .ok (.if_icmp .eq 14, 3) := by decide +kernel
theorem dX4_jointPair_31 : decode cX4_jointPair 31 = .ok (.aload_n 0, 1) := by decide +kernel
theorem dX4_jointPair_32 : decode cX4_jointPair 32 = .ok (.iload_n 3, 1) := by decide +kernel
theorem dX4_jointPair_33 : decode cX4_jointPair 33 = .ok (.iload 4, 2) := by decide +kernel
theorem dX4_jointPair_35 : decode cX4_jointPair 35 = .ok (.invokevirtual 72, 3) := by decide +kernel
theorem dX4_jointPair_38 : decode cX4_jointPair 38 = .ok (.iload_n 2, 1) := by decide +kernel
theorem dX4_jointPair_39 : decode cX4_jointPair 39 = .ok (.if_icmp .le 18, 3) := by decide +kernel
theorem dX4_jointPair_42 : decode cX4_jointPair 42 = .ok (.iload_n 3, 1) := by decide +kernel
theorem dX4_jointPair_43 : decode cX4_jointPair 43 = .ok (.iload 4, 2) := by decide +kernel
theorem dX4_jointPair_45 : decode cX4_jointPair 45 = .ok (.invokestatic 68, 3) := by decide +kernel
theorem dX4_jointPair_48 : decode cX4_jointPair 48 = .ok (.istore_n 1, 1) := by decide +kernel
theorem dX4_jointPair_49 : decode cX4_jointPair 49 = .ok (.aload_n 0, 1) := by decide +kernel
theorem dX4_jointPair_50 : decode cX4_jointPair 50 = .ok (.iload_n 3, 1) := by decide +kernel
theorem dX4_jointPair_51 : decode cX4_jointPair 51 = .ok (.iload 4, 2) := by decide +kernel
theorem dX4_jointPair_53 : decode cX4_jointPair 53 = .ok (.invokevirtual 72, 3) := by decide +kernel
theorem dX4_jointPair_56 : decode cX4_jointPair 56 = .ok (.istore_n 2, 1) := by decide +kernel
theorem dX4_jointPair_57 : decode cX4_jointPair 57 = .ok (.iinc 4 1, 3) := by decide +kernel
theorem dX4_jointPair_60 : decode cX4_jointPair 60 = .ok (.goto (-43), 3) := by decide +kernel
theorem dX4_jointPair_63 : decode cX4_jointPair 63 = .ok (.iinc 3 1, 3) := by decide +kernel
theorem dX4_jointPair_66 : decode cX4_jointPair 66 = .ok (.goto (-60), 3) := by decide +kernel
theorem dX4_jointPair_69 : decode cX4_jointPair 69 = .ok (.iload_n 1, 1) := by decide +kernel
theorem dX4_jointPair_70 : decode cX4_jointPair 70 = .ok (.ireturn, 1) := by decide +kernel
theorem dX4_foresee_0 : decode cX4_foresee 0 = .ok (.iconst 0, 1) := by decide +kernel
theorem dX4_foresee_1 : decode cX4_foresee 1 = .ok (.istore_n 2, 1) := by decide +kernel
theorem dX4_foresee_2 : decode cX4_foresee 2 = .ok (.iload_n 2, 1) := by decide +kernel
theorem dX4_foresee_3 : decode cX4_foresee 3 = .ok (.aload_n 0, 1) := by decide +kernel
theorem dX4_foresee_4 : decode cX4_foresee 4 = .ok (.getfield 38, 3) := by decide +kernel
theorem dX4_foresee_7 : decode cX4_foresee 7 = .ok (.if_icmp .ge 27, 3) := by decide +kernel
theorem dX4_foresee_10 : decode cX4_foresee 10 = .ok (.aload_n 0, 1) := by decide +kernel
theorem dX4_foresee_11 : decode cX4_foresee 11 = .ok (.getfield 26, 3) := by decide +kernel
theorem dX4_foresee_14 : decode cX4_foresee 14 = .ok (.iload_n 1, 1) := by decide +kernel
theorem dX4_foresee_15 : decode cX4_foresee 15 = .ok (.aaload, 1) := by decide +kernel
theorem dX4_foresee_16 : decode cX4_foresee 16 = .ok (.iload_n 2, 1) := by decide +kernel
theorem dX4_foresee_17 : decode cX4_foresee 17 = .ok (.iconst 0, 1) := by decide +kernel
theorem dX4_foresee_18 : decode cX4_foresee 18 = .ok (.iastore, 1) := by decide +kernel
theorem dX4_foresee_19 : decode cX4_foresee 19 = .ok (.aload_n 0, 1) := by decide +kernel
theorem dX4_foresee_20 : decode cX4_foresee 20 = .ok (.getfield 29, 3) := by decide +kernel
theorem dX4_foresee_23 : decode cX4_foresee 23 = .ok (.iload_n 1, 1) := by decide +kernel
theorem dX4_foresee_24 : decode cX4_foresee 24 = .ok (.aaload, 1) := by decide +kernel
theorem dX4_foresee_25 : decode cX4_foresee 25 = .ok (.iload_n 2, 1) := by decide +kernel
theorem dX4_foresee_26 : decode cX4_foresee 26 = .ok (.iconst 0, 1) := by decide +kernel
theorem dX4_foresee_27 : decode cX4_foresee 27 = .ok (.iastore, 1) := by decide +kernel
theorem dX4_foresee_28 : decode cX4_foresee 28 = .ok (.iinc 2 1, 3) := by decide +kernel
theorem dX4_foresee_31 : decode cX4_foresee 31 = .ok (.goto (-29), 3) := by decide +kernel
theorem dX4_foresee_34 : decode cX4_foresee 34 = .ok (.iload_n 1, 1) := by decide +kernel
theorem dX4_foresee_35 : decode cX4_foresee 35 = .ok (.iconst 1, 1) := by decide +kernel
theorem dX4_foresee_36 : decode cX4_foresee 36 = .ok (.isub, 1) := by decide +kernel
theorem dX4_foresee_37 : decode cX4_foresee 37 = .ok (.istore_n 2, 1) := by decide +kernel
theorem dX4_foresee_38 : decode cX4_foresee 38 = .ok (.iload_n 2, 1) := by decide +kernel
theorem dX4_foresee_39 : decode cX4_foresee 39 = .ok (.ifCond .lt 31, 3) := by decide +kernel
theorem dX4_foresee_42 : decode cX4_foresee 42 = .ok (.iconst 0, 1) := by decide +kernel
theorem dX4_foresee_43 : decode cX4_foresee 43 = .ok (.istore_n 3, 1) := by decide +kernel
theorem dX4_foresee_44 : decode cX4_foresee 44 = .ok (.iload_n 3, 1) := by decide +kernel
theorem dX4_foresee_45 : decode cX4_foresee 45 = .ok (.aload_n 0, 1) := by decide +kernel
theorem dX4_foresee_46 : decode cX4_foresee 46 = .ok (.getfield 38, 3) := by decide +kernel
theorem dX4_foresee_49 : decode cX4_foresee 49 = .ok (.if_icmp .ge 15, 3) := by decide +kernel
theorem dX4_foresee_52 : decode cX4_foresee 52 = .ok (.aload_n 0, 1) := by decide +kernel
theorem dX4_foresee_53 : decode cX4_foresee 53 = .ok (.iload_n 2, 1) := by decide +kernel
theorem dX4_foresee_54 : decode cX4_foresee 54 = .ok (.iload_n 3, 1) := by decide +kernel
theorem dX4_foresee_55 : decode cX4_foresee 55 = .ok (.invokevirtual 75, 3) := by decide +kernel
theorem dX4_foresee_58 : decode cX4_foresee 58 = .ok (.iinc 3 1, 3) := by decide +kernel
theorem dX4_foresee_61 : decode cX4_foresee 61 = .ok (.goto (-17), 3) := by decide +kernel
theorem dX4_foresee_64 : decode cX4_foresee 64 = .ok (.iinc 2 (-1), 3) := by decide +kernel
theorem dX4_foresee_67 : decode cX4_foresee 67 = .ok (.goto (-29), 3) := by decide +kernel
theorem dX4_foresee_70 : decode cX4_foresee 70 = .ok (.return_, 1) := by decide +kernel
theorem dX4_foreseeTurn_0 : decode cX4_foreseeTurn 0 = .ok (.iconst 0, 1) := by decide +kernel
theorem dX4_foreseeTurn_1 : decode cX4_foreseeTurn 1 = .ok (.istore_n 3, 1) := by decide +kernel
theorem dX4_foreseeTurn_2 : decode cX4_foreseeTurn 2 = .ok (.aload_n 0, 1) := by decide +kernel
theorem dX4_foreseeTurn_3 : decode cX4_foreseeTurn 3 = .ok (.iload_n 1, 1) := by decide +kernel
theorem dX4_foreseeTurn_4 : decode cX4_foreseeTurn 4 = .ok (.iconst 0, 1) := by decide +kernel
theorem dX4_foreseeTurn_5 : decode cX4_foreseeTurn 5 = .ok (.iload_n 2, 1) := by decide +kernel
theorem dX4_foreseeTurn_6 : decode cX4_foreseeTurn 6 = .ok (.invokevirtual 79, 3) := by decide +kernel
theorem dX4_foreseeTurn_9 : decode cX4_foreseeTurn 9 = .ok (.istore 4, 2) := by decide +kernel
theorem dX4_foreseeTurn_11 : decode cX4_foreseeTurn 11 = .ok (.iconst 1, 1) := by decide +kernel
theorem dX4_foreseeTurn_12 : decode cX4_foreseeTurn 12 = .ok (.istore 5, 2) := by decide +kernel
theorem dX4_foreseeTurn_14 : decode cX4_foreseeTurn 14 = .ok (.iload 5, 2) := by decide +kernel
theorem dX4_foreseeTurn_16 : decode cX4_foreseeTurn 16 = .ok (.aload_n 0, 1) := by decide +kernel
theorem dX4_foreseeTurn_17 : decode cX4_foreseeTurn 17 = .ok (.getfield 38, 3) := by decide +kernel
theorem dX4_foreseeTurn_20 : decode cX4_foreseeTurn 20 = .ok (.if_icmp .ge 33, 3) := by decide +kernel
theorem dX4_foreseeTurn_23 : decode cX4_foreseeTurn 23 = .ok (.aload_n 0, 1) := by decide +kernel
theorem dX4_foreseeTurn_24 : decode cX4_foreseeTurn 24 = .ok (.iload_n 1, 1) := by decide +kernel
theorem dX4_foreseeTurn_25 : decode cX4_foreseeTurn 25 = .ok (.iload 5, 2) := by decide +kernel
theorem dX4_foreseeTurn_27 : decode cX4_foreseeTurn 27 = .ok (.iload_n 2, 1) := by decide +kernel
theorem dX4_foreseeTurn_28 : decode cX4_foreseeTurn 28 = .ok (.invokevirtual 79, 3) := by decide +kernel
theorem dX4_foreseeTurn_31 : decode cX4_foreseeTurn 31 = .ok (.istore 6, 2) := by decide +kernel
theorem dX4_foreseeTurn_33 : decode cX4_foreseeTurn 33 = .ok (.iload 6, 2) := by decide +kernel
theorem dX4_foreseeTurn_35 : decode cX4_foreseeTurn 35 = .ok (.iload 4, 2) := by decide +kernel
theorem dX4_foreseeTurn_37 : decode cX4_foreseeTurn 37 = .ok (.if_icmp .le 10, 3) := by decide +kernel
theorem dX4_foreseeTurn_40 : decode cX4_foreseeTurn 40 = .ok (.iload 5, 2) := by decide +kernel
theorem dX4_foreseeTurn_42 : decode cX4_foreseeTurn 42 = .ok (.istore_n 3, 1) := by decide +kernel
theorem dX4_foreseeTurn_43 : decode cX4_foreseeTurn 43 = .ok (.iload 6, 2) := by decide +kernel
theorem dX4_foreseeTurn_45 : decode cX4_foreseeTurn 45 = .ok (.istore 4, 2) := by decide +kernel
theorem dX4_foreseeTurn_47 : decode cX4_foreseeTurn 47 = .ok (.iinc 5 1, 3) := by decide +kernel
theorem dX4_foreseeTurn_50 : decode cX4_foreseeTurn 50 = .ok (.goto (-36), 3) := by decide +kernel
theorem dX4_foreseeTurn_53 : decode cX4_foreseeTurn 53 = .ok (.aload_n 0, 1) := by decide +kernel
theorem dX4_foreseeTurn_54 : decode cX4_foreseeTurn 54 = .ok (.getfield 23, 3) := by decide +kernel
theorem dX4_foreseeTurn_57 : decode cX4_foreseeTurn 57 = .ok (.iload_n 1, 1) := by decide +kernel
theorem dX4_foreseeTurn_58 : decode cX4_foreseeTurn 58 = .ok (.aaload, 1) := by decide +kernel
theorem dX4_foreseeTurn_59 : decode cX4_foreseeTurn 59 = .ok (.iload_n 2, 1) := by decide +kernel
theorem dX4_foreseeTurn_60 : decode cX4_foreseeTurn 60 = .ok (.iload_n 3, 1) := by decide +kernel
theorem dX4_foreseeTurn_61 : decode cX4_foreseeTurn 61 = .ok (.iastore, 1) := by decide +kernel
theorem dX4_foreseeTurn_62 : decode cX4_foreseeTurn 62 = .ok (.aload_n 0, 1) := by decide +kernel
theorem dX4_foreseeTurn_63 : decode cX4_foreseeTurn 63 = .ok (.getfield 26, 3) := by decide +kernel
theorem dX4_foreseeTurn_66 : decode cX4_foreseeTurn 66 = .ok (.iload_n 1, 1) := by decide +kernel
theorem dX4_foreseeTurn_67 : decode cX4_foreseeTurn 67 = .ok (.aaload, 1) := by decide +kernel
theorem dX4_foreseeTurn_68 : decode cX4_foreseeTurn 68 = .ok (.iload_n 2, 1) := by decide +kernel
theorem dX4_foreseeTurn_69 : decode cX4_foreseeTurn 69 = .ok (.iload 4, 2) := by decide +kernel
theorem dX4_foreseeTurn_71 : decode cX4_foreseeTurn 71 = .ok (.iastore, 1) := by decide +kernel
theorem dX4_foreseeTurn_72 : decode cX4_foreseeTurn 72 = .ok (.iload_n 1, 1) := by decide +kernel
theorem dX4_foreseeTurn_73 : decode cX4_foreseeTurn 73 = .ok (.iconst 2, 1) := by decide +kernel
theorem dX4_foreseeTurn_74 : decode cX4_foreseeTurn 74 = .ok (.irem, 1) := by decide +kernel
theorem dX4_foreseeTurn_75 : decode cX4_foreseeTurn 75 = .ok (.ifCond .ne 14, 3) := by decide +kernel
theorem dX4_foreseeTurn_78 : decode cX4_foreseeTurn 78 = .ok (.aload_n 0, 1) := by decide +kernel
theorem dX4_foreseeTurn_79 : decode cX4_foreseeTurn 79 = .ok (.getfield 16, 3) := by decide +kernel
theorem dX4_foreseeTurn_82 : decode cX4_foreseeTurn 82 = .ok (.iload_n 3, 1) := by decide +kernel
theorem dX4_foreseeTurn_83 : decode cX4_foreseeTurn 83 = .ok (.aaload, 1) := by decide +kernel
theorem dX4_foreseeTurn_84 : decode cX4_foreseeTurn 84 = .ok (.iload_n 2, 1) := by decide +kernel
theorem dX4_foreseeTurn_85 : decode cX4_foreseeTurn 85 = .ok (.iaload, 1) := by decide +kernel
theorem dX4_foreseeTurn_86 : decode cX4_foreseeTurn 86 = .ok (.goto 11, 3) := by decide +kernel
theorem dX4_foreseeTurn_89 : decode cX4_foreseeTurn 89 = .ok (.aload_n 0, 1) := by decide +kernel
theorem dX4_foreseeTurn_90 : decode cX4_foreseeTurn 90 = .ok (.getfield 11, 3) := by decide +kernel
theorem dX4_foreseeTurn_93 : decode cX4_foreseeTurn 93 = .ok (.iload_n 2, 1) := by decide +kernel
theorem dX4_foreseeTurn_94 : decode cX4_foreseeTurn 94 = .ok (.aaload, 1) := by decide +kernel
theorem dX4_foreseeTurn_95 : decode cX4_foreseeTurn 95 = .ok (.iload_n 3, 1) := by decide +kernel
theorem dX4_foreseeTurn_96 : decode cX4_foreseeTurn 96 = .ok (.iaload, 1) := by decide +kernel
theorem dX4_foreseeTurn_97 : decode cX4_foreseeTurn 97 = .ok (.istore 5, 2) := by decide +kernel
theorem dX4_foreseeTurn_99 : decode cX4_foreseeTurn 99 = .ok (.aload_n 0, 1) := by decide +kernel
theorem dX4_foreseeTurn_100 : decode cX4_foreseeTurn 100 = .ok (.getfield 29, 3) := by decide +kernel
theorem dX4_foreseeTurn_103 : decode cX4_foreseeTurn 103 = .ok (.iload_n 1, 1) := by decide +kernel
theorem dX4_foreseeTurn_104 : decode cX4_foreseeTurn 104 = .ok (.aaload, 1) := by decide +kernel
theorem dX4_foreseeTurn_105 : decode cX4_foreseeTurn 105 = .ok (.iload_n 2, 1) := by decide +kernel
theorem dX4_foreseeTurn_106 : decode cX4_foreseeTurn 106 = .ok (.iload 5, 2) := by decide +kernel
theorem dX4_foreseeTurn_108 : decode cX4_foreseeTurn 108 = .ok (.aload_n 0, 1) := by decide +kernel
theorem dX4_foreseeTurn_109 : decode cX4_foreseeTurn 109 = .ok (.getfield 26, 3) := by decide +kernel
theorem dX4_foreseeTurn_112 : decode cX4_foreseeTurn 112 = .ok (.iload_n 1, 1) := by decide +kernel
theorem dX4_foreseeTurn_113 : decode cX4_foreseeTurn 113 = .ok (.iconst 1, 1) := by decide +kernel
theorem dX4_foreseeTurn_114 : decode cX4_foreseeTurn 114 = .ok (.iadd, 1) := by decide +kernel
theorem dX4_foreseeTurn_115 : decode cX4_foreseeTurn 115 = .ok (.aaload, 1) := by decide +kernel
theorem dX4_foreseeTurn_116 : decode cX4_foreseeTurn 116 = .ok (.iload_n 3, 1) := by decide +kernel
theorem dX4_foreseeTurn_117 : decode cX4_foreseeTurn 117 = .ok (.iaload, 1) := by decide +kernel
theorem dX4_foreseeTurn_118 : decode cX4_foreseeTurn 118 = .ok (.iadd, 1) := by decide +kernel
theorem dX4_foreseeTurn_119 : decode cX4_foreseeTurn 119 = .ok (.iastore, 1) := by decide +kernel
theorem dX4_foreseeTurn_120 : decode cX4_foreseeTurn 120 = .ok (.return_, 1) := by decide +kernel
theorem dX4_moverSum_0 : decode cX4_moverSum 0 = .ok (.iload_n 1, 1) := by decide +kernel
theorem dX4_moverSum_1 : decode cX4_moverSum 1 = .ok (.iconst 2, 1) := by decide +kernel
theorem dX4_moverSum_2 : decode cX4_moverSum 2 = .ok (.irem, 1) := by decide +kernel
theorem dX4_moverSum_3 : decode cX4_moverSum 3 = .ok (.ifCond .ne 14, 3) := by decide +kernel
theorem dX4_moverSum_6 : decode cX4_moverSum 6 = .ok (.aload_n 0, 1) := by decide +kernel
theorem dX4_moverSum_7 : decode cX4_moverSum 7 = .ok (.getfield 11, 3) := by decide +kernel
theorem dX4_moverSum_10 : decode cX4_moverSum 10 = .ok (.iload_n 2, 1) := by decide +kernel
theorem dX4_moverSum_11 : decode cX4_moverSum 11 = .ok (.aaload, 1) := by decide +kernel
theorem dX4_moverSum_12 : decode cX4_moverSum 12 = .ok (.iload_n 3, 1) := by decide +kernel
theorem dX4_moverSum_13 : decode cX4_moverSum 13 = .ok (.iaload, 1) := by decide +kernel
theorem dX4_moverSum_14 : decode cX4_moverSum 14 = .ok (.goto 11, 3) := by decide +kernel
theorem dX4_moverSum_17 : decode cX4_moverSum 17 = .ok (.aload_n 0, 1) := by decide +kernel
theorem dX4_moverSum_18 : decode cX4_moverSum 18 = .ok (.getfield 16, 3) := by decide +kernel
theorem dX4_moverSum_21 : decode cX4_moverSum 21 = .ok (.iload_n 3, 1) := by decide +kernel
theorem dX4_moverSum_22 : decode cX4_moverSum 22 = .ok (.aaload, 1) := by decide +kernel
theorem dX4_moverSum_23 : decode cX4_moverSum 23 = .ok (.iload_n 2, 1) := by decide +kernel
theorem dX4_moverSum_24 : decode cX4_moverSum 24 = .ok (.iaload, 1) := by decide +kernel
theorem dX4_moverSum_25 : decode cX4_moverSum 25 = .ok (.istore 4, 2) := by decide +kernel
theorem dX4_moverSum_27 : decode cX4_moverSum 27 = .ok (.iload 4, 2) := by decide +kernel
theorem dX4_moverSum_29 : decode cX4_moverSum 29 = .ok (.aload_n 0, 1) := by decide +kernel
theorem dX4_moverSum_30 : decode cX4_moverSum 30 = .ok (.getfield 29, 3) := by decide +kernel
theorem dX4_moverSum_33 : decode cX4_moverSum 33 = .ok (.iload_n 1, 1) := by decide +kernel
theorem dX4_moverSum_34 : decode cX4_moverSum 34 = .ok (.iconst 1, 1) := by decide +kernel
theorem dX4_moverSum_35 : decode cX4_moverSum 35 = .ok (.iadd, 1) := by decide +kernel
theorem dX4_moverSum_36 : decode cX4_moverSum 36 = .ok (.aaload, 1) := by decide +kernel
theorem dX4_moverSum_37 : decode cX4_moverSum 37 = .ok (.iload_n 2, 1) := by decide +kernel
theorem dX4_moverSum_38 : decode cX4_moverSum 38 = .ok (.iaload, 1) := by decide +kernel
theorem dX4_moverSum_39 : decode cX4_moverSum 39 = .ok (.iadd, 1) := by decide +kernel
theorem dX4_moverSum_40 : decode cX4_moverSum 40 = .ok (.ireturn, 1) := by decide +kernel
theorem dX4_setInTurn_0 : decode cX4_setInTurn 0 = .ok (.iload_n 1, 1) := by decide +kernel
theorem dX4_setInTurn_1 : decode cX4_setInTurn 1 = .ok (.istore_n 3, 1) := by decide +kernel
theorem dX4_setInTurn_2 : decode cX4_setInTurn 2 = .ok (.iconst 0, 1) := by decide +kernel
theorem dX4_setInTurn_3 : decode cX4_setInTurn 3 = .ok (.istore 4, 2) := by decide +kernel
theorem dX4_setInTurn_5 : decode cX4_setInTurn 5 = .ok (.iload 4, 2) := by decide +kernel
theorem dX4_setInTurn_7 : decode cX4_setInTurn 7 = .ok (.iload_n 2, 1) := by decide +kernel
theorem dX4_setInTurn_8 : decode cX4_setInTurn 8 = .ok (.if_icmp .gt 19, 3) := by decide +kernel
theorem dX4_setInTurn_11 : decode cX4_setInTurn 11 = .ok (.aload_n 0, 1) := by decide +kernel
theorem dX4_setInTurn_12 : decode cX4_setInTurn 12 = .ok (.getfield 23, 3) := by decide +kernel
theorem dX4_setInTurn_15 : decode cX4_setInTurn 15 = .ok (.iload 4, 2) := by decide +kernel
theorem dX4_setInTurn_17 : decode cX4_setInTurn 17 = .ok (.aaload, 1) := by decide +kernel
theorem dX4_setInTurn_18 : decode cX4_setInTurn 18 = .ok (.iload_n 3, 1) := by decide +kernel
theorem dX4_setInTurn_19 : decode cX4_setInTurn 19 = .ok (.iaload, 1) := by decide +kernel
theorem dX4_setInTurn_20 : decode cX4_setInTurn 20 = .ok (.istore_n 3, 1) := by decide +kernel
theorem dX4_setInTurn_21 : decode cX4_setInTurn 21 = .ok (.iinc 4 1, 3) := by decide +kernel
theorem dX4_setInTurn_24 : decode cX4_setInTurn 24 = .ok (.goto (-19), 3) := by decide +kernel
theorem dX4_setInTurn_27 : decode cX4_setInTurn 27 = .ok (.iload_n 3, 1) := by decide +kernel
theorem dX4_setInTurn_28 : decode cX4_setInTurn 28 = .ok (.ireturn, 1) := by decide +kernel
theorem dX5_init_0 : decode cX5_init 0 = .ok (.aload_n 0, 1) := by decide +kernel
theorem dX5_init_1 : decode cX5_init 1 = .ok (.invokespecial 3, 3) := by decide +kernel
theorem dX5_init_4 : decode cX5_init 4 = .ok (.iconst 0, 1) := by decide +kernel
theorem dX5_init_5 : decode cX5_init 5 = .ok (.istore_n 2, 1) := by decide +kernel
theorem dX5_init_6 : decode cX5_init 6 = .ok (.iconst (-1), 1) := by decide +kernel
theorem dX5_init_7 : decode cX5_init 7 = .ok (.istore_n 3, 1) := by decide +kernel
theorem dX5_init_8 : decode cX5_init 8 = .ok (.iconst 0, 1) := by decide +kernel
theorem dX5_init_9 : decode cX5_init 9 = .ok (.istore 4, 2) := by decide +kernel
theorem dX5_init_11 : decode cX5_init 11 = .ok (.iconst 0, 1) := by decide +kernel
theorem dX5_init_12 : decode cX5_init 12 = .ok (.istore 5, 2) := by decide +kernel
theorem dX5_init_14 : decode cX5_init 14 = .ok (.iconst 0, 1) := by decide +kernel
theorem dX5_init_15 : decode cX5_init 15 = .ok (.istore 6, 2) := by decide +kernel
theorem dX5_init_17 : decode cX5_init 17 = .ok (.iconst 0, 1) := by decide +kernel
theorem dX5_init_18 : decode cX5_init 18 = .ok (.istore 7, 2) := by decide +kernel
theorem dX5_init_20 : decode cX5_init 20 = .ok (.iload 7, 2) := by decide +kernel
theorem dX5_init_22 : decode cX5_init 22 = .ok (.aload_n 1, 1) := by decide +kernel
theorem dX5_init_23 : decode cX5_init 23 = .ok (.getfield 9, 3) := by decide +kernel
theorem dX5_init_26 : decode cX5_init 26 = .ok (.if_icmp .ge 136, 3) := by decide +kernel
theorem dX5_init_29 : decode cX5_init 29 = .ok (.iload 7, 2) := by decide +kernel
theorem dX5_init_31 : decode cX5_init 31 = .ok (.iconst 1, 1) := by decide +kernel
theorem dX5_init_32 : decode cX5_init 32 = .ok (.iadd, 1) := by decide +kernel
theorem dX5_init_33 : decode cX5_init 33 = .ok (.aload_n 1, 1) := by decide +kernel
theorem dX5_init_34 : decode cX5_init 34 = .ok (.getfield 9, 3) := by decide +kernel
theorem dX5_init_37 : decode cX5_init 37 = .ok (.if_icmp .ge 19, 3) := by decide +kernel
theorem dX5_init_40 : decode cX5_init 40 = .ok (.aload_n 1, 1) := by decide +kernel
theorem dX5_init_41 : decode cX5_init 41 = .ok (.getfield 15, 3) := by decide +kernel
theorem dX5_init_44 : decode cX5_init 44 = .ok (.iload 7, 2) := by decide +kernel
theorem dX5_init_46 : decode cX5_init 46 = .ok (.iconst 1, 1) := by decide +kernel
theorem dX5_init_47 : decode cX5_init 47 = .ok (.iadd, 1) := by decide +kernel
theorem dX5_init_48 : decode cX5_init 48 = .ok (.iaload, 1) := by decide +kernel
theorem dX5_init_49 : decode cX5_init 49 = .ok (.sipush 200, 3) := by decide +kernel
theorem dX5_init_52 : decode cX5_init 52 = .ok (.isub, 1) := by decide +kernel
theorem dX5_init_53 : decode cX5_init 53 = .ok (.goto 4, 3) := by decide +kernel
theorem dX5_init_56 : decode cX5_init 56 = .ok (.iconst 0, 1) := by decide +kernel
theorem dX5_init_57 : decode cX5_init 57 = .ok (.istore 8, 2) := by decide +kernel
theorem dX5_init_59 : decode cX5_init 59 = .ok (.aload_n 1, 1) := by decide +kernel
theorem dX5_init_60 : decode cX5_init 60 = .ok (.getfield 15, 3) := by decide +kernel
theorem dX5_init_63 : decode cX5_init 63 = .ok (.iload 7, 2) := by decide +kernel
theorem dX5_init_65 : decode cX5_init 65 = .ok (.iaload, 1) := by decide +kernel
theorem dX5_init_66 : decode cX5_init 66 = .ok (.tableswitch 90 113 122 #[78, 90, 90, 90, 90, 90, 54, 66, 60, 84], 54) := by decide +kernel
theorem dX5_init_120 : decode cX5_init 120 = .ok (.iload 8, 2) := by decide +kernel
theorem dX5_init_122 : decode cX5_init 122 = .ok (.istore_n 2, 1) := by decide +kernel
theorem dX5_init_123 : decode cX5_init 123 = .ok (.goto 33, 3) := by decide +kernel
theorem dX5_init_126 : decode cX5_init 126 = .ok (.iload 8, 2) := by decide +kernel
theorem dX5_init_128 : decode cX5_init 128 = .ok (.istore_n 3, 1) := by decide +kernel
theorem dX5_init_129 : decode cX5_init 129 = .ok (.goto 27, 3) := by decide +kernel
theorem dX5_init_132 : decode cX5_init 132 = .ok (.iload 4, 2) := by decide +kernel
theorem dX5_init_134 : decode cX5_init 134 = .ok (.iconst 1, 1) := by decide +kernel
theorem dX5_init_135 : decode cX5_init 135 = .ok (.iload 8, 2) := by decide +kernel
theorem dX5_init_137 : decode cX5_init 137 = .ok (.ishl, 1) := by decide +kernel
theorem dX5_init_138 : decode cX5_init 138 = .ok (.ior, 1) := by decide +kernel
theorem dX5_init_139 : decode cX5_init 139 = .ok (.istore 4, 2) := by decide +kernel
theorem dX5_init_141 : decode cX5_init 141 = .ok (.goto 15, 3) := by decide +kernel
theorem dX5_init_144 : decode cX5_init 144 = .ok (.iconst 1, 1) := by decide +kernel
theorem dX5_init_145 : decode cX5_init 145 = .ok (.istore 5, 2) := by decide +kernel
theorem dX5_init_147 : decode cX5_init 147 = .ok (.goto 9, 3) := by decide +kernel
theorem dX5_init_150 : decode cX5_init 150 = .ok (.iconst 1, 1) := by decide +kernel
theorem dX5_init_151 : decode cX5_init 151 = .ok (.istore 6, 2) := by decide +kernel
theorem dX5_init_153 : decode cX5_init 153 = .ok (.goto 3, 3) := by decide +kernel
theorem dX5_init_156 : decode cX5_init 156 = .ok (.iinc 7 1, 3) := by decide +kernel
theorem dX5_init_159 : decode cX5_init 159 = .ok (.goto (-139), 3) := by decide +kernel
theorem dX5_init_162 : decode cX5_init 162 = .ok (.aload_n 0, 1) := by decide +kernel
theorem dX5_init_163 : decode cX5_init 163 = .ok (.iload_n 2, 1) := by decide +kernel
theorem dX5_init_164 : decode cX5_init 164 = .ok (.putfield 19, 3) := by decide +kernel
theorem dX5_init_167 : decode cX5_init 167 = .ok (.aload_n 0, 1) := by decide +kernel
theorem dX5_init_168 : decode cX5_init 168 = .ok (.iload_n 3, 1) := by decide +kernel
theorem dX5_init_169 : decode cX5_init 169 = .ok (.putfield 24, 3) := by decide +kernel
theorem dX5_init_172 : decode cX5_init 172 = .ok (.aload_n 0, 1) := by decide +kernel
theorem dX5_init_173 : decode cX5_init 173 = .ok (.iload 4, 2) := by decide +kernel
theorem dX5_init_175 : decode cX5_init 175 = .ok (.putfield 27, 3) := by decide +kernel
theorem dX5_init_178 : decode cX5_init 178 = .ok (.aload_n 0, 1) := by decide +kernel
theorem dX5_init_179 : decode cX5_init 179 = .ok (.iload 5, 2) := by decide +kernel
theorem dX5_init_181 : decode cX5_init 181 = .ok (.putfield 30, 3) := by decide +kernel
theorem dX5_init_184 : decode cX5_init 184 = .ok (.aload_n 0, 1) := by decide +kernel
theorem dX5_init_185 : decode cX5_init 185 = .ok (.iload 6, 2) := by decide +kernel
theorem dX5_init_187 : decode cX5_init 187 = .ok (.putfield 34, 3) := by decide +kernel
theorem dX5_init_190 : decode cX5_init 190 = .ok (.return_, 1) := by decide +kernel
theorem dX5_allowed_0 : decode cX5_allowed 0 = .ok (.aload_n 2, 1) := by decide +kernel
theorem dX5_allowed_1 : decode cX5_allowed 1 = .ok (.iconst 0, 1) := by decide +kernel
theorem dX5_allowed_2 : decode cX5_allowed 2 = .ok (.iaload, 1) := by decide +kernel
theorem dX5_allowed_3 : decode cX5_allowed 3 = .ok (.istore_n 3, 1) := by decide +kernel
theorem dX5_allowed_4 : decode cX5_allowed 4 = .ok (.aload_n 0, 1) := by decide +kernel
theorem dX5_allowed_5 : decode cX5_allowed 5 = .ok (.getfield 24, 3) := by decide +kernel
theorem dX5_allowed_8 : decode cX5_allowed 8 = .ok (.iconst (-1), 1) := by decide +kernel
theorem dX5_allowed_9 : decode cX5_allowed 9 = .ok (.if_icmp .ne 7, 3) := by decide +kernel
theorem dX5_allowed_12 : decode cX5_allowed 12 = .ok (.iload_n 1, 1) := by decide +kernel
theorem dX5_allowed_13 : decode cX5_allowed 13 = .ok (.goto 13, 3) := by decide +kernel
theorem dX5_allowed_16 : decode cX5_allowed 16 = .ok (.iload_n 1, 1) := by decide +kernel
theorem dX5_allowed_17 : decode cX5_allowed 17 = .ok (.iload_n 3, 1) := by decide +kernel
theorem dX5_allowed_18 : decode cX5_allowed 18 = .ok (.aload_n 0, 1) := by decide +kernel
theorem dX5_allowed_19 : decode cX5_allowed 19 = .ok (.getfield 24, 3) := by decide +kernel
theorem dX5_allowed_22 : decode cX5_allowed 22 = .ok (.iadd, 1) := by decide +kernel
theorem dX5_allowed_23 : decode cX5_allowed 23 = .ok (.invokestatic 39, 3) := by decide +kernel
theorem dX5_allowed_26 : decode cX5_allowed 26 = .ok (.istore 4, 2) := by decide +kernel
theorem dX5_allowed_28 : decode cX5_allowed 28 = .ok (.aload_n 0, 1) := by decide +kernel
theorem dX5_allowed_29 : decode cX5_allowed 29 = .ok (.getfield 30, 3) := by decide +kernel
theorem dX5_allowed_32 : decode cX5_allowed 32 = .ok (.ifCond .eq 19, 3) := by decide +kernel
theorem dX5_allowed_35 : decode cX5_allowed 35 = .ok (.iload 4, 2) := by decide +kernel
theorem dX5_allowed_37 : decode cX5_allowed 37 = .ok (.iload_n 3, 1) := by decide +kernel
theorem dX5_allowed_38 : decode cX5_allowed 38 = .ok (.if_icmp .eq 13, 3) := by decide +kernel
theorem dX5_allowed_41 : decode cX5_allowed 41 = .ok (.iload 4, 2) := by decide +kernel
theorem dX5_allowed_43 : decode cX5_allowed 43 = .ok (.aload_n 2, 1) := by decide +kernel
theorem dX5_allowed_44 : decode cX5_allowed 44 = .ok (.iconst 3, 1) := by decide +kernel
theorem dX5_allowed_45 : decode cX5_allowed 45 = .ok (.iaload, 1) := by decide +kernel
theorem dX5_allowed_46 : decode cX5_allowed 46 = .ok (.invokestatic 45, 3) := by decide +kernel
theorem dX5_allowed_49 : decode cX5_allowed 49 = .ok (.istore 4, 2) := by decide +kernel
theorem dX5_allowed_51 : decode cX5_allowed 51 = .ok (.aload_n 0, 1) := by decide +kernel
theorem dX5_allowed_52 : decode cX5_allowed 52 = .ok (.getfield 27, 3) := by decide +kernel
theorem dX5_allowed_55 : decode cX5_allowed 55 = .ok (.ifCond .eq 17, 3) := by decide +kernel
theorem dX5_allowed_58 : decode cX5_allowed 58 = .ok (.aload_n 0, 1) := by decide +kernel
theorem dX5_allowed_59 : decode cX5_allowed 59 = .ok (.getfield 27, 3) := by decide +kernel
theorem dX5_allowed_62 : decode cX5_allowed 62 = .ok (.aload_n 2, 1) := by decide +kernel
theorem dX5_allowed_63 : decode cX5_allowed 63 = .ok (.iconst 4, 1) := by decide +kernel
theorem dX5_allowed_64 : decode cX5_allowed 64 = .ok (.iaload, 1) := by decide +kernel
theorem dX5_allowed_65 : decode cX5_allowed 65 = .ok (.ishr, 1) := by decide +kernel
theorem dX5_allowed_66 : decode cX5_allowed 66 = .ok (.iconst 1, 1) := by decide +kernel
theorem dX5_allowed_67 : decode cX5_allowed 67 = .ok (.iand, 1) := by decide +kernel
theorem dX5_allowed_68 : decode cX5_allowed 68 = .ok (.iconst 1, 1) := by decide +kernel
theorem dX5_allowed_69 : decode cX5_allowed 69 = .ok (.if_icmp .ne 7, 3) := by decide +kernel
theorem dX5_allowed_72 : decode cX5_allowed 72 = .ok (.iconst 1, 1) := by decide +kernel
theorem dX5_allowed_73 : decode cX5_allowed 73 = .ok (.goto 4, 3) := by decide +kernel
theorem dX5_allowed_76 : decode cX5_allowed 76 = .ok (.iconst 0, 1) := by decide +kernel
theorem dX5_allowed_77 : decode cX5_allowed 77 = .ok (.istore 5, 2) := by decide +kernel
theorem dX5_allowed_79 : decode cX5_allowed 79 = .ok (.iload 5, 2) := by decide +kernel
theorem dX5_allowed_81 : decode cX5_allowed 81 = .ok (.ifCond .eq 22, 3) := by decide +kernel
theorem dX5_allowed_84 : decode cX5_allowed 84 = .ok (.aload_n 2, 1) := by decide +kernel
theorem dX5_allowed_85 : decode cX5_allowed 85 = .ok (.bipush 6, 2) := by decide +kernel
theorem dX5_allowed_87 : decode cX5_allowed 87 = .ok (.iaload, 1) := by decide +kernel
theorem dX5_allowed_88 : decode cX5_allowed 88 = .ok (.aload_n 0, 1) := by decide +kernel
theorem dX5_allowed_89 : decode cX5_allowed 89 = .ok (.getfield 19, 3) := by decide +kernel
theorem dX5_allowed_92 : decode cX5_allowed 92 = .ok (.if_icmp .lt 11, 3) := by decide +kernel
theorem dX5_allowed_95 : decode cX5_allowed 95 = .ok (.iload 4, 2) := by decide +kernel
theorem dX5_allowed_97 : decode cX5_allowed 97 = .ok (.invokestatic 48, 3) := by decide +kernel
theorem dX5_allowed_100 : decode cX5_allowed 100 = .ok (.goto 4, 3) := by decide +kernel
theorem dX5_allowed_103 : decode cX5_allowed 103 = .ok (.iload_n 3, 1) := by decide +kernel
theorem dX5_allowed_104 : decode cX5_allowed 104 = .ok (.ireturn, 1) := by decide +kernel
theorem dX5_bounded_0 : decode cX5_bounded 0 = .ok (.iconst 0, 1) := by decide +kernel
theorem dX5_bounded_1 : decode cX5_bounded 1 = .ok (.iload_n 0, 1) := by decide +kernel
theorem dX5_bounded_2 : decode cX5_bounded 2 = .ok (.bipush 99, 2) := by decide +kernel
theorem dX5_bounded_4 : decode cX5_bounded 4 = .ok (.invokestatic 39, 3) := by decide +kernel
theorem dX5_bounded_7 : decode cX5_bounded 7 = .ok (.invokestatic 45, 3) := by decide +kernel
theorem dX5_bounded_10 : decode cX5_bounded 10 = .ok (.ireturn, 1) := by decide +kernel
theorem dX6_init_0 : decode cX6_init 0 = .ok (.aload_n 0, 1) := by decide +kernel
theorem dX6_init_1 : decode cX6_init 1 = .ok (.invokespecial 3, 3) := by decide +kernel
theorem dX6_init_4 : decode cX6_init 4 = .ok (.aload_n 0, 1) := by decide +kernel
theorem dX6_init_5 : decode cX6_init 5 = .ok (.bipush 8, 2) := by decide +kernel
theorem dX6_init_7 : decode cX6_init 7 = .ok (.bipush 8, 2) := by decide +kernel
theorem dX6_init_9 : decode cX6_init 9 = .ok (.multianewarray 9 2, 4) := by decide +kernel
theorem dX6_init_13 : decode cX6_init 13 = .ok (.putfield 11, 3) := by decide +kernel
theorem dX6_init_16 : decode cX6_init 16 = .ok (.aload_n 0, 1) := by decide +kernel
theorem dX6_init_17 : decode cX6_init 17 = .ok (.bipush 8, 2) := by decide +kernel
theorem dX6_init_19 : decode cX6_init 19 = .ok (.bipush 8, 2) := by decide +kernel
theorem dX6_init_21 : decode cX6_init 21 = .ok (.multianewarray 9 2, 4) := by decide +kernel
theorem dX6_init_25 : decode cX6_init 25 = .ok (.putfield 16, 3) := by decide +kernel
theorem dX6_init_28 : decode cX6_init 28 = .ok (.return_, 1) := by decide +kernel
theorem dX6_letGo_0 : decode cX6_letGo 0 = .ok (.aload_n 0, 1) := by decide +kernel
theorem dX6_letGo_1 : decode cX6_letGo 1 = .ok (.aload_n 1, 1) := by decide +kernel
theorem dX6_letGo_2 : decode cX6_letGo 2 = .ok (.getfield 19, 3) := by decide +kernel
theorem dX6_letGo_5 : decode cX6_letGo 5 = .ok (.invokevirtual 25, 3) := by decide +kernel
theorem dX6_letGo_8 : decode cX6_letGo 8 = .ok (.aload_n 0, 1) := by decide +kernel
theorem dX6_letGo_9 : decode cX6_letGo 9 = .ok (.iload_n 3, 1) := by decide +kernel
theorem dX6_letGo_10 : decode cX6_letGo 10 = .ok (.putfield 29, 3) := by decide +kernel
theorem dX6_letGo_13 : decode cX6_letGo 13 = .ok (.iconst 0, 1) := by decide +kernel
theorem dX6_letGo_14 : decode cX6_letGo 14 = .ok (.istore 4, 2) := by decide +kernel
theorem dX6_letGo_16 : decode cX6_letGo 16 = .ok (.iload 4, 2) := by decide +kernel
theorem dX6_letGo_18 : decode cX6_letGo 18 = .ok (.iload_n 2, 1) := by decide +kernel
theorem dX6_letGo_19 : decode cX6_letGo 19 = .ok (.if_icmp .ge 129, 3) := by decide +kernel
theorem dX6_letGo_22 : decode cX6_letGo 22 = .ok (.bipush 50, 2) := by decide +kernel
theorem dX6_letGo_24 : decode cX6_letGo 24 = .ok (.bipush 50, 2) := by decide +kernel
theorem dX6_letGo_26 : decode cX6_letGo 26 = .ok (.iload 4, 2) := by decide +kernel
theorem dX6_letGo_28 : decode cX6_letGo 28 = .ok (.imul, 1) := by decide +kernel
theorem dX6_letGo_29 : decode cX6_letGo 29 = .ok (.iload_n 2, 1) := by decide +kernel
theorem dX6_letGo_30 : decode cX6_letGo 30 = .ok (.idiv, 1) := by decide +kernel
theorem dX6_letGo_31 : decode cX6_letGo 31 = .ok (.isub, 1) := by decide +kernel
theorem dX6_letGo_32 : decode cX6_letGo 32 = .ok (.istore 5, 2) := by decide +kernel
theorem dX6_letGo_34 : decode cX6_letGo 34 = .ok (.aload_n 0, 1) := by decide +kernel
theorem dX6_letGo_35 : decode cX6_letGo 35 = .ok (.aload_n 0, 1) := by decide +kernel
theorem dX6_letGo_36 : decode cX6_letGo 36 = .ok (.getfield 11, 3) := by decide +kernel
theorem dX6_letGo_39 : decode cX6_letGo 39 = .ok (.aload_n 0, 1) := by decide +kernel
theorem dX6_letGo_40 : decode cX6_letGo 40 = .ok (.getfield 32, 3) := by decide +kernel
theorem dX6_letGo_43 : decode cX6_letGo 43 = .ok (.iload 5, 2) := by decide +kernel
theorem dX6_letGo_45 : decode cX6_letGo 45 = .ok (.invokevirtual 35, 3) := by decide +kernel
theorem dX6_letGo_48 : decode cX6_letGo 48 = .ok (.istore 6, 2) := by decide +kernel
theorem dX6_letGo_50 : decode cX6_letGo 50 = .ok (.aload_n 0, 1) := by decide +kernel
theorem dX6_letGo_51 : decode cX6_letGo 51 = .ok (.aload_n 0, 1) := by decide +kernel
theorem dX6_letGo_52 : decode cX6_letGo 52 = .ok (.getfield 16, 3) := by decide +kernel
theorem dX6_letGo_55 : decode cX6_letGo 55 = .ok (.aload_n 0, 1) := by decide +kernel
theorem dX6_letGo_56 : decode cX6_letGo 56 = .ok (.getfield 39, 3) := by decide +kernel
theorem dX6_letGo_59 : decode cX6_letGo 59 = .ok (.iload 5, 2) := by decide +kernel
theorem dX6_letGo_61 : decode cX6_letGo 61 = .ok (.invokevirtual 35, 3) := by decide +kernel
theorem dX6_letGo_64 : decode cX6_letGo 64 = .ok (.istore 7, 2) := by decide +kernel
theorem dX6_letGo_66 : decode cX6_letGo 66 = .ok (.aload_n 0, 1) := by decide +kernel
theorem dX6_letGo_67 : decode cX6_letGo 67 = .ok (.aload_n 0, 1) := by decide +kernel
theorem dX6_letGo_68 : decode cX6_letGo 68 = .ok (.getfield 11, 3) := by decide +kernel
theorem dX6_letGo_71 : decode cX6_letGo 71 = .ok (.aload_n 0, 1) := by decide +kernel
theorem dX6_letGo_72 : decode cX6_letGo 72 = .ok (.getfield 32, 3) := by decide +kernel
theorem dX6_letGo_75 : decode cX6_letGo 75 = .ok (.aaload, 1) := by decide +kernel
theorem dX6_letGo_76 : decode cX6_letGo 76 = .ok (.iload 6, 2) := by decide +kernel
theorem dX6_letGo_78 : decode cX6_letGo 78 = .ok (.aload_n 1, 1) := by decide +kernel
theorem dX6_letGo_79 : decode cX6_letGo 79 = .ok (.getfield 42, 3) := by decide +kernel
theorem dX6_letGo_82 : decode cX6_letGo 82 = .ok (.iload 6, 2) := by decide +kernel
theorem dX6_letGo_84 : decode cX6_letGo 84 = .ok (.aaload, 1) := by decide +kernel
theorem dX6_letGo_85 : decode cX6_letGo 85 = .ok (.iload 7, 2) := by decide +kernel
theorem dX6_letGo_87 : decode cX6_letGo 87 = .ok (.iaload, 1) := by decide +kernel
theorem dX6_letGo_88 : decode cX6_letGo 88 = .ok (.aload_n 0, 1) := by decide +kernel
theorem dX6_letGo_89 : decode cX6_letGo 89 = .ok (.getfield 11, 3) := by decide +kernel
theorem dX6_letGo_92 : decode cX6_letGo 92 = .ok (.iload 7, 2) := by decide +kernel
theorem dX6_letGo_94 : decode cX6_letGo 94 = .ok (.aaload, 1) := by decide +kernel
theorem dX6_letGo_95 : decode cX6_letGo 95 = .ok (.invokevirtual 45, 3) := by decide +kernel
theorem dX6_letGo_98 : decode cX6_letGo 98 = .ok (.aload_n 0, 1) := by decide +kernel
theorem dX6_letGo_99 : decode cX6_letGo 99 = .ok (.aload_n 0, 1) := by decide +kernel
theorem dX6_letGo_100 : decode cX6_letGo 100 = .ok (.getfield 16, 3) := by decide +kernel
theorem dX6_letGo_103 : decode cX6_letGo 103 = .ok (.aload_n 0, 1) := by decide +kernel
theorem dX6_letGo_104 : decode cX6_letGo 104 = .ok (.getfield 39, 3) := by decide +kernel
theorem dX6_letGo_107 : decode cX6_letGo 107 = .ok (.aaload, 1) := by decide +kernel
theorem dX6_letGo_108 : decode cX6_letGo 108 = .ok (.iload 7, 2) := by decide +kernel
theorem dX6_letGo_110 : decode cX6_letGo 110 = .ok (.aload_n 1, 1) := by decide +kernel
theorem dX6_letGo_111 : decode cX6_letGo 111 = .ok (.getfield 49, 3) := by decide +kernel
theorem dX6_letGo_114 : decode cX6_letGo 114 = .ok (.iload 6, 2) := by decide +kernel
theorem dX6_letGo_116 : decode cX6_letGo 116 = .ok (.aaload, 1) := by decide +kernel
theorem dX6_letGo_117 : decode cX6_letGo 117 = .ok (.iload 7, 2) := by decide +kernel
theorem dX6_letGo_119 : decode cX6_letGo 119 = .ok (.iaload, 1) := by decide +kernel
theorem dX6_letGo_120 : decode cX6_letGo 120 = .ok (.aload_n 0, 1) := by decide +kernel
theorem dX6_letGo_121 : decode cX6_letGo 121 = .ok (.getfield 16, 3) := by decide +kernel
theorem dX6_letGo_124 : decode cX6_letGo 124 = .ok (.iload 6, 2) := by decide +kernel
theorem dX6_letGo_126 : decode cX6_letGo 126 = .ok (.aaload, 1) := by decide +kernel
theorem dX6_letGo_127 : decode cX6_letGo 127 = .ok (.invokevirtual 45, 3) := by decide +kernel
theorem dX6_letGo_130 : decode cX6_letGo 130 = .ok (.aload_n 0, 1) := by decide +kernel
theorem dX6_letGo_131 : decode cX6_letGo 131 = .ok (.iload 6, 2) := by decide +kernel
theorem dX6_letGo_133 : decode cX6_letGo 133 = .ok (.putfield 39, 3) := by decide +kernel
theorem dX6_letGo_136 : decode cX6_letGo 136 = .ok (.aload_n 0, 1) := by decide +kernel
theorem dX6_letGo_137 : decode cX6_letGo 137 = .ok (.iload 7, 2) := by decide +kernel
theorem dX6_letGo_139 : decode cX6_letGo 139 = .ok (.putfield 32, 3) := by decide +kernel
theorem dX6_letGo_142 : decode cX6_letGo 142 = .ok (.iinc 4 1, 3) := by decide +kernel
theorem dX6_letGo_145 : decode cX6_letGo 145 = .ok (.goto (-129), 3) := by decide +kernel
theorem dX6_letGo_148 : decode cX6_letGo 148 = .ok (.iconst 0, 1) := by decide +kernel
theorem dX6_letGo_149 : decode cX6_letGo 149 = .ok (.istore 4, 2) := by decide +kernel
theorem dX6_letGo_151 : decode cX6_letGo 151 = .ok (.iload 4, 2) := by decide +kernel
theorem dX6_letGo_153 : decode cX6_letGo 153 = .ok (.bipush 10, 2) := by decide +kernel
theorem dX6_letGo_155 : decode cX6_letGo 155 = .ok (.if_icmp .ge 47, 3) := by decide +kernel
theorem dX6_letGo_158 : decode cX6_letGo 158 = .ok (.aload_n 0, 1) := by decide +kernel
theorem dX6_letGo_159 : decode cX6_letGo 159 = .ok (.aload_n 0, 1) := by decide +kernel
theorem dX6_letGo_160 : decode cX6_letGo 160 = .ok (.getfield 11, 3) := by decide +kernel
theorem dX6_letGo_163 : decode cX6_letGo 163 = .ok (.aload_n 0, 1) := by decide +kernel
theorem dX6_letGo_164 : decode cX6_letGo 164 = .ok (.getfield 32, 3) := by decide +kernel
theorem dX6_letGo_167 : decode cX6_letGo 167 = .ok (.aaload, 1) := by decide +kernel
theorem dX6_letGo_168 : decode cX6_letGo 168 = .ok (.invokevirtual 52, 3) := by decide +kernel
theorem dX6_letGo_171 : decode cX6_letGo 171 = .ok (.istore 5, 2) := by decide +kernel
theorem dX6_letGo_173 : decode cX6_letGo 173 = .ok (.aload_n 0, 1) := by decide +kernel
theorem dX6_letGo_174 : decode cX6_letGo 174 = .ok (.aload_n 0, 1) := by decide +kernel
theorem dX6_letGo_175 : decode cX6_letGo 175 = .ok (.aload_n 0, 1) := by decide +kernel
theorem dX6_letGo_176 : decode cX6_letGo 176 = .ok (.getfield 16, 3) := by decide +kernel
theorem dX6_letGo_179 : decode cX6_letGo 179 = .ok (.aload_n 0, 1) := by decide +kernel
theorem dX6_letGo_180 : decode cX6_letGo 180 = .ok (.getfield 39, 3) := by decide +kernel
theorem dX6_letGo_183 : decode cX6_letGo 183 = .ok (.aaload, 1) := by decide +kernel
theorem dX6_letGo_184 : decode cX6_letGo 184 = .ok (.invokevirtual 52, 3) := by decide +kernel
theorem dX6_letGo_187 : decode cX6_letGo 187 = .ok (.putfield 32, 3) := by decide +kernel
theorem dX6_letGo_190 : decode cX6_letGo 190 = .ok (.aload_n 0, 1) := by decide +kernel
theorem dX6_letGo_191 : decode cX6_letGo 191 = .ok (.iload 5, 2) := by decide +kernel
theorem dX6_letGo_193 : decode cX6_letGo 193 = .ok (.putfield 39, 3) := by decide +kernel
theorem dX6_letGo_196 : decode cX6_letGo 196 = .ok (.iinc 4 1, 3) := by decide +kernel
theorem dX6_letGo_199 : decode cX6_letGo 199 = .ok (.goto (-48), 3) := by decide +kernel
theorem dX6_letGo_202 : decode cX6_letGo 202 = .ok (.return_, 1) := by decide +kernel
theorem dX6_answerOfB_0 : decode cX6_answerOfB 0 = .ok (.aload_n 0, 1) := by decide +kernel
theorem dX6_answerOfB_1 : decode cX6_answerOfB 1 = .ok (.aload_n 0, 1) := by decide +kernel
theorem dX6_answerOfB_2 : decode cX6_answerOfB 2 = .ok (.getfield 16, 3) := by decide +kernel
theorem dX6_answerOfB_5 : decode cX6_answerOfB 5 = .ok (.iload_n 1, 1) := by decide +kernel
theorem dX6_answerOfB_6 : decode cX6_answerOfB 6 = .ok (.aaload, 1) := by decide +kernel
theorem dX6_answerOfB_7 : decode cX6_answerOfB 7 = .ok (.invokevirtual 52, 3) := by decide +kernel
theorem dX6_answerOfB_10 : decode cX6_answerOfB 10 = .ok (.ireturn, 1) := by decide +kernel
theorem dX6_clear_0 : decode cX6_clear 0 = .ok (.aload_n 0, 1) := by decide +kernel
theorem dX6_clear_1 : decode cX6_clear 1 = .ok (.iload_n 1, 1) := by decide +kernel
theorem dX6_clear_2 : decode cX6_clear 2 = .ok (.putfield 56, 3) := by decide +kernel
theorem dX6_clear_5 : decode cX6_clear 5 = .ok (.aload_n 0, 1) := by decide +kernel
theorem dX6_clear_6 : decode cX6_clear 6 = .ok (.iconst 0, 1) := by decide +kernel
theorem dX6_clear_7 : decode cX6_clear 7 = .ok (.iload_n 1, 1) := by decide +kernel
theorem dX6_clear_8 : decode cX6_clear 8 = .ok (.iconst 1, 1) := by decide +kernel
theorem dX6_clear_9 : decode cX6_clear 9 = .ok (.isub, 1) := by decide +kernel
theorem dX6_clear_10 : decode cX6_clear 10 = .ok (.invokestatic 57, 3) := by decide +kernel
theorem dX6_clear_13 : decode cX6_clear 13 = .ok (.putfield 39, 3) := by decide +kernel
theorem dX6_clear_16 : decode cX6_clear 16 = .ok (.aload_n 0, 1) := by decide +kernel
theorem dX6_clear_17 : decode cX6_clear 17 = .ok (.aload_n 0, 1) := by decide +kernel
theorem dX6_clear_18 : decode cX6_clear 18 = .ok (.getfield 39, 3) := by decide +kernel
theorem dX6_clear_21 : decode cX6_clear 21 = .ok (.putfield 32, 3) := by decide +kernel
theorem dX6_clear_24 : decode cX6_clear 24 = .ok (.iconst 0, 1) := by decide +kernel
theorem dX6_clear_25 : decode cX6_clear 25 = .ok (.istore_n 2, 1) := by decide +kernel
theorem dX6_clear_26 : decode cX6_clear 26 = .ok (.iload_n 2, 1) := by decide +kernel
theorem dX6_clear_27 : decode cX6_clear 27 = .ok (.iload_n 1, 1) := by decide +kernel
theorem dX6_clear_28 : decode cX6_clear 28 = .ok (.if_icmp .ge 40, 3) := by decide +kernel
theorem dX6_clear_31 : decode cX6_clear 31 = .ok (.iconst 0, 1) := by decide +kernel
theorem dX6_clear_32 : decode cX6_clear 32 = .ok (.istore_n 3, 1) := by decide +kernel
theorem dX6_clear_33 : decode cX6_clear 33 = .ok (.iload_n 3, 1) := by decide +kernel
theorem dX6_clear_34 : decode cX6_clear 34 = .ok (.iload_n 1, 1) := by decide +kernel
theorem dX6_clear_35 : decode cX6_clear 35 = .ok (.if_icmp .ge 27, 3) := by decide +kernel
theorem dX6_clear_38 : decode cX6_clear 38 = .ok (.aload_n 0, 1) := by decide +kernel
theorem dX6_clear_39 : decode cX6_clear 39 = .ok (.getfield 11, 3) := by decide +kernel
theorem dX6_clear_42 : decode cX6_clear 42 = .ok (.iload_n 2, 1) := by decide +kernel
theorem dX6_clear_43 : decode cX6_clear 43 = .ok (.aaload, 1) := by decide +kernel
theorem dX6_clear_44 : decode cX6_clear 44 = .ok (.iload_n 3, 1) := by decide +kernel
theorem dX6_clear_45 : decode cX6_clear 45 = .ok (.iconst 0, 1) := by decide +kernel
theorem dX6_clear_46 : decode cX6_clear 46 = .ok (.iastore, 1) := by decide +kernel
theorem dX6_clear_47 : decode cX6_clear 47 = .ok (.aload_n 0, 1) := by decide +kernel
theorem dX6_clear_48 : decode cX6_clear 48 = .ok (.getfield 16, 3) := by decide +kernel
theorem dX6_clear_51 : decode cX6_clear 51 = .ok (.iload_n 2, 1) := by decide +kernel
theorem dX6_clear_52 : decode cX6_clear 52 = .ok (.aaload, 1) := by decide +kernel
theorem dX6_clear_53 : decode cX6_clear 53 = .ok (.iload_n 3, 1) := by decide +kernel
theorem dX6_clear_54 : decode cX6_clear 54 = .ok (.iconst 0, 1) := by decide +kernel
theorem dX6_clear_55 : decode cX6_clear 55 = .ok (.iastore, 1) := by decide +kernel
theorem dX6_clear_56 : decode cX6_clear 56 = .ok (.iinc 3 1, 3) := by decide +kernel
theorem dX6_clear_59 : decode cX6_clear 59 = .ok (.goto (-26), 3) := by decide +kernel
theorem dX6_clear_62 : decode cX6_clear 62 = .ok (.iinc 2 1, 3) := by decide +kernel
theorem dX6_clear_65 : decode cX6_clear 65 = .ok (.goto (-39), 3) := by decide +kernel
theorem dX6_clear_68 : decode cX6_clear 68 = .ok (.return_, 1) := by decide +kernel
theorem dX6_draw_0 : decode cX6_draw 0 = .ok (.aload_n 0, 1) := by decide +kernel
theorem dX6_draw_1 : decode cX6_draw 1 = .ok (.ldc 63, 2) := by decide +kernel
theorem dX6_draw_3 : decode cX6_draw 3 = .ok (.aload_n 0, 1) := by decide +kernel
theorem dX6_draw_4 : decode cX6_draw 4 = .ok (.getfield 29, 3) := by decide +kernel
theorem dX6_draw_7 : decode cX6_draw 7 = .ok (.imul, 1) := by decide +kernel
theorem dX6_draw_8 : decode cX6_draw 8 = .ok (.sipush 12345, 3) := by decide +kernel
theorem dX6_draw_11 : decode cX6_draw 11 = .ok (.iadd, 1) := by decide +kernel
theorem dX6_draw_12 : decode cX6_draw 12 = .ok (.putfield 29, 3) := by decide +kernel
theorem dX6_draw_15 : decode cX6_draw 15 = .ok (.aload_n 0, 1) := by decide +kernel
theorem dX6_draw_16 : decode cX6_draw 16 = .ok (.getfield 29, 3) := by decide +kernel
theorem dX6_draw_19 : decode cX6_draw 19 = .ok (.bipush 16, 2) := by decide +kernel
theorem dX6_draw_21 : decode cX6_draw 21 = .ok (.iushr, 1) := by decide +kernel
theorem dX6_draw_22 : decode cX6_draw 22 = .ok (.ireturn, 1) := by decide +kernel
theorem dX6_take_0 : decode cX6_take 0 = .ok (.aload_n 0, 1) := by decide +kernel
theorem dX6_take_1 : decode cX6_take 1 = .ok (.invokevirtual 64, 3) := by decide +kernel
theorem dX6_take_4 : decode cX6_take 4 = .ok (.bipush 100, 2) := by decide +kernel
theorem dX6_take_6 : decode cX6_take 6 = .ok (.irem, 1) := by decide +kernel
theorem dX6_take_7 : decode cX6_take 7 = .ok (.iload_n 3, 1) := by decide +kernel
theorem dX6_take_8 : decode cX6_take 8 = .ok (.if_icmp .ge 20, 3) := by decide +kernel
theorem dX6_take_11 : decode cX6_take 11 = .ok (.aload_n 0, 1) := by decide +kernel
theorem dX6_take_12 : decode cX6_take 12 = .ok (.getfield 56, 3) := by decide +kernel
theorem dX6_take_15 : decode cX6_take 15 = .ok (.ifCond .le 13, 3) := by decide +kernel
theorem dX6_take_18 : decode cX6_take 18 = .ok (.aload_n 0, 1) := by decide +kernel
theorem dX6_take_19 : decode cX6_take 19 = .ok (.invokevirtual 64, 3) := by decide +kernel
theorem dX6_take_22 : decode cX6_take 22 = .ok (.aload_n 0, 1) := by decide +kernel
theorem dX6_take_23 : decode cX6_take 23 = .ok (.getfield 56, 3) := by decide +kernel
theorem dX6_take_26 : decode cX6_take 26 = .ok (.irem, 1) := by decide +kernel
theorem dX6_take_27 : decode cX6_take 27 = .ok (.ireturn, 1) := by decide +kernel
theorem dX6_take_28 : decode cX6_take 28 = .ok (.aload_n 0, 1) := by decide +kernel
theorem dX6_take_29 : decode cX6_take 29 = .ok (.aload_n 1, 1) := by decide +kernel
theorem dX6_take_30 : decode cX6_take 30 = .ok (.iload_n 2, 1) := by decide +kernel
theorem dX6_take_31 : decode cX6_take 31 = .ok (.aaload, 1) := by decide +kernel
theorem dX6_take_32 : decode cX6_take 32 = .ok (.invokevirtual 52, 3) := by decide +kernel
theorem dX6_take_35 : decode cX6_take 35 = .ok (.ireturn, 1) := by decide +kernel
theorem dX6_bestOf_0 : decode cX6_bestOf 0 = .ok (.iconst 0, 1) := by decide +kernel
theorem dX6_bestOf_1 : decode cX6_bestOf 1 = .ok (.istore_n 2, 1) := by decide +kernel
theorem dX6_bestOf_2 : decode cX6_bestOf 2 = .ok (.iconst 1, 1) := by decide +kernel
theorem dX6_bestOf_3 : decode cX6_bestOf 3 = .ok (.istore_n 3, 1) := by decide +kernel
theorem dX6_bestOf_4 : decode cX6_bestOf 4 = .ok (.iload_n 3, 1) := by decide +kernel
theorem dX6_bestOf_5 : decode cX6_bestOf 5 = .ok (.aload_n 0, 1) := by decide +kernel
theorem dX6_bestOf_6 : decode cX6_bestOf 6 = .ok (.getfield 56, 3) := by decide +kernel
theorem dX6_bestOf_9 : decode cX6_bestOf 9 = .ok (.if_icmp .ge 20, 3) := by decide +kernel
theorem dX6_bestOf_12 : decode cX6_bestOf 12 = .ok (.aload_n 1, 1) := by decide +kernel
theorem dX6_bestOf_13 : decode cX6_bestOf 13 = .ok (.iload_n 3, 1) := by decide +kernel
theorem dX6_bestOf_14 : decode cX6_bestOf 14 = .ok (.iaload, 1) := by decide +kernel
theorem dX6_bestOf_15 : decode cX6_bestOf 15 = .ok (.aload_n 1, 1) := by decide +kernel
theorem dX6_bestOf_16 : decode cX6_bestOf 16 = .ok (.iload_n 2, 1) := by decide +kernel
theorem dX6_bestOf_17 : decode cX6_bestOf 17 = .ok (.iaload, 1) := by decide +kernel
theorem dX6_bestOf_18 : decode cX6_bestOf 18 = .ok (.if_icmp .le 5, 3) := by decide +kernel
theorem dX6_bestOf_21 : decode cX6_bestOf 21 = .ok (.iload_n 3, 1) := by decide +kernel
theorem dX6_bestOf_22 : decode cX6_bestOf 22 = .ok (.istore_n 2, 1) := by decide +kernel
theorem dX6_bestOf_23 : decode cX6_bestOf 23 = .ok (.iinc 3 1, 3) := by decide +kernel
theorem dX6_bestOf_26 : decode cX6_bestOf 26 = .ok (.goto (-22), 3) := by decide +kernel
theorem dX6_bestOf_29 : decode cX6_bestOf 29 = .ok (.iload_n 2, 1) := by decide +kernel
theorem dX6_bestOf_30 : decode cX6_bestOf 30 = .ok (.ireturn, 1) := by decide +kernel
theorem dX6_mend_0 : decode cX6_mend 0 = .ok (.aload_n 1, 1) := by decide +kernel
theorem dX6_mend_1 : decode cX6_mend 1 = .ok (.iload_n 2, 1) := by decide +kernel
theorem dX6_mend_2 : decode cX6_mend 2 = .ok (.iaload, 1) := by decide +kernel
theorem dX6_mend_3 : decode cX6_mend 3 = .ok (.istore 5, 2) := by decide +kernel
theorem dX6_mend_5 : decode cX6_mend 5 = .ok (.aload 4, 2) := by decide +kernel
theorem dX6_mend_7 : decode cX6_mend 7 = .ok (.aload_n 0, 1) := by decide +kernel
theorem dX6_mend_8 : decode cX6_mend 8 = .ok (.aload 4, 2) := by decide +kernel
theorem dX6_mend_10 : decode cX6_mend 10 = .ok (.invokevirtual 52, 3) := by decide +kernel
theorem dX6_mend_13 : decode cX6_mend 13 = .ok (.iaload, 1) := by decide +kernel
theorem dX6_mend_14 : decode cX6_mend 14 = .ok (.istore 6, 2) := by decide +kernel
theorem dX6_mend_16 : decode cX6_mend 16 = .ok (.aload_n 1, 1) := by decide +kernel
theorem dX6_mend_17 : decode cX6_mend 17 = .ok (.iload_n 2, 1) := by decide +kernel
theorem dX6_mend_18 : decode cX6_mend 18 = .ok (.iload 5, 2) := by decide +kernel
theorem dX6_mend_20 : decode cX6_mend 20 = .ok (.bipush 8, 2) := by decide +kernel
theorem dX6_mend_22 : decode cX6_mend 22 = .ok (.iload_n 3, 1) := by decide +kernel
theorem dX6_mend_23 : decode cX6_mend 23 = .ok (.imul, 1) := by decide +kernel
theorem dX6_mend_24 : decode cX6_mend 24 = .ok (.bipush 7, 2) := by decide +kernel
theorem dX6_mend_26 : decode cX6_mend 26 = .ok (.iload 6, 2) := by decide +kernel
theorem dX6_mend_28 : decode cX6_mend 28 = .ok (.imul, 1) := by decide +kernel
theorem dX6_mend_29 : decode cX6_mend 29 = .ok (.bipush 8, 2) := by decide +kernel
theorem dX6_mend_31 : decode cX6_mend 31 = .ok (.idiv, 1) := by decide +kernel
theorem dX6_mend_32 : decode cX6_mend 32 = .ok (.iadd, 1) := by decide +kernel
theorem dX6_mend_33 : decode cX6_mend 33 = .ok (.iload 5, 2) := by decide +kernel
theorem dX6_mend_35 : decode cX6_mend 35 = .ok (.isub, 1) := by decide +kernel
theorem dX6_mend_36 : decode cX6_mend 36 = .ok (.bipush 8, 2) := by decide +kernel
theorem dX6_mend_38 : decode cX6_mend 38 = .ok (.idiv, 1) := by decide +kernel
theorem dX6_mend_39 : decode cX6_mend 39 = .ok (.iadd, 1) := by decide +kernel
theorem dX6_mend_40 : decode cX6_mend 40 = .ok (.iastore, 1) := by decide +kernel
theorem dX6_mend_41 : decode cX6_mend 41 = .ok (.return_, 1) := by decide +kernel
theorem dX7_init_0 : decode cX7_init 0 = .ok (.aload_n 0, 1) := by decide +kernel
theorem dX7_init_1 : decode cX7_init 1 = .ok (.invokespecial 1, 3) := by decide +kernel
theorem dX7_init_4 : decode cX7_init 4 = .ok (.aload_n 0, 1) := by decide +kernel
theorem dX7_init_5 : decode cX7_init 5 = .ok (.aload_n 1, 1) := by decide +kernel
theorem dX7_init_6 : decode cX7_init 6 = .ok (.getfield 7, 3) := by decide +kernel
theorem dX7_init_9 : decode cX7_init 9 = .ok (.newarray .int, 2) := by decide +kernel
theorem dX7_init_11 : decode cX7_init 11 = .ok (.putfield 13, 3) := by decide +kernel
theorem dX7_init_14 : decode cX7_init 14 = .ok (.aload_n 1, 1) := by decide +kernel
theorem dX7_init_15 : decode cX7_init 15 = .ok (.getfield 19, 3) := by decide +kernel
theorem dX7_init_18 : decode cX7_init 18 = .ok (.iconst 0, 1) := by decide +kernel
theorem dX7_init_19 : decode cX7_init 19 = .ok (.aload_n 0, 1) := by decide +kernel
theorem dX7_init_20 : decode cX7_init 20 = .ok (.getfield 13, 3) := by decide +kernel
theorem dX7_init_23 : decode cX7_init 23 = .ok (.iconst 0, 1) := by decide +kernel
theorem dX7_init_24 : decode cX7_init 24 = .ok (.aload_n 0, 1) := by decide +kernel
theorem dX7_init_25 : decode cX7_init 25 = .ok (.getfield 13, 3) := by decide +kernel
theorem dX7_init_28 : decode cX7_init 28 = .ok (.arraylength, 1) := by decide +kernel
theorem dX7_init_29 : decode cX7_init 29 = .ok (.invokestatic 20, 3) := by decide +kernel
theorem dX7_init_32 : decode cX7_init 32 = .ok (.aload_n 0, 1) := by decide +kernel
theorem dX7_init_33 : decode cX7_init 33 = .ok (.aload_n 1, 1) := by decide +kernel
theorem dX7_init_34 : decode cX7_init 34 = .ok (.getfield 26, 3) := by decide +kernel
theorem dX7_init_37 : decode cX7_init 37 = .ok (.bipush 12, 2) := by decide +kernel
theorem dX7_init_39 : decode cX7_init 39 = .ok (.invokestatic 29, 3) := by decide +kernel
theorem dX7_init_42 : decode cX7_init 42 = .ok (.newarray .int, 2) := by decide +kernel
theorem dX7_init_44 : decode cX7_init 44 = .ok (.putfield 35, 3) := by decide +kernel
theorem dX7_init_47 : decode cX7_init 47 = .ok (.aload_n 1, 1) := by decide +kernel
theorem dX7_init_48 : decode cX7_init 48 = .ok (.getfield 38, 3) := by decide +kernel
theorem dX7_init_51 : decode cX7_init 51 = .ok (.iconst 0, 1) := by decide +kernel
theorem dX7_init_52 : decode cX7_init 52 = .ok (.aload_n 0, 1) := by decide +kernel
theorem dX7_init_53 : decode cX7_init 53 = .ok (.getfield 35, 3) := by decide +kernel
theorem dX7_init_56 : decode cX7_init 56 = .ok (.iconst 0, 1) := by decide +kernel
theorem dX7_init_57 : decode cX7_init 57 = .ok (.aload_n 0, 1) := by decide +kernel
theorem dX7_init_58 : decode cX7_init 58 = .ok (.getfield 35, 3) := by decide +kernel
theorem dX7_init_61 : decode cX7_init 61 = .ok (.arraylength, 1) := by decide +kernel
theorem dX7_init_62 : decode cX7_init 62 = .ok (.invokestatic 20, 3) := by decide +kernel
theorem dX7_init_65 : decode cX7_init 65 = .ok (.return_, 1) := by decide +kernel
theorem dX7_token_0 : decode cX7_token 0 = .ok (.iload_n 1, 1) := by decide +kernel
theorem dX7_token_1 : decode cX7_token 1 = .ok (.ifCond .lt 21, 3) := by decide +kernel
theorem dX7_token_4 : decode cX7_token 4 = .ok (.iload_n 1, 1) := by decide +kernel
theorem dX7_token_5 : decode cX7_token 5 = .ok (.aload_n 0, 1) := by decide +kernel
theorem dX7_token_6 : decode cX7_token 6 = .ok (.getfield 13, 3) := by decide +kernel
theorem dX7_token_9 : decode cX7_token 9 = .ok (.arraylength, 1) := by decide +kernel
theorem dX7_token_10 : decode cX7_token 10 = .ok (.if_icmp .ge 12, 3) := by decide +kernel
theorem dX7_token_13 : decode cX7_token 13 = .ok (.aload_n 0, 1) := by decide +kernel
theorem dX7_token_14 : decode cX7_token 14 = .ok (.getfield 13, 3) := by decide +kernel
theorem dX7_token_17 : decode cX7_token 17 = .ok (.iload_n 1, 1) := by decide +kernel
theorem dX7_token_18 : decode cX7_token 18 = .ok (.iaload, 1) := by decide +kernel
theorem dX7_token_19 : decode cX7_token 19 = .ok (.goto 4, 3) := by decide +kernel
theorem dX7_token_22 : decode cX7_token 22 = .ok (.iconst 0, 1) := by decide +kernel
theorem dX7_token_23 : decode cX7_token 23 = .ok (.ireturn, 1) := by decide +kernel
theorem dX7_wanted_0 : decode cX7_wanted 0 = .ok (.iconst 0, 1) := by decide +kernel
theorem dX7_wanted_1 : decode cX7_wanted 1 = .ok (.istore_n 2, 1) := by decide +kernel
theorem dX7_wanted_2 : decode cX7_wanted 2 = .ok (.iload_n 2, 1) := by decide +kernel
theorem dX7_wanted_3 : decode cX7_wanted 3 = .ok (.aload_n 0, 1) := by decide +kernel
theorem dX7_wanted_4 : decode cX7_wanted 4 = .ok (.getfield 35, 3) := by decide +kernel
theorem dX7_wanted_7 : decode cX7_wanted 7 = .ok (.arraylength, 1) := by decide +kernel
theorem dX7_wanted_8 : decode cX7_wanted 8 = .ok (.if_icmp .ge 86, 3) := by decide +kernel
theorem dX7_wanted_11 : decode cX7_wanted 11 = .ok (.aload_n 0, 1) := by decide +kernel
theorem dX7_wanted_12 : decode cX7_wanted 12 = .ok (.aload_n 0, 1) := by decide +kernel
theorem dX7_wanted_13 : decode cX7_wanted 13 = .ok (.getfield 35, 3) := by decide +kernel
theorem dX7_wanted_16 : decode cX7_wanted 16 = .ok (.iload_n 2, 1) := by decide +kernel
theorem dX7_wanted_17 : decode cX7_wanted 17 = .ok (.iaload, 1) := by decide +kernel
theorem dX7_wanted_18 : decode cX7_wanted 18 = .ok (.invokevirtual 39, 3) := by decide +kernel
theorem dX7_wanted_21 : decode cX7_wanted 21 = .ok (.istore_n 3, 1) := by decide +kernel
theorem dX7_wanted_22 : decode cX7_wanted 22 = .ok (.aload_n 0, 1) := by decide +kernel
theorem dX7_wanted_23 : decode cX7_wanted 23 = .ok (.getfield 35, 3) := by decide +kernel
theorem dX7_wanted_26 : decode cX7_wanted 26 = .ok (.iload_n 2, 1) := by decide +kernel
theorem dX7_wanted_27 : decode cX7_wanted 27 = .ok (.iaload, 1) := by decide +kernel
theorem dX7_wanted_28 : decode cX7_wanted 28 = .ok (.iload_n 3, 1) := by decide +kernel
theorem dX7_wanted_29 : decode cX7_wanted 29 = .ok (.invokestatic 43, 3) := by decide +kernel
theorem dX7_wanted_32 : decode cX7_wanted 32 = .ok (.ifCond .eq 7, 3) := by decide +kernel
theorem dX7_wanted_35 : decode cX7_wanted 35 = .ok (.iconst 2, 1) := by decide +kernel
theorem dX7_wanted_36 : decode cX7_wanted 36 = .ok (.goto 4, 3) := by decide +kernel
theorem dX7_wanted_39 : decode cX7_wanted 39 = .ok (.iconst 1, 1) := by decide +kernel
theorem dX7_wanted_40 : decode cX7_wanted 40 = .ok (.iadd, 1) := by decide +kernel
theorem dX7_wanted_41 : decode cX7_wanted 41 = .ok (.istore 4, 2) := by decide +kernel
theorem dX7_wanted_43 : decode cX7_wanted 43 = .ok (.aload_n 0, 1) := by decide +kernel
theorem dX7_wanted_44 : decode cX7_wanted 44 = .ok (.iload 4, 2) := by decide +kernel
theorem dX7_wanted_46 : decode cX7_wanted 46 = .ok (.invokevirtual 39, 3) := by decide +kernel
theorem dX7_wanted_49 : decode cX7_wanted 49 = .ok (.bipush 106, 2) := by decide +kernel
theorem dX7_wanted_51 : decode cX7_wanted 51 = .ok (.if_icmp .ne 15, 3) := by decide +kernel
theorem dX7_wanted_54 : decode cX7_wanted 54 = .ok (.aload_n 0, 1) := by decide +kernel
theorem dX7_wanted_55 : decode cX7_wanted 55 = .ok (.iload 4, 2) := by decide +kernel
theorem dX7_wanted_57 : decode cX7_wanted 57 = .ok (.iconst 1, 1) := by decide +kernel
theorem dX7_wanted_58 : decode cX7_wanted 58 = .ok (.iadd, 1) := by decide +kernel
theorem dX7_wanted_59 : decode cX7_wanted 59 = .ok (.aload_n 1, 1) := by decide +kernel
theorem dX7_wanted_60 : decode cX7_wanted 60 = .ok (.invokevirtual 47, 3) := by decide +kernel
theorem dX7_wanted_63 : decode cX7_wanted 63 = .ok (.ifCond .eq 25, 3) := by decide +kernel
theorem dX7_wanted_66 : decode cX7_wanted 66 = .ok (.iload_n 3, 1) := by decide +kernel
theorem dX7_wanted_67 : decode cX7_wanted 67 = .ok (.aload_n 0, 1) := by decide +kernel
theorem dX7_wanted_68 : decode cX7_wanted 68 = .ok (.aload_n 0, 1) := by decide +kernel
theorem dX7_wanted_69 : decode cX7_wanted 69 = .ok (.getfield 35, 3) := by decide +kernel
theorem dX7_wanted_72 : decode cX7_wanted 72 = .ok (.iload_n 2, 1) := by decide +kernel
theorem dX7_wanted_73 : decode cX7_wanted 73 = .ok (.iaload, 1) := by decide +kernel
theorem dX7_wanted_74 : decode cX7_wanted 74 = .ok (.iconst 1, 1) := by decide +kernel
theorem dX7_wanted_75 : decode cX7_wanted 75 = .ok (.iadd, 1) := by decide +kernel
theorem dX7_wanted_76 : decode cX7_wanted 76 = .ok (.invokevirtual 39, 3) := by decide +kernel
theorem dX7_wanted_79 : decode cX7_wanted 79 = .ok (.sipush 200, 3) := by decide +kernel
theorem dX7_wanted_82 : decode cX7_wanted 82 = .ok (.isub, 1) := by decide +kernel
theorem dX7_wanted_83 : decode cX7_wanted 83 = .ok (.aload_n 1, 1) := by decide +kernel
theorem dX7_wanted_84 : decode cX7_wanted 84 = .ok (.invokestatic 51, 3) := by decide +kernel
theorem dX7_wanted_87 : decode cX7_wanted 87 = .ok (.ireturn, 1) := by decide +kernel
theorem dX7_wanted_88 : decode cX7_wanted 88 = .ok (.iinc 2 1, 3) := by decide +kernel
theorem dX7_wanted_91 : decode cX7_wanted 91 = .ok (.goto (-89), 3) := by decide +kernel
theorem dX7_wanted_94 : decode cX7_wanted 94 = .ok (.aload_n 1, 1) := by decide +kernel
theorem dX7_wanted_95 : decode cX7_wanted 95 = .ok (.iconst 0, 1) := by decide +kernel
theorem dX7_wanted_96 : decode cX7_wanted 96 = .ok (.iaload, 1) := by decide +kernel
theorem dX7_wanted_97 : decode cX7_wanted 97 = .ok (.ireturn, 1) := by decide +kernel
theorem dX7_priceBy_0 : decode cX7_priceBy 0 = .ok (.iload_n 0, 1) := by decide +kernel
theorem dX7_priceBy_1 : decode cX7_priceBy 1 = .ok (.tableswitch 59 100 104 #[35, 41, 47, 49, 55], 35) := by decide +kernel
theorem dX7_priceBy_36 : decode cX7_priceBy 36 = .ok (.aload_n 2, 1) := by decide +kernel
theorem dX7_priceBy_37 : decode cX7_priceBy 37 = .ok (.iconst 0, 1) := by decide +kernel
theorem dX7_priceBy_38 : decode cX7_priceBy 38 = .ok (.iaload, 1) := by decide +kernel
theorem dX7_priceBy_39 : decode cX7_priceBy 39 = .ok (.iload_n 1, 1) := by decide +kernel
theorem dX7_priceBy_40 : decode cX7_priceBy 40 = .ok (.iadd, 1) := by decide +kernel
theorem dX7_priceBy_41 : decode cX7_priceBy 41 = .ok (.ireturn, 1) := by decide +kernel
theorem dX7_priceBy_42 : decode cX7_priceBy 42 = .ok (.aload_n 2, 1) := by decide +kernel
theorem dX7_priceBy_43 : decode cX7_priceBy 43 = .ok (.iconst 0, 1) := by decide +kernel
theorem dX7_priceBy_44 : decode cX7_priceBy 44 = .ok (.iaload, 1) := by decide +kernel
theorem dX7_priceBy_45 : decode cX7_priceBy 45 = .ok (.iload_n 1, 1) := by decide +kernel
theorem dX7_priceBy_46 : decode cX7_priceBy 46 = .ok (.isub, 1) := by decide +kernel
theorem dX7_priceBy_47 : decode cX7_priceBy 47 = .ok (.ireturn, 1) := by decide +kernel
theorem dX7_priceBy_48 : decode cX7_priceBy 48 = .ok (.iload_n 1, 1) := by decide +kernel
theorem dX7_priceBy_49 : decode cX7_priceBy 49 = .ok (.ireturn, 1) := by decide +kernel
theorem dX7_priceBy_50 : decode cX7_priceBy 50 = .ok (.aload_n 2, 1) := by decide +kernel
theorem dX7_priceBy_51 : decode cX7_priceBy 51 = .ok (.iconst 1, 1) := by decide +kernel
theorem dX7_priceBy_52 : decode cX7_priceBy 52 = .ok (.iaload, 1) := by decide +kernel
theorem dX7_priceBy_53 : decode cX7_priceBy 53 = .ok (.iload_n 1, 1) := by decide +kernel
theorem dX7_priceBy_54 : decode cX7_priceBy 54 = .ok (.isub, 1) := by decide +kernel
theorem dX7_priceBy_55 : decode cX7_priceBy 55 = .ok (.ireturn, 1) := by decide +kernel
theorem dX7_priceBy_56 : decode cX7_priceBy 56 = .ok (.aload_n 2, 1) := by decide +kernel
theorem dX7_priceBy_57 : decode cX7_priceBy 57 = .ok (.iconst 1, 1) := by decide +kernel
theorem dX7_priceBy_58 : decode cX7_priceBy 58 = .ok (.iaload, 1) := by decide +kernel
theorem dX7_priceBy_59 : decode cX7_priceBy 59 = .ok (.ireturn, 1) := by decide +kernel
theorem dX7_priceBy_60 : decode cX7_priceBy 60 = .ok (.aload_n 2, 1) := by decide +kernel
theorem dX7_priceBy_61 : decode cX7_priceBy 61 = .ok (.iconst 0, 1) := by decide +kernel
theorem dX7_priceBy_62 : decode cX7_priceBy 62 = .ok (.iaload, 1) := by decide +kernel
theorem dX7_priceBy_63 : decode cX7_priceBy 63 = .ok (.ireturn, 1) := by decide +kernel
theorem dX7_holds_0 : decode cX7_holds 0 = .ok (.iconst 1, 1) := by decide +kernel
theorem dX7_holds_1 : decode cX7_holds 1 = .ok (.istore_n 3, 1) := by decide +kernel
theorem dX7_holds_2 : decode cX7_holds 2 = .ok (.iconst 0, 1) := by decide +kernel
theorem dX7_holds_3 : decode cX7_holds 3 = .ok (.istore 4, 2) := by decide +kernel
theorem dX7_holds_5 : decode cX7_holds 5 = .ok (.iconst 0, 1) := by decide +kernel
theorem dX7_holds_6 : decode cX7_holds 6 = .ok (.istore 5, 2) := by decide +kernel
theorem dX7_holds_8 : decode cX7_holds 8 = .ok (.iconst 0, 1) := by decide +kernel
theorem dX7_holds_9 : decode cX7_holds 9 = .ok (.istore 6, 2) := by decide +kernel
theorem dX7_holds_11 : decode cX7_holds 11 = .ok (.iconst 0, 1) := by decide +kernel
theorem dX7_holds_12 : decode cX7_holds 12 = .ok (.istore 7, 2) := by decide +kernel
theorem dX7_holds_14 : decode cX7_holds 14 = .ok (.iconst 1, 1) := by decide +kernel
theorem dX7_holds_15 : decode cX7_holds 15 = .ok (.istore 8, 2) := by decide +kernel
theorem dX7_holds_17 : decode cX7_holds 17 = .ok (.iload_n 1, 1) := by decide +kernel
theorem dX7_holds_18 : decode cX7_holds 18 = .ok (.istore 9, 2) := by decide +kernel
theorem dX7_holds_20 : decode cX7_holds 20 = .ok (.iload 9, 2) := by decide +kernel
theorem dX7_holds_22 : decode cX7_holds 22 = .ok (.aload_n 0, 1) := by decide +kernel
theorem dX7_holds_23 : decode cX7_holds 23 = .ok (.getfield 13, 3) := by decide +kernel
theorem dX7_holds_26 : decode cX7_holds 26 = .ok (.arraylength, 1) := by decide +kernel
theorem dX7_holds_27 : decode cX7_holds 27 = .ok (.if_icmp .ge 187, 3) := by decide +kernel
theorem dX7_holds_30 : decode cX7_holds 30 = .ok (.aload_n 0, 1) := by decide +kernel
theorem dX7_holds_31 : decode cX7_holds 31 = .ok (.getfield 13, 3) := by decide +kernel
theorem dX7_holds_34 : decode cX7_holds 34 = .ok (.iload 9, 2) := by decide +kernel
theorem dX7_holds_36 : decode cX7_holds 36 = .ok (.iaload, 1) := by decide +kernel
theorem dX7_holds_37 : decode cX7_holds 37 = .ok (.istore 10, 2) := by decide +kernel
theorem dX7_holds_39 : decode cX7_holds 39 = .ok (.iload 10, 2) := by decide +kernel
theorem dX7_holds_41 : decode cX7_holds 41 = .ok (.invokestatic 55, 3) := by decide +kernel
theorem dX7_holds_44 : decode cX7_holds 44 = .ok (.ifCond .eq 20, 3) := by decide +kernel
theorem dX7_holds_47 : decode cX7_holds 47 = .ok (.iload 7, 2) := by decide +kernel
theorem dX7_holds_49 : decode cX7_holds 49 = .ok (.iload 8, 2) := by decide +kernel
theorem dX7_holds_51 : decode cX7_holds 51 = .ok (.iload 10, 2) := by decide +kernel
theorem dX7_holds_53 : decode cX7_holds 53 = .ok (.aload_n 2, 1) := by decide +kernel
theorem dX7_holds_54 : decode cX7_holds 54 = .ok (.invokestatic 58, 3) := by decide +kernel
theorem dX7_holds_57 : decode cX7_holds 57 = .ok (.imul, 1) := by decide +kernel
theorem dX7_holds_58 : decode cX7_holds 58 = .ok (.iadd, 1) := by decide +kernel
theorem dX7_holds_59 : decode cX7_holds 59 = .ok (.istore 7, 2) := by decide +kernel
theorem dX7_holds_61 : decode cX7_holds 61 = .ok (.goto 147, 3) := by decide +kernel
theorem dX7_holds_64 : decode cX7_holds 64 = .ok (.iload 10, 2) := by decide +kernel
theorem dX7_holds_66 : decode cX7_holds 66 = .ok (.invokestatic 62, 3) := by decide +kernel
theorem dX7_holds_69 : decode cX7_holds 69 = .ok (.ifCond .eq 20, 3) := by decide +kernel
theorem dX7_holds_72 : decode cX7_holds 72 = .ok (.iload 10, 2) := by decide +kernel
theorem dX7_holds_74 : decode cX7_holds 74 = .ok (.bipush 43, 2) := by decide +kernel
theorem dX7_holds_76 : decode cX7_holds 76 = .ok (.if_icmp .ne 7, 3) := by decide +kernel
theorem dX7_holds_79 : decode cX7_holds 79 = .ok (.iconst 1, 1) := by decide +kernel
theorem dX7_holds_80 : decode cX7_holds 80 = .ok (.goto 4, 3) := by decide +kernel
theorem dX7_holds_83 : decode cX7_holds 83 = .ok (.iconst (-1), 1) := by decide +kernel
theorem dX7_holds_84 : decode cX7_holds 84 = .ok (.istore 8, 2) := by decide +kernel
theorem dX7_holds_86 : decode cX7_holds 86 = .ok (.goto 122, 3) := by decide +kernel
theorem dX7_holds_89 : decode cX7_holds 89 = .ok (.iload 10, 2) := by decide +kernel
theorem dX7_holds_91 : decode cX7_holds 91 = .ok (.bipush 109, 2) := by decide +kernel
theorem dX7_holds_93 : decode cX7_holds 93 = .ok (.if_icmp .ne 18, 3) := by decide +kernel
theorem dX7_holds_96 : decode cX7_holds 96 = .ok (.iload 4, 2) := by decide +kernel
theorem dX7_holds_98 : decode cX7_holds 98 = .ok (.ifCond .ne 7, 3) := by decide +kernel
theorem dX7_holds_101 : decode cX7_holds 101 = .ok (.iconst 1, 1) := by decide +kernel
theorem dX7_holds_102 : decode cX7_holds 102 = .ok (.goto 4, 3) := by decide +kernel
theorem dX7_holds_105 : decode cX7_holds 105 = .ok (.iconst 0, 1) := by decide +kernel
theorem dX7_holds_106 : decode cX7_holds 106 = .ok (.istore 4, 2) := by decide +kernel
theorem dX7_holds_108 : decode cX7_holds 108 = .ok (.goto 100, 3) := by decide +kernel
theorem dX7_holds_111 : decode cX7_holds 111 = .ok (.iload 10, 2) := by decide +kernel
theorem dX7_holds_113 : decode cX7_holds 113 = .ok (.invokestatic 65, 3) := by decide +kernel
theorem dX7_holds_116 : decode cX7_holds 116 = .ok (.ifCond .eq 20, 3) := by decide +kernel
theorem dX7_holds_119 : decode cX7_holds 119 = .ok (.iload 10, 2) := by decide +kernel
theorem dX7_holds_121 : decode cX7_holds 121 = .ok (.istore 5, 2) := by decide +kernel
theorem dX7_holds_123 : decode cX7_holds 123 = .ok (.iload 7, 2) := by decide +kernel
theorem dX7_holds_125 : decode cX7_holds 125 = .ok (.istore 6, 2) := by decide +kernel
theorem dX7_holds_127 : decode cX7_holds 127 = .ok (.iconst 0, 1) := by decide +kernel
theorem dX7_holds_128 : decode cX7_holds 128 = .ok (.istore 7, 2) := by decide +kernel
theorem dX7_holds_130 : decode cX7_holds 130 = .ok (.iconst 1, 1) := by decide +kernel
theorem dX7_holds_131 : decode cX7_holds 131 = .ok (.istore 8, 2) := by decide +kernel
theorem dX7_holds_133 : decode cX7_holds 133 = .ok (.goto 75, 3) := by decide +kernel
theorem dX7_holds_136 : decode cX7_holds 136 = .ok (.iload_n 3, 1) := by decide +kernel
theorem dX7_holds_137 : decode cX7_holds 137 = .ok (.ifCond .eq 21, 3) := by decide +kernel
theorem dX7_holds_140 : decode cX7_holds 140 = .ok (.iload 6, 2) := by decide +kernel
theorem dX7_holds_142 : decode cX7_holds 142 = .ok (.iload 5, 2) := by decide +kernel
theorem dX7_holds_144 : decode cX7_holds 144 = .ok (.iload 7, 2) := by decide +kernel
theorem dX7_holds_146 : decode cX7_holds 146 = .ok (.invokestatic 68, 3) := by decide +kernel
theorem dX7_holds_149 : decode cX7_holds 149 = .ok (.iload 4, 2) := by decide +kernel
theorem dX7_holds_151 : decode cX7_holds 151 = .ok (.if_icmp .eq 7, 3) := by decide +kernel
theorem dX7_holds_154 : decode cX7_holds 154 = .ok (.iconst 1, 1) := by decide +kernel
theorem dX7_holds_155 : decode cX7_holds 155 = .ok (.goto 4, 3) := by decide +kernel
theorem dX7_holds_158 : decode cX7_holds 158 = .ok (.iconst 0, 1) := by decide +kernel
theorem dX7_holds_159 : decode cX7_holds 159 = .ok (.istore_n 3, 1) := by decide +kernel
theorem dX7_holds_160 : decode cX7_holds 160 = .ok (.iload 10, 2) := by decide +kernel
theorem dX7_holds_162 : decode cX7_holds 162 = .ok (.bipush 108, 2) := by decide +kernel
theorem dX7_holds_164 : decode cX7_holds 164 = .ok (.if_icmp .eq 9, 3) := by decide +kernel
theorem dX7_holds_167 : decode cX7_holds 167 = .ok (.iload_n 3, 1) := by decide +kernel
theorem dX7_holds_168 : decode cX7_holds 168 = .ok (.ifCond .eq 5, 3) := by decide +kernel
theorem dX7_holds_171 : decode cX7_holds 171 = .ok (.iconst 1, 1) := by decide +kernel
theorem dX7_holds_172 : decode cX7_holds 172 = .ok (.ireturn, 1) := by decide +kernel
theorem dX7_holds_173 : decode cX7_holds 173 = .ok (.iload 10, 2) := by decide +kernel
theorem dX7_holds_175 : decode cX7_holds 175 = .ok (.bipush 59, 2) := by decide +kernel
theorem dX7_holds_177 : decode cX7_holds 177 = .ok (.if_icmp .ne 5, 3) := by decide +kernel
theorem dX7_holds_180 : decode cX7_holds 180 = .ok (.iconst 0, 1) := by decide +kernel
theorem dX7_holds_181 : decode cX7_holds 181 = .ok (.ireturn, 1) := by decide +kernel
theorem dX7_holds_182 : decode cX7_holds 182 = .ok (.iload_n 3, 1) := by decide +kernel
theorem dX7_holds_183 : decode cX7_holds 183 = .ok (.ifCond .ne 10, 3) := by decide +kernel
theorem dX7_holds_186 : decode cX7_holds 186 = .ok (.iload 10, 2) := by decide +kernel
theorem dX7_holds_188 : decode cX7_holds 188 = .ok (.bipush 107, 2) := by decide +kernel
theorem dX7_holds_190 : decode cX7_holds 190 = .ok (.if_icmp .ne 7, 3) := by decide +kernel
theorem dX7_holds_193 : decode cX7_holds 193 = .ok (.iconst 1, 1) := by decide +kernel
theorem dX7_holds_194 : decode cX7_holds 194 = .ok (.goto 4, 3) := by decide +kernel
theorem dX7_holds_197 : decode cX7_holds 197 = .ok (.iconst 0, 1) := by decide +kernel
theorem dX7_holds_198 : decode cX7_holds 198 = .ok (.istore_n 3, 1) := by decide +kernel
theorem dX7_holds_199 : decode cX7_holds 199 = .ok (.iconst 0, 1) := by decide +kernel
theorem dX7_holds_200 : decode cX7_holds 200 = .ok (.istore 4, 2) := by decide +kernel
theorem dX7_holds_202 : decode cX7_holds 202 = .ok (.iconst 0, 1) := by decide +kernel
theorem dX7_holds_203 : decode cX7_holds 203 = .ok (.istore 7, 2) := by decide +kernel
theorem dX7_holds_205 : decode cX7_holds 205 = .ok (.iconst 1, 1) := by decide +kernel
theorem dX7_holds_206 : decode cX7_holds 206 = .ok (.istore 8, 2) := by decide +kernel
theorem dX7_holds_208 : decode cX7_holds 208 = .ok (.iinc 9 1, 3) := by decide +kernel
theorem dX7_holds_211 : decode cX7_holds 211 = .ok (.goto (-191), 3) := by decide +kernel
theorem dX7_holds_214 : decode cX7_holds 214 = .ok (.iconst 0, 1) := by decide +kernel
theorem dX7_holds_215 : decode cX7_holds 215 = .ok (.ireturn, 1) := by decide +kernel
theorem dX7_valueOf_0 : decode cX7_valueOf 0 = .ok (.iload_n 0, 1) := by decide +kernel
theorem dX7_valueOf_1 : decode cX7_valueOf 1 = .ok (.sipush 200, 3) := by decide +kernel
theorem dX7_valueOf_4 : decode cX7_valueOf 4 = .ok (.if_icmp .lt 11, 3) := by decide +kernel
theorem dX7_valueOf_7 : decode cX7_valueOf 7 = .ok (.iload_n 0, 1) := by decide +kernel
theorem dX7_valueOf_8 : decode cX7_valueOf 8 = .ok (.sipush 200, 3) := by decide +kernel
theorem dX7_valueOf_11 : decode cX7_valueOf 11 = .ok (.isub, 1) := by decide +kernel
theorem dX7_valueOf_12 : decode cX7_valueOf 12 = .ok (.goto 9, 3) := by decide +kernel
theorem dX7_valueOf_15 : decode cX7_valueOf 15 = .ok (.aload_n 1, 1) := by decide +kernel
theorem dX7_valueOf_16 : decode cX7_valueOf 16 = .ok (.iload_n 0, 1) := by decide +kernel
theorem dX7_valueOf_17 : decode cX7_valueOf 17 = .ok (.bipush 110, 2) := by decide +kernel
theorem dX7_valueOf_19 : decode cX7_valueOf 19 = .ok (.isub, 1) := by decide +kernel
theorem dX7_valueOf_20 : decode cX7_valueOf 20 = .ok (.iaload, 1) := by decide +kernel
theorem dX7_valueOf_21 : decode cX7_valueOf 21 = .ok (.ireturn, 1) := by decide +kernel
theorem dX7_isSo_0 : decode cX7_isSo 0 = .ok (.iload_n 1, 1) := by decide +kernel
theorem dX7_isSo_1 : decode cX7_isSo 1 = .ok (.bipush 60, 2) := by decide +kernel
theorem dX7_isSo_3 : decode cX7_isSo 3 = .ok (.if_icmp .ne 16, 3) := by decide +kernel
theorem dX7_isSo_6 : decode cX7_isSo 6 = .ok (.iload_n 0, 1) := by decide +kernel
theorem dX7_isSo_7 : decode cX7_isSo 7 = .ok (.iload_n 2, 1) := by decide +kernel
theorem dX7_isSo_8 : decode cX7_isSo 8 = .ok (.if_icmp .ge 7, 3) := by decide +kernel
theorem dX7_isSo_11 : decode cX7_isSo 11 = .ok (.iconst 1, 1) := by decide +kernel
theorem dX7_isSo_12 : decode cX7_isSo 12 = .ok (.goto 36, 3) := by decide +kernel
theorem dX7_isSo_15 : decode cX7_isSo 15 = .ok (.iconst 0, 1) := by decide +kernel
theorem dX7_isSo_16 : decode cX7_isSo 16 = .ok (.goto 32, 3) := by decide +kernel
theorem dX7_isSo_19 : decode cX7_isSo 19 = .ok (.iload_n 1, 1) := by decide +kernel
theorem dX7_isSo_20 : decode cX7_isSo 20 = .ok (.bipush 62, 2) := by decide +kernel
theorem dX7_isSo_22 : decode cX7_isSo 22 = .ok (.if_icmp .ne 16, 3) := by decide +kernel
theorem dX7_isSo_25 : decode cX7_isSo 25 = .ok (.iload_n 0, 1) := by decide +kernel
theorem dX7_isSo_26 : decode cX7_isSo 26 = .ok (.iload_n 2, 1) := by decide +kernel
theorem dX7_isSo_27 : decode cX7_isSo 27 = .ok (.if_icmp .le 7, 3) := by decide +kernel
theorem dX7_isSo_30 : decode cX7_isSo 30 = .ok (.iconst 1, 1) := by decide +kernel
theorem dX7_isSo_31 : decode cX7_isSo 31 = .ok (.goto 17, 3) := by decide +kernel
theorem dX7_isSo_34 : decode cX7_isSo 34 = .ok (.iconst 0, 1) := by decide +kernel
theorem dX7_isSo_35 : decode cX7_isSo 35 = .ok (.goto 13, 3) := by decide +kernel
theorem dX7_isSo_38 : decode cX7_isSo 38 = .ok (.iload_n 0, 1) := by decide +kernel
theorem dX7_isSo_39 : decode cX7_isSo 39 = .ok (.iload_n 2, 1) := by decide +kernel
theorem dX7_isSo_40 : decode cX7_isSo 40 = .ok (.if_icmp .ne 7, 3) := by decide +kernel
theorem dX7_isSo_43 : decode cX7_isSo 43 = .ok (.iconst 1, 1) := by decide +kernel
theorem dX7_isSo_44 : decode cX7_isSo 44 = .ok (.goto 4, 3) := by decide +kernel
theorem dX7_isSo_47 : decode cX7_isSo 47 = .ok (.iconst 0, 1) := by decide +kernel
theorem dX7_isSo_48 : decode cX7_isSo 48 = .ok (.ireturn, 1) := by decide +kernel
theorem dX8_init_0 : decode cX8_init 0 = .ok (.aload_n 0, 1) := by decide +kernel
theorem dX8_init_1 : decode cX8_init 1 = .ok (.invokespecial 3, 3) := by decide +kernel
theorem dX8_init_4 : decode cX8_init 4 = .ok (.aload_n 0, 1) := by decide +kernel
theorem dX8_init_5 : decode cX8_init 5 = .ok (.iconst 2, 1) := by decide +kernel
theorem dX8_init_6 : decode cX8_init 6 = .ok (.bipush 21, 2) := by decide +kernel
theorem dX8_init_8 : decode cX8_init 8 = .ok (.multianewarray 9 2, 4) := by decide +kernel
theorem dX8_init_12 : decode cX8_init 12 = .ok (.putfield 11, 3) := by decide +kernel
theorem dX8_init_15 : decode cX8_init 15 = .ok (.aload_n 0, 1) := by decide +kernel
theorem dX8_init_16 : decode cX8_init 16 = .ok (.bipush 18, 2) := by decide +kernel
theorem dX8_init_18 : decode cX8_init 18 = .ok (.newarray .int, 2) := by decide +kernel
theorem dX8_init_20 : decode cX8_init 20 = .ok (.putfield 16, 3) := by decide +kernel
theorem dX8_init_23 : decode cX8_init 23 = .ok (.iconst 0, 1) := by decide +kernel
theorem dX8_init_24 : decode cX8_init 24 = .ok (.istore_n 1, 1) := by decide +kernel
theorem dX8_init_25 : decode cX8_init 25 = .ok (.iload_n 1, 1) := by decide +kernel
theorem dX8_init_26 : decode cX8_init 26 = .ok (.iconst 2, 1) := by decide +kernel
theorem dX8_init_27 : decode cX8_init 27 = .ok (.if_icmp .ge 32, 3) := by decide +kernel
theorem dX8_init_30 : decode cX8_init 30 = .ok (.iconst 0, 1) := by decide +kernel
theorem dX8_init_31 : decode cX8_init 31 = .ok (.istore_n 2, 1) := by decide +kernel
theorem dX8_init_32 : decode cX8_init 32 = .ok (.iload_n 2, 1) := by decide +kernel
theorem dX8_init_33 : decode cX8_init 33 = .ok (.bipush 21, 2) := by decide +kernel
theorem dX8_init_35 : decode cX8_init 35 = .ok (.if_icmp .ge 18, 3) := by decide +kernel
theorem dX8_init_38 : decode cX8_init 38 = .ok (.aload_n 0, 1) := by decide +kernel
theorem dX8_init_39 : decode cX8_init 39 = .ok (.getfield 11, 3) := by decide +kernel
theorem dX8_init_42 : decode cX8_init 42 = .ok (.iload_n 1, 1) := by decide +kernel
theorem dX8_init_43 : decode cX8_init 43 = .ok (.aaload, 1) := by decide +kernel
theorem dX8_init_44 : decode cX8_init 44 = .ok (.iload_n 2, 1) := by decide +kernel
theorem dX8_init_45 : decode cX8_init 45 = .ok (.iconst 1, 1) := by decide +kernel
theorem dX8_init_46 : decode cX8_init 46 = .ok (.iastore, 1) := by decide +kernel
theorem dX8_init_47 : decode cX8_init 47 = .ok (.iinc 2 1, 3) := by decide +kernel
theorem dX8_init_50 : decode cX8_init 50 = .ok (.goto (-18), 3) := by decide +kernel
theorem dX8_init_53 : decode cX8_init 53 = .ok (.iinc 1 1, 3) := by decide +kernel
theorem dX8_init_56 : decode cX8_init 56 = .ok (.goto (-31), 3) := by decide +kernel
theorem dX8_init_59 : decode cX8_init 59 = .ok (.return_, 1) := by decide +kernel
theorem dX8_copyFrom_0 : decode cX8_copyFrom 0 = .ok (.aload_n 0, 1) := by decide +kernel
theorem dX8_copyFrom_1 : decode cX8_copyFrom 1 = .ok (.aload_n 1, 1) := by decide +kernel
theorem dX8_copyFrom_2 : decode cX8_copyFrom 2 = .ok (.getfield 20, 3) := by decide +kernel
theorem dX8_copyFrom_5 : decode cX8_copyFrom 5 = .ok (.putfield 20, 3) := by decide +kernel
theorem dX8_copyFrom_8 : decode cX8_copyFrom 8 = .ok (.aload_n 0, 1) := by decide +kernel
theorem dX8_copyFrom_9 : decode cX8_copyFrom 9 = .ok (.aload_n 1, 1) := by decide +kernel
theorem dX8_copyFrom_10 : decode cX8_copyFrom 10 = .ok (.getfield 24, 3) := by decide +kernel
theorem dX8_copyFrom_13 : decode cX8_copyFrom 13 = .ok (.putfield 24, 3) := by decide +kernel
theorem dX8_copyFrom_16 : decode cX8_copyFrom 16 = .ok (.aload_n 1, 1) := by decide +kernel
theorem dX8_copyFrom_17 : decode cX8_copyFrom 17 = .ok (.getfield 16, 3) := by decide +kernel
theorem dX8_copyFrom_20 : decode cX8_copyFrom 20 = .ok (.iconst 0, 1) := by decide +kernel
theorem dX8_copyFrom_21 : decode cX8_copyFrom 21 = .ok (.aload_n 0, 1) := by decide +kernel
theorem dX8_copyFrom_22 : decode cX8_copyFrom 22 = .ok (.getfield 16, 3) := by decide +kernel
theorem dX8_copyFrom_25 : decode cX8_copyFrom 25 = .ok (.iconst 0, 1) := by decide +kernel
theorem dX8_copyFrom_26 : decode cX8_copyFrom 26 = .ok (.aload_n 0, 1) := by decide +kernel
theorem dX8_copyFrom_27 : decode cX8_copyFrom 27 = .ok (.getfield 16, 3) := by decide +kernel
theorem dX8_copyFrom_30 : decode cX8_copyFrom 30 = .ok (.arraylength, 1) := by decide +kernel
theorem dX8_copyFrom_31 : decode cX8_copyFrom 31 = .ok (.invokestatic 27, 3) := by decide +kernel
theorem dX8_copyFrom_34 : decode cX8_copyFrom 34 = .ok (.iconst 0, 1) := by decide +kernel
theorem dX8_copyFrom_35 : decode cX8_copyFrom 35 = .ok (.istore_n 2, 1) := by decide +kernel
theorem dX8_copyFrom_36 : decode cX8_copyFrom 36 = .ok (.iload_n 2, 1) := by decide +kernel
theorem dX8_copyFrom_37 : decode cX8_copyFrom 37 = .ok (.iconst 2, 1) := by decide +kernel
theorem dX8_copyFrom_38 : decode cX8_copyFrom 38 = .ok (.if_icmp .ge 28, 3) := by decide +kernel
theorem dX8_copyFrom_41 : decode cX8_copyFrom 41 = .ok (.aload_n 1, 1) := by decide +kernel
theorem dX8_copyFrom_42 : decode cX8_copyFrom 42 = .ok (.getfield 11, 3) := by decide +kernel
theorem dX8_copyFrom_45 : decode cX8_copyFrom 45 = .ok (.iload_n 2, 1) := by decide +kernel
theorem dX8_copyFrom_46 : decode cX8_copyFrom 46 = .ok (.aaload, 1) := by decide +kernel
theorem dX8_copyFrom_47 : decode cX8_copyFrom 47 = .ok (.iconst 0, 1) := by decide +kernel
theorem dX8_copyFrom_48 : decode cX8_copyFrom 48 = .ok (.aload_n 0, 1) := by decide +kernel
theorem dX8_copyFrom_49 : decode cX8_copyFrom 49 = .ok (.getfield 11, 3) := by decide +kernel
theorem dX8_copyFrom_52 : decode cX8_copyFrom 52 = .ok (.iload_n 2, 1) := by decide +kernel
theorem dX8_copyFrom_53 : decode cX8_copyFrom 53 = .ok (.aaload, 1) := by decide +kernel
theorem dX8_copyFrom_54 : decode cX8_copyFrom 54 = .ok (.iconst 0, 1) := by decide +kernel
theorem dX8_copyFrom_55 : decode cX8_copyFrom 55 = .ok (.bipush 21, 2) := by decide +kernel
theorem dX8_copyFrom_57 : decode cX8_copyFrom 57 = .ok (.invokestatic 27, 3) := by decide +kernel
theorem dX8_copyFrom_60 : decode cX8_copyFrom 60 = .ok (.iinc 2 1, 3) := by decide +kernel
theorem dX8_copyFrom_63 : decode cX8_copyFrom 63 = .ok (.goto (-27), 3) := by decide +kernel
theorem dX8_copyFrom_66 : decode cX8_copyFrom 66 = .ok (.return_, 1) := by decide +kernel
theorem dX8_setWeights_0 : decode cX8_setWeights 0 = .ok (.iconst 0, 1) := by decide +kernel
theorem dX8_setWeights_1 : decode cX8_setWeights 1 = .ok (.istore_n 3, 1) := by decide +kernel
theorem dX8_setWeights_2 : decode cX8_setWeights 2 = .ok (.iload_n 3, 1) := by decide +kernel
theorem dX8_setWeights_3 : decode cX8_setWeights 3 = .ok (.bipush 21, 2) := by decide +kernel
theorem dX8_setWeights_5 : decode cX8_setWeights 5 = .ok (.if_icmp .ge 21, 3) := by decide +kernel
theorem dX8_setWeights_8 : decode cX8_setWeights 8 = .ok (.aload_n 0, 1) := by decide +kernel
theorem dX8_setWeights_9 : decode cX8_setWeights 9 = .ok (.getfield 11, 3) := by decide +kernel
theorem dX8_setWeights_12 : decode cX8_setWeights 12 = .ok (.iload_n 1, 1) := by decide +kernel
theorem dX8_setWeights_13 : decode cX8_setWeights 13 = .ok (.aaload, 1) := by decide +kernel
theorem dX8_setWeights_14 : decode cX8_setWeights 14 = .ok (.iload_n 3, 1) := by decide +kernel
theorem dX8_setWeights_15 : decode cX8_setWeights 15 = .ok (.aload_n 2, 1) := by decide +kernel
theorem dX8_setWeights_16 : decode cX8_setWeights 16 = .ok (.iload_n 3, 1) := by decide +kernel
theorem dX8_setWeights_17 : decode cX8_setWeights 17 = .ok (.laload, 1) := by decide +kernel
theorem dX8_setWeights_18 : decode cX8_setWeights 18 = .ok (.l2i, 1) := by decide +kernel
theorem dX8_setWeights_19 : decode cX8_setWeights 19 = .ok (.iastore, 1) := by decide +kernel
theorem dX8_setWeights_20 : decode cX8_setWeights 20 = .ok (.iinc 3 1, 3) := by decide +kernel
theorem dX8_setWeights_23 : decode cX8_setWeights 23 = .ok (.goto (-21), 3) := by decide +kernel
theorem dX8_setWeights_26 : decode cX8_setWeights 26 = .ok (.return_, 1) := by decide +kernel
theorem dX8_addRise_0 : decode cX8_addRise 0 = .ok (.aload_n 0, 1) := by decide +kernel
theorem dX8_addRise_1 : decode cX8_addRise 1 = .ok (.getfield 20, 3) := by decide +kernel
theorem dX8_addRise_4 : decode cX8_addRise 4 = .ok (.bipush 6, 2) := by decide +kernel
theorem dX8_addRise_6 : decode cX8_addRise 6 = .ok (.if_icmp .lt 5, 3) := by decide +kernel
theorem dX8_addRise_9 : decode cX8_addRise 9 = .ok (.iconst (-1), 1) := by decide +kernel
theorem dX8_addRise_10 : decode cX8_addRise 10 = .ok (.ireturn, 1) := by decide +kernel
theorem dX8_addRise_11 : decode cX8_addRise 11 = .ok (.aload_n 0, 1) := by decide +kernel
theorem dX8_addRise_12 : decode cX8_addRise 12 = .ok (.iload_n 1, 1) := by decide +kernel
theorem dX8_addRise_13 : decode cX8_addRise 13 = .ok (.invokevirtual 33, 3) := by decide +kernel
theorem dX8_addRise_16 : decode cX8_addRise 16 = .ok (.aload_n 0, 1) := by decide +kernel
theorem dX8_addRise_17 : decode cX8_addRise 17 = .ok (.iload_n 2, 1) := by decide +kernel
theorem dX8_addRise_18 : decode cX8_addRise 18 = .ok (.invokevirtual 33, 3) := by decide +kernel
theorem dX8_addRise_21 : decode cX8_addRise 21 = .ok (.aload_n 0, 1) := by decide +kernel
theorem dX8_addRise_22 : decode cX8_addRise 22 = .ok (.iload_n 3, 1) := by decide +kernel
theorem dX8_addRise_23 : decode cX8_addRise 23 = .ok (.invokevirtual 33, 3) := by decide +kernel
theorem dX8_addRise_26 : decode cX8_addRise 26 = .ok (.aload_n 0, 1) := by decide +kernel
theorem dX8_addRise_27 : decode cX8_addRise 27 = .ok (.dup, 1) := by decide +kernel
theorem dX8_addRise_28 : decode cX8_addRise 28 = .ok (.getfield 20, 3) := by decide +kernel
theorem dX8_addRise_31 : decode cX8_addRise 31 = .ok (.dup_x1, 1) := by decide +kernel
theorem dX8_addRise_32 : decode cX8_addRise 32 = .ok (.iconst 1, 1) := by decide +kernel
theorem dX8_addRise_33 : decode cX8_addRise 33 = .ok (.iadd, 1) := by decide +kernel
theorem dX8_addRise_34 : decode cX8_addRise 34 = .ok (.putfield 20, 3) := by decide +kernel
theorem dX8_addRise_37 : decode cX8_addRise 37 = .ok (.ireturn, 1) := by decide +kernel
theorem dX8_addLag_0 : decode cX8_addLag 0 = .ok (.iload_n 1, 1) := by decide +kernel
theorem dX8_addLag_1 : decode cX8_addLag 1 = .ok (.iconst (-1), 1) := by decide +kernel
theorem dX8_addLag_2 : decode cX8_addLag 2 = .ok (.if_icmp .eq 35, 3) := by decide +kernel
theorem dX8_addLag_5 : decode cX8_addLag 5 = .ok (.aload_n 0, 1) := by decide +kernel
theorem dX8_addLag_6 : decode cX8_addLag 6 = .ok (.getfield 24, 3) := by decide +kernel
theorem dX8_addLag_9 : decode cX8_addLag 9 = .ok (.aload_n 0, 1) := by decide +kernel
theorem dX8_addLag_10 : decode cX8_addLag 10 = .ok (.getfield 16, 3) := by decide +kernel
theorem dX8_addLag_13 : decode cX8_addLag 13 = .ok (.arraylength, 1) := by decide +kernel
theorem dX8_addLag_14 : decode cX8_addLag 14 = .ok (.if_icmp .ge 23, 3) := by decide +kernel
theorem dX8_addLag_17 : decode cX8_addLag 17 = .ok (.aload_n 0, 1) := by decide +kernel
theorem dX8_addLag_18 : decode cX8_addLag 18 = .ok (.getfield 16, 3) := by decide +kernel
theorem dX8_addLag_21 : decode cX8_addLag 21 = .ok (.aload_n 0, 1) := by decide +kernel
theorem dX8_addLag_22 : decode cX8_addLag 22 = .ok (.getfield 24, 3) := by decide +kernel
theorem dX8_addLag_25 : decode cX8_addLag 25 = .ok (.iload_n 1, 1) := by decide +kernel
theorem dX8_addLag_26 : decode cX8_addLag 26 = .ok (.iastore, 1) := by decide +kernel
theorem dX8_addLag_27 : decode cX8_addLag 27 = .ok (.aload_n 0, 1) := by decide +kernel
theorem dX8_addLag_28 : decode cX8_addLag 28 = .ok (.dup, 1) := by decide +kernel
theorem dX8_addLag_29 : decode cX8_addLag 29 = .ok (.getfield 24, 3) := by decide +kernel
theorem dX8_addLag_32 : decode cX8_addLag 32 = .ok (.iconst 1, 1) := by decide +kernel
theorem dX8_addLag_33 : decode cX8_addLag 33 = .ok (.iadd, 1) := by decide +kernel
theorem dX8_addLag_34 : decode cX8_addLag 34 = .ok (.putfield 24, 3) := by decide +kernel
theorem dX8_addLag_37 : decode cX8_addLag 37 = .ok (.return_, 1) := by decide +kernel
theorem dX8_product_0 : decode cX8_product 0 = .ok (.lconst 1, 1) := by decide +kernel
theorem dX8_product_1 : decode cX8_product 1 = .ok (.lstore_n 2, 1) := by decide +kernel
theorem dX8_product_2 : decode cX8_product 2 = .ok (.iconst 0, 1) := by decide +kernel
theorem dX8_product_3 : decode cX8_product 3 = .ok (.istore 4, 2) := by decide +kernel
theorem dX8_product_5 : decode cX8_product 5 = .ok (.iload 4, 2) := by decide +kernel
theorem dX8_product_7 : decode cX8_product 7 = .ok (.aload_n 0, 1) := by decide +kernel
theorem dX8_product_8 : decode cX8_product 8 = .ok (.getfield 24, 3) := by decide +kernel
theorem dX8_product_11 : decode cX8_product 11 = .ok (.if_icmp .ge 27, 3) := by decide +kernel
theorem dX8_product_14 : decode cX8_product 14 = .ok (.lload_n 2, 1) := by decide +kernel
theorem dX8_product_15 : decode cX8_product 15 = .ok (.aload_n 0, 1) := by decide +kernel
theorem dX8_product_16 : decode cX8_product 16 = .ok (.getfield 11, 3) := by decide +kernel
theorem dX8_product_19 : decode cX8_product 19 = .ok (.iload_n 1, 1) := by decide +kernel
theorem dX8_product_20 : decode cX8_product 20 = .ok (.aaload, 1) := by decide +kernel
theorem dX8_product_21 : decode cX8_product 21 = .ok (.aload_n 0, 1) := by decide +kernel
theorem dX8_product_22 : decode cX8_product 22 = .ok (.getfield 16, 3) := by decide +kernel
theorem dX8_product_25 : decode cX8_product 25 = .ok (.iload 4, 2) := by decide +kernel
theorem dX8_product_27 : decode cX8_product 27 = .ok (.iaload, 1) := by decide +kernel
theorem dX8_product_28 : decode cX8_product 28 = .ok (.iaload, 1) := by decide +kernel
theorem dX8_product_29 : decode cX8_product 29 = .ok (.i2l, 1) := by decide +kernel
theorem dX8_product_30 : decode cX8_product 30 = .ok (.lmul, 1) := by decide +kernel
theorem dX8_product_31 : decode cX8_product 31 = .ok (.lstore_n 2, 1) := by decide +kernel
theorem dX8_product_32 : decode cX8_product 32 = .ok (.iinc 4 1, 3) := by decide +kernel
theorem dX8_product_35 : decode cX8_product 35 = .ok (.goto (-30), 3) := by decide +kernel
theorem dX8_product_38 : decode cX8_product 38 = .ok (.lload_n 2, 1) := by decide +kernel
theorem dX8_product_39 : decode cX8_product 39 = .ok (.lreturn, 1) := by decide +kernel
theorem dX9_init_0 : decode cX9_init 0 = .ok (.aload_n 0, 1) := by decide +kernel
theorem dX9_init_1 : decode cX9_init 1 = .ok (.invokespecial 3, 3) := by decide +kernel
theorem dX9_init_4 : decode cX9_init 4 = .ok (.aload_n 0, 1) := by decide +kernel
theorem dX9_init_5 : decode cX9_init 5 = .ok (.sipush 400, 3) := by decide +kernel
theorem dX9_init_8 : decode cX9_init 8 = .ok (.newarray .byte, 2) := by decide +kernel
theorem dX9_init_10 : decode cX9_init 10 = .ok (.putfield 11, 3) := by decide +kernel
theorem dX9_init_13 : decode cX9_init 13 = .ok (.aload_n 0, 1) := by decide +kernel
theorem dX9_init_14 : decode cX9_init 14 = .ok (.sipush 400, 3) := by decide +kernel
theorem dX9_init_17 : decode cX9_init 17 = .ok (.newarray .int, 2) := by decide +kernel
theorem dX9_init_19 : decode cX9_init 19 = .ok (.putfield 15, 3) := by decide +kernel
theorem dX9_init_22 : decode cX9_init 22 = .ok (.aload_n 0, 1) := by decide +kernel
theorem dX9_init_23 : decode cX9_init 23 = .ok (.bipush 12, 2) := by decide +kernel
theorem dX9_init_25 : decode cX9_init 25 = .ok (.newarray .int, 2) := by decide +kernel
theorem dX9_init_27 : decode cX9_init 27 = .ok (.putfield 19, 3) := by decide +kernel
theorem dX9_init_30 : decode cX9_init 30 = .ok (.aload_n 0, 1) := by decide +kernel
theorem dX9_init_31 : decode cX9_init 31 = .ok (.iconst (-1), 1) := by decide +kernel
theorem dX9_init_32 : decode cX9_init 32 = .ok (.putfield 22, 3) := by decide +kernel
theorem dX9_init_35 : decode cX9_init 35 = .ok (.return_, 1) := by decide +kernel
theorem dX9_hasRoom_0 : decode cX9_hasRoom 0 = .ok (.aload_n 0, 1) := by decide +kernel
theorem dX9_hasRoom_1 : decode cX9_hasRoom 1 = .ok (.getfield 26, 3) := by decide +kernel
theorem dX9_hasRoom_4 : decode cX9_hasRoom 4 = .ok (.bipush 20, 2) := by decide +kernel
theorem dX9_hasRoom_6 : decode cX9_hasRoom 6 = .ok (.iadd, 1) := by decide +kernel
theorem dX9_hasRoom_7 : decode cX9_hasRoom 7 = .ok (.sipush 400, 3) := by decide +kernel
theorem dX9_hasRoom_10 : decode cX9_hasRoom 10 = .ok (.if_icmp .gt 7, 3) := by decide +kernel
theorem dX9_hasRoom_13 : decode cX9_hasRoom 13 = .ok (.iconst 1, 1) := by decide +kernel
theorem dX9_hasRoom_14 : decode cX9_hasRoom 14 = .ok (.goto 4, 3) := by decide +kernel
theorem dX9_hasRoom_17 : decode cX9_hasRoom 17 = .ok (.iconst 0, 1) := by decide +kernel
theorem dX9_hasRoom_18 : decode cX9_hasRoom 18 = .ok (.ireturn, 1) := by decide +kernel
theorem dX9_append_0 : decode cX9_append 0 = .ok (.bipush 24, 2) := by decide +kernel
theorem dX9_append_2 : decode cX9_append 2 = .ok (.istore_n 2, 1) := by decide +kernel
theorem dX9_append_3 : decode cX9_append 3 = .ok (.iload_n 2, 1) := by decide +kernel
theorem dX9_append_4 : decode cX9_append 4 = .ok (.ifCond .lt 42, 3) := by decide +kernel
theorem dX9_append_7 : decode cX9_append 7 = .ok (.aload_n 0, 1) := by decide +kernel
theorem dX9_append_8 : decode cX9_append 8 = .ok (.getfield 26, 3) := by decide +kernel
theorem dX9_append_11 : decode cX9_append 11 = .ok (.sipush 400, 3) := by decide +kernel
theorem dX9_append_14 : decode cX9_append 14 = .ok (.if_icmp .ge 32, 3) := by decide +kernel
theorem dX9_append_17 : decode cX9_append 17 = .ok (.aload_n 0, 1) := by decide +kernel
theorem dX9_append_18 : decode cX9_append 18 = .ok (.getfield 11, 3) := by decide +kernel
theorem dX9_append_21 : decode cX9_append 21 = .ok (.aload_n 0, 1) := by decide +kernel
theorem dX9_append_22 : decode cX9_append 22 = .ok (.getfield 26, 3) := by decide +kernel
theorem dX9_append_25 : decode cX9_append 25 = .ok (.iload_n 1, 1) := by decide +kernel
theorem dX9_append_26 : decode cX9_append 26 = .ok (.iload_n 2, 1) := by decide +kernel
theorem dX9_append_27 : decode cX9_append 27 = .ok (.ishr, 1) := by decide +kernel
theorem dX9_append_28 : decode cX9_append 28 = .ok (.i2b, 1) := by decide +kernel
theorem dX9_append_29 : decode cX9_append 29 = .ok (.bastore, 1) := by decide +kernel
theorem dX9_append_30 : decode cX9_append 30 = .ok (.aload_n 0, 1) := by decide +kernel
theorem dX9_append_31 : decode cX9_append 31 = .ok (.dup, 1) := by decide +kernel
theorem dX9_append_32 : decode cX9_append 32 = .ok (.getfield 26, 3) := by decide +kernel
theorem dX9_append_35 : decode cX9_append 35 = .ok (.iconst 1, 1) := by decide +kernel
theorem dX9_append_36 : decode cX9_append 36 = .ok (.iadd, 1) := by decide +kernel
theorem dX9_append_37 : decode cX9_append 37 = .ok (.putfield 26, 3) := by decide +kernel
theorem dX9_append_40 : decode cX9_append 40 = .ok (.iinc 2 (-8), 3) := by decide +kernel
theorem dX9_append_43 : decode cX9_append 43 = .ok (.goto (-40), 3) := by decide +kernel
theorem dX9_append_46 : decode cX9_append 46 = .ok (.return_, 1) := by decide +kernel
theorem dX9_answer_0 : decode cX9_answer 0 = .ok (.aload_n 0, 1) := by decide +kernel
theorem dX9_answer_1 : decode cX9_answer 1 = .ok (.getfield 29, 3) := by decide +kernel
theorem dX9_answer_4 : decode cX9_answer 4 = .ok (.ifCond .ne 10, 3) := by decide +kernel
theorem dX9_answer_7 : decode cX9_answer 7 = .ok (.aload_n 0, 1) := by decide +kernel
theorem dX9_answer_8 : decode cX9_answer 8 = .ok (.getfield 32, 3) := by decide +kernel
theorem dX9_answer_11 : decode cX9_answer 11 = .ok (.goto 10, 3) := by decide +kernel
theorem dX9_answer_14 : decode cX9_answer 14 = .ok (.bipush (-10), 2) := by decide +kernel
theorem dX9_answer_16 : decode cX9_answer 16 = .ok (.aload_n 0, 1) := by decide +kernel
theorem dX9_answer_17 : decode cX9_answer 17 = .ok (.getfield 29, 3) := by decide +kernel
theorem dX9_answer_20 : decode cX9_answer 20 = .ok (.isub, 1) := by decide +kernel
theorem dX9_answer_21 : decode cX9_answer 21 = .ok (.ireturn, 1) := by decide +kernel
theorem dX9_read_0 : decode cX9_read 0 = .ok (.aload_n 0, 1) := by decide +kernel
theorem dX9_read_1 : decode cX9_read 1 = .ok (.iconst 0, 1) := by decide +kernel
theorem dX9_read_2 : decode cX9_read 2 = .ok (.putfield 35, 3) := by decide +kernel
theorem dX9_read_5 : decode cX9_read 5 = .ok (.aload_n 0, 1) := by decide +kernel
theorem dX9_read_6 : decode cX9_read 6 = .ok (.iconst 0, 1) := by decide +kernel
theorem dX9_read_7 : decode cX9_read 7 = .ok (.putfield 32, 3) := by decide +kernel
theorem dX9_read_10 : decode cX9_read 10 = .ok (.aload_n 0, 1) := by decide +kernel
theorem dX9_read_11 : decode cX9_read 11 = .ok (.iconst 0, 1) := by decide +kernel
theorem dX9_read_12 : decode cX9_read 12 = .ok (.putfield 38, 3) := by decide +kernel
theorem dX9_read_15 : decode cX9_read 15 = .ok (.aload_n 0, 1) := by decide +kernel
theorem dX9_read_16 : decode cX9_read 16 = .ok (.iconst 0, 1) := by decide +kernel
theorem dX9_read_17 : decode cX9_read 17 = .ok (.putfield 41, 3) := by decide +kernel
theorem dX9_read_20 : decode cX9_read 20 = .ok (.aload_n 0, 1) := by decide +kernel
theorem dX9_read_21 : decode cX9_read 21 = .ok (.iconst 0, 1) := by decide +kernel
theorem dX9_read_22 : decode cX9_read 22 = .ok (.putfield 26, 3) := by decide +kernel
theorem dX9_read_25 : decode cX9_read 25 = .ok (.aload_n 0, 1) := by decide +kernel
theorem dX9_read_26 : decode cX9_read 26 = .ok (.iconst 0, 1) := by decide +kernel
theorem dX9_read_27 : decode cX9_read 27 = .ok (.putfield 29, 3) := by decide +kernel
theorem dX9_read_30 : decode cX9_read 30 = .ok (.aload_n 0, 1) := by decide +kernel
theorem dX9_read_31 : decode cX9_read 31 = .ok (.iconst (-1), 1) := by decide +kernel
theorem dX9_read_32 : decode cX9_read 32 = .ok (.putfield 22, 3) := by decide +kernel
theorem dX9_read_35 : decode cX9_read 35 = .ok (.iconst 0, 1) := by decide +kernel
theorem dX9_read_36 : decode cX9_read 36 = .ok (.istore_n 3, 1) := by decide +kernel
theorem dX9_read_37 : decode cX9_read 37 = .ok (.iconst 0, 1) := by decide +kernel
theorem dX9_read_38 : decode cX9_read 38 = .ok (.istore 4, 2) := by decide +kernel
theorem dX9_read_40 : decode cX9_read 40 = .ok (.iload 4, 2) := by decide +kernel
theorem dX9_read_42 : decode cX9_read 42 = .ok (.sipush 400, 3) := by decide +kernel
theorem dX9_read_45 : decode cX9_read 45 = .ok (.if_icmp .gt 83, 3) := by decide +kernel
theorem dX9_read_48 : decode cX9_read 48 = .ok (.aload_n 0, 1) := by decide +kernel
theorem dX9_read_49 : decode cX9_read 49 = .ok (.iload_n 1, 1) := by decide +kernel
theorem dX9_read_50 : decode cX9_read 50 = .ok (.invokevirtual 44, 3) := by decide +kernel
theorem dX9_read_53 : decode cX9_read 53 = .ok (.istore 5, 2) := by decide +kernel
theorem dX9_read_55 : decode cX9_read 55 = .ok (.iload_n 2, 1) := by decide +kernel
theorem dX9_read_56 : decode cX9_read 56 = .ok (.ifCond .eq 12, 3) := by decide +kernel
theorem dX9_read_59 : decode cX9_read 59 = .ok (.iload_n 3, 1) := by decide +kernel
theorem dX9_read_60 : decode cX9_read 60 = .ok (.iload 5, 2) := by decide +kernel
theorem dX9_read_62 : decode cX9_read 62 = .ok (.invokestatic 48, 3) := by decide +kernel
theorem dX9_read_65 : decode cX9_read 65 = .ok (.goto 9, 3) := by decide +kernel
theorem dX9_read_68 : decode cX9_read 68 = .ok (.iload_n 3, 1) := by decide +kernel
theorem dX9_read_69 : decode cX9_read 69 = .ok (.iload 5, 2) := by decide +kernel
theorem dX9_read_71 : decode cX9_read 71 = .ok (.invokestatic 52, 3) := by decide +kernel
theorem dX9_read_74 : decode cX9_read 74 = .ok (.istore 6, 2) := by decide +kernel
theorem dX9_read_76 : decode cX9_read 76 = .ok (.aload_n 0, 1) := by decide +kernel
theorem dX9_read_77 : decode cX9_read 77 = .ok (.aload_n 0, 1) := by decide +kernel
theorem dX9_read_78 : decode cX9_read 78 = .ok (.iload 5, 2) := by decide +kernel
theorem dX9_read_80 : decode cX9_read 80 = .ok (.iload_n 3, 1) := by decide +kernel
theorem dX9_read_81 : decode cX9_read 81 = .ok (.iload 6, 2) := by decide +kernel
theorem dX9_read_83 : decode cX9_read 83 = .ok (.iload_n 2, 1) := by decide +kernel
theorem dX9_read_84 : decode cX9_read 84 = .ok (.invokevirtual 55, 3) := by decide +kernel
theorem dX9_read_87 : decode cX9_read 87 = .ok (.putfield 29, 3) := by decide +kernel
theorem dX9_read_90 : decode cX9_read 90 = .ok (.aload_n 0, 1) := by decide +kernel
theorem dX9_read_91 : decode cX9_read 91 = .ok (.getfield 29, 3) := by decide +kernel
theorem dX9_read_94 : decode cX9_read 94 = .ok (.ifCond .eq 12, 3) := by decide +kernel
theorem dX9_read_97 : decode cX9_read 97 = .ok (.aload_n 0, 1) := by decide +kernel
theorem dX9_read_98 : decode cX9_read 98 = .ok (.aload_n 0, 1) := by decide +kernel
theorem dX9_read_99 : decode cX9_read 99 = .ok (.getfield 59, 3) := by decide +kernel
theorem dX9_read_102 : decode cX9_read 102 = .ok (.putfield 22, 3) := by decide +kernel
theorem dX9_read_105 : decode cX9_read 105 = .ok (.return_, 1) := by decide +kernel
theorem dX9_read_106 : decode cX9_read 106 = .ok (.iload 5, 2) := by decide +kernel
theorem dX9_read_108 : decode cX9_read 108 = .ok (.ifCond .ne 4, 3) := by decide +kernel
theorem dX9_read_111 : decode cX9_read 111 = .ok (.return_, 1) := by decide +kernel
theorem dX9_read_112 : decode cX9_read 112 = .ok (.aload_n 0, 1) := by decide +kernel
theorem dX9_read_113 : decode cX9_read 113 = .ok (.iload 5, 2) := by decide +kernel
theorem dX9_read_115 : decode cX9_read 115 = .ok (.iload_n 3, 1) := by decide +kernel
theorem dX9_read_116 : decode cX9_read 116 = .ok (.invokevirtual 62, 3) := by decide +kernel
theorem dX9_read_119 : decode cX9_read 119 = .ok (.iload 6, 2) := by decide +kernel
theorem dX9_read_121 : decode cX9_read 121 = .ok (.istore_n 3, 1) := by decide +kernel
theorem dX9_read_122 : decode cX9_read 122 = .ok (.iinc 4 1, 3) := by decide +kernel
theorem dX9_read_125 : decode cX9_read 125 = .ok (.goto (-85), 3) := by decide +kernel
theorem dX9_read_128 : decode cX9_read 128 = .ok (.return_, 1) := by decide +kernel
theorem dX9_keepToken_0 : decode cX9_keepToken 0 = .ok (.iload_n 2, 1) := by decide +kernel
theorem dX9_keepToken_1 : decode cX9_keepToken 1 = .ok (.ifCond .ne 35, 3) := by decide +kernel
theorem dX9_keepToken_4 : decode cX9_keepToken 4 = .ok (.aload_n 0, 1) := by decide +kernel
theorem dX9_keepToken_5 : decode cX9_keepToken 5 = .ok (.getfield 32, 3) := by decide +kernel
theorem dX9_keepToken_8 : decode cX9_keepToken 8 = .ok (.bipush 12, 2) := by decide +kernel
theorem dX9_keepToken_10 : decode cX9_keepToken 10 = .ok (.if_icmp .ge 16, 3) := by decide +kernel
theorem dX9_keepToken_13 : decode cX9_keepToken 13 = .ok (.aload_n 0, 1) := by decide +kernel
theorem dX9_keepToken_14 : decode cX9_keepToken 14 = .ok (.getfield 19, 3) := by decide +kernel
theorem dX9_keepToken_17 : decode cX9_keepToken 17 = .ok (.aload_n 0, 1) := by decide +kernel
theorem dX9_keepToken_18 : decode cX9_keepToken 18 = .ok (.getfield 32, 3) := by decide +kernel
theorem dX9_keepToken_21 : decode cX9_keepToken 21 = .ok (.aload_n 0, 1) := by decide +kernel
theorem dX9_keepToken_22 : decode cX9_keepToken 22 = .ok (.getfield 35, 3) := by decide +kernel
theorem dX9_keepToken_25 : decode cX9_keepToken 25 = .ok (.iastore, 1) := by decide +kernel
theorem dX9_keepToken_26 : decode cX9_keepToken 26 = .ok (.aload_n 0, 1) := by decide +kernel
theorem dX9_keepToken_27 : decode cX9_keepToken 27 = .ok (.dup, 1) := by decide +kernel
theorem dX9_keepToken_28 : decode cX9_keepToken 28 = .ok (.getfield 32, 3) := by decide +kernel
theorem dX9_keepToken_31 : decode cX9_keepToken 31 = .ok (.iconst 1, 1) := by decide +kernel
theorem dX9_keepToken_32 : decode cX9_keepToken 32 = .ok (.iadd, 1) := by decide +kernel
theorem dX9_keepToken_33 : decode cX9_keepToken 33 = .ok (.putfield 32, 3) := by decide +kernel
theorem dX9_keepToken_36 : decode cX9_keepToken 36 = .ok (.aload_n 0, 1) := by decide +kernel
theorem dX9_keepToken_37 : decode cX9_keepToken 37 = .ok (.iload_n 1, 1) := by decide +kernel
theorem dX9_keepToken_38 : decode cX9_keepToken 38 = .ok (.bipush 109, 2) := by decide +kernel
theorem dX9_keepToken_40 : decode cX9_keepToken 40 = .ok (.if_icmp .ne 12, 3) := by decide +kernel
theorem dX9_keepToken_43 : decode cX9_keepToken 43 = .ok (.aload_n 0, 1) := by decide +kernel
theorem dX9_keepToken_44 : decode cX9_keepToken 44 = .ok (.getfield 41, 3) := by decide +kernel
theorem dX9_keepToken_47 : decode cX9_keepToken 47 = .ok (.iconst 1, 1) := by decide +kernel
theorem dX9_keepToken_48 : decode cX9_keepToken 48 = .ok (.iadd, 1) := by decide +kernel
theorem dX9_keepToken_49 : decode cX9_keepToken 49 = .ok (.goto 4, 3) := by decide +kernel
theorem dX9_keepToken_52 : decode cX9_keepToken 52 = .ok (.iconst 0, 1) := by decide +kernel
theorem dX9_keepToken_53 : decode cX9_keepToken 53 = .ok (.putfield 41, 3) := by decide +kernel
theorem dX9_keepToken_56 : decode cX9_keepToken 56 = .ok (.aload_n 0, 1) := by decide +kernel
theorem dX9_keepToken_57 : decode cX9_keepToken 57 = .ok (.getfield 35, 3) := by decide +kernel
theorem dX9_keepToken_60 : decode cX9_keepToken 60 = .ok (.sipush 400, 3) := by decide +kernel
theorem dX9_keepToken_63 : decode cX9_keepToken 63 = .ok (.if_icmp .ge 23, 3) := by decide +kernel
theorem dX9_keepToken_66 : decode cX9_keepToken 66 = .ok (.aload_n 0, 1) := by decide +kernel
theorem dX9_keepToken_67 : decode cX9_keepToken 67 = .ok (.getfield 15, 3) := by decide +kernel
theorem dX9_keepToken_70 : decode cX9_keepToken 70 = .ok (.aload_n 0, 1) := by decide +kernel
theorem dX9_keepToken_71 : decode cX9_keepToken 71 = .ok (.getfield 35, 3) := by decide +kernel
theorem dX9_keepToken_74 : decode cX9_keepToken 74 = .ok (.iload_n 1, 1) := by decide +kernel
theorem dX9_keepToken_75 : decode cX9_keepToken 75 = .ok (.iastore, 1) := by decide +kernel
theorem dX9_keepToken_76 : decode cX9_keepToken 76 = .ok (.aload_n 0, 1) := by decide +kernel
theorem dX9_keepToken_77 : decode cX9_keepToken 77 = .ok (.dup, 1) := by decide +kernel
theorem dX9_keepToken_78 : decode cX9_keepToken 78 = .ok (.getfield 35, 3) := by decide +kernel
theorem dX9_keepToken_81 : decode cX9_keepToken 81 = .ok (.iconst 1, 1) := by decide +kernel
theorem dX9_keepToken_82 : decode cX9_keepToken 82 = .ok (.iadd, 1) := by decide +kernel
theorem dX9_keepToken_83 : decode cX9_keepToken 83 = .ok (.putfield 35, 3) := by decide +kernel
theorem dX9_keepToken_86 : decode cX9_keepToken 86 = .ok (.return_, 1) := by decide +kernel
theorem dX9_faultOf_0 : decode cX9_faultOf 0 = .ok (.iload_n 1, 1) := by decide +kernel
theorem dX9_faultOf_1 : decode cX9_faultOf 1 = .ok (.bipush (-2), 2) := by decide +kernel
theorem dX9_faultOf_3 : decode cX9_faultOf 3 = .ok (.if_icmp .ne 5, 3) := by decide +kernel
theorem dX9_faultOf_6 : decode cX9_faultOf 6 = .ok (.iconst 1, 1) := by decide +kernel
theorem dX9_faultOf_7 : decode cX9_faultOf 7 = .ok (.ireturn, 1) := by decide +kernel
theorem dX9_faultOf_8 : decode cX9_faultOf 8 = .ok (.iload_n 3, 1) := by decide +kernel
theorem dX9_faultOf_9 : decode cX9_faultOf 9 = .ok (.iconst (-1), 1) := by decide +kernel
theorem dX9_faultOf_10 : decode cX9_faultOf 10 = .ok (.if_icmp .ne 5, 3) := by decide +kernel
theorem dX9_faultOf_13 : decode cX9_faultOf 13 = .ok (.iconst 2, 1) := by decide +kernel
theorem dX9_faultOf_14 : decode cX9_faultOf 14 = .ok (.ireturn, 1) := by decide +kernel
theorem dX9_faultOf_15 : decode cX9_faultOf 15 = .ok (.iload_n 2, 1) := by decide +kernel
theorem dX9_faultOf_16 : decode cX9_faultOf 16 = .ok (.bipush 8, 2) := by decide +kernel
theorem dX9_faultOf_18 : decode cX9_faultOf 18 = .ok (.if_icmp .ne 10, 3) := by decide +kernel
theorem dX9_faultOf_21 : decode cX9_faultOf 21 = .ok (.iload_n 1, 1) := by decide +kernel
theorem dX9_faultOf_22 : decode cX9_faultOf 22 = .ok (.sipush 200, 3) := by decide +kernel
theorem dX9_faultOf_25 : decode cX9_faultOf 25 = .ok (.if_icmp .eq 16, 3) := by decide +kernel
theorem dX9_faultOf_28 : decode cX9_faultOf 28 = .ok (.iload_n 2, 1) := by decide +kernel
theorem dX9_faultOf_29 : decode cX9_faultOf 29 = .ok (.bipush 9, 2) := by decide +kernel
theorem dX9_faultOf_31 : decode cX9_faultOf 31 = .ok (.if_icmp .ne 12, 3) := by decide +kernel
theorem dX9_faultOf_34 : decode cX9_faultOf 34 = .ok (.iload_n 1, 1) := by decide +kernel
theorem dX9_faultOf_35 : decode cX9_faultOf 35 = .ok (.sipush 223, 3) := by decide +kernel
theorem dX9_faultOf_38 : decode cX9_faultOf 38 = .ok (.if_icmp .le 5, 3) := by decide +kernel
theorem dX9_faultOf_41 : decode cX9_faultOf 41 = .ok (.iconst 3, 1) := by decide +kernel
theorem dX9_faultOf_42 : decode cX9_faultOf 42 = .ok (.ireturn, 1) := by decide +kernel
theorem dX9_faultOf_43 : decode cX9_faultOf 43 = .ok (.iload 4, 2) := by decide +kernel
theorem dX9_faultOf_45 : decode cX9_faultOf 45 = .ok (.ifCond .eq 24, 3) := by decide +kernel
theorem dX9_faultOf_48 : decode cX9_faultOf 48 = .ok (.iload_n 2, 1) := by decide +kernel
theorem dX9_faultOf_49 : decode cX9_faultOf 49 = .ok (.ifCond .ne 20, 3) := by decide +kernel
theorem dX9_faultOf_52 : decode cX9_faultOf 52 = .ok (.iload_n 1, 1) := by decide +kernel
theorem dX9_faultOf_53 : decode cX9_faultOf 53 = .ok (.ifCond .eq 16, 3) := by decide +kernel
theorem dX9_faultOf_56 : decode cX9_faultOf 56 = .ok (.aload_n 0, 1) := by decide +kernel
theorem dX9_faultOf_57 : decode cX9_faultOf 57 = .ok (.getfield 32, 3) := by decide +kernel
theorem dX9_faultOf_60 : decode cX9_faultOf 60 = .ok (.bipush 12, 2) := by decide +kernel
theorem dX9_faultOf_62 : decode cX9_faultOf 62 = .ok (.if_icmp .ne 7, 3) := by decide +kernel
theorem dX9_faultOf_65 : decode cX9_faultOf 65 = .ok (.iconst 1, 1) := by decide +kernel
theorem dX9_faultOf_66 : decode cX9_faultOf 66 = .ok (.goto 4, 3) := by decide +kernel
theorem dX9_faultOf_69 : decode cX9_faultOf 69 = .ok (.iconst 0, 1) := by decide +kernel
theorem dX9_faultOf_70 : decode cX9_faultOf 70 = .ok (.istore 5, 2) := by decide +kernel
theorem dX9_faultOf_72 : decode cX9_faultOf 72 = .ok (.iload_n 1, 1) := by decide +kernel
theorem dX9_faultOf_73 : decode cX9_faultOf 73 = .ok (.bipush 109, 2) := by decide +kernel
theorem dX9_faultOf_75 : decode cX9_faultOf 75 = .ok (.if_icmp .ne 15, 3) := by decide +kernel
theorem dX9_faultOf_78 : decode cX9_faultOf 78 = .ok (.aload_n 0, 1) := by decide +kernel
theorem dX9_faultOf_79 : decode cX9_faultOf 79 = .ok (.getfield 41, 3) := by decide +kernel
theorem dX9_faultOf_82 : decode cX9_faultOf 82 = .ok (.iconst 4, 1) := by decide +kernel
theorem dX9_faultOf_83 : decode cX9_faultOf 83 = .ok (.if_icmp .ne 7, 3) := by decide +kernel
theorem dX9_faultOf_86 : decode cX9_faultOf 86 = .ok (.iconst 1, 1) := by decide +kernel
theorem dX9_faultOf_87 : decode cX9_faultOf 87 = .ok (.goto 4, 3) := by decide +kernel
theorem dX9_faultOf_90 : decode cX9_faultOf 90 = .ok (.iconst 0, 1) := by decide +kernel
theorem dX9_faultOf_91 : decode cX9_faultOf 91 = .ok (.istore 6, 2) := by decide +kernel
theorem dX9_faultOf_93 : decode cX9_faultOf 93 = .ok (.iload 5, 2) := by decide +kernel
theorem dX9_faultOf_95 : decode cX9_faultOf 95 = .ok (.ifCond .ne 8, 3) := by decide +kernel
theorem dX9_faultOf_98 : decode cX9_faultOf 98 = .ok (.iload 6, 2) := by decide +kernel
theorem dX9_faultOf_100 : decode cX9_faultOf 100 = .ok (.ifCond .eq 7, 3) := by decide +kernel
theorem dX9_faultOf_103 : decode cX9_faultOf 103 = .ok (.iconst 4, 1) := by decide +kernel
theorem dX9_faultOf_104 : decode cX9_faultOf 104 = .ok (.goto 4, 3) := by decide +kernel
theorem dX9_faultOf_107 : decode cX9_faultOf 107 = .ok (.iconst 0, 1) := by decide +kernel
theorem dX9_faultOf_108 : decode cX9_faultOf 108 = .ok (.ireturn, 1) := by decide +kernel
theorem dX9_behindInRules_0 : decode cX9_behindInRules 0 = .ok (.iload_n 0, 1) := by decide +kernel
theorem dX9_behindInRules_1 : decode cX9_behindInRules 1 = .ok (.tableswitch 234 0 7 #[47, 84, 97, 119, 142, 155, 180, 194], 47) := by decide +kernel
theorem dX9_behindInRules_48 : decode cX9_behindInRules 48 = .ok (.iload_n 1, 1) := by decide +kernel
theorem dX9_behindInRules_49 : decode cX9_behindInRules 49 = .ok (.ifCond .ne 7, 3) := by decide +kernel
theorem dX9_behindInRules_52 : decode cX9_behindInRules 52 = .ok (.iconst 0, 1) := by decide +kernel
theorem dX9_behindInRules_53 : decode cX9_behindInRules 53 = .ok (.goto 31, 3) := by decide +kernel
theorem dX9_behindInRules_56 : decode cX9_behindInRules 56 = .ok (.iload_n 1, 1) := by decide +kernel
theorem dX9_behindInRules_57 : decode cX9_behindInRules 57 = .ok (.invokestatic 66, 3) := by decide +kernel
theorem dX9_behindInRules_60 : decode cX9_behindInRules 60 = .ok (.ifCond .eq 7, 3) := by decide +kernel
theorem dX9_behindInRules_63 : decode cX9_behindInRules 63 = .ok (.iconst 1, 1) := by decide +kernel
theorem dX9_behindInRules_64 : decode cX9_behindInRules 64 = .ok (.goto 20, 3) := by decide +kernel
theorem dX9_behindInRules_67 : decode cX9_behindInRules 67 = .ok (.iload_n 1, 1) := by decide +kernel
theorem dX9_behindInRules_68 : decode cX9_behindInRules 68 = .ok (.bipush 104, 2) := by decide +kernel
theorem dX9_behindInRules_70 : decode cX9_behindInRules 70 = .ok (.if_icmp .eq 9, 3) := by decide +kernel
theorem dX9_behindInRules_73 : decode cX9_behindInRules 73 = .ok (.iload_n 1, 1) := by decide +kernel
theorem dX9_behindInRules_74 : decode cX9_behindInRules 74 = .ok (.bipush 105, 2) := by decide +kernel
theorem dX9_behindInRules_76 : decode cX9_behindInRules 76 = .ok (.if_icmp .ne 7, 3) := by decide +kernel
theorem dX9_behindInRules_79 : decode cX9_behindInRules 79 = .ok (.iconst 2, 1) := by decide +kernel
theorem dX9_behindInRules_80 : decode cX9_behindInRules 80 = .ok (.goto 4, 3) := by decide +kernel
theorem dX9_behindInRules_83 : decode cX9_behindInRules 83 = .ok (.iconst (-1), 1) := by decide +kernel
theorem dX9_behindInRules_84 : decode cX9_behindInRules 84 = .ok (.ireturn, 1) := by decide +kernel
theorem dX9_behindInRules_85 : decode cX9_behindInRules 85 = .ok (.iload_n 1, 1) := by decide +kernel
theorem dX9_behindInRules_86 : decode cX9_behindInRules 86 = .ok (.sipush 200, 3) := by decide +kernel
theorem dX9_behindInRules_89 : decode cX9_behindInRules 89 = .ok (.if_icmp .lt 7, 3) := by decide +kernel
theorem dX9_behindInRules_92 : decode cX9_behindInRules 92 = .ok (.iconst 2, 1) := by decide +kernel
theorem dX9_behindInRules_93 : decode cX9_behindInRules 93 = .ok (.goto 4, 3) := by decide +kernel
theorem dX9_behindInRules_96 : decode cX9_behindInRules 96 = .ok (.iconst (-1), 1) := by decide +kernel
theorem dX9_behindInRules_97 : decode cX9_behindInRules 97 = .ok (.ireturn, 1) := by decide +kernel
theorem dX9_behindInRules_98 : decode cX9_behindInRules 98 = .ok (.iload_n 1, 1) := by decide +kernel
theorem dX9_behindInRules_99 : decode cX9_behindInRules 99 = .ok (.bipush 106, 2) := by decide +kernel
theorem dX9_behindInRules_101 : decode cX9_behindInRules 101 = .ok (.if_icmp .ne 7, 3) := by decide +kernel
theorem dX9_behindInRules_104 : decode cX9_behindInRules 104 = .ok (.iconst 3, 1) := by decide +kernel
theorem dX9_behindInRules_105 : decode cX9_behindInRules 105 = .ok (.goto 14, 3) := by decide +kernel
theorem dX9_behindInRules_108 : decode cX9_behindInRules 108 = .ok (.iload_n 1, 1) := by decide +kernel
theorem dX9_behindInRules_109 : decode cX9_behindInRules 109 = .ok (.bipush 59, 2) := by decide +kernel
theorem dX9_behindInRules_111 : decode cX9_behindInRules 111 = .ok (.if_icmp .ne 7, 3) := by decide +kernel
theorem dX9_behindInRules_114 : decode cX9_behindInRules 114 = .ok (.iconst 0, 1) := by decide +kernel
theorem dX9_behindInRules_115 : decode cX9_behindInRules 115 = .ok (.goto 4, 3) := by decide +kernel
theorem dX9_behindInRules_118 : decode cX9_behindInRules 118 = .ok (.iconst (-1), 1) := by decide +kernel
theorem dX9_behindInRules_119 : decode cX9_behindInRules 119 = .ok (.ireturn, 1) := by decide +kernel
theorem dX9_behindInRules_120 : decode cX9_behindInRules 120 = .ok (.iload_n 1, 1) := by decide +kernel
theorem dX9_behindInRules_121 : decode cX9_behindInRules 121 = .ok (.bipush 109, 2) := by decide +kernel
theorem dX9_behindInRules_123 : decode cX9_behindInRules 123 = .ok (.if_icmp .ne 7, 3) := by decide +kernel
theorem dX9_behindInRules_126 : decode cX9_behindInRules 126 = .ok (.iconst 3, 1) := by decide +kernel
theorem dX9_behindInRules_127 : decode cX9_behindInRules 127 = .ok (.goto 15, 3) := by decide +kernel
theorem dX9_behindInRules_130 : decode cX9_behindInRules 130 = .ok (.iload_n 1, 1) := by decide +kernel
theorem dX9_behindInRules_131 : decode cX9_behindInRules 131 = .ok (.invokestatic 70, 3) := by decide +kernel
theorem dX9_behindInRules_134 : decode cX9_behindInRules 134 = .ok (.ifCond .eq 7, 3) := by decide +kernel
theorem dX9_behindInRules_137 : decode cX9_behindInRules 137 = .ok (.iconst 5, 1) := by decide +kernel
theorem dX9_behindInRules_138 : decode cX9_behindInRules 138 = .ok (.goto 4, 3) := by decide +kernel
theorem dX9_behindInRules_141 : decode cX9_behindInRules 141 = .ok (.iconst (-1), 1) := by decide +kernel
theorem dX9_behindInRules_142 : decode cX9_behindInRules 142 = .ok (.ireturn, 1) := by decide +kernel
theorem dX9_behindInRules_143 : decode cX9_behindInRules 143 = .ok (.iload_n 1, 1) := by decide +kernel
theorem dX9_behindInRules_144 : decode cX9_behindInRules 144 = .ok (.invokestatic 70, 3) := by decide +kernel
theorem dX9_behindInRules_147 : decode cX9_behindInRules 147 = .ok (.ifCond .eq 7, 3) := by decide +kernel
theorem dX9_behindInRules_150 : decode cX9_behindInRules 150 = .ok (.iconst 5, 1) := by decide +kernel
theorem dX9_behindInRules_151 : decode cX9_behindInRules 151 = .ok (.goto 4, 3) := by decide +kernel
theorem dX9_behindInRules_154 : decode cX9_behindInRules 154 = .ok (.iconst (-1), 1) := by decide +kernel
theorem dX9_behindInRules_155 : decode cX9_behindInRules 155 = .ok (.ireturn, 1) := by decide +kernel
theorem dX9_behindInRules_156 : decode cX9_behindInRules 156 = .ok (.iload_n 1, 1) := by decide +kernel
theorem dX9_behindInRules_157 : decode cX9_behindInRules 157 = .ok (.invokestatic 73, 3) := by decide +kernel
theorem dX9_behindInRules_160 : decode cX9_behindInRules 160 = .ok (.ifCond .eq 7, 3) := by decide +kernel
theorem dX9_behindInRules_163 : decode cX9_behindInRules 163 = .ok (.iconst 4, 1) := by decide +kernel
theorem dX9_behindInRules_164 : decode cX9_behindInRules 164 = .ok (.goto 16, 3) := by decide +kernel
theorem dX9_behindInRules_167 : decode cX9_behindInRules 167 = .ok (.iload_n 1, 1) := by decide +kernel
theorem dX9_behindInRules_168 : decode cX9_behindInRules 168 = .ok (.invokestatic 76, 3) := by decide +kernel
theorem dX9_behindInRules_171 : decode cX9_behindInRules 171 = .ok (.ifCond .eq 8, 3) := by decide +kernel
theorem dX9_behindInRules_174 : decode cX9_behindInRules 174 = .ok (.bipush 6, 2) := by decide +kernel
theorem dX9_behindInRules_176 : decode cX9_behindInRules 176 = .ok (.goto 4, 3) := by decide +kernel
theorem dX9_behindInRules_179 : decode cX9_behindInRules 179 = .ok (.iconst (-1), 1) := by decide +kernel
theorem dX9_behindInRules_180 : decode cX9_behindInRules 180 = .ok (.ireturn, 1) := by decide +kernel
theorem dX9_behindInRules_181 : decode cX9_behindInRules 181 = .ok (.iload_n 1, 1) := by decide +kernel
theorem dX9_behindInRules_182 : decode cX9_behindInRules 182 = .ok (.invokestatic 70, 3) := by decide +kernel
theorem dX9_behindInRules_185 : decode cX9_behindInRules 185 = .ok (.ifCond .eq 8, 3) := by decide +kernel
theorem dX9_behindInRules_188 : decode cX9_behindInRules 188 = .ok (.bipush 7, 2) := by decide +kernel
theorem dX9_behindInRules_190 : decode cX9_behindInRules 190 = .ok (.goto 4, 3) := by decide +kernel
theorem dX9_behindInRules_193 : decode cX9_behindInRules 193 = .ok (.iconst (-1), 1) := by decide +kernel
theorem dX9_behindInRules_194 : decode cX9_behindInRules 194 = .ok (.ireturn, 1) := by decide +kernel
theorem dX9_behindInRules_195 : decode cX9_behindInRules 195 = .ok (.iload_n 1, 1) := by decide +kernel
theorem dX9_behindInRules_196 : decode cX9_behindInRules 196 = .ok (.invokestatic 73, 3) := by decide +kernel
theorem dX9_behindInRules_199 : decode cX9_behindInRules 199 = .ok (.ifCond .eq 8, 3) := by decide +kernel
theorem dX9_behindInRules_202 : decode cX9_behindInRules 202 = .ok (.bipush 6, 2) := by decide +kernel
theorem dX9_behindInRules_204 : decode cX9_behindInRules 204 = .ok (.goto 30, 3) := by decide +kernel
theorem dX9_behindInRules_207 : decode cX9_behindInRules 207 = .ok (.iload_n 1, 1) := by decide +kernel
theorem dX9_behindInRules_208 : decode cX9_behindInRules 208 = .ok (.bipush 108, 2) := by decide +kernel
theorem dX9_behindInRules_210 : decode cX9_behindInRules 210 = .ok (.if_icmp .eq 9, 3) := by decide +kernel
theorem dX9_behindInRules_213 : decode cX9_behindInRules 213 = .ok (.iload_n 1, 1) := by decide +kernel
theorem dX9_behindInRules_214 : decode cX9_behindInRules 214 = .ok (.bipush 107, 2) := by decide +kernel
theorem dX9_behindInRules_216 : decode cX9_behindInRules 216 = .ok (.if_icmp .ne 7, 3) := by decide +kernel
theorem dX9_behindInRules_219 : decode cX9_behindInRules 219 = .ok (.iconst 3, 1) := by decide +kernel
theorem dX9_behindInRules_220 : decode cX9_behindInRules 220 = .ok (.goto 14, 3) := by decide +kernel
theorem dX9_behindInRules_223 : decode cX9_behindInRules 223 = .ok (.iload_n 1, 1) := by decide +kernel
theorem dX9_behindInRules_224 : decode cX9_behindInRules 224 = .ok (.bipush 59, 2) := by decide +kernel
theorem dX9_behindInRules_226 : decode cX9_behindInRules 226 = .ok (.if_icmp .ne 7, 3) := by decide +kernel
theorem dX9_behindInRules_229 : decode cX9_behindInRules 229 = .ok (.iconst 0, 1) := by decide +kernel
theorem dX9_behindInRules_230 : decode cX9_behindInRules 230 = .ok (.goto 4, 3) := by decide +kernel
theorem dX9_behindInRules_233 : decode cX9_behindInRules 233 = .ok (.iconst (-1), 1) := by decide +kernel
theorem dX9_behindInRules_234 : decode cX9_behindInRules 234 = .ok (.ireturn, 1) := by decide +kernel
theorem dX9_behindInRules_235 : decode cX9_behindInRules 235 = .ok (.iconst (-1), 1) := by decide +kernel
theorem dX9_behindInRules_236 : decode cX9_behindInRules 236 = .ok (.ireturn, 1) := by decide +kernel
theorem dX9_behindInLaw_0 : decode cX9_behindInLaw 0 = .ok (.iload_n 0, 1) := by decide +kernel
theorem dX9_behindInLaw_1 : decode cX9_behindInLaw 1 = .ok (.tableswitch 144 0 10 #[59, 118, 144, 144, 144, 144, 144, 144, 118, 118, 132], 59) := by decide +kernel
theorem dX9_behindInLaw_60 : decode cX9_behindInLaw 60 = .ok (.iload_n 1, 1) := by decide +kernel
theorem dX9_behindInLaw_61 : decode cX9_behindInLaw 61 = .ok (.ifCond .ne 7, 3) := by decide +kernel
theorem dX9_behindInLaw_64 : decode cX9_behindInLaw 64 = .ok (.iconst 0, 1) := by decide +kernel
theorem dX9_behindInLaw_65 : decode cX9_behindInLaw 65 = .ok (.goto 53, 3) := by decide +kernel
theorem dX9_behindInLaw_68 : decode cX9_behindInLaw 68 = .ok (.iload_n 1, 1) := by decide +kernel
theorem dX9_behindInLaw_69 : decode cX9_behindInLaw 69 = .ok (.bipush 119, 2) := by decide +kernel
theorem dX9_behindInLaw_71 : decode cX9_behindInLaw 71 = .ok (.if_icmp .ne 8, 3) := by decide +kernel
theorem dX9_behindInLaw_74 : decode cX9_behindInLaw 74 = .ok (.bipush 8, 2) := by decide +kernel
theorem dX9_behindInLaw_76 : decode cX9_behindInLaw 76 = .ok (.goto 42, 3) := by decide +kernel
theorem dX9_behindInLaw_79 : decode cX9_behindInLaw 79 = .ok (.iload_n 1, 1) := by decide +kernel
theorem dX9_behindInLaw_80 : decode cX9_behindInLaw 80 = .ok (.bipush 120, 2) := by decide +kernel
theorem dX9_behindInLaw_82 : decode cX9_behindInLaw 82 = .ok (.if_icmp .ne 8, 3) := by decide +kernel
theorem dX9_behindInLaw_85 : decode cX9_behindInLaw 85 = .ok (.bipush 9, 2) := by decide +kernel
theorem dX9_behindInLaw_87 : decode cX9_behindInLaw 87 = .ok (.goto 31, 3) := by decide +kernel
theorem dX9_behindInLaw_90 : decode cX9_behindInLaw 90 = .ok (.iload_n 1, 1) := by decide +kernel
theorem dX9_behindInLaw_91 : decode cX9_behindInLaw 91 = .ok (.bipush 121, 2) := by decide +kernel
theorem dX9_behindInLaw_93 : decode cX9_behindInLaw 93 = .ok (.if_icmp .ne 7, 3) := by decide +kernel
theorem dX9_behindInLaw_96 : decode cX9_behindInLaw 96 = .ok (.iconst 1, 1) := by decide +kernel
theorem dX9_behindInLaw_97 : decode cX9_behindInLaw 97 = .ok (.goto 21, 3) := by decide +kernel
theorem dX9_behindInLaw_100 : decode cX9_behindInLaw 100 = .ok (.iload_n 1, 1) := by decide +kernel
theorem dX9_behindInLaw_101 : decode cX9_behindInLaw 101 = .ok (.bipush 122, 2) := by decide +kernel
theorem dX9_behindInLaw_103 : decode cX9_behindInLaw 103 = .ok (.if_icmp .eq 9, 3) := by decide +kernel
theorem dX9_behindInLaw_106 : decode cX9_behindInLaw 106 = .ok (.iload_n 1, 1) := by decide +kernel
theorem dX9_behindInLaw_107 : decode cX9_behindInLaw 107 = .ok (.bipush 113, 2) := by decide +kernel
theorem dX9_behindInLaw_109 : decode cX9_behindInLaw 109 = .ok (.if_icmp .ne 8, 3) := by decide +kernel
theorem dX9_behindInLaw_112 : decode cX9_behindInLaw 112 = .ok (.bipush 10, 2) := by decide +kernel
theorem dX9_behindInLaw_114 : decode cX9_behindInLaw 114 = .ok (.goto 4, 3) := by decide +kernel
theorem dX9_behindInLaw_117 : decode cX9_behindInLaw 117 = .ok (.iconst (-1), 1) := by decide +kernel
theorem dX9_behindInLaw_118 : decode cX9_behindInLaw 118 = .ok (.ireturn, 1) := by decide +kernel
theorem dX9_behindInLaw_119 : decode cX9_behindInLaw 119 = .ok (.iload_n 1, 1) := by decide +kernel
theorem dX9_behindInLaw_120 : decode cX9_behindInLaw 120 = .ok (.sipush 200, 3) := by decide +kernel
theorem dX9_behindInLaw_123 : decode cX9_behindInLaw 123 = .ok (.if_icmp .lt 8, 3) := by decide +kernel
theorem dX9_behindInLaw_126 : decode cX9_behindInLaw 126 = .ok (.bipush 10, 2) := by decide +kernel
theorem dX9_behindInLaw_128 : decode cX9_behindInLaw 128 = .ok (.goto 4, 3) := by decide +kernel
theorem dX9_behindInLaw_131 : decode cX9_behindInLaw 131 = .ok (.iconst (-1), 1) := by decide +kernel
theorem dX9_behindInLaw_132 : decode cX9_behindInLaw 132 = .ok (.ireturn, 1) := by decide +kernel
theorem dX9_behindInLaw_133 : decode cX9_behindInLaw 133 = .ok (.iload_n 1, 1) := by decide +kernel
theorem dX9_behindInLaw_134 : decode cX9_behindInLaw 134 = .ok (.bipush 59, 2) := by decide +kernel
theorem dX9_behindInLaw_136 : decode cX9_behindInLaw 136 = .ok (.if_icmp .ne 7, 3) := by decide +kernel
theorem dX9_behindInLaw_139 : decode cX9_behindInLaw 139 = .ok (.iconst 0, 1) := by decide +kernel
theorem dX9_behindInLaw_140 : decode cX9_behindInLaw 140 = .ok (.goto 4, 3) := by decide +kernel
theorem dX9_behindInLaw_143 : decode cX9_behindInLaw 143 = .ok (.iconst (-1), 1) := by decide +kernel
theorem dX9_behindInLaw_144 : decode cX9_behindInLaw 144 = .ok (.ireturn, 1) := by decide +kernel
theorem dX9_behindInLaw_145 : decode cX9_behindInLaw 145 = .ok (.iconst (-1), 1) := by decide +kernel
theorem dX9_behindInLaw_146 : decode cX9_behindInLaw 146 = .ok (.ireturn, 1) := by decide +kernel
theorem dX9_takesAmount_0 : decode cX9_takesAmount 0 = .ok (.iload_n 0, 1) := by decide +kernel
theorem dX9_takesAmount_1 : decode cX9_takesAmount 1 = .ok (.bipush 100, 2) := by decide +kernel
theorem dX9_takesAmount_3 : decode cX9_takesAmount 3 = .ok (.if_icmp .lt 13, 3) := by decide +kernel
theorem dX9_takesAmount_6 : decode cX9_takesAmount 6 = .ok (.iload_n 0, 1) := by decide +kernel
theorem dX9_takesAmount_7 : decode cX9_takesAmount 7 = .ok (.bipush 103, 2) := by decide +kernel
theorem dX9_takesAmount_9 : decode cX9_takesAmount 9 = .ok (.if_icmp .gt 7, 3) := by decide +kernel
theorem dX9_takesAmount_12 : decode cX9_takesAmount 12 = .ok (.iconst 1, 1) := by decide +kernel
theorem dX9_takesAmount_13 : decode cX9_takesAmount 13 = .ok (.goto 4, 3) := by decide +kernel
theorem dX9_takesAmount_16 : decode cX9_takesAmount 16 = .ok (.iconst 0, 1) := by decide +kernel
theorem dX9_takesAmount_17 : decode cX9_takesAmount 17 = .ok (.ireturn, 1) := by decide +kernel
theorem dX9_isTerm_0 : decode cX9_isTerm 0 = .ok (.iload_n 0, 1) := by decide +kernel
theorem dX9_isTerm_1 : decode cX9_isTerm 1 = .ok (.sipush 200, 3) := by decide +kernel
theorem dX9_isTerm_4 : decode cX9_isTerm 4 = .ok (.if_icmp .ge 15, 3) := by decide +kernel
theorem dX9_isTerm_7 : decode cX9_isTerm 7 = .ok (.iload_n 0, 1) := by decide +kernel
theorem dX9_isTerm_8 : decode cX9_isTerm 8 = .ok (.bipush 110, 2) := by decide +kernel
theorem dX9_isTerm_10 : decode cX9_isTerm 10 = .ok (.if_icmp .lt 13, 3) := by decide +kernel
theorem dX9_isTerm_13 : decode cX9_isTerm 13 = .ok (.iload_n 0, 1) := by decide +kernel
theorem dX9_isTerm_14 : decode cX9_isTerm 14 = .ok (.bipush 118, 2) := by decide +kernel
theorem dX9_isTerm_16 : decode cX9_isTerm 16 = .ok (.if_icmp .gt 7, 3) := by decide +kernel
theorem dX9_isTerm_19 : decode cX9_isTerm 19 = .ok (.iconst 1, 1) := by decide +kernel
theorem dX9_isTerm_20 : decode cX9_isTerm 20 = .ok (.goto 4, 3) := by decide +kernel
theorem dX9_isTerm_23 : decode cX9_isTerm 23 = .ok (.iconst 0, 1) := by decide +kernel
theorem dX9_isTerm_24 : decode cX9_isTerm 24 = .ok (.ireturn, 1) := by decide +kernel
theorem dX9_isPlusOrMinus_0 : decode cX9_isPlusOrMinus 0 = .ok (.iload_n 0, 1) := by decide +kernel
theorem dX9_isPlusOrMinus_1 : decode cX9_isPlusOrMinus 1 = .ok (.bipush 43, 2) := by decide +kernel
theorem dX9_isPlusOrMinus_3 : decode cX9_isPlusOrMinus 3 = .ok (.if_icmp .eq 9, 3) := by decide +kernel
theorem dX9_isPlusOrMinus_6 : decode cX9_isPlusOrMinus 6 = .ok (.iload_n 0, 1) := by decide +kernel
theorem dX9_isPlusOrMinus_7 : decode cX9_isPlusOrMinus 7 = .ok (.bipush 45, 2) := by decide +kernel
theorem dX9_isPlusOrMinus_9 : decode cX9_isPlusOrMinus 9 = .ok (.if_icmp .ne 7, 3) := by decide +kernel
theorem dX9_isPlusOrMinus_12 : decode cX9_isPlusOrMinus 12 = .ok (.iconst 1, 1) := by decide +kernel
theorem dX9_isPlusOrMinus_13 : decode cX9_isPlusOrMinus 13 = .ok (.goto 4, 3) := by decide +kernel
theorem dX9_isPlusOrMinus_16 : decode cX9_isPlusOrMinus 16 = .ok (.iconst 0, 1) := by decide +kernel
theorem dX9_isPlusOrMinus_17 : decode cX9_isPlusOrMinus 17 = .ok (.ireturn, 1) := by decide +kernel
theorem dX9_isRelation_0 : decode cX9_isRelation 0 = .ok (.iload_n 0, 1) := by decide +kernel
theorem dX9_isRelation_1 : decode cX9_isRelation 1 = .ok (.bipush 60, 2) := by decide +kernel
theorem dX9_isRelation_3 : decode cX9_isRelation 3 = .ok (.if_icmp .eq 15, 3) := by decide +kernel
theorem dX9_isRelation_6 : decode cX9_isRelation 6 = .ok (.iload_n 0, 1) := by decide +kernel
theorem dX9_isRelation_7 : decode cX9_isRelation 7 = .ok (.bipush 61, 2) := by decide +kernel
theorem dX9_isRelation_9 : decode cX9_isRelation 9 = .ok (.if_icmp .eq 9, 3) := by decide +kernel
theorem dX9_isRelation_12 : decode cX9_isRelation 12 = .ok (.iload_n 0, 1) := by decide +kernel
theorem dX9_isRelation_13 : decode cX9_isRelation 13 = .ok (.bipush 62, 2) := by decide +kernel
theorem dX9_isRelation_15 : decode cX9_isRelation 15 = .ok (.if_icmp .ne 7, 3) := by decide +kernel
theorem dX9_isRelation_18 : decode cX9_isRelation 18 = .ok (.iconst 1, 1) := by decide +kernel
theorem dX9_isRelation_19 : decode cX9_isRelation 19 = .ok (.goto 4, 3) := by decide +kernel
theorem dX9_isRelation_22 : decode cX9_isRelation 22 = .ok (.iconst 0, 1) := by decide +kernel
theorem dX9_isRelation_23 : decode cX9_isRelation 23 = .ok (.ireturn, 1) := by decide +kernel
theorem dX9_nextToken_0 : decode cX9_nextToken 0 = .ok (.aload_n 0, 1) := by decide +kernel
theorem dX9_nextToken_1 : decode cX9_nextToken 1 = .ok (.aload_n 0, 1) := by decide +kernel
theorem dX9_nextToken_2 : decode cX9_nextToken 2 = .ok (.getfield 38, 3) := by decide +kernel
theorem dX9_nextToken_5 : decode cX9_nextToken 5 = .ok (.putfield 59, 3) := by decide +kernel
theorem dX9_nextToken_8 : decode cX9_nextToken 8 = .ok (.aload_n 0, 1) := by decide +kernel
theorem dX9_nextToken_9 : decode cX9_nextToken 9 = .ok (.getfield 59, 3) := by decide +kernel
theorem dX9_nextToken_12 : decode cX9_nextToken 12 = .ok (.iload_n 1, 1) := by decide +kernel
theorem dX9_nextToken_13 : decode cX9_nextToken 13 = .ok (.if_icmp .ge 44, 3) := by decide +kernel
theorem dX9_nextToken_16 : decode cX9_nextToken 16 = .ok (.aload_n 0, 1) := by decide +kernel
theorem dX9_nextToken_17 : decode cX9_nextToken 17 = .ok (.getfield 11, 3) := by decide +kernel
theorem dX9_nextToken_20 : decode cX9_nextToken 20 = .ok (.aload_n 0, 1) := by decide +kernel
theorem dX9_nextToken_21 : decode cX9_nextToken 21 = .ok (.getfield 59, 3) := by decide +kernel
theorem dX9_nextToken_24 : decode cX9_nextToken 24 = .ok (.baload, 1) := by decide +kernel
theorem dX9_nextToken_25 : decode cX9_nextToken 25 = .ok (.bipush 32, 2) := by decide +kernel
theorem dX9_nextToken_27 : decode cX9_nextToken 27 = .ok (.if_icmp .eq 17, 3) := by decide +kernel
theorem dX9_nextToken_30 : decode cX9_nextToken 30 = .ok (.aload_n 0, 1) := by decide +kernel
theorem dX9_nextToken_31 : decode cX9_nextToken 31 = .ok (.getfield 11, 3) := by decide +kernel
theorem dX9_nextToken_34 : decode cX9_nextToken 34 = .ok (.aload_n 0, 1) := by decide +kernel
theorem dX9_nextToken_35 : decode cX9_nextToken 35 = .ok (.getfield 59, 3) := by decide +kernel
theorem dX9_nextToken_38 : decode cX9_nextToken 38 = .ok (.baload, 1) := by decide +kernel
theorem dX9_nextToken_39 : decode cX9_nextToken 39 = .ok (.bipush 10, 2) := by decide +kernel
theorem dX9_nextToken_41 : decode cX9_nextToken 41 = .ok (.if_icmp .ne 16, 3) := by decide +kernel
theorem dX9_nextToken_44 : decode cX9_nextToken 44 = .ok (.aload_n 0, 1) := by decide +kernel
theorem dX9_nextToken_45 : decode cX9_nextToken 45 = .ok (.dup, 1) := by decide +kernel
theorem dX9_nextToken_46 : decode cX9_nextToken 46 = .ok (.getfield 59, 3) := by decide +kernel
theorem dX9_nextToken_49 : decode cX9_nextToken 49 = .ok (.iconst 1, 1) := by decide +kernel
theorem dX9_nextToken_50 : decode cX9_nextToken 50 = .ok (.iadd, 1) := by decide +kernel
theorem dX9_nextToken_51 : decode cX9_nextToken 51 = .ok (.putfield 59, 3) := by decide +kernel
theorem dX9_nextToken_54 : decode cX9_nextToken 54 = .ok (.goto (-46), 3) := by decide +kernel
theorem dX9_nextToken_57 : decode cX9_nextToken 57 = .ok (.aload_n 0, 1) := by decide +kernel
theorem dX9_nextToken_58 : decode cX9_nextToken 58 = .ok (.aload_n 0, 1) := by decide +kernel
theorem dX9_nextToken_59 : decode cX9_nextToken 59 = .ok (.getfield 59, 3) := by decide +kernel
theorem dX9_nextToken_62 : decode cX9_nextToken 62 = .ok (.putfield 38, 3) := by decide +kernel
theorem dX9_nextToken_65 : decode cX9_nextToken 65 = .ok (.aload_n 0, 1) := by decide +kernel
theorem dX9_nextToken_66 : decode cX9_nextToken 66 = .ok (.getfield 59, 3) := by decide +kernel
theorem dX9_nextToken_69 : decode cX9_nextToken 69 = .ok (.iload_n 1, 1) := by decide +kernel
theorem dX9_nextToken_70 : decode cX9_nextToken 70 = .ok (.if_icmp .lt 5, 3) := by decide +kernel
theorem dX9_nextToken_73 : decode cX9_nextToken 73 = .ok (.iconst 0, 1) := by decide +kernel
theorem dX9_nextToken_74 : decode cX9_nextToken 74 = .ok (.ireturn, 1) := by decide +kernel
theorem dX9_nextToken_75 : decode cX9_nextToken 75 = .ok (.aload_n 0, 1) := by decide +kernel
theorem dX9_nextToken_76 : decode cX9_nextToken 76 = .ok (.getfield 11, 3) := by decide +kernel
theorem dX9_nextToken_79 : decode cX9_nextToken 79 = .ok (.aload_n 0, 1) := by decide +kernel
theorem dX9_nextToken_80 : decode cX9_nextToken 80 = .ok (.getfield 59, 3) := by decide +kernel
theorem dX9_nextToken_83 : decode cX9_nextToken 83 = .ok (.baload, 1) := by decide +kernel
theorem dX9_nextToken_84 : decode cX9_nextToken 84 = .ok (.istore_n 2, 1) := by decide +kernel
theorem dX9_nextToken_85 : decode cX9_nextToken 85 = .ok (.iload_n 2, 1) := by decide +kernel
theorem dX9_nextToken_86 : decode cX9_nextToken 86 = .ok (.invokestatic 79, 3) := by decide +kernel
theorem dX9_nextToken_89 : decode cX9_nextToken 89 = .ok (.ifCond .eq 44, 3) := by decide +kernel
theorem dX9_nextToken_92 : decode cX9_nextToken 92 = .ok (.aload_n 0, 1) := by decide +kernel
theorem dX9_nextToken_93 : decode cX9_nextToken 93 = .ok (.getfield 38, 3) := by decide +kernel
theorem dX9_nextToken_96 : decode cX9_nextToken 96 = .ok (.iload_n 1, 1) := by decide +kernel
theorem dX9_nextToken_97 : decode cX9_nextToken 97 = .ok (.if_icmp .ge 31, 3) := by decide +kernel
theorem dX9_nextToken_100 : decode cX9_nextToken 100 = .ok (.aload_n 0, 1) := by decide +kernel
theorem dX9_nextToken_101 : decode cX9_nextToken 101 = .ok (.getfield 11, 3) := by decide +kernel
theorem dX9_nextToken_104 : decode cX9_nextToken 104 = .ok (.aload_n 0, 1) := by decide +kernel
theorem dX9_nextToken_105 : decode cX9_nextToken 105 = .ok (.getfield 38, 3) := by decide +kernel
theorem dX9_nextToken_108 : decode cX9_nextToken 108 = .ok (.baload, 1) := by decide +kernel
theorem dX9_nextToken_109 : decode cX9_nextToken 109 = .ok (.invokestatic 79, 3) := by decide +kernel
theorem dX9_nextToken_112 : decode cX9_nextToken 112 = .ok (.ifCond .eq 16, 3) := by decide +kernel
theorem dX9_nextToken_115 : decode cX9_nextToken 115 = .ok (.aload_n 0, 1) := by decide +kernel
theorem dX9_nextToken_116 : decode cX9_nextToken 116 = .ok (.dup, 1) := by decide +kernel
theorem dX9_nextToken_117 : decode cX9_nextToken 117 = .ok (.getfield 38, 3) := by decide +kernel
theorem dX9_nextToken_120 : decode cX9_nextToken 120 = .ok (.iconst 1, 1) := by decide +kernel
theorem dX9_nextToken_121 : decode cX9_nextToken 121 = .ok (.iadd, 1) := by decide +kernel
theorem dX9_nextToken_122 : decode cX9_nextToken 122 = .ok (.putfield 38, 3) := by decide +kernel
theorem dX9_nextToken_125 : decode cX9_nextToken 125 = .ok (.goto (-33), 3) := by decide +kernel
theorem dX9_nextToken_128 : decode cX9_nextToken 128 = .ok (.aload_n 0, 1) := by decide +kernel
theorem dX9_nextToken_129 : decode cX9_nextToken 129 = .ok (.invokevirtual 83, 3) := by decide +kernel
theorem dX9_nextToken_132 : decode cX9_nextToken 132 = .ok (.ireturn, 1) := by decide +kernel
theorem dX9_nextToken_133 : decode cX9_nextToken 133 = .ok (.iload_n 2, 1) := by decide +kernel
theorem dX9_nextToken_134 : decode cX9_nextToken 134 = .ok (.invokestatic 87, 3) := by decide +kernel
theorem dX9_nextToken_137 : decode cX9_nextToken 137 = .ok (.ifCond .eq 44, 3) := by decide +kernel
theorem dX9_nextToken_140 : decode cX9_nextToken 140 = .ok (.aload_n 0, 1) := by decide +kernel
theorem dX9_nextToken_141 : decode cX9_nextToken 141 = .ok (.getfield 38, 3) := by decide +kernel
theorem dX9_nextToken_144 : decode cX9_nextToken 144 = .ok (.iload_n 1, 1) := by decide +kernel
theorem dX9_nextToken_145 : decode cX9_nextToken 145 = .ok (.if_icmp .ge 31, 3) := by decide +kernel
theorem dX9_nextToken_148 : decode cX9_nextToken 148 = .ok (.aload_n 0, 1) := by decide +kernel
theorem dX9_nextToken_149 : decode cX9_nextToken 149 = .ok (.getfield 11, 3) := by decide +kernel
theorem dX9_nextToken_152 : decode cX9_nextToken 152 = .ok (.aload_n 0, 1) := by decide +kernel
theorem dX9_nextToken_153 : decode cX9_nextToken 153 = .ok (.getfield 38, 3) := by decide +kernel
theorem dX9_nextToken_156 : decode cX9_nextToken 156 = .ok (.baload, 1) := by decide +kernel
theorem dX9_nextToken_157 : decode cX9_nextToken 157 = .ok (.invokestatic 87, 3) := by decide +kernel
theorem dX9_nextToken_160 : decode cX9_nextToken 160 = .ok (.ifCond .eq 16, 3) := by decide +kernel
theorem dX9_nextToken_163 : decode cX9_nextToken 163 = .ok (.aload_n 0, 1) := by decide +kernel
theorem dX9_nextToken_164 : decode cX9_nextToken 164 = .ok (.dup, 1) := by decide +kernel
theorem dX9_nextToken_165 : decode cX9_nextToken 165 = .ok (.getfield 38, 3) := by decide +kernel
theorem dX9_nextToken_168 : decode cX9_nextToken 168 = .ok (.iconst 1, 1) := by decide +kernel
theorem dX9_nextToken_169 : decode cX9_nextToken 169 = .ok (.iadd, 1) := by decide +kernel
theorem dX9_nextToken_170 : decode cX9_nextToken 170 = .ok (.putfield 38, 3) := by decide +kernel
theorem dX9_nextToken_173 : decode cX9_nextToken 173 = .ok (.goto (-33), 3) := by decide +kernel
theorem dX9_nextToken_176 : decode cX9_nextToken 176 = .ok (.aload_n 0, 1) := by decide +kernel
theorem dX9_nextToken_177 : decode cX9_nextToken 177 = .ok (.invokevirtual 90, 3) := by decide +kernel
theorem dX9_nextToken_180 : decode cX9_nextToken 180 = .ok (.ireturn, 1) := by decide +kernel
theorem dX9_nextToken_181 : decode cX9_nextToken 181 = .ok (.aload_n 0, 1) := by decide +kernel
theorem dX9_nextToken_182 : decode cX9_nextToken 182 = .ok (.dup, 1) := by decide +kernel
theorem dX9_nextToken_183 : decode cX9_nextToken 183 = .ok (.getfield 38, 3) := by decide +kernel
theorem dX9_nextToken_186 : decode cX9_nextToken 186 = .ok (.iconst 1, 1) := by decide +kernel
theorem dX9_nextToken_187 : decode cX9_nextToken 187 = .ok (.iadd, 1) := by decide +kernel
theorem dX9_nextToken_188 : decode cX9_nextToken 188 = .ok (.putfield 38, 3) := by decide +kernel
theorem dX9_nextToken_191 : decode cX9_nextToken 191 = .ok (.iload_n 2, 1) := by decide +kernel
theorem dX9_nextToken_192 : decode cX9_nextToken 192 = .ok (.bipush 59, 2) := by decide +kernel
theorem dX9_nextToken_194 : decode cX9_nextToken 194 = .ok (.if_icmp .eq 17, 3) := by decide +kernel
theorem dX9_nextToken_197 : decode cX9_nextToken 197 = .ok (.iload_n 2, 1) := by decide +kernel
theorem dX9_nextToken_198 : decode cX9_nextToken 198 = .ok (.invokestatic 73, 3) := by decide +kernel
theorem dX9_nextToken_201 : decode cX9_nextToken 201 = .ok (.ifCond .ne 10, 3) := by decide +kernel
theorem dX9_nextToken_204 : decode cX9_nextToken 204 = .ok (.iload_n 2, 1) := by decide +kernel
theorem dX9_nextToken_205 : decode cX9_nextToken 205 = .ok (.invokestatic 76, 3) := by decide +kernel
theorem dX9_nextToken_208 : decode cX9_nextToken 208 = .ok (.ifCond .eq 7, 3) := by decide +kernel
theorem dX9_nextToken_211 : decode cX9_nextToken 211 = .ok (.iload_n 2, 1) := by decide +kernel
theorem dX9_nextToken_212 : decode cX9_nextToken 212 = .ok (.goto 5, 3) := by decide +kernel
theorem dX9_nextToken_215 : decode cX9_nextToken 215 = .ok (.bipush (-2), 2) := by decide +kernel
theorem dX9_nextToken_217 : decode cX9_nextToken 217 = .ok (.ireturn, 1) := by decide +kernel
theorem dX9_isLetter_0 : decode cX9_isLetter 0 = .ok (.iload_n 0, 1) := by decide +kernel
theorem dX9_isLetter_1 : decode cX9_isLetter 1 = .ok (.bipush 97, 2) := by decide +kernel
theorem dX9_isLetter_3 : decode cX9_isLetter 3 = .ok (.if_icmp .lt 13, 3) := by decide +kernel
theorem dX9_isLetter_6 : decode cX9_isLetter 6 = .ok (.iload_n 0, 1) := by decide +kernel
theorem dX9_isLetter_7 : decode cX9_isLetter 7 = .ok (.bipush 122, 2) := by decide +kernel
theorem dX9_isLetter_9 : decode cX9_isLetter 9 = .ok (.if_icmp .gt 7, 3) := by decide +kernel
theorem dX9_isLetter_12 : decode cX9_isLetter 12 = .ok (.iconst 1, 1) := by decide +kernel
theorem dX9_isLetter_13 : decode cX9_isLetter 13 = .ok (.goto 4, 3) := by decide +kernel
theorem dX9_isLetter_16 : decode cX9_isLetter 16 = .ok (.iconst 0, 1) := by decide +kernel
theorem dX9_isLetter_17 : decode cX9_isLetter 17 = .ok (.ireturn, 1) := by decide +kernel
theorem dX9_isDigit_0 : decode cX9_isDigit 0 = .ok (.iload_n 0, 1) := by decide +kernel
theorem dX9_isDigit_1 : decode cX9_isDigit 1 = .ok (.bipush 48, 2) := by decide +kernel
theorem dX9_isDigit_3 : decode cX9_isDigit 3 = .ok (.if_icmp .lt 13, 3) := by decide +kernel
theorem dX9_isDigit_6 : decode cX9_isDigit 6 = .ok (.iload_n 0, 1) := by decide +kernel
theorem dX9_isDigit_7 : decode cX9_isDigit 7 = .ok (.bipush 57, 2) := by decide +kernel
theorem dX9_isDigit_9 : decode cX9_isDigit 9 = .ok (.if_icmp .gt 7, 3) := by decide +kernel
theorem dX9_isDigit_12 : decode cX9_isDigit 12 = .ok (.iconst 1, 1) := by decide +kernel
theorem dX9_isDigit_13 : decode cX9_isDigit 13 = .ok (.goto 4, 3) := by decide +kernel
theorem dX9_isDigit_16 : decode cX9_isDigit 16 = .ok (.iconst 0, 1) := by decide +kernel
theorem dX9_isDigit_17 : decode cX9_isDigit 17 = .ok (.ireturn, 1) := by decide +kernel
theorem dX9_codeOfNumber_0 : decode cX9_codeOfNumber 0 = .ok (.aload_n 0, 1) := by decide +kernel
theorem dX9_codeOfNumber_1 : decode cX9_codeOfNumber 1 = .ok (.getfield 38, 3) := by decide +kernel
theorem dX9_codeOfNumber_4 : decode cX9_codeOfNumber 4 = .ok (.aload_n 0, 1) := by decide +kernel
theorem dX9_codeOfNumber_5 : decode cX9_codeOfNumber 5 = .ok (.getfield 59, 3) := by decide +kernel
theorem dX9_codeOfNumber_8 : decode cX9_codeOfNumber 8 = .ok (.isub, 1) := by decide +kernel
theorem dX9_codeOfNumber_9 : decode cX9_codeOfNumber 9 = .ok (.istore_n 1, 1) := by decide +kernel
theorem dX9_codeOfNumber_10 : decode cX9_codeOfNumber 10 = .ok (.iload_n 1, 1) := by decide +kernel
theorem dX9_codeOfNumber_11 : decode cX9_codeOfNumber 11 = .ok (.iconst 2, 1) := by decide +kernel
theorem dX9_codeOfNumber_12 : decode cX9_codeOfNumber 12 = .ok (.if_icmp .le 6, 3) := by decide +kernel
theorem dX9_codeOfNumber_15 : decode cX9_codeOfNumber 15 = .ok (.bipush (-2), 2) := by decide +kernel
theorem dX9_codeOfNumber_17 : decode cX9_codeOfNumber 17 = .ok (.ireturn, 1) := by decide +kernel
theorem dX9_codeOfNumber_18 : decode cX9_codeOfNumber 18 = .ok (.iconst 0, 1) := by decide +kernel
theorem dX9_codeOfNumber_19 : decode cX9_codeOfNumber 19 = .ok (.istore_n 2, 1) := by decide +kernel
theorem dX9_codeOfNumber_20 : decode cX9_codeOfNumber 20 = .ok (.aload_n 0, 1) := by decide +kernel
theorem dX9_codeOfNumber_21 : decode cX9_codeOfNumber 21 = .ok (.getfield 59, 3) := by decide +kernel
theorem dX9_codeOfNumber_24 : decode cX9_codeOfNumber 24 = .ok (.istore_n 3, 1) := by decide +kernel
theorem dX9_codeOfNumber_25 : decode cX9_codeOfNumber 25 = .ok (.iload_n 3, 1) := by decide +kernel
theorem dX9_codeOfNumber_26 : decode cX9_codeOfNumber 26 = .ok (.aload_n 0, 1) := by decide +kernel
theorem dX9_codeOfNumber_27 : decode cX9_codeOfNumber 27 = .ok (.getfield 38, 3) := by decide +kernel
theorem dX9_codeOfNumber_30 : decode cX9_codeOfNumber 30 = .ok (.if_icmp .ge 24, 3) := by decide +kernel
theorem dX9_codeOfNumber_33 : decode cX9_codeOfNumber 33 = .ok (.bipush 10, 2) := by decide +kernel
theorem dX9_codeOfNumber_35 : decode cX9_codeOfNumber 35 = .ok (.iload_n 2, 1) := by decide +kernel
theorem dX9_codeOfNumber_36 : decode cX9_codeOfNumber 36 = .ok (.imul, 1) := by decide +kernel
theorem dX9_codeOfNumber_37 : decode cX9_codeOfNumber 37 = .ok (.aload_n 0, 1) := by decide +kernel
theorem dX9_codeOfNumber_38 : decode cX9_codeOfNumber 38 = .ok (.getfield 11, 3) := by decide +kernel
theorem dX9_codeOfNumber_41 : decode cX9_codeOfNumber 41 = .ok (.iload_n 3, 1) := by decide +kernel
theorem dX9_codeOfNumber_42 : decode cX9_codeOfNumber 42 = .ok (.baload, 1) := by decide +kernel
theorem dX9_codeOfNumber_43 : decode cX9_codeOfNumber 43 = .ok (.iadd, 1) := by decide +kernel
theorem dX9_codeOfNumber_44 : decode cX9_codeOfNumber 44 = .ok (.bipush 48, 2) := by decide +kernel
theorem dX9_codeOfNumber_46 : decode cX9_codeOfNumber 46 = .ok (.isub, 1) := by decide +kernel
theorem dX9_codeOfNumber_47 : decode cX9_codeOfNumber 47 = .ok (.istore_n 2, 1) := by decide +kernel
theorem dX9_codeOfNumber_48 : decode cX9_codeOfNumber 48 = .ok (.iinc 3 1, 3) := by decide +kernel
theorem dX9_codeOfNumber_51 : decode cX9_codeOfNumber 51 = .ok (.goto (-26), 3) := by decide +kernel
theorem dX9_codeOfNumber_54 : decode cX9_codeOfNumber 54 = .ok (.sipush 200, 3) := by decide +kernel
theorem dX9_codeOfNumber_57 : decode cX9_codeOfNumber 57 = .ok (.iload_n 2, 1) := by decide +kernel
theorem dX9_codeOfNumber_58 : decode cX9_codeOfNumber 58 = .ok (.iadd, 1) := by decide +kernel
theorem dX9_codeOfNumber_59 : decode cX9_codeOfNumber 59 = .ok (.ireturn, 1) := by decide +kernel
theorem dX9_codeOfWord_0 : decode cX9_codeOfWord 0 = .ok (.bipush 100, 2) := by decide +kernel
theorem dX9_codeOfWord_2 : decode cX9_codeOfWord 2 = .ok (.istore_n 1, 1) := by decide +kernel
theorem dX9_codeOfWord_3 : decode cX9_codeOfWord 3 = .ok (.aload_n 0, 1) := by decide +kernel
theorem dX9_codeOfWord_4 : decode cX9_codeOfWord 4 = .ok (.getfield 59, 3) := by decide +kernel
theorem dX9_codeOfWord_7 : decode cX9_codeOfWord 7 = .ok (.istore_n 2, 1) := by decide +kernel
theorem dX9_codeOfWord_8 : decode cX9_codeOfWord 8 = .ok (.iconst 1, 1) := by decide +kernel
theorem dX9_codeOfWord_9 : decode cX9_codeOfWord 9 = .ok (.istore_n 3, 1) := by decide +kernel
theorem dX9_codeOfWord_10 : decode cX9_codeOfWord 10 = .ok (.iconst 0, 1) := by decide +kernel
theorem dX9_codeOfWord_11 : decode cX9_codeOfWord 11 = .ok (.istore 4, 2) := by decide +kernel
theorem dX9_codeOfWord_13 : decode cX9_codeOfWord 13 = .ok (.iload 4, 2) := by decide +kernel
theorem dX9_codeOfWord_15 : decode cX9_codeOfWord 15 = .ok (.ldc 93, 2) := by decide +kernel
theorem dX9_codeOfWord_17 : decode cX9_codeOfWord 17 = .ok (.invokevirtual 95, 3) := by decide +kernel
theorem dX9_codeOfWord_20 : decode cX9_codeOfWord 20 = .ok (.if_icmp .ge 84, 3) := by decide +kernel
theorem dX9_codeOfWord_23 : decode cX9_codeOfWord 23 = .ok (.ldc 93, 2) := by decide +kernel
theorem dX9_codeOfWord_25 : decode cX9_codeOfWord 25 = .ok (.iload 4, 2) := by decide +kernel
theorem dX9_codeOfWord_27 : decode cX9_codeOfWord 27 = .ok (.invokevirtual 100, 3) := by decide +kernel
theorem dX9_codeOfWord_30 : decode cX9_codeOfWord 30 = .ok (.istore 5, 2) := by decide +kernel
theorem dX9_codeOfWord_32 : decode cX9_codeOfWord 32 = .ok (.iload 5, 2) := by decide +kernel
theorem dX9_codeOfWord_34 : decode cX9_codeOfWord 34 = .ok (.bipush 32, 2) := by decide +kernel
theorem dX9_codeOfWord_36 : decode cX9_codeOfWord 36 = .ok (.if_icmp .eq 38, 3) := by decide +kernel
theorem dX9_codeOfWord_39 : decode cX9_codeOfWord 39 = .ok (.iload_n 3, 1) := by decide +kernel
theorem dX9_codeOfWord_40 : decode cX9_codeOfWord 40 = .ok (.ifCond .eq 26, 3) := by decide +kernel
theorem dX9_codeOfWord_43 : decode cX9_codeOfWord 43 = .ok (.iload_n 2, 1) := by decide +kernel
theorem dX9_codeOfWord_44 : decode cX9_codeOfWord 44 = .ok (.aload_n 0, 1) := by decide +kernel
theorem dX9_codeOfWord_45 : decode cX9_codeOfWord 45 = .ok (.getfield 38, 3) := by decide +kernel
theorem dX9_codeOfWord_48 : decode cX9_codeOfWord 48 = .ok (.if_icmp .ge 18, 3) := by decide +kernel
theorem dX9_codeOfWord_51 : decode cX9_codeOfWord 51 = .ok (.aload_n 0, 1) := by decide +kernel
theorem dX9_codeOfWord_52 : decode cX9_codeOfWord 52 = .ok (.getfield 11, 3) := by decide +kernel
theorem dX9_codeOfWord_55 : decode cX9_codeOfWord 55 = .ok (.iload_n 2, 1) := by decide +kernel
theorem dX9_codeOfWord_56 : decode cX9_codeOfWord 56 = .ok (.baload, 1) := by decide +kernel
theorem dX9_codeOfWord_57 : decode cX9_codeOfWord 57 = .ok (.iload 5, 2) := by decide +kernel
theorem dX9_codeOfWord_59 : decode cX9_codeOfWord 59 = .ok (.if_icmp .ne 7, 3) := by decide +kernel
theorem dX9_codeOfWord_62 : decode cX9_codeOfWord 62 = .ok (.iconst 1, 1) := by decide +kernel
theorem dX9_codeOfWord_63 : decode cX9_codeOfWord 63 = .ok (.goto 4, 3) := by decide +kernel
theorem dX9_codeOfWord_66 : decode cX9_codeOfWord 66 = .ok (.iconst 0, 1) := by decide +kernel
theorem dX9_codeOfWord_67 : decode cX9_codeOfWord 67 = .ok (.istore_n 3, 1) := by decide +kernel
theorem dX9_codeOfWord_68 : decode cX9_codeOfWord 68 = .ok (.iinc 2 1, 3) := by decide +kernel
theorem dX9_codeOfWord_71 : decode cX9_codeOfWord 71 = .ok (.goto 27, 3) := by decide +kernel
theorem dX9_codeOfWord_74 : decode cX9_codeOfWord 74 = .ok (.iload_n 3, 1) := by decide +kernel
theorem dX9_codeOfWord_75 : decode cX9_codeOfWord 75 = .ok (.ifCond .eq 13, 3) := by decide +kernel
theorem dX9_codeOfWord_78 : decode cX9_codeOfWord 78 = .ok (.iload_n 2, 1) := by decide +kernel
theorem dX9_codeOfWord_79 : decode cX9_codeOfWord 79 = .ok (.aload_n 0, 1) := by decide +kernel
theorem dX9_codeOfWord_80 : decode cX9_codeOfWord 80 = .ok (.getfield 38, 3) := by decide +kernel
theorem dX9_codeOfWord_83 : decode cX9_codeOfWord 83 = .ok (.if_icmp .ne 5, 3) := by decide +kernel
theorem dX9_codeOfWord_86 : decode cX9_codeOfWord 86 = .ok (.iload_n 1, 1) := by decide +kernel
theorem dX9_codeOfWord_87 : decode cX9_codeOfWord 87 = .ok (.ireturn, 1) := by decide +kernel
theorem dX9_codeOfWord_88 : decode cX9_codeOfWord 88 = .ok (.iinc 1 1, 3) := by decide +kernel
theorem dX9_codeOfWord_91 : decode cX9_codeOfWord 91 = .ok (.aload_n 0, 1) := by decide +kernel
theorem dX9_codeOfWord_92 : decode cX9_codeOfWord 92 = .ok (.getfield 59, 3) := by decide +kernel
theorem dX9_codeOfWord_95 : decode cX9_codeOfWord 95 = .ok (.istore_n 2, 1) := by decide +kernel
theorem dX9_codeOfWord_96 : decode cX9_codeOfWord 96 = .ok (.iconst 1, 1) := by decide +kernel
theorem dX9_codeOfWord_97 : decode cX9_codeOfWord 97 = .ok (.istore_n 3, 1) := by decide +kernel
theorem dX9_codeOfWord_98 : decode cX9_codeOfWord 98 = .ok (.iinc 4 1, 3) := by decide +kernel
theorem dX9_codeOfWord_101 : decode cX9_codeOfWord 101 = .ok (.goto (-88), 3) := by decide +kernel
theorem dX9_codeOfWord_104 : decode cX9_codeOfWord 104 = .ok (.iconst (-1), 1) := by decide +kernel
theorem dX9_codeOfWord_105 : decode cX9_codeOfWord 105 = .ok (.ireturn, 1) := by decide +kernel
theorem dX10_init_0 : decode cX10_init 0 = .ok (.aload_n 0, 1) := by decide +kernel
theorem dX10_init_1 : decode cX10_init 1 = .ok (.invokespecial 3, 3) := by decide +kernel
theorem dX10_init_4 : decode cX10_init 4 = .ok (.aload_n 0, 1) := by decide +kernel
theorem dX10_init_5 : decode cX10_init 5 = .ok (.iconst 4, 1) := by decide +kernel
theorem dX10_init_6 : decode cX10_init 6 = .ok (.newarray .int, 2) := by decide +kernel
theorem dX10_init_8 : decode cX10_init 8 = .ok (.putfield 9, 3) := by decide +kernel
theorem dX10_init_11 : decode cX10_init 11 = .ok (.aload_n 0, 1) := by decide +kernel
theorem dX10_init_12 : decode cX10_init 12 = .ok (.iconst 4, 1) := by decide +kernel
theorem dX10_init_13 : decode cX10_init 13 = .ok (.newarray .int, 2) := by decide +kernel
theorem dX10_init_15 : decode cX10_init 15 = .ok (.putfield 15, 3) := by decide +kernel
theorem dX10_init_18 : decode cX10_init 18 = .ok (.aload_n 0, 1) := by decide +kernel
theorem dX10_init_19 : decode cX10_init 19 = .ok (.iconst 4, 1) := by decide +kernel
theorem dX10_init_20 : decode cX10_init 20 = .ok (.bipush 28, 2) := by decide +kernel
theorem dX10_init_22 : decode cX10_init 22 = .ok (.multianewarray 18 2, 4) := by decide +kernel
theorem dX10_init_26 : decode cX10_init 26 = .ok (.putfield 20, 3) := by decide +kernel
theorem dX10_init_29 : decode cX10_init 29 = .ok (.aload_n 0, 1) := by decide +kernel
theorem dX10_init_30 : decode cX10_init 30 = .ok (.bipush 29, 2) := by decide +kernel
theorem dX10_init_32 : decode cX10_init 32 = .ok (.bipush 13, 2) := by decide +kernel
theorem dX10_init_34 : decode cX10_init 34 = .ok (.multianewarray 23 2, 4) := by decide +kernel
theorem dX10_init_38 : decode cX10_init 38 = .ok (.putfield 25, 3) := by decide +kernel
theorem dX10_init_41 : decode cX10_init 41 = .ok (.aload_n 0, 1) := by decide +kernel
theorem dX10_init_42 : decode cX10_init 42 = .ok (.bipush 28, 2) := by decide +kernel
theorem dX10_init_44 : decode cX10_init 44 = .ok (.bipush 13, 2) := by decide +kernel
theorem dX10_init_46 : decode cX10_init 46 = .ok (.multianewarray 23 2, 4) := by decide +kernel
theorem dX10_init_50 : decode cX10_init 50 = .ok (.putfield 28, 3) := by decide +kernel
theorem dX10_init_53 : decode cX10_init 53 = .ok (.iconst 0, 1) := by decide +kernel
theorem dX10_init_54 : decode cX10_init 54 = .ok (.istore_n 1, 1) := by decide +kernel
theorem dX10_init_55 : decode cX10_init 55 = .ok (.iload_n 1, 1) := by decide +kernel
theorem dX10_init_56 : decode cX10_init 56 = .ok (.iconst 4, 1) := by decide +kernel
theorem dX10_init_57 : decode cX10_init 57 = .ok (.if_icmp .ge 16, 3) := by decide +kernel
theorem dX10_init_60 : decode cX10_init 60 = .ok (.aload_n 0, 1) := by decide +kernel
theorem dX10_init_61 : decode cX10_init 61 = .ok (.getfield 9, 3) := by decide +kernel
theorem dX10_init_64 : decode cX10_init 64 = .ok (.iload_n 1, 1) := by decide +kernel
theorem dX10_init_65 : decode cX10_init 65 = .ok (.iconst (-1), 1) := by decide +kernel
theorem dX10_init_66 : decode cX10_init 66 = .ok (.iastore, 1) := by decide +kernel
theorem dX10_init_67 : decode cX10_init 67 = .ok (.iinc 1 1, 3) := by decide +kernel
theorem dX10_init_70 : decode cX10_init 70 = .ok (.goto (-15), 3) := by decide +kernel
theorem dX10_init_73 : decode cX10_init 73 = .ok (.return_, 1) := by decide +kernel
theorem dX10_isMissing_0 : decode cX10_isMissing 0 = .ok (.aload_n 0, 1) := by decide +kernel
theorem dX10_isMissing_1 : decode cX10_isMissing 1 = .ok (.getfield 9, 3) := by decide +kernel
theorem dX10_isMissing_4 : decode cX10_isMissing 4 = .ok (.iload_n 1, 1) := by decide +kernel
theorem dX10_isMissing_5 : decode cX10_isMissing 5 = .ok (.iaload, 1) := by decide +kernel
theorem dX10_isMissing_6 : decode cX10_isMissing 6 = .ok (.iconst (-1), 1) := by decide +kernel
theorem dX10_isMissing_7 : decode cX10_isMissing 7 = .ok (.if_icmp .ne 7, 3) := by decide +kernel
theorem dX10_isMissing_10 : decode cX10_isMissing 10 = .ok (.iconst 1, 1) := by decide +kernel
theorem dX10_isMissing_11 : decode cX10_isMissing 11 = .ok (.goto 4, 3) := by decide +kernel
theorem dX10_isMissing_14 : decode cX10_isMissing 14 = .ok (.iconst 0, 1) := by decide +kernel
theorem dX10_isMissing_15 : decode cX10_isMissing 15 = .ok (.ireturn, 1) := by decide +kernel
theorem dX10_clear_0 : decode cX10_clear 0 = .ok (.aload_n 0, 1) := by decide +kernel
theorem dX10_clear_1 : decode cX10_clear 1 = .ok (.getfield 9, 3) := by decide +kernel
theorem dX10_clear_4 : decode cX10_clear 4 = .ok (.iload_n 1, 1) := by decide +kernel
theorem dX10_clear_5 : decode cX10_clear 5 = .ok (.iload_n 2, 1) := by decide +kernel
theorem dX10_clear_6 : decode cX10_clear 6 = .ok (.iastore, 1) := by decide +kernel
theorem dX10_clear_7 : decode cX10_clear 7 = .ok (.aload_n 0, 1) := by decide +kernel
theorem dX10_clear_8 : decode cX10_clear 8 = .ok (.getfield 15, 3) := by decide +kernel
theorem dX10_clear_11 : decode cX10_clear 11 = .ok (.iload_n 1, 1) := by decide +kernel
theorem dX10_clear_12 : decode cX10_clear 12 = .ok (.iload_n 3, 1) := by decide +kernel
theorem dX10_clear_13 : decode cX10_clear 13 = .ok (.iastore, 1) := by decide +kernel
theorem dX10_clear_14 : decode cX10_clear 14 = .ok (.iconst 0, 1) := by decide +kernel
theorem dX10_clear_15 : decode cX10_clear 15 = .ok (.istore 4, 2) := by decide +kernel
theorem dX10_clear_17 : decode cX10_clear 17 = .ok (.iload 4, 2) := by decide +kernel
theorem dX10_clear_19 : decode cX10_clear 19 = .ok (.iload_n 3, 1) := by decide +kernel
theorem dX10_clear_20 : decode cX10_clear 20 = .ok (.if_icmp .ge 19, 3) := by decide +kernel
theorem dX10_clear_23 : decode cX10_clear 23 = .ok (.aload_n 0, 1) := by decide +kernel
theorem dX10_clear_24 : decode cX10_clear 24 = .ok (.getfield 20, 3) := by decide +kernel
theorem dX10_clear_27 : decode cX10_clear 27 = .ok (.iload_n 1, 1) := by decide +kernel
theorem dX10_clear_28 : decode cX10_clear 28 = .ok (.aaload, 1) := by decide +kernel
theorem dX10_clear_29 : decode cX10_clear 29 = .ok (.iload 4, 2) := by decide +kernel
theorem dX10_clear_31 : decode cX10_clear 31 = .ok (.lconst 0, 1) := by decide +kernel
theorem dX10_clear_32 : decode cX10_clear 32 = .ok (.lastore, 1) := by decide +kernel
theorem dX10_clear_33 : decode cX10_clear 33 = .ok (.iinc 4 1, 3) := by decide +kernel
theorem dX10_clear_36 : decode cX10_clear 36 = .ok (.goto (-19), 3) := by decide +kernel
theorem dX10_clear_39 : decode cX10_clear 39 = .ok (.return_, 1) := by decide +kernel
theorem dX10_put_0 : decode cX10_put 0 = .ok (.aload_n 0, 1) := by decide +kernel
theorem dX10_put_1 : decode cX10_put 1 = .ok (.getfield 20, 3) := by decide +kernel
theorem dX10_put_4 : decode cX10_put 4 = .ok (.iload_n 1, 1) := by decide +kernel
theorem dX10_put_5 : decode cX10_put 5 = .ok (.aaload, 1) := by decide +kernel
theorem dX10_put_6 : decode cX10_put 6 = .ok (.iload_n 2, 1) := by decide +kernel
theorem dX10_put_7 : decode cX10_put 7 = .ok (.aload_n 0, 1) := by decide +kernel
theorem dX10_put_8 : decode cX10_put 8 = .ok (.getfield 9, 3) := by decide +kernel
theorem dX10_put_11 : decode cX10_put 11 = .ok (.iload_n 1, 1) := by decide +kernel
theorem dX10_put_12 : decode cX10_put 12 = .ok (.iaload, 1) := by decide +kernel
theorem dX10_put_13 : decode cX10_put 13 = .ok (.lload_n 3, 1) := by decide +kernel
theorem dX10_put_14 : decode cX10_put 14 = .ok (.invokestatic 31, 3) := by decide +kernel
theorem dX10_put_17 : decode cX10_put 17 = .ok (.lastore, 1) := by decide +kernel
theorem dX10_put_18 : decode cX10_put 18 = .ok (.aload_n 0, 1) := by decide +kernel
theorem dX10_put_19 : decode cX10_put 19 = .ok (.getfield 20, 3) := by decide +kernel
theorem dX10_put_22 : decode cX10_put 22 = .ok (.iload_n 1, 1) := by decide +kernel
theorem dX10_put_23 : decode cX10_put 23 = .ok (.aaload, 1) := by decide +kernel
theorem dX10_put_24 : decode cX10_put 24 = .ok (.iload_n 2, 1) := by decide +kernel
theorem dX10_put_25 : decode cX10_put 25 = .ok (.laload, 1) := by decide +kernel
theorem dX10_put_26 : decode cX10_put 26 = .ok (.lreturn, 1) := by decide +kernel
theorem dX10_cut_0 : decode cX10_cut 0 = .ok (.iload_n 0, 1) := by decide +kernel
theorem dX10_cut_1 : decode cX10_cut 1 = .ok (.tableswitch 41 0 2 #[27, 32, 37], 27) := by decide +kernel
theorem dX10_cut_28 : decode cX10_cut 28 = .ok (.lload_n 1, 1) := by decide +kernel
theorem dX10_cut_29 : decode cX10_cut 29 = .ok (.l2i, 1) := by decide +kernel
theorem dX10_cut_30 : decode cX10_cut 30 = .ok (.i2b, 1) := by decide +kernel
theorem dX10_cut_31 : decode cX10_cut 31 = .ok (.i2l, 1) := by decide +kernel
theorem dX10_cut_32 : decode cX10_cut 32 = .ok (.lreturn, 1) := by decide +kernel
theorem dX10_cut_33 : decode cX10_cut 33 = .ok (.lload_n 1, 1) := by decide +kernel
theorem dX10_cut_34 : decode cX10_cut 34 = .ok (.l2i, 1) := by decide +kernel
theorem dX10_cut_35 : decode cX10_cut 35 = .ok (.i2s, 1) := by decide +kernel
theorem dX10_cut_36 : decode cX10_cut 36 = .ok (.i2l, 1) := by decide +kernel
theorem dX10_cut_37 : decode cX10_cut 37 = .ok (.lreturn, 1) := by decide +kernel
theorem dX10_cut_38 : decode cX10_cut 38 = .ok (.lload_n 1, 1) := by decide +kernel
theorem dX10_cut_39 : decode cX10_cut 39 = .ok (.l2i, 1) := by decide +kernel
theorem dX10_cut_40 : decode cX10_cut 40 = .ok (.i2l, 1) := by decide +kernel
theorem dX10_cut_41 : decode cX10_cut 41 = .ok (.lreturn, 1) := by decide +kernel
theorem dX10_cut_42 : decode cX10_cut 42 = .ok (.lload_n 1, 1) := by decide +kernel
theorem dX10_cut_43 : decode cX10_cut 43 = .ok (.lreturn, 1) := by decide +kernel
theorem dX10_allWithin_0 : decode cX10_allWithin 0 = .ok (.iconst 0, 1) := by decide +kernel
theorem dX10_allWithin_1 : decode cX10_allWithin 1 = .ok (.istore_n 3, 1) := by decide +kernel
theorem dX10_allWithin_2 : decode cX10_allWithin 2 = .ok (.iload_n 3, 1) := by decide +kernel
theorem dX10_allWithin_3 : decode cX10_allWithin 3 = .ok (.aload_n 0, 1) := by decide +kernel
theorem dX10_allWithin_4 : decode cX10_allWithin 4 = .ok (.getfield 15, 3) := by decide +kernel
theorem dX10_allWithin_7 : decode cX10_allWithin 7 = .ok (.iload_n 1, 1) := by decide +kernel
theorem dX10_allWithin_8 : decode cX10_allWithin 8 = .ok (.iaload, 1) := by decide +kernel
theorem dX10_allWithin_9 : decode cX10_allWithin 9 = .ok (.if_icmp .ge 38, 3) := by decide +kernel
theorem dX10_allWithin_12 : decode cX10_allWithin 12 = .ok (.aload_n 0, 1) := by decide +kernel
theorem dX10_allWithin_13 : decode cX10_allWithin 13 = .ok (.getfield 20, 3) := by decide +kernel
theorem dX10_allWithin_16 : decode cX10_allWithin 16 = .ok (.iload_n 1, 1) := by decide +kernel
theorem dX10_allWithin_17 : decode cX10_allWithin 17 = .ok (.aaload, 1) := by decide +kernel
theorem dX10_allWithin_18 : decode cX10_allWithin 18 = .ok (.iload_n 3, 1) := by decide +kernel
theorem dX10_allWithin_19 : decode cX10_allWithin 19 = .ok (.laload, 1) := by decide +kernel
theorem dX10_allWithin_20 : decode cX10_allWithin 20 = .ok (.lconst 0, 1) := by decide +kernel
theorem dX10_allWithin_21 : decode cX10_allWithin 21 = .ok (.lcmp, 1) := by decide +kernel
theorem dX10_allWithin_22 : decode cX10_allWithin 22 = .ok (.ifCond .lt 17, 3) := by decide +kernel
theorem dX10_allWithin_25 : decode cX10_allWithin 25 = .ok (.aload_n 0, 1) := by decide +kernel
theorem dX10_allWithin_26 : decode cX10_allWithin 26 = .ok (.getfield 20, 3) := by decide +kernel
theorem dX10_allWithin_29 : decode cX10_allWithin 29 = .ok (.iload_n 1, 1) := by decide +kernel
theorem dX10_allWithin_30 : decode cX10_allWithin 30 = .ok (.aaload, 1) := by decide +kernel
theorem dX10_allWithin_31 : decode cX10_allWithin 31 = .ok (.iload_n 3, 1) := by decide +kernel
theorem dX10_allWithin_32 : decode cX10_allWithin 32 = .ok (.laload, 1) := by decide +kernel
theorem dX10_allWithin_33 : decode cX10_allWithin 33 = .ok (.iload_n 2, 1) := by decide +kernel
theorem dX10_allWithin_34 : decode cX10_allWithin 34 = .ok (.i2l, 1) := by decide +kernel
theorem dX10_allWithin_35 : decode cX10_allWithin 35 = .ok (.lcmp, 1) := by decide +kernel
theorem dX10_allWithin_36 : decode cX10_allWithin 36 = .ok (.ifCond .le 5, 3) := by decide +kernel
theorem dX10_allWithin_39 : decode cX10_allWithin 39 = .ok (.iconst 0, 1) := by decide +kernel
theorem dX10_allWithin_40 : decode cX10_allWithin 40 = .ok (.ireturn, 1) := by decide +kernel
theorem dX10_allWithin_41 : decode cX10_allWithin 41 = .ok (.iinc 3 1, 3) := by decide +kernel
theorem dX10_allWithin_44 : decode cX10_allWithin 44 = .ok (.goto (-42), 3) := by decide +kernel
theorem dX10_allWithin_47 : decode cX10_allWithin 47 = .ok (.iconst 1, 1) := by decide +kernel
theorem dX10_allWithin_48 : decode cX10_allWithin 48 = .ok (.ireturn, 1) := by decide +kernel
theorem dX10_planFilling_0 : decode cX10_planFilling 0 = .ok (.aload_n 0, 1) := by decide +kernel
theorem dX10_planFilling_1 : decode cX10_planFilling 1 = .ok (.getfield 15, 3) := by decide +kernel
theorem dX10_planFilling_4 : decode cX10_planFilling 4 = .ok (.iload_n 1, 1) := by decide +kernel
theorem dX10_planFilling_5 : decode cX10_planFilling 5 = .ok (.iaload, 1) := by decide +kernel
theorem dX10_planFilling_6 : decode cX10_planFilling 6 = .ok (.istore_n 3, 1) := by decide +kernel
theorem dX10_planFilling_7 : decode cX10_planFilling 7 = .ok (.iconst 0, 1) := by decide +kernel
theorem dX10_planFilling_8 : decode cX10_planFilling 8 = .ok (.istore 4, 2) := by decide +kernel
theorem dX10_planFilling_10 : decode cX10_planFilling 10 = .ok (.iload 4, 2) := by decide +kernel
theorem dX10_planFilling_12 : decode cX10_planFilling 12 = .ok (.iload_n 2, 1) := by decide +kernel
theorem dX10_planFilling_13 : decode cX10_planFilling 13 = .ok (.if_icmp .gt 19, 3) := by decide +kernel
theorem dX10_planFilling_16 : decode cX10_planFilling 16 = .ok (.aload_n 0, 1) := by decide +kernel
theorem dX10_planFilling_17 : decode cX10_planFilling 17 = .ok (.getfield 25, 3) := by decide +kernel
theorem dX10_planFilling_20 : decode cX10_planFilling 20 = .ok (.iload_n 3, 1) := by decide +kernel
theorem dX10_planFilling_21 : decode cX10_planFilling 21 = .ok (.aaload, 1) := by decide +kernel
theorem dX10_planFilling_22 : decode cX10_planFilling 22 = .ok (.iload 4, 2) := by decide +kernel
theorem dX10_planFilling_24 : decode cX10_planFilling 24 = .ok (.iconst 0, 1) := by decide +kernel
theorem dX10_planFilling_25 : decode cX10_planFilling 25 = .ok (.iastore, 1) := by decide +kernel
theorem dX10_planFilling_26 : decode cX10_planFilling 26 = .ok (.iinc 4 1, 3) := by decide +kernel
theorem dX10_planFilling_29 : decode cX10_planFilling 29 = .ok (.goto (-19), 3) := by decide +kernel
theorem dX10_planFilling_32 : decode cX10_planFilling 32 = .ok (.iload_n 3, 1) := by decide +kernel
theorem dX10_planFilling_33 : decode cX10_planFilling 33 = .ok (.iconst 1, 1) := by decide +kernel
theorem dX10_planFilling_34 : decode cX10_planFilling 34 = .ok (.isub, 1) := by decide +kernel
theorem dX10_planFilling_35 : decode cX10_planFilling 35 = .ok (.istore 4, 2) := by decide +kernel
theorem dX10_planFilling_37 : decode cX10_planFilling 37 = .ok (.iload 4, 2) := by decide +kernel
theorem dX10_planFilling_39 : decode cX10_planFilling 39 = .ok (.ifCond .lt 43, 3) := by decide +kernel
theorem dX10_planFilling_42 : decode cX10_planFilling 42 = .ok (.iconst 0, 1) := by decide +kernel
theorem dX10_planFilling_43 : decode cX10_planFilling 43 = .ok (.istore 5, 2) := by decide +kernel
theorem dX10_planFilling_45 : decode cX10_planFilling 45 = .ok (.iload 5, 2) := by decide +kernel
theorem dX10_planFilling_47 : decode cX10_planFilling 47 = .ok (.iload_n 2, 1) := by decide +kernel
theorem dX10_planFilling_48 : decode cX10_planFilling 48 = .ok (.if_icmp .gt 28, 3) := by decide +kernel
theorem dX10_planFilling_51 : decode cX10_planFilling 51 = .ok (.aload_n 0, 1) := by decide +kernel
theorem dX10_planFilling_52 : decode cX10_planFilling 52 = .ok (.iload 4, 2) := by decide +kernel
theorem dX10_planFilling_54 : decode cX10_planFilling 54 = .ok (.iload 5, 2) := by decide +kernel
theorem dX10_planFilling_56 : decode cX10_planFilling 56 = .ok (.iload_n 2, 1) := by decide +kernel
theorem dX10_planFilling_57 : decode cX10_planFilling 57 = .ok (.aload_n 0, 1) := by decide +kernel
theorem dX10_planFilling_58 : decode cX10_planFilling 58 = .ok (.getfield 20, 3) := by decide +kernel
theorem dX10_planFilling_61 : decode cX10_planFilling 61 = .ok (.iload_n 1, 1) := by decide +kernel
theorem dX10_planFilling_62 : decode cX10_planFilling 62 = .ok (.aaload, 1) := by decide +kernel
theorem dX10_planFilling_63 : decode cX10_planFilling 63 = .ok (.iload 4, 2) := by decide +kernel
theorem dX10_planFilling_65 : decode cX10_planFilling 65 = .ok (.laload, 1) := by decide +kernel
theorem dX10_planFilling_66 : decode cX10_planFilling 66 = .ok (.l2i, 1) := by decide +kernel
theorem dX10_planFilling_67 : decode cX10_planFilling 67 = .ok (.invokevirtual 35, 3) := by decide +kernel
theorem dX10_planFilling_70 : decode cX10_planFilling 70 = .ok (.iinc 5 1, 3) := by decide +kernel
theorem dX10_planFilling_73 : decode cX10_planFilling 73 = .ok (.goto (-28), 3) := by decide +kernel
theorem dX10_planFilling_76 : decode cX10_planFilling 76 = .ok (.iinc 4 (-1), 3) := by decide +kernel
theorem dX10_planFilling_79 : decode cX10_planFilling 79 = .ok (.goto (-42), 3) := by decide +kernel
theorem dX10_planFilling_82 : decode cX10_planFilling 82 = .ok (.return_, 1) := by decide +kernel
theorem dX10_planDay_0 : decode cX10_planDay 0 = .ok (.iload_n 2, 1) := by decide +kernel
theorem dX10_planDay_1 : decode cX10_planDay 1 = .ok (.ifCond .ne 7, 3) := by decide +kernel
theorem dX10_planDay_4 : decode cX10_planDay 4 = .ok (.iconst 1, 1) := by decide +kernel
theorem dX10_planDay_5 : decode cX10_planDay 5 = .ok (.goto 4, 3) := by decide +kernel
theorem dX10_planDay_8 : decode cX10_planDay 8 = .ok (.iconst 0, 1) := by decide +kernel
theorem dX10_planDay_9 : decode cX10_planDay 9 = .ok (.istore 5, 2) := by decide +kernel
theorem dX10_planDay_11 : decode cX10_planDay 11 = .ok (.iload 5, 2) := by decide +kernel
theorem dX10_planDay_13 : decode cX10_planDay 13 = .ok (.istore 6, 2) := by decide +kernel
theorem dX10_planDay_15 : decode cX10_planDay 15 = .ok (.iload 5, 2) := by decide +kernel
theorem dX10_planDay_17 : decode cX10_planDay 17 = .ok (.iload 4, 2) := by decide +kernel
theorem dX10_planDay_19 : decode cX10_planDay 19 = .ok (.imul, 1) := by decide +kernel
theorem dX10_planDay_20 : decode cX10_planDay 20 = .ok (.aload_n 0, 1) := by decide +kernel
theorem dX10_planDay_21 : decode cX10_planDay 21 = .ok (.getfield 25, 3) := by decide +kernel
theorem dX10_planDay_24 : decode cX10_planDay 24 = .ok (.iload_n 1, 1) := by decide +kernel
theorem dX10_planDay_25 : decode cX10_planDay 25 = .ok (.iconst 1, 1) := by decide +kernel
theorem dX10_planDay_26 : decode cX10_planDay 26 = .ok (.iadd, 1) := by decide +kernel
theorem dX10_planDay_27 : decode cX10_planDay 27 = .ok (.aaload, 1) := by decide +kernel
theorem dX10_planDay_28 : decode cX10_planDay 28 = .ok (.iload_n 2, 1) := by decide +kernel
theorem dX10_planDay_29 : decode cX10_planDay 29 = .ok (.iload 5, 2) := by decide +kernel
theorem dX10_planDay_31 : decode cX10_planDay 31 = .ok (.iadd, 1) := by decide +kernel
theorem dX10_planDay_32 : decode cX10_planDay 32 = .ok (.iconst 1, 1) := by decide +kernel
theorem dX10_planDay_33 : decode cX10_planDay 33 = .ok (.isub, 1) := by decide +kernel
theorem dX10_planDay_34 : decode cX10_planDay 34 = .ok (.iaload, 1) := by decide +kernel
theorem dX10_planDay_35 : decode cX10_planDay 35 = .ok (.iadd, 1) := by decide +kernel
theorem dX10_planDay_36 : decode cX10_planDay 36 = .ok (.istore 7, 2) := by decide +kernel
theorem dX10_planDay_38 : decode cX10_planDay 38 = .ok (.iload 5, 2) := by decide +kernel
theorem dX10_planDay_40 : decode cX10_planDay 40 = .ok (.iconst 1, 1) := by decide +kernel
theorem dX10_planDay_41 : decode cX10_planDay 41 = .ok (.iadd, 1) := by decide +kernel
theorem dX10_planDay_42 : decode cX10_planDay 42 = .ok (.istore 8, 2) := by decide +kernel
theorem dX10_planDay_44 : decode cX10_planDay 44 = .ok (.iload_n 2, 1) := by decide +kernel
theorem dX10_planDay_45 : decode cX10_planDay 45 = .ok (.iload 8, 2) := by decide +kernel
theorem dX10_planDay_47 : decode cX10_planDay 47 = .ok (.iadd, 1) := by decide +kernel
theorem dX10_planDay_48 : decode cX10_planDay 48 = .ok (.iload_n 3, 1) := by decide +kernel
theorem dX10_planDay_49 : decode cX10_planDay 49 = .ok (.if_icmp .gt 47, 3) := by decide +kernel
theorem dX10_planDay_52 : decode cX10_planDay 52 = .ok (.iload 8, 2) := by decide +kernel
theorem dX10_planDay_54 : decode cX10_planDay 54 = .ok (.iload 4, 2) := by decide +kernel
theorem dX10_planDay_56 : decode cX10_planDay 56 = .ok (.imul, 1) := by decide +kernel
theorem dX10_planDay_57 : decode cX10_planDay 57 = .ok (.aload_n 0, 1) := by decide +kernel
theorem dX10_planDay_58 : decode cX10_planDay 58 = .ok (.getfield 25, 3) := by decide +kernel
theorem dX10_planDay_61 : decode cX10_planDay 61 = .ok (.iload_n 1, 1) := by decide +kernel
theorem dX10_planDay_62 : decode cX10_planDay 62 = .ok (.iconst 1, 1) := by decide +kernel
theorem dX10_planDay_63 : decode cX10_planDay 63 = .ok (.iadd, 1) := by decide +kernel
theorem dX10_planDay_64 : decode cX10_planDay 64 = .ok (.aaload, 1) := by decide +kernel
theorem dX10_planDay_65 : decode cX10_planDay 65 = .ok (.iload_n 2, 1) := by decide +kernel
theorem dX10_planDay_66 : decode cX10_planDay 66 = .ok (.iload 8, 2) := by decide +kernel
theorem dX10_planDay_68 : decode cX10_planDay 68 = .ok (.iadd, 1) := by decide +kernel
theorem dX10_planDay_69 : decode cX10_planDay 69 = .ok (.iconst 1, 1) := by decide +kernel
theorem dX10_planDay_70 : decode cX10_planDay 70 = .ok (.isub, 1) := by decide +kernel
theorem dX10_planDay_71 : decode cX10_planDay 71 = .ok (.iaload, 1) := by decide +kernel
theorem dX10_planDay_72 : decode cX10_planDay 72 = .ok (.iadd, 1) := by decide +kernel
theorem dX10_planDay_73 : decode cX10_planDay 73 = .ok (.istore 9, 2) := by decide +kernel
theorem dX10_planDay_75 : decode cX10_planDay 75 = .ok (.iload 9, 2) := by decide +kernel
theorem dX10_planDay_77 : decode cX10_planDay 77 = .ok (.iload 7, 2) := by decide +kernel
theorem dX10_planDay_79 : decode cX10_planDay 79 = .ok (.if_icmp .ge 11, 3) := by decide +kernel
theorem dX10_planDay_82 : decode cX10_planDay 82 = .ok (.iload 8, 2) := by decide +kernel
theorem dX10_planDay_84 : decode cX10_planDay 84 = .ok (.istore 6, 2) := by decide +kernel
theorem dX10_planDay_86 : decode cX10_planDay 86 = .ok (.iload 9, 2) := by decide +kernel
theorem dX10_planDay_88 : decode cX10_planDay 88 = .ok (.istore 7, 2) := by decide +kernel
theorem dX10_planDay_90 : decode cX10_planDay 90 = .ok (.iinc 8 1, 3) := by decide +kernel
theorem dX10_planDay_93 : decode cX10_planDay 93 = .ok (.goto (-49), 3) := by decide +kernel
theorem dX10_planDay_96 : decode cX10_planDay 96 = .ok (.aload_n 0, 1) := by decide +kernel
theorem dX10_planDay_97 : decode cX10_planDay 97 = .ok (.getfield 25, 3) := by decide +kernel
theorem dX10_planDay_100 : decode cX10_planDay 100 = .ok (.iload_n 1, 1) := by decide +kernel
theorem dX10_planDay_101 : decode cX10_planDay 101 = .ok (.aaload, 1) := by decide +kernel
theorem dX10_planDay_102 : decode cX10_planDay 102 = .ok (.iload_n 2, 1) := by decide +kernel
theorem dX10_planDay_103 : decode cX10_planDay 103 = .ok (.iload 7, 2) := by decide +kernel
theorem dX10_planDay_105 : decode cX10_planDay 105 = .ok (.iastore, 1) := by decide +kernel
theorem dX10_planDay_106 : decode cX10_planDay 106 = .ok (.aload_n 0, 1) := by decide +kernel
theorem dX10_planDay_107 : decode cX10_planDay 107 = .ok (.getfield 28, 3) := by decide +kernel
theorem dX10_planDay_110 : decode cX10_planDay 110 = .ok (.iload_n 1, 1) := by decide +kernel
theorem dX10_planDay_111 : decode cX10_planDay 111 = .ok (.aaload, 1) := by decide +kernel
theorem dX10_planDay_112 : decode cX10_planDay 112 = .ok (.iload_n 2, 1) := by decide +kernel
theorem dX10_planDay_113 : decode cX10_planDay 113 = .ok (.iload 6, 2) := by decide +kernel
theorem dX10_planDay_115 : decode cX10_planDay 115 = .ok (.iastore, 1) := by decide +kernel
theorem dX10_planDay_116 : decode cX10_planDay 116 = .ok (.return_, 1) := by decide +kernel
theorem dX10_leastPaid_0 : decode cX10_leastPaid 0 = .ok (.aload_n 0, 1) := by decide +kernel
theorem dX10_leastPaid_1 : decode cX10_leastPaid 1 = .ok (.getfield 25, 3) := by decide +kernel
theorem dX10_leastPaid_4 : decode cX10_leastPaid 4 = .ok (.iconst 0, 1) := by decide +kernel
theorem dX10_leastPaid_5 : decode cX10_leastPaid 5 = .ok (.aaload, 1) := by decide +kernel
theorem dX10_leastPaid_6 : decode cX10_leastPaid 6 = .ok (.iload_n 1, 1) := by decide +kernel
theorem dX10_leastPaid_7 : decode cX10_leastPaid 7 = .ok (.iaload, 1) := by decide +kernel
theorem dX10_leastPaid_8 : decode cX10_leastPaid 8 = .ok (.ireturn, 1) := by decide +kernel
theorem dX10_filledOn_0 : decode cX10_filledOn 0 = .ok (.iconst 0, 1) := by decide +kernel
theorem dX10_filledOn_1 : decode cX10_filledOn 1 = .ok (.istore_n 3, 1) := by decide +kernel
theorem dX10_filledOn_2 : decode cX10_filledOn 2 = .ok (.iload_n 3, 1) := by decide +kernel
theorem dX10_filledOn_3 : decode cX10_filledOn 3 = .ok (.iload_n 1, 1) := by decide +kernel
theorem dX10_filledOn_4 : decode cX10_filledOn 4 = .ok (.if_icmp .ge 22, 3) := by decide +kernel
theorem dX10_filledOn_7 : decode cX10_filledOn 7 = .ok (.iload_n 2, 1) := by decide +kernel
theorem dX10_filledOn_8 : decode cX10_filledOn 8 = .ok (.aload_n 0, 1) := by decide +kernel
theorem dX10_filledOn_9 : decode cX10_filledOn 9 = .ok (.getfield 28, 3) := by decide +kernel
theorem dX10_filledOn_12 : decode cX10_filledOn 12 = .ok (.iload_n 3, 1) := by decide +kernel
theorem dX10_filledOn_13 : decode cX10_filledOn 13 = .ok (.aaload, 1) := by decide +kernel
theorem dX10_filledOn_14 : decode cX10_filledOn 14 = .ok (.iload_n 2, 1) := by decide +kernel
theorem dX10_filledOn_15 : decode cX10_filledOn 15 = .ok (.iaload, 1) := by decide +kernel
theorem dX10_filledOn_16 : decode cX10_filledOn 16 = .ok (.iconst 1, 1) := by decide +kernel
theorem dX10_filledOn_17 : decode cX10_filledOn 17 = .ok (.isub, 1) := by decide +kernel
theorem dX10_filledOn_18 : decode cX10_filledOn 18 = .ok (.iadd, 1) := by decide +kernel
theorem dX10_filledOn_19 : decode cX10_filledOn 19 = .ok (.istore_n 2, 1) := by decide +kernel
theorem dX10_filledOn_20 : decode cX10_filledOn 20 = .ok (.iinc 3 1, 3) := by decide +kernel
theorem dX10_filledOn_23 : decode cX10_filledOn 23 = .ok (.goto (-21), 3) := by decide +kernel
theorem dX10_filledOn_26 : decode cX10_filledOn 26 = .ok (.aload_n 0, 1) := by decide +kernel
theorem dX10_filledOn_27 : decode cX10_filledOn 27 = .ok (.getfield 28, 3) := by decide +kernel
theorem dX10_filledOn_30 : decode cX10_filledOn 30 = .ok (.iload_n 1, 1) := by decide +kernel
theorem dX10_filledOn_31 : decode cX10_filledOn 31 = .ok (.aaload, 1) := by decide +kernel
theorem dX10_filledOn_32 : decode cX10_filledOn 32 = .ok (.iload_n 2, 1) := by decide +kernel
theorem dX10_filledOn_33 : decode cX10_filledOn 33 = .ok (.iaload, 1) := by decide +kernel
theorem dX10_filledOn_34 : decode cX10_filledOn 34 = .ok (.ireturn, 1) := by decide +kernel
theorem dX11_init_0 : decode cX11_init 0 = .ok (.aload_n 0, 1) := by decide +kernel
theorem dX11_init_1 : decode cX11_init 1 = .ok (.invokespecial 1, 3) := by decide +kernel
theorem dX11_init_4 : decode cX11_init 4 = .ok (.aload_n 0, 1) := by decide +kernel
theorem dX11_init_5 : decode cX11_init 5 = .ok (.new 7, 3) := by decide +kernel
theorem dX11_init_8 : decode cX11_init 8 = .ok (.dup, 1) := by decide +kernel
theorem dX11_init_9 : decode cX11_init 9 = .ok (.invokespecial 9, 3) := by decide +kernel
theorem dX11_init_12 : decode cX11_init 12 = .ok (.putfield 10, 3) := by decide +kernel
theorem dX11_init_15 : decode cX11_init 15 = .ok (.aload_n 0, 1) := by decide +kernel
theorem dX11_init_16 : decode cX11_init 16 = .ok (.iconst 3, 1) := by decide +kernel
theorem dX11_init_17 : decode cX11_init 17 = .ok (.anewarray 7, 3) := by decide +kernel
theorem dX11_init_20 : decode cX11_init 20 = .ok (.putfield 16, 3) := by decide +kernel
theorem dX11_init_23 : decode cX11_init 23 = .ok (.aload_n 0, 1) := by decide +kernel
theorem dX11_init_24 : decode cX11_init 24 = .ok (.new 20, 3) := by decide +kernel
theorem dX11_init_27 : decode cX11_init 27 = .ok (.dup, 1) := by decide +kernel
theorem dX11_init_28 : decode cX11_init 28 = .ok (.invokespecial 22, 3) := by decide +kernel
theorem dX11_init_31 : decode cX11_init 31 = .ok (.putfield 23, 3) := by decide +kernel
theorem dX11_init_34 : decode cX11_init 34 = .ok (.aload_n 0, 1) := by decide +kernel
theorem dX11_init_35 : decode cX11_init 35 = .ok (.new 27, 3) := by decide +kernel
theorem dX11_init_38 : decode cX11_init 38 = .ok (.dup, 1) := by decide +kernel
theorem dX11_init_39 : decode cX11_init 39 = .ok (.invokespecial 29, 3) := by decide +kernel
theorem dX11_init_42 : decode cX11_init 42 = .ok (.putfield 30, 3) := by decide +kernel
theorem dX11_init_45 : decode cX11_init 45 = .ok (.aload_n 0, 1) := by decide +kernel
theorem dX11_init_46 : decode cX11_init 46 = .ok (.new 34, 3) := by decide +kernel
theorem dX11_init_49 : decode cX11_init 49 = .ok (.dup, 1) := by decide +kernel
theorem dX11_init_50 : decode cX11_init 50 = .ok (.invokespecial 36, 3) := by decide +kernel
theorem dX11_init_53 : decode cX11_init 53 = .ok (.putfield 37, 3) := by decide +kernel
theorem dX11_init_56 : decode cX11_init 56 = .ok (.aload_n 0, 1) := by decide +kernel
theorem dX11_init_57 : decode cX11_init 57 = .ok (.new 41, 3) := by decide +kernel
theorem dX11_init_60 : decode cX11_init 60 = .ok (.dup, 1) := by decide +kernel
theorem dX11_init_61 : decode cX11_init 61 = .ok (.invokespecial 43, 3) := by decide +kernel
theorem dX11_init_64 : decode cX11_init 64 = .ok (.putfield 44, 3) := by decide +kernel
theorem dX11_init_67 : decode cX11_init 67 = .ok (.return_, 1) := by decide +kernel
theorem dX11_station_0 : decode cX11_station 0 = .ok (.aload_n 0, 1) := by decide +kernel
theorem dX11_station_1 : decode cX11_station 1 = .ok (.getfield 10, 3) := by decide +kernel
theorem dX11_station_4 : decode cX11_station 4 = .ok (.getfield 48, 3) := by decide +kernel
theorem dX11_station_7 : decode cX11_station 7 = .ok (.getfield 52, 3) := by decide +kernel
theorem dX11_station_10 : decode cX11_station 10 = .ok (.ifCond .gt 16, 3) := by decide +kernel
theorem dX11_station_13 : decode cX11_station 13 = .ok (.aload_n 0, 1) := by decide +kernel
theorem dX11_station_14 : decode cX11_station 14 = .ok (.getfield 10, 3) := by decide +kernel
theorem dX11_station_17 : decode cX11_station 17 = .ok (.getfield 58, 3) := by decide +kernel
theorem dX11_station_20 : decode cX11_station 20 = .ok (.getfield 52, 3) := by decide +kernel
theorem dX11_station_23 : decode cX11_station 23 = .ok (.ifCond .le 13, 3) := by decide +kernel
theorem dX11_station_26 : decode cX11_station 26 = .ok (.new 61, 3) := by decide +kernel
theorem dX11_station_29 : decode cX11_station 29 = .ok (.dup, 1) := by decide +kernel
theorem dX11_station_30 : decode cX11_station 30 = .ok (.ldc 63, 2) := by decide +kernel
theorem dX11_station_32 : decode cX11_station 32 = .ok (.invokespecial 65, 3) := by decide +kernel
theorem dX11_station_35 : decode cX11_station 35 = .ok (.athrow, 1) := by decide +kernel
theorem dX11_station_36 : decode cX11_station 36 = .ok (.aload_n 0, 1) := by decide +kernel
theorem dX11_station_37 : decode cX11_station 37 = .ok (.iload_n 1, 1) := by decide +kernel
theorem dX11_station_38 : decode cX11_station 38 = .ok (.invokevirtual 68, 3) := by decide +kernel
theorem dX11_station_41 : decode cX11_station 41 = .ok (.aload_n 0, 1) := by decide +kernel
theorem dX11_station_42 : decode cX11_station 42 = .ok (.iload_n 2, 1) := by decide +kernel
theorem dX11_station_43 : decode cX11_station 43 = .ok (.invokevirtual 68, 3) := by decide +kernel
theorem dX11_station_46 : decode cX11_station 46 = .ok (.aload_n 0, 1) := by decide +kernel
theorem dX11_station_47 : decode cX11_station 47 = .ok (.iload_n 3, 1) := by decide +kernel
theorem dX11_station_48 : decode cX11_station 48 = .ok (.iconst 0, 1) := by decide +kernel
theorem dX11_station_49 : decode cX11_station 49 = .ok (.iconst 3, 1) := by decide +kernel
theorem dX11_station_50 : decode cX11_station 50 = .ok (.invokevirtual 72, 3) := by decide +kernel
theorem dX11_station_53 : decode cX11_station 53 = .ok (.aload_n 0, 1) := by decide +kernel
theorem dX11_station_54 : decode cX11_station 54 = .ok (.getfield 10, 3) := by decide +kernel
theorem dX11_station_57 : decode cX11_station 57 = .ok (.iload_n 1, 1) := by decide +kernel
theorem dX11_station_58 : decode cX11_station 58 = .ok (.iload_n 2, 1) := by decide +kernel
theorem dX11_station_59 : decode cX11_station 59 = .ok (.iload_n 3, 1) := by decide +kernel
theorem dX11_station_60 : decode cX11_station 60 = .ok (.invokevirtual 76, 3) := by decide +kernel
theorem dX11_station_63 : decode cX11_station 63 = .ok (.ireturn, 1) := by decide +kernel
theorem dX11_driver_0 : decode cX11_driver 0 = .ok (.aload_n 0, 1) := by decide +kernel
theorem dX11_driver_1 : decode cX11_driver 1 = .ok (.iload_n 2, 1) := by decide +kernel
theorem dX11_driver_2 : decode cX11_driver 2 = .ok (.invokevirtual 80, 3) := by decide +kernel
theorem dX11_driver_5 : decode cX11_driver 5 = .ok (.aload_n 0, 1) := by decide +kernel
theorem dX11_driver_6 : decode cX11_driver 6 = .ok (.iload_n 1, 1) := by decide +kernel
theorem dX11_driver_7 : decode cX11_driver 7 = .ok (.iconst 1, 1) := by decide +kernel
theorem dX11_driver_8 : decode cX11_driver 8 = .ok (.bipush 99, 2) := by decide +kernel
theorem dX11_driver_10 : decode cX11_driver 10 = .ok (.invokevirtual 72, 3) := by decide +kernel
theorem dX11_driver_13 : decode cX11_driver 13 = .ok (.aload_n 0, 1) := by decide +kernel
theorem dX11_driver_14 : decode cX11_driver 14 = .ok (.iload_n 3, 1) := by decide +kernel
theorem dX11_driver_15 : decode cX11_driver 15 = .ok (.iconst 0, 1) := by decide +kernel
theorem dX11_driver_16 : decode cX11_driver 16 = .ok (.iconst 1, 1) := by decide +kernel
theorem dX11_driver_17 : decode cX11_driver 17 = .ok (.aload_n 0, 1) := by decide +kernel
theorem dX11_driver_18 : decode cX11_driver 18 = .ok (.getfield 10, 3) := by decide +kernel
theorem dX11_driver_21 : decode cX11_driver 21 = .ok (.getfield 83, 3) := by decide +kernel
theorem dX11_driver_24 : decode cX11_driver 24 = .ok (.ishl, 1) := by decide +kernel
theorem dX11_driver_25 : decode cX11_driver 25 = .ok (.iconst 1, 1) := by decide +kernel
theorem dX11_driver_26 : decode cX11_driver 26 = .ok (.isub, 1) := by decide +kernel
theorem dX11_driver_27 : decode cX11_driver 27 = .ok (.invokevirtual 72, 3) := by decide +kernel
theorem dX11_driver_30 : decode cX11_driver 30 = .ok (.aload_n 0, 1) := by decide +kernel
theorem dX11_driver_31 : decode cX11_driver 31 = .ok (.iload 4, 2) := by decide +kernel
theorem dX11_driver_33 : decode cX11_driver 33 = .ok (.iconst 0, 1) := by decide +kernel
theorem dX11_driver_34 : decode cX11_driver 34 = .ok (.bipush 20, 2) := by decide +kernel
theorem dX11_driver_36 : decode cX11_driver 36 = .ok (.invokevirtual 72, 3) := by decide +kernel
theorem dX11_driver_39 : decode cX11_driver 39 = .ok (.aload_n 0, 1) := by decide +kernel
theorem dX11_driver_40 : decode cX11_driver 40 = .ok (.getfield 10, 3) := by decide +kernel
theorem dX11_driver_43 : decode cX11_driver 43 = .ok (.getfield 86, 3) := by decide +kernel
theorem dX11_driver_46 : decode cX11_driver 46 = .ok (.iload_n 1, 1) := by decide +kernel
theorem dX11_driver_47 : decode cX11_driver 47 = .ok (.iload_n 2, 1) := by decide +kernel
theorem dX11_driver_48 : decode cX11_driver 48 = .ok (.iload_n 3, 1) := by decide +kernel
theorem dX11_driver_49 : decode cX11_driver 49 = .ok (.iload 4, 2) := by decide +kernel
theorem dX11_driver_51 : decode cX11_driver 51 = .ok (.invokevirtual 90, 3) := by decide +kernel
theorem dX11_driver_54 : decode cX11_driver 54 = .ok (.ireturn, 1) := by decide +kernel
theorem dX11_cost_0 : decode cX11_cost 0 = .ok (.aload_n 0, 1) := by decide +kernel
theorem dX11_cost_1 : decode cX11_cost 1 = .ok (.iload_n 1, 1) := by decide +kernel
theorem dX11_cost_2 : decode cX11_cost 2 = .ok (.invokevirtual 80, 3) := by decide +kernel
theorem dX11_cost_5 : decode cX11_cost 5 = .ok (.aload_n 0, 1) := by decide +kernel
theorem dX11_cost_6 : decode cX11_cost 6 = .ok (.iload_n 2, 1) := by decide +kernel
theorem dX11_cost_7 : decode cX11_cost 7 = .ok (.invokevirtual 68, 3) := by decide +kernel
theorem dX11_cost_10 : decode cX11_cost 10 = .ok (.aload_n 0, 1) := by decide +kernel
theorem dX11_cost_11 : decode cX11_cost 11 = .ok (.getfield 10, 3) := by decide +kernel
theorem dX11_cost_14 : decode cX11_cost 14 = .ok (.getfield 96, 3) := by decide +kernel
theorem dX11_cost_17 : decode cX11_cost 17 = .ok (.iload_n 1, 1) := by decide +kernel
theorem dX11_cost_18 : decode cX11_cost 18 = .ok (.iaload, 1) := by decide +kernel
theorem dX11_cost_19 : decode cX11_cost 19 = .ok (.istore_n 3, 1) := by decide +kernel
theorem dX11_cost_20 : decode cX11_cost 20 = .ok (.iload_n 2, 1) := by decide +kernel
theorem dX11_cost_21 : decode cX11_cost 21 = .ok (.iload_n 3, 1) := by decide +kernel
theorem dX11_cost_22 : decode cX11_cost 22 = .ok (.if_icmp .eq 27, 3) := by decide +kernel
theorem dX11_cost_25 : decode cX11_cost 25 = .ok (.aload_n 0, 1) := by decide +kernel
theorem dX11_cost_26 : decode cX11_cost 26 = .ok (.getfield 10, 3) := by decide +kernel
theorem dX11_cost_29 : decode cX11_cost 29 = .ok (.getfield 100, 3) := by decide +kernel
theorem dX11_cost_32 : decode cX11_cost 32 = .ok (.iload_n 1, 1) := by decide +kernel
theorem dX11_cost_33 : decode cX11_cost 33 = .ok (.aload_n 0, 1) := by decide +kernel
theorem dX11_cost_34 : decode cX11_cost 34 = .ok (.getfield 10, 3) := by decide +kernel
theorem dX11_cost_37 : decode cX11_cost 37 = .ok (.getfield 48, 3) := by decide +kernel
theorem dX11_cost_40 : decode cX11_cost 40 = .ok (.getfield 52, 3) := by decide +kernel
theorem dX11_cost_43 : decode cX11_cost 43 = .ok (.iload_n 2, 1) := by decide +kernel
theorem dX11_cost_44 : decode cX11_cost 44 = .ok (.iload_n 3, 1) := by decide +kernel
theorem dX11_cost_45 : decode cX11_cost 45 = .ok (.isub, 1) := by decide +kernel
theorem dX11_cost_46 : decode cX11_cost 46 = .ok (.invokevirtual 104, 3) := by decide +kernel
theorem dX11_cost_49 : decode cX11_cost 49 = .ok (.aload_n 0, 1) := by decide +kernel
theorem dX11_cost_50 : decode cX11_cost 50 = .ok (.getfield 10, 3) := by decide +kernel
theorem dX11_cost_53 : decode cX11_cost 53 = .ok (.getfield 96, 3) := by decide +kernel
theorem dX11_cost_56 : decode cX11_cost 56 = .ok (.iload_n 1, 1) := by decide +kernel
theorem dX11_cost_57 : decode cX11_cost 57 = .ok (.iload_n 2, 1) := by decide +kernel
theorem dX11_cost_58 : decode cX11_cost 58 = .ok (.iastore, 1) := by decide +kernel
theorem dX11_cost_59 : decode cX11_cost 59 = .ok (.iload_n 3, 1) := by decide +kernel
theorem dX11_cost_60 : decode cX11_cost 60 = .ok (.ireturn, 1) := by decide +kernel
theorem dX11_late_0 : decode cX11_late 0 = .ok (.aload_n 0, 1) := by decide +kernel
theorem dX11_late_1 : decode cX11_late 1 = .ok (.iload_n 1, 1) := by decide +kernel
theorem dX11_late_2 : decode cX11_late 2 = .ok (.invokevirtual 80, 3) := by decide +kernel
theorem dX11_late_5 : decode cX11_late 5 = .ok (.aload_n 0, 1) := by decide +kernel
theorem dX11_late_6 : decode cX11_late 6 = .ok (.iload_n 2, 1) := by decide +kernel
theorem dX11_late_7 : decode cX11_late 7 = .ok (.iconst 0, 1) := by decide +kernel
theorem dX11_late_8 : decode cX11_late 8 = .ok (.iconst 3, 1) := by decide +kernel
theorem dX11_late_9 : decode cX11_late 9 = .ok (.invokevirtual 72, 3) := by decide +kernel
theorem dX11_late_12 : decode cX11_late 12 = .ok (.aload_n 0, 1) := by decide +kernel
theorem dX11_late_13 : decode cX11_late 13 = .ok (.getfield 10, 3) := by decide +kernel
theorem dX11_late_16 : decode cX11_late 16 = .ok (.getfield 108, 3) := by decide +kernel
theorem dX11_late_19 : decode cX11_late 19 = .ok (.iload_n 1, 1) := by decide +kernel
theorem dX11_late_20 : decode cX11_late 20 = .ok (.iaload, 1) := by decide +kernel
theorem dX11_late_21 : decode cX11_late 21 = .ok (.istore_n 3, 1) := by decide +kernel
theorem dX11_late_22 : decode cX11_late 22 = .ok (.aload_n 0, 1) := by decide +kernel
theorem dX11_late_23 : decode cX11_late 23 = .ok (.getfield 10, 3) := by decide +kernel
theorem dX11_late_26 : decode cX11_late 26 = .ok (.getfield 108, 3) := by decide +kernel
theorem dX11_late_29 : decode cX11_late 29 = .ok (.iload_n 1, 1) := by decide +kernel
theorem dX11_late_30 : decode cX11_late 30 = .ok (.iload_n 2, 1) := by decide +kernel
theorem dX11_late_31 : decode cX11_late 31 = .ok (.iastore, 1) := by decide +kernel
theorem dX11_late_32 : decode cX11_late 32 = .ok (.iload_n 3, 1) := by decide +kernel
theorem dX11_late_33 : decode cX11_late 33 = .ok (.ireturn, 1) := by decide +kernel
theorem dX11_feed_0 : decode cX11_feed 0 = .ok (.aload_n 0, 1) := by decide +kernel
theorem dX11_feed_1 : decode cX11_feed 1 = .ok (.getfield 23, 3) := by decide +kernel
theorem dX11_feed_4 : decode cX11_feed 4 = .ok (.invokevirtual 111, 3) := by decide +kernel
theorem dX11_feed_7 : decode cX11_feed 7 = .ok (.ifCond .ne 5, 3) := by decide +kernel
theorem dX11_feed_10 : decode cX11_feed 10 = .ok (.iconst (-1), 1) := by decide +kernel
theorem dX11_feed_11 : decode cX11_feed 11 = .ok (.ireturn, 1) := by decide +kernel
theorem dX11_feed_12 : decode cX11_feed 12 = .ok (.aload_n 0, 1) := by decide +kernel
theorem dX11_feed_13 : decode cX11_feed 13 = .ok (.getfield 23, 3) := by decide +kernel
theorem dX11_feed_16 : decode cX11_feed 16 = .ok (.iload_n 1, 1) := by decide +kernel
theorem dX11_feed_17 : decode cX11_feed 17 = .ok (.invokevirtual 115, 3) := by decide +kernel
theorem dX11_feed_20 : decode cX11_feed 20 = .ok (.aload_n 0, 1) := by decide +kernel
theorem dX11_feed_21 : decode cX11_feed 21 = .ok (.getfield 23, 3) := by decide +kernel
theorem dX11_feed_24 : decode cX11_feed 24 = .ok (.iload_n 2, 1) := by decide +kernel
theorem dX11_feed_25 : decode cX11_feed 25 = .ok (.invokevirtual 115, 3) := by decide +kernel
theorem dX11_feed_28 : decode cX11_feed 28 = .ok (.aload_n 0, 1) := by decide +kernel
theorem dX11_feed_29 : decode cX11_feed 29 = .ok (.getfield 23, 3) := by decide +kernel
theorem dX11_feed_32 : decode cX11_feed 32 = .ok (.iload_n 3, 1) := by decide +kernel
theorem dX11_feed_33 : decode cX11_feed 33 = .ok (.invokevirtual 115, 3) := by decide +kernel
theorem dX11_feed_36 : decode cX11_feed 36 = .ok (.aload_n 0, 1) := by decide +kernel
theorem dX11_feed_37 : decode cX11_feed 37 = .ok (.getfield 23, 3) := by decide +kernel
theorem dX11_feed_40 : decode cX11_feed 40 = .ok (.iload 4, 2) := by decide +kernel
theorem dX11_feed_42 : decode cX11_feed 42 = .ok (.invokevirtual 115, 3) := by decide +kernel
theorem dX11_feed_45 : decode cX11_feed 45 = .ok (.aload_n 0, 1) := by decide +kernel
theorem dX11_feed_46 : decode cX11_feed 46 = .ok (.getfield 23, 3) := by decide +kernel
theorem dX11_feed_49 : decode cX11_feed 49 = .ok (.iload 5, 2) := by decide +kernel
theorem dX11_feed_51 : decode cX11_feed 51 = .ok (.invokevirtual 115, 3) := by decide +kernel
theorem dX11_feed_54 : decode cX11_feed 54 = .ok (.aload_n 0, 1) := by decide +kernel
theorem dX11_feed_55 : decode cX11_feed 55 = .ok (.getfield 23, 3) := by decide +kernel
theorem dX11_feed_58 : decode cX11_feed 58 = .ok (.getfield 118, 3) := by decide +kernel
theorem dX11_feed_61 : decode cX11_feed 61 = .ok (.ireturn, 1) := by decide +kernel
theorem dX11_rules_0 : decode cX11_rules 0 = .ok (.aload_n 0, 1) := by decide +kernel
theorem dX11_rules_1 : decode cX11_rules 1 = .ok (.iload_n 1, 1) := by decide +kernel
theorem dX11_rules_2 : decode cX11_rules 2 = .ok (.invokevirtual 80, 3) := by decide +kernel
theorem dX11_rules_5 : decode cX11_rules 5 = .ok (.aload_n 0, 1) := by decide +kernel
theorem dX11_rules_6 : decode cX11_rules 6 = .ok (.iload_n 2, 1) := by decide +kernel
theorem dX11_rules_7 : decode cX11_rules 7 = .ok (.iconst 0, 1) := by decide +kernel
theorem dX11_rules_8 : decode cX11_rules 8 = .ok (.aload_n 0, 1) := by decide +kernel
theorem dX11_rules_9 : decode cX11_rules 9 = .ok (.getfield 23, 3) := by decide +kernel
theorem dX11_rules_12 : decode cX11_rules 12 = .ok (.getfield 118, 3) := by decide +kernel
theorem dX11_rules_15 : decode cX11_rules 15 = .ok (.invokevirtual 72, 3) := by decide +kernel
theorem dX11_rules_18 : decode cX11_rules 18 = .ok (.aload_n 0, 1) := by decide +kernel
theorem dX11_rules_19 : decode cX11_rules 19 = .ok (.getfield 23, 3) := by decide +kernel
theorem dX11_rules_22 : decode cX11_rules 22 = .ok (.iload_n 2, 1) := by decide +kernel
theorem dX11_rules_23 : decode cX11_rules 23 = .ok (.iconst 1, 1) := by decide +kernel
theorem dX11_rules_24 : decode cX11_rules 24 = .ok (.invokevirtual 121, 3) := by decide +kernel
theorem dX11_rules_27 : decode cX11_rules 27 = .ok (.aload_n 0, 1) := by decide +kernel
theorem dX11_rules_28 : decode cX11_rules 28 = .ok (.getfield 23, 3) := by decide +kernel
theorem dX11_rules_31 : decode cX11_rules 31 = .ok (.getfield 125, 3) := by decide +kernel
theorem dX11_rules_34 : decode cX11_rules 34 = .ok (.ifCond .ne 23, 3) := by decide +kernel
theorem dX11_rules_37 : decode cX11_rules 37 = .ok (.aload_n 0, 1) := by decide +kernel
theorem dX11_rules_38 : decode cX11_rules 38 = .ok (.getfield 10, 3) := by decide +kernel
theorem dX11_rules_41 : decode cX11_rules 41 = .ok (.getfield 128, 3) := by decide +kernel
theorem dX11_rules_44 : decode cX11_rules 44 = .ok (.iload_n 1, 1) := by decide +kernel
theorem dX11_rules_45 : decode cX11_rules 45 = .ok (.new 132, 3) := by decide +kernel
theorem dX11_rules_48 : decode cX11_rules 48 = .ok (.dup, 1) := by decide +kernel
theorem dX11_rules_49 : decode cX11_rules 49 = .ok (.aload_n 0, 1) := by decide +kernel
theorem dX11_rules_50 : decode cX11_rules 50 = .ok (.getfield 23, 3) := by decide +kernel
theorem dX11_rules_53 : decode cX11_rules 53 = .ok (.invokespecial 134, 3) := by decide +kernel
theorem dX11_rules_56 : decode cX11_rules 56 = .ok (.aastore, 1) := by decide +kernel
theorem dX11_rules_57 : decode cX11_rules 57 = .ok (.aload_n 0, 1) := by decide +kernel
theorem dX11_rules_58 : decode cX11_rules 58 = .ok (.getfield 23, 3) := by decide +kernel
theorem dX11_rules_61 : decode cX11_rules 61 = .ok (.invokevirtual 137, 3) := by decide +kernel
theorem dX11_rules_64 : decode cX11_rules 64 = .ok (.ireturn, 1) := by decide +kernel
theorem dX11_law_0 : decode cX11_law 0 = .ok (.aload_n 0, 1) := by decide +kernel
theorem dX11_law_1 : decode cX11_law 1 = .ok (.iload_n 1, 1) := by decide +kernel
theorem dX11_law_2 : decode cX11_law 2 = .ok (.iconst 0, 1) := by decide +kernel
theorem dX11_law_3 : decode cX11_law 3 = .ok (.aload_n 0, 1) := by decide +kernel
theorem dX11_law_4 : decode cX11_law 4 = .ok (.getfield 23, 3) := by decide +kernel
theorem dX11_law_7 : decode cX11_law 7 = .ok (.getfield 118, 3) := by decide +kernel
theorem dX11_law_10 : decode cX11_law 10 = .ok (.invokevirtual 72, 3) := by decide +kernel
theorem dX11_law_13 : decode cX11_law 13 = .ok (.aload_n 0, 1) := by decide +kernel
theorem dX11_law_14 : decode cX11_law 14 = .ok (.getfield 23, 3) := by decide +kernel
theorem dX11_law_17 : decode cX11_law 17 = .ok (.iload_n 1, 1) := by decide +kernel
theorem dX11_law_18 : decode cX11_law 18 = .ok (.iconst 0, 1) := by decide +kernel
theorem dX11_law_19 : decode cX11_law 19 = .ok (.invokevirtual 121, 3) := by decide +kernel
theorem dX11_law_22 : decode cX11_law 22 = .ok (.aload_n 0, 1) := by decide +kernel
theorem dX11_law_23 : decode cX11_law 23 = .ok (.getfield 23, 3) := by decide +kernel
theorem dX11_law_26 : decode cX11_law 26 = .ok (.getfield 125, 3) := by decide +kernel
theorem dX11_law_29 : decode cX11_law 29 = .ok (.ifCond .ne 21, 3) := by decide +kernel
theorem dX11_law_32 : decode cX11_law 32 = .ok (.aload_n 0, 1) := by decide +kernel
theorem dX11_law_33 : decode cX11_law 33 = .ok (.getfield 10, 3) := by decide +kernel
theorem dX11_law_36 : decode cX11_law 36 = .ok (.new 141, 3) := by decide +kernel
theorem dX11_law_39 : decode cX11_law 39 = .ok (.dup, 1) := by decide +kernel
theorem dX11_law_40 : decode cX11_law 40 = .ok (.aload_n 0, 1) := by decide +kernel
theorem dX11_law_41 : decode cX11_law 41 = .ok (.getfield 23, 3) := by decide +kernel
theorem dX11_law_44 : decode cX11_law 44 = .ok (.invokespecial 143, 3) := by decide +kernel
theorem dX11_law_47 : decode cX11_law 47 = .ok (.putfield 144, 3) := by decide +kernel
theorem dX11_law_50 : decode cX11_law 50 = .ok (.aload_n 0, 1) := by decide +kernel
theorem dX11_law_51 : decode cX11_law 51 = .ok (.getfield 23, 3) := by decide +kernel
theorem dX11_law_54 : decode cX11_law 54 = .ok (.invokevirtual 137, 3) := by decide +kernel
theorem dX11_law_57 : decode cX11_law 57 = .ok (.ireturn, 1) := by decide +kernel
theorem dX11_fault_0 : decode cX11_fault 0 = .ok (.iload_n 1, 1) := by decide +kernel
theorem dX11_fault_1 : decode cX11_fault 1 = .ok (.lookupswitch 43 #[(0, 27), (1, 35)], 27) := by decide +kernel
theorem dX11_fault_28 : decode cX11_fault 28 = .ok (.aload_n 0, 1) := by decide +kernel
theorem dX11_fault_29 : decode cX11_fault 29 = .ok (.getfield 23, 3) := by decide +kernel
theorem dX11_fault_32 : decode cX11_fault 32 = .ok (.getfield 125, 3) := by decide +kernel
theorem dX11_fault_35 : decode cX11_fault 35 = .ok (.ireturn, 1) := by decide +kernel
theorem dX11_fault_36 : decode cX11_fault 36 = .ok (.aload_n 0, 1) := by decide +kernel
theorem dX11_fault_37 : decode cX11_fault 37 = .ok (.getfield 23, 3) := by decide +kernel
theorem dX11_fault_40 : decode cX11_fault 40 = .ok (.getfield 148, 3) := by decide +kernel
theorem dX11_fault_43 : decode cX11_fault 43 = .ok (.ireturn, 1) := by decide +kernel
theorem dX11_fault_44 : decode cX11_fault 44 = .ok (.iconst (-1), 1) := by decide +kernel
theorem dX11_fault_45 : decode cX11_fault 45 = .ok (.ireturn, 1) := by decide +kernel
theorem dX11_run_0 : decode cX11_run 0 = .ok (.aload_n 0, 1) := by decide +kernel
theorem dX11_run_1 : decode cX11_run 1 = .ok (.iload_n 1, 1) := by decide +kernel
theorem dX11_run_2 : decode cX11_run 2 = .ok (.iconst 0, 1) := by decide +kernel
theorem dX11_run_3 : decode cX11_run 3 = .ok (.sipush 300, 3) := by decide +kernel
theorem dX11_run_6 : decode cX11_run 6 = .ok (.invokevirtual 72, 3) := by decide +kernel
theorem dX11_run_9 : decode cX11_run 9 = .ok (.iload_n 1, 1) := by decide +kernel
theorem dX11_run_10 : decode cX11_run 10 = .ok (.sipush 3000, 3) := by decide +kernel
theorem dX11_run_13 : decode cX11_run 13 = .ok (.aload_n 0, 1) := by decide +kernel
theorem dX11_run_14 : decode cX11_run 14 = .ok (.getfield 10, 3) := by decide +kernel
theorem dX11_run_17 : decode cX11_run 17 = .ok (.getfield 48, 3) := by decide +kernel
theorem dX11_run_20 : decode cX11_run 20 = .ok (.getfield 52, 3) := by decide +kernel
theorem dX11_run_23 : decode cX11_run 23 = .ok (.isub, 1) := by decide +kernel
theorem dX11_run_24 : decode cX11_run 24 = .ok (.invokestatic 151, 3) := by decide +kernel
theorem dX11_run_27 : decode cX11_run 27 = .ok (.istore_n 2, 1) := by decide +kernel
theorem dX11_run_28 : decode cX11_run 28 = .ok (.iconst 0, 1) := by decide +kernel
theorem dX11_run_29 : decode cX11_run 29 = .ok (.istore_n 3, 1) := by decide +kernel
theorem dX11_run_30 : decode cX11_run 30 = .ok (.iload_n 3, 1) := by decide +kernel
theorem dX11_run_31 : decode cX11_run 31 = .ok (.iload_n 2, 1) := by decide +kernel
theorem dX11_run_32 : decode cX11_run 32 = .ok (.if_icmp .ge 16, 3) := by decide +kernel
theorem dX11_run_35 : decode cX11_run 35 = .ok (.aload_n 0, 1) := by decide +kernel
theorem dX11_run_36 : decode cX11_run 36 = .ok (.getfield 10, 3) := by decide +kernel
theorem dX11_run_39 : decode cX11_run 39 = .ok (.invokevirtual 157, 3) := by decide +kernel
theorem dX11_run_42 : decode cX11_run 42 = .ok (.iinc 3 1, 3) := by decide +kernel
theorem dX11_run_45 : decode cX11_run 45 = .ok (.goto (-15), 3) := by decide +kernel
theorem dX11_run_48 : decode cX11_run 48 = .ok (.iload_n 2, 1) := by decide +kernel
theorem dX11_run_49 : decode cX11_run 49 = .ok (.ireturn, 1) := by decide +kernel
theorem dX11_price_0 : decode cX11_price 0 = .ok (.aload_n 0, 1) := by decide +kernel
theorem dX11_price_1 : decode cX11_price 1 = .ok (.iload_n 1, 1) := by decide +kernel
theorem dX11_price_2 : decode cX11_price 2 = .ok (.invokevirtual 80, 3) := by decide +kernel
theorem dX11_price_5 : decode cX11_price 5 = .ok (.aload_n 0, 1) := by decide +kernel
theorem dX11_price_6 : decode cX11_price 6 = .ok (.getfield 10, 3) := by decide +kernel
theorem dX11_price_9 : decode cX11_price 9 = .ok (.iload_n 1, 1) := by decide +kernel
theorem dX11_price_10 : decode cX11_price 10 = .ok (.invokevirtual 160, 3) := by decide +kernel
theorem dX11_price_13 : decode cX11_price 13 = .ok (.ireturn, 1) := by decide +kernel
theorem dX11_board_0 : decode cX11_board 0 = .ok (.aload_n 0, 1) := by decide +kernel
theorem dX11_board_1 : decode cX11_board 1 = .ok (.iload_n 1, 1) := by decide +kernel
theorem dX11_board_2 : decode cX11_board 2 = .ok (.invokevirtual 80, 3) := by decide +kernel
theorem dX11_board_5 : decode cX11_board 5 = .ok (.aload_n 0, 1) := by decide +kernel
theorem dX11_board_6 : decode cX11_board 6 = .ok (.getfield 10, 3) := by decide +kernel
theorem dX11_board_9 : decode cX11_board 9 = .ok (.getfield 48, 3) := by decide +kernel
theorem dX11_board_12 : decode cX11_board 12 = .ok (.iload_n 2, 1) := by decide +kernel
theorem dX11_board_13 : decode cX11_board 13 = .ok (.invokevirtual 164, 3) := by decide +kernel
theorem dX11_board_16 : decode cX11_board 16 = .ok (.ifCond .ne 13, 3) := by decide +kernel
theorem dX11_board_19 : decode cX11_board 19 = .ok (.new 168, 3) := by decide +kernel
theorem dX11_board_22 : decode cX11_board 22 = .ok (.dup, 1) := by decide +kernel
theorem dX11_board_23 : decode cX11_board 23 = .ok (.ldc 170, 2) := by decide +kernel
theorem dX11_board_25 : decode cX11_board 25 = .ok (.invokespecial 172, 3) := by decide +kernel
theorem dX11_board_28 : decode cX11_board 28 = .ok (.athrow, 1) := by decide +kernel
theorem dX11_board_29 : decode cX11_board 29 = .ok (.aload_n 0, 1) := by decide +kernel
theorem dX11_board_30 : decode cX11_board 30 = .ok (.getfield 10, 3) := by decide +kernel
theorem dX11_board_33 : decode cX11_board 33 = .ok (.getfield 48, 3) := by decide +kernel
theorem dX11_board_36 : decode cX11_board 36 = .ok (.iload_n 1, 1) := by decide +kernel
theorem dX11_board_37 : decode cX11_board 37 = .ok (.iload_n 2, 1) := by decide +kernel
theorem dX11_board_38 : decode cX11_board 38 = .ok (.invokevirtual 173, 3) := by decide +kernel
theorem dX11_board_41 : decode cX11_board 41 = .ok (.ireturn, 1) := by decide +kernel
theorem dX11_would_0 : decode cX11_would 0 = .ok (.aload_n 0, 1) := by decide +kernel
theorem dX11_would_1 : decode cX11_would 1 = .ok (.iload_n 1, 1) := by decide +kernel
theorem dX11_would_2 : decode cX11_would 2 = .ok (.invokevirtual 80, 3) := by decide +kernel
theorem dX11_would_5 : decode cX11_would 5 = .ok (.aload_n 0, 1) := by decide +kernel
theorem dX11_would_6 : decode cX11_would 6 = .ok (.getfield 10, 3) := by decide +kernel
theorem dX11_would_9 : decode cX11_would 9 = .ok (.getfield 48, 3) := by decide +kernel
theorem dX11_would_12 : decode cX11_would 12 = .ok (.getfield 52, 3) := by decide +kernel
theorem dX11_would_15 : decode cX11_would 15 = .ok (.istore_n 2, 1) := by decide +kernel
theorem dX11_would_16 : decode cX11_would 16 = .ok (.aload_n 0, 1) := by decide +kernel
theorem dX11_would_17 : decode cX11_would 17 = .ok (.getfield 10, 3) := by decide +kernel
theorem dX11_would_20 : decode cX11_would 20 = .ok (.aload_n 0, 1) := by decide +kernel
theorem dX11_would_21 : decode cX11_would 21 = .ok (.getfield 10, 3) := by decide +kernel
theorem dX11_would_24 : decode cX11_would 24 = .ok (.getfield 48, 3) := by decide +kernel
theorem dX11_would_27 : decode cX11_would 27 = .ok (.iload_n 1, 1) := by decide +kernel
theorem dX11_would_28 : decode cX11_would 28 = .ok (.iload_n 2, 1) := by decide +kernel
theorem dX11_would_29 : decode cX11_would 29 = .ok (.iload_n 2, 1) := by decide +kernel
theorem dX11_would_30 : decode cX11_would 30 = .ok (.aload_n 0, 1) := by decide +kernel
theorem dX11_would_31 : decode cX11_would 31 = .ok (.getfield 10, 3) := by decide +kernel
theorem dX11_would_34 : decode cX11_would 34 = .ok (.getfield 176, 3) := by decide +kernel
theorem dX11_would_37 : decode cX11_would 37 = .ok (.iload_n 1, 1) := by decide +kernel
theorem dX11_would_38 : decode cX11_would 38 = .ok (.iaload, 1) := by decide +kernel
theorem dX11_would_39 : decode cX11_would 39 = .ok (.invokestatic 179, 3) := by decide +kernel
theorem dX11_would_42 : decode cX11_would 42 = .ok (.invokevirtual 182, 3) := by decide +kernel
theorem dX11_would_45 : decode cX11_would 45 = .ok (.ireturn, 1) := by decide +kernel
theorem dX11_of_0 : decode cX11_of 0 = .ok (.aload_n 0, 1) := by decide +kernel
theorem dX11_of_1 : decode cX11_of 1 = .ok (.iload_n 1, 1) := by decide +kernel
theorem dX11_of_2 : decode cX11_of 2 = .ok (.invokevirtual 80, 3) := by decide +kernel
theorem dX11_of_5 : decode cX11_of 5 = .ok (.iload_n 2, 1) := by decide +kernel
theorem dX11_of_6 : decode cX11_of 6 = .ok (.tableswitch 70 0 2 #[26, 36, 46], 26) := by decide +kernel
theorem dX11_of_32 : decode cX11_of 32 = .ok (.aload_n 0, 1) := by decide +kernel
theorem dX11_of_33 : decode cX11_of 33 = .ok (.getfield 10, 3) := by decide +kernel
theorem dX11_of_36 : decode cX11_of 36 = .ok (.getfield 186, 3) := by decide +kernel
theorem dX11_of_39 : decode cX11_of 39 = .ok (.iload_n 1, 1) := by decide +kernel
theorem dX11_of_40 : decode cX11_of 40 = .ok (.laload, 1) := by decide +kernel
theorem dX11_of_41 : decode cX11_of 41 = .ok (.lreturn, 1) := by decide +kernel
theorem dX11_of_42 : decode cX11_of 42 = .ok (.aload_n 0, 1) := by decide +kernel
theorem dX11_of_43 : decode cX11_of 43 = .ok (.getfield 10, 3) := by decide +kernel
theorem dX11_of_46 : decode cX11_of 46 = .ok (.getfield 190, 3) := by decide +kernel
theorem dX11_of_49 : decode cX11_of 49 = .ok (.iload_n 1, 1) := by decide +kernel
theorem dX11_of_50 : decode cX11_of 50 = .ok (.laload, 1) := by decide +kernel
theorem dX11_of_51 : decode cX11_of 51 = .ok (.lreturn, 1) := by decide +kernel
theorem dX11_of_52 : decode cX11_of 52 = .ok (.aload_n 0, 1) := by decide +kernel
theorem dX11_of_53 : decode cX11_of 53 = .ok (.getfield 10, 3) := by decide +kernel
theorem dX11_of_56 : decode cX11_of 56 = .ok (.getfield 48, 3) := by decide +kernel
theorem dX11_of_59 : decode cX11_of 59 = .ok (.getfield 52, 3) := by decide +kernel
theorem dX11_of_62 : decode cX11_of 62 = .ok (.aload_n 0, 1) := by decide +kernel
theorem dX11_of_63 : decode cX11_of 63 = .ok (.getfield 10, 3) := by decide +kernel
theorem dX11_of_66 : decode cX11_of 66 = .ok (.getfield 176, 3) := by decide +kernel
theorem dX11_of_69 : decode cX11_of 69 = .ok (.iload_n 1, 1) := by decide +kernel
theorem dX11_of_70 : decode cX11_of 70 = .ok (.iaload, 1) := by decide +kernel
theorem dX11_of_71 : decode cX11_of 71 = .ok (.invokestatic 179, 3) := by decide +kernel
theorem dX11_of_74 : decode cX11_of 74 = .ok (.i2l, 1) := by decide +kernel
theorem dX11_of_75 : decode cX11_of 75 = .ok (.lreturn, 1) := by decide +kernel
theorem dX11_of_76 : decode cX11_of 76 = .ok (.new 193, 3) := by decide +kernel
theorem dX11_of_79 : decode cX11_of 79 = .ok (.dup, 1) := by decide +kernel
theorem dX11_of_80 : decode cX11_of 80 = .ok (.ldc 195, 2) := by decide +kernel
theorem dX11_of_82 : decode cX11_of 82 = .ok (.invokespecial 197, 3) := by decide +kernel
theorem dX11_of_85 : decode cX11_of 85 = .ok (.athrow, 1) := by decide +kernel
theorem dX11_fills_0 : decode cX11_fills 0 = .ok (.iload_n 1, 1) := by decide +kernel
theorem dX11_fills_1 : decode cX11_fills 1 = .ok (.ifCond .lt 17, 3) := by decide +kernel
theorem dX11_fills_4 : decode cX11_fills 4 = .ok (.iload_n 1, 1) := by decide +kernel
theorem dX11_fills_5 : decode cX11_fills 5 = .ok (.aload_n 0, 1) := by decide +kernel
theorem dX11_fills_6 : decode cX11_fills 6 = .ok (.getfield 10, 3) := by decide +kernel
theorem dX11_fills_9 : decode cX11_fills 9 = .ok (.getfield 86, 3) := by decide +kernel
theorem dX11_fills_12 : decode cX11_fills 12 = .ok (.getfield 198, 3) := by decide +kernel
theorem dX11_fills_15 : decode cX11_fills 15 = .ok (.if_icmp .lt 13, 3) := by decide +kernel
theorem dX11_fills_18 : decode cX11_fills 18 = .ok (.new 168, 3) := by decide +kernel
theorem dX11_fills_21 : decode cX11_fills 21 = .ok (.dup, 1) := by decide +kernel
theorem dX11_fills_22 : decode cX11_fills 22 = .ok (.ldc 201, 2) := by decide +kernel
theorem dX11_fills_24 : decode cX11_fills 24 = .ok (.invokespecial 172, 3) := by decide +kernel
theorem dX11_fills_27 : decode cX11_fills 27 = .ok (.athrow, 1) := by decide +kernel
theorem dX11_fills_28 : decode cX11_fills 28 = .ok (.aload_n 0, 1) := by decide +kernel
theorem dX11_fills_29 : decode cX11_fills 29 = .ok (.getfield 10, 3) := by decide +kernel
theorem dX11_fills_32 : decode cX11_fills 32 = .ok (.aload_n 0, 1) := by decide +kernel
theorem dX11_fills_33 : decode cX11_fills 33 = .ok (.getfield 10, 3) := by decide +kernel
theorem dX11_fills_36 : decode cX11_fills 36 = .ok (.getfield 203, 3) := by decide +kernel
theorem dX11_fills_39 : decode cX11_fills 39 = .ok (.invokevirtual 206, 3) := by decide +kernel
theorem dX11_fills_42 : decode cX11_fills 42 = .ok (.aload_n 0, 1) := by decide +kernel
theorem dX11_fills_43 : decode cX11_fills 43 = .ok (.getfield 10, 3) := by decide +kernel
theorem dX11_fills_46 : decode cX11_fills 46 = .ok (.getfield 86, 3) := by decide +kernel
theorem dX11_fills_49 : decode cX11_fills 49 = .ok (.iload_n 1, 1) := by decide +kernel
theorem dX11_fills_50 : decode cX11_fills 50 = .ok (.aload_n 0, 1) := by decide +kernel
theorem dX11_fills_51 : decode cX11_fills 51 = .ok (.getfield 10, 3) := by decide +kernel
theorem dX11_fills_54 : decode cX11_fills 54 = .ok (.getfield 203, 3) := by decide +kernel
theorem dX11_fills_57 : decode cX11_fills 57 = .ok (.aload_n 0, 1) := by decide +kernel
theorem dX11_fills_58 : decode cX11_fills 58 = .ok (.getfield 10, 3) := by decide +kernel
theorem dX11_fills_61 : decode cX11_fills 61 = .ok (.invokevirtual 210, 3) := by decide +kernel
theorem dX11_fills_64 : decode cX11_fills 64 = .ok (.invokevirtual 213, 3) := by decide +kernel
theorem dX11_fills_67 : decode cX11_fills 67 = .ok (.ireturn, 1) := by decide +kernel
theorem dX11_round_0 : decode cX11_round 0 = .ok (.aload_n 0, 1) := by decide +kernel
theorem dX11_round_1 : decode cX11_round 1 = .ok (.getfield 10, 3) := by decide +kernel
theorem dX11_round_4 : decode cX11_round 4 = .ok (.getfield 48, 3) := by decide +kernel
theorem dX11_round_7 : decode cX11_round 7 = .ok (.aload_n 0, 1) := by decide +kernel
theorem dX11_round_8 : decode cX11_round 8 = .ok (.getfield 10, 3) := by decide +kernel
theorem dX11_round_11 : decode cX11_round 11 = .ok (.getfield 83, 3) := by decide +kernel
theorem dX11_round_14 : decode cX11_round 14 = .ok (.invokevirtual 217, 3) := by decide +kernel
theorem dX11_round_17 : decode cX11_round 17 = .ok (.ireturn, 1) := by decide +kernel
theorem dX11_leads_0 : decode cX11_leads 0 = .ok (.aload_n 0, 1) := by decide +kernel
theorem dX11_leads_1 : decode cX11_leads 1 = .ok (.iload_n 1, 1) := by decide +kernel
theorem dX11_leads_2 : decode cX11_leads 2 = .ok (.invokevirtual 80, 3) := by decide +kernel
theorem dX11_leads_5 : decode cX11_leads 5 = .ok (.iconst 0, 1) := by decide +kernel
theorem dX11_leads_6 : decode cX11_leads 6 = .ok (.istore_n 3, 1) := by decide +kernel
theorem dX11_leads_7 : decode cX11_leads 7 = .ok (.aload_n 0, 1) := by decide +kernel
theorem dX11_leads_8 : decode cX11_leads 8 = .ok (.getfield 10, 3) := by decide +kernel
theorem dX11_leads_11 : decode cX11_leads 11 = .ok (.getfield 48, 3) := by decide +kernel
theorem dX11_leads_14 : decode cX11_leads 14 = .ok (.invokevirtual 220, 3) := by decide +kernel
theorem dX11_leads_17 : decode cX11_leads 17 = .ok (.iconst 2, 1) := by decide +kernel
theorem dX11_leads_18 : decode cX11_leads 18 = .ok (.iadd, 1) := by decide +kernel
theorem dX11_leads_19 : decode cX11_leads 19 = .ok (.istore 4, 2) := by decide +kernel
theorem dX11_leads_21 : decode cX11_leads 21 = .ok (.iload 4, 2) := by decide +kernel
theorem dX11_leads_23 : decode cX11_leads 23 = .ok (.aload_n 0, 1) := by decide +kernel
theorem dX11_leads_24 : decode cX11_leads 24 = .ok (.getfield 10, 3) := by decide +kernel
theorem dX11_leads_27 : decode cX11_leads 27 = .ok (.getfield 48, 3) := by decide +kernel
theorem dX11_leads_30 : decode cX11_leads 30 = .ok (.getfield 52, 3) := by decide +kernel
theorem dX11_leads_33 : decode cX11_leads 33 = .ok (.if_icmp .ge 62, 3) := by decide +kernel
theorem dX11_leads_36 : decode cX11_leads 36 = .ok (.aload_n 0, 1) := by decide +kernel
theorem dX11_leads_37 : decode cX11_leads 37 = .ok (.getfield 10, 3) := by decide +kernel
theorem dX11_leads_40 : decode cX11_leads 40 = .ok (.getfield 48, 3) := by decide +kernel
theorem dX11_leads_43 : decode cX11_leads 43 = .ok (.iload_n 1, 1) := by decide +kernel
theorem dX11_leads_44 : decode cX11_leads 44 = .ok (.iload 4, 2) := by decide +kernel
theorem dX11_leads_46 : decode cX11_leads 46 = .ok (.aload_n 0, 1) := by decide +kernel
theorem dX11_leads_47 : decode cX11_leads 47 = .ok (.getfield 10, 3) := by decide +kernel
theorem dX11_leads_50 : decode cX11_leads 50 = .ok (.getfield 83, 3) := by decide +kernel
theorem dX11_leads_53 : decode cX11_leads 53 = .ok (.invokevirtual 223, 3) := by decide +kernel
theorem dX11_leads_56 : decode cX11_leads 56 = .ok (.ifCond .eq 33, 3) := by decide +kernel
theorem dX11_leads_59 : decode cX11_leads 59 = .ok (.iload_n 2, 1) := by decide +kernel
theorem dX11_leads_60 : decode cX11_leads 60 = .ok (.ifCond .eq 26, 3) := by decide +kernel
theorem dX11_leads_63 : decode cX11_leads 63 = .ok (.aload_n 0, 1) := by decide +kernel
theorem dX11_leads_64 : decode cX11_leads 64 = .ok (.getfield 10, 3) := by decide +kernel
theorem dX11_leads_67 : decode cX11_leads 67 = .ok (.getfield 48, 3) := by decide +kernel
theorem dX11_leads_70 : decode cX11_leads 70 = .ok (.iload_n 1, 1) := by decide +kernel
theorem dX11_leads_71 : decode cX11_leads 71 = .ok (.iload 4, 2) := by decide +kernel
theorem dX11_leads_73 : decode cX11_leads 73 = .ok (.aload_n 0, 1) := by decide +kernel
theorem dX11_leads_74 : decode cX11_leads 74 = .ok (.getfield 10, 3) := by decide +kernel
theorem dX11_leads_77 : decode cX11_leads 77 = .ok (.getfield 83, 3) := by decide +kernel
theorem dX11_leads_80 : decode cX11_leads 80 = .ok (.invokevirtual 227, 3) := by decide +kernel
theorem dX11_leads_83 : decode cX11_leads 83 = .ok (.ifCond .eq 6, 3) := by decide +kernel
theorem dX11_leads_86 : decode cX11_leads 86 = .ok (.iinc 3 1, 3) := by decide +kernel
theorem dX11_leads_89 : decode cX11_leads 89 = .ok (.iinc 4 1, 3) := by decide +kernel
theorem dX11_leads_92 : decode cX11_leads 92 = .ok (.goto (-71), 3) := by decide +kernel
theorem dX11_leads_95 : decode cX11_leads 95 = .ok (.iload_n 3, 1) := by decide +kernel
theorem dX11_leads_96 : decode cX11_leads 96 = .ok (.ireturn, 1) := by decide +kernel
theorem dX11_passed_0 : decode cX11_passed 0 = .ok (.aload_n 0, 1) := by decide +kernel
theorem dX11_passed_1 : decode cX11_passed 1 = .ok (.iload_n 1, 1) := by decide +kernel
theorem dX11_passed_2 : decode cX11_passed 2 = .ok (.invokevirtual 80, 3) := by decide +kernel
theorem dX11_passed_5 : decode cX11_passed 5 = .ok (.aload_n 0, 1) := by decide +kernel
theorem dX11_passed_6 : decode cX11_passed 6 = .ok (.iload_n 2, 1) := by decide +kernel
theorem dX11_passed_7 : decode cX11_passed 7 = .ok (.iconst 1, 1) := by decide +kernel
theorem dX11_passed_8 : decode cX11_passed 8 = .ok (.bipush 24, 2) := by decide +kernel
theorem dX11_passed_10 : decode cX11_passed 10 = .ok (.invokevirtual 72, 3) := by decide +kernel
theorem dX11_passed_13 : decode cX11_passed 13 = .ok (.lconst 0, 1) := by decide +kernel
theorem dX11_passed_14 : decode cX11_passed 14 = .ok (.lstore 4, 2) := by decide +kernel
theorem dX11_passed_16 : decode cX11_passed 16 = .ok (.lconst 0, 1) := by decide +kernel
theorem dX11_passed_17 : decode cX11_passed 17 = .ok (.lstore 6, 2) := by decide +kernel
theorem dX11_passed_19 : decode cX11_passed 19 = .ok (.iconst 0, 1) := by decide +kernel
theorem dX11_passed_20 : decode cX11_passed 20 = .ok (.istore 8, 2) := by decide +kernel
theorem dX11_passed_22 : decode cX11_passed 22 = .ok (.iload 8, 2) := by decide +kernel
theorem dX11_passed_24 : decode cX11_passed 24 = .ok (.aload_n 0, 1) := by decide +kernel
theorem dX11_passed_25 : decode cX11_passed 25 = .ok (.getfield 10, 3) := by decide +kernel
theorem dX11_passed_28 : decode cX11_passed 28 = .ok (.getfield 100, 3) := by decide +kernel
theorem dX11_passed_31 : decode cX11_passed 31 = .ok (.getfield 230, 3) := by decide +kernel
theorem dX11_passed_34 : decode cX11_passed 34 = .ok (.if_icmp .ge 82, 3) := by decide +kernel
theorem dX11_passed_37 : decode cX11_passed 37 = .ok (.aload_n 0, 1) := by decide +kernel
theorem dX11_passed_38 : decode cX11_passed 38 = .ok (.getfield 10, 3) := by decide +kernel
theorem dX11_passed_41 : decode cX11_passed 41 = .ok (.getfield 100, 3) := by decide +kernel
theorem dX11_passed_44 : decode cX11_passed 44 = .ok (.iload 8, 2) := by decide +kernel
theorem dX11_passed_46 : decode cX11_passed 46 = .ok (.iload_n 1, 1) := by decide +kernel
theorem dX11_passed_47 : decode cX11_passed 47 = .ok (.iload_n 2, 1) := by decide +kernel
theorem dX11_passed_48 : decode cX11_passed 48 = .ok (.iload_n 3, 1) := by decide +kernel
theorem dX11_passed_49 : decode cX11_passed 49 = .ok (.aload_n 0, 1) := by decide +kernel
theorem dX11_passed_50 : decode cX11_passed 50 = .ok (.getfield 10, 3) := by decide +kernel
theorem dX11_passed_53 : decode cX11_passed 53 = .ok (.getfield 48, 3) := by decide +kernel
theorem dX11_passed_56 : decode cX11_passed 56 = .ok (.invokevirtual 233, 3) := by decide +kernel
theorem dX11_passed_59 : decode cX11_passed 59 = .ok (.ifCond .eq 51, 3) := by decide +kernel
theorem dX11_passed_62 : decode cX11_passed 62 = .ok (.lload 4, 2) := by decide +kernel
theorem dX11_passed_64 : decode cX11_passed 64 = .ok (.aload_n 0, 1) := by decide +kernel
theorem dX11_passed_65 : decode cX11_passed 65 = .ok (.getfield 10, 3) := by decide +kernel
theorem dX11_passed_68 : decode cX11_passed 68 = .ok (.getfield 100, 3) := by decide +kernel
theorem dX11_passed_71 : decode cX11_passed 71 = .ok (.getfield 237, 3) := by decide +kernel
theorem dX11_passed_74 : decode cX11_passed 74 = .ok (.iload 8, 2) := by decide +kernel
theorem dX11_passed_76 : decode cX11_passed 76 = .ok (.iaload, 1) := by decide +kernel
theorem dX11_passed_77 : decode cX11_passed 77 = .ok (.invokestatic 240, 3) := by decide +kernel
theorem dX11_passed_80 : decode cX11_passed 80 = .ok (.i2l, 1) := by decide +kernel
theorem dX11_passed_81 : decode cX11_passed 81 = .ok (.ladd, 1) := by decide +kernel
theorem dX11_passed_82 : decode cX11_passed 82 = .ok (.lstore 4, 2) := by decide +kernel
theorem dX11_passed_84 : decode cX11_passed 84 = .ok (.lload 6, 2) := by decide +kernel
theorem dX11_passed_86 : decode cX11_passed 86 = .ok (.aload_n 0, 1) := by decide +kernel
theorem dX11_passed_87 : decode cX11_passed 87 = .ok (.getfield 10, 3) := by decide +kernel
theorem dX11_passed_90 : decode cX11_passed 90 = .ok (.getfield 100, 3) := by decide +kernel
theorem dX11_passed_93 : decode cX11_passed 93 = .ok (.iload 8, 2) := by decide +kernel
theorem dX11_passed_95 : decode cX11_passed 95 = .ok (.iload_n 2, 1) := by decide +kernel
theorem dX11_passed_96 : decode cX11_passed 96 = .ok (.aload_n 0, 1) := by decide +kernel
theorem dX11_passed_97 : decode cX11_passed 97 = .ok (.getfield 10, 3) := by decide +kernel
theorem dX11_passed_100 : decode cX11_passed 100 = .ok (.getfield 48, 3) := by decide +kernel
theorem dX11_passed_103 : decode cX11_passed 103 = .ok (.invokevirtual 243, 3) := by decide +kernel
theorem dX11_passed_106 : decode cX11_passed 106 = .ok (.i2l, 1) := by decide +kernel
theorem dX11_passed_107 : decode cX11_passed 107 = .ok (.ladd, 1) := by decide +kernel
theorem dX11_passed_108 : decode cX11_passed 108 = .ok (.lstore 6, 2) := by decide +kernel
theorem dX11_passed_110 : decode cX11_passed 110 = .ok (.iinc 8 1, 3) := by decide +kernel
theorem dX11_passed_113 : decode cX11_passed 113 = .ok (.goto (-91), 3) := by decide +kernel
theorem dX11_passed_116 : decode cX11_passed 116 = .ok (.lload 4, 2) := by decide +kernel
theorem dX11_passed_118 : decode cX11_passed 118 = .ok (.lconst 0, 1) := by decide +kernel
theorem dX11_passed_119 : decode cX11_passed 119 = .ok (.lcmp, 1) := by decide +kernel
theorem dX11_passed_120 : decode cX11_passed 120 = .ok (.ifCond .ne 5, 3) := by decide +kernel
theorem dX11_passed_123 : decode cX11_passed 123 = .ok (.iconst 0, 1) := by decide +kernel
theorem dX11_passed_124 : decode cX11_passed 124 = .ok (.ireturn, 1) := by decide +kernel
theorem dX11_passed_125 : decode cX11_passed 125 = .ok (.aload_n 0, 1) := by decide +kernel
theorem dX11_passed_126 : decode cX11_passed 126 = .ok (.lload 6, 2) := by decide +kernel
theorem dX11_passed_128 : decode cX11_passed 128 = .ok (.lload 4, 2) := by decide +kernel
theorem dX11_passed_130 : decode cX11_passed 130 = .ok (.invokevirtual 247, 3) := by decide +kernel
theorem dX11_passed_133 : decode cX11_passed 133 = .ok (.iconst 1, 1) := by decide +kernel
theorem dX11_passed_134 : decode cX11_passed 134 = .ok (.ireturn, 1) := by decide +kernel
theorem dX11_upper_0 : decode cX11_upper 0 = .ok (.aload_n 0, 1) := by decide +kernel
theorem dX11_upper_1 : decode cX11_upper 1 = .ok (.getfield 251, 3) := by decide +kernel
theorem dX11_upper_4 : decode cX11_upper 4 = .ok (.lreturn, 1) := by decide +kernel
theorem dX11_lower_0 : decode cX11_lower 0 = .ok (.aload_n 0, 1) := by decide +kernel
theorem dX11_lower_1 : decode cX11_lower 1 = .ok (.getfield 255, 3) := by decide +kernel
theorem dX11_lower_4 : decode cX11_lower 4 = .ok (.lreturn, 1) := by decide +kernel
theorem dX11_level_0 : decode cX11_level 0 = .ok (.aload_n 0, 1) := by decide +kernel
theorem dX11_level_1 : decode cX11_level 1 = .ok (.iload_n 1, 1) := by decide +kernel
theorem dX11_level_2 : decode cX11_level 2 = .ok (.invokevirtual 68, 3) := by decide +kernel
theorem dX11_level_5 : decode cX11_level 5 = .ok (.aload_n 0, 1) := by decide +kernel
theorem dX11_level_6 : decode cX11_level 6 = .ok (.getfield 10, 3) := by decide +kernel
theorem dX11_level_9 : decode cX11_level 9 = .ok (.getfield 258, 3) := by decide +kernel
theorem dX11_level_12 : decode cX11_level 12 = .ok (.ifCond .le 35, 3) := by decide +kernel
theorem dX11_level_15 : decode cX11_level 15 = .ok (.iload_n 1, 1) := by decide +kernel
theorem dX11_level_16 : decode cX11_level 16 = .ok (.aload_n 0, 1) := by decide +kernel
theorem dX11_level_17 : decode cX11_level 17 = .ok (.getfield 10, 3) := by decide +kernel
theorem dX11_level_20 : decode cX11_level 20 = .ok (.getfield 261, 3) := by decide +kernel
theorem dX11_level_23 : decode cX11_level 23 = .ok (.aload_n 0, 1) := by decide +kernel
theorem dX11_level_24 : decode cX11_level 24 = .ok (.getfield 10, 3) := by decide +kernel
theorem dX11_level_27 : decode cX11_level 27 = .ok (.getfield 258, 3) := by decide +kernel
theorem dX11_level_30 : decode cX11_level 30 = .ok (.iconst 1, 1) := by decide +kernel
theorem dX11_level_31 : decode cX11_level 31 = .ok (.isub, 1) := by decide +kernel
theorem dX11_level_32 : decode cX11_level 32 = .ok (.iaload, 1) := by decide +kernel
theorem dX11_level_33 : decode cX11_level 33 = .ok (.if_icmp .gt 14, 3) := by decide +kernel
theorem dX11_level_36 : decode cX11_level 36 = .ok (.new 193, 3) := by decide +kernel
theorem dX11_level_39 : decode cX11_level 39 = .ok (.dup, 1) := by decide +kernel
theorem dX11_level_40 : decode cX11_level 40 = .ok (.ldc_w 264, 3) := by decide +kernel
theorem dX11_level_43 : decode cX11_level 43 = .ok (.invokespecial 197, 3) := by decide +kernel
theorem dX11_level_46 : decode cX11_level 46 = .ok (.athrow, 1) := by decide +kernel
theorem dX11_level_47 : decode cX11_level 47 = .ok (.aload_n 0, 1) := by decide +kernel
theorem dX11_level_48 : decode cX11_level 48 = .ok (.getfield 10, 3) := by decide +kernel
theorem dX11_level_51 : decode cX11_level 51 = .ok (.iload_n 1, 1) := by decide +kernel
theorem dX11_level_52 : decode cX11_level 52 = .ok (.invokevirtual 266, 3) := by decide +kernel
theorem dX11_level_55 : decode cX11_level 55 = .ok (.ireturn, 1) := by decide +kernel
theorem dX11_gain_0 : decode cX11_gain 0 = .ok (.aload_n 0, 1) := by decide +kernel
theorem dX11_gain_1 : decode cX11_gain 1 = .ok (.iload_n 1, 1) := by decide +kernel
theorem dX11_gain_2 : decode cX11_gain 2 = .ok (.iload_n 2, 1) := by decide +kernel
theorem dX11_gain_3 : decode cX11_gain 3 = .ok (.invokevirtual 269, 3) := by decide +kernel
theorem dX11_gain_6 : decode cX11_gain 6 = .ok (.aload_n 0, 1) := by decide +kernel
theorem dX11_gain_7 : decode cX11_gain 7 = .ok (.iload_n 3, 1) := by decide +kernel
theorem dX11_gain_8 : decode cX11_gain 8 = .ok (.invokevirtual 273, 3) := by decide +kernel
theorem dX11_gain_11 : decode cX11_gain 11 = .ok (.aload_n 0, 1) := by decide +kernel
theorem dX11_gain_12 : decode cX11_gain 12 = .ok (.iload 4, 2) := by decide +kernel
theorem dX11_gain_14 : decode cX11_gain 14 = .ok (.invokevirtual 273, 3) := by decide +kernel
theorem dX11_gain_17 : decode cX11_gain 17 = .ok (.aload_n 0, 1) := by decide +kernel
theorem dX11_gain_18 : decode cX11_gain 18 = .ok (.getfield 37, 3) := by decide +kernel
theorem dX11_gain_21 : decode cX11_gain 21 = .ok (.aload_n 0, 1) := by decide +kernel
theorem dX11_gain_22 : decode cX11_gain 22 = .ok (.getfield 10, 3) := by decide +kernel
theorem dX11_gain_25 : decode cX11_gain 25 = .ok (.iload_n 1, 1) := by decide +kernel
theorem dX11_gain_26 : decode cX11_gain 26 = .ok (.iload_n 2, 1) := by decide +kernel
theorem dX11_gain_27 : decode cX11_gain 27 = .ok (.invokevirtual 276, 3) := by decide +kernel
theorem dX11_gain_30 : decode cX11_gain 30 = .ok (.iload 5, 2) := by decide +kernel
theorem dX11_gain_32 : decode cX11_gain 32 = .ok (.ifCond .eq 18, 3) := by decide +kernel
theorem dX11_gain_35 : decode cX11_gain 35 = .ok (.aload_n 0, 1) := by decide +kernel
theorem dX11_gain_36 : decode cX11_gain 36 = .ok (.getfield 37, 3) := by decide +kernel
theorem dX11_gain_39 : decode cX11_gain 39 = .ok (.getfield 280, 3) := by decide +kernel
theorem dX11_gain_42 : decode cX11_gain 42 = .ok (.iload_n 3, 1) := by decide +kernel
theorem dX11_gain_43 : decode cX11_gain 43 = .ok (.aaload, 1) := by decide +kernel
theorem dX11_gain_44 : decode cX11_gain 44 = .ok (.iload 4, 2) := by decide +kernel
theorem dX11_gain_46 : decode cX11_gain 46 = .ok (.iaload, 1) := by decide +kernel
theorem dX11_gain_47 : decode cX11_gain 47 = .ok (.goto 15, 3) := by decide +kernel
theorem dX11_gain_50 : decode cX11_gain 50 = .ok (.aload_n 0, 1) := by decide +kernel
theorem dX11_gain_51 : decode cX11_gain 51 = .ok (.getfield 37, 3) := by decide +kernel
theorem dX11_gain_54 : decode cX11_gain 54 = .ok (.getfield 284, 3) := by decide +kernel
theorem dX11_gain_57 : decode cX11_gain 57 = .ok (.iload_n 3, 1) := by decide +kernel
theorem dX11_gain_58 : decode cX11_gain 58 = .ok (.aaload, 1) := by decide +kernel
theorem dX11_gain_59 : decode cX11_gain 59 = .ok (.iload 4, 2) := by decide +kernel
theorem dX11_gain_61 : decode cX11_gain 61 = .ok (.iaload, 1) := by decide +kernel
theorem dX11_gain_62 : decode cX11_gain 62 = .ok (.ireturn, 1) := by decide +kernel
theorem dX11_reply_0 : decode cX11_reply 0 = .ok (.aload_n 0, 1) := by decide +kernel
theorem dX11_reply_1 : decode cX11_reply 1 = .ok (.iload_n 1, 1) := by decide +kernel
theorem dX11_reply_2 : decode cX11_reply 2 = .ok (.iload_n 2, 1) := by decide +kernel
theorem dX11_reply_3 : decode cX11_reply 3 = .ok (.invokevirtual 269, 3) := by decide +kernel
theorem dX11_reply_6 : decode cX11_reply 6 = .ok (.aload_n 0, 1) := by decide +kernel
theorem dX11_reply_7 : decode cX11_reply 7 = .ok (.iload_n 3, 1) := by decide +kernel
theorem dX11_reply_8 : decode cX11_reply 8 = .ok (.invokevirtual 273, 3) := by decide +kernel
theorem dX11_reply_11 : decode cX11_reply 11 = .ok (.aload_n 0, 1) := by decide +kernel
theorem dX11_reply_12 : decode cX11_reply 12 = .ok (.getfield 37, 3) := by decide +kernel
theorem dX11_reply_15 : decode cX11_reply 15 = .ok (.aload_n 0, 1) := by decide +kernel
theorem dX11_reply_16 : decode cX11_reply 16 = .ok (.getfield 10, 3) := by decide +kernel
theorem dX11_reply_19 : decode cX11_reply 19 = .ok (.iload_n 1, 1) := by decide +kernel
theorem dX11_reply_20 : decode cX11_reply 20 = .ok (.iload_n 2, 1) := by decide +kernel
theorem dX11_reply_21 : decode cX11_reply 21 = .ok (.invokevirtual 276, 3) := by decide +kernel
theorem dX11_reply_24 : decode cX11_reply 24 = .ok (.aload_n 0, 1) := by decide +kernel
theorem dX11_reply_25 : decode cX11_reply 25 = .ok (.getfield 37, 3) := by decide +kernel
theorem dX11_reply_28 : decode cX11_reply 28 = .ok (.iload_n 3, 1) := by decide +kernel
theorem dX11_reply_29 : decode cX11_reply 29 = .ok (.invokevirtual 287, 3) := by decide +kernel
theorem dX11_reply_32 : decode cX11_reply 32 = .ok (.ireturn, 1) := by decide +kernel
theorem dX11_even_0 : decode cX11_even 0 = .ok (.aload_n 0, 1) := by decide +kernel
theorem dX11_even_1 : decode cX11_even 1 = .ok (.iload_n 1, 1) := by decide +kernel
theorem dX11_even_2 : decode cX11_even 2 = .ok (.iload_n 2, 1) := by decide +kernel
theorem dX11_even_3 : decode cX11_even 3 = .ok (.invokevirtual 269, 3) := by decide +kernel
theorem dX11_even_6 : decode cX11_even 6 = .ok (.aload_n 0, 1) := by decide +kernel
theorem dX11_even_7 : decode cX11_even 7 = .ok (.getfield 37, 3) := by decide +kernel
theorem dX11_even_10 : decode cX11_even 10 = .ok (.aload_n 0, 1) := by decide +kernel
theorem dX11_even_11 : decode cX11_even 11 = .ok (.getfield 10, 3) := by decide +kernel
theorem dX11_even_14 : decode cX11_even 14 = .ok (.iload_n 1, 1) := by decide +kernel
theorem dX11_even_15 : decode cX11_even 15 = .ok (.iload_n 2, 1) := by decide +kernel
theorem dX11_even_16 : decode cX11_even 16 = .ok (.invokevirtual 276, 3) := by decide +kernel
theorem dX11_even_19 : decode cX11_even 19 = .ok (.iload_n 3, 1) := by decide +kernel
theorem dX11_even_20 : decode cX11_even 20 = .ok (.iconst (-1), 1) := by decide +kernel
theorem dX11_even_21 : decode cX11_even 21 = .ok (.if_icmp .ne 13, 3) := by decide +kernel
theorem dX11_even_24 : decode cX11_even 24 = .ok (.aload_n 0, 1) := by decide +kernel
theorem dX11_even_25 : decode cX11_even 25 = .ok (.getfield 37, 3) := by decide +kernel
theorem dX11_even_28 : decode cX11_even 28 = .ok (.invokevirtual 290, 3) := by decide +kernel
theorem dX11_even_31 : decode cX11_even 31 = .ok (.goto 11, 3) := by decide +kernel
theorem dX11_even_34 : decode cX11_even 34 = .ok (.aload_n 0, 1) := by decide +kernel
theorem dX11_even_35 : decode cX11_even 35 = .ok (.getfield 37, 3) := by decide +kernel
theorem dX11_even_38 : decode cX11_even 38 = .ok (.iload_n 3, 1) := by decide +kernel
theorem dX11_even_39 : decode cX11_even 39 = .ok (.invokevirtual 293, 3) := by decide +kernel
theorem dX11_even_42 : decode cX11_even 42 = .ok (.ireturn, 1) := by decide +kernel
theorem dX11_joint_0 : decode cX11_joint 0 = .ok (.aload_n 0, 1) := by decide +kernel
theorem dX11_joint_1 : decode cX11_joint 1 = .ok (.iload_n 1, 1) := by decide +kernel
theorem dX11_joint_2 : decode cX11_joint 2 = .ok (.iload_n 2, 1) := by decide +kernel
theorem dX11_joint_3 : decode cX11_joint 3 = .ok (.invokevirtual 269, 3) := by decide +kernel
theorem dX11_joint_6 : decode cX11_joint 6 = .ok (.aload_n 0, 1) := by decide +kernel
theorem dX11_joint_7 : decode cX11_joint 7 = .ok (.getfield 37, 3) := by decide +kernel
theorem dX11_joint_10 : decode cX11_joint 10 = .ok (.aload_n 0, 1) := by decide +kernel
theorem dX11_joint_11 : decode cX11_joint 11 = .ok (.getfield 10, 3) := by decide +kernel
theorem dX11_joint_14 : decode cX11_joint 14 = .ok (.iload_n 1, 1) := by decide +kernel
theorem dX11_joint_15 : decode cX11_joint 15 = .ok (.iload_n 2, 1) := by decide +kernel
theorem dX11_joint_16 : decode cX11_joint 16 = .ok (.invokevirtual 276, 3) := by decide +kernel
theorem dX11_joint_19 : decode cX11_joint 19 = .ok (.aload_n 0, 1) := by decide +kernel
