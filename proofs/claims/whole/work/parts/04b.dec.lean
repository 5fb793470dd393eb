theorem dX11_joint_20 : decode cX11_joint 20 = .ok (.getfield 37, 3) := by decide +kernel
theorem dX11_joint_23 : decode cX11_joint 23 = .ok (.invokevirtual 296, 3) := by decide +kernel
theorem dX11_joint_26 : decode cX11_joint 26 = .ok (.ireturn, 1) := by decide +kernel
theorem dX11_turn_0 : decode cX11_turn 0 = .ok (.aload_n 0, 1) := by decide +kernel
theorem dX11_turn_1 : decode cX11_turn 1 = .ok (.iload_n 1, 1) := by decide +kernel
theorem dX11_turn_2 : decode cX11_turn 2 = .ok (.iload_n 2, 1) := by decide +kernel
theorem dX11_turn_3 : decode cX11_turn 3 = .ok (.iload_n 3, 1) := by decide +kernel
theorem dX11_turn_4 : decode cX11_turn 4 = .ok (.iload 4, 2) := by decide +kernel
theorem dX11_turn_6 : decode cX11_turn 6 = .ok (.invokevirtual 299, 3) := by decide +kernel
theorem dX11_turn_9 : decode cX11_turn 9 = .ok (.iload 5, 2) := by decide +kernel
theorem dX11_turn_11 : decode cX11_turn 11 = .ok (.ifCond .lt 10, 3) := by decide +kernel
theorem dX11_turn_14 : decode cX11_turn 14 = .ok (.iload 5, 2) := by decide +kernel
theorem dX11_turn_16 : decode cX11_turn 16 = .ok (.iload 4, 2) := by decide +kernel
theorem dX11_turn_18 : decode cX11_turn 18 = .ok (.if_icmp .lt 5, 3) := by decide +kernel
theorem dX11_turn_21 : decode cX11_turn 21 = .ok (.iconst (-1), 1) := by decide +kernel
theorem dX11_turn_22 : decode cX11_turn 22 = .ok (.ireturn, 1) := by decide +kernel
theorem dX11_turn_23 : decode cX11_turn 23 = .ok (.aload_n 0, 1) := by decide +kernel
theorem dX11_turn_24 : decode cX11_turn 24 = .ok (.getfield 37, 3) := by decide +kernel
theorem dX11_turn_27 : decode cX11_turn 27 = .ok (.aload_n 0, 1) := by decide +kernel
theorem dX11_turn_28 : decode cX11_turn 28 = .ok (.getfield 10, 3) := by decide +kernel
theorem dX11_turn_31 : decode cX11_turn 31 = .ok (.iload_n 1, 1) := by decide +kernel
theorem dX11_turn_32 : decode cX11_turn 32 = .ok (.iload_n 2, 1) := by decide +kernel
theorem dX11_turn_33 : decode cX11_turn 33 = .ok (.invokevirtual 276, 3) := by decide +kernel
theorem dX11_turn_36 : decode cX11_turn 36 = .ok (.aload_n 0, 1) := by decide +kernel
theorem dX11_turn_37 : decode cX11_turn 37 = .ok (.getfield 37, 3) := by decide +kernel
theorem dX11_turn_40 : decode cX11_turn 40 = .ok (.iload 4, 2) := by decide +kernel
theorem dX11_turn_42 : decode cX11_turn 42 = .ok (.invokevirtual 303, 3) := by decide +kernel
theorem dX11_turn_45 : decode cX11_turn 45 = .ok (.aload_n 0, 1) := by decide +kernel
theorem dX11_turn_46 : decode cX11_turn 46 = .ok (.getfield 37, 3) := by decide +kernel
theorem dX11_turn_49 : decode cX11_turn 49 = .ok (.iload_n 3, 1) := by decide +kernel
theorem dX11_turn_50 : decode cX11_turn 50 = .ok (.iload 5, 2) := by decide +kernel
theorem dX11_turn_52 : decode cX11_turn 52 = .ok (.invokevirtual 306, 3) := by decide +kernel
theorem dX11_turn_55 : decode cX11_turn 55 = .ok (.ireturn, 1) := by decide +kernel
theorem dX11_gains_0 : decode cX11_gains 0 = .ok (.aload_n 0, 1) := by decide +kernel
theorem dX11_gains_1 : decode cX11_gains 1 = .ok (.iload_n 1, 1) := by decide +kernel
theorem dX11_gains_2 : decode cX11_gains 2 = .ok (.iload_n 2, 1) := by decide +kernel
theorem dX11_gains_3 : decode cX11_gains 3 = .ok (.iload_n 3, 1) := by decide +kernel
theorem dX11_gains_4 : decode cX11_gains 4 = .ok (.iload 4, 2) := by decide +kernel
theorem dX11_gains_6 : decode cX11_gains 6 = .ok (.invokevirtual 299, 3) := by decide +kernel
theorem dX11_gains_9 : decode cX11_gains 9 = .ok (.aload_n 0, 1) := by decide +kernel
theorem dX11_gains_10 : decode cX11_gains 10 = .ok (.getfield 37, 3) := by decide +kernel
theorem dX11_gains_13 : decode cX11_gains 13 = .ok (.aload_n 0, 1) := by decide +kernel
theorem dX11_gains_14 : decode cX11_gains 14 = .ok (.getfield 10, 3) := by decide +kernel
theorem dX11_gains_17 : decode cX11_gains 17 = .ok (.iload_n 1, 1) := by decide +kernel
theorem dX11_gains_18 : decode cX11_gains 18 = .ok (.iload_n 2, 1) := by decide +kernel
theorem dX11_gains_19 : decode cX11_gains 19 = .ok (.invokevirtual 276, 3) := by decide +kernel
theorem dX11_gains_22 : decode cX11_gains 22 = .ok (.aload_n 0, 1) := by decide +kernel
theorem dX11_gains_23 : decode cX11_gains 23 = .ok (.getfield 37, 3) := by decide +kernel
theorem dX11_gains_26 : decode cX11_gains 26 = .ok (.iload 4, 2) := by decide +kernel
theorem dX11_gains_28 : decode cX11_gains 28 = .ok (.invokevirtual 303, 3) := by decide +kernel
theorem dX11_gains_31 : decode cX11_gains 31 = .ok (.iload 5, 2) := by decide +kernel
theorem dX11_gains_33 : decode cX11_gains 33 = .ok (.ifCond .eq 18, 3) := by decide +kernel
theorem dX11_gains_36 : decode cX11_gains 36 = .ok (.aload_n 0, 1) := by decide +kernel
theorem dX11_gains_37 : decode cX11_gains 37 = .ok (.getfield 37, 3) := by decide +kernel
theorem dX11_gains_40 : decode cX11_gains 40 = .ok (.getfield 309, 3) := by decide +kernel
theorem dX11_gains_43 : decode cX11_gains 43 = .ok (.iconst 0, 1) := by decide +kernel
theorem dX11_gains_44 : decode cX11_gains 44 = .ok (.aaload, 1) := by decide +kernel
theorem dX11_gains_45 : decode cX11_gains 45 = .ok (.iload_n 3, 1) := by decide +kernel
theorem dX11_gains_46 : decode cX11_gains 46 = .ok (.iaload, 1) := by decide +kernel
theorem dX11_gains_47 : decode cX11_gains 47 = .ok (.i2l, 1) := by decide +kernel
theorem dX11_gains_48 : decode cX11_gains 48 = .ok (.goto 15, 3) := by decide +kernel
theorem dX11_gains_51 : decode cX11_gains 51 = .ok (.aload_n 0, 1) := by decide +kernel
theorem dX11_gains_52 : decode cX11_gains 52 = .ok (.getfield 37, 3) := by decide +kernel
theorem dX11_gains_55 : decode cX11_gains 55 = .ok (.getfield 312, 3) := by decide +kernel
theorem dX11_gains_58 : decode cX11_gains 58 = .ok (.iconst 0, 1) := by decide +kernel
theorem dX11_gains_59 : decode cX11_gains 59 = .ok (.aaload, 1) := by decide +kernel
theorem dX11_gains_60 : decode cX11_gains 60 = .ok (.iload_n 3, 1) := by decide +kernel
theorem dX11_gains_61 : decode cX11_gains 61 = .ok (.iaload, 1) := by decide +kernel
theorem dX11_gains_62 : decode cX11_gains 62 = .ok (.i2l, 1) := by decide +kernel
theorem dX11_gains_63 : decode cX11_gains 63 = .ok (.lreturn, 1) := by decide +kernel
theorem dX11_learn_0 : decode cX11_learn 0 = .ok (.aload_n 0, 1) := by decide +kernel
theorem dX11_learn_1 : decode cX11_learn 1 = .ok (.iload_n 1, 1) := by decide +kernel
theorem dX11_learn_2 : decode cX11_learn 2 = .ok (.iload_n 2, 1) := by decide +kernel
theorem dX11_learn_3 : decode cX11_learn 3 = .ok (.invokevirtual 269, 3) := by decide +kernel
theorem dX11_learn_6 : decode cX11_learn 6 = .ok (.aload_n 0, 1) := by decide +kernel
theorem dX11_learn_7 : decode cX11_learn 7 = .ok (.iload_n 3, 1) := by decide +kernel
theorem dX11_learn_8 : decode cX11_learn 8 = .ok (.iconst 1, 1) := by decide +kernel
theorem dX11_learn_9 : decode cX11_learn 9 = .ok (.sipush 2000, 3) := by decide +kernel
theorem dX11_learn_12 : decode cX11_learn 12 = .ok (.invokevirtual 72, 3) := by decide +kernel
theorem dX11_learn_15 : decode cX11_learn 15 = .ok (.aload_n 0, 1) := by decide +kernel
theorem dX11_learn_16 : decode cX11_learn 16 = .ok (.getfield 10, 3) := by decide +kernel
theorem dX11_learn_19 : decode cX11_learn 19 = .ok (.getfield 258, 3) := by decide +kernel
theorem dX11_learn_22 : decode cX11_learn 22 = .ok (.ifCond .ne 5, 3) := by decide +kernel
theorem dX11_learn_25 : decode cX11_learn 25 = .ok (.iconst (-1), 1) := by decide +kernel
theorem dX11_learn_26 : decode cX11_learn 26 = .ok (.ireturn, 1) := by decide +kernel
theorem dX11_learn_27 : decode cX11_learn 27 = .ok (.aload_n 0, 1) := by decide +kernel
theorem dX11_learn_28 : decode cX11_learn 28 = .ok (.getfield 37, 3) := by decide +kernel
theorem dX11_learn_31 : decode cX11_learn 31 = .ok (.aload_n 0, 1) := by decide +kernel
theorem dX11_learn_32 : decode cX11_learn 32 = .ok (.getfield 10, 3) := by decide +kernel
theorem dX11_learn_35 : decode cX11_learn 35 = .ok (.iload_n 1, 1) := by decide +kernel
theorem dX11_learn_36 : decode cX11_learn 36 = .ok (.iload_n 2, 1) := by decide +kernel
theorem dX11_learn_37 : decode cX11_learn 37 = .ok (.invokevirtual 276, 3) := by decide +kernel
theorem dX11_learn_40 : decode cX11_learn 40 = .ok (.aload_n 0, 1) := by decide +kernel
theorem dX11_learn_41 : decode cX11_learn 41 = .ok (.getfield 44, 3) := by decide +kernel
theorem dX11_learn_44 : decode cX11_learn 44 = .ok (.aload_n 0, 1) := by decide +kernel
theorem dX11_learn_45 : decode cX11_learn 45 = .ok (.getfield 37, 3) := by decide +kernel
theorem dX11_learn_48 : decode cX11_learn 48 = .ok (.iload_n 3, 1) := by decide +kernel
theorem dX11_learn_49 : decode cX11_learn 49 = .ok (.iload 4, 2) := by decide +kernel
theorem dX11_learn_51 : decode cX11_learn 51 = .ok (.invokevirtual 315, 3) := by decide +kernel
theorem dX11_learn_54 : decode cX11_learn 54 = .ok (.aload_n 0, 1) := by decide +kernel
theorem dX11_learn_55 : decode cX11_learn 55 = .ok (.getfield 44, 3) := by decide +kernel
theorem dX11_learn_58 : decode cX11_learn 58 = .ok (.getfield 319, 3) := by decide +kernel
theorem dX11_learn_61 : decode cX11_learn 61 = .ok (.aload_n 0, 1) := by decide +kernel
theorem dX11_learn_62 : decode cX11_learn 62 = .ok (.getfield 44, 3) := by decide +kernel
theorem dX11_learn_65 : decode cX11_learn 65 = .ok (.getfield 322, 3) := by decide +kernel
theorem dX11_learn_68 : decode cX11_learn 68 = .ok (.invokestatic 325, 3) := by decide +kernel
theorem dX11_learn_71 : decode cX11_learn 71 = .ok (.ireturn, 1) := by decide +kernel
theorem dX11_above_0 : decode cX11_above 0 = .ok (.aload_n 0, 1) := by decide +kernel
theorem dX11_above_1 : decode cX11_above 1 = .ok (.iload_n 1, 1) := by decide +kernel
theorem dX11_above_2 : decode cX11_above 2 = .ok (.iload_n 2, 1) := by decide +kernel
theorem dX11_above_3 : decode cX11_above 3 = .ok (.invokevirtual 269, 3) := by decide +kernel
theorem dX11_above_6 : decode cX11_above 6 = .ok (.aload_n 0, 1) := by decide +kernel
theorem dX11_above_7 : decode cX11_above 7 = .ok (.iload_n 3, 1) := by decide +kernel
theorem dX11_above_8 : decode cX11_above 8 = .ok (.iconst 1, 1) := by decide +kernel
theorem dX11_above_9 : decode cX11_above 9 = .ok (.sipush 300, 3) := by decide +kernel
theorem dX11_above_12 : decode cX11_above 12 = .ok (.invokevirtual 72, 3) := by decide +kernel
theorem dX11_above_15 : decode cX11_above 15 = .ok (.aload_n 0, 1) := by decide +kernel
theorem dX11_above_16 : decode cX11_above 16 = .ok (.iload 4, 2) := by decide +kernel
theorem dX11_above_18 : decode cX11_above 18 = .ok (.iconst 1, 1) := by decide +kernel
theorem dX11_above_19 : decode cX11_above 19 = .ok (.bipush 20, 2) := by decide +kernel
theorem dX11_above_21 : decode cX11_above 21 = .ok (.invokevirtual 72, 3) := by decide +kernel
theorem dX11_above_24 : decode cX11_above 24 = .ok (.aload_n 0, 1) := by decide +kernel
theorem dX11_above_25 : decode cX11_above 25 = .ok (.getfield 37, 3) := by decide +kernel
theorem dX11_above_28 : decode cX11_above 28 = .ok (.aload_n 0, 1) := by decide +kernel
theorem dX11_above_29 : decode cX11_above 29 = .ok (.getfield 10, 3) := by decide +kernel
theorem dX11_above_32 : decode cX11_above 32 = .ok (.iload_n 1, 1) := by decide +kernel
theorem dX11_above_33 : decode cX11_above 33 = .ok (.iload_n 2, 1) := by decide +kernel
theorem dX11_above_34 : decode cX11_above 34 = .ok (.invokevirtual 276, 3) := by decide +kernel
theorem dX11_above_37 : decode cX11_above 37 = .ok (.aload_n 0, 1) := by decide +kernel
theorem dX11_above_38 : decode cX11_above 38 = .ok (.getfield 37, 3) := by decide +kernel
theorem dX11_above_41 : decode cX11_above 41 = .ok (.iconst 0, 1) := by decide +kernel
theorem dX11_above_42 : decode cX11_above 42 = .ok (.invokevirtual 293, 3) := by decide +kernel
theorem dX11_above_45 : decode cX11_above 45 = .ok (.istore 5, 2) := by decide +kernel
theorem dX11_above_47 : decode cX11_above 47 = .ok (.iload 5, 2) := by decide +kernel
theorem dX11_above_49 : decode cX11_above 49 = .ok (.iconst (-1), 1) := by decide +kernel
theorem dX11_above_50 : decode cX11_above 50 = .ok (.if_icmp .ne 5, 3) := by decide +kernel
theorem dX11_above_53 : decode cX11_above 53 = .ok (.iconst (-1), 1) := by decide +kernel
theorem dX11_above_54 : decode cX11_above 54 = .ok (.ireturn, 1) := by decide +kernel
theorem dX11_above_55 : decode cX11_above 55 = .ok (.aload_n 0, 1) := by decide +kernel
theorem dX11_above_56 : decode cX11_above 56 = .ok (.getfield 37, 3) := by decide +kernel
theorem dX11_above_59 : decode cX11_above 59 = .ok (.iload 5, 2) := by decide +kernel
theorem dX11_above_61 : decode cX11_above 61 = .ok (.bipush 10, 2) := by decide +kernel
theorem dX11_above_63 : decode cX11_above 63 = .ok (.idiv, 1) := by decide +kernel
theorem dX11_above_64 : decode cX11_above 64 = .ok (.iload 5, 2) := by decide +kernel
theorem dX11_above_66 : decode cX11_above 66 = .ok (.bipush 10, 2) := by decide +kernel
theorem dX11_above_68 : decode cX11_above 68 = .ok (.irem, 1) := by decide +kernel
theorem dX11_above_69 : decode cX11_above 69 = .ok (.invokevirtual 328, 3) := by decide +kernel
theorem dX11_above_72 : decode cX11_above 72 = .ok (.istore 6, 2) := by decide +kernel
theorem dX11_above_74 : decode cX11_above 74 = .ok (.iconst 0, 1) := by decide +kernel
theorem dX11_above_75 : decode cX11_above 75 = .ok (.istore 7, 2) := by decide +kernel
theorem dX11_above_77 : decode cX11_above 77 = .ok (.iconst 1, 1) := by decide +kernel
theorem dX11_above_78 : decode cX11_above 78 = .ok (.istore 8, 2) := by decide +kernel
theorem dX11_above_80 : decode cX11_above 80 = .ok (.iload 8, 2) := by decide +kernel
theorem dX11_above_82 : decode cX11_above 82 = .ok (.iload 4, 2) := by decide +kernel
theorem dX11_above_84 : decode cX11_above 84 = .ok (.if_icmp .gt 52, 3) := by decide +kernel
theorem dX11_above_87 : decode cX11_above 87 = .ok (.aload_n 0, 1) := by decide +kernel
theorem dX11_above_88 : decode cX11_above 88 = .ok (.getfield 44, 3) := by decide +kernel
theorem dX11_above_91 : decode cX11_above 91 = .ok (.aload_n 0, 1) := by decide +kernel
theorem dX11_above_92 : decode cX11_above 92 = .ok (.getfield 37, 3) := by decide +kernel
theorem dX11_above_95 : decode cX11_above 95 = .ok (.iload_n 3, 1) := by decide +kernel
theorem dX11_above_96 : decode cX11_above 96 = .ok (.iload 8, 2) := by decide +kernel
theorem dX11_above_98 : decode cX11_above 98 = .ok (.invokevirtual 315, 3) := by decide +kernel
theorem dX11_above_101 : decode cX11_above 101 = .ok (.aload_n 0, 1) := by decide +kernel
theorem dX11_above_102 : decode cX11_above 102 = .ok (.getfield 37, 3) := by decide +kernel
theorem dX11_above_105 : decode cX11_above 105 = .ok (.aload_n 0, 1) := by decide +kernel
theorem dX11_above_106 : decode cX11_above 106 = .ok (.getfield 44, 3) := by decide +kernel
theorem dX11_above_109 : decode cX11_above 109 = .ok (.getfield 319, 3) := by decide +kernel
theorem dX11_above_112 : decode cX11_above 112 = .ok (.aload_n 0, 1) := by decide +kernel
theorem dX11_above_113 : decode cX11_above 113 = .ok (.getfield 44, 3) := by decide +kernel
theorem dX11_above_116 : decode cX11_above 116 = .ok (.getfield 322, 3) := by decide +kernel
theorem dX11_above_119 : decode cX11_above 119 = .ok (.invokevirtual 328, 3) := by decide +kernel
theorem dX11_above_122 : decode cX11_above 122 = .ok (.iload 6, 2) := by decide +kernel
theorem dX11_above_124 : decode cX11_above 124 = .ok (.if_icmp .le 6, 3) := by decide +kernel
theorem dX11_above_127 : decode cX11_above 127 = .ok (.iinc 7 1, 3) := by decide +kernel
theorem dX11_above_130 : decode cX11_above 130 = .ok (.iinc 8 1, 3) := by decide +kernel
theorem dX11_above_133 : decode cX11_above 133 = .ok (.goto (-53), 3) := by decide +kernel
theorem dX11_above_136 : decode cX11_above 136 = .ok (.iload 7, 2) := by decide +kernel
theorem dX11_above_138 : decode cX11_above 138 = .ok (.ireturn, 1) := by decide +kernel
theorem dX11_punish_0 : decode cX11_punish 0 = .ok (.aload_n 0, 1) := by decide +kernel
theorem dX11_punish_1 : decode cX11_punish 1 = .ok (.iload_n 1, 1) := by decide +kernel
theorem dX11_punish_2 : decode cX11_punish 2 = .ok (.iload_n 2, 1) := by decide +kernel
theorem dX11_punish_3 : decode cX11_punish 3 = .ok (.invokevirtual 269, 3) := by decide +kernel
theorem dX11_punish_6 : decode cX11_punish 6 = .ok (.aload_n 0, 1) := by decide +kernel
theorem dX11_punish_7 : decode cX11_punish 7 = .ok (.iload_n 3, 1) := by decide +kernel
theorem dX11_punish_8 : decode cX11_punish 8 = .ok (.iconst 1, 1) := by decide +kernel
theorem dX11_punish_9 : decode cX11_punish 9 = .ok (.sipush 2000, 3) := by decide +kernel
theorem dX11_punish_12 : decode cX11_punish 12 = .ok (.invokevirtual 72, 3) := by decide +kernel
theorem dX11_punish_15 : decode cX11_punish 15 = .ok (.aload_n 0, 1) := by decide +kernel
theorem dX11_punish_16 : decode cX11_punish 16 = .ok (.iload 5, 2) := by decide +kernel
theorem dX11_punish_18 : decode cX11_punish 18 = .ok (.invokevirtual 273, 3) := by decide +kernel
theorem dX11_punish_21 : decode cX11_punish 21 = .ok (.aload_n 0, 1) := by decide +kernel
theorem dX11_punish_22 : decode cX11_punish 22 = .ok (.getfield 37, 3) := by decide +kernel
theorem dX11_punish_25 : decode cX11_punish 25 = .ok (.aload_n 0, 1) := by decide +kernel
theorem dX11_punish_26 : decode cX11_punish 26 = .ok (.getfield 10, 3) := by decide +kernel
theorem dX11_punish_29 : decode cX11_punish 29 = .ok (.iload_n 1, 1) := by decide +kernel
theorem dX11_punish_30 : decode cX11_punish 30 = .ok (.iload_n 2, 1) := by decide +kernel
theorem dX11_punish_31 : decode cX11_punish 31 = .ok (.invokevirtual 276, 3) := by decide +kernel
theorem dX11_punish_34 : decode cX11_punish 34 = .ok (.aload_n 0, 1) := by decide +kernel
theorem dX11_punish_35 : decode cX11_punish 35 = .ok (.getfield 44, 3) := by decide +kernel
theorem dX11_punish_38 : decode cX11_punish 38 = .ok (.aload_n 0, 1) := by decide +kernel
theorem dX11_punish_39 : decode cX11_punish 39 = .ok (.getfield 37, 3) := by decide +kernel
theorem dX11_punish_42 : decode cX11_punish 42 = .ok (.iload_n 3, 1) := by decide +kernel
theorem dX11_punish_43 : decode cX11_punish 43 = .ok (.iload 4, 2) := by decide +kernel
theorem dX11_punish_45 : decode cX11_punish 45 = .ok (.invokevirtual 315, 3) := by decide +kernel
theorem dX11_punish_48 : decode cX11_punish 48 = .ok (.aload_n 0, 1) := by decide +kernel
theorem dX11_punish_49 : decode cX11_punish 49 = .ok (.getfield 44, 3) := by decide +kernel
theorem dX11_punish_52 : decode cX11_punish 52 = .ok (.iload 5, 2) := by decide +kernel
theorem dX11_punish_54 : decode cX11_punish 54 = .ok (.invokevirtual 331, 3) := by decide +kernel
theorem dX11_punish_57 : decode cX11_punish 57 = .ok (.ireturn, 1) := by decide +kernel
theorem dX11_story_0 : decode cX11_story 0 = .ok (.iload_n 1, 1) := by decide +kernel
theorem dX11_story_1 : decode cX11_story 1 = .ok (.ifCond .lt 8, 3) := by decide +kernel
theorem dX11_story_4 : decode cX11_story 4 = .ok (.iload_n 1, 1) := by decide +kernel
theorem dX11_story_5 : decode cX11_story 5 = .ok (.iconst 2, 1) := by decide +kernel
theorem dX11_story_6 : decode cX11_story 6 = .ok (.if_icmp .lt 14, 3) := by decide +kernel
theorem dX11_story_9 : decode cX11_story 9 = .ok (.new 168, 3) := by decide +kernel
theorem dX11_story_12 : decode cX11_story 12 = .ok (.dup, 1) := by decide +kernel
theorem dX11_story_13 : decode cX11_story 13 = .ok (.ldc_w 334, 3) := by decide +kernel
theorem dX11_story_16 : decode cX11_story 16 = .ok (.invokespecial 172, 3) := by decide +kernel
theorem dX11_story_19 : decode cX11_story 19 = .ok (.athrow, 1) := by decide +kernel
theorem dX11_story_20 : decode cX11_story 20 = .ok (.aload_n 0, 1) := by decide +kernel
theorem dX11_story_21 : decode cX11_story 21 = .ok (.iload_n 2, 1) := by decide +kernel
theorem dX11_story_22 : decode cX11_story 22 = .ok (.invokevirtual 336, 3) := by decide +kernel
theorem dX11_story_25 : decode cX11_story 25 = .ok (.aload_n 0, 1) := by decide +kernel
theorem dX11_story_26 : decode cX11_story 26 = .ok (.iload_n 2, 1) := by decide +kernel
theorem dX11_story_27 : decode cX11_story 27 = .ok (.invokevirtual 339, 3) := by decide +kernel
theorem dX11_story_30 : decode cX11_story 30 = .ok (.aload_n 0, 1) := by decide +kernel
theorem dX11_story_31 : decode cX11_story 31 = .ok (.getfield 30, 3) := by decide +kernel
theorem dX11_story_34 : decode cX11_story 34 = .ok (.getfield 342, 3) := by decide +kernel
theorem dX11_story_37 : decode cX11_story 37 = .ok (.iload_n 2, 1) := by decide +kernel
theorem dX11_story_38 : decode cX11_story 38 = .ok (.iaload, 1) := by decide +kernel
theorem dX11_story_39 : decode cX11_story 39 = .ok (.bipush 21, 2) := by decide +kernel
theorem dX11_story_41 : decode cX11_story 41 = .ok (.if_icmp .ne 16, 3) := by decide +kernel
theorem dX11_story_44 : decode cX11_story 44 = .ok (.aload_n 0, 1) := by decide +kernel
theorem dX11_story_45 : decode cX11_story 45 = .ok (.getfield 30, 3) := by decide +kernel
theorem dX11_story_48 : decode cX11_story 48 = .ok (.iload_n 2, 1) := by decide +kernel
theorem dX11_story_49 : decode cX11_story 49 = .ok (.bipush 9, 2) := by decide +kernel
theorem dX11_story_51 : decode cX11_story 51 = .ok (.invokevirtual 345, 3) := by decide +kernel
theorem dX11_story_54 : decode cX11_story 54 = .ok (.ifCond .ne 5, 3) := by decide +kernel
theorem dX11_story_57 : decode cX11_story 57 = .ok (.iconst 0, 1) := by decide +kernel
theorem dX11_story_58 : decode cX11_story 58 = .ok (.ireturn, 1) := by decide +kernel
theorem dX11_story_59 : decode cX11_story 59 = .ok (.aload_n 0, 1) := by decide +kernel
theorem dX11_story_60 : decode cX11_story 60 = .ok (.getfield 10, 3) := by decide +kernel
theorem dX11_story_63 : decode cX11_story 63 = .ok (.getfield 349, 3) := by decide +kernel
theorem dX11_story_66 : decode cX11_story 66 = .ok (.iload_n 1, 1) := by decide +kernel
theorem dX11_story_67 : decode cX11_story 67 = .ok (.aload_n 0, 1) := by decide +kernel
theorem dX11_story_68 : decode cX11_story 68 = .ok (.getfield 30, 3) := by decide +kernel
theorem dX11_story_71 : decode cX11_story 71 = .ok (.getfield 353, 3) := by decide +kernel
theorem dX11_story_74 : decode cX11_story 74 = .ok (.iload_n 2, 1) := by decide +kernel
theorem dX11_story_75 : decode cX11_story 75 = .ok (.aaload, 1) := by decide +kernel
theorem dX11_story_76 : decode cX11_story 76 = .ok (.invokevirtual 357, 3) := by decide +kernel
theorem dX11_story_79 : decode cX11_story 79 = .ok (.iconst 1, 1) := by decide +kernel
theorem dX11_story_80 : decode cX11_story 80 = .ok (.ireturn, 1) := by decide +kernel
theorem dX11_rise_0 : decode cX11_rise 0 = .ok (.aload_n 0, 1) := by decide +kernel
theorem dX11_rise_1 : decode cX11_rise 1 = .ok (.iload_n 1, 1) := by decide +kernel
theorem dX11_rise_2 : decode cX11_rise 2 = .ok (.iconst 0, 1) := by decide +kernel
theorem dX11_rise_3 : decode cX11_rise 3 = .ok (.bipush 20, 2) := by decide +kernel
theorem dX11_rise_5 : decode cX11_rise 5 = .ok (.invokevirtual 72, 3) := by decide +kernel
theorem dX11_rise_8 : decode cX11_rise 8 = .ok (.iload_n 2, 1) := by decide +kernel
theorem dX11_rise_9 : decode cX11_rise 9 = .ok (.iconst (-1), 1) := by decide +kernel
theorem dX11_rise_10 : decode cX11_rise 10 = .ok (.if_icmp .ne 7, 3) := by decide +kernel
theorem dX11_rise_13 : decode cX11_rise 13 = .ok (.iconst (-1), 1) := by decide +kernel
theorem dX11_rise_14 : decode cX11_rise 14 = .ok (.goto 4, 3) := by decide +kernel
theorem dX11_rise_17 : decode cX11_rise 17 = .ok (.iload_n 3, 1) := by decide +kernel
theorem dX11_rise_18 : decode cX11_rise 18 = .ok (.istore 4, 2) := by decide +kernel
theorem dX11_rise_20 : decode cX11_rise 20 = .ok (.iload_n 2, 1) := by decide +kernel
theorem dX11_rise_21 : decode cX11_rise 21 = .ok (.iconst (-1), 1) := by decide +kernel
theorem dX11_rise_22 : decode cX11_rise 22 = .ok (.if_icmp .eq 11, 3) := by decide +kernel
theorem dX11_rise_25 : decode cX11_rise 25 = .ok (.aload_n 0, 1) := by decide +kernel
theorem dX11_rise_26 : decode cX11_rise 26 = .ok (.iload_n 2, 1) := by decide +kernel
theorem dX11_rise_27 : decode cX11_rise 27 = .ok (.iconst 0, 1) := by decide +kernel
theorem dX11_rise_28 : decode cX11_rise 28 = .ok (.bipush 20, 2) := by decide +kernel
theorem dX11_rise_30 : decode cX11_rise 30 = .ok (.invokevirtual 72, 3) := by decide +kernel
theorem dX11_rise_33 : decode cX11_rise 33 = .ok (.iload 4, 2) := by decide +kernel
theorem dX11_rise_35 : decode cX11_rise 35 = .ok (.iconst (-1), 1) := by decide +kernel
theorem dX11_rise_36 : decode cX11_rise 36 = .ok (.if_icmp .eq 12, 3) := by decide +kernel
theorem dX11_rise_39 : decode cX11_rise 39 = .ok (.aload_n 0, 1) := by decide +kernel
theorem dX11_rise_40 : decode cX11_rise 40 = .ok (.iload 4, 2) := by decide +kernel
theorem dX11_rise_42 : decode cX11_rise 42 = .ok (.iconst 0, 1) := by decide +kernel
theorem dX11_rise_43 : decode cX11_rise 43 = .ok (.bipush 20, 2) := by decide +kernel
theorem dX11_rise_45 : decode cX11_rise 45 = .ok (.invokevirtual 72, 3) := by decide +kernel
theorem dX11_rise_48 : decode cX11_rise 48 = .ok (.aload_n 0, 1) := by decide +kernel
theorem dX11_rise_49 : decode cX11_rise 49 = .ok (.getfield 10, 3) := by decide +kernel
theorem dX11_rise_52 : decode cX11_rise 52 = .ok (.getfield 349, 3) := by decide +kernel
theorem dX11_rise_55 : decode cX11_rise 55 = .ok (.iload_n 1, 1) := by decide +kernel
theorem dX11_rise_56 : decode cX11_rise 56 = .ok (.iload_n 2, 1) := by decide +kernel
theorem dX11_rise_57 : decode cX11_rise 57 = .ok (.iload 4, 2) := by decide +kernel
theorem dX11_rise_59 : decode cX11_rise 59 = .ok (.invokevirtual 363, 3) := by decide +kernel
theorem dX11_rise_62 : decode cX11_rise 62 = .ok (.ireturn, 1) := by decide +kernel
theorem dX11_odds_0 : decode cX11_odds 0 = .ok (.aload_n 0, 1) := by decide +kernel
theorem dX11_odds_1 : decode cX11_odds 1 = .ok (.aload_n 0, 1) := by decide +kernel
theorem dX11_odds_2 : decode cX11_odds 2 = .ok (.getfield 10, 3) := by decide +kernel
theorem dX11_odds_5 : decode cX11_odds 5 = .ok (.getfield 349, 3) := by decide +kernel
theorem dX11_odds_8 : decode cX11_odds 8 = .ok (.iconst 0, 1) := by decide +kernel
theorem dX11_odds_9 : decode cX11_odds 9 = .ok (.invokevirtual 366, 3) := by decide +kernel
theorem dX11_odds_12 : decode cX11_odds 12 = .ok (.aload_n 0, 1) := by decide +kernel
theorem dX11_odds_13 : decode cX11_odds 13 = .ok (.getfield 10, 3) := by decide +kernel
theorem dX11_odds_16 : decode cX11_odds 16 = .ok (.getfield 349, 3) := by decide +kernel
theorem dX11_odds_19 : decode cX11_odds 19 = .ok (.iconst 1, 1) := by decide +kernel
theorem dX11_odds_20 : decode cX11_odds 20 = .ok (.invokevirtual 366, 3) := by decide +kernel
theorem dX11_odds_23 : decode cX11_odds 23 = .ok (.invokevirtual 247, 3) := by decide +kernel
theorem dX11_odds_26 : decode cX11_odds 26 = .ok (.return_, 1) := by decide +kernel
theorem dX11_fill_0 : decode cX11_fill 0 = .ok (.aload_n 0, 1) := by decide +kernel
theorem dX11_fill_1 : decode cX11_fill 1 = .ok (.iload_n 1, 1) := by decide +kernel
theorem dX11_fill_2 : decode cX11_fill 2 = .ok (.invokevirtual 336, 3) := by decide +kernel
theorem dX11_fill_5 : decode cX11_fill 5 = .ok (.aload_n 0, 1) := by decide +kernel
theorem dX11_fill_6 : decode cX11_fill 6 = .ok (.iload_n 1, 1) := by decide +kernel
theorem dX11_fill_7 : decode cX11_fill 7 = .ok (.invokevirtual 339, 3) := by decide +kernel
theorem dX11_fill_10 : decode cX11_fill 10 = .ok (.aload_n 0, 1) := by decide +kernel
theorem dX11_fill_11 : decode cX11_fill 11 = .ok (.iload_n 2, 1) := by decide +kernel
theorem dX11_fill_12 : decode cX11_fill 12 = .ok (.iconst 1, 1) := by decide +kernel
theorem dX11_fill_13 : decode cX11_fill 13 = .ok (.bipush 12, 2) := by decide +kernel
theorem dX11_fill_15 : decode cX11_fill 15 = .ok (.invokevirtual 72, 3) := by decide +kernel
theorem dX11_fill_18 : decode cX11_fill 18 = .ok (.aload_n 0, 1) := by decide +kernel
theorem dX11_fill_19 : decode cX11_fill 19 = .ok (.iload_n 3, 1) := by decide +kernel
theorem dX11_fill_20 : decode cX11_fill 20 = .ok (.iconst 0, 1) := by decide +kernel
theorem dX11_fill_21 : decode cX11_fill 21 = .ok (.iload_n 2, 1) := by decide +kernel
theorem dX11_fill_22 : decode cX11_fill 22 = .ok (.invokevirtual 72, 3) := by decide +kernel
theorem dX11_fill_25 : decode cX11_fill 25 = .ok (.aload_n 0, 1) := by decide +kernel
theorem dX11_fill_26 : decode cX11_fill 26 = .ok (.getfield 30, 3) := by decide +kernel
theorem dX11_fill_29 : decode cX11_fill 29 = .ok (.getfield 342, 3) := by decide +kernel
theorem dX11_fill_32 : decode cX11_fill 32 = .ok (.iload_n 1, 1) := by decide +kernel
theorem dX11_fill_33 : decode cX11_fill 33 = .ok (.iaload, 1) := by decide +kernel
theorem dX11_fill_34 : decode cX11_fill 34 = .ok (.istore 5, 2) := by decide +kernel
theorem dX11_fill_36 : decode cX11_fill 36 = .ok (.iload 5, 2) := by decide +kernel
theorem dX11_fill_38 : decode cX11_fill 38 = .ok (.iconst 1, 1) := by decide +kernel
theorem dX11_fill_39 : decode cX11_fill 39 = .ok (.if_icmp .lt 16, 3) := by decide +kernel
theorem dX11_fill_42 : decode cX11_fill 42 = .ok (.aload_n 0, 1) := by decide +kernel
theorem dX11_fill_43 : decode cX11_fill 43 = .ok (.getfield 30, 3) := by decide +kernel
theorem dX11_fill_46 : decode cX11_fill 46 = .ok (.iload_n 1, 1) := by decide +kernel
theorem dX11_fill_47 : decode cX11_fill 47 = .ok (.bipush 99, 2) := by decide +kernel
theorem dX11_fill_49 : decode cX11_fill 49 = .ok (.invokevirtual 345, 3) := by decide +kernel
theorem dX11_fill_52 : decode cX11_fill 52 = .ok (.ifCond .ne 14, 3) := by decide +kernel
theorem dX11_fill_55 : decode cX11_fill 55 = .ok (.new 193, 3) := by decide +kernel
theorem dX11_fill_58 : decode cX11_fill 58 = .ok (.dup, 1) := by decide +kernel
theorem dX11_fill_59 : decode cX11_fill 59 = .ok (.ldc_w 370, 3) := by decide +kernel
theorem dX11_fill_62 : decode cX11_fill 62 = .ok (.invokespecial 197, 3) := by decide +kernel
theorem dX11_fill_65 : decode cX11_fill 65 = .ok (.athrow, 1) := by decide +kernel
theorem dX11_fill_66 : decode cX11_fill 66 = .ok (.iload 4, 2) := by decide +kernel
theorem dX11_fill_68 : decode cX11_fill 68 = .ok (.iconst (-1), 1) := by decide +kernel
theorem dX11_fill_69 : decode cX11_fill 69 = .ok (.if_icmp .lt 10, 3) := by decide +kernel
theorem dX11_fill_72 : decode cX11_fill 72 = .ok (.iload 4, 2) := by decide +kernel
theorem dX11_fill_74 : decode cX11_fill 74 = .ok (.iload 5, 2) := by decide +kernel
theorem dX11_fill_76 : decode cX11_fill 76 = .ok (.if_icmp .lt 5, 3) := by decide +kernel
theorem dX11_fill_79 : decode cX11_fill 79 = .ok (.iconst (-1), 1) := by decide +kernel
theorem dX11_fill_80 : decode cX11_fill 80 = .ok (.ireturn, 1) := by decide +kernel
theorem dX11_fill_81 : decode cX11_fill 81 = .ok (.aload_n 0, 1) := by decide +kernel
theorem dX11_fill_82 : decode cX11_fill 82 = .ok (.getfield 30, 3) := by decide +kernel
theorem dX11_fill_85 : decode cX11_fill 85 = .ok (.iload_n 1, 1) := by decide +kernel
theorem dX11_fill_86 : decode cX11_fill 86 = .ok (.iload_n 2, 1) := by decide +kernel
theorem dX11_fill_87 : decode cX11_fill 87 = .ok (.invokevirtual 372, 3) := by decide +kernel
theorem dX11_fill_90 : decode cX11_fill 90 = .ok (.iload 4, 2) := by decide +kernel
theorem dX11_fill_92 : decode cX11_fill 92 = .ok (.iconst (-1), 1) := by decide +kernel
theorem dX11_fill_93 : decode cX11_fill 93 = .ok (.if_icmp .ne 14, 3) := by decide +kernel
theorem dX11_fill_96 : decode cX11_fill 96 = .ok (.aload_n 0, 1) := by decide +kernel
theorem dX11_fill_97 : decode cX11_fill 97 = .ok (.getfield 30, 3) := by decide +kernel
theorem dX11_fill_100 : decode cX11_fill 100 = .ok (.iload_n 3, 1) := by decide +kernel
theorem dX11_fill_101 : decode cX11_fill 101 = .ok (.invokevirtual 375, 3) := by decide +kernel
theorem dX11_fill_104 : decode cX11_fill 104 = .ok (.goto 13, 3) := by decide +kernel
theorem dX11_fill_107 : decode cX11_fill 107 = .ok (.aload_n 0, 1) := by decide +kernel
theorem dX11_fill_108 : decode cX11_fill 108 = .ok (.getfield 30, 3) := by decide +kernel
theorem dX11_fill_111 : decode cX11_fill 111 = .ok (.iload 4, 2) := by decide +kernel
theorem dX11_fill_113 : decode cX11_fill 113 = .ok (.iload_n 3, 1) := by decide +kernel
theorem dX11_fill_114 : decode cX11_fill 114 = .ok (.invokevirtual 378, 3) := by decide +kernel
theorem dX11_fill_117 : decode cX11_fill 117 = .ok (.ireturn, 1) := by decide +kernel
theorem dX11_told_0 : decode cX11_told 0 = .ok (.aload_n 0, 1) := by decide +kernel
theorem dX11_told_1 : decode cX11_told 1 = .ok (.getfield 10, 3) := by decide +kernel
theorem dX11_told_4 : decode cX11_told 4 = .ok (.getfield 83, 3) := by decide +kernel
theorem dX11_told_7 : decode cX11_told 7 = .ok (.ifCond .ne 14, 3) := by decide +kernel
theorem dX11_told_10 : decode cX11_told 10 = .ok (.new 61, 3) := by decide +kernel
theorem dX11_told_13 : decode cX11_told 13 = .ok (.dup, 1) := by decide +kernel
theorem dX11_told_14 : decode cX11_told 14 = .ok (.ldc_w 381, 3) := by decide +kernel
theorem dX11_told_17 : decode cX11_told 17 = .ok (.invokespecial 65, 3) := by decide +kernel
theorem dX11_told_20 : decode cX11_told 20 = .ok (.athrow, 1) := by decide +kernel
theorem dX11_told_21 : decode cX11_told 21 = .ok (.aload_n 0, 1) := by decide +kernel
theorem dX11_told_22 : decode cX11_told 22 = .ok (.getfield 10, 3) := by decide +kernel
theorem dX11_told_25 : decode cX11_told 25 = .ok (.getfield 203, 3) := by decide +kernel
theorem dX11_told_28 : decode cX11_told 28 = .ok (.astore 5, 2) := by decide +kernel
theorem dX11_told_30 : decode cX11_told 30 = .ok (.aload 5, 2) := by decide +kernel
theorem dX11_told_32 : decode cX11_told 32 = .ok (.iconst 0, 1) := by decide +kernel
theorem dX11_told_33 : decode cX11_told 33 = .ok (.iload_n 1, 1) := by decide +kernel
theorem dX11_told_34 : decode cX11_told 34 = .ok (.iastore, 1) := by decide +kernel
theorem dX11_told_35 : decode cX11_told 35 = .ok (.aload 5, 2) := by decide +kernel
theorem dX11_told_37 : decode cX11_told 37 = .ok (.iconst 1, 1) := by decide +kernel
theorem dX11_told_38 : decode cX11_told 38 = .ok (.iload_n 2, 1) := by decide +kernel
theorem dX11_told_39 : decode cX11_told 39 = .ok (.iastore, 1) := by decide +kernel
theorem dX11_told_40 : decode cX11_told 40 = .ok (.aload 5, 2) := by decide +kernel
theorem dX11_told_42 : decode cX11_told 42 = .ok (.iconst 2, 1) := by decide +kernel
theorem dX11_told_43 : decode cX11_told 43 = .ok (.iload_n 3, 1) := by decide +kernel
theorem dX11_told_44 : decode cX11_told 44 = .ok (.iastore, 1) := by decide +kernel
theorem dX11_told_45 : decode cX11_told 45 = .ok (.aload 5, 2) := by decide +kernel
theorem dX11_told_47 : decode cX11_told 47 = .ok (.iconst 3, 1) := by decide +kernel
theorem dX11_told_48 : decode cX11_told 48 = .ok (.iload 4, 2) := by decide +kernel
theorem dX11_told_50 : decode cX11_told 50 = .ok (.iastore, 1) := by decide +kernel
theorem dX11_told_51 : decode cX11_told 51 = .ok (.iconst 0, 1) := by decide +kernel
theorem dX11_told_52 : decode cX11_told 52 = .ok (.istore 6, 2) := by decide +kernel
theorem dX11_told_54 : decode cX11_told 54 = .ok (.iload 6, 2) := by decide +kernel
theorem dX11_told_56 : decode cX11_told 56 = .ok (.aload_n 0, 1) := by decide +kernel
theorem dX11_told_57 : decode cX11_told 57 = .ok (.getfield 10, 3) := by decide +kernel
theorem dX11_told_60 : decode cX11_told 60 = .ok (.getfield 83, 3) := by decide +kernel
theorem dX11_told_63 : decode cX11_told 63 = .ok (.if_icmp .ge 18, 3) := by decide +kernel
theorem dX11_told_66 : decode cX11_told 66 = .ok (.aload_n 0, 1) := by decide +kernel
theorem dX11_told_67 : decode cX11_told 67 = .ok (.aload 5, 2) := by decide +kernel
theorem dX11_told_69 : decode cX11_told 69 = .ok (.iload 6, 2) := by decide +kernel
theorem dX11_told_71 : decode cX11_told 71 = .ok (.iaload, 1) := by decide +kernel
theorem dX11_told_72 : decode cX11_told 72 = .ok (.invokevirtual 68, 3) := by decide +kernel
theorem dX11_told_75 : decode cX11_told 75 = .ok (.iinc 6 1, 3) := by decide +kernel
theorem dX11_told_78 : decode cX11_told 78 = .ok (.goto (-24), 3) := by decide +kernel
theorem dX11_told_81 : decode cX11_told 81 = .ok (.aload_n 0, 1) := by decide +kernel
theorem dX11_told_82 : decode cX11_told 82 = .ok (.getfield 10, 3) := by decide +kernel
theorem dX11_told_85 : decode cX11_told 85 = .ok (.aload 5, 2) := by decide +kernel
theorem dX11_told_87 : decode cX11_told 87 = .ok (.invokevirtual 383, 3) := by decide +kernel
theorem dX11_told_90 : decode cX11_told 90 = .ok (.ireturn, 1) := by decide +kernel
theorem dX11_fit_0 : decode cX11_fit 0 = .ok (.aload_n 0, 1) := by decide +kernel
theorem dX11_fit_1 : decode cX11_fit 1 = .ok (.iload_n 1, 1) := by decide +kernel
theorem dX11_fit_2 : decode cX11_fit 2 = .ok (.invokevirtual 80, 3) := by decide +kernel
theorem dX11_fit_5 : decode cX11_fit 5 = .ok (.aload_n 0, 1) := by decide +kernel
theorem dX11_fit_6 : decode cX11_fit 6 = .ok (.getfield 10, 3) := by decide +kernel
theorem dX11_fit_9 : decode cX11_fit 9 = .ok (.iload_n 1, 1) := by decide +kernel
theorem dX11_fit_10 : decode cX11_fit 10 = .ok (.invokevirtual 387, 3) := by decide +kernel
theorem dX11_fit_13 : decode cX11_fit 13 = .ok (.ireturn, 1) := by decide +kernel
theorem dX11_tray_0 : decode cX11_tray 0 = .ok (.aload_n 0, 1) := by decide +kernel
theorem dX11_tray_1 : decode cX11_tray 1 = .ok (.iload_n 1, 1) := by decide +kernel
theorem dX11_tray_2 : decode cX11_tray 2 = .ok (.invokevirtual 336, 3) := by decide +kernel
theorem dX11_tray_5 : decode cX11_tray 5 = .ok (.aload_n 0, 1) := by decide +kernel
theorem dX11_tray_6 : decode cX11_tray 6 = .ok (.iload_n 2, 1) := by decide +kernel
theorem dX11_tray_7 : decode cX11_tray 7 = .ok (.iconst 0, 1) := by decide +kernel
theorem dX11_tray_8 : decode cX11_tray 8 = .ok (.iconst 3, 1) := by decide +kernel
theorem dX11_tray_9 : decode cX11_tray 9 = .ok (.invokevirtual 72, 3) := by decide +kernel
theorem dX11_tray_12 : decode cX11_tray 12 = .ok (.aload_n 0, 1) := by decide +kernel
theorem dX11_tray_13 : decode cX11_tray 13 = .ok (.iload_n 3, 1) := by decide +kernel
theorem dX11_tray_14 : decode cX11_tray 14 = .ok (.iconst 0, 1) := by decide +kernel
theorem dX11_tray_15 : decode cX11_tray 15 = .ok (.bipush 28, 2) := by decide +kernel
theorem dX11_tray_17 : decode cX11_tray 17 = .ok (.invokevirtual 72, 3) := by decide +kernel
theorem dX11_tray_20 : decode cX11_tray 20 = .ok (.aload_n 0, 1) := by decide +kernel
theorem dX11_tray_21 : decode cX11_tray 21 = .ok (.getfield 30, 3) := by decide +kernel
theorem dX11_tray_24 : decode cX11_tray 24 = .ok (.iload_n 1, 1) := by decide +kernel
theorem dX11_tray_25 : decode cX11_tray 25 = .ok (.iload_n 2, 1) := by decide +kernel
theorem dX11_tray_26 : decode cX11_tray 26 = .ok (.iload_n 3, 1) := by decide +kernel
theorem dX11_tray_27 : decode cX11_tray 27 = .ok (.invokevirtual 390, 3) := by decide +kernel
theorem dX11_tray_30 : decode cX11_tray 30 = .ok (.return_, 1) := by decide +kernel
theorem dX11_write_0 : decode cX11_write 0 = .ok (.aload_n 0, 1) := by decide +kernel
theorem dX11_write_1 : decode cX11_write 1 = .ok (.iload_n 1, 1) := by decide +kernel
theorem dX11_write_2 : decode cX11_write 2 = .ok (.invokevirtual 336, 3) := by decide +kernel
theorem dX11_write_5 : decode cX11_write 5 = .ok (.aload_n 0, 1) := by decide +kernel
theorem dX11_write_6 : decode cX11_write 6 = .ok (.iload_n 1, 1) := by decide +kernel
theorem dX11_write_7 : decode cX11_write 7 = .ok (.invokevirtual 339, 3) := by decide +kernel
theorem dX11_write_10 : decode cX11_write 10 = .ok (.iload_n 2, 1) := by decide +kernel
theorem dX11_write_11 : decode cX11_write 11 = .ok (.ifCond .lt 16, 3) := by decide +kernel
theorem dX11_write_14 : decode cX11_write 14 = .ok (.iload_n 2, 1) := by decide +kernel
theorem dX11_write_15 : decode cX11_write 15 = .ok (.aload_n 0, 1) := by decide +kernel
theorem dX11_write_16 : decode cX11_write 16 = .ok (.getfield 30, 3) := by decide +kernel
theorem dX11_write_19 : decode cX11_write 19 = .ok (.getfield 342, 3) := by decide +kernel
theorem dX11_write_22 : decode cX11_write 22 = .ok (.iload_n 1, 1) := by decide +kernel
theorem dX11_write_23 : decode cX11_write 23 = .ok (.iaload, 1) := by decide +kernel
theorem dX11_write_24 : decode cX11_write 24 = .ok (.if_icmp .lt 14, 3) := by decide +kernel
theorem dX11_write_27 : decode cX11_write 27 = .ok (.new 393, 3) := by decide +kernel
theorem dX11_write_30 : decode cX11_write 30 = .ok (.dup, 1) := by decide +kernel
theorem dX11_write_31 : decode cX11_write 31 = .ok (.ldc_w 395, 3) := by decide +kernel
theorem dX11_write_34 : decode cX11_write 34 = .ok (.invokespecial 397, 3) := by decide +kernel
theorem dX11_write_37 : decode cX11_write 37 = .ok (.athrow, 1) := by decide +kernel
theorem dX11_write_38 : decode cX11_write 38 = .ok (.aload_n 0, 1) := by decide +kernel
theorem dX11_write_39 : decode cX11_write 39 = .ok (.getfield 30, 3) := by decide +kernel
theorem dX11_write_42 : decode cX11_write 42 = .ok (.iload_n 1, 1) := by decide +kernel
theorem dX11_write_43 : decode cX11_write 43 = .ok (.iload_n 2, 1) := by decide +kernel
theorem dX11_write_44 : decode cX11_write 44 = .ok (.lload_n 3, 1) := by decide +kernel
theorem dX11_write_45 : decode cX11_write 45 = .ok (.invokevirtual 398, 3) := by decide +kernel
theorem dX11_write_48 : decode cX11_write 48 = .ok (.lreturn, 1) := by decide +kernel
theorem dX11_image_0 : decode cX11_image 0 = .ok (.aload_n 0, 1) := by decide +kernel
theorem dX11_image_1 : decode cX11_image 1 = .ok (.iload_n 1, 1) := by decide +kernel
theorem dX11_image_2 : decode cX11_image 2 = .ok (.invokevirtual 402, 3) := by decide +kernel
theorem dX11_image_5 : decode cX11_image 5 = .ok (.aload_n 0, 1) := by decide +kernel
theorem dX11_image_6 : decode cX11_image 6 = .ok (.getfield 16, 3) := by decide +kernel
theorem dX11_image_9 : decode cX11_image 9 = .ok (.iload_n 1, 1) := by decide +kernel
theorem dX11_image_10 : decode cX11_image 10 = .ok (.aaload, 1) := by decide +kernel
theorem dX11_image_11 : decode cX11_image 11 = .ok (.ifnonnull 16, 3) := by decide +kernel
theorem dX11_image_14 : decode cX11_image 14 = .ok (.aload_n 0, 1) := by decide +kernel
theorem dX11_image_15 : decode cX11_image 15 = .ok (.getfield 16, 3) := by decide +kernel
theorem dX11_image_18 : decode cX11_image 18 = .ok (.iload_n 1, 1) := by decide +kernel
theorem dX11_image_19 : decode cX11_image 19 = .ok (.new 7, 3) := by decide +kernel
theorem dX11_image_22 : decode cX11_image 22 = .ok (.dup, 1) := by decide +kernel
theorem dX11_image_23 : decode cX11_image 23 = .ok (.invokespecial 9, 3) := by decide +kernel
theorem dX11_image_26 : decode cX11_image 26 = .ok (.aastore, 1) := by decide +kernel
theorem dX11_image_27 : decode cX11_image 27 = .ok (.aload_n 0, 1) := by decide +kernel
theorem dX11_image_28 : decode cX11_image 28 = .ok (.getfield 16, 3) := by decide +kernel
theorem dX11_image_31 : decode cX11_image 31 = .ok (.iload_n 1, 1) := by decide +kernel
theorem dX11_image_32 : decode cX11_image 32 = .ok (.aaload, 1) := by decide +kernel
theorem dX11_image_33 : decode cX11_image 33 = .ok (.aload_n 0, 1) := by decide +kernel
theorem dX11_image_34 : decode cX11_image 34 = .ok (.getfield 10, 3) := by decide +kernel
theorem dX11_image_37 : decode cX11_image 37 = .ok (.invokevirtual 405, 3) := by decide +kernel
theorem dX11_image_40 : decode cX11_image 40 = .ok (.return_, 1) := by decide +kernel
theorem dX11_restore_0 : decode cX11_restore 0 = .ok (.aload_n 0, 1) := by decide +kernel
theorem dX11_restore_1 : decode cX11_restore 1 = .ok (.iload_n 1, 1) := by decide +kernel
theorem dX11_restore_2 : decode cX11_restore 2 = .ok (.invokevirtual 402, 3) := by decide +kernel
theorem dX11_restore_5 : decode cX11_restore 5 = .ok (.aload_n 0, 1) := by decide +kernel
theorem dX11_restore_6 : decode cX11_restore 6 = .ok (.getfield 16, 3) := by decide +kernel
theorem dX11_restore_9 : decode cX11_restore 9 = .ok (.iload_n 1, 1) := by decide +kernel
theorem dX11_restore_10 : decode cX11_restore 10 = .ok (.aaload, 1) := by decide +kernel
theorem dX11_restore_11 : decode cX11_restore 11 = .ok (.ifnonnull 14, 3) := by decide +kernel
theorem dX11_restore_14 : decode cX11_restore 14 = .ok (.new 61, 3) := by decide +kernel
theorem dX11_restore_17 : decode cX11_restore 17 = .ok (.dup, 1) := by decide +kernel
theorem dX11_restore_18 : decode cX11_restore 18 = .ok (.ldc_w 409, 3) := by decide +kernel
theorem dX11_restore_21 : decode cX11_restore 21 = .ok (.invokespecial 65, 3) := by decide +kernel
theorem dX11_restore_24 : decode cX11_restore 24 = .ok (.athrow, 1) := by decide +kernel
theorem dX11_restore_25 : decode cX11_restore 25 = .ok (.aload_n 0, 1) := by decide +kernel
theorem dX11_restore_26 : decode cX11_restore 26 = .ok (.getfield 10, 3) := by decide +kernel
theorem dX11_restore_29 : decode cX11_restore 29 = .ok (.aload_n 0, 1) := by decide +kernel
theorem dX11_restore_30 : decode cX11_restore 30 = .ok (.getfield 16, 3) := by decide +kernel
theorem dX11_restore_33 : decode cX11_restore 33 = .ok (.iload_n 1, 1) := by decide +kernel
theorem dX11_restore_34 : decode cX11_restore 34 = .ok (.aaload, 1) := by decide +kernel
theorem dX11_restore_35 : decode cX11_restore 35 = .ok (.invokevirtual 405, 3) := by decide +kernel
theorem dX11_restore_38 : decode cX11_restore 38 = .ok (.return_, 1) := by decide +kernel
theorem dX11_count_0 : decode cX11_count 0 = .ok (.iload_n 1, 1) := by decide +kernel
theorem dX11_count_1 : decode cX11_count 1 = .ok (.tableswitch 162 0 9 #[55, 64, 76, 88, 100, 109, 121, 133, 141, 150], 55) := by decide +kernel
theorem dX11_count_56 : decode cX11_count 56 = .ok (.aload_n 0, 1) := by decide +kernel
theorem dX11_count_57 : decode cX11_count 57 = .ok (.getfield 10, 3) := by decide +kernel
theorem dX11_count_60 : decode cX11_count 60 = .ok (.getfield 83, 3) := by decide +kernel
theorem dX11_count_63 : decode cX11_count 63 = .ok (.i2l, 1) := by decide +kernel
theorem dX11_count_64 : decode cX11_count 64 = .ok (.lreturn, 1) := by decide +kernel
theorem dX11_count_65 : decode cX11_count 65 = .ok (.aload_n 0, 1) := by decide +kernel
theorem dX11_count_66 : decode cX11_count 66 = .ok (.getfield 10, 3) := by decide +kernel
theorem dX11_count_69 : decode cX11_count 69 = .ok (.getfield 86, 3) := by decide +kernel
theorem dX11_count_72 : decode cX11_count 72 = .ok (.getfield 198, 3) := by decide +kernel
theorem dX11_count_75 : decode cX11_count 75 = .ok (.i2l, 1) := by decide +kernel
theorem dX11_count_76 : decode cX11_count 76 = .ok (.lreturn, 1) := by decide +kernel
theorem dX11_count_77 : decode cX11_count 77 = .ok (.aload_n 0, 1) := by decide +kernel
theorem dX11_count_78 : decode cX11_count 78 = .ok (.getfield 10, 3) := by decide +kernel
theorem dX11_count_81 : decode cX11_count 81 = .ok (.getfield 48, 3) := by decide +kernel
theorem dX11_count_84 : decode cX11_count 84 = .ok (.getfield 52, 3) := by decide +kernel
theorem dX11_count_87 : decode cX11_count 87 = .ok (.i2l, 1) := by decide +kernel
theorem dX11_count_88 : decode cX11_count 88 = .ok (.lreturn, 1) := by decide +kernel
theorem dX11_count_89 : decode cX11_count 89 = .ok (.aload_n 0, 1) := by decide +kernel
theorem dX11_count_90 : decode cX11_count 90 = .ok (.getfield 10, 3) := by decide +kernel
theorem dX11_count_93 : decode cX11_count 93 = .ok (.getfield 48, 3) := by decide +kernel
theorem dX11_count_96 : decode cX11_count 96 = .ok (.invokevirtual 411, 3) := by decide +kernel
theorem dX11_count_99 : decode cX11_count 99 = .ok (.i2l, 1) := by decide +kernel
theorem dX11_count_100 : decode cX11_count 100 = .ok (.lreturn, 1) := by decide +kernel
theorem dX11_count_101 : decode cX11_count 101 = .ok (.aload_n 0, 1) := by decide +kernel
theorem dX11_count_102 : decode cX11_count 102 = .ok (.getfield 10, 3) := by decide +kernel
theorem dX11_count_105 : decode cX11_count 105 = .ok (.getfield 258, 3) := by decide +kernel
theorem dX11_count_108 : decode cX11_count 108 = .ok (.i2l, 1) := by decide +kernel
theorem dX11_count_109 : decode cX11_count 109 = .ok (.lreturn, 1) := by decide +kernel
theorem dX11_count_110 : decode cX11_count 110 = .ok (.aload_n 0, 1) := by decide +kernel
theorem dX11_count_111 : decode cX11_count 111 = .ok (.getfield 10, 3) := by decide +kernel
theorem dX11_count_114 : decode cX11_count 114 = .ok (.getfield 349, 3) := by decide +kernel
theorem dX11_count_117 : decode cX11_count 117 = .ok (.getfield 414, 3) := by decide +kernel
theorem dX11_count_120 : decode cX11_count 120 = .ok (.i2l, 1) := by decide +kernel
theorem dX11_count_121 : decode cX11_count 121 = .ok (.lreturn, 1) := by decide +kernel
theorem dX11_count_122 : decode cX11_count 122 = .ok (.aload_n 0, 1) := by decide +kernel
theorem dX11_count_123 : decode cX11_count 123 = .ok (.getfield 10, 3) := by decide +kernel
theorem dX11_count_126 : decode cX11_count 126 = .ok (.getfield 58, 3) := by decide +kernel
theorem dX11_count_129 : decode cX11_count 129 = .ok (.getfield 52, 3) := by decide +kernel
theorem dX11_count_132 : decode cX11_count 132 = .ok (.i2l, 1) := by decide +kernel
theorem dX11_count_133 : decode cX11_count 133 = .ok (.lreturn, 1) := by decide +kernel
theorem dX11_count_134 : decode cX11_count 134 = .ok (.aload_n 0, 1) := by decide +kernel
theorem dX11_count_135 : decode cX11_count 135 = .ok (.getfield 10, 3) := by decide +kernel
theorem dX11_count_138 : decode cX11_count 138 = .ok (.getfield 417, 3) := by decide +kernel
theorem dX11_count_141 : decode cX11_count 141 = .ok (.lreturn, 1) := by decide +kernel
theorem dX11_count_142 : decode cX11_count 142 = .ok (.aload_n 0, 1) := by decide +kernel
theorem dX11_count_143 : decode cX11_count 143 = .ok (.getfield 23, 3) := by decide +kernel
theorem dX11_count_146 : decode cX11_count 146 = .ok (.getfield 118, 3) := by decide +kernel
theorem dX11_count_149 : decode cX11_count 149 = .ok (.i2l, 1) := by decide +kernel
theorem dX11_count_150 : decode cX11_count 150 = .ok (.lreturn, 1) := by decide +kernel
theorem dX11_count_151 : decode cX11_count 151 = .ok (.aload_n 0, 1) := by decide +kernel
theorem dX11_count_152 : decode cX11_count 152 = .ok (.getfield 10, 3) := by decide +kernel
theorem dX11_count_155 : decode cX11_count 155 = .ok (.getfield 100, 3) := by decide +kernel
theorem dX11_count_158 : decode cX11_count 158 = .ok (.getfield 230, 3) := by decide +kernel
theorem dX11_count_161 : decode cX11_count 161 = .ok (.i2l, 1) := by decide +kernel
theorem dX11_count_162 : decode cX11_count 162 = .ok (.lreturn, 1) := by decide +kernel
theorem dX11_count_163 : decode cX11_count 163 = .ok (.ldc2_w 420, 3) := by decide +kernel
theorem dX11_count_166 : decode cX11_count 166 = .ok (.lreturn, 1) := by decide +kernel
theorem dX11_needStation_0 : decode cX11_needStation 0 = .ok (.iload_n 1, 1) := by decide +kernel
theorem dX11_needStation_1 : decode cX11_needStation 1 = .ok (.ifCond .lt 14, 3) := by decide +kernel
theorem dX11_needStation_4 : decode cX11_needStation 4 = .ok (.iload_n 1, 1) := by decide +kernel
theorem dX11_needStation_5 : decode cX11_needStation 5 = .ok (.aload_n 0, 1) := by decide +kernel
theorem dX11_needStation_6 : decode cX11_needStation 6 = .ok (.getfield 10, 3) := by decide +kernel
theorem dX11_needStation_9 : decode cX11_needStation 9 = .ok (.getfield 83, 3) := by decide +kernel
theorem dX11_needStation_12 : decode cX11_needStation 12 = .ok (.if_icmp .lt 14, 3) := by decide +kernel
theorem dX11_needStation_15 : decode cX11_needStation 15 = .ok (.new 168, 3) := by decide +kernel
theorem dX11_needStation_18 : decode cX11_needStation 18 = .ok (.dup, 1) := by decide +kernel
theorem dX11_needStation_19 : decode cX11_needStation 19 = .ok (.ldc_w 422, 3) := by decide +kernel
theorem dX11_needStation_22 : decode cX11_needStation 22 = .ok (.invokespecial 172, 3) := by decide +kernel
theorem dX11_needStation_25 : decode cX11_needStation 25 = .ok (.athrow, 1) := by decide +kernel
theorem dX11_needStation_26 : decode cX11_needStation 26 = .ok (.return_, 1) := by decide +kernel
theorem dX11_needTwo_0 : decode cX11_needTwo 0 = .ok (.aload_n 0, 1) := by decide +kernel
theorem dX11_needTwo_1 : decode cX11_needTwo 1 = .ok (.iload_n 1, 1) := by decide +kernel
theorem dX11_needTwo_2 : decode cX11_needTwo 2 = .ok (.invokevirtual 80, 3) := by decide +kernel
theorem dX11_needTwo_5 : decode cX11_needTwo 5 = .ok (.aload_n 0, 1) := by decide +kernel
theorem dX11_needTwo_6 : decode cX11_needTwo 6 = .ok (.iload_n 2, 1) := by decide +kernel
theorem dX11_needTwo_7 : decode cX11_needTwo 7 = .ok (.invokevirtual 80, 3) := by decide +kernel
theorem dX11_needTwo_10 : decode cX11_needTwo 10 = .ok (.iload_n 1, 1) := by decide +kernel
theorem dX11_needTwo_11 : decode cX11_needTwo 11 = .ok (.iload_n 2, 1) := by decide +kernel
theorem dX11_needTwo_12 : decode cX11_needTwo 12 = .ok (.if_icmp .ne 14, 3) := by decide +kernel
theorem dX11_needTwo_15 : decode cX11_needTwo 15 = .ok (.new 193, 3) := by decide +kernel
theorem dX11_needTwo_18 : decode cX11_needTwo 18 = .ok (.dup, 1) := by decide +kernel
theorem dX11_needTwo_19 : decode cX11_needTwo 19 = .ok (.ldc_w 424, 3) := by decide +kernel
theorem dX11_needTwo_22 : decode cX11_needTwo 22 = .ok (.invokespecial 197, 3) := by decide +kernel
theorem dX11_needTwo_25 : decode cX11_needTwo 25 = .ok (.athrow, 1) := by decide +kernel
theorem dX11_needTwo_26 : decode cX11_needTwo 26 = .ok (.return_, 1) := by decide +kernel
theorem dX11_needTurns_0 : decode cX11_needTurns 0 = .ok (.aload_n 0, 1) := by decide +kernel
theorem dX11_needTurns_1 : decode cX11_needTurns 1 = .ok (.iload_n 1, 1) := by decide +kernel
theorem dX11_needTurns_2 : decode cX11_needTurns 2 = .ok (.iload_n 2, 1) := by decide +kernel
theorem dX11_needTurns_3 : decode cX11_needTurns 3 = .ok (.invokevirtual 269, 3) := by decide +kernel
theorem dX11_needTurns_6 : decode cX11_needTurns 6 = .ok (.aload_n 0, 1) := by decide +kernel
theorem dX11_needTurns_7 : decode cX11_needTurns 7 = .ok (.iload 4, 2) := by decide +kernel
theorem dX11_needTurns_9 : decode cX11_needTurns 9 = .ok (.iconst 1, 1) := by decide +kernel
theorem dX11_needTurns_10 : decode cX11_needTurns 10 = .ok (.bipush 40, 2) := by decide +kernel
theorem dX11_needTurns_12 : decode cX11_needTurns 12 = .ok (.invokevirtual 72, 3) := by decide +kernel
theorem dX11_needTurns_15 : decode cX11_needTurns 15 = .ok (.aload_n 0, 1) := by decide +kernel
theorem dX11_needTurns_16 : decode cX11_needTurns 16 = .ok (.iload_n 3, 1) := by decide +kernel
theorem dX11_needTurns_17 : decode cX11_needTurns 17 = .ok (.invokevirtual 273, 3) := by decide +kernel
theorem dX11_needTurns_20 : decode cX11_needTurns 20 = .ok (.return_, 1) := by decide +kernel
theorem dX11_needLevel_0 : decode cX11_needLevel 0 = .ok (.iload_n 1, 1) := by decide +kernel
theorem dX11_needLevel_1 : decode cX11_needLevel 1 = .ok (.ifCond .lt 14, 3) := by decide +kernel
theorem dX11_needLevel_4 : decode cX11_needLevel 4 = .ok (.iload_n 1, 1) := by decide +kernel
theorem dX11_needLevel_5 : decode cX11_needLevel 5 = .ok (.aload_n 0, 1) := by decide +kernel
theorem dX11_needLevel_6 : decode cX11_needLevel 6 = .ok (.getfield 10, 3) := by decide +kernel
theorem dX11_needLevel_9 : decode cX11_needLevel 9 = .ok (.getfield 258, 3) := by decide +kernel
theorem dX11_needLevel_12 : decode cX11_needLevel 12 = .ok (.if_icmp .lt 14, 3) := by decide +kernel
theorem dX11_needLevel_15 : decode cX11_needLevel 15 = .ok (.new 393, 3) := by decide +kernel
theorem dX11_needLevel_18 : decode cX11_needLevel 18 = .ok (.dup, 1) := by decide +kernel
theorem dX11_needLevel_19 : decode cX11_needLevel 19 = .ok (.ldc_w 426, 3) := by decide +kernel
theorem dX11_needLevel_22 : decode cX11_needLevel 22 = .ok (.invokespecial 397, 3) := by decide +kernel
theorem dX11_needLevel_25 : decode cX11_needLevel 25 = .ok (.athrow, 1) := by decide +kernel
theorem dX11_needLevel_26 : decode cX11_needLevel 26 = .ok (.return_, 1) := by decide +kernel
theorem dX11_needTray_0 : decode cX11_needTray 0 = .ok (.iload_n 1, 1) := by decide +kernel
theorem dX11_needTray_1 : decode cX11_needTray 1 = .ok (.ifCond .lt 8, 3) := by decide +kernel
theorem dX11_needTray_4 : decode cX11_needTray 4 = .ok (.iload_n 1, 1) := by decide +kernel
theorem dX11_needTray_5 : decode cX11_needTray 5 = .ok (.iconst 4, 1) := by decide +kernel
theorem dX11_needTray_6 : decode cX11_needTray 6 = .ok (.if_icmp .lt 14, 3) := by decide +kernel
theorem dX11_needTray_9 : decode cX11_needTray 9 = .ok (.new 168, 3) := by decide +kernel
theorem dX11_needTray_12 : decode cX11_needTray 12 = .ok (.dup, 1) := by decide +kernel
theorem dX11_needTray_13 : decode cX11_needTray 13 = .ok (.ldc_w 428, 3) := by decide +kernel
theorem dX11_needTray_16 : decode cX11_needTray 16 = .ok (.invokespecial 172, 3) := by decide +kernel
theorem dX11_needTray_19 : decode cX11_needTray 19 = .ok (.athrow, 1) := by decide +kernel
theorem dX11_needTray_20 : decode cX11_needTray 20 = .ok (.return_, 1) := by decide +kernel
theorem dX11_needFilledTray_0 : decode cX11_needFilledTray 0 = .ok (.aload_n 0, 1) := by decide +kernel
theorem dX11_needFilledTray_1 : decode cX11_needFilledTray 1 = .ok (.getfield 30, 3) := by decide +kernel
theorem dX11_needFilledTray_4 : decode cX11_needFilledTray 4 = .ok (.iload_n 1, 1) := by decide +kernel
theorem dX11_needFilledTray_5 : decode cX11_needFilledTray 5 = .ok (.invokevirtual 430, 3) := by decide +kernel
theorem dX11_needFilledTray_8 : decode cX11_needFilledTray 8 = .ok (.ifCond .eq 14, 3) := by decide +kernel
theorem dX11_needFilledTray_11 : decode cX11_needFilledTray 11 = .ok (.new 61, 3) := by decide +kernel
theorem dX11_needFilledTray_14 : decode cX11_needFilledTray 14 = .ok (.dup, 1) := by decide +kernel
theorem dX11_needFilledTray_15 : decode cX11_needFilledTray 15 = .ok (.ldc_w 433, 3) := by decide +kernel
theorem dX11_needFilledTray_18 : decode cX11_needFilledTray 18 = .ok (.invokespecial 65, 3) := by decide +kernel
theorem dX11_needFilledTray_21 : decode cX11_needFilledTray 21 = .ok (.athrow, 1) := by decide +kernel
theorem dX11_needFilledTray_22 : decode cX11_needFilledTray 22 = .ok (.return_, 1) := by decide +kernel
theorem dX11_needImage_0 : decode cX11_needImage 0 = .ok (.iload_n 1, 1) := by decide +kernel
theorem dX11_needImage_1 : decode cX11_needImage 1 = .ok (.ifCond .lt 8, 3) := by decide +kernel
theorem dX11_needImage_4 : decode cX11_needImage 4 = .ok (.iload_n 1, 1) := by decide +kernel
theorem dX11_needImage_5 : decode cX11_needImage 5 = .ok (.iconst 3, 1) := by decide +kernel
theorem dX11_needImage_6 : decode cX11_needImage 6 = .ok (.if_icmp .lt 14, 3) := by decide +kernel
theorem dX11_needImage_9 : decode cX11_needImage 9 = .ok (.new 168, 3) := by decide +kernel
theorem dX11_needImage_12 : decode cX11_needImage 12 = .ok (.dup, 1) := by decide +kernel
theorem dX11_needImage_13 : decode cX11_needImage 13 = .ok (.ldc_w 435, 3) := by decide +kernel
theorem dX11_needImage_16 : decode cX11_needImage 16 = .ok (.invokespecial 172, 3) := by decide +kernel
theorem dX11_needImage_19 : decode cX11_needImage 19 = .ok (.athrow, 1) := by decide +kernel
theorem dX11_needImage_20 : decode cX11_needImage 20 = .ok (.return_, 1) := by decide +kernel
theorem dX11_needPrice_0 : decode cX11_needPrice 0 = .ok (.aload_n 0, 1) := by decide +kernel
theorem dX11_needPrice_1 : decode cX11_needPrice 1 = .ok (.iload_n 1, 1) := by decide +kernel
theorem dX11_needPrice_2 : decode cX11_needPrice 2 = .ok (.iconst 0, 1) := by decide +kernel
theorem dX11_needPrice_3 : decode cX11_needPrice 3 = .ok (.bipush 99, 2) := by decide +kernel
theorem dX11_needPrice_5 : decode cX11_needPrice 5 = .ok (.invokevirtual 72, 3) := by decide +kernel
theorem dX11_needPrice_8 : decode cX11_needPrice 8 = .ok (.return_, 1) := by decide +kernel
theorem dX11_needWithin_0 : decode cX11_needWithin 0 = .ok (.iload_n 1, 1) := by decide +kernel
theorem dX11_needWithin_1 : decode cX11_needWithin 1 = .ok (.iload_n 2, 1) := by decide +kernel
theorem dX11_needWithin_2 : decode cX11_needWithin 2 = .ok (.if_icmp .lt 8, 3) := by decide +kernel
theorem dX11_needWithin_5 : decode cX11_needWithin 5 = .ok (.iload_n 1, 1) := by decide +kernel
theorem dX11_needWithin_6 : decode cX11_needWithin 6 = .ok (.iload_n 3, 1) := by decide +kernel
theorem dX11_needWithin_7 : decode cX11_needWithin 7 = .ok (.if_icmp .le 14, 3) := by decide +kernel
theorem dX11_needWithin_10 : decode cX11_needWithin 10 = .ok (.new 193, 3) := by decide +kernel
theorem dX11_needWithin_13 : decode cX11_needWithin 13 = .ok (.dup, 1) := by decide +kernel
theorem dX11_needWithin_14 : decode cX11_needWithin 14 = .ok (.ldc_w 437, 3) := by decide +kernel
theorem dX11_needWithin_17 : decode cX11_needWithin 17 = .ok (.invokespecial 197, 3) := by decide +kernel
theorem dX11_needWithin_20 : decode cX11_needWithin 20 = .ok (.athrow, 1) := by decide +kernel
theorem dX11_needWithin_21 : decode cX11_needWithin 21 = .ok (.return_, 1) := by decide +kernel
theorem dX11_setFraction_0 : decode cX11_setFraction 0 = .ok (.lload_n 1, 1) := by decide +kernel
theorem dX11_setFraction_1 : decode cX11_setFraction 1 = .ok (.lload_n 3, 1) := by decide +kernel
theorem dX11_setFraction_2 : decode cX11_setFraction 2 = .ok (.invokestatic 439, 3) := by decide +kernel
theorem dX11_setFraction_5 : decode cX11_setFraction 5 = .ok (.lstore 5, 2) := by decide +kernel
theorem dX11_setFraction_7 : decode cX11_setFraction 7 = .ok (.aload_n 0, 1) := by decide +kernel
theorem dX11_setFraction_8 : decode cX11_setFraction 8 = .ok (.lload 5, 2) := by decide +kernel
theorem dX11_setFraction_10 : decode cX11_setFraction 10 = .ok (.lconst 0, 1) := by decide +kernel
theorem dX11_setFraction_11 : decode cX11_setFraction 11 = .ok (.lcmp, 1) := by decide +kernel
theorem dX11_setFraction_12 : decode cX11_setFraction 12 = .ok (.ifCond .ne 7, 3) := by decide +kernel
theorem dX11_setFraction_15 : decode cX11_setFraction 15 = .ok (.lconst 0, 1) := by decide +kernel
theorem dX11_setFraction_16 : decode cX11_setFraction 16 = .ok (.goto 7, 3) := by decide +kernel
theorem dX11_setFraction_19 : decode cX11_setFraction 19 = .ok (.lload_n 1, 1) := by decide +kernel
theorem dX11_setFraction_20 : decode cX11_setFraction 20 = .ok (.lload 5, 2) := by decide +kernel
theorem dX11_setFraction_22 : decode cX11_setFraction 22 = .ok (.ldiv, 1) := by decide +kernel
theorem dX11_setFraction_23 : decode cX11_setFraction 23 = .ok (.putfield 251, 3) := by decide +kernel
theorem dX11_setFraction_26 : decode cX11_setFraction 26 = .ok (.aload_n 0, 1) := by decide +kernel
theorem dX11_setFraction_27 : decode cX11_setFraction 27 = .ok (.lload 5, 2) := by decide +kernel
theorem dX11_setFraction_29 : decode cX11_setFraction 29 = .ok (.lconst 0, 1) := by decide +kernel
theorem dX11_setFraction_30 : decode cX11_setFraction 30 = .ok (.lcmp, 1) := by decide +kernel
theorem dX11_setFraction_31 : decode cX11_setFraction 31 = .ok (.ifCond .ne 7, 3) := by decide +kernel
theorem dX11_setFraction_34 : decode cX11_setFraction 34 = .ok (.lconst 0, 1) := by decide +kernel
theorem dX11_setFraction_35 : decode cX11_setFraction 35 = .ok (.goto 7, 3) := by decide +kernel
theorem dX11_setFraction_38 : decode cX11_setFraction 38 = .ok (.lload_n 3, 1) := by decide +kernel
theorem dX11_setFraction_39 : decode cX11_setFraction 39 = .ok (.lload 5, 2) := by decide +kernel
theorem dX11_setFraction_41 : decode cX11_setFraction 41 = .ok (.ldiv, 1) := by decide +kernel
theorem dX11_setFraction_42 : decode cX11_setFraction 42 = .ok (.putfield 255, 3) := by decide +kernel
theorem dX11_setFraction_45 : decode cX11_setFraction 45 = .ok (.return_, 1) := by decide +kernel
theorem dX11_commonDivisor_0 : decode cX11_commonDivisor 0 = .ok (.iconst 0, 1) := by decide +kernel
theorem dX11_commonDivisor_1 : decode cX11_commonDivisor 1 = .ok (.istore 4, 2) := by decide +kernel
theorem dX11_commonDivisor_3 : decode cX11_commonDivisor 3 = .ok (.iload 4, 2) := by decide +kernel
theorem dX11_commonDivisor_5 : decode cX11_commonDivisor 5 = .ok (.bipush 100, 2) := by decide +kernel
theorem dX11_commonDivisor_7 : decode cX11_commonDivisor 7 = .ok (.if_icmp .ge 25, 3) := by decide +kernel
theorem dX11_commonDivisor_10 : decode cX11_commonDivisor 10 = .ok (.lload_n 2, 1) := by decide +kernel
theorem dX11_commonDivisor_11 : decode cX11_commonDivisor 11 = .ok (.lconst 0, 1) := by decide +kernel
theorem dX11_commonDivisor_12 : decode cX11_commonDivisor 12 = .ok (.lcmp, 1) := by decide +kernel
theorem dX11_commonDivisor_13 : decode cX11_commonDivisor 13 = .ok (.ifCond .eq 19, 3) := by decide +kernel
theorem dX11_commonDivisor_16 : decode cX11_commonDivisor 16 = .ok (.lload_n 0, 1) := by decide +kernel
theorem dX11_commonDivisor_17 : decode cX11_commonDivisor 17 = .ok (.lload_n 2, 1) := by decide +kernel
theorem dX11_commonDivisor_18 : decode cX11_commonDivisor 18 = .ok (.lrem, 1) := by decide +kernel
theorem dX11_commonDivisor_19 : decode cX11_commonDivisor 19 = .ok (.lstore 5, 2) := by decide +kernel
theorem dX11_commonDivisor_21 : decode cX11_commonDivisor 21 = .ok (.lload_n 2, 1) := by decide +kernel
theorem dX11_commonDivisor_22 : decode cX11_commonDivisor 22 = .ok (.lstore_n 0, 1) := by decide +kernel
theorem dX11_commonDivisor_23 : decode cX11_commonDivisor 23 = .ok (.lload 5, 2) := by decide +kernel
theorem dX11_commonDivisor_25 : decode cX11_commonDivisor 25 = .ok (.lstore_n 2, 1) := by decide +kernel
theorem dX11_commonDivisor_26 : decode cX11_commonDivisor 26 = .ok (.iinc 4 1, 3) := by decide +kernel
theorem dX11_commonDivisor_29 : decode cX11_commonDivisor 29 = .ok (.goto (-26), 3) := by decide +kernel
theorem dX11_commonDivisor_32 : decode cX11_commonDivisor 32 = .ok (.lload_n 0, 1) := by decide +kernel
theorem dX11_commonDivisor_33 : decode cX11_commonDivisor 33 = .ok (.lreturn, 1) := by decide +kernel
theorem dX11_pair_0 : decode cX11_pair 0 = .ok (.bipush 10, 2) := by decide +kernel
theorem dX11_pair_2 : decode cX11_pair 2 = .ok (.iload_n 0, 1) := by decide +kernel
theorem dX11_pair_3 : decode cX11_pair 3 = .ok (.imul, 1) := by decide +kernel
theorem dX11_pair_4 : decode cX11_pair 4 = .ok (.iload_n 1, 1) := by decide +kernel
theorem dX11_pair_5 : decode cX11_pair 5 = .ok (.iadd, 1) := by decide +kernel
theorem dX11_pair_6 : decode cX11_pair 6 = .ok (.ireturn, 1) := by decide +kernel
theorem dX11_sinceIn_0 : decode cX11_sinceIn 0 = .ok (.iload_n 1, 1) := by decide +kernel
theorem dX11_sinceIn_1 : decode cX11_sinceIn 1 = .ok (.iconst (-1), 1) := by decide +kernel
theorem dX11_sinceIn_2 : decode cX11_sinceIn 2 = .ok (.if_icmp .ne 9, 3) := by decide +kernel
theorem dX11_sinceIn_5 : decode cX11_sinceIn 5 = .ok (.iload_n 0, 1) := by decide +kernel
theorem dX11_sinceIn_6 : decode cX11_sinceIn 6 = .ok (.iconst 1, 1) := by decide +kernel
theorem dX11_sinceIn_7 : decode cX11_sinceIn 7 = .ok (.iadd, 1) := by decide +kernel
theorem dX11_sinceIn_8 : decode cX11_sinceIn 8 = .ok (.goto 6, 3) := by decide +kernel
theorem dX11_sinceIn_11 : decode cX11_sinceIn 11 = .ok (.iload_n 0, 1) := by decide +kernel
theorem dX11_sinceIn_12 : decode cX11_sinceIn 12 = .ok (.iload_n 1, 1) := by decide +kernel
theorem dX11_sinceIn_13 : decode cX11_sinceIn 13 = .ok (.isub, 1) := by decide +kernel
theorem dX11_sinceIn_14 : decode cX11_sinceIn 14 = .ok (.istore_n 2, 1) := by decide +kernel
theorem dX11_sinceIn_15 : decode cX11_sinceIn 15 = .ok (.iload_n 2, 1) := by decide +kernel
theorem dX11_sinceIn_16 : decode cX11_sinceIn 16 = .ok (.bipush 99, 2) := by decide +kernel
theorem dX11_sinceIn_18 : decode cX11_sinceIn 18 = .ok (.invokestatic 151, 3) := by decide +kernel
theorem dX11_sinceIn_21 : decode cX11_sinceIn 21 = .ok (.ireturn, 1) := by decide +kernel
theorem dX12_init_0 : decode cX12_init 0 = .ok (.aload_n 0, 1) := by decide +kernel
theorem dX12_init_1 : decode cX12_init 1 = .ok (.invokespecial 1, 3) := by decide +kernel
theorem dX12_init_4 : decode cX12_init 4 = .ok (.aload_n 0, 1) := by decide +kernel
theorem dX12_init_5 : decode cX12_init 5 = .ok (.sipush 3179, 3) := by decide +kernel
theorem dX12_init_8 : decode cX12_init 8 = .ok (.newarray .int, 2) := by decide +kernel
theorem dX12_init_10 : decode cX12_init 10 = .ok (.putfield 9, 3) := by decide +kernel
theorem dX12_init_13 : decode cX12_init 13 = .ok (.aload_n 0, 1) := by decide +kernel
theorem dX12_init_14 : decode cX12_init 14 = .ok (.sipush 9537, 3) := by decide +kernel
theorem dX12_init_17 : decode cX12_init 17 = .ok (.newarray .int, 2) := by decide +kernel
theorem dX12_init_19 : decode cX12_init 19 = .ok (.putfield 13, 3) := by decide +kernel
theorem dX12_init_22 : decode cX12_init 22 = .ok (.aload_n 0, 1) := by decide +kernel
theorem dX12_init_23 : decode cX12_init 23 = .ok (.bipush 9, 2) := by decide +kernel
theorem dX12_init_25 : decode cX12_init 25 = .ok (.newarray .long, 2) := by decide +kernel
theorem dX12_init_27 : decode cX12_init 27 = .ok (.putfield 16, 3) := by decide +kernel
theorem dX12_init_30 : decode cX12_init 30 = .ok (.aload_n 0, 1) := by decide +kernel
theorem dX12_init_31 : decode cX12_init 31 = .ok (.bipush 27, 2) := by decide +kernel
theorem dX12_init_33 : decode cX12_init 33 = .ok (.newarray .long, 2) := by decide +kernel
theorem dX12_init_35 : decode cX12_init 35 = .ok (.putfield 20, 3) := by decide +kernel
theorem dX12_init_38 : decode cX12_init 38 = .ok (.aload_n 0, 1) := by decide +kernel
theorem dX12_init_39 : decode cX12_init 39 = .ok (.iconst 3, 1) := by decide +kernel
theorem dX12_init_40 : decode cX12_init 40 = .ok (.newarray .boolean, 2) := by decide +kernel
theorem dX12_init_42 : decode cX12_init 42 = .ok (.putfield 23, 3) := by decide +kernel
theorem dX12_init_45 : decode cX12_init 45 = .ok (.aload_n 0, 1) := by decide +kernel
theorem dX12_init_46 : decode cX12_init 46 = .ok (.sipush 400, 3) := by decide +kernel
theorem dX12_init_49 : decode cX12_init 49 = .ok (.newarray .int, 2) := by decide +kernel
theorem dX12_init_51 : decode cX12_init 51 = .ok (.putfield 27, 3) := by decide +kernel
theorem dX12_init_54 : decode cX12_init 54 = .ok (.aload_n 0, 1) := by decide +kernel
theorem dX12_init_55 : decode cX12_init 55 = .ok (.sipush 440, 3) := by decide +kernel
theorem dX12_init_58 : decode cX12_init 58 = .ok (.newarray .int, 2) := by decide +kernel
theorem dX12_init_60 : decode cX12_init 60 = .ok (.putfield 30, 3) := by decide +kernel
theorem dX12_init_63 : decode cX12_init 63 = .ok (.aload_n 0, 1) := by decide +kernel
theorem dX12_init_64 : decode cX12_init 64 = .ok (.iconst 5, 1) := by decide +kernel
theorem dX12_init_65 : decode cX12_init 65 = .ok (.newarray .int, 2) := by decide +kernel
theorem dX12_init_67 : decode cX12_init 67 = .ok (.putfield 33, 3) := by decide +kernel
theorem dX12_init_70 : decode cX12_init 70 = .ok (.aload_n 0, 1) := by decide +kernel
theorem dX12_init_71 : decode cX12_init 71 = .ok (.iconst (-1), 1) := by decide +kernel
theorem dX12_init_72 : decode cX12_init 72 = .ok (.putfield 36, 3) := by decide +kernel
theorem dX12_init_75 : decode cX12_init 75 = .ok (.aload_n 0, 1) := by decide +kernel
theorem dX12_init_76 : decode cX12_init 76 = .ok (.sipush 440, 3) := by decide +kernel
theorem dX12_init_79 : decode cX12_init 79 = .ok (.newarray .int, 2) := by decide +kernel
theorem dX12_init_81 : decode cX12_init 81 = .ok (.putfield 40, 3) := by decide +kernel
theorem dX12_init_84 : decode cX12_init 84 = .ok (.aload_n 0, 1) := by decide +kernel
theorem dX12_init_85 : decode cX12_init 85 = .ok (.iconst 4, 1) := by decide +kernel
theorem dX12_init_86 : decode cX12_init 86 = .ok (.newarray .int, 2) := by decide +kernel
theorem dX12_init_88 : decode cX12_init 88 = .ok (.putfield 43, 3) := by decide +kernel
theorem dX12_init_91 : decode cX12_init 91 = .ok (.aload_n 0, 1) := by decide +kernel
theorem dX12_init_92 : decode cX12_init 92 = .ok (.iconst 4, 1) := by decide +kernel
theorem dX12_init_93 : decode cX12_init 93 = .ok (.newarray .int, 2) := by decide +kernel
theorem dX12_init_95 : decode cX12_init 95 = .ok (.putfield 46, 3) := by decide +kernel
theorem dX12_init_98 : decode cX12_init 98 = .ok (.aload_n 0, 1) := by decide +kernel
theorem dX12_init_99 : decode cX12_init 99 = .ok (.sipush 128, 3) := by decide +kernel
theorem dX12_init_102 : decode cX12_init 102 = .ok (.newarray .int, 2) := by decide +kernel
theorem dX12_init_104 : decode cX12_init 104 = .ok (.putfield 49, 3) := by decide +kernel
theorem dX12_init_107 : decode cX12_init 107 = .ok (.aload_n 0, 1) := by decide +kernel
theorem dX12_init_108 : decode cX12_init 108 = .ok (.sipush 328, 3) := by decide +kernel
theorem dX12_init_111 : decode cX12_init 111 = .ok (.newarray .int, 2) := by decide +kernel
theorem dX12_init_113 : decode cX12_init 113 = .ok (.putfield 52, 3) := by decide +kernel
theorem dX12_init_116 : decode cX12_init 116 = .ok (.aload_n 0, 1) := by decide +kernel
theorem dX12_init_117 : decode cX12_init 117 = .ok (.sipush 328, 3) := by decide +kernel
theorem dX12_init_120 : decode cX12_init 120 = .ok (.newarray .long, 2) := by decide +kernel
theorem dX12_init_122 : decode cX12_init 122 = .ok (.putfield 55, 3) := by decide +kernel
theorem dX12_init_125 : decode cX12_init 125 = .ok (.aload_n 0, 1) := by decide +kernel
theorem dX12_init_126 : decode cX12_init 126 = .ok (.sipush 328, 3) := by decide +kernel
theorem dX12_init_129 : decode cX12_init 129 = .ok (.newarray .long, 2) := by decide +kernel
theorem dX12_init_131 : decode cX12_init 131 = .ok (.putfield 58, 3) := by decide +kernel
theorem dX12_init_134 : decode cX12_init 134 = .ok (.aload_n 0, 1) := by decide +kernel
theorem dX12_init_135 : decode cX12_init 135 = .ok (.sipush 128, 3) := by decide +kernel
theorem dX12_init_138 : decode cX12_init 138 = .ok (.newarray .int, 2) := by decide +kernel
theorem dX12_init_140 : decode cX12_init 140 = .ok (.putfield 61, 3) := by decide +kernel
theorem dX12_init_143 : decode cX12_init 143 = .ok (.aload_n 0, 1) := by decide +kernel
theorem dX12_init_144 : decode cX12_init 144 = .ok (.sipush 377, 3) := by decide +kernel
theorem dX12_init_147 : decode cX12_init 147 = .ok (.newarray .int, 2) := by decide +kernel
theorem dX12_init_149 : decode cX12_init 149 = .ok (.putfield 64, 3) := by decide +kernel
theorem dX12_init_152 : decode cX12_init 152 = .ok (.aload_n 0, 1) := by decide +kernel
theorem dX12_init_153 : decode cX12_init 153 = .ok (.iconst 4, 1) := by decide +kernel
theorem dX12_init_154 : decode cX12_init 154 = .ok (.newarray .int, 2) := by decide +kernel
theorem dX12_init_156 : decode cX12_init 156 = .ok (.dup, 1) := by decide +kernel
theorem dX12_init_157 : decode cX12_init 157 = .ok (.iconst 0, 1) := by decide +kernel
theorem dX12_init_158 : decode cX12_init 158 = .ok (.iconst (-1), 1) := by decide +kernel
theorem dX12_init_159 : decode cX12_init 159 = .ok (.iastore, 1) := by decide +kernel
theorem dX12_init_160 : decode cX12_init 160 = .ok (.dup, 1) := by decide +kernel
theorem dX12_init_161 : decode cX12_init 161 = .ok (.iconst 1, 1) := by decide +kernel
theorem dX12_init_162 : decode cX12_init 162 = .ok (.iconst (-1), 1) := by decide +kernel
theorem dX12_init_163 : decode cX12_init 163 = .ok (.iastore, 1) := by decide +kernel
theorem dX12_init_164 : decode cX12_init 164 = .ok (.dup, 1) := by decide +kernel
theorem dX12_init_165 : decode cX12_init 165 = .ok (.iconst 2, 1) := by decide +kernel
theorem dX12_init_166 : decode cX12_init 166 = .ok (.iconst (-1), 1) := by decide +kernel
theorem dX12_init_167 : decode cX12_init 167 = .ok (.iastore, 1) := by decide +kernel
theorem dX12_init_168 : decode cX12_init 168 = .ok (.dup, 1) := by decide +kernel
theorem dX12_init_169 : decode cX12_init 169 = .ok (.iconst 3, 1) := by decide +kernel
theorem dX12_init_170 : decode cX12_init 170 = .ok (.iconst (-1), 1) := by decide +kernel
theorem dX12_init_171 : decode cX12_init 171 = .ok (.iastore, 1) := by decide +kernel
theorem dX12_init_172 : decode cX12_init 172 = .ok (.putfield 67, 3) := by decide +kernel
theorem dX12_init_175 : decode cX12_init 175 = .ok (.aload_n 0, 1) := by decide +kernel
theorem dX12_init_176 : decode cX12_init 176 = .ok (.iconst 4, 1) := by decide +kernel
theorem dX12_init_177 : decode cX12_init 177 = .ok (.newarray .int, 2) := by decide +kernel
theorem dX12_init_179 : decode cX12_init 179 = .ok (.putfield 70, 3) := by decide +kernel
theorem dX12_init_182 : decode cX12_init 182 = .ok (.aload_n 0, 1) := by decide +kernel
theorem dX12_init_183 : decode cX12_init 183 = .ok (.bipush 112, 2) := by decide +kernel
theorem dX12_init_185 : decode cX12_init 185 = .ok (.newarray .long, 2) := by decide +kernel
theorem dX12_init_187 : decode cX12_init 187 = .ok (.putfield 73, 3) := by decide +kernel
theorem dX12_init_190 : decode cX12_init 190 = .ok (.iconst 0, 1) := by decide +kernel
theorem dX12_init_191 : decode cX12_init 191 = .ok (.istore_n 1, 1) := by decide +kernel
theorem dX12_init_192 : decode cX12_init 192 = .ok (.iload_n 1, 1) := by decide +kernel
theorem dX12_init_193 : decode cX12_init 193 = .ok (.bipush 42, 2) := by decide +kernel
theorem dX12_init_195 : decode cX12_init 195 = .ok (.if_icmp .ge 19, 3) := by decide +kernel
theorem dX12_init_198 : decode cX12_init 198 = .ok (.aload_n 0, 1) := by decide +kernel
theorem dX12_init_199 : decode cX12_init 199 = .ok (.getfield 9, 3) := by decide +kernel
theorem dX12_init_202 : decode cX12_init 202 = .ok (.bipush 78, 2) := by decide +kernel
theorem dX12_init_204 : decode cX12_init 204 = .ok (.iload_n 1, 1) := by decide +kernel
theorem dX12_init_205 : decode cX12_init 205 = .ok (.iadd, 1) := by decide +kernel
theorem dX12_init_206 : decode cX12_init 206 = .ok (.iconst 1, 1) := by decide +kernel
theorem dX12_init_207 : decode cX12_init 207 = .ok (.iastore, 1) := by decide +kernel
theorem dX12_init_208 : decode cX12_init 208 = .ok (.iinc 1 1, 3) := by decide +kernel
theorem dX12_init_211 : decode cX12_init 211 = .ok (.goto (-19), 3) := by decide +kernel
theorem dX12_init_214 : decode cX12_init 214 = .ok (.aload_n 0, 1) := by decide +kernel
theorem dX12_init_215 : decode cX12_init 215 = .ok (.getfield 9, 3) := by decide +kernel
theorem dX12_init_218 : decode cX12_init 218 = .ok (.bipush 120, 2) := by decide +kernel
theorem dX12_init_220 : decode cX12_init 220 = .ok (.iconst (-1), 1) := by decide +kernel
theorem dX12_init_221 : decode cX12_init 221 = .ok (.iastore, 1) := by decide +kernel
theorem dX12_init_222 : decode cX12_init 222 = .ok (.aload_n 0, 1) := by decide +kernel
theorem dX12_init_223 : decode cX12_init 223 = .ok (.getfield 9, 3) := by decide +kernel
theorem dX12_init_226 : decode cX12_init 226 = .ok (.bipush 122, 2) := by decide +kernel
theorem dX12_init_228 : decode cX12_init 228 = .ok (.iconst (-1), 1) := by decide +kernel
theorem dX12_init_229 : decode cX12_init 229 = .ok (.iastore, 1) := by decide +kernel
theorem dX12_init_230 : decode cX12_init 230 = .ok (.return_, 1) := by decide +kernel
theorem dX12_thrown_0 : decode cX12_thrown 0 = .ok (.aload_n 0, 1) := by decide +kernel
theorem dX12_thrown_1 : decode cX12_thrown 1 = .ok (.getfield 76, 3) := by decide +kernel
theorem dX12_thrown_4 : decode cX12_thrown 4 = .ok (.ireturn, 1) := by decide +kernel
theorem dX12_fails_0 : decode cX12_fails 0 = .ok (.aload_n 0, 1) := by decide +kernel
theorem dX12_fails_1 : decode cX12_fails 1 = .ok (.iload_n 1, 1) := by decide +kernel
theorem dX12_fails_2 : decode cX12_fails 2 = .ok (.putfield 76, 3) := by decide +kernel
theorem dX12_fails_5 : decode cX12_fails 5 = .ok (.iconst 0, 1) := by decide +kernel
theorem dX12_fails_6 : decode cX12_fails 6 = .ok (.ireturn, 1) := by decide +kernel
theorem dX12_within_0 : decode cX12_within 0 = .ok (.lload_n 0, 1) := by decide +kernel
theorem dX12_within_1 : decode cX12_within 1 = .ok (.lload_n 2, 1) := by decide +kernel
theorem dX12_within_2 : decode cX12_within 2 = .ok (.lcmp, 1) := by decide +kernel
theorem dX12_within_3 : decode cX12_within 3 = .ok (.ifCond .lt 14, 3) := by decide +kernel
theorem dX12_within_6 : decode cX12_within 6 = .ok (.lload_n 0, 1) := by decide +kernel
theorem dX12_within_7 : decode cX12_within 7 = .ok (.lload 4, 2) := by decide +kernel
theorem dX12_within_9 : decode cX12_within 9 = .ok (.lcmp, 1) := by decide +kernel
theorem dX12_within_10 : decode cX12_within 10 = .ok (.ifCond .gt 7, 3) := by decide +kernel
theorem dX12_within_13 : decode cX12_within 13 = .ok (.iconst 1, 1) := by decide +kernel
theorem dX12_within_14 : decode cX12_within 14 = .ok (.goto 4, 3) := by decide +kernel
theorem dX12_within_17 : decode cX12_within 17 = .ok (.iconst 0, 1) := by decide +kernel
theorem dX12_within_18 : decode cX12_within 18 = .ok (.ireturn, 1) := by decide +kernel
theorem dX12_isStation_0 : decode cX12_isStation 0 = .ok (.iload_n 1, 1) := by decide +kernel
theorem dX12_isStation_1 : decode cX12_isStation 1 = .ok (.i2l, 1) := by decide +kernel
theorem dX12_isStation_2 : decode cX12_isStation 2 = .ok (.lconst 0, 1) := by decide +kernel
theorem dX12_isStation_3 : decode cX12_isStation 3 = .ok (.aload_n 0, 1) := by decide +kernel
theorem dX12_isStation_4 : decode cX12_isStation 4 = .ok (.getfield 9, 3) := by decide +kernel
theorem dX12_isStation_7 : decode cX12_isStation 7 = .ok (.iconst 0, 1) := by decide +kernel
theorem dX12_isStation_8 : decode cX12_isStation 8 = .ok (.iaload, 1) := by decide +kernel
theorem dX12_isStation_9 : decode cX12_isStation 9 = .ok (.iconst 1, 1) := by decide +kernel
theorem dX12_isStation_10 : decode cX12_isStation 10 = .ok (.isub, 1) := by decide +kernel
theorem dX12_isStation_11 : decode cX12_isStation 11 = .ok (.i2l, 1) := by decide +kernel
theorem dX12_isStation_12 : decode cX12_isStation 12 = .ok (.invokestatic 79, 3) := by decide +kernel
theorem dX12_isStation_15 : decode cX12_isStation 15 = .ok (.ireturn, 1) := by decide +kernel
theorem dX12_station_0 : decode cX12_station 0 = .ok (.aload_n 0, 1) := by decide +kernel
theorem dX12_station_1 : decode cX12_station 1 = .ok (.iconst 0, 1) := by decide +kernel
theorem dX12_station_2 : decode cX12_station 2 = .ok (.putfield 76, 3) := by decide +kernel
theorem dX12_station_5 : decode cX12_station 5 = .ok (.aload_n 0, 1) := by decide +kernel
theorem dX12_station_6 : decode cX12_station 6 = .ok (.getfield 9, 3) := by decide +kernel
theorem dX12_station_9 : decode cX12_station 9 = .ok (.iconst 2, 1) := by decide +kernel
theorem dX12_station_10 : decode cX12_station 10 = .ok (.iaload, 1) := by decide +kernel
theorem dX12_station_11 : decode cX12_station 11 = .ok (.ifCond .gt 12, 3) := by decide +kernel
theorem dX12_station_14 : decode cX12_station 14 = .ok (.aload_n 0, 1) := by decide +kernel
theorem dX12_station_15 : decode cX12_station 15 = .ok (.getfield 9, 3) := by decide +kernel
theorem dX12_station_18 : decode cX12_station 18 = .ok (.iconst 5, 1) := by decide +kernel
theorem dX12_station_19 : decode cX12_station 19 = .ok (.iaload, 1) := by decide +kernel
theorem dX12_station_20 : decode cX12_station 20 = .ok (.ifCond .le 9, 3) := by decide +kernel
theorem dX12_station_23 : decode cX12_station 23 = .ok (.aload_n 0, 1) := by decide +kernel
theorem dX12_station_24 : decode cX12_station 24 = .ok (.iconst 1, 1) := by decide +kernel
theorem dX12_station_25 : decode cX12_station 25 = .ok (.invokevirtual 83, 3) := by decide +kernel
theorem dX12_station_28 : decode cX12_station 28 = .ok (.ireturn, 1) := by decide +kernel
theorem dX12_station_29 : decode cX12_station 29 = .ok (.iload_n 1, 1) := by decide +kernel
theorem dX12_station_30 : decode cX12_station 30 = .ok (.i2l, 1) := by decide +kernel
theorem dX12_station_31 : decode cX12_station 31 = .ok (.lconst 0, 1) := by decide +kernel
theorem dX12_station_32 : decode cX12_station 32 = .ok (.ldc2_w 87, 3) := by decide +kernel
theorem dX12_station_35 : decode cX12_station 35 = .ok (.invokestatic 79, 3) := by decide +kernel
theorem dX12_station_38 : decode cX12_station 38 = .ok (.ifCond .eq 27, 3) := by decide +kernel
theorem dX12_station_41 : decode cX12_station 41 = .ok (.iload_n 2, 1) := by decide +kernel
theorem dX12_station_42 : decode cX12_station 42 = .ok (.i2l, 1) := by decide +kernel
theorem dX12_station_43 : decode cX12_station 43 = .ok (.lconst 0, 1) := by decide +kernel
theorem dX12_station_44 : decode cX12_station 44 = .ok (.ldc2_w 87, 3) := by decide +kernel
theorem dX12_station_47 : decode cX12_station 47 = .ok (.invokestatic 79, 3) := by decide +kernel
theorem dX12_station_50 : decode cX12_station 50 = .ok (.ifCond .eq 15, 3) := by decide +kernel
theorem dX12_station_53 : decode cX12_station 53 = .ok (.iload_n 3, 1) := by decide +kernel
theorem dX12_station_54 : decode cX12_station 54 = .ok (.i2l, 1) := by decide +kernel
theorem dX12_station_55 : decode cX12_station 55 = .ok (.lconst 0, 1) := by decide +kernel
theorem dX12_station_56 : decode cX12_station 56 = .ok (.ldc2_w 89, 3) := by decide +kernel
theorem dX12_station_59 : decode cX12_station 59 = .ok (.invokestatic 79, 3) := by decide +kernel
theorem dX12_station_62 : decode cX12_station 62 = .ok (.ifCond .ne 9, 3) := by decide +kernel
theorem dX12_station_65 : decode cX12_station 65 = .ok (.aload_n 0, 1) := by decide +kernel
theorem dX12_station_66 : decode cX12_station 66 = .ok (.iconst 2, 1) := by decide +kernel
theorem dX12_station_67 : decode cX12_station 67 = .ok (.invokevirtual 83, 3) := by decide +kernel
theorem dX12_station_70 : decode cX12_station 70 = .ok (.ireturn, 1) := by decide +kernel
theorem dX12_station_71 : decode cX12_station 71 = .ok (.aload_n 0, 1) := by decide +kernel
theorem dX12_station_72 : decode cX12_station 72 = .ok (.getfield 9, 3) := by decide +kernel
theorem dX12_station_75 : decode cX12_station 75 = .ok (.iconst 0, 1) := by decide +kernel
theorem dX12_station_76 : decode cX12_station 76 = .ok (.iaload, 1) := by decide +kernel
theorem dX12_station_77 : decode cX12_station 77 = .ok (.iconst 4, 1) := by decide +kernel
theorem dX12_station_78 : decode cX12_station 78 = .ok (.if_icmp .ne 5, 3) := by decide +kernel
theorem dX12_station_81 : decode cX12_station 81 = .ok (.iconst (-1), 1) := by decide +kernel
theorem dX12_station_82 : decode cX12_station 82 = .ok (.ireturn, 1) := by decide +kernel
theorem dX12_station_83 : decode cX12_station 83 = .ok (.aload_n 0, 1) := by decide +kernel
theorem dX12_station_84 : decode cX12_station 84 = .ok (.getfield 9, 3) := by decide +kernel
theorem dX12_station_87 : decode cX12_station 87 = .ok (.iconst 0, 1) := by decide +kernel
theorem dX12_station_88 : decode cX12_station 88 = .ok (.iaload, 1) := by decide +kernel
theorem dX12_station_89 : decode cX12_station 89 = .ok (.istore 4, 2) := by decide +kernel
theorem dX12_station_91 : decode cX12_station 91 = .ok (.aload_n 0, 1) := by decide +kernel
theorem dX12_station_92 : decode cX12_station 92 = .ok (.getfield 9, 3) := by decide +kernel
theorem dX12_station_95 : decode cX12_station 95 = .ok (.bipush 8, 2) := by decide +kernel
theorem dX12_station_97 : decode cX12_station 97 = .ok (.iload 4, 2) := by decide +kernel
theorem dX12_station_99 : decode cX12_station 99 = .ok (.iadd, 1) := by decide +kernel
theorem dX12_station_100 : decode cX12_station 100 = .ok (.iload_n 1, 1) := by decide +kernel
theorem dX12_station_101 : decode cX12_station 101 = .ok (.iastore, 1) := by decide +kernel
theorem dX12_station_102 : decode cX12_station 102 = .ok (.aload_n 0, 1) := by decide +kernel
theorem dX12_station_103 : decode cX12_station 103 = .ok (.getfield 9, 3) := by decide +kernel
theorem dX12_station_106 : decode cX12_station 106 = .ok (.bipush 12, 2) := by decide +kernel
theorem dX12_station_108 : decode cX12_station 108 = .ok (.iload 4, 2) := by decide +kernel
theorem dX12_station_110 : decode cX12_station 110 = .ok (.iadd, 1) := by decide +kernel
theorem dX12_station_111 : decode cX12_station 111 = .ok (.iload_n 2, 1) := by decide +kernel
theorem dX12_station_112 : decode cX12_station 112 = .ok (.iastore, 1) := by decide +kernel
theorem dX12_station_113 : decode cX12_station 113 = .ok (.aload_n 0, 1) := by decide +kernel
theorem dX12_station_114 : decode cX12_station 114 = .ok (.getfield 9, 3) := by decide +kernel
theorem dX12_station_117 : decode cX12_station 117 = .ok (.bipush 16, 2) := by decide +kernel
theorem dX12_station_119 : decode cX12_station 119 = .ok (.iload 4, 2) := by decide +kernel
theorem dX12_station_121 : decode cX12_station 121 = .ok (.iadd, 1) := by decide +kernel
theorem dX12_station_122 : decode cX12_station 122 = .ok (.iload_n 3, 1) := by decide +kernel
theorem dX12_station_123 : decode cX12_station 123 = .ok (.iastore, 1) := by decide +kernel
theorem dX12_station_124 : decode cX12_station 124 = .ok (.aload_n 0, 1) := by decide +kernel
theorem dX12_station_125 : decode cX12_station 125 = .ok (.getfield 9, 3) := by decide +kernel
theorem dX12_station_128 : decode cX12_station 128 = .ok (.bipush 20, 2) := by decide +kernel
theorem dX12_station_130 : decode cX12_station 130 = .ok (.iload 4, 2) := by decide +kernel
theorem dX12_station_132 : decode cX12_station 132 = .ok (.iadd, 1) := by decide +kernel
theorem dX12_station_133 : decode cX12_station 133 = .ok (.iload_n 2, 1) := by decide +kernel
theorem dX12_station_134 : decode cX12_station 134 = .ok (.iastore, 1) := by decide +kernel
theorem dX12_station_135 : decode cX12_station 135 = .ok (.aload_n 0, 1) := by decide +kernel
theorem dX12_station_136 : decode cX12_station 136 = .ok (.getfield 9, 3) := by decide +kernel
theorem dX12_station_139 : decode cX12_station 139 = .ok (.bipush 24, 2) := by decide +kernel
theorem dX12_station_141 : decode cX12_station 141 = .ok (.iload 4, 2) := by decide +kernel
theorem dX12_station_143 : decode cX12_station 143 = .ok (.iadd, 1) := by decide +kernel
theorem dX12_station_144 : decode cX12_station 144 = .ok (.iconst (-1), 1) := by decide +kernel
theorem dX12_station_145 : decode cX12_station 145 = .ok (.iastore, 1) := by decide +kernel
theorem dX12_station_146 : decode cX12_station 146 = .ok (.aload_n 0, 1) := by decide +kernel
theorem dX12_station_147 : decode cX12_station 147 = .ok (.getfield 9, 3) := by decide +kernel
theorem dX12_station_150 : decode cX12_station 150 = .ok (.bipush 125, 2) := by decide +kernel
theorem dX12_station_152 : decode cX12_station 152 = .ok (.sipush 440, 3) := by decide +kernel
theorem dX12_station_155 : decode cX12_station 155 = .ok (.iload 4, 2) := by decide +kernel
theorem dX12_station_157 : decode cX12_station 157 = .ok (.imul, 1) := by decide +kernel
theorem dX12_station_158 : decode cX12_station 158 = .ok (.iadd, 1) := by decide +kernel
theorem dX12_station_159 : decode cX12_station 159 = .ok (.iconst 0, 1) := by decide +kernel
theorem dX12_station_160 : decode cX12_station 160 = .ok (.iastore, 1) := by decide +kernel
theorem dX12_station_161 : decode cX12_station 161 = .ok (.aload_n 0, 1) := by decide +kernel
theorem dX12_station_162 : decode cX12_station 162 = .ok (.getfield 9, 3) := by decide +kernel
theorem dX12_station_165 : decode cX12_station 165 = .ok (.iconst 0, 1) := by decide +kernel
theorem dX12_station_166 : decode cX12_station 166 = .ok (.dup2, 1) := by decide +kernel
theorem dX12_station_167 : decode cX12_station 167 = .ok (.iaload, 1) := by decide +kernel
theorem dX12_station_168 : decode cX12_station 168 = .ok (.iconst 1, 1) := by decide +kernel
theorem dX12_station_169 : decode cX12_station 169 = .ok (.iadd, 1) := by decide +kernel
theorem dX12_station_170 : decode cX12_station 170 = .ok (.iastore, 1) := by decide +kernel
theorem dX12_station_171 : decode cX12_station 171 = .ok (.iload 4, 2) := by decide +kernel
theorem dX12_station_173 : decode cX12_station 173 = .ok (.ireturn, 1) := by decide +kernel
theorem dX12_driver_0 : decode cX12_driver 0 = .ok (.aload_n 0, 1) := by decide +kernel
theorem dX12_driver_1 : decode cX12_driver 1 = .ok (.iconst 0, 1) := by decide +kernel
theorem dX12_driver_2 : decode cX12_driver 2 = .ok (.putfield 76, 3) := by decide +kernel
theorem dX12_driver_5 : decode cX12_driver 5 = .ok (.aload_n 0, 1) := by decide +kernel
theorem dX12_driver_6 : decode cX12_driver 6 = .ok (.iload_n 2, 1) := by decide +kernel
theorem dX12_driver_7 : decode cX12_driver 7 = .ok (.invokevirtual 91, 3) := by decide +kernel
theorem dX12_driver_10 : decode cX12_driver 10 = .ok (.ifCond .ne 9, 3) := by decide +kernel
theorem dX12_driver_13 : decode cX12_driver 13 = .ok (.aload_n 0, 1) := by decide +kernel
theorem dX12_driver_14 : decode cX12_driver 14 = .ok (.iconst 1, 1) := by decide +kernel
theorem dX12_driver_15 : decode cX12_driver 15 = .ok (.invokevirtual 83, 3) := by decide +kernel
theorem dX12_driver_18 : decode cX12_driver 18 = .ok (.ireturn, 1) := by decide +kernel
theorem dX12_driver_19 : decode cX12_driver 19 = .ok (.iload_n 1, 1) := by decide +kernel
theorem dX12_driver_20 : decode cX12_driver 20 = .ok (.i2l, 1) := by decide +kernel
theorem dX12_driver_21 : decode cX12_driver 21 = .ok (.lconst 1, 1) := by decide +kernel
theorem dX12_driver_22 : decode cX12_driver 22 = .ok (.ldc2_w 87, 3) := by decide +kernel
theorem dX12_driver_25 : decode cX12_driver 25 = .ok (.invokestatic 79, 3) := by decide +kernel
theorem dX12_driver_28 : decode cX12_driver 28 = .ok (.ifCond .eq 32, 3) := by decide +kernel
theorem dX12_driver_31 : decode cX12_driver 31 = .ok (.iload_n 3, 1) := by decide +kernel
theorem dX12_driver_32 : decode cX12_driver 32 = .ok (.ifCond .lt 28, 3) := by decide +kernel
theorem dX12_driver_35 : decode cX12_driver 35 = .ok (.iload_n 3, 1) := by decide +kernel
theorem dX12_driver_36 : decode cX12_driver 36 = .ok (.iconst 1, 1) := by decide +kernel
theorem dX12_driver_37 : decode cX12_driver 37 = .ok (.aload_n 0, 1) := by decide +kernel
theorem dX12_driver_38 : decode cX12_driver 38 = .ok (.getfield 9, 3) := by decide +kernel
theorem dX12_driver_41 : decode cX12_driver 41 = .ok (.iconst 0, 1) := by decide +kernel
theorem dX12_driver_42 : decode cX12_driver 42 = .ok (.iaload, 1) := by decide +kernel
theorem dX12_driver_43 : decode cX12_driver 43 = .ok (.ishl, 1) := by decide +kernel
theorem dX12_driver_44 : decode cX12_driver 44 = .ok (.if_icmp .ge 16, 3) := by decide +kernel
theorem dX12_driver_47 : decode cX12_driver 47 = .ok (.iload 4, 2) := by decide +kernel
theorem dX12_driver_49 : decode cX12_driver 49 = .ok (.i2l, 1) := by decide +kernel
theorem dX12_driver_50 : decode cX12_driver 50 = .ok (.lconst 0, 1) := by decide +kernel
theorem dX12_driver_51 : decode cX12_driver 51 = .ok (.ldc2_w 95, 3) := by decide +kernel
theorem dX12_driver_54 : decode cX12_driver 54 = .ok (.invokestatic 79, 3) := by decide +kernel
theorem dX12_driver_57 : decode cX12_driver 57 = .ok (.ifCond .ne 9, 3) := by decide +kernel
theorem dX12_driver_60 : decode cX12_driver 60 = .ok (.aload_n 0, 1) := by decide +kernel
theorem dX12_driver_61 : decode cX12_driver 61 = .ok (.iconst 2, 1) := by decide +kernel
theorem dX12_driver_62 : decode cX12_driver 62 = .ok (.invokevirtual 83, 3) := by decide +kernel
theorem dX12_driver_65 : decode cX12_driver 65 = .ok (.ireturn, 1) := by decide +kernel
theorem dX12_driver_66 : decode cX12_driver 66 = .ok (.aload_n 0, 1) := by decide +kernel
theorem dX12_driver_67 : decode cX12_driver 67 = .ok (.getfield 9, 3) := by decide +kernel
theorem dX12_driver_70 : decode cX12_driver 70 = .ok (.iconst 1, 1) := by decide +kernel
theorem dX12_driver_71 : decode cX12_driver 71 = .ok (.iaload, 1) := by decide +kernel
theorem dX12_driver_72 : decode cX12_driver 72 = .ok (.bipush 6, 2) := by decide +kernel
theorem dX12_driver_74 : decode cX12_driver 74 = .ok (.if_icmp .ne 5, 3) := by decide +kernel
theorem dX12_driver_77 : decode cX12_driver 77 = .ok (.iconst (-1), 1) := by decide +kernel
theorem dX12_driver_78 : decode cX12_driver 78 = .ok (.ireturn, 1) := by decide +kernel
theorem dX12_driver_79 : decode cX12_driver 79 = .ok (.bipush 28, 2) := by decide +kernel
theorem dX12_driver_81 : decode cX12_driver 81 = .ok (.iconst 4, 1) := by decide +kernel
theorem dX12_driver_82 : decode cX12_driver 82 = .ok (.aload_n 0, 1) := by decide +kernel
theorem dX12_driver_83 : decode cX12_driver 83 = .ok (.getfield 9, 3) := by decide +kernel
theorem dX12_driver_86 : decode cX12_driver 86 = .ok (.iconst 1, 1) := by decide +kernel
theorem dX12_driver_87 : decode cX12_driver 87 = .ok (.iaload, 1) := by decide +kernel
theorem dX12_driver_88 : decode cX12_driver 88 = .ok (.imul, 1) := by decide +kernel
theorem dX12_driver_89 : decode cX12_driver 89 = .ok (.iadd, 1) := by decide +kernel
theorem dX12_driver_90 : decode cX12_driver 90 = .ok (.istore 5, 2) := by decide +kernel
theorem dX12_driver_92 : decode cX12_driver 92 = .ok (.aload_n 0, 1) := by decide +kernel
theorem dX12_driver_93 : decode cX12_driver 93 = .ok (.getfield 9, 3) := by decide +kernel
theorem dX12_driver_96 : decode cX12_driver 96 = .ok (.iload 5, 2) := by decide +kernel
theorem dX12_driver_98 : decode cX12_driver 98 = .ok (.iload_n 1, 1) := by decide +kernel
theorem dX12_driver_99 : decode cX12_driver 99 = .ok (.iastore, 1) := by decide +kernel
theorem dX12_driver_100 : decode cX12_driver 100 = .ok (.aload_n 0, 1) := by decide +kernel
theorem dX12_driver_101 : decode cX12_driver 101 = .ok (.getfield 9, 3) := by decide +kernel
theorem dX12_driver_104 : decode cX12_driver 104 = .ok (.iload 5, 2) := by decide +kernel
theorem dX12_driver_106 : decode cX12_driver 106 = .ok (.iconst 1, 1) := by decide +kernel
theorem dX12_driver_107 : decode cX12_driver 107 = .ok (.iadd, 1) := by decide +kernel
theorem dX12_driver_108 : decode cX12_driver 108 = .ok (.iload_n 2, 1) := by decide +kernel
theorem dX12_driver_109 : decode cX12_driver 109 = .ok (.iastore, 1) := by decide +kernel
theorem dX12_driver_110 : decode cX12_driver 110 = .ok (.aload_n 0, 1) := by decide +kernel
theorem dX12_driver_111 : decode cX12_driver 111 = .ok (.getfield 9, 3) := by decide +kernel
theorem dX12_driver_114 : decode cX12_driver 114 = .ok (.iload 5, 2) := by decide +kernel
theorem dX12_driver_116 : decode cX12_driver 116 = .ok (.iconst 2, 1) := by decide +kernel
theorem dX12_driver_117 : decode cX12_driver 117 = .ok (.iadd, 1) := by decide +kernel
theorem dX12_driver_118 : decode cX12_driver 118 = .ok (.iload_n 3, 1) := by decide +kernel
theorem dX12_driver_119 : decode cX12_driver 119 = .ok (.iastore, 1) := by decide +kernel
theorem dX12_driver_120 : decode cX12_driver 120 = .ok (.aload_n 0, 1) := by decide +kernel
theorem dX12_driver_121 : decode cX12_driver 121 = .ok (.getfield 9, 3) := by decide +kernel
theorem dX12_driver_124 : decode cX12_driver 124 = .ok (.iload 5, 2) := by decide +kernel
theorem dX12_driver_126 : decode cX12_driver 126 = .ok (.iconst 3, 1) := by decide +kernel
theorem dX12_driver_127 : decode cX12_driver 127 = .ok (.iadd, 1) := by decide +kernel
theorem dX12_driver_128 : decode cX12_driver 128 = .ok (.iload 4, 2) := by decide +kernel
theorem dX12_driver_130 : decode cX12_driver 130 = .ok (.iastore, 1) := by decide +kernel
theorem dX12_driver_131 : decode cX12_driver 131 = .ok (.aload_n 0, 1) := by decide +kernel
theorem dX12_driver_132 : decode cX12_driver 132 = .ok (.getfield 9, 3) := by decide +kernel
theorem dX12_driver_135 : decode cX12_driver 135 = .ok (.iconst 1, 1) := by decide +kernel
theorem dX12_driver_136 : decode cX12_driver 136 = .ok (.dup2, 1) := by decide +kernel
theorem dX12_driver_137 : decode cX12_driver 137 = .ok (.iaload, 1) := by decide +kernel
theorem dX12_driver_138 : decode cX12_driver 138 = .ok (.iconst 1, 1) := by decide +kernel
theorem dX12_driver_139 : decode cX12_driver 139 = .ok (.iadd, 1) := by decide +kernel
theorem dX12_driver_140 : decode cX12_driver 140 = .ok (.iastore, 1) := by decide +kernel
theorem dX12_driver_141 : decode cX12_driver 141 = .ok (.aload_n 0, 1) := by decide +kernel
theorem dX12_driver_142 : decode cX12_driver 142 = .ok (.getfield 9, 3) := by decide +kernel
theorem dX12_driver_145 : decode cX12_driver 145 = .ok (.iconst 1, 1) := by decide +kernel
theorem dX12_driver_146 : decode cX12_driver 146 = .ok (.iaload, 1) := by decide +kernel
theorem dX12_driver_147 : decode cX12_driver 147 = .ok (.iconst 1, 1) := by decide +kernel
theorem dX12_driver_148 : decode cX12_driver 148 = .ok (.isub, 1) := by decide +kernel
theorem dX12_driver_149 : decode cX12_driver 149 = .ok (.ireturn, 1) := by decide +kernel
theorem dX12_cost_0 : decode cX12_cost 0 = .ok (.aload_n 0, 1) := by decide +kernel
theorem dX12_cost_1 : decode cX12_cost 1 = .ok (.iconst 0, 1) := by decide +kernel
theorem dX12_cost_2 : decode cX12_cost 2 = .ok (.putfield 76, 3) := by decide +kernel
theorem dX12_cost_5 : decode cX12_cost 5 = .ok (.aload_n 0, 1) := by decide +kernel
theorem dX12_cost_6 : decode cX12_cost 6 = .ok (.iload_n 1, 1) := by decide +kernel
theorem dX12_cost_7 : decode cX12_cost 7 = .ok (.invokevirtual 91, 3) := by decide +kernel
theorem dX12_cost_10 : decode cX12_cost 10 = .ok (.ifCond .ne 9, 3) := by decide +kernel
theorem dX12_cost_13 : decode cX12_cost 13 = .ok (.aload_n 0, 1) := by decide +kernel
theorem dX12_cost_14 : decode cX12_cost 14 = .ok (.iconst 1, 1) := by decide +kernel
theorem dX12_cost_15 : decode cX12_cost 15 = .ok (.invokevirtual 83, 3) := by decide +kernel
theorem dX12_cost_18 : decode cX12_cost 18 = .ok (.ireturn, 1) := by decide +kernel
theorem dX12_cost_19 : decode cX12_cost 19 = .ok (.iload_n 2, 1) := by decide +kernel
theorem dX12_cost_20 : decode cX12_cost 20 = .ok (.i2l, 1) := by decide +kernel
theorem dX12_cost_21 : decode cX12_cost 21 = .ok (.lconst 0, 1) := by decide +kernel
theorem dX12_cost_22 : decode cX12_cost 22 = .ok (.ldc2_w 87, 3) := by decide +kernel
theorem dX12_cost_25 : decode cX12_cost 25 = .ok (.invokestatic 79, 3) := by decide +kernel
theorem dX12_cost_28 : decode cX12_cost 28 = .ok (.ifCond .ne 9, 3) := by decide +kernel
theorem dX12_cost_31 : decode cX12_cost 31 = .ok (.aload_n 0, 1) := by decide +kernel
theorem dX12_cost_32 : decode cX12_cost 32 = .ok (.iconst 2, 1) := by decide +kernel
theorem dX12_cost_33 : decode cX12_cost 33 = .ok (.invokevirtual 83, 3) := by decide +kernel
theorem dX12_cost_36 : decode cX12_cost 36 = .ok (.ireturn, 1) := by decide +kernel
theorem dX12_cost_37 : decode cX12_cost 37 = .ok (.aload_n 0, 1) := by decide +kernel
theorem dX12_cost_38 : decode cX12_cost 38 = .ok (.getfield 9, 3) := by decide +kernel
theorem dX12_cost_41 : decode cX12_cost 41 = .ok (.bipush 8, 2) := by decide +kernel
theorem dX12_cost_43 : decode cX12_cost 43 = .ok (.iload_n 1, 1) := by decide +kernel
theorem dX12_cost_44 : decode cX12_cost 44 = .ok (.iadd, 1) := by decide +kernel
theorem dX12_cost_45 : decode cX12_cost 45 = .ok (.iaload, 1) := by decide +kernel
theorem dX12_cost_46 : decode cX12_cost 46 = .ok (.istore_n 3, 1) := by decide +kernel
theorem dX12_cost_47 : decode cX12_cost 47 = .ok (.aload_n 0, 1) := by decide +kernel
theorem dX12_cost_48 : decode cX12_cost 48 = .ok (.getfield 9, 3) := by decide +kernel
theorem dX12_cost_51 : decode cX12_cost 51 = .ok (.bipush 8, 2) := by decide +kernel
theorem dX12_cost_53 : decode cX12_cost 53 = .ok (.iload_n 1, 1) := by decide +kernel
theorem dX12_cost_54 : decode cX12_cost 54 = .ok (.iadd, 1) := by decide +kernel
theorem dX12_cost_55 : decode cX12_cost 55 = .ok (.iload_n 2, 1) := by decide +kernel
theorem dX12_cost_56 : decode cX12_cost 56 = .ok (.iastore, 1) := by decide +kernel
theorem dX12_cost_57 : decode cX12_cost 57 = .ok (.iload_n 2, 1) := by decide +kernel
theorem dX12_cost_58 : decode cX12_cost 58 = .ok (.iload_n 3, 1) := by decide +kernel
theorem dX12_cost_59 : decode cX12_cost 59 = .ok (.if_icmp .eq 11, 3) := by decide +kernel
theorem dX12_cost_62 : decode cX12_cost 62 = .ok (.aload_n 0, 1) := by decide +kernel
theorem dX12_cost_63 : decode cX12_cost 63 = .ok (.iload_n 1, 1) := by decide +kernel
theorem dX12_cost_64 : decode cX12_cost 64 = .ok (.iload_n 2, 1) := by decide +kernel
theorem dX12_cost_65 : decode cX12_cost 65 = .ok (.iload_n 3, 1) := by decide +kernel
theorem dX12_cost_66 : decode cX12_cost 66 = .ok (.isub, 1) := by decide +kernel
theorem dX12_cost_67 : decode cX12_cost 67 = .ok (.invokevirtual 97, 3) := by decide +kernel
theorem dX12_cost_70 : decode cX12_cost 70 = .ok (.iload_n 3, 1) := by decide +kernel
theorem dX12_cost_71 : decode cX12_cost 71 = .ok (.ireturn, 1) := by decide +kernel
theorem dX12_keepsChange_0 : decode cX12_keepsChange 0 = .ok (.aload_n 0, 1) := by decide +kernel
theorem dX12_keepsChange_1 : decode cX12_keepsChange 1 = .ok (.getfield 9, 3) := by decide +kernel
theorem dX12_keepsChange_4 : decode cX12_keepsChange 4 = .ok (.bipush 6, 2) := by decide +kernel
theorem dX12_keepsChange_6 : decode cX12_keepsChange 6 = .ok (.iaload, 1) := by decide +kernel
theorem dX12_keepsChange_7 : decode cX12_keepsChange 7 = .ok (.bipush 10, 2) := by decide +kernel
theorem dX12_keepsChange_9 : decode cX12_keepsChange 9 = .ok (.if_icmp .ne 45, 3) := by decide +kernel
theorem dX12_keepsChange_12 : decode cX12_keepsChange 12 = .ok (.sipush 3149, 3) := by decide +kernel
theorem dX12_keepsChange_15 : decode cX12_keepsChange 15 = .ok (.istore_n 3, 1) := by decide +kernel
theorem dX12_keepsChange_16 : decode cX12_keepsChange 16 = .ok (.iload_n 3, 1) := by decide +kernel
theorem dX12_keepsChange_17 : decode cX12_keepsChange 17 = .ok (.sipush 3176, 3) := by decide +kernel
theorem dX12_keepsChange_20 : decode cX12_keepsChange 20 = .ok (.if_icmp .ge 23, 3) := by decide +kernel
theorem dX12_keepsChange_23 : decode cX12_keepsChange 23 = .ok (.aload_n 0, 1) := by decide +kernel
theorem dX12_keepsChange_24 : decode cX12_keepsChange 24 = .ok (.getfield 9, 3) := by decide +kernel
theorem dX12_keepsChange_27 : decode cX12_keepsChange 27 = .ok (.iload_n 3, 1) := by decide +kernel
theorem dX12_keepsChange_28 : decode cX12_keepsChange 28 = .ok (.aload_n 0, 1) := by decide +kernel
theorem dX12_keepsChange_29 : decode cX12_keepsChange 29 = .ok (.getfield 9, 3) := by decide +kernel
theorem dX12_keepsChange_32 : decode cX12_keepsChange 32 = .ok (.iload_n 3, 1) := by decide +kernel
theorem dX12_keepsChange_33 : decode cX12_keepsChange 33 = .ok (.iconst 3, 1) := by decide +kernel
theorem dX12_keepsChange_34 : decode cX12_keepsChange 34 = .ok (.iadd, 1) := by decide +kernel
theorem dX12_keepsChange_35 : decode cX12_keepsChange 35 = .ok (.iaload, 1) := by decide +kernel
theorem dX12_keepsChange_36 : decode cX12_keepsChange 36 = .ok (.iastore, 1) := by decide +kernel
theorem dX12_keepsChange_37 : decode cX12_keepsChange 37 = .ok (.iinc 3 1, 3) := by decide +kernel
theorem dX12_keepsChange_40 : decode cX12_keepsChange 40 = .ok (.goto (-24), 3) := by decide +kernel
theorem dX12_keepsChange_43 : decode cX12_keepsChange 43 = .ok (.aload_n 0, 1) := by decide +kernel
theorem dX12_keepsChange_44 : decode cX12_keepsChange 44 = .ok (.getfield 9, 3) := by decide +kernel
theorem dX12_keepsChange_47 : decode cX12_keepsChange 47 = .ok (.bipush 6, 2) := by decide +kernel
theorem dX12_keepsChange_49 : decode cX12_keepsChange 49 = .ok (.dup2, 1) := by decide +kernel
theorem dX12_keepsChange_50 : decode cX12_keepsChange 50 = .ok (.iaload, 1) := by decide +kernel
theorem dX12_keepsChange_51 : decode cX12_keepsChange 51 = .ok (.iconst 1, 1) := by decide +kernel
theorem dX12_keepsChange_52 : decode cX12_keepsChange 52 = .ok (.isub, 1) := by decide +kernel
theorem dX12_keepsChange_53 : decode cX12_keepsChange 53 = .ok (.iastore, 1) := by decide +kernel
theorem dX12_keepsChange_54 : decode cX12_keepsChange 54 = .ok (.sipush 3149, 3) := by decide +kernel
theorem dX12_keepsChange_57 : decode cX12_keepsChange 57 = .ok (.iconst 3, 1) := by decide +kernel
theorem dX12_keepsChange_58 : decode cX12_keepsChange 58 = .ok (.aload_n 0, 1) := by decide +kernel
theorem dX12_keepsChange_59 : decode cX12_keepsChange 59 = .ok (.getfield 9, 3) := by decide +kernel
theorem dX12_keepsChange_62 : decode cX12_keepsChange 62 = .ok (.bipush 6, 2) := by decide +kernel
theorem dX12_keepsChange_64 : decode cX12_keepsChange 64 = .ok (.iaload, 1) := by decide +kernel
theorem dX12_keepsChange_65 : decode cX12_keepsChange 65 = .ok (.imul, 1) := by decide +kernel
theorem dX12_keepsChange_66 : decode cX12_keepsChange 66 = .ok (.iadd, 1) := by decide +kernel
theorem dX12_keepsChange_67 : decode cX12_keepsChange 67 = .ok (.istore_n 3, 1) := by decide +kernel
theorem dX12_keepsChange_68 : decode cX12_keepsChange 68 = .ok (.aload_n 0, 1) := by decide +kernel
theorem dX12_keepsChange_69 : decode cX12_keepsChange 69 = .ok (.getfield 9, 3) := by decide +kernel
theorem dX12_keepsChange_72 : decode cX12_keepsChange 72 = .ok (.iload_n 3, 1) := by decide +kernel
theorem dX12_keepsChange_73 : decode cX12_keepsChange 73 = .ok (.iload_n 1, 1) := by decide +kernel
theorem dX12_keepsChange_74 : decode cX12_keepsChange 74 = .ok (.iastore, 1) := by decide +kernel
theorem dX12_keepsChange_75 : decode cX12_keepsChange 75 = .ok (.aload_n 0, 1) := by decide +kernel
theorem dX12_keepsChange_76 : decode cX12_keepsChange 76 = .ok (.getfield 9, 3) := by decide +kernel
theorem dX12_keepsChange_79 : decode cX12_keepsChange 79 = .ok (.iload_n 3, 1) := by decide +kernel
theorem dX12_keepsChange_80 : decode cX12_keepsChange 80 = .ok (.iconst 1, 1) := by decide +kernel
theorem dX12_keepsChange_81 : decode cX12_keepsChange 81 = .ok (.iadd, 1) := by decide +kernel
theorem dX12_keepsChange_82 : decode cX12_keepsChange 82 = .ok (.aload_n 0, 1) := by decide +kernel
theorem dX12_keepsChange_83 : decode cX12_keepsChange 83 = .ok (.getfield 9, 3) := by decide +kernel
theorem dX12_keepsChange_86 : decode cX12_keepsChange 86 = .ok (.iconst 2, 1) := by decide +kernel
theorem dX12_keepsChange_87 : decode cX12_keepsChange 87 = .ok (.iaload, 1) := by decide +kernel
theorem dX12_keepsChange_88 : decode cX12_keepsChange 88 = .ok (.iastore, 1) := by decide +kernel
theorem dX12_keepsChange_89 : decode cX12_keepsChange 89 = .ok (.aload_n 0, 1) := by decide +kernel
theorem dX12_keepsChange_90 : decode cX12_keepsChange 90 = .ok (.getfield 9, 3) := by decide +kernel
theorem dX12_keepsChange_93 : decode cX12_keepsChange 93 = .ok (.iload_n 3, 1) := by decide +kernel
theorem dX12_keepsChange_94 : decode cX12_keepsChange 94 = .ok (.iconst 2, 1) := by decide +kernel
theorem dX12_keepsChange_95 : decode cX12_keepsChange 95 = .ok (.iadd, 1) := by decide +kernel
theorem dX12_keepsChange_96 : decode cX12_keepsChange 96 = .ok (.iload_n 2, 1) := by decide +kernel
theorem dX12_keepsChange_97 : decode cX12_keepsChange 97 = .ok (.iastore, 1) := by decide +kernel
theorem dX12_keepsChange_98 : decode cX12_keepsChange 98 = .ok (.aload_n 0, 1) := by decide +kernel
theorem dX12_keepsChange_99 : decode cX12_keepsChange 99 = .ok (.getfield 9, 3) := by decide +kernel
theorem dX12_keepsChange_102 : decode cX12_keepsChange 102 = .ok (.bipush 6, 2) := by decide +kernel
theorem dX12_keepsChange_104 : decode cX12_keepsChange 104 = .ok (.dup2, 1) := by decide +kernel
theorem dX12_keepsChange_105 : decode cX12_keepsChange 105 = .ok (.iaload, 1) := by decide +kernel
theorem dX12_keepsChange_106 : decode cX12_keepsChange 106 = .ok (.iconst 1, 1) := by decide +kernel
theorem dX12_keepsChange_107 : decode cX12_keepsChange 107 = .ok (.iadd, 1) := by decide +kernel
theorem dX12_keepsChange_108 : decode cX12_keepsChange 108 = .ok (.iastore, 1) := by decide +kernel
theorem dX12_keepsChange_109 : decode cX12_keepsChange 109 = .ok (.return_, 1) := by decide +kernel
theorem dX12_late_0 : decode cX12_late 0 = .ok (.aload_n 0, 1) := by decide +kernel
theorem dX12_late_1 : decode cX12_late 1 = .ok (.iconst 0, 1) := by decide +kernel
theorem dX12_late_2 : decode cX12_late 2 = .ok (.putfield 76, 3) := by decide +kernel
theorem dX12_late_5 : decode cX12_late 5 = .ok (.aload_n 0, 1) := by decide +kernel
theorem dX12_late_6 : decode cX12_late 6 = .ok (.iload_n 1, 1) := by decide +kernel
theorem dX12_late_7 : decode cX12_late 7 = .ok (.invokevirtual 91, 3) := by decide +kernel
theorem dX12_late_10 : decode cX12_late 10 = .ok (.ifCond .ne 9, 3) := by decide +kernel
theorem dX12_late_13 : decode cX12_late 13 = .ok (.aload_n 0, 1) := by decide +kernel
theorem dX12_late_14 : decode cX12_late 14 = .ok (.iconst 1, 1) := by decide +kernel
theorem dX12_late_15 : decode cX12_late 15 = .ok (.invokevirtual 83, 3) := by decide +kernel
theorem dX12_late_18 : decode cX12_late 18 = .ok (.ireturn, 1) := by decide +kernel
theorem dX12_late_19 : decode cX12_late 19 = .ok (.iload_n 2, 1) := by decide +kernel
theorem dX12_late_20 : decode cX12_late 20 = .ok (.i2l, 1) := by decide +kernel
theorem dX12_late_21 : decode cX12_late 21 = .ok (.lconst 0, 1) := by decide +kernel
theorem dX12_late_22 : decode cX12_late 22 = .ok (.ldc2_w 89, 3) := by decide +kernel
theorem dX12_late_25 : decode cX12_late 25 = .ok (.invokestatic 79, 3) := by decide +kernel
theorem dX12_late_28 : decode cX12_late 28 = .ok (.ifCond .ne 9, 3) := by decide +kernel
theorem dX12_late_31 : decode cX12_late 31 = .ok (.aload_n 0, 1) := by decide +kernel
theorem dX12_late_32 : decode cX12_late 32 = .ok (.iconst 2, 1) := by decide +kernel
theorem dX12_late_33 : decode cX12_late 33 = .ok (.invokevirtual 83, 3) := by decide +kernel
theorem dX12_late_36 : decode cX12_late 36 = .ok (.ireturn, 1) := by decide +kernel
theorem dX12_late_37 : decode cX12_late 37 = .ok (.aload_n 0, 1) := by decide +kernel
theorem dX12_late_38 : decode cX12_late 38 = .ok (.getfield 9, 3) := by decide +kernel
theorem dX12_late_41 : decode cX12_late 41 = .ok (.bipush 16, 2) := by decide +kernel
theorem dX12_late_43 : decode cX12_late 43 = .ok (.iload_n 1, 1) := by decide +kernel
theorem dX12_late_44 : decode cX12_late 44 = .ok (.iadd, 1) := by decide +kernel
theorem dX12_late_45 : decode cX12_late 45 = .ok (.iaload, 1) := by decide +kernel
theorem dX12_late_46 : decode cX12_late 46 = .ok (.istore_n 3, 1) := by decide +kernel
theorem dX12_late_47 : decode cX12_late 47 = .ok (.aload_n 0, 1) := by decide +kernel
theorem dX12_late_48 : decode cX12_late 48 = .ok (.getfield 9, 3) := by decide +kernel
theorem dX12_late_51 : decode cX12_late 51 = .ok (.bipush 16, 2) := by decide +kernel
theorem dX12_late_53 : decode cX12_late 53 = .ok (.iload_n 1, 1) := by decide +kernel
theorem dX12_late_54 : decode cX12_late 54 = .ok (.iadd, 1) := by decide +kernel
theorem dX12_late_55 : decode cX12_late 55 = .ok (.iload_n 2, 1) := by decide +kernel
theorem dX12_late_56 : decode cX12_late 56 = .ok (.iastore, 1) := by decide +kernel
theorem dX12_late_57 : decode cX12_late 57 = .ok (.iload_n 3, 1) := by decide +kernel
theorem dX12_late_58 : decode cX12_late 58 = .ok (.ireturn, 1) := by decide +kernel
theorem dX12_feed_0 : decode cX12_feed 0 = .ok (.aload_n 0, 1) := by decide +kernel
theorem dX12_feed_1 : decode cX12_feed 1 = .ok (.iconst 0, 1) := by decide +kernel
theorem dX12_feed_2 : decode cX12_feed 2 = .ok (.putfield 76, 3) := by decide +kernel
theorem dX12_feed_5 : decode cX12_feed 5 = .ok (.aload_n 0, 1) := by decide +kernel
theorem dX12_feed_6 : decode cX12_feed 6 = .ok (.getfield 101, 3) := by decide +kernel
theorem dX12_feed_9 : decode cX12_feed 9 = .ok (.bipush 20, 2) := by decide +kernel
theorem dX12_feed_11 : decode cX12_feed 11 = .ok (.iadd, 1) := by decide +kernel
theorem dX12_feed_12 : decode cX12_feed 12 = .ok (.sipush 400, 3) := by decide +kernel
theorem dX12_feed_15 : decode cX12_feed 15 = .ok (.if_icmp .le 5, 3) := by decide +kernel
theorem dX12_feed_18 : decode cX12_feed 18 = .ok (.iconst (-1), 1) := by decide +kernel
theorem dX12_feed_19 : decode cX12_feed 19 = .ok (.ireturn, 1) := by decide +kernel
theorem dX12_feed_20 : decode cX12_feed 20 = .ok (.iconst 0, 1) := by decide +kernel
theorem dX12_feed_21 : decode cX12_feed 21 = .ok (.istore 6, 2) := by decide +kernel
theorem dX12_feed_23 : decode cX12_feed 23 = .ok (.iload 6, 2) := by decide +kernel
theorem dX12_feed_25 : decode cX12_feed 25 = .ok (.bipush 20, 2) := by decide +kernel
theorem dX12_feed_27 : decode cX12_feed 27 = .ok (.if_icmp .ge 93, 3) := by decide +kernel
theorem dX12_feed_30 : decode cX12_feed 30 = .ok (.iload 6, 2) := by decide +kernel
theorem dX12_feed_32 : decode cX12_feed 32 = .ok (.iconst 4, 1) := by decide +kernel
theorem dX12_feed_33 : decode cX12_feed 33 = .ok (.if_icmp .ge 7, 3) := by decide +kernel
theorem dX12_feed_36 : decode cX12_feed 36 = .ok (.iload_n 1, 1) := by decide +kernel
theorem dX12_feed_37 : decode cX12_feed 37 = .ok (.goto 39, 3) := by decide +kernel
theorem dX12_feed_40 : decode cX12_feed 40 = .ok (.iload 6, 2) := by decide +kernel
theorem dX12_feed_42 : decode cX12_feed 42 = .ok (.bipush 8, 2) := by decide +kernel
theorem dX12_feed_44 : decode cX12_feed 44 = .ok (.if_icmp .ge 7, 3) := by decide +kernel
theorem dX12_feed_47 : decode cX12_feed 47 = .ok (.iload_n 2, 1) := by decide +kernel
theorem dX12_feed_48 : decode cX12_feed 48 = .ok (.goto 28, 3) := by decide +kernel
theorem dX12_feed_51 : decode cX12_feed 51 = .ok (.iload 6, 2) := by decide +kernel
theorem dX12_feed_53 : decode cX12_feed 53 = .ok (.bipush 12, 2) := by decide +kernel
theorem dX12_feed_55 : decode cX12_feed 55 = .ok (.if_icmp .ge 7, 3) := by decide +kernel
theorem dX12_feed_58 : decode cX12_feed 58 = .ok (.iload_n 3, 1) := by decide +kernel
theorem dX12_feed_59 : decode cX12_feed 59 = .ok (.goto 17, 3) := by decide +kernel
theorem dX12_feed_62 : decode cX12_feed 62 = .ok (.iload 6, 2) := by decide +kernel
theorem dX12_feed_64 : decode cX12_feed 64 = .ok (.bipush 16, 2) := by decide +kernel
theorem dX12_feed_66 : decode cX12_feed 66 = .ok (.if_icmp .ge 8, 3) := by decide +kernel
theorem dX12_feed_69 : decode cX12_feed 69 = .ok (.iload 4, 2) := by decide +kernel
theorem dX12_feed_71 : decode cX12_feed 71 = .ok (.goto 5, 3) := by decide +kernel
theorem dX12_feed_74 : decode cX12_feed 74 = .ok (.iload 5, 2) := by decide +kernel
theorem dX12_feed_76 : decode cX12_feed 76 = .ok (.istore 7, 2) := by decide +kernel
theorem dX12_feed_78 : decode cX12_feed 78 = .ok (.aload_n 0, 1) := by decide +kernel
theorem dX12_feed_79 : decode cX12_feed 79 = .ok (.getfield 27, 3) := by decide +kernel
theorem dX12_feed_82 : decode cX12_feed 82 = .ok (.aload_n 0, 1) := by decide +kernel
theorem dX12_feed_83 : decode cX12_feed 83 = .ok (.getfield 101, 3) := by decide +kernel
theorem dX12_feed_86 : decode cX12_feed 86 = .ok (.iload 7, 2) := by decide +kernel
theorem dX12_feed_88 : decode cX12_feed 88 = .ok (.bipush 24, 2) := by decide +kernel
theorem dX12_feed_90 : decode cX12_feed 90 = .ok (.bipush 8, 2) := by decide +kernel
theorem dX12_feed_92 : decode cX12_feed 92 = .ok (.iload 6, 2) := by decide +kernel
theorem dX12_feed_94 : decode cX12_feed 94 = .ok (.iconst 3, 1) := by decide +kernel
theorem dX12_feed_95 : decode cX12_feed 95 = .ok (.iand, 1) := by decide +kernel
theorem dX12_feed_96 : decode cX12_feed 96 = .ok (.imul, 1) := by decide +kernel
theorem dX12_feed_97 : decode cX12_feed 97 = .ok (.isub, 1) := by decide +kernel
theorem dX12_feed_98 : decode cX12_feed 98 = .ok (.iushr, 1) := by decide +kernel
theorem dX12_feed_99 : decode cX12_feed 99 = .ok (.sipush 255, 3) := by decide +kernel
theorem dX12_feed_102 : decode cX12_feed 102 = .ok (.iand, 1) := by decide +kernel
theorem dX12_feed_103 : decode cX12_feed 103 = .ok (.iastore, 1) := by decide +kernel
theorem dX12_feed_104 : decode cX12_feed 104 = .ok (.aload_n 0, 1) := by decide +kernel
theorem dX12_feed_105 : decode cX12_feed 105 = .ok (.dup, 1) := by decide +kernel
theorem dX12_feed_106 : decode cX12_feed 106 = .ok (.getfield 101, 3) := by decide +kernel
theorem dX12_feed_109 : decode cX12_feed 109 = .ok (.iconst 1, 1) := by decide +kernel
theorem dX12_feed_110 : decode cX12_feed 110 = .ok (.iadd, 1) := by decide +kernel
theorem dX12_feed_111 : decode cX12_feed 111 = .ok (.putfield 101, 3) := by decide +kernel
theorem dX12_feed_114 : decode cX12_feed 114 = .ok (.iinc 6 1, 3) := by decide +kernel
theorem dX12_feed_117 : decode cX12_feed 117 = .ok (.goto (-94), 3) := by decide +kernel
theorem dX12_feed_120 : decode cX12_feed 120 = .ok (.aload_n 0, 1) := by decide +kernel
theorem dX12_feed_121 : decode cX12_feed 121 = .ok (.getfield 101, 3) := by decide +kernel
theorem dX12_feed_124 : decode cX12_feed 124 = .ok (.ireturn, 1) := by decide +kernel
theorem dX12_see_0 : decode cX12_see 0 = .ok (.iload_n 1, 1) := by decide +kernel
theorem dX12_see_1 : decode cX12_see 1 = .ok (.aload_n 0, 1) := by decide +kernel
theorem dX12_see_2 : decode cX12_see 2 = .ok (.getfield 104, 3) := by decide +kernel
theorem dX12_see_5 : decode cX12_see 5 = .ok (.if_icmp .ge 12, 3) := by decide +kernel
theorem dX12_see_8 : decode cX12_see 8 = .ok (.aload_n 0, 1) := by decide +kernel
theorem dX12_see_9 : decode cX12_see 9 = .ok (.getfield 27, 3) := by decide +kernel
theorem dX12_see_12 : decode cX12_see 12 = .ok (.iload_n 1, 1) := by decide +kernel
theorem dX12_see_13 : decode cX12_see 13 = .ok (.iaload, 1) := by decide +kernel
theorem dX12_see_14 : decode cX12_see 14 = .ok (.goto 4, 3) := by decide +kernel
theorem dX12_see_17 : decode cX12_see 17 = .ok (.iconst 0, 1) := by decide +kernel
theorem dX12_see_18 : decode cX12_see 18 = .ok (.ireturn, 1) := by decide +kernel
theorem dX12_isLetter_0 : decode cX12_isLetter 0 = .ok (.iload_n 0, 1) := by decide +kernel
theorem dX12_isLetter_1 : decode cX12_isLetter 1 = .ok (.bipush 97, 2) := by decide +kernel
theorem dX12_isLetter_3 : decode cX12_isLetter 3 = .ok (.if_icmp .lt 13, 3) := by decide +kernel
theorem dX12_isLetter_6 : decode cX12_isLetter 6 = .ok (.iload_n 0, 1) := by decide +kernel
theorem dX12_isLetter_7 : decode cX12_isLetter 7 = .ok (.bipush 122, 2) := by decide +kernel
theorem dX12_isLetter_9 : decode cX12_isLetter 9 = .ok (.if_icmp .gt 7, 3) := by decide +kernel
theorem dX12_isLetter_12 : decode cX12_isLetter 12 = .ok (.iconst 1, 1) := by decide +kernel
theorem dX12_isLetter_13 : decode cX12_isLetter 13 = .ok (.goto 4, 3) := by decide +kernel
theorem dX12_isLetter_16 : decode cX12_isLetter 16 = .ok (.iconst 0, 1) := by decide +kernel
theorem dX12_isLetter_17 : decode cX12_isLetter 17 = .ok (.ireturn, 1) := by decide +kernel
theorem dX12_isDigit_0 : decode cX12_isDigit 0 = .ok (.iload_n 0, 1) := by decide +kernel
theorem dX12_isDigit_1 : decode cX12_isDigit 1 = .ok (.bipush 48, 2) := by decide +kernel
theorem dX12_isDigit_3 : decode cX12_isDigit 3 = .ok (.if_icmp .lt 13, 3) := by decide +kernel
theorem dX12_isDigit_6 : decode cX12_isDigit 6 = .ok (.iload_n 0, 1) := by decide +kernel
theorem dX12_isDigit_7 : decode cX12_isDigit 7 = .ok (.bipush 57, 2) := by decide +kernel
theorem dX12_isDigit_9 : decode cX12_isDigit 9 = .ok (.if_icmp .gt 7, 3) := by decide +kernel
theorem dX12_isDigit_12 : decode cX12_isDigit 12 = .ok (.iconst 1, 1) := by decide +kernel
theorem dX12_isDigit_13 : decode cX12_isDigit 13 = .ok (.goto 4, 3) := by decide +kernel
theorem dX12_isDigit_16 : decode cX12_isDigit 16 = .ok (.iconst 0, 1) := by decide +kernel
theorem dX12_isDigit_17 : decode cX12_isDigit 17 = .ok (.ireturn, 1) := by decide +kernel
theorem dX12_isSign_0 : decode cX12_isSign 0 = .ok (.iload_n 0, 1) := by decide +kernel
theorem dX12_isSign_1 : decode cX12_isSign 1 = .ok (.bipush 59, 2) := by decide +kernel
theorem dX12_isSign_3 : decode cX12_isSign 3 = .ok (.if_icmp .eq 33, 3) := by decide +kernel
theorem dX12_isSign_6 : decode cX12_isSign 6 = .ok (.iload_n 0, 1) := by decide +kernel
theorem dX12_isSign_7 : decode cX12_isSign 7 = .ok (.bipush 60, 2) := by decide +kernel
theorem dX12_isSign_9 : decode cX12_isSign 9 = .ok (.if_icmp .eq 27, 3) := by decide +kernel
theorem dX12_isSign_12 : decode cX12_isSign 12 = .ok (.iload_n 0, 1) := by decide +kernel
theorem dX12_isSign_13 : decode cX12_isSign 13 = .ok (.bipush 61, 2) := by decide +kernel
theorem dX12_isSign_15 : decode cX12_isSign 15 = .ok (.if_icmp .eq 21, 3) := by decide +kernel
theorem dX12_isSign_18 : decode cX12_isSign 18 = .ok (.iload_n 0, 1) := by decide +kernel
theorem dX12_isSign_19 : decode cX12_isSign 19 = .ok (.bipush 62, 2) := by decide +kernel
theorem dX12_isSign_21 : decode cX12_isSign 21 = .ok (.if_icmp .eq 15, 3) := by decide +kernel
theorem dX12_isSign_24 : decode cX12_isSign 24 = .ok (.iload_n 0, 1) := by decide +kernel
theorem dX12_isSign_25 : decode cX12_isSign 25 = .ok (.bipush 43, 2) := by decide +kernel
theorem dX12_isSign_27 : decode cX12_isSign 27 = .ok (.if_icmp .eq 9, 3) := by decide +kernel
theorem dX12_isSign_30 : decode cX12_isSign 30 = .ok (.iload_n 0, 1) := by decide +kernel
theorem dX12_isSign_31 : decode cX12_isSign 31 = .ok (.bipush 45, 2) := by decide +kernel
theorem dX12_isSign_33 : decode cX12_isSign 33 = .ok (.if_icmp .ne 7, 3) := by decide +kernel
theorem dX12_isSign_36 : decode cX12_isSign 36 = .ok (.iconst 1, 1) := by decide +kernel
theorem dX12_isSign_37 : decode cX12_isSign 37 = .ok (.goto 4, 3) := by decide +kernel
theorem dX12_isSign_40 : decode cX12_isSign 40 = .ok (.iconst 0, 1) := by decide +kernel
theorem dX12_isSign_41 : decode cX12_isSign 41 = .ok (.ireturn, 1) := by decide +kernel
theorem dX12_next_0 : decode cX12_next 0 = .ok (.aload_n 0, 1) := by decide +kernel
theorem dX12_next_1 : decode cX12_next 1 = .ok (.getfield 107, 3) := by decide +kernel
theorem dX12_next_4 : decode cX12_next 4 = .ok (.aload_n 0, 1) := by decide +kernel
theorem dX12_next_5 : decode cX12_next 5 = .ok (.getfield 104, 3) := by decide +kernel
theorem dX12_next_8 : decode cX12_next 8 = .ok (.if_icmp .ge 44, 3) := by decide +kernel
theorem dX12_next_11 : decode cX12_next 11 = .ok (.aload_n 0, 1) := by decide +kernel
theorem dX12_next_12 : decode cX12_next 12 = .ok (.getfield 27, 3) := by decide +kernel
theorem dX12_next_15 : decode cX12_next 15 = .ok (.aload_n 0, 1) := by decide +kernel
theorem dX12_next_16 : decode cX12_next 16 = .ok (.getfield 107, 3) := by decide +kernel
theorem dX12_next_19 : decode cX12_next 19 = .ok (.iaload, 1) := by decide +kernel
theorem dX12_next_20 : decode cX12_next 20 = .ok (.bipush 32, 2) := by decide +kernel
theorem dX12_next_22 : decode cX12_next 22 = .ok (.if_icmp .eq 17, 3) := by decide +kernel
theorem dX12_next_25 : decode cX12_next 25 = .ok (.aload_n 0, 1) := by decide +kernel
theorem dX12_next_26 : decode cX12_next 26 = .ok (.getfield 27, 3) := by decide +kernel
theorem dX12_next_29 : decode cX12_next 29 = .ok (.aload_n 0, 1) := by decide +kernel
theorem dX12_next_30 : decode cX12_next 30 = .ok (.getfield 107, 3) := by decide +kernel
theorem dX12_next_33 : decode cX12_next 33 = .ok (.iaload, 1) := by decide +kernel
theorem dX12_next_34 : decode cX12_next 34 = .ok (.bipush 10, 2) := by decide +kernel
theorem dX12_next_36 : decode cX12_next 36 = .ok (.if_icmp .ne 16, 3) := by decide +kernel
theorem dX12_next_39 : decode cX12_next 39 = .ok (.aload_n 0, 1) := by decide +kernel
theorem dX12_next_40 : decode cX12_next 40 = .ok (.dup, 1) := by decide +kernel
theorem dX12_next_41 : decode cX12_next 41 = .ok (.getfield 107, 3) := by decide +kernel
theorem dX12_next_44 : decode cX12_next 44 = .ok (.iconst 1, 1) := by decide +kernel
theorem dX12_next_45 : decode cX12_next 45 = .ok (.iadd, 1) := by decide +kernel
theorem dX12_next_46 : decode cX12_next 46 = .ok (.putfield 107, 3) := by decide +kernel
theorem dX12_next_49 : decode cX12_next 49 = .ok (.goto (-49), 3) := by decide +kernel
theorem dX12_next_52 : decode cX12_next 52 = .ok (.aload_n 0, 1) := by decide +kernel
theorem dX12_next_53 : decode cX12_next 53 = .ok (.aload_n 0, 1) := by decide +kernel
theorem dX12_next_54 : decode cX12_next 54 = .ok (.getfield 107, 3) := by decide +kernel
theorem dX12_next_57 : decode cX12_next 57 = .ok (.putfield 110, 3) := by decide +kernel
theorem dX12_next_60 : decode cX12_next 60 = .ok (.aload_n 0, 1) := by decide +kernel
theorem dX12_next_61 : decode cX12_next 61 = .ok (.iconst 0, 1) := by decide +kernel
theorem dX12_next_62 : decode cX12_next 62 = .ok (.putfield 113, 3) := by decide +kernel
theorem dX12_next_65 : decode cX12_next 65 = .ok (.aload_n 0, 1) := by decide +kernel
theorem dX12_next_66 : decode cX12_next 66 = .ok (.getfield 107, 3) := by decide +kernel
theorem dX12_next_69 : decode cX12_next 69 = .ok (.aload_n 0, 1) := by decide +kernel
theorem dX12_next_70 : decode cX12_next 70 = .ok (.getfield 104, 3) := by decide +kernel
theorem dX12_next_73 : decode cX12_next 73 = .ok (.if_icmp .lt 9, 3) := by decide +kernel
theorem dX12_next_76 : decode cX12_next 76 = .ok (.aload_n 0, 1) := by decide +kernel
theorem dX12_next_77 : decode cX12_next 77 = .ok (.iconst 0, 1) := by decide +kernel
theorem dX12_next_78 : decode cX12_next 78 = .ok (.putfield 116, 3) := by decide +kernel
theorem dX12_next_81 : decode cX12_next 81 = .ok (.return_, 1) := by decide +kernel
theorem dX12_next_82 : decode cX12_next 82 = .ok (.aload_n 0, 1) := by decide +kernel
theorem dX12_next_83 : decode cX12_next 83 = .ok (.getfield 27, 3) := by decide +kernel
theorem dX12_next_86 : decode cX12_next 86 = .ok (.aload_n 0, 1) := by decide +kernel
theorem dX12_next_87 : decode cX12_next 87 = .ok (.getfield 107, 3) := by decide +kernel
theorem dX12_next_90 : decode cX12_next 90 = .ok (.iaload, 1) := by decide +kernel
theorem dX12_next_91 : decode cX12_next 91 = .ok (.istore_n 1, 1) := by decide +kernel
theorem dX12_next_92 : decode cX12_next 92 = .ok (.iload_n 1, 1) := by decide +kernel
theorem dX12_next_93 : decode cX12_next 93 = .ok (.invokestatic 119, 3) := by decide +kernel
theorem dX12_next_96 : decode cX12_next 96 = .ok (.ifCond .eq 38, 3) := by decide +kernel
theorem dX12_next_99 : decode cX12_next 99 = .ok (.aload_n 0, 1) := by decide +kernel
theorem dX12_next_100 : decode cX12_next 100 = .ok (.aload_n 0, 1) := by decide +kernel
theorem dX12_next_101 : decode cX12_next 101 = .ok (.getfield 107, 3) := by decide +kernel
theorem dX12_next_104 : decode cX12_next 104 = .ok (.invokevirtual 122, 3) := by decide +kernel
theorem dX12_next_107 : decode cX12_next 107 = .ok (.invokestatic 119, 3) := by decide +kernel
theorem dX12_next_110 : decode cX12_next 110 = .ok (.ifCond .eq 16, 3) := by decide +kernel
theorem dX12_next_113 : decode cX12_next 113 = .ok (.aload_n 0, 1) := by decide +kernel
theorem dX12_next_114 : decode cX12_next 114 = .ok (.dup, 1) := by decide +kernel
theorem dX12_next_115 : decode cX12_next 115 = .ok (.getfield 107, 3) := by decide +kernel
theorem dX12_next_118 : decode cX12_next 118 = .ok (.iconst 1, 1) := by decide +kernel
theorem dX12_next_119 : decode cX12_next 119 = .ok (.iadd, 1) := by decide +kernel
theorem dX12_next_120 : decode cX12_next 120 = .ok (.putfield 107, 3) := by decide +kernel
theorem dX12_next_123 : decode cX12_next 123 = .ok (.goto (-24), 3) := by decide +kernel
theorem dX12_next_126 : decode cX12_next 126 = .ok (.aload_n 0, 1) := by decide +kernel
theorem dX12_next_127 : decode cX12_next 127 = .ok (.iconst 1, 1) := by decide +kernel
theorem dX12_next_128 : decode cX12_next 128 = .ok (.putfield 116, 3) := by decide +kernel
theorem dX12_next_131 : decode cX12_next 131 = .ok (.goto 154, 3) := by decide +kernel
theorem dX12_next_134 : decode cX12_next 134 = .ok (.iload_n 1, 1) := by decide +kernel
theorem dX12_next_135 : decode cX12_next 135 = .ok (.invokestatic 125, 3) := by decide +kernel
theorem dX12_next_138 : decode cX12_next 138 = .ok (.ifCond .eq 104, 3) := by decide +kernel
theorem dX12_next_141 : decode cX12_next 141 = .ok (.aload_n 0, 1) := by decide +kernel
theorem dX12_next_142 : decode cX12_next 142 = .ok (.iconst 0, 1) := by decide +kernel
theorem dX12_next_143 : decode cX12_next 143 = .ok (.putfield 128, 3) := by decide +kernel
theorem dX12_next_146 : decode cX12_next 146 = .ok (.aload_n 0, 1) := by decide +kernel
theorem dX12_next_147 : decode cX12_next 147 = .ok (.aload_n 0, 1) := by decide +kernel
theorem dX12_next_148 : decode cX12_next 148 = .ok (.getfield 107, 3) := by decide +kernel
theorem dX12_next_151 : decode cX12_next 151 = .ok (.invokevirtual 122, 3) := by decide +kernel
theorem dX12_next_154 : decode cX12_next 154 = .ok (.invokestatic 125, 3) := by decide +kernel
theorem dX12_next_157 : decode cX12_next 157 = .ok (.ifCond .eq 60, 3) := by decide +kernel
theorem dX12_next_160 : decode cX12_next 160 = .ok (.aload_n 0, 1) := by decide +kernel
theorem dX12_next_161 : decode cX12_next 161 = .ok (.aload_n 0, 1) := by decide +kernel
theorem dX12_next_162 : decode cX12_next 162 = .ok (.getfield 107, 3) := by decide +kernel
theorem dX12_next_165 : decode cX12_next 165 = .ok (.aload_n 0, 1) := by decide +kernel
theorem dX12_next_166 : decode cX12_next 166 = .ok (.getfield 110, 3) := by decide +kernel
theorem dX12_next_169 : decode cX12_next 169 = .ok (.isub, 1) := by decide +kernel
theorem dX12_next_170 : decode cX12_next 170 = .ok (.iconst 2, 1) := by decide +kernel
theorem dX12_next_171 : decode cX12_next 171 = .ok (.if_icmp .ge 26, 3) := by decide +kernel
theorem dX12_next_174 : decode cX12_next 174 = .ok (.bipush 10, 2) := by decide +kernel
theorem dX12_next_176 : decode cX12_next 176 = .ok (.aload_n 0, 1) := by decide +kernel
theorem dX12_next_177 : decode cX12_next 177 = .ok (.getfield 128, 3) := by decide +kernel
theorem dX12_next_180 : decode cX12_next 180 = .ok (.imul, 1) := by decide +kernel
theorem dX12_next_181 : decode cX12_next 181 = .ok (.aload_n 0, 1) := by decide +kernel
theorem dX12_next_182 : decode cX12_next 182 = .ok (.getfield 27, 3) := by decide +kernel
theorem dX12_next_185 : decode cX12_next 185 = .ok (.aload_n 0, 1) := by decide +kernel
theorem dX12_next_186 : decode cX12_next 186 = .ok (.getfield 107, 3) := by decide +kernel
theorem dX12_next_189 : decode cX12_next 189 = .ok (.iaload, 1) := by decide +kernel
theorem dX12_next_190 : decode cX12_next 190 = .ok (.iadd, 1) := by decide +kernel
theorem dX12_next_191 : decode cX12_next 191 = .ok (.bipush 48, 2) := by decide +kernel
theorem dX12_next_193 : decode cX12_next 193 = .ok (.isub, 1) := by decide +kernel
theorem dX12_next_194 : decode cX12_next 194 = .ok (.goto 7, 3) := by decide +kernel
theorem dX12_next_197 : decode cX12_next 197 = .ok (.aload_n 0, 1) := by decide +kernel
theorem dX12_next_198 : decode cX12_next 198 = .ok (.getfield 128, 3) := by decide +kernel
theorem dX12_next_201 : decode cX12_next 201 = .ok (.putfield 128, 3) := by decide +kernel
theorem dX12_next_204 : decode cX12_next 204 = .ok (.aload_n 0, 1) := by decide +kernel
theorem dX12_next_205 : decode cX12_next 205 = .ok (.dup, 1) := by decide +kernel
theorem dX12_next_206 : decode cX12_next 206 = .ok (.getfield 107, 3) := by decide +kernel
theorem dX12_next_209 : decode cX12_next 209 = .ok (.iconst 1, 1) := by decide +kernel
theorem dX12_next_210 : decode cX12_next 210 = .ok (.iadd, 1) := by decide +kernel
theorem dX12_next_211 : decode cX12_next 211 = .ok (.putfield 107, 3) := by decide +kernel
theorem dX12_next_214 : decode cX12_next 214 = .ok (.goto (-68), 3) := by decide +kernel
theorem dX12_next_217 : decode cX12_next 217 = .ok (.aload_n 0, 1) := by decide +kernel
theorem dX12_next_218 : decode cX12_next 218 = .ok (.aload_n 0, 1) := by decide +kernel
theorem dX12_next_219 : decode cX12_next 219 = .ok (.getfield 107, 3) := by decide +kernel
theorem dX12_next_222 : decode cX12_next 222 = .ok (.aload_n 0, 1) := by decide +kernel
theorem dX12_next_223 : decode cX12_next 223 = .ok (.getfield 110, 3) := by decide +kernel
theorem dX12_next_226 : decode cX12_next 226 = .ok (.isub, 1) := by decide +kernel
theorem dX12_next_227 : decode cX12_next 227 = .ok (.iconst 2, 1) := by decide +kernel
theorem dX12_next_228 : decode cX12_next 228 = .ok (.if_icmp .le 7, 3) := by decide +kernel
theorem dX12_next_231 : decode cX12_next 231 = .ok (.iconst 4, 1) := by decide +kernel
theorem dX12_next_232 : decode cX12_next 232 = .ok (.goto 4, 3) := by decide +kernel
theorem dX12_next_235 : decode cX12_next 235 = .ok (.iconst 2, 1) := by decide +kernel
theorem dX12_next_236 : decode cX12_next 236 = .ok (.putfield 116, 3) := by decide +kernel
theorem dX12_next_239 : decode cX12_next 239 = .ok (.goto 46, 3) := by decide +kernel
theorem dX12_next_242 : decode cX12_next 242 = .ok (.aload_n 0, 1) := by decide +kernel
theorem dX12_next_243 : decode cX12_next 243 = .ok (.iload_n 1, 1) := by decide +kernel
theorem dX12_next_244 : decode cX12_next 244 = .ok (.invokestatic 131, 3) := by decide +kernel
theorem dX12_next_247 : decode cX12_next 247 = .ok (.ifCond .eq 7, 3) := by decide +kernel
theorem dX12_next_250 : decode cX12_next 250 = .ok (.iconst 3, 1) := by decide +kernel
theorem dX12_next_251 : decode cX12_next 251 = .ok (.goto 4, 3) := by decide +kernel
theorem dX12_next_254 : decode cX12_next 254 = .ok (.iconst 4, 1) := by decide +kernel
theorem dX12_next_255 : decode cX12_next 255 = .ok (.putfield 116, 3) := by decide +kernel
theorem dX12_next_258 : decode cX12_next 258 = .ok (.aload_n 0, 1) := by decide +kernel
theorem dX12_next_259 : decode cX12_next 259 = .ok (.aload_n 0, 1) := by decide +kernel
theorem dX12_next_260 : decode cX12_next 260 = .ok (.getfield 116, 3) := by decide +kernel
theorem dX12_next_263 : decode cX12_next 263 = .ok (.iconst 3, 1) := by decide +kernel
theorem dX12_next_264 : decode cX12_next 264 = .ok (.if_icmp .ne 7, 3) := by decide +kernel
theorem dX12_next_267 : decode cX12_next 267 = .ok (.iload_n 1, 1) := by decide +kernel
theorem dX12_next_268 : decode cX12_next 268 = .ok (.goto 4, 3) := by decide +kernel
theorem dX12_next_271 : decode cX12_next 271 = .ok (.iconst 0, 1) := by decide +kernel
theorem dX12_next_272 : decode cX12_next 272 = .ok (.putfield 113, 3) := by decide +kernel
theorem dX12_next_275 : decode cX12_next 275 = .ok (.aload_n 0, 1) := by decide +kernel
theorem dX12_next_276 : decode cX12_next 276 = .ok (.dup, 1) := by decide +kernel
theorem dX12_next_277 : decode cX12_next 277 = .ok (.getfield 107, 3) := by decide +kernel
theorem dX12_next_280 : decode cX12_next 280 = .ok (.iconst 1, 1) := by decide +kernel
theorem dX12_next_281 : decode cX12_next 281 = .ok (.iadd, 1) := by decide +kernel
theorem dX12_next_282 : decode cX12_next 282 = .ok (.putfield 107, 3) := by decide +kernel
theorem dX12_next_285 : decode cX12_next 285 = .ok (.return_, 1) := by decide +kernel
theorem dX12_blames_0 : decode cX12_blames 0 = .ok (.aload_n 0, 1) := by decide +kernel
theorem dX12_blames_1 : decode cX12_blames 1 = .ok (.getfield 134, 3) := by decide +kernel
theorem dX12_blames_4 : decode cX12_blames 4 = .ok (.ifCond .eq 4, 3) := by decide +kernel
theorem dX12_blames_7 : decode cX12_blames 7 = .ok (.return_, 1) := by decide +kernel
theorem dX12_blames_8 : decode cX12_blames 8 = .ok (.aload_n 0, 1) := by decide +kernel
theorem dX12_blames_9 : decode cX12_blames 9 = .ok (.aload_n 0, 1) := by decide +kernel
theorem dX12_blames_10 : decode cX12_blames 10 = .ok (.getfield 116, 3) := by decide +kernel
theorem dX12_blames_13 : decode cX12_blames 13 = .ok (.iconst 4, 1) := by decide +kernel
theorem dX12_blames_14 : decode cX12_blames 14 = .ok (.if_icmp .ne 7, 3) := by decide +kernel
theorem dX12_blames_17 : decode cX12_blames 17 = .ok (.iconst 1, 1) := by decide +kernel
theorem dX12_blames_18 : decode cX12_blames 18 = .ok (.goto 4, 3) := by decide +kernel
theorem dX12_blames_21 : decode cX12_blames 21 = .ok (.iload_n 1, 1) := by decide +kernel
theorem dX12_blames_22 : decode cX12_blames 22 = .ok (.putfield 134, 3) := by decide +kernel
theorem dX12_blames_25 : decode cX12_blames 25 = .ok (.aload_n 0, 1) := by decide +kernel
theorem dX12_blames_26 : decode cX12_blames 26 = .ok (.aload_n 0, 1) := by decide +kernel
theorem dX12_blames_27 : decode cX12_blames 27 = .ok (.getfield 110, 3) := by decide +kernel
theorem dX12_blames_30 : decode cX12_blames 30 = .ok (.putfield 137, 3) := by decide +kernel
theorem dX12_blames_33 : decode cX12_blames 33 = .ok (.return_, 1) := by decide +kernel
theorem dX12_isWord_0 : decode cX12_isWord 0 = .ok (.aload_n 0, 1) := by decide +kernel
theorem dX12_isWord_1 : decode cX12_isWord 1 = .ok (.getfield 134, 3) := by decide +kernel
theorem dX12_isWord_4 : decode cX12_isWord 4 = .ok (.ifCond .ne 31, 3) := by decide +kernel
theorem dX12_isWord_7 : decode cX12_isWord 7 = .ok (.aload_n 0, 1) := by decide +kernel
theorem dX12_isWord_8 : decode cX12_isWord 8 = .ok (.getfield 116, 3) := by decide +kernel
theorem dX12_isWord_11 : decode cX12_isWord 11 = .ok (.iconst 1, 1) := by decide +kernel
theorem dX12_isWord_12 : decode cX12_isWord 12 = .ok (.if_icmp .ne 23, 3) := by decide +kernel
theorem dX12_isWord_15 : decode cX12_isWord 15 = .ok (.aload_n 0, 1) := by decide +kernel
theorem dX12_isWord_16 : decode cX12_isWord 16 = .ok (.getfield 107, 3) := by decide +kernel
theorem dX12_isWord_19 : decode cX12_isWord 19 = .ok (.aload_n 0, 1) := by decide +kernel
theorem dX12_isWord_20 : decode cX12_isWord 20 = .ok (.getfield 110, 3) := by decide +kernel
theorem dX12_isWord_23 : decode cX12_isWord 23 = .ok (.isub, 1) := by decide +kernel
theorem dX12_isWord_24 : decode cX12_isWord 24 = .ok (.aload_n 1, 1) := by decide +kernel
theorem dX12_isWord_25 : decode cX12_isWord 25 = .ok (.invokevirtual 140, 3) := by decide +kernel
theorem dX12_isWord_28 : decode cX12_isWord 28 = .ok (.if_icmp .ne 7, 3) := by decide +kernel
theorem dX12_isWord_31 : decode cX12_isWord 31 = .ok (.iconst 1, 1) := by decide +kernel
theorem dX12_isWord_32 : decode cX12_isWord 32 = .ok (.goto 4, 3) := by decide +kernel
theorem dX12_isWord_35 : decode cX12_isWord 35 = .ok (.iconst 0, 1) := by decide +kernel
theorem dX12_isWord_36 : decode cX12_isWord 36 = .ok (.istore_n 2, 1) := by decide +kernel
theorem dX12_isWord_37 : decode cX12_isWord 37 = .ok (.iconst 0, 1) := by decide +kernel
theorem dX12_isWord_38 : decode cX12_isWord 38 = .ok (.istore_n 3, 1) := by decide +kernel
theorem dX12_isWord_39 : decode cX12_isWord 39 = .ok (.iload_n 2, 1) := by decide +kernel
theorem dX12_isWord_40 : decode cX12_isWord 40 = .ok (.ifCond .eq 42, 3) := by decide +kernel
theorem dX12_isWord_43 : decode cX12_isWord 43 = .ok (.iload_n 3, 1) := by decide +kernel
theorem dX12_isWord_44 : decode cX12_isWord 44 = .ok (.aload_n 1, 1) := by decide +kernel
theorem dX12_isWord_45 : decode cX12_isWord 45 = .ok (.invokevirtual 140, 3) := by decide +kernel
theorem dX12_isWord_48 : decode cX12_isWord 48 = .ok (.if_icmp .ge 34, 3) := by decide +kernel
theorem dX12_isWord_51 : decode cX12_isWord 51 = .ok (.aload_n 0, 1) := by decide +kernel
theorem dX12_isWord_52 : decode cX12_isWord 52 = .ok (.getfield 27, 3) := by decide +kernel
theorem dX12_isWord_55 : decode cX12_isWord 55 = .ok (.aload_n 0, 1) := by decide +kernel
theorem dX12_isWord_56 : decode cX12_isWord 56 = .ok (.getfield 110, 3) := by decide +kernel
theorem dX12_isWord_59 : decode cX12_isWord 59 = .ok (.iload_n 3, 1) := by decide +kernel
theorem dX12_isWord_60 : decode cX12_isWord 60 = .ok (.iadd, 1) := by decide +kernel
theorem dX12_isWord_61 : decode cX12_isWord 61 = .ok (.iaload, 1) := by decide +kernel
theorem dX12_isWord_62 : decode cX12_isWord 62 = .ok (.aload_n 1, 1) := by decide +kernel
theorem dX12_isWord_63 : decode cX12_isWord 63 = .ok (.iload_n 3, 1) := by decide +kernel
theorem dX12_isWord_64 : decode cX12_isWord 64 = .ok (.invokevirtual 146, 3) := by decide +kernel
theorem dX12_isWord_67 : decode cX12_isWord 67 = .ok (.if_icmp .ne 7, 3) := by decide +kernel
theorem dX12_isWord_70 : decode cX12_isWord 70 = .ok (.iconst 1, 1) := by decide +kernel
theorem dX12_isWord_71 : decode cX12_isWord 71 = .ok (.goto 4, 3) := by decide +kernel
theorem dX12_isWord_74 : decode cX12_isWord 74 = .ok (.iconst 0, 1) := by decide +kernel
theorem dX12_isWord_75 : decode cX12_isWord 75 = .ok (.istore_n 2, 1) := by decide +kernel
theorem dX12_isWord_76 : decode cX12_isWord 76 = .ok (.iinc 3 1, 3) := by decide +kernel
theorem dX12_isWord_79 : decode cX12_isWord 79 = .ok (.goto (-40), 3) := by decide +kernel
theorem dX12_isWord_82 : decode cX12_isWord 82 = .ok (.iload_n 2, 1) := by decide +kernel
theorem dX12_isWord_83 : decode cX12_isWord 83 = .ok (.ireturn, 1) := by decide +kernel
theorem dX12_number_0 : decode cX12_number 0 = .ok (.aload_n 0, 1) := by decide +kernel
theorem dX12_number_1 : decode cX12_number 1 = .ok (.getfield 116, 3) := by decide +kernel
theorem dX12_number_4 : decode cX12_number 4 = .ok (.iconst 2, 1) := by decide +kernel
theorem dX12_number_5 : decode cX12_number 5 = .ok (.if_icmp .eq 11, 3) := by decide +kernel
theorem dX12_number_8 : decode cX12_number 8 = .ok (.aload_n 0, 1) := by decide +kernel
theorem dX12_number_9 : decode cX12_number 9 = .ok (.iconst 2, 1) := by decide +kernel
theorem dX12_number_10 : decode cX12_number 10 = .ok (.invokevirtual 150, 3) := by decide +kernel
theorem dX12_number_13 : decode cX12_number 13 = .ok (.goto 23, 3) := by decide +kernel
theorem dX12_number_16 : decode cX12_number 16 = .ok (.aload_n 0, 1) := by decide +kernel
theorem dX12_number_17 : decode cX12_number 17 = .ok (.getfield 128, 3) := by decide +kernel
theorem dX12_number_20 : decode cX12_number 20 = .ok (.i2l, 1) := by decide +kernel
theorem dX12_number_21 : decode cX12_number 21 = .ok (.iload_n 1, 1) := by decide +kernel
theorem dX12_number_22 : decode cX12_number 22 = .ok (.i2l, 1) := by decide +kernel
theorem dX12_number_23 : decode cX12_number 23 = .ok (.iload_n 2, 1) := by decide +kernel
theorem dX12_number_24 : decode cX12_number 24 = .ok (.i2l, 1) := by decide +kernel
theorem dX12_number_25 : decode cX12_number 25 = .ok (.invokestatic 79, 3) := by decide +kernel
theorem dX12_number_28 : decode cX12_number 28 = .ok (.ifCond .ne 8, 3) := by decide +kernel
theorem dX12_number_31 : decode cX12_number 31 = .ok (.aload_n 0, 1) := by decide +kernel
theorem dX12_number_32 : decode cX12_number 32 = .ok (.iconst 3, 1) := by decide +kernel
theorem dX12_number_33 : decode cX12_number 33 = .ok (.invokevirtual 150, 3) := by decide +kernel
theorem dX12_number_36 : decode cX12_number 36 = .ok (.aload_n 0, 1) := by decide +kernel
theorem dX12_number_37 : decode cX12_number 37 = .ok (.getfield 128, 3) := by decide +kernel
theorem dX12_number_40 : decode cX12_number 40 = .ok (.istore_n 3, 1) := by decide +kernel
theorem dX12_number_41 : decode cX12_number 41 = .ok (.aload_n 0, 1) := by decide +kernel
theorem dX12_number_42 : decode cX12_number 42 = .ok (.getfield 134, 3) := by decide +kernel
theorem dX12_number_45 : decode cX12_number 45 = .ok (.ifCond .ne 7, 3) := by decide +kernel
theorem dX12_number_48 : decode cX12_number 48 = .ok (.aload_n 0, 1) := by decide +kernel
theorem dX12_number_49 : decode cX12_number 49 = .ok (.invokevirtual 154, 3) := by decide +kernel
theorem dX12_number_52 : decode cX12_number 52 = .ok (.iload_n 3, 1) := by decide +kernel
theorem dX12_number_53 : decode cX12_number 53 = .ok (.ireturn, 1) := by decide +kernel
theorem dX12_stop_0 : decode cX12_stop 0 = .ok (.aload_n 0, 1) := by decide +kernel
theorem dX12_stop_1 : decode cX12_stop 1 = .ok (.getfield 134, 3) := by decide +kernel
theorem dX12_stop_4 : decode cX12_stop 4 = .ok (.ifCond .ne 17, 3) := by decide +kernel
theorem dX12_stop_7 : decode cX12_stop 7 = .ok (.aload_n 0, 1) := by decide +kernel
theorem dX12_stop_8 : decode cX12_stop 8 = .ok (.getfield 113, 3) := by decide +kernel
theorem dX12_stop_11 : decode cX12_stop 11 = .ok (.bipush 59, 2) := by decide +kernel
theorem dX12_stop_13 : decode cX12_stop 13 = .ok (.if_icmp .eq 8, 3) := by decide +kernel
theorem dX12_stop_16 : decode cX12_stop 16 = .ok (.aload_n 0, 1) := by decide +kernel
theorem dX12_stop_17 : decode cX12_stop 17 = .ok (.iconst 2, 1) := by decide +kernel
theorem dX12_stop_18 : decode cX12_stop 18 = .ok (.invokevirtual 150, 3) := by decide +kernel
theorem dX12_stop_21 : decode cX12_stop 21 = .ok (.aload_n 0, 1) := by decide +kernel
theorem dX12_stop_22 : decode cX12_stop 22 = .ok (.getfield 134, 3) := by decide +kernel
theorem dX12_stop_25 : decode cX12_stop 25 = .ok (.ifCond .ne 7, 3) := by decide +kernel
theorem dX12_stop_28 : decode cX12_stop 28 = .ok (.aload_n 0, 1) := by decide +kernel
theorem dX12_stop_29 : decode cX12_stop 29 = .ok (.invokevirtual 154, 3) := by decide +kernel
theorem dX12_stop_32 : decode cX12_stop 32 = .ok (.return_, 1) := by decide +kernel
theorem dX12_starts_0 : decode cX12_starts 0 = .ok (.aload_n 0, 1) := by decide +kernel
theorem dX12_starts_1 : decode cX12_starts 1 = .ok (.iload_n 1, 1) := by decide +kernel
theorem dX12_starts_2 : decode cX12_starts 2 = .ok (.putfield 104, 3) := by decide +kernel
theorem dX12_starts_5 : decode cX12_starts 5 = .ok (.aload_n 0, 1) := by decide +kernel
theorem dX12_starts_6 : decode cX12_starts 6 = .ok (.iconst 0, 1) := by decide +kernel
theorem dX12_starts_7 : decode cX12_starts 7 = .ok (.putfield 101, 3) := by decide +kernel
theorem dX12_starts_10 : decode cX12_starts 10 = .ok (.aload_n 0, 1) := by decide +kernel
theorem dX12_starts_11 : decode cX12_starts 11 = .ok (.iconst 0, 1) := by decide +kernel
theorem dX12_starts_12 : decode cX12_starts 12 = .ok (.putfield 107, 3) := by decide +kernel
theorem dX12_starts_15 : decode cX12_starts 15 = .ok (.aload_n 0, 1) := by decide +kernel
theorem dX12_starts_16 : decode cX12_starts 16 = .ok (.iconst 0, 1) := by decide +kernel
theorem dX12_starts_17 : decode cX12_starts 17 = .ok (.putfield 134, 3) := by decide +kernel
theorem dX12_starts_20 : decode cX12_starts 20 = .ok (.aload_n 0, 1) := by decide +kernel
theorem dX12_starts_21 : decode cX12_starts 21 = .ok (.invokevirtual 154, 3) := by decide +kernel
theorem dX12_starts_24 : decode cX12_starts 24 = .ok (.return_, 1) := by decide +kernel
theorem dX12_ends_0 : decode cX12_ends 0 = .ok (.aload_n 0, 1) := by decide +kernel
theorem dX12_ends_1 : decode cX12_ends 1 = .ok (.aload_n 0, 1) := by decide +kernel
theorem dX12_ends_2 : decode cX12_ends 2 = .ok (.getfield 134, 3) := by decide +kernel
theorem dX12_ends_5 : decode cX12_ends 5 = .ok (.putfield 157, 3) := by decide +kernel
theorem dX12_ends_8 : decode cX12_ends 8 = .ok (.aload_n 0, 1) := by decide +kernel
theorem dX12_ends_9 : decode cX12_ends 9 = .ok (.aload_n 0, 1) := by decide +kernel
theorem dX12_ends_10 : decode cX12_ends 10 = .ok (.getfield 134, 3) := by decide +kernel
theorem dX12_ends_13 : decode cX12_ends 13 = .ok (.ifCond .ne 7, 3) := by decide +kernel
theorem dX12_ends_16 : decode cX12_ends 16 = .ok (.iconst (-1), 1) := by decide +kernel
theorem dX12_ends_17 : decode cX12_ends 17 = .ok (.goto 7, 3) := by decide +kernel
theorem dX12_ends_20 : decode cX12_ends 20 = .ok (.aload_n 0, 1) := by decide +kernel
theorem dX12_ends_21 : decode cX12_ends 21 = .ok (.getfield 137, 3) := by decide +kernel
theorem dX12_ends_24 : decode cX12_ends 24 = .ok (.putfield 36, 3) := by decide +kernel
theorem dX12_ends_27 : decode cX12_ends 27 = .ok (.aload_n 0, 1) := by decide +kernel
theorem dX12_ends_28 : decode cX12_ends 28 = .ok (.getfield 134, 3) := by decide +kernel
theorem dX12_ends_31 : decode cX12_ends 31 = .ok (.ifCond .ne 7, 3) := by decide +kernel
theorem dX12_ends_34 : decode cX12_ends 34 = .ok (.iload_n 1, 1) := by decide +kernel
theorem dX12_ends_35 : decode cX12_ends 35 = .ok (.goto 10, 3) := by decide +kernel
theorem dX12_ends_38 : decode cX12_ends 38 = .ok (.bipush (-10), 2) := by decide +kernel
theorem dX12_ends_40 : decode cX12_ends 40 = .ok (.aload_n 0, 1) := by decide +kernel
theorem dX12_ends_41 : decode cX12_ends 41 = .ok (.getfield 134, 3) := by decide +kernel
theorem dX12_ends_44 : decode cX12_ends 44 = .ok (.isub, 1) := by decide +kernel
theorem dX12_ends_45 : decode cX12_ends 45 = .ok (.ireturn, 1) := by decide +kernel
theorem dX12_puts_0 : decode cX12_puts 0 = .ok (.aload_n 0, 1) := by decide +kernel
theorem dX12_puts_1 : decode cX12_puts 1 = .ok (.getfield 134, 3) := by decide +kernel
theorem dX12_puts_4 : decode cX12_puts 4 = .ok (.ifCond .eq 4, 3) := by decide +kernel
theorem dX12_puts_7 : decode cX12_puts 7 = .ok (.return_, 1) := by decide +kernel
theorem dX12_puts_8 : decode cX12_puts 8 = .ok (.aload_n 0, 1) := by decide +kernel
theorem dX12_puts_9 : decode cX12_puts 9 = .ok (.getfield 30, 3) := by decide +kernel
theorem dX12_puts_12 : decode cX12_puts 12 = .ok (.aload_n 0, 1) := by decide +kernel
theorem dX12_puts_13 : decode cX12_puts 13 = .ok (.getfield 160, 3) := by decide +kernel
theorem dX12_puts_16 : decode cX12_puts 16 = .ok (.iload_n 1, 1) := by decide +kernel
theorem dX12_puts_17 : decode cX12_puts 17 = .ok (.iastore, 1) := by decide +kernel
theorem dX12_puts_18 : decode cX12_puts 18 = .ok (.aload_n 0, 1) := by decide +kernel
theorem dX12_puts_19 : decode cX12_puts 19 = .ok (.dup, 1) := by decide +kernel
theorem dX12_puts_20 : decode cX12_puts 20 = .ok (.getfield 160, 3) := by decide +kernel
theorem dX12_puts_23 : decode cX12_puts 23 = .ok (.iconst 1, 1) := by decide +kernel
theorem dX12_puts_24 : decode cX12_puts 24 = .ok (.iadd, 1) := by decide +kernel
theorem dX12_puts_25 : decode cX12_puts 25 = .ok (.putfield 160, 3) := by decide +kernel
theorem dX12_puts_28 : decode cX12_puts 28 = .ok (.return_, 1) := by decide +kernel
theorem dX12_known_0 : decode cX12_known 0 = .ok (.aload_n 0, 1) := by decide +kernel
theorem dX12_known_1 : decode cX12_known 1 = .ok (.ldc 163, 2) := by decide +kernel
theorem dX12_known_3 : decode cX12_known 3 = .ok (.invokevirtual 165, 3) := by decide +kernel
theorem dX12_known_6 : decode cX12_known 6 = .ok (.ifCond .eq 8, 3) := by decide +kernel
theorem dX12_known_9 : decode cX12_known 9 = .ok (.bipush 100, 2) := by decide +kernel
theorem dX12_known_11 : decode cX12_known 11 = .ok (.goto 116, 3) := by decide +kernel
theorem dX12_known_14 : decode cX12_known 14 = .ok (.aload_n 0, 1) := by decide +kernel
theorem dX12_known_15 : decode cX12_known 15 = .ok (.ldc 169, 2) := by decide +kernel
theorem dX12_known_17 : decode cX12_known 17 = .ok (.invokevirtual 165, 3) := by decide +kernel
theorem dX12_known_20 : decode cX12_known 20 = .ok (.ifCond .eq 8, 3) := by decide +kernel
theorem dX12_known_23 : decode cX12_known 23 = .ok (.bipush 101, 2) := by decide +kernel
theorem dX12_known_25 : decode cX12_known 25 = .ok (.goto 102, 3) := by decide +kernel
theorem dX12_known_28 : decode cX12_known 28 = .ok (.aload_n 0, 1) := by decide +kernel
theorem dX12_known_29 : decode cX12_known 29 = .ok (.ldc 171, 2) := by decide +kernel
theorem dX12_known_31 : decode cX12_known 31 = .ok (.invokevirtual 165, 3) := by decide +kernel
theorem dX12_known_34 : decode cX12_known 34 = .ok (.ifCond .eq 8, 3) := by decide +kernel
theorem dX12_known_37 : decode cX12_known 37 = .ok (.bipush 102, 2) := by decide +kernel
theorem dX12_known_39 : decode cX12_known 39 = .ok (.goto 88, 3) := by decide +kernel
theorem dX12_known_42 : decode cX12_known 42 = .ok (.aload_n 0, 1) := by decide +kernel
theorem dX12_known_43 : decode cX12_known 43 = .ok (.ldc 173, 2) := by decide +kernel
theorem dX12_known_45 : decode cX12_known 45 = .ok (.invokevirtual 165, 3) := by decide +kernel
theorem dX12_known_48 : decode cX12_known 48 = .ok (.ifCond .eq 8, 3) := by decide +kernel
theorem dX12_known_51 : decode cX12_known 51 = .ok (.bipush 103, 2) := by decide +kernel
theorem dX12_known_53 : decode cX12_known 53 = .ok (.goto 74, 3) := by decide +kernel
theorem dX12_known_56 : decode cX12_known 56 = .ok (.aload_n 0, 1) := by decide +kernel
theorem dX12_known_57 : decode cX12_known 57 = .ok (.ldc 175, 2) := by decide +kernel
theorem dX12_known_59 : decode cX12_known 59 = .ok (.invokevirtual 165, 3) := by decide +kernel
theorem dX12_known_62 : decode cX12_known 62 = .ok (.ifCond .eq 8, 3) := by decide +kernel
theorem dX12_known_65 : decode cX12_known 65 = .ok (.bipush 104, 2) := by decide +kernel
theorem dX12_known_67 : decode cX12_known 67 = .ok (.goto 60, 3) := by decide +kernel
theorem dX12_known_70 : decode cX12_known 70 = .ok (.aload_n 0, 1) := by decide +kernel
theorem dX12_known_71 : decode cX12_known 71 = .ok (.ldc 177, 2) := by decide +kernel
theorem dX12_known_73 : decode cX12_known 73 = .ok (.invokevirtual 165, 3) := by decide +kernel
theorem dX12_known_76 : decode cX12_known 76 = .ok (.ifCond .eq 8, 3) := by decide +kernel
theorem dX12_known_79 : decode cX12_known 79 = .ok (.bipush 105, 2) := by decide +kernel
theorem dX12_known_81 : decode cX12_known 81 = .ok (.goto 46, 3) := by decide +kernel
theorem dX12_known_84 : decode cX12_known 84 = .ok (.aload_n 0, 1) := by decide +kernel
theorem dX12_known_85 : decode cX12_known 85 = .ok (.ldc 179, 2) := by decide +kernel
theorem dX12_known_87 : decode cX12_known 87 = .ok (.invokevirtual 165, 3) := by decide +kernel
theorem dX12_known_90 : decode cX12_known 90 = .ok (.ifCond .eq 8, 3) := by decide +kernel
theorem dX12_known_93 : decode cX12_known 93 = .ok (.bipush 106, 2) := by decide +kernel
theorem dX12_known_95 : decode cX12_known 95 = .ok (.goto 32, 3) := by decide +kernel
theorem dX12_known_98 : decode cX12_known 98 = .ok (.aload_n 0, 1) := by decide +kernel
theorem dX12_known_99 : decode cX12_known 99 = .ok (.ldc 181, 2) := by decide +kernel
theorem dX12_known_101 : decode cX12_known 101 = .ok (.invokevirtual 165, 3) := by decide +kernel
theorem dX12_known_104 : decode cX12_known 104 = .ok (.ifCond .eq 8, 3) := by decide +kernel
theorem dX12_known_107 : decode cX12_known 107 = .ok (.bipush 107, 2) := by decide +kernel
theorem dX12_known_109 : decode cX12_known 109 = .ok (.goto 18, 3) := by decide +kernel
theorem dX12_known_112 : decode cX12_known 112 = .ok (.aload_n 0, 1) := by decide +kernel
theorem dX12_known_113 : decode cX12_known 113 = .ok (.ldc 183, 2) := by decide +kernel
theorem dX12_known_115 : decode cX12_known 115 = .ok (.invokevirtual 165, 3) := by decide +kernel
theorem dX12_known_118 : decode cX12_known 118 = .ok (.ifCond .eq 8, 3) := by decide +kernel
theorem dX12_known_121 : decode cX12_known 121 = .ok (.bipush 108, 2) := by decide +kernel
theorem dX12_known_123 : decode cX12_known 123 = .ok (.goto 4, 3) := by decide +kernel
theorem dX12_known_126 : decode cX12_known 126 = .ok (.iconst (-1), 1) := by decide +kernel
theorem dX12_known_127 : decode cX12_known 127 = .ok (.ireturn, 1) := by decide +kernel
theorem dX12_readTerm_0 : decode cX12_readTerm 0 = .ok (.aload_n 0, 1) := by decide +kernel
theorem dX12_readTerm_1 : decode cX12_readTerm 1 = .ok (.getfield 134, 3) := by decide +kernel
theorem dX12_readTerm_4 : decode cX12_readTerm 4 = .ok (.ifCond .eq 4, 3) := by decide +kernel
theorem dX12_readTerm_7 : decode cX12_readTerm 7 = .ok (.return_, 1) := by decide +kernel
theorem dX12_readTerm_8 : decode cX12_readTerm 8 = .ok (.aload_n 0, 1) := by decide +kernel
theorem dX12_readTerm_9 : decode cX12_readTerm 9 = .ok (.invokevirtual 185, 3) := by decide +kernel
theorem dX12_readTerm_12 : decode cX12_readTerm 12 = .ok (.istore_n 1, 1) := by decide +kernel
theorem dX12_readTerm_13 : decode cX12_readTerm 13 = .ok (.aload_n 0, 1) := by decide +kernel
theorem dX12_readTerm_14 : decode cX12_readTerm 14 = .ok (.getfield 116, 3) := by decide +kernel
theorem dX12_readTerm_17 : decode cX12_readTerm 17 = .ok (.iconst 2, 1) := by decide +kernel
theorem dX12_readTerm_18 : decode cX12_readTerm 18 = .ok (.if_icmp .ne 8, 3) := by decide +kernel
theorem dX12_readTerm_21 : decode cX12_readTerm 21 = .ok (.aload_n 0, 1) := by decide +kernel
theorem dX12_readTerm_22 : decode cX12_readTerm 22 = .ok (.getfield 128, 3) := by decide +kernel
theorem dX12_readTerm_25 : decode cX12_readTerm 25 = .ok (.istore_n 1, 1) := by decide +kernel
theorem dX12_readTerm_26 : decode cX12_readTerm 26 = .ok (.iload_n 1, 1) := by decide +kernel
theorem dX12_readTerm_27 : decode cX12_readTerm 27 = .ok (.iconst (-1), 1) := by decide +kernel
theorem dX12_readTerm_28 : decode cX12_readTerm 28 = .ok (.if_icmp .ne 9, 3) := by decide +kernel
theorem dX12_readTerm_31 : decode cX12_readTerm 31 = .ok (.aload_n 0, 1) := by decide +kernel
theorem dX12_readTerm_32 : decode cX12_readTerm 32 = .ok (.iconst 2, 1) := by decide +kernel
theorem dX12_readTerm_33 : decode cX12_readTerm 33 = .ok (.invokevirtual 150, 3) := by decide +kernel
theorem dX12_readTerm_36 : decode cX12_readTerm 36 = .ok (.return_, 1) := by decide +kernel
theorem dX12_readTerm_37 : decode cX12_readTerm 37 = .ok (.aload_n 0, 1) := by decide +kernel
theorem dX12_readTerm_38 : decode cX12_readTerm 38 = .ok (.iload_n 1, 1) := by decide +kernel
theorem dX12_readTerm_39 : decode cX12_readTerm 39 = .ok (.invokevirtual 188, 3) := by decide +kernel
theorem dX12_readTerm_42 : decode cX12_readTerm 42 = .ok (.aload_n 0, 1) := by decide +kernel
theorem dX12_readTerm_43 : decode cX12_readTerm 43 = .ok (.invokevirtual 154, 3) := by decide +kernel
theorem dX12_readTerm_46 : decode cX12_readTerm 46 = .ok (.return_, 1) := by decide +kernel
theorem dX12_readSum_0 : decode cX12_readSum 0 = .ok (.aload_n 0, 1) := by decide +kernel
theorem dX12_readSum_1 : decode cX12_readSum 1 = .ok (.invokevirtual 191, 3) := by decide +kernel
theorem dX12_readSum_4 : decode cX12_readSum 4 = .ok (.aload_n 0, 1) := by decide +kernel
theorem dX12_readSum_5 : decode cX12_readSum 5 = .ok (.getfield 134, 3) := by decide +kernel
theorem dX12_readSum_8 : decode cX12_readSum 8 = .ok (.ifCond .ne 54, 3) := by decide +kernel
theorem dX12_readSum_11 : decode cX12_readSum 11 = .ok (.aload_n 0, 1) := by decide +kernel
theorem dX12_readSum_12 : decode cX12_readSum 12 = .ok (.getfield 113, 3) := by decide +kernel
theorem dX12_readSum_15 : decode cX12_readSum 15 = .ok (.bipush 43, 2) := by decide +kernel
theorem dX12_readSum_17 : decode cX12_readSum 17 = .ok (.if_icmp .eq 12, 3) := by decide +kernel
theorem dX12_readSum_20 : decode cX12_readSum 20 = .ok (.aload_n 0, 1) := by decide +kernel
theorem dX12_readSum_21 : decode cX12_readSum 21 = .ok (.getfield 113, 3) := by decide +kernel
theorem dX12_readSum_24 : decode cX12_readSum 24 = .ok (.bipush 45, 2) := by decide +kernel
theorem dX12_readSum_26 : decode cX12_readSum 26 = .ok (.if_icmp .ne 36, 3) := by decide +kernel
theorem dX12_readSum_29 : decode cX12_readSum 29 = .ok (.aload_n 0, 1) := by decide +kernel
theorem dX12_readSum_30 : decode cX12_readSum 30 = .ok (.getfield 113, 3) := by decide +kernel
theorem dX12_readSum_33 : decode cX12_readSum 33 = .ok (.istore_n 1, 1) := by decide +kernel
theorem dX12_readSum_34 : decode cX12_readSum 34 = .ok (.aload_n 0, 1) := by decide +kernel
theorem dX12_readSum_35 : decode cX12_readSum 35 = .ok (.invokevirtual 154, 3) := by decide +kernel
theorem dX12_readSum_38 : decode cX12_readSum 38 = .ok (.aload_n 0, 1) := by decide +kernel
theorem dX12_readSum_39 : decode cX12_readSum 39 = .ok (.invokevirtual 191, 3) := by decide +kernel
theorem dX12_readSum_42 : decode cX12_readSum 42 = .ok (.aload_n 0, 1) := by decide +kernel
theorem dX12_readSum_43 : decode cX12_readSum 43 = .ok (.iload_n 1, 1) := by decide +kernel
theorem dX12_readSum_44 : decode cX12_readSum 44 = .ok (.bipush 43, 2) := by decide +kernel
theorem dX12_readSum_46 : decode cX12_readSum 46 = .ok (.if_icmp .ne 8, 3) := by decide +kernel
theorem dX12_readSum_49 : decode cX12_readSum 49 = .ok (.bipush 110, 2) := by decide +kernel
theorem dX12_readSum_51 : decode cX12_readSum 51 = .ok (.goto 5, 3) := by decide +kernel
theorem dX12_readSum_54 : decode cX12_readSum 54 = .ok (.bipush 111, 2) := by decide +kernel
theorem dX12_readSum_56 : decode cX12_readSum 56 = .ok (.invokevirtual 188, 3) := by decide +kernel
theorem dX12_readSum_59 : decode cX12_readSum 59 = .ok (.goto (-55), 3) := by decide +kernel
theorem dX12_readSum_62 : decode cX12_readSum 62 = .ok (.return_, 1) := by decide +kernel
theorem dX12_readClause_0 : decode cX12_readClause 0 = .ok (.aload_n 0, 1) := by decide +kernel
theorem dX12_readClause_1 : decode cX12_readClause 1 = .ok (.getfield 134, 3) := by decide +kernel
theorem dX12_readClause_4 : decode cX12_readClause 4 = .ok (.ifCond .eq 4, 3) := by decide +kernel
theorem dX12_readClause_7 : decode cX12_readClause 7 = .ok (.return_, 1) := by decide +kernel
theorem dX12_readClause_8 : decode cX12_readClause 8 = .ok (.aload_n 0, 1) := by decide +kernel
theorem dX12_readClause_9 : decode cX12_readClause 9 = .ok (.ldc 194, 2) := by decide +kernel
theorem dX12_readClause_11 : decode cX12_readClause 11 = .ok (.invokevirtual 165, 3) := by decide +kernel
theorem dX12_readClause_14 : decode cX12_readClause 14 = .ok (.ifCond .eq 52, 3) := by decide +kernel
theorem dX12_readClause_17 : decode cX12_readClause 17 = .ok (.aload_n 0, 1) := by decide +kernel
theorem dX12_readClause_18 : decode cX12_readClause 18 = .ok (.getfield 196, 3) := by decide +kernel
theorem dX12_readClause_21 : decode cX12_readClause 21 = .ok (.iconst 4, 1) := by decide +kernel
theorem dX12_readClause_22 : decode cX12_readClause 22 = .ok (.if_icmp .ne 9, 3) := by decide +kernel
theorem dX12_readClause_25 : decode cX12_readClause 25 = .ok (.aload_n 0, 1) := by decide +kernel
theorem dX12_readClause_26 : decode cX12_readClause 26 = .ok (.iconst 4, 1) := by decide +kernel
theorem dX12_readClause_27 : decode cX12_readClause 27 = .ok (.invokevirtual 150, 3) := by decide +kernel
theorem dX12_readClause_30 : decode cX12_readClause 30 = .ok (.return_, 1) := by decide +kernel
theorem dX12_readClause_31 : decode cX12_readClause 31 = .ok (.aload_n 0, 1) := by decide +kernel
theorem dX12_readClause_32 : decode cX12_readClause 32 = .ok (.dup, 1) := by decide +kernel
theorem dX12_readClause_33 : decode cX12_readClause 33 = .ok (.getfield 196, 3) := by decide +kernel
theorem dX12_readClause_36 : decode cX12_readClause 36 = .ok (.iconst 1, 1) := by decide +kernel
theorem dX12_readClause_37 : decode cX12_readClause 37 = .ok (.iadd, 1) := by decide +kernel
theorem dX12_readClause_38 : decode cX12_readClause 38 = .ok (.putfield 196, 3) := by decide +kernel
theorem dX12_readClause_41 : decode cX12_readClause 41 = .ok (.aload_n 0, 1) := by decide +kernel
theorem dX12_readClause_42 : decode cX12_readClause 42 = .ok (.invokevirtual 154, 3) := by decide +kernel
theorem dX12_readClause_45 : decode cX12_readClause 45 = .ok (.aload_n 0, 1) := by decide +kernel
theorem dX12_readClause_46 : decode cX12_readClause 46 = .ok (.invokevirtual 199, 3) := by decide +kernel
theorem dX12_readClause_49 : decode cX12_readClause 49 = .ok (.aload_n 0, 1) := by decide +kernel
theorem dX12_readClause_50 : decode cX12_readClause 50 = .ok (.dup, 1) := by decide +kernel
theorem dX12_readClause_51 : decode cX12_readClause 51 = .ok (.getfield 196, 3) := by decide +kernel
theorem dX12_readClause_54 : decode cX12_readClause 54 = .ok (.iconst 1, 1) := by decide +kernel
theorem dX12_readClause_55 : decode cX12_readClause 55 = .ok (.isub, 1) := by decide +kernel
theorem dX12_readClause_56 : decode cX12_readClause 56 = .ok (.putfield 196, 3) := by decide +kernel
theorem dX12_readClause_59 : decode cX12_readClause 59 = .ok (.aload_n 0, 1) := by decide +kernel
theorem dX12_readClause_60 : decode cX12_readClause 60 = .ok (.bipush 115, 2) := by decide +kernel
theorem dX12_readClause_62 : decode cX12_readClause 62 = .ok (.invokevirtual 188, 3) := by decide +kernel
theorem dX12_readClause_65 : decode cX12_readClause 65 = .ok (.return_, 1) := by decide +kernel
theorem dX12_readClause_66 : decode cX12_readClause 66 = .ok (.aload_n 0, 1) := by decide +kernel
theorem dX12_readClause_67 : decode cX12_readClause 67 = .ok (.invokevirtual 202, 3) := by decide +kernel
theorem dX12_readClause_70 : decode cX12_readClause 70 = .ok (.aload_n 0, 1) := by decide +kernel
theorem dX12_readClause_71 : decode cX12_readClause 71 = .ok (.getfield 113, 3) := by decide +kernel
theorem dX12_readClause_74 : decode cX12_readClause 74 = .ok (.istore_n 1, 1) := by decide +kernel
theorem dX12_readClause_75 : decode cX12_readClause 75 = .ok (.aload_n 0, 1) := by decide +kernel
theorem dX12_readClause_76 : decode cX12_readClause 76 = .ok (.getfield 134, 3) := by decide +kernel
theorem dX12_readClause_79 : decode cX12_readClause 79 = .ok (.ifCond .ne 26, 3) := by decide +kernel
theorem dX12_readClause_82 : decode cX12_readClause 82 = .ok (.iload_n 1, 1) := by decide +kernel
theorem dX12_readClause_83 : decode cX12_readClause 83 = .ok (.bipush 60, 2) := by decide +kernel
theorem dX12_readClause_85 : decode cX12_readClause 85 = .ok (.if_icmp .eq 20, 3) := by decide +kernel
theorem dX12_readClause_88 : decode cX12_readClause 88 = .ok (.iload_n 1, 1) := by decide +kernel
theorem dX12_readClause_89 : decode cX12_readClause 89 = .ok (.bipush 61, 2) := by decide +kernel
theorem dX12_readClause_91 : decode cX12_readClause 91 = .ok (.if_icmp .eq 14, 3) := by decide +kernel
theorem dX12_readClause_94 : decode cX12_readClause 94 = .ok (.iload_n 1, 1) := by decide +kernel
theorem dX12_readClause_95 : decode cX12_readClause 95 = .ok (.bipush 62, 2) := by decide +kernel
theorem dX12_readClause_97 : decode cX12_readClause 97 = .ok (.if_icmp .eq 8, 3) := by decide +kernel
theorem dX12_readClause_100 : decode cX12_readClause 100 = .ok (.aload_n 0, 1) := by decide +kernel
theorem dX12_readClause_101 : decode cX12_readClause 101 = .ok (.iconst 2, 1) := by decide +kernel
theorem dX12_readClause_102 : decode cX12_readClause 102 = .ok (.invokevirtual 150, 3) := by decide +kernel
theorem dX12_readClause_105 : decode cX12_readClause 105 = .ok (.aload_n 0, 1) := by decide +kernel
theorem dX12_readClause_106 : decode cX12_readClause 106 = .ok (.getfield 134, 3) := by decide +kernel
theorem dX12_readClause_109 : decode cX12_readClause 109 = .ok (.ifCond .eq 4, 3) := by decide +kernel
theorem dX12_readClause_112 : decode cX12_readClause 112 = .ok (.return_, 1) := by decide +kernel
theorem dX12_readClause_113 : decode cX12_readClause 113 = .ok (.aload_n 0, 1) := by decide +kernel
theorem dX12_readClause_114 : decode cX12_readClause 114 = .ok (.invokevirtual 154, 3) := by decide +kernel
theorem dX12_readClause_117 : decode cX12_readClause 117 = .ok (.aload_n 0, 1) := by decide +kernel
theorem dX12_readClause_118 : decode cX12_readClause 118 = .ok (.invokevirtual 202, 3) := by decide +kernel
theorem dX12_readClause_121 : decode cX12_readClause 121 = .ok (.aload_n 0, 1) := by decide +kernel
theorem dX12_readClause_122 : decode cX12_readClause 122 = .ok (.iload_n 1, 1) := by decide +kernel
theorem dX12_readClause_123 : decode cX12_readClause 123 = .ok (.bipush 60, 2) := by decide +kernel
theorem dX12_readClause_125 : decode cX12_readClause 125 = .ok (.if_icmp .ne 8, 3) := by decide +kernel
theorem dX12_readClause_128 : decode cX12_readClause 128 = .ok (.bipush 112, 2) := by decide +kernel
theorem dX12_readClause_130 : decode cX12_readClause 130 = .ok (.goto 16, 3) := by decide +kernel
theorem dX12_readClause_133 : decode cX12_readClause 133 = .ok (.iload_n 1, 1) := by decide +kernel
theorem dX12_readClause_134 : decode cX12_readClause 134 = .ok (.bipush 61, 2) := by decide +kernel
theorem dX12_readClause_136 : decode cX12_readClause 136 = .ok (.if_icmp .ne 8, 3) := by decide +kernel
theorem dX12_readClause_139 : decode cX12_readClause 139 = .ok (.bipush 113, 2) := by decide +kernel
theorem dX12_readClause_141 : decode cX12_readClause 141 = .ok (.goto 5, 3) := by decide +kernel
theorem dX12_readClause_144 : decode cX12_readClause 144 = .ok (.bipush 114, 2) := by decide +kernel
theorem dX12_readClause_146 : decode cX12_readClause 146 = .ok (.invokevirtual 188, 3) := by decide +kernel
theorem dX12_readClause_149 : decode cX12_readClause 149 = .ok (.return_, 1) := by decide +kernel
theorem dX12_readAll_0 : decode cX12_readAll 0 = .ok (.aload_n 0, 1) := by decide +kernel
theorem dX12_readAll_1 : decode cX12_readAll 1 = .ok (.invokevirtual 199, 3) := by decide +kernel
theorem dX12_readAll_4 : decode cX12_readAll 4 = .ok (.aload_n 0, 1) := by decide +kernel
theorem dX12_readAll_5 : decode cX12_readAll 5 = .ok (.ldc 205, 2) := by decide +kernel
theorem dX12_readAll_7 : decode cX12_readAll 7 = .ok (.invokevirtual 165, 3) := by decide +kernel
theorem dX12_readAll_10 : decode cX12_readAll 10 = .ok (.ifCond .eq 20, 3) := by decide +kernel
theorem dX12_readAll_13 : decode cX12_readAll 13 = .ok (.aload_n 0, 1) := by decide +kernel
theorem dX12_readAll_14 : decode cX12_readAll 14 = .ok (.invokevirtual 154, 3) := by decide +kernel
theorem dX12_readAll_17 : decode cX12_readAll 17 = .ok (.aload_n 0, 1) := by decide +kernel
theorem dX12_readAll_18 : decode cX12_readAll 18 = .ok (.invokevirtual 199, 3) := by decide +kernel
theorem dX12_readAll_21 : decode cX12_readAll 21 = .ok (.aload_n 0, 1) := by decide +kernel
theorem dX12_readAll_22 : decode cX12_readAll 22 = .ok (.bipush 116, 2) := by decide +kernel
theorem dX12_readAll_24 : decode cX12_readAll 24 = .ok (.invokevirtual 188, 3) := by decide +kernel
theorem dX12_readAll_27 : decode cX12_readAll 27 = .ok (.goto (-23), 3) := by decide +kernel
theorem dX12_readAll_30 : decode cX12_readAll 30 = .ok (.return_, 1) := by decide +kernel
theorem dX12_readSome_0 : decode cX12_readSome 0 = .ok (.aload_n 0, 1) := by decide +kernel
theorem dX12_readSome_1 : decode cX12_readSome 1 = .ok (.invokevirtual 207, 3) := by decide +kernel
theorem dX12_readSome_4 : decode cX12_readSome 4 = .ok (.aload_n 0, 1) := by decide +kernel
theorem dX12_readSome_5 : decode cX12_readSome 5 = .ok (.ldc 210, 2) := by decide +kernel
theorem dX12_readSome_7 : decode cX12_readSome 7 = .ok (.invokevirtual 165, 3) := by decide +kernel
theorem dX12_readSome_10 : decode cX12_readSome 10 = .ok (.ifCond .eq 20, 3) := by decide +kernel
theorem dX12_readSome_13 : decode cX12_readSome 13 = .ok (.aload_n 0, 1) := by decide +kernel
theorem dX12_readSome_14 : decode cX12_readSome 14 = .ok (.invokevirtual 154, 3) := by decide +kernel
theorem dX12_readSome_17 : decode cX12_readSome 17 = .ok (.aload_n 0, 1) := by decide +kernel
theorem dX12_readSome_18 : decode cX12_readSome 18 = .ok (.invokevirtual 207, 3) := by decide +kernel
theorem dX12_readSome_21 : decode cX12_readSome 21 = .ok (.aload_n 0, 1) := by decide +kernel
theorem dX12_readSome_22 : decode cX12_readSome 22 = .ok (.bipush 117, 2) := by decide +kernel
theorem dX12_readSome_24 : decode cX12_readSome 24 = .ok (.invokevirtual 188, 3) := by decide +kernel
theorem dX12_readSome_27 : decode cX12_readSome 27 = .ok (.goto (-23), 3) := by decide +kernel
theorem dX12_readSome_30 : decode cX12_readSome 30 = .ok (.return_, 1) := by decide +kernel
theorem dX12_doing_0 : decode cX12_doing 0 = .ok (.aload_n 0, 1) := by decide +kernel
theorem dX12_doing_1 : decode cX12_doing 1 = .ok (.ldc 212, 2) := by decide +kernel
theorem dX12_doing_3 : decode cX12_doing 3 = .ok (.invokevirtual 165, 3) := by decide +kernel
theorem dX12_doing_6 : decode cX12_doing 6 = .ok (.ifCond .eq 7, 3) := by decide +kernel
theorem dX12_doing_9 : decode cX12_doing 9 = .ok (.iconst 0, 1) := by decide +kernel
theorem dX12_doing_10 : decode cX12_doing 10 = .ok (.goto 69, 3) := by decide +kernel
theorem dX12_doing_13 : decode cX12_doing 13 = .ok (.aload_n 0, 1) := by decide +kernel
theorem dX12_doing_14 : decode cX12_doing 14 = .ok (.ldc 214, 2) := by decide +kernel
theorem dX12_doing_16 : decode cX12_doing 16 = .ok (.invokevirtual 165, 3) := by decide +kernel
theorem dX12_doing_19 : decode cX12_doing 19 = .ok (.ifCond .eq 7, 3) := by decide +kernel
theorem dX12_doing_22 : decode cX12_doing 22 = .ok (.iconst 1, 1) := by decide +kernel
theorem dX12_doing_23 : decode cX12_doing 23 = .ok (.goto 56, 3) := by decide +kernel
theorem dX12_doing_26 : decode cX12_doing 26 = .ok (.aload_n 0, 1) := by decide +kernel
theorem dX12_doing_27 : decode cX12_doing 27 = .ok (.ldc 216, 2) := by decide +kernel
theorem dX12_doing_29 : decode cX12_doing 29 = .ok (.invokevirtual 165, 3) := by decide +kernel
theorem dX12_doing_32 : decode cX12_doing 32 = .ok (.ifCond .eq 7, 3) := by decide +kernel
theorem dX12_doing_35 : decode cX12_doing 35 = .ok (.iconst 2, 1) := by decide +kernel
theorem dX12_doing_36 : decode cX12_doing 36 = .ok (.goto 43, 3) := by decide +kernel
theorem dX12_doing_39 : decode cX12_doing 39 = .ok (.aload_n 0, 1) := by decide +kernel
theorem dX12_doing_40 : decode cX12_doing 40 = .ok (.ldc 218, 2) := by decide +kernel
theorem dX12_doing_42 : decode cX12_doing 42 = .ok (.invokevirtual 165, 3) := by decide +kernel
theorem dX12_doing_45 : decode cX12_doing 45 = .ok (.ifCond .eq 7, 3) := by decide +kernel
theorem dX12_doing_48 : decode cX12_doing 48 = .ok (.iconst 3, 1) := by decide +kernel
theorem dX12_doing_49 : decode cX12_doing 49 = .ok (.goto 30, 3) := by decide +kernel
theorem dX12_doing_52 : decode cX12_doing 52 = .ok (.aload_n 0, 1) := by decide +kernel
theorem dX12_doing_53 : decode cX12_doing 53 = .ok (.ldc 220, 2) := by decide +kernel
theorem dX12_doing_55 : decode cX12_doing 55 = .ok (.invokevirtual 165, 3) := by decide +kernel
theorem dX12_doing_58 : decode cX12_doing 58 = .ok (.ifCond .eq 7, 3) := by decide +kernel
theorem dX12_doing_61 : decode cX12_doing 61 = .ok (.iconst 4, 1) := by decide +kernel
theorem dX12_doing_62 : decode cX12_doing 62 = .ok (.goto 17, 3) := by decide +kernel
theorem dX12_doing_65 : decode cX12_doing 65 = .ok (.aload_n 0, 1) := by decide +kernel
theorem dX12_doing_66 : decode cX12_doing 66 = .ok (.ldc 222, 2) := by decide +kernel
theorem dX12_doing_68 : decode cX12_doing 68 = .ok (.invokevirtual 165, 3) := by decide +kernel
theorem dX12_doing_71 : decode cX12_doing 71 = .ok (.ifCond .eq 7, 3) := by decide +kernel
theorem dX12_doing_74 : decode cX12_doing 74 = .ok (.iconst 5, 1) := by decide +kernel
theorem dX12_doing_75 : decode cX12_doing 75 = .ok (.goto 4, 3) := by decide +kernel
theorem dX12_doing_78 : decode cX12_doing 78 = .ok (.iconst (-1), 1) := by decide +kernel
theorem dX12_doing_79 : decode cX12_doing 79 = .ok (.ireturn, 1) := by decide +kernel
theorem dX12_readRule_0 : decode cX12_readRule 0 = .ok (.aload_n 0, 1) := by decide +kernel
theorem dX12_readRule_1 : decode cX12_readRule 1 = .ok (.invokevirtual 224, 3) := by decide +kernel
theorem dX12_readRule_4 : decode cX12_readRule 4 = .ok (.istore_n 1, 1) := by decide +kernel
theorem dX12_readRule_5 : decode cX12_readRule 5 = .ok (.iload_n 1, 1) := by decide +kernel
theorem dX12_readRule_6 : decode cX12_readRule 6 = .ok (.iconst (-1), 1) := by decide +kernel
theorem dX12_readRule_7 : decode cX12_readRule 7 = .ok (.if_icmp .eq 14, 3) := by decide +kernel
theorem dX12_readRule_10 : decode cX12_readRule 10 = .ok (.aload_n 0, 1) := by decide +kernel
theorem dX12_readRule_11 : decode cX12_readRule 11 = .ok (.getfield 30, 3) := by decide +kernel
theorem dX12_readRule_14 : decode cX12_readRule 14 = .ok (.iconst 0, 1) := by decide +kernel
theorem dX12_readRule_15 : decode cX12_readRule 15 = .ok (.iaload, 1) := by decide +kernel
theorem dX12_readRule_16 : decode cX12_readRule 16 = .ok (.bipush 12, 2) := by decide +kernel
theorem dX12_readRule_18 : decode cX12_readRule 18 = .ok (.if_icmp .ne 18, 3) := by decide +kernel
theorem dX12_readRule_21 : decode cX12_readRule 21 = .ok (.aload_n 0, 1) := by decide +kernel
theorem dX12_readRule_22 : decode cX12_readRule 22 = .ok (.iload_n 1, 1) := by decide +kernel
theorem dX12_readRule_23 : decode cX12_readRule 23 = .ok (.iconst (-1), 1) := by decide +kernel
theorem dX12_readRule_24 : decode cX12_readRule 24 = .ok (.if_icmp .ne 7, 3) := by decide +kernel
theorem dX12_readRule_27 : decode cX12_readRule 27 = .ok (.iconst 2, 1) := by decide +kernel
theorem dX12_readRule_28 : decode cX12_readRule 28 = .ok (.goto 4, 3) := by decide +kernel
theorem dX12_readRule_31 : decode cX12_readRule 31 = .ok (.iconst 4, 1) := by decide +kernel
theorem dX12_readRule_32 : decode cX12_readRule 32 = .ok (.invokevirtual 150, 3) := by decide +kernel
theorem dX12_readRule_35 : decode cX12_readRule 35 = .ok (.return_, 1) := by decide +kernel
theorem dX12_readRule_36 : decode cX12_readRule 36 = .ok (.aload_n 0, 1) := by decide +kernel
theorem dX12_readRule_37 : decode cX12_readRule 37 = .ok (.invokevirtual 154, 3) := by decide +kernel
theorem dX12_readRule_40 : decode cX12_readRule 40 = .ok (.iload_n 1, 1) := by decide +kernel
theorem dX12_readRule_41 : decode cX12_readRule 41 = .ok (.iconst 4, 1) := by decide +kernel
theorem dX12_readRule_42 : decode cX12_readRule 42 = .ok (.if_icmp .ge 13, 3) := by decide +kernel
theorem dX12_readRule_45 : decode cX12_readRule 45 = .ok (.aload_n 0, 1) := by decide +kernel
theorem dX12_readRule_46 : decode cX12_readRule 46 = .ok (.iconst 0, 1) := by decide +kernel
theorem dX12_readRule_47 : decode cX12_readRule 47 = .ok (.bipush 99, 2) := by decide +kernel
theorem dX12_readRule_49 : decode cX12_readRule 49 = .ok (.invokevirtual 227, 3) := by decide +kernel
theorem dX12_readRule_52 : decode cX12_readRule 52 = .ok (.goto 4, 3) := by decide +kernel
theorem dX12_readRule_55 : decode cX12_readRule 55 = .ok (.iconst 0, 1) := by decide +kernel
theorem dX12_readRule_56 : decode cX12_readRule 56 = .ok (.istore_n 2, 1) := by decide +kernel
theorem dX12_readRule_57 : decode cX12_readRule 57 = .ok (.aload_n 0, 1) := by decide +kernel
theorem dX12_readRule_58 : decode cX12_readRule 58 = .ok (.iload_n 1, 1) := by decide +kernel
theorem dX12_readRule_59 : decode cX12_readRule 59 = .ok (.invokevirtual 188, 3) := by decide +kernel
theorem dX12_readRule_62 : decode cX12_readRule 62 = .ok (.aload_n 0, 1) := by decide +kernel
theorem dX12_readRule_63 : decode cX12_readRule 63 = .ok (.iload_n 2, 1) := by decide +kernel
theorem dX12_readRule_64 : decode cX12_readRule 64 = .ok (.invokevirtual 188, 3) := by decide +kernel
theorem dX12_readRule_67 : decode cX12_readRule 67 = .ok (.aload_n 0, 1) := by decide +kernel
theorem dX12_readRule_68 : decode cX12_readRule 68 = .ok (.getfield 160, 3) := by decide +kernel
theorem dX12_readRule_71 : decode cX12_readRule 71 = .ok (.istore_n 3, 1) := by decide +kernel
theorem dX12_readRule_72 : decode cX12_readRule 72 = .ok (.aload_n 0, 1) := by decide +kernel
theorem dX12_readRule_73 : decode cX12_readRule 73 = .ok (.iconst 0, 1) := by decide +kernel
theorem dX12_readRule_74 : decode cX12_readRule 74 = .ok (.invokevirtual 188, 3) := by decide +kernel
theorem dX12_readRule_77 : decode cX12_readRule 77 = .ok (.aload_n 0, 1) := by decide +kernel
theorem dX12_readRule_78 : decode cX12_readRule 78 = .ok (.ldc 231, 2) := by decide +kernel
theorem dX12_readRule_80 : decode cX12_readRule 80 = .ok (.invokevirtual 165, 3) := by decide +kernel
theorem dX12_readRule_83 : decode cX12_readRule 83 = .ok (.ifCond .eq 16, 3) := by decide +kernel
theorem dX12_readRule_86 : decode cX12_readRule 86 = .ok (.aload_n 0, 1) := by decide +kernel
theorem dX12_readRule_87 : decode cX12_readRule 87 = .ok (.invokevirtual 154, 3) := by decide +kernel
theorem dX12_readRule_90 : decode cX12_readRule 90 = .ok (.aload_n 0, 1) := by decide +kernel
theorem dX12_readRule_91 : decode cX12_readRule 91 = .ok (.iconst 0, 1) := by decide +kernel
theorem dX12_readRule_92 : decode cX12_readRule 92 = .ok (.putfield 196, 3) := by decide +kernel
theorem dX12_readRule_95 : decode cX12_readRule 95 = .ok (.aload_n 0, 1) := by decide +kernel
theorem dX12_readRule_96 : decode cX12_readRule 96 = .ok (.invokevirtual 233, 3) := by decide +kernel
theorem dX12_readRule_99 : decode cX12_readRule 99 = .ok (.aload_n 0, 1) := by decide +kernel
theorem dX12_readRule_100 : decode cX12_readRule 100 = .ok (.getfield 30, 3) := by decide +kernel
theorem dX12_readRule_103 : decode cX12_readRule 103 = .ok (.iload_n 3, 1) := by decide +kernel
theorem dX12_readRule_104 : decode cX12_readRule 104 = .ok (.aload_n 0, 1) := by decide +kernel
theorem dX12_readRule_105 : decode cX12_readRule 105 = .ok (.getfield 160, 3) := by decide +kernel
theorem dX12_readRule_108 : decode cX12_readRule 108 = .ok (.iload_n 3, 1) := by decide +kernel
theorem dX12_readRule_109 : decode cX12_readRule 109 = .ok (.isub, 1) := by decide +kernel
theorem dX12_readRule_110 : decode cX12_readRule 110 = .ok (.iconst 1, 1) := by decide +kernel
theorem dX12_readRule_111 : decode cX12_readRule 111 = .ok (.isub, 1) := by decide +kernel
theorem dX12_readRule_112 : decode cX12_readRule 112 = .ok (.iastore, 1) := by decide +kernel
theorem dX12_readRule_113 : decode cX12_readRule 113 = .ok (.aload_n 0, 1) := by decide +kernel
theorem dX12_readRule_114 : decode cX12_readRule 114 = .ok (.invokevirtual 236, 3) := by decide +kernel
theorem dX12_readRule_117 : decode cX12_readRule 117 = .ok (.aload_n 0, 1) := by decide +kernel
theorem dX12_readRule_118 : decode cX12_readRule 118 = .ok (.getfield 30, 3) := by decide +kernel
theorem dX12_readRule_121 : decode cX12_readRule 121 = .ok (.iconst 0, 1) := by decide +kernel
theorem dX12_readRule_122 : decode cX12_readRule 122 = .ok (.dup2, 1) := by decide +kernel
theorem dX12_readRule_123 : decode cX12_readRule 123 = .ok (.iaload, 1) := by decide +kernel
theorem dX12_readRule_124 : decode cX12_readRule 124 = .ok (.iconst 1, 1) := by decide +kernel
theorem dX12_readRule_125 : decode cX12_readRule 125 = .ok (.iadd, 1) := by decide +kernel
theorem dX12_readRule_126 : decode cX12_readRule 126 = .ok (.iastore, 1) := by decide +kernel
theorem dX12_readRule_127 : decode cX12_readRule 127 = .ok (.return_, 1) := by decide +kernel
theorem dX12_rules_0 : decode cX12_rules 0 = .ok (.aload_n 0, 1) := by decide +kernel
theorem dX12_rules_1 : decode cX12_rules 1 = .ok (.iconst 0, 1) := by decide +kernel
theorem dX12_rules_2 : decode cX12_rules 2 = .ok (.putfield 76, 3) := by decide +kernel
theorem dX12_rules_5 : decode cX12_rules 5 = .ok (.aload_n 0, 1) := by decide +kernel
theorem dX12_rules_6 : decode cX12_rules 6 = .ok (.iload_n 1, 1) := by decide +kernel
theorem dX12_rules_7 : decode cX12_rules 7 = .ok (.invokevirtual 91, 3) := by decide +kernel
theorem dX12_rules_10 : decode cX12_rules 10 = .ok (.ifCond .ne 9, 3) := by decide +kernel
theorem dX12_rules_13 : decode cX12_rules 13 = .ok (.aload_n 0, 1) := by decide +kernel
theorem dX12_rules_14 : decode cX12_rules 14 = .ok (.iconst 1, 1) := by decide +kernel
theorem dX12_rules_15 : decode cX12_rules 15 = .ok (.invokevirtual 83, 3) := by decide +kernel
theorem dX12_rules_18 : decode cX12_rules 18 = .ok (.ireturn, 1) := by decide +kernel
theorem dX12_rules_19 : decode cX12_rules 19 = .ok (.iload_n 2, 1) := by decide +kernel
theorem dX12_rules_20 : decode cX12_rules 20 = .ok (.i2l, 1) := by decide +kernel
theorem dX12_rules_21 : decode cX12_rules 21 = .ok (.lconst 0, 1) := by decide +kernel
theorem dX12_rules_22 : decode cX12_rules 22 = .ok (.aload_n 0, 1) := by decide +kernel
theorem dX12_rules_23 : decode cX12_rules 23 = .ok (.getfield 101, 3) := by decide +kernel
theorem dX12_rules_26 : decode cX12_rules 26 = .ok (.i2l, 1) := by decide +kernel
theorem dX12_rules_27 : decode cX12_rules 27 = .ok (.invokestatic 79, 3) := by decide +kernel
theorem dX12_rules_30 : decode cX12_rules 30 = .ok (.ifCond .ne 9, 3) := by decide +kernel
theorem dX12_rules_33 : decode cX12_rules 33 = .ok (.aload_n 0, 1) := by decide +kernel
theorem dX12_rules_34 : decode cX12_rules 34 = .ok (.iconst 2, 1) := by decide +kernel
theorem dX12_rules_35 : decode cX12_rules 35 = .ok (.invokevirtual 83, 3) := by decide +kernel
theorem dX12_rules_38 : decode cX12_rules 38 = .ok (.ireturn, 1) := by decide +kernel
theorem dX12_rules_39 : decode cX12_rules 39 = .ok (.aload_n 0, 1) := by decide +kernel
theorem dX12_rules_40 : decode cX12_rules 40 = .ok (.iload_n 2, 1) := by decide +kernel
theorem dX12_rules_41 : decode cX12_rules 41 = .ok (.invokevirtual 239, 3) := by decide +kernel
theorem dX12_rules_44 : decode cX12_rules 44 = .ok (.aload_n 0, 1) := by decide +kernel
theorem dX12_rules_45 : decode cX12_rules 45 = .ok (.getfield 30, 3) := by decide +kernel
theorem dX12_rules_48 : decode cX12_rules 48 = .ok (.iconst 0, 1) := by decide +kernel
theorem dX12_rules_49 : decode cX12_rules 49 = .ok (.iconst 0, 1) := by decide +kernel
theorem dX12_rules_50 : decode cX12_rules 50 = .ok (.iastore, 1) := by decide +kernel
theorem dX12_rules_51 : decode cX12_rules 51 = .ok (.aload_n 0, 1) := by decide +kernel
theorem dX12_rules_52 : decode cX12_rules 52 = .ok (.iconst 1, 1) := by decide +kernel
theorem dX12_rules_53 : decode cX12_rules 53 = .ok (.putfield 160, 3) := by decide +kernel
theorem dX12_rules_56 : decode cX12_rules 56 = .ok (.aload_n 0, 1) := by decide +kernel
theorem dX12_rules_57 : decode cX12_rules 57 = .ok (.getfield 134, 3) := by decide +kernel
theorem dX12_rules_60 : decode cX12_rules 60 = .ok (.ifCond .ne 17, 3) := by decide +kernel
theorem dX12_rules_63 : decode cX12_rules 63 = .ok (.aload_n 0, 1) := by decide +kernel
theorem dX12_rules_64 : decode cX12_rules 64 = .ok (.getfield 116, 3) := by decide +kernel
theorem dX12_rules_67 : decode cX12_rules 67 = .ok (.ifCond .eq 10, 3) := by decide +kernel
theorem dX12_rules_70 : decode cX12_rules 70 = .ok (.aload_n 0, 1) := by decide +kernel
theorem dX12_rules_71 : decode cX12_rules 71 = .ok (.invokevirtual 242, 3) := by decide +kernel
theorem dX12_rules_74 : decode cX12_rules 74 = .ok (.goto (-18), 3) := by decide +kernel
theorem dX12_rules_77 : decode cX12_rules 77 = .ok (.aload_n 0, 1) := by decide +kernel
theorem dX12_rules_78 : decode cX12_rules 78 = .ok (.getfield 134, 3) := by decide +kernel
theorem dX12_rules_81 : decode cX12_rules 81 = .ok (.ifCond .ne 40, 3) := by decide +kernel
theorem dX12_rules_84 : decode cX12_rules 84 = .ok (.iconst 0, 1) := by decide +kernel
theorem dX12_rules_85 : decode cX12_rules 85 = .ok (.istore_n 3, 1) := by decide +kernel
theorem dX12_rules_86 : decode cX12_rules 86 = .ok (.iload_n 3, 1) := by decide +kernel
theorem dX12_rules_87 : decode cX12_rules 87 = .ok (.aload_n 0, 1) := by decide +kernel
theorem dX12_rules_88 : decode cX12_rules 88 = .ok (.getfield 160, 3) := by decide +kernel
theorem dX12_rules_91 : decode cX12_rules 91 = .ok (.if_icmp .ge 30, 3) := by decide +kernel
theorem dX12_rules_94 : decode cX12_rules 94 = .ok (.aload_n 0, 1) := by decide +kernel
theorem dX12_rules_95 : decode cX12_rules 95 = .ok (.getfield 9, 3) := by decide +kernel
theorem dX12_rules_98 : decode cX12_rules 98 = .ok (.bipush 125, 2) := by decide +kernel
theorem dX12_rules_100 : decode cX12_rules 100 = .ok (.sipush 440, 3) := by decide +kernel
theorem dX12_rules_103 : decode cX12_rules 103 = .ok (.iload_n 1, 1) := by decide +kernel
theorem dX12_rules_104 : decode cX12_rules 104 = .ok (.imul, 1) := by decide +kernel
theorem dX12_rules_105 : decode cX12_rules 105 = .ok (.iadd, 1) := by decide +kernel
theorem dX12_rules_106 : decode cX12_rules 106 = .ok (.iload_n 3, 1) := by decide +kernel
theorem dX12_rules_107 : decode cX12_rules 107 = .ok (.iadd, 1) := by decide +kernel
theorem dX12_rules_108 : decode cX12_rules 108 = .ok (.aload_n 0, 1) := by decide +kernel
theorem dX12_rules_109 : decode cX12_rules 109 = .ok (.getfield 30, 3) := by decide +kernel
theorem dX12_rules_112 : decode cX12_rules 112 = .ok (.iload_n 3, 1) := by decide +kernel
theorem dX12_rules_113 : decode cX12_rules 113 = .ok (.iaload, 1) := by decide +kernel
theorem dX12_rules_114 : decode cX12_rules 114 = .ok (.iastore, 1) := by decide +kernel
theorem dX12_rules_115 : decode cX12_rules 115 = .ok (.iinc 3 1, 3) := by decide +kernel
theorem dX12_rules_118 : decode cX12_rules 118 = .ok (.goto (-32), 3) := by decide +kernel
theorem dX12_rules_121 : decode cX12_rules 121 = .ok (.aload_n 0, 1) := by decide +kernel
theorem dX12_rules_122 : decode cX12_rules 122 = .ok (.aload_n 0, 1) := by decide +kernel
theorem dX12_rules_123 : decode cX12_rules 123 = .ok (.getfield 30, 3) := by decide +kernel
theorem dX12_rules_126 : decode cX12_rules 126 = .ok (.iconst 0, 1) := by decide +kernel
theorem dX12_rules_127 : decode cX12_rules 127 = .ok (.iaload, 1) := by decide +kernel
theorem dX12_rules_128 : decode cX12_rules 128 = .ok (.invokevirtual 245, 3) := by decide +kernel
theorem dX12_rules_131 : decode cX12_rules 131 = .ok (.ireturn, 1) := by decide +kernel
theorem dX12_law_0 : decode cX12_law 0 = .ok (.aload_n 0, 1) := by decide +kernel
theorem dX12_law_1 : decode cX12_law 1 = .ok (.iconst 0, 1) := by decide +kernel
theorem dX12_law_2 : decode cX12_law 2 = .ok (.putfield 76, 3) := by decide +kernel
theorem dX12_law_5 : decode cX12_law 5 = .ok (.iload_n 1, 1) := by decide +kernel
theorem dX12_law_6 : decode cX12_law 6 = .ok (.i2l, 1) := by decide +kernel
theorem dX12_law_7 : decode cX12_law 7 = .ok (.lconst 0, 1) := by decide +kernel
theorem dX12_law_8 : decode cX12_law 8 = .ok (.aload_n 0, 1) := by decide +kernel
theorem dX12_law_9 : decode cX12_law 9 = .ok (.getfield 101, 3) := by decide +kernel
theorem dX12_law_12 : decode cX12_law 12 = .ok (.i2l, 1) := by decide +kernel
theorem dX12_law_13 : decode cX12_law 13 = .ok (.invokestatic 79, 3) := by decide +kernel
theorem dX12_law_16 : decode cX12_law 16 = .ok (.ifCond .ne 9, 3) := by decide +kernel
theorem dX12_law_19 : decode cX12_law 19 = .ok (.aload_n 0, 1) := by decide +kernel
theorem dX12_law_20 : decode cX12_law 20 = .ok (.iconst 1, 1) := by decide +kernel
theorem dX12_law_21 : decode cX12_law 21 = .ok (.invokevirtual 83, 3) := by decide +kernel
theorem dX12_law_24 : decode cX12_law 24 = .ok (.ireturn, 1) := by decide +kernel
theorem dX12_law_25 : decode cX12_law 25 = .ok (.aload_n 0, 1) := by decide +kernel
theorem dX12_law_26 : decode cX12_law 26 = .ok (.iload_n 1, 1) := by decide +kernel
theorem dX12_law_27 : decode cX12_law 27 = .ok (.invokevirtual 239, 3) := by decide +kernel
theorem dX12_law_30 : decode cX12_law 30 = .ok (.aload_n 0, 1) := by decide +kernel
theorem dX12_law_31 : decode cX12_law 31 = .ok (.getfield 33, 3) := by decide +kernel
theorem dX12_law_34 : decode cX12_law 34 = .ok (.iconst 0, 1) := by decide +kernel
theorem dX12_law_35 : decode cX12_law 35 = .ok (.iconst (-1), 1) := by decide +kernel
theorem dX12_law_36 : decode cX12_law 36 = .ok (.iastore, 1) := by decide +kernel
theorem dX12_law_37 : decode cX12_law 37 = .ok (.aload_n 0, 1) := by decide +kernel
theorem dX12_law_38 : decode cX12_law 38 = .ok (.getfield 33, 3) := by decide +kernel
theorem dX12_law_41 : decode cX12_law 41 = .ok (.iconst 1, 1) := by decide +kernel
theorem dX12_law_42 : decode cX12_law 42 = .ok (.iconst 0, 1) := by decide +kernel
theorem dX12_law_43 : decode cX12_law 43 = .ok (.iastore, 1) := by decide +kernel
theorem dX12_law_44 : decode cX12_law 44 = .ok (.aload_n 0, 1) := by decide +kernel
theorem dX12_law_45 : decode cX12_law 45 = .ok (.getfield 33, 3) := by decide +kernel
theorem dX12_law_48 : decode cX12_law 48 = .ok (.iconst 2, 1) := by decide +kernel
theorem dX12_law_49 : decode cX12_law 49 = .ok (.iconst (-1), 1) := by decide +kernel
theorem dX12_law_50 : decode cX12_law 50 = .ok (.iastore, 1) := by decide +kernel
theorem dX12_law_51 : decode cX12_law 51 = .ok (.aload_n 0, 1) := by decide +kernel
theorem dX12_law_52 : decode cX12_law 52 = .ok (.getfield 33, 3) := by decide +kernel
theorem dX12_law_55 : decode cX12_law 55 = .ok (.iconst 3, 1) := by decide +kernel
theorem dX12_law_56 : decode cX12_law 56 = .ok (.iconst 0, 1) := by decide +kernel
theorem dX12_law_57 : decode cX12_law 57 = .ok (.iastore, 1) := by decide +kernel
theorem dX12_law_58 : decode cX12_law 58 = .ok (.aload_n 0, 1) := by decide +kernel
theorem dX12_law_59 : decode cX12_law 59 = .ok (.getfield 33, 3) := by decide +kernel
theorem dX12_law_62 : decode cX12_law 62 = .ok (.iconst 4, 1) := by decide +kernel
theorem dX12_law_63 : decode cX12_law 63 = .ok (.iconst 0, 1) := by decide +kernel
theorem dX12_law_64 : decode cX12_law 64 = .ok (.iastore, 1) := by decide +kernel
theorem dX12_law_65 : decode cX12_law 65 = .ok (.iconst 0, 1) := by decide +kernel
theorem dX12_law_66 : decode cX12_law 66 = .ok (.istore_n 2, 1) := by decide +kernel
theorem dX12_law_67 : decode cX12_law 67 = .ok (.aload_n 0, 1) := by decide +kernel
theorem dX12_law_68 : decode cX12_law 68 = .ok (.getfield 134, 3) := by decide +kernel
theorem dX12_law_71 : decode cX12_law 71 = .ok (.ifCond .ne 24, 3) := by decide +kernel
theorem dX12_law_74 : decode cX12_law 74 = .ok (.aload_n 0, 1) := by decide +kernel
theorem dX12_law_75 : decode cX12_law 75 = .ok (.getfield 116, 3) := by decide +kernel
theorem dX12_law_78 : decode cX12_law 78 = .ok (.ifCond .eq 17, 3) := by decide +kernel
theorem dX12_law_81 : decode cX12_law 81 = .ok (.aload_n 0, 1) := by decide +kernel
theorem dX12_law_82 : decode cX12_law 82 = .ok (.invokevirtual 248, 3) := by decide +kernel
theorem dX12_law_85 : decode cX12_law 85 = .ok (.aload_n 0, 1) := by decide +kernel
theorem dX12_law_86 : decode cX12_law 86 = .ok (.invokevirtual 236, 3) := by decide +kernel
theorem dX12_law_89 : decode cX12_law 89 = .ok (.iinc 2 1, 3) := by decide +kernel
theorem dX12_law_92 : decode cX12_law 92 = .ok (.goto (-25), 3) := by decide +kernel
theorem dX12_law_95 : decode cX12_law 95 = .ok (.aload_n 0, 1) := by decide +kernel
theorem dX12_law_96 : decode cX12_law 96 = .ok (.getfield 134, 3) := by decide +kernel
theorem dX12_law_99 : decode cX12_law 99 = .ok (.ifCond .ne 31, 3) := by decide +kernel
theorem dX12_law_102 : decode cX12_law 102 = .ok (.iconst 0, 1) := by decide +kernel
theorem dX12_law_103 : decode cX12_law 103 = .ok (.istore_n 3, 1) := by decide +kernel
theorem dX12_law_104 : decode cX12_law 104 = .ok (.iload_n 3, 1) := by decide +kernel
theorem dX12_law_105 : decode cX12_law 105 = .ok (.iconst 5, 1) := by decide +kernel
theorem dX12_law_106 : decode cX12_law 106 = .ok (.if_icmp .ge 24, 3) := by decide +kernel
theorem dX12_law_109 : decode cX12_law 109 = .ok (.aload_n 0, 1) := by decide +kernel
theorem dX12_law_110 : decode cX12_law 110 = .ok (.getfield 9, 3) := by decide +kernel
theorem dX12_law_113 : decode cX12_law 113 = .ok (.bipush 120, 2) := by decide +kernel
theorem dX12_law_115 : decode cX12_law 115 = .ok (.iload_n 3, 1) := by decide +kernel
theorem dX12_law_116 : decode cX12_law 116 = .ok (.iadd, 1) := by decide +kernel
theorem dX12_law_117 : decode cX12_law 117 = .ok (.aload_n 0, 1) := by decide +kernel
theorem dX12_law_118 : decode cX12_law 118 = .ok (.getfield 33, 3) := by decide +kernel
theorem dX12_law_121 : decode cX12_law 121 = .ok (.iload_n 3, 1) := by decide +kernel
theorem dX12_law_122 : decode cX12_law 122 = .ok (.iaload, 1) := by decide +kernel
theorem dX12_law_123 : decode cX12_law 123 = .ok (.iastore, 1) := by decide +kernel
theorem dX12_law_124 : decode cX12_law 124 = .ok (.iinc 3 1, 3) := by decide +kernel
theorem dX12_law_127 : decode cX12_law 127 = .ok (.goto (-23), 3) := by decide +kernel
theorem dX12_law_130 : decode cX12_law 130 = .ok (.aload_n 0, 1) := by decide +kernel
theorem dX12_law_131 : decode cX12_law 131 = .ok (.iload_n 2, 1) := by decide +kernel
theorem dX12_law_132 : decode cX12_law 132 = .ok (.invokevirtual 245, 3) := by decide +kernel
theorem dX12_law_135 : decode cX12_law 135 = .ok (.ireturn, 1) := by decide +kernel
theorem dX12_readLine_0 : decode cX12_readLine 0 = .ok (.aload_n 0, 1) := by decide +kernel
theorem dX12_readLine_1 : decode cX12_readLine 1 = .ok (.ldc 251, 2) := by decide +kernel
theorem dX12_readLine_3 : decode cX12_readLine 3 = .ok (.invokevirtual 165, 3) := by decide +kernel
theorem dX12_readLine_6 : decode cX12_readLine 6 = .ok (.ifCond .eq 23, 3) := by decide +kernel
theorem dX12_readLine_9 : decode cX12_readLine 9 = .ok (.aload_n 0, 1) := by decide +kernel
theorem dX12_readLine_10 : decode cX12_readLine 10 = .ok (.invokevirtual 154, 3) := by decide +kernel
theorem dX12_readLine_13 : decode cX12_readLine 13 = .ok (.aload_n 0, 1) := by decide +kernel
theorem dX12_readLine_14 : decode cX12_readLine 14 = .ok (.getfield 33, 3) := by decide +kernel
theorem dX12_readLine_17 : decode cX12_readLine 17 = .ok (.iconst 0, 1) := by decide +kernel
theorem dX12_readLine_18 : decode cX12_readLine 18 = .ok (.aload_n 0, 1) := by decide +kernel
theorem dX12_readLine_19 : decode cX12_readLine 19 = .ok (.iconst 1, 1) := by decide +kernel
theorem dX12_readLine_20 : decode cX12_readLine 20 = .ok (.bipush 99, 2) := by decide +kernel
theorem dX12_readLine_22 : decode cX12_readLine 22 = .ok (.invokevirtual 227, 3) := by decide +kernel
theorem dX12_readLine_25 : decode cX12_readLine 25 = .ok (.iastore, 1) := by decide +kernel
theorem dX12_readLine_26 : decode cX12_readLine 26 = .ok (.goto 127, 3) := by decide +kernel
theorem dX12_readLine_29 : decode cX12_readLine 29 = .ok (.aload_n 0, 1) := by decide +kernel
theorem dX12_readLine_30 : decode cX12_readLine 30 = .ok (.ldc 253, 2) := by decide +kernel
theorem dX12_readLine_32 : decode cX12_readLine 32 = .ok (.invokevirtual 165, 3) := by decide +kernel
theorem dX12_readLine_35 : decode cX12_readLine 35 = .ok (.ifCond .eq 37, 3) := by decide +kernel
theorem dX12_readLine_38 : decode cX12_readLine 38 = .ok (.aload_n 0, 1) := by decide +kernel
theorem dX12_readLine_39 : decode cX12_readLine 39 = .ok (.invokevirtual 154, 3) := by decide +kernel
theorem dX12_readLine_42 : decode cX12_readLine 42 = .ok (.aload_n 0, 1) := by decide +kernel
theorem dX12_readLine_43 : decode cX12_readLine 43 = .ok (.iconst 0, 1) := by decide +kernel
theorem dX12_readLine_44 : decode cX12_readLine 44 = .ok (.bipush 23, 2) := by decide +kernel
theorem dX12_readLine_46 : decode cX12_readLine 46 = .ok (.invokevirtual 227, 3) := by decide +kernel
theorem dX12_readLine_49 : decode cX12_readLine 49 = .ok (.istore_n 1, 1) := by decide +kernel
theorem dX12_readLine_50 : decode cX12_readLine 50 = .ok (.aload_n 0, 1) := by decide +kernel
theorem dX12_readLine_51 : decode cX12_readLine 51 = .ok (.getfield 134, 3) := by decide +kernel
theorem dX12_readLine_54 : decode cX12_readLine 54 = .ok (.ifCond .ne 15, 3) := by decide +kernel
theorem dX12_readLine_57 : decode cX12_readLine 57 = .ok (.aload_n 0, 1) := by decide +kernel
theorem dX12_readLine_58 : decode cX12_readLine 58 = .ok (.getfield 33, 3) := by decide +kernel
theorem dX12_readLine_61 : decode cX12_readLine 61 = .ok (.iconst 1, 1) := by decide +kernel
theorem dX12_readLine_62 : decode cX12_readLine 62 = .ok (.dup2, 1) := by decide +kernel
theorem dX12_readLine_63 : decode cX12_readLine 63 = .ok (.iaload, 1) := by decide +kernel
theorem dX12_readLine_64 : decode cX12_readLine 64 = .ok (.iconst 1, 1) := by decide +kernel
theorem dX12_readLine_65 : decode cX12_readLine 65 = .ok (.iload_n 1, 1) := by decide +kernel
theorem dX12_readLine_66 : decode cX12_readLine 66 = .ok (.ishl, 1) := by decide +kernel
theorem dX12_readLine_67 : decode cX12_readLine 67 = .ok (.ior, 1) := by decide +kernel
theorem dX12_readLine_68 : decode cX12_readLine 68 = .ok (.iastore, 1) := by decide +kernel
theorem dX12_readLine_69 : decode cX12_readLine 69 = .ok (.goto 84, 3) := by decide +kernel
theorem dX12_readLine_72 : decode cX12_readLine 72 = .ok (.aload_n 0, 1) := by decide +kernel
theorem dX12_readLine_73 : decode cX12_readLine 73 = .ok (.ldc 254, 2) := by decide +kernel
theorem dX12_readLine_75 : decode cX12_readLine 75 = .ok (.invokevirtual 165, 3) := by decide +kernel
theorem dX12_readLine_78 : decode cX12_readLine 78 = .ok (.ifCond .eq 23, 3) := by decide +kernel
theorem dX12_readLine_81 : decode cX12_readLine 81 = .ok (.aload_n 0, 1) := by decide +kernel
theorem dX12_readLine_82 : decode cX12_readLine 82 = .ok (.invokevirtual 154, 3) := by decide +kernel
theorem dX12_readLine_85 : decode cX12_readLine 85 = .ok (.aload_n 0, 1) := by decide +kernel
theorem dX12_readLine_86 : decode cX12_readLine 86 = .ok (.getfield 33, 3) := by decide +kernel
theorem dX12_readLine_89 : decode cX12_readLine 89 = .ok (.iconst 2, 1) := by decide +kernel
theorem dX12_readLine_90 : decode cX12_readLine 90 = .ok (.aload_n 0, 1) := by decide +kernel
theorem dX12_readLine_91 : decode cX12_readLine 91 = .ok (.iconst 0, 1) := by decide +kernel
theorem dX12_readLine_92 : decode cX12_readLine 92 = .ok (.bipush 99, 2) := by decide +kernel
theorem dX12_readLine_94 : decode cX12_readLine 94 = .ok (.invokevirtual 227, 3) := by decide +kernel
theorem dX12_readLine_97 : decode cX12_readLine 97 = .ok (.iastore, 1) := by decide +kernel
theorem dX12_readLine_98 : decode cX12_readLine 98 = .ok (.goto 55, 3) := by decide +kernel
theorem dX12_readLine_101 : decode cX12_readLine 101 = .ok (.aload_n 0, 1) := by decide +kernel
theorem dX12_readLine_102 : decode cX12_readLine 102 = .ok (.ldc_w 256, 3) := by decide +kernel
theorem dX12_readLine_105 : decode cX12_readLine 105 = .ok (.invokevirtual 165, 3) := by decide +kernel
theorem dX12_readLine_108 : decode cX12_readLine 108 = .ok (.ifCond .eq 17, 3) := by decide +kernel
theorem dX12_readLine_111 : decode cX12_readLine 111 = .ok (.aload_n 0, 1) := by decide +kernel
theorem dX12_readLine_112 : decode cX12_readLine 112 = .ok (.invokevirtual 154, 3) := by decide +kernel
theorem dX12_readLine_115 : decode cX12_readLine 115 = .ok (.aload_n 0, 1) := by decide +kernel
theorem dX12_readLine_116 : decode cX12_readLine 116 = .ok (.getfield 33, 3) := by decide +kernel
theorem dX12_readLine_119 : decode cX12_readLine 119 = .ok (.iconst 3, 1) := by decide +kernel
theorem dX12_readLine_120 : decode cX12_readLine 120 = .ok (.iconst 1, 1) := by decide +kernel
theorem dX12_readLine_121 : decode cX12_readLine 121 = .ok (.iastore, 1) := by decide +kernel
theorem dX12_readLine_122 : decode cX12_readLine 122 = .ok (.goto 31, 3) := by decide +kernel
theorem dX12_readLine_125 : decode cX12_readLine 125 = .ok (.aload_n 0, 1) := by decide +kernel
theorem dX12_readLine_126 : decode cX12_readLine 126 = .ok (.ldc 173, 2) := by decide +kernel
theorem dX12_readLine_128 : decode cX12_readLine 128 = .ok (.invokevirtual 165, 3) := by decide +kernel
theorem dX12_readLine_131 : decode cX12_readLine 131 = .ok (.ifCond .eq 17, 3) := by decide +kernel
theorem dX12_readLine_134 : decode cX12_readLine 134 = .ok (.aload_n 0, 1) := by decide +kernel
theorem dX12_readLine_135 : decode cX12_readLine 135 = .ok (.invokevirtual 154, 3) := by decide +kernel
theorem dX12_readLine_138 : decode cX12_readLine 138 = .ok (.aload_n 0, 1) := by decide +kernel
theorem dX12_readLine_139 : decode cX12_readLine 139 = .ok (.getfield 33, 3) := by decide +kernel
theorem dX12_readLine_142 : decode cX12_readLine 142 = .ok (.iconst 4, 1) := by decide +kernel
theorem dX12_readLine_143 : decode cX12_readLine 143 = .ok (.iconst 1, 1) := by decide +kernel
theorem dX12_readLine_144 : decode cX12_readLine 144 = .ok (.iastore, 1) := by decide +kernel
theorem dX12_readLine_145 : decode cX12_readLine 145 = .ok (.goto 8, 3) := by decide +kernel
theorem dX12_readLine_148 : decode cX12_readLine 148 = .ok (.aload_n 0, 1) := by decide +kernel
theorem dX12_readLine_149 : decode cX12_readLine 149 = .ok (.iconst 2, 1) := by decide +kernel
theorem dX12_readLine_150 : decode cX12_readLine 150 = .ok (.invokevirtual 150, 3) := by decide +kernel
theorem dX12_readLine_153 : decode cX12_readLine 153 = .ok (.return_, 1) := by decide +kernel
theorem dX12_fault_0 : decode cX12_fault 0 = .ok (.aload_n 0, 1) := by decide +kernel
theorem dX12_fault_1 : decode cX12_fault 1 = .ok (.iconst 0, 1) := by decide +kernel
theorem dX12_fault_2 : decode cX12_fault 2 = .ok (.putfield 76, 3) := by decide +kernel
theorem dX12_fault_5 : decode cX12_fault 5 = .ok (.iload_n 1, 1) := by decide +kernel
theorem dX12_fault_6 : decode cX12_fault 6 = .ok (.ifCond .ne 10, 3) := by decide +kernel
theorem dX12_fault_9 : decode cX12_fault 9 = .ok (.aload_n 0, 1) := by decide +kernel
theorem dX12_fault_10 : decode cX12_fault 10 = .ok (.getfield 157, 3) := by decide +kernel
theorem dX12_fault_13 : decode cX12_fault 13 = .ok (.goto 16, 3) := by decide +kernel
theorem dX12_fault_16 : decode cX12_fault 16 = .ok (.iload_n 1, 1) := by decide +kernel
theorem dX12_fault_17 : decode cX12_fault 17 = .ok (.iconst 1, 1) := by decide +kernel
theorem dX12_fault_18 : decode cX12_fault 18 = .ok (.if_icmp .ne 10, 3) := by decide +kernel
theorem dX12_fault_21 : decode cX12_fault 21 = .ok (.aload_n 0, 1) := by decide +kernel
theorem dX12_fault_22 : decode cX12_fault 22 = .ok (.getfield 36, 3) := by decide +kernel
theorem dX12_fault_25 : decode cX12_fault 25 = .ok (.goto 4, 3) := by decide +kernel
theorem dX12_fault_28 : decode cX12_fault 28 = .ok (.iconst (-1), 1) := by decide +kernel
theorem dX12_fault_29 : decode cX12_fault 29 = .ok (.ireturn, 1) := by decide +kernel
theorem dX12_seen_0 : decode cX12_seen 0 = .ok (.aload_n 0, 1) := by decide +kernel
theorem dX12_seen_1 : decode cX12_seen 1 = .ok (.getfield 257, 3) := by decide +kernel
theorem dX12_seen_4 : decode cX12_seen 4 = .ok (.ifCond .eq 22, 3) := by decide +kernel
theorem dX12_seen_7 : decode cX12_seen 7 = .ok (.aload_n 0, 1) := by decide +kernel
theorem dX12_seen_8 : decode cX12_seen 8 = .ok (.getfield 9, 3) := by decide +kernel
theorem dX12_seen_11 : decode cX12_seen 11 = .ok (.sipush 2909, 3) := by decide +kernel
theorem dX12_seen_14 : decode cX12_seen 14 = .ok (.iconst 4, 1) := by decide +kernel
theorem dX12_seen_15 : decode cX12_seen 15 = .ok (.iconst 0, 1) := by decide +kernel
theorem dX12_seen_16 : decode cX12_seen 16 = .ok (.iload_n 2, 1) := by decide +kernel
theorem dX12_seen_17 : decode cX12_seen 17 = .ok (.invokestatic 261, 3) := by decide +kernel
theorem dX12_seen_20 : decode cX12_seen 20 = .ok (.imul, 1) := by decide +kernel
theorem dX12_seen_21 : decode cX12_seen 21 = .ok (.iadd, 1) := by decide +kernel
theorem dX12_seen_22 : decode cX12_seen 22 = .ok (.iload_n 1, 1) := by decide +kernel
theorem dX12_seen_23 : decode cX12_seen 23 = .ok (.iadd, 1) := by decide +kernel
theorem dX12_seen_24 : decode cX12_seen 24 = .ok (.iaload, 1) := by decide +kernel
theorem dX12_seen_25 : decode cX12_seen 25 = .ok (.ireturn, 1) := by decide +kernel
theorem dX12_seen_26 : decode cX12_seen 26 = .ok (.iload_n 2, 1) := by decide +kernel
theorem dX12_seen_27 : decode cX12_seen 27 = .ok (.ifCond .ge 15, 3) := by decide +kernel
theorem dX12_seen_30 : decode cX12_seen 30 = .ok (.aload_n 0, 1) := by decide +kernel
theorem dX12_seen_31 : decode cX12_seen 31 = .ok (.getfield 9, 3) := by decide +kernel
theorem dX12_seen_34 : decode cX12_seen 34 = .ok (.bipush 20, 2) := by decide +kernel
theorem dX12_seen_36 : decode cX12_seen 36 = .ok (.iload_n 1, 1) := by decide +kernel
theorem dX12_seen_37 : decode cX12_seen 37 = .ok (.iadd, 1) := by decide +kernel
theorem dX12_seen_38 : decode cX12_seen 38 = .ok (.iaload, 1) := by decide +kernel
theorem dX12_seen_39 : decode cX12_seen 39 = .ok (.goto 21, 3) := by decide +kernel
theorem dX12_seen_42 : decode cX12_seen 42 = .ok (.aload_n 0, 1) := by decide +kernel
theorem dX12_seen_43 : decode cX12_seen 43 = .ok (.getfield 9, 3) := by decide +kernel
theorem dX12_seen_46 : decode cX12_seen 46 = .ok (.sipush 1885, 3) := by decide +kernel
theorem dX12_seen_49 : decode cX12_seen 49 = .ok (.iconst 4, 1) := by decide +kernel
theorem dX12_seen_50 : decode cX12_seen 50 = .ok (.iload_n 2, 1) := by decide +kernel
theorem dX12_seen_51 : decode cX12_seen 51 = .ok (.sipush 256, 3) := by decide +kernel
theorem dX12_seen_54 : decode cX12_seen 54 = .ok (.irem, 1) := by decide +kernel
theorem dX12_seen_55 : decode cX12_seen 55 = .ok (.imul, 1) := by decide +kernel
theorem dX12_seen_56 : decode cX12_seen 56 = .ok (.iadd, 1) := by decide +kernel
theorem dX12_seen_57 : decode cX12_seen 57 = .ok (.iload_n 1, 1) := by decide +kernel
theorem dX12_seen_58 : decode cX12_seen 58 = .ok (.iadd, 1) := by decide +kernel
theorem dX12_seen_59 : decode cX12_seen 59 = .ok (.iaload, 1) := by decide +kernel
theorem dX12_seen_60 : decode cX12_seen 60 = .ok (.ireturn, 1) := by decide +kernel
theorem dX12_sinceAt_0 : decode cX12_sinceAt 0 = .ok (.aload_n 0, 1) := by decide +kernel
theorem dX12_sinceAt_1 : decode cX12_sinceAt 1 = .ok (.getfield 257, 3) := by decide +kernel
theorem dX12_sinceAt_4 : decode cX12_sinceAt 4 = .ok (.ifCond .eq 7, 3) := by decide +kernel
theorem dX12_sinceAt_7 : decode cX12_sinceAt 7 = .ok (.iconst (-1), 1) := by decide +kernel
theorem dX12_sinceAt_8 : decode cX12_sinceAt 8 = .ok (.goto 12, 3) := by decide +kernel
theorem dX12_sinceAt_11 : decode cX12_sinceAt 11 = .ok (.aload_n 0, 1) := by decide +kernel
theorem dX12_sinceAt_12 : decode cX12_sinceAt 12 = .ok (.getfield 9, 3) := by decide +kernel
theorem dX12_sinceAt_15 : decode cX12_sinceAt 15 = .ok (.bipush 24, 2) := by decide +kernel
theorem dX12_sinceAt_17 : decode cX12_sinceAt 17 = .ok (.iload_n 1, 1) := by decide +kernel
theorem dX12_sinceAt_18 : decode cX12_sinceAt 18 = .ok (.iadd, 1) := by decide +kernel
theorem dX12_sinceAt_19 : decode cX12_sinceAt 19 = .ok (.iaload, 1) := by decide +kernel
theorem dX12_sinceAt_20 : decode cX12_sinceAt 20 = .ok (.istore_n 3, 1) := by decide +kernel
theorem dX12_sinceAt_21 : decode cX12_sinceAt 21 = .ok (.iconst 1, 1) := by decide +kernel
theorem dX12_sinceAt_22 : decode cX12_sinceAt 22 = .ok (.istore 4, 2) := by decide +kernel
theorem dX12_sinceAt_24 : decode cX12_sinceAt 24 = .ok (.iload 4, 2) := by decide +kernel
theorem dX12_sinceAt_26 : decode cX12_sinceAt 26 = .ok (.iload_n 2, 1) := by decide +kernel
theorem dX12_sinceAt_27 : decode cX12_sinceAt 27 = .ok (.if_icmp .ge 38, 3) := by decide +kernel
theorem dX12_sinceAt_30 : decode cX12_sinceAt 30 = .ok (.aload_n 0, 1) := by decide +kernel
theorem dX12_sinceAt_31 : decode cX12_sinceAt 31 = .ok (.getfield 257, 3) := by decide +kernel
theorem dX12_sinceAt_34 : decode cX12_sinceAt 34 = .ok (.ifCond .eq 31, 3) := by decide +kernel
theorem dX12_sinceAt_37 : decode cX12_sinceAt 37 = .ok (.aload_n 0, 1) := by decide +kernel
theorem dX12_sinceAt_38 : decode cX12_sinceAt 38 = .ok (.iload_n 1, 1) := by decide +kernel
theorem dX12_sinceAt_39 : decode cX12_sinceAt 39 = .ok (.iload 4, 2) := by decide +kernel
theorem dX12_sinceAt_41 : decode cX12_sinceAt 41 = .ok (.invokevirtual 266, 3) := by decide +kernel
theorem dX12_sinceAt_44 : decode cX12_sinceAt 44 = .ok (.aload_n 0, 1) := by decide +kernel
theorem dX12_sinceAt_45 : decode cX12_sinceAt 45 = .ok (.iload_n 1, 1) := by decide +kernel
theorem dX12_sinceAt_46 : decode cX12_sinceAt 46 = .ok (.iload 4, 2) := by decide +kernel
theorem dX12_sinceAt_48 : decode cX12_sinceAt 48 = .ok (.iconst 1, 1) := by decide +kernel
theorem dX12_sinceAt_49 : decode cX12_sinceAt 49 = .ok (.isub, 1) := by decide +kernel
theorem dX12_sinceAt_50 : decode cX12_sinceAt 50 = .ok (.invokevirtual 266, 3) := by decide +kernel
theorem dX12_sinceAt_53 : decode cX12_sinceAt 53 = .ok (.if_icmp .eq 6, 3) := by decide +kernel
theorem dX12_sinceAt_56 : decode cX12_sinceAt 56 = .ok (.iload 4, 2) := by decide +kernel
theorem dX12_sinceAt_58 : decode cX12_sinceAt 58 = .ok (.istore_n 3, 1) := by decide +kernel
theorem dX12_sinceAt_59 : decode cX12_sinceAt 59 = .ok (.iinc 4 1, 3) := by decide +kernel
theorem dX12_sinceAt_62 : decode cX12_sinceAt 62 = .ok (.goto (-38), 3) := by decide +kernel
theorem dX12_sinceAt_65 : decode cX12_sinceAt 65 = .ok (.bipush 99, 2) := by decide +kernel
theorem dX12_sinceAt_67 : decode cX12_sinceAt 67 = .ok (.iload_n 3, 1) := by decide +kernel
theorem dX12_sinceAt_68 : decode cX12_sinceAt 68 = .ok (.iconst (-1), 1) := by decide +kernel
theorem dX12_sinceAt_69 : decode cX12_sinceAt 69 = .ok (.if_icmp .ne 9, 3) := by decide +kernel
theorem dX12_sinceAt_72 : decode cX12_sinceAt 72 = .ok (.iload_n 2, 1) := by decide +kernel
theorem dX12_sinceAt_73 : decode cX12_sinceAt 73 = .ok (.iconst 1, 1) := by decide +kernel
theorem dX12_sinceAt_74 : decode cX12_sinceAt 74 = .ok (.iadd, 1) := by decide +kernel
theorem dX12_sinceAt_75 : decode cX12_sinceAt 75 = .ok (.goto 6, 3) := by decide +kernel
theorem dX12_sinceAt_78 : decode cX12_sinceAt 78 = .ok (.iload_n 2, 1) := by decide +kernel
theorem dX12_sinceAt_79 : decode cX12_sinceAt 79 = .ok (.iload_n 3, 1) := by decide +kernel
theorem dX12_sinceAt_80 : decode cX12_sinceAt 80 = .ok (.isub, 1) := by decide +kernel
theorem dX12_sinceAt_81 : decode cX12_sinceAt 81 = .ok (.invokestatic 269, 3) := by decide +kernel
theorem dX12_sinceAt_84 : decode cX12_sinceAt 84 = .ok (.ireturn, 1) := by decide +kernel
theorem dX12_least_0 : decode cX12_least 0 = .ok (.iconst (-1), 1) := by decide +kernel
theorem dX12_least_1 : decode cX12_least 1 = .ok (.istore 4, 2) := by decide +kernel
theorem dX12_least_3 : decode cX12_least 3 = .ok (.iconst 0, 1) := by decide +kernel
theorem dX12_least_4 : decode cX12_least 4 = .ok (.istore 5, 2) := by decide +kernel
theorem dX12_least_6 : decode cX12_least 6 = .ok (.iload 5, 2) := by decide +kernel
theorem dX12_least_8 : decode cX12_least 8 = .ok (.aload_n 0, 1) := by decide +kernel
theorem dX12_least_9 : decode cX12_least 9 = .ok (.getfield 9, 3) := by decide +kernel
theorem dX12_least_12 : decode cX12_least 12 = .ok (.iconst 0, 1) := by decide +kernel
theorem dX12_least_13 : decode cX12_least 13 = .ok (.iaload, 1) := by decide +kernel
theorem dX12_least_14 : decode cX12_least 14 = .ok (.if_icmp .ge 70, 3) := by decide +kernel
theorem dX12_least_17 : decode cX12_least 17 = .ok (.iload 5, 2) := by decide +kernel
theorem dX12_least_19 : decode cX12_least 19 = .ok (.iload_n 1, 1) := by decide +kernel
theorem dX12_least_20 : decode cX12_least 20 = .ok (.if_icmp .ne 6, 3) := by decide +kernel
theorem dX12_least_23 : decode cX12_least 23 = .ok (.goto 55, 3) := by decide +kernel
theorem dX12_least_26 : decode cX12_least 26 = .ok (.aload_n 0, 1) := by decide +kernel
theorem dX12_least_27 : decode cX12_least 27 = .ok (.iload 5, 2) := by decide +kernel
theorem dX12_least_29 : decode cX12_least 29 = .ok (.iload_n 2, 1) := by decide +kernel
theorem dX12_least_30 : decode cX12_least 30 = .ok (.iconst 1, 1) := by decide +kernel
theorem dX12_least_31 : decode cX12_least 31 = .ok (.isub, 1) := by decide +kernel
theorem dX12_least_32 : decode cX12_least 32 = .ok (.aload_n 0, 1) := by decide +kernel
theorem dX12_least_33 : decode cX12_least 33 = .ok (.getfield 9, 3) := by decide +kernel
theorem dX12_least_36 : decode cX12_least 36 = .ok (.bipush 16, 2) := by decide +kernel
theorem dX12_least_38 : decode cX12_least 38 = .ok (.iload_n 1, 1) := by decide +kernel
theorem dX12_least_39 : decode cX12_least 39 = .ok (.iadd, 1) := by decide +kernel
theorem dX12_least_40 : decode cX12_least 40 = .ok (.iaload, 1) := by decide +kernel
theorem dX12_least_41 : decode cX12_least 41 = .ok (.isub, 1) := by decide +kernel
theorem dX12_least_42 : decode cX12_least 42 = .ok (.invokevirtual 266, 3) := by decide +kernel
theorem dX12_least_45 : decode cX12_least 45 = .ok (.istore 6, 2) := by decide +kernel
theorem dX12_least_47 : decode cX12_least 47 = .ok (.iload 4, 2) := by decide +kernel
theorem dX12_least_49 : decode cX12_least 49 = .ok (.iconst (-1), 1) := by decide +kernel
theorem dX12_least_50 : decode cX12_least 50 = .ok (.if_icmp .eq 24, 3) := by decide +kernel
theorem dX12_least_53 : decode cX12_least 53 = .ok (.iload_n 3, 1) := by decide +kernel
theorem dX12_least_54 : decode cX12_least 54 = .ok (.ifCond .eq 13, 3) := by decide +kernel
theorem dX12_least_57 : decode cX12_least 57 = .ok (.iload 6, 2) := by decide +kernel
theorem dX12_least_59 : decode cX12_least 59 = .ok (.iload 4, 2) := by decide +kernel
theorem dX12_least_61 : decode cX12_least 61 = .ok (.if_icmp .le 17, 3) := by decide +kernel
theorem dX12_least_64 : decode cX12_least 64 = .ok (.goto 10, 3) := by decide +kernel
theorem dX12_least_67 : decode cX12_least 67 = .ok (.iload 6, 2) := by decide +kernel
theorem dX12_least_69 : decode cX12_least 69 = .ok (.iload 4, 2) := by decide +kernel
theorem dX12_least_71 : decode cX12_least 71 = .ok (.if_icmp .ge 7, 3) := by decide +kernel
theorem dX12_least_74 : decode cX12_least 74 = .ok (.iload 6, 2) := by decide +kernel
theorem dX12_least_76 : decode cX12_least 76 = .ok (.istore 4, 2) := by decide +kernel
theorem dX12_least_78 : decode cX12_least 78 = .ok (.iinc 5 1, 3) := by decide +kernel
theorem dX12_least_81 : decode cX12_least 81 = .ok (.goto (-75), 3) := by decide +kernel
theorem dX12_least_84 : decode cX12_least 84 = .ok (.iload 4, 2) := by decide +kernel
theorem dX12_least_86 : decode cX12_least 86 = .ok (.iconst (-1), 1) := by decide +kernel
theorem dX12_least_87 : decode cX12_least 87 = .ok (.if_icmp .ne 14, 3) := by decide +kernel
theorem dX12_least_90 : decode cX12_least 90 = .ok (.aload_n 0, 1) := by decide +kernel
theorem dX12_least_91 : decode cX12_least 91 = .ok (.iload_n 1, 1) := by decide +kernel
theorem dX12_least_92 : decode cX12_least 92 = .ok (.iload_n 2, 1) := by decide +kernel
theorem dX12_least_93 : decode cX12_least 93 = .ok (.iconst 1, 1) := by decide +kernel
theorem dX12_least_94 : decode cX12_least 94 = .ok (.isub, 1) := by decide +kernel
theorem dX12_least_95 : decode cX12_least 95 = .ok (.invokevirtual 266, 3) := by decide +kernel
theorem dX12_least_98 : decode cX12_least 98 = .ok (.goto 5, 3) := by decide +kernel
theorem dX12_least_101 : decode cX12_least 101 = .ok (.iload 4, 2) := by decide +kernel
theorem dX12_least_103 : decode cX12_least 103 = .ok (.ireturn, 1) := by decide +kernel
theorem dX12_moved_0 : decode cX12_moved 0 = .ok (.iconst 0, 1) := by decide +kernel
theorem dX12_moved_1 : decode cX12_moved 1 = .ok (.istore 4, 2) := by decide +kernel
theorem dX12_moved_3 : decode cX12_moved 3 = .ok (.iload_n 2, 1) := by decide +kernel
theorem dX12_moved_4 : decode cX12_moved 4 = .ok (.iconst 1, 1) := by decide +kernel
theorem dX12_moved_5 : decode cX12_moved 5 = .ok (.isub, 1) := by decide +kernel
theorem dX12_moved_6 : decode cX12_moved 6 = .ok (.aload_n 0, 1) := by decide +kernel
theorem dX12_moved_7 : decode cX12_moved 7 = .ok (.getfield 9, 3) := by decide +kernel
theorem dX12_moved_10 : decode cX12_moved 10 = .ok (.bipush 16, 2) := by decide +kernel
theorem dX12_moved_12 : decode cX12_moved 12 = .ok (.iload_n 1, 1) := by decide +kernel
theorem dX12_moved_13 : decode cX12_moved 13 = .ok (.iadd, 1) := by decide +kernel
theorem dX12_moved_14 : decode cX12_moved 14 = .ok (.iaload, 1) := by decide +kernel
theorem dX12_moved_15 : decode cX12_moved 15 = .ok (.isub, 1) := by decide +kernel
theorem dX12_moved_16 : decode cX12_moved 16 = .ok (.istore 5, 2) := by decide +kernel
theorem dX12_moved_18 : decode cX12_moved 18 = .ok (.iconst 0, 1) := by decide +kernel
theorem dX12_moved_19 : decode cX12_moved 19 = .ok (.istore 6, 2) := by decide +kernel
theorem dX12_moved_21 : decode cX12_moved 21 = .ok (.iload 6, 2) := by decide +kernel
theorem dX12_moved_23 : decode cX12_moved 23 = .ok (.aload_n 0, 1) := by decide +kernel
theorem dX12_moved_24 : decode cX12_moved 24 = .ok (.getfield 9, 3) := by decide +kernel
theorem dX12_moved_27 : decode cX12_moved 27 = .ok (.iconst 0, 1) := by decide +kernel
theorem dX12_moved_28 : decode cX12_moved 28 = .ok (.iaload, 1) := by decide +kernel
theorem dX12_moved_29 : decode cX12_moved 29 = .ok (.if_icmp .ge 67, 3) := by decide +kernel
theorem dX12_moved_32 : decode cX12_moved 32 = .ok (.iload 6, 2) := by decide +kernel
theorem dX12_moved_34 : decode cX12_moved 34 = .ok (.iload_n 1, 1) := by decide +kernel
theorem dX12_moved_35 : decode cX12_moved 35 = .ok (.if_icmp .eq 55, 3) := by decide +kernel
theorem dX12_moved_38 : decode cX12_moved 38 = .ok (.iload_n 3, 1) := by decide +kernel
theorem dX12_moved_39 : decode cX12_moved 39 = .ok (.ifCond .eq 27, 3) := by decide +kernel
theorem dX12_moved_42 : decode cX12_moved 42 = .ok (.aload_n 0, 1) := by decide +kernel
theorem dX12_moved_43 : decode cX12_moved 43 = .ok (.iload 6, 2) := by decide +kernel
theorem dX12_moved_45 : decode cX12_moved 45 = .ok (.iload 5, 2) := by decide +kernel
theorem dX12_moved_47 : decode cX12_moved 47 = .ok (.invokevirtual 266, 3) := by decide +kernel
theorem dX12_moved_50 : decode cX12_moved 50 = .ok (.aload_n 0, 1) := by decide +kernel
theorem dX12_moved_51 : decode cX12_moved 51 = .ok (.iload 6, 2) := by decide +kernel
theorem dX12_moved_53 : decode cX12_moved 53 = .ok (.iload 5, 2) := by decide +kernel
theorem dX12_moved_55 : decode cX12_moved 55 = .ok (.iconst 1, 1) := by decide +kernel
theorem dX12_moved_56 : decode cX12_moved 56 = .ok (.isub, 1) := by decide +kernel
theorem dX12_moved_57 : decode cX12_moved 57 = .ok (.invokevirtual 266, 3) := by decide +kernel
theorem dX12_moved_60 : decode cX12_moved 60 = .ok (.if_icmp .le 30, 3) := by decide +kernel
theorem dX12_moved_63 : decode cX12_moved 63 = .ok (.goto 24, 3) := by decide +kernel
theorem dX12_moved_66 : decode cX12_moved 66 = .ok (.aload_n 0, 1) := by decide +kernel
theorem dX12_moved_67 : decode cX12_moved 67 = .ok (.iload 6, 2) := by decide +kernel
theorem dX12_moved_69 : decode cX12_moved 69 = .ok (.iload 5, 2) := by decide +kernel
theorem dX12_moved_71 : decode cX12_moved 71 = .ok (.invokevirtual 266, 3) := by decide +kernel
theorem dX12_moved_74 : decode cX12_moved 74 = .ok (.aload_n 0, 1) := by decide +kernel
theorem dX12_moved_75 : decode cX12_moved 75 = .ok (.iload 6, 2) := by decide +kernel
theorem dX12_moved_77 : decode cX12_moved 77 = .ok (.iload 5, 2) := by decide +kernel
theorem dX12_moved_79 : decode cX12_moved 79 = .ok (.iconst 1, 1) := by decide +kernel
theorem dX12_moved_80 : decode cX12_moved 80 = .ok (.isub, 1) := by decide +kernel
theorem dX12_moved_81 : decode cX12_moved 81 = .ok (.invokevirtual 266, 3) := by decide +kernel
theorem dX12_moved_84 : decode cX12_moved 84 = .ok (.if_icmp .ge 6, 3) := by decide +kernel
theorem dX12_moved_87 : decode cX12_moved 87 = .ok (.iinc 4 1, 3) := by decide +kernel
theorem dX12_moved_90 : decode cX12_moved 90 = .ok (.iinc 6 1, 3) := by decide +kernel
theorem dX12_moved_93 : decode cX12_moved 93 = .ok (.goto (-72), 3) := by decide +kernel
theorem dX12_moved_96 : decode cX12_moved 96 = .ok (.iload 4, 2) := by decide +kernel
theorem dX12_moved_98 : decode cX12_moved 98 = .ok (.ireturn, 1) := by decide +kernel
theorem dX12_worth_0 : decode cX12_worth 0 = .ok (.iload_n 1, 1) := by decide +kernel
theorem dX12_worth_1 : decode cX12_worth 1 = .ok (.tableswitch 122 100 108 #[51, 60, 68, 76, 86, 91, 99, 106, 114], 51) := by decide +kernel
theorem dX12_worth_52 : decode cX12_worth 52 = .ok (.aload_n 0, 1) := by decide +kernel
theorem dX12_worth_53 : decode cX12_worth 53 = .ok (.iload_n 2, 1) := by decide +kernel
theorem dX12_worth_54 : decode cX12_worth 54 = .ok (.iload_n 3, 1) := by decide +kernel
theorem dX12_worth_55 : decode cX12_worth 55 = .ok (.iconst 1, 1) := by decide +kernel
theorem dX12_worth_56 : decode cX12_worth 56 = .ok (.isub, 1) := by decide +kernel
theorem dX12_worth_57 : decode cX12_worth 57 = .ok (.invokevirtual 266, 3) := by decide +kernel
theorem dX12_worth_60 : decode cX12_worth 60 = .ok (.ireturn, 1) := by decide +kernel
theorem dX12_worth_61 : decode cX12_worth 61 = .ok (.aload_n 0, 1) := by decide +kernel
theorem dX12_worth_62 : decode cX12_worth 62 = .ok (.iload_n 2, 1) := by decide +kernel
theorem dX12_worth_63 : decode cX12_worth 63 = .ok (.iload_n 3, 1) := by decide +kernel
theorem dX12_worth_64 : decode cX12_worth 64 = .ok (.iconst 0, 1) := by decide +kernel
theorem dX12_worth_65 : decode cX12_worth 65 = .ok (.invokevirtual 272, 3) := by decide +kernel
theorem dX12_worth_68 : decode cX12_worth 68 = .ok (.ireturn, 1) := by decide +kernel
theorem dX12_worth_69 : decode cX12_worth 69 = .ok (.aload_n 0, 1) := by decide +kernel
theorem dX12_worth_70 : decode cX12_worth 70 = .ok (.iload_n 2, 1) := by decide +kernel
theorem dX12_worth_71 : decode cX12_worth 71 = .ok (.iload_n 3, 1) := by decide +kernel
theorem dX12_worth_72 : decode cX12_worth 72 = .ok (.iconst 1, 1) := by decide +kernel
theorem dX12_worth_73 : decode cX12_worth 73 = .ok (.invokevirtual 272, 3) := by decide +kernel
theorem dX12_worth_76 : decode cX12_worth 76 = .ok (.ireturn, 1) := by decide +kernel
theorem dX12_worth_77 : decode cX12_worth 77 = .ok (.aload_n 0, 1) := by decide +kernel
theorem dX12_worth_78 : decode cX12_worth 78 = .ok (.getfield 9, 3) := by decide +kernel
theorem dX12_worth_81 : decode cX12_worth 81 = .ok (.bipush 8, 2) := by decide +kernel
theorem dX12_worth_83 : decode cX12_worth 83 = .ok (.iload_n 2, 1) := by decide +kernel
theorem dX12_worth_84 : decode cX12_worth 84 = .ok (.iadd, 1) := by decide +kernel
theorem dX12_worth_85 : decode cX12_worth 85 = .ok (.iaload, 1) := by decide +kernel
theorem dX12_worth_86 : decode cX12_worth 86 = .ok (.ireturn, 1) := by decide +kernel
theorem dX12_worth_87 : decode cX12_worth 87 = .ok (.iload_n 3, 1) := by decide +kernel
theorem dX12_worth_88 : decode cX12_worth 88 = .ok (.bipush 24, 2) := by decide +kernel
theorem dX12_worth_90 : decode cX12_worth 90 = .ok (.irem, 1) := by decide +kernel
theorem dX12_worth_91 : decode cX12_worth 91 = .ok (.ireturn, 1) := by decide +kernel
theorem dX12_worth_92 : decode cX12_worth 92 = .ok (.iload_n 3, 1) := by decide +kernel
theorem dX12_worth_93 : decode cX12_worth 93 = .ok (.bipush 24, 2) := by decide +kernel
theorem dX12_worth_95 : decode cX12_worth 95 = .ok (.idiv, 1) := by decide +kernel
theorem dX12_worth_96 : decode cX12_worth 96 = .ok (.bipush 7, 2) := by decide +kernel
theorem dX12_worth_98 : decode cX12_worth 98 = .ok (.irem, 1) := by decide +kernel
theorem dX12_worth_99 : decode cX12_worth 99 = .ok (.ireturn, 1) := by decide +kernel
theorem dX12_worth_100 : decode cX12_worth 100 = .ok (.aload_n 0, 1) := by decide +kernel
theorem dX12_worth_101 : decode cX12_worth 101 = .ok (.iload_n 2, 1) := by decide +kernel
theorem dX12_worth_102 : decode cX12_worth 102 = .ok (.iload_n 3, 1) := by decide +kernel
theorem dX12_worth_103 : decode cX12_worth 103 = .ok (.invokevirtual 275, 3) := by decide +kernel
theorem dX12_worth_106 : decode cX12_worth 106 = .ok (.ireturn, 1) := by decide +kernel
theorem dX12_worth_107 : decode cX12_worth 107 = .ok (.aload_n 0, 1) := by decide +kernel
theorem dX12_worth_108 : decode cX12_worth 108 = .ok (.iload_n 2, 1) := by decide +kernel
theorem dX12_worth_109 : decode cX12_worth 109 = .ok (.iload_n 3, 1) := by decide +kernel
theorem dX12_worth_110 : decode cX12_worth 110 = .ok (.iconst 1, 1) := by decide +kernel
theorem dX12_worth_111 : decode cX12_worth 111 = .ok (.invokevirtual 278, 3) := by decide +kernel
theorem dX12_worth_114 : decode cX12_worth 114 = .ok (.ireturn, 1) := by decide +kernel
theorem dX12_worth_115 : decode cX12_worth 115 = .ok (.aload_n 0, 1) := by decide +kernel
theorem dX12_worth_116 : decode cX12_worth 116 = .ok (.iload_n 2, 1) := by decide +kernel
theorem dX12_worth_117 : decode cX12_worth 117 = .ok (.iload_n 3, 1) := by decide +kernel
theorem dX12_worth_118 : decode cX12_worth 118 = .ok (.iconst 0, 1) := by decide +kernel
theorem dX12_worth_119 : decode cX12_worth 119 = .ok (.invokevirtual 278, 3) := by decide +kernel
theorem dX12_worth_122 : decode cX12_worth 122 = .ok (.ireturn, 1) := by decide +kernel
theorem dX12_worth_123 : decode cX12_worth 123 = .ok (.iload_n 1, 1) := by decide +kernel
theorem dX12_worth_124 : decode cX12_worth 124 = .ok (.ireturn, 1) := by decide +kernel
theorem dX12_both_0 : decode cX12_both 0 = .ok (.iload_n 0, 1) := by decide +kernel
theorem dX12_both_1 : decode cX12_both 1 = .ok (.tableswitch 88 110 116 #[43, 47, 51, 62, 73, 88, 84], 43) := by decide +kernel
theorem dX12_both_44 : decode cX12_both 44 = .ok (.iload_n 1, 1) := by decide +kernel
theorem dX12_both_45 : decode cX12_both 45 = .ok (.iload_n 2, 1) := by decide +kernel
theorem dX12_both_46 : decode cX12_both 46 = .ok (.iadd, 1) := by decide +kernel
theorem dX12_both_47 : decode cX12_both 47 = .ok (.ireturn, 1) := by decide +kernel
theorem dX12_both_48 : decode cX12_both 48 = .ok (.iload_n 1, 1) := by decide +kernel
theorem dX12_both_49 : decode cX12_both 49 = .ok (.iload_n 2, 1) := by decide +kernel
theorem dX12_both_50 : decode cX12_both 50 = .ok (.isub, 1) := by decide +kernel
theorem dX12_both_51 : decode cX12_both 51 = .ok (.ireturn, 1) := by decide +kernel
theorem dX12_both_52 : decode cX12_both 52 = .ok (.iload_n 1, 1) := by decide +kernel
theorem dX12_both_53 : decode cX12_both 53 = .ok (.iload_n 2, 1) := by decide +kernel
theorem dX12_both_54 : decode cX12_both 54 = .ok (.if_icmp .ge 7, 3) := by decide +kernel
theorem dX12_both_57 : decode cX12_both 57 = .ok (.iconst 1, 1) := by decide +kernel
theorem dX12_both_58 : decode cX12_both 58 = .ok (.goto 4, 3) := by decide +kernel
theorem dX12_both_61 : decode cX12_both 61 = .ok (.iconst 0, 1) := by decide +kernel
theorem dX12_both_62 : decode cX12_both 62 = .ok (.ireturn, 1) := by decide +kernel
theorem dX12_both_63 : decode cX12_both 63 = .ok (.iload_n 1, 1) := by decide +kernel
theorem dX12_both_64 : decode cX12_both 64 = .ok (.iload_n 2, 1) := by decide +kernel
theorem dX12_both_65 : decode cX12_both 65 = .ok (.if_icmp .ne 7, 3) := by decide +kernel
theorem dX12_both_68 : decode cX12_both 68 = .ok (.iconst 1, 1) := by decide +kernel
theorem dX12_both_69 : decode cX12_both 69 = .ok (.goto 4, 3) := by decide +kernel
theorem dX12_both_72 : decode cX12_both 72 = .ok (.iconst 0, 1) := by decide +kernel
theorem dX12_both_73 : decode cX12_both 73 = .ok (.ireturn, 1) := by decide +kernel
theorem dX12_both_74 : decode cX12_both 74 = .ok (.iload_n 1, 1) := by decide +kernel
theorem dX12_both_75 : decode cX12_both 75 = .ok (.iload_n 2, 1) := by decide +kernel
theorem dX12_both_76 : decode cX12_both 76 = .ok (.if_icmp .le 7, 3) := by decide +kernel
theorem dX12_both_79 : decode cX12_both 79 = .ok (.iconst 1, 1) := by decide +kernel
theorem dX12_both_80 : decode cX12_both 80 = .ok (.goto 4, 3) := by decide +kernel
theorem dX12_both_83 : decode cX12_both 83 = .ok (.iconst 0, 1) := by decide +kernel
theorem dX12_both_84 : decode cX12_both 84 = .ok (.ireturn, 1) := by decide +kernel
theorem dX12_both_85 : decode cX12_both 85 = .ok (.iload_n 1, 1) := by decide +kernel
theorem dX12_both_86 : decode cX12_both 86 = .ok (.iload_n 2, 1) := by decide +kernel
theorem dX12_both_87 : decode cX12_both 87 = .ok (.iand, 1) := by decide +kernel
theorem dX12_both_88 : decode cX12_both 88 = .ok (.ireturn, 1) := by decide +kernel
theorem dX12_both_89 : decode cX12_both 89 = .ok (.iload_n 1, 1) := by decide +kernel
theorem dX12_both_90 : decode cX12_both 90 = .ok (.iload_n 2, 1) := by decide +kernel
theorem dX12_both_91 : decode cX12_both 91 = .ok (.ior, 1) := by decide +kernel
theorem dX12_both_92 : decode cX12_both 92 = .ok (.ireturn, 1) := by decide +kernel
theorem dX12_isSo_0 : decode cX12_isSo 0 = .ok (.iconst 0, 1) := by decide +kernel
theorem dX12_isSo_1 : decode cX12_isSo 1 = .ok (.istore 5, 2) := by decide +kernel
theorem dX12_isSo_3 : decode cX12_isSo 3 = .ok (.iload_n 1, 1) := by decide +kernel
theorem dX12_isSo_4 : decode cX12_isSo 4 = .ok (.istore 6, 2) := by decide +kernel
theorem dX12_isSo_6 : decode cX12_isSo 6 = .ok (.iload 6, 2) := by decide +kernel
theorem dX12_isSo_8 : decode cX12_isSo 8 = .ok (.iload_n 1, 1) := by decide +kernel
theorem dX12_isSo_9 : decode cX12_isSo 9 = .ok (.iload_n 2, 1) := by decide +kernel
theorem dX12_isSo_10 : decode cX12_isSo 10 = .ok (.iadd, 1) := by decide +kernel
theorem dX12_isSo_11 : decode cX12_isSo 11 = .ok (.if_icmp .ge 110, 3) := by decide +kernel
theorem dX12_isSo_14 : decode cX12_isSo 14 = .ok (.aload_n 0, 1) := by decide +kernel
theorem dX12_isSo_15 : decode cX12_isSo 15 = .ok (.getfield 9, 3) := by decide +kernel
theorem dX12_isSo_18 : decode cX12_isSo 18 = .ok (.iload 6, 2) := by decide +kernel
theorem dX12_isSo_20 : decode cX12_isSo 20 = .ok (.iaload, 1) := by decide +kernel
theorem dX12_isSo_21 : decode cX12_isSo 21 = .ok (.istore 7, 2) := by decide +kernel
theorem dX12_isSo_23 : decode cX12_isSo 23 = .ok (.iload 7, 2) := by decide +kernel
theorem dX12_isSo_25 : decode cX12_isSo 25 = .ok (.bipush 115, 2) := by decide +kernel
theorem dX12_isSo_27 : decode cX12_isSo 27 = .ok (.if_icmp .ne 26, 3) := by decide +kernel
theorem dX12_isSo_30 : decode cX12_isSo 30 = .ok (.aload_n 0, 1) := by decide +kernel
theorem dX12_isSo_31 : decode cX12_isSo 31 = .ok (.getfield 40, 3) := by decide +kernel
theorem dX12_isSo_34 : decode cX12_isSo 34 = .ok (.iload 5, 2) := by decide +kernel
theorem dX12_isSo_36 : decode cX12_isSo 36 = .ok (.iconst 1, 1) := by decide +kernel
theorem dX12_isSo_37 : decode cX12_isSo 37 = .ok (.isub, 1) := by decide +kernel
theorem dX12_isSo_38 : decode cX12_isSo 38 = .ok (.iconst 1, 1) := by decide +kernel
theorem dX12_isSo_39 : decode cX12_isSo 39 = .ok (.aload_n 0, 1) := by decide +kernel
theorem dX12_isSo_40 : decode cX12_isSo 40 = .ok (.getfield 40, 3) := by decide +kernel
theorem dX12_isSo_43 : decode cX12_isSo 43 = .ok (.iload 5, 2) := by decide +kernel
theorem dX12_isSo_45 : decode cX12_isSo 45 = .ok (.iconst 1, 1) := by decide +kernel
theorem dX12_isSo_46 : decode cX12_isSo 46 = .ok (.isub, 1) := by decide +kernel
theorem dX12_isSo_47 : decode cX12_isSo 47 = .ok (.iaload, 1) := by decide +kernel
theorem dX12_isSo_48 : decode cX12_isSo 48 = .ok (.isub, 1) := by decide +kernel
theorem dX12_isSo_49 : decode cX12_isSo 49 = .ok (.iastore, 1) := by decide +kernel
theorem dX12_isSo_50 : decode cX12_isSo 50 = .ok (.goto 65, 3) := by decide +kernel
theorem dX12_isSo_53 : decode cX12_isSo 53 = .ok (.iload 7, 2) := by decide +kernel
theorem dX12_isSo_55 : decode cX12_isSo 55 = .ok (.bipush 110, 2) := by decide +kernel
theorem dX12_isSo_57 : decode cX12_isSo 57 = .ok (.if_icmp .ge 25, 3) := by decide +kernel
theorem dX12_isSo_60 : decode cX12_isSo 60 = .ok (.aload_n 0, 1) := by decide +kernel
theorem dX12_isSo_61 : decode cX12_isSo 61 = .ok (.getfield 40, 3) := by decide +kernel
theorem dX12_isSo_64 : decode cX12_isSo 64 = .ok (.iload 5, 2) := by decide +kernel
theorem dX12_isSo_66 : decode cX12_isSo 66 = .ok (.aload_n 0, 1) := by decide +kernel
theorem dX12_isSo_67 : decode cX12_isSo 67 = .ok (.iload 7, 2) := by decide +kernel
theorem dX12_isSo_69 : decode cX12_isSo 69 = .ok (.iload_n 3, 1) := by decide +kernel
theorem dX12_isSo_70 : decode cX12_isSo 70 = .ok (.iload 4, 2) := by decide +kernel
theorem dX12_isSo_72 : decode cX12_isSo 72 = .ok (.invokevirtual 281, 3) := by decide +kernel
theorem dX12_isSo_75 : decode cX12_isSo 75 = .ok (.iastore, 1) := by decide +kernel
theorem dX12_isSo_76 : decode cX12_isSo 76 = .ok (.iinc 5 1, 3) := by decide +kernel
theorem dX12_isSo_79 : decode cX12_isSo 79 = .ok (.goto 36, 3) := by decide +kernel
theorem dX12_isSo_82 : decode cX12_isSo 82 = .ok (.iinc 5 (-1), 3) := by decide +kernel
theorem dX12_isSo_85 : decode cX12_isSo 85 = .ok (.aload_n 0, 1) := by decide +kernel
theorem dX12_isSo_86 : decode cX12_isSo 86 = .ok (.getfield 40, 3) := by decide +kernel
theorem dX12_isSo_89 : decode cX12_isSo 89 = .ok (.iload 5, 2) := by decide +kernel
theorem dX12_isSo_91 : decode cX12_isSo 91 = .ok (.iconst 1, 1) := by decide +kernel
theorem dX12_isSo_92 : decode cX12_isSo 92 = .ok (.isub, 1) := by decide +kernel
theorem dX12_isSo_93 : decode cX12_isSo 93 = .ok (.iload 7, 2) := by decide +kernel
theorem dX12_isSo_95 : decode cX12_isSo 95 = .ok (.aload_n 0, 1) := by decide +kernel
theorem dX12_isSo_96 : decode cX12_isSo 96 = .ok (.getfield 40, 3) := by decide +kernel
theorem dX12_isSo_99 : decode cX12_isSo 99 = .ok (.iload 5, 2) := by decide +kernel
theorem dX12_isSo_101 : decode cX12_isSo 101 = .ok (.iconst 1, 1) := by decide +kernel
theorem dX12_isSo_102 : decode cX12_isSo 102 = .ok (.isub, 1) := by decide +kernel
theorem dX12_isSo_103 : decode cX12_isSo 103 = .ok (.iaload, 1) := by decide +kernel
theorem dX12_isSo_104 : decode cX12_isSo 104 = .ok (.aload_n 0, 1) := by decide +kernel
theorem dX12_isSo_105 : decode cX12_isSo 105 = .ok (.getfield 40, 3) := by decide +kernel
theorem dX12_isSo_108 : decode cX12_isSo 108 = .ok (.iload 5, 2) := by decide +kernel
theorem dX12_isSo_110 : decode cX12_isSo 110 = .ok (.iaload, 1) := by decide +kernel
theorem dX12_isSo_111 : decode cX12_isSo 111 = .ok (.invokestatic 285, 3) := by decide +kernel
theorem dX12_isSo_114 : decode cX12_isSo 114 = .ok (.iastore, 1) := by decide +kernel
theorem dX12_isSo_115 : decode cX12_isSo 115 = .ok (.iinc 6 1, 3) := by decide +kernel
theorem dX12_isSo_118 : decode cX12_isSo 118 = .ok (.goto (-112), 3) := by decide +kernel
theorem dX12_isSo_121 : decode cX12_isSo 121 = .ok (.iload_n 2, 1) := by decide +kernel
theorem dX12_isSo_122 : decode cX12_isSo 122 = .ok (.ifCond .eq 13, 3) := by decide +kernel
theorem dX12_isSo_125 : decode cX12_isSo 125 = .ok (.aload_n 0, 1) := by decide +kernel
theorem dX12_isSo_126 : decode cX12_isSo 126 = .ok (.getfield 40, 3) := by decide +kernel
theorem dX12_isSo_129 : decode cX12_isSo 129 = .ok (.iconst 0, 1) := by decide +kernel
theorem dX12_isSo_130 : decode cX12_isSo 130 = .ok (.iaload, 1) := by decide +kernel
theorem dX12_isSo_131 : decode cX12_isSo 131 = .ok (.iconst 1, 1) := by decide +kernel
theorem dX12_isSo_132 : decode cX12_isSo 132 = .ok (.if_icmp .ne 7, 3) := by decide +kernel
theorem dX12_isSo_135 : decode cX12_isSo 135 = .ok (.iconst 1, 1) := by decide +kernel
theorem dX12_isSo_136 : decode cX12_isSo 136 = .ok (.goto 4, 3) := by decide +kernel
theorem dX12_isSo_139 : decode cX12_isSo 139 = .ok (.iconst 0, 1) := by decide +kernel
theorem dX12_isSo_140 : decode cX12_isSo 140 = .ok (.ireturn, 1) := by decide +kernel
theorem dX12_wish_0 : decode cX12_wish 0 = .ok (.aload_n 0, 1) := by decide +kernel
theorem dX12_wish_1 : decode cX12_wish 1 = .ok (.iload_n 1, 1) := by decide +kernel
theorem dX12_wish_2 : decode cX12_wish 2 = .ok (.iload_n 2, 1) := by decide +kernel
theorem dX12_wish_3 : decode cX12_wish 3 = .ok (.iconst 1, 1) := by decide +kernel
theorem dX12_wish_4 : decode cX12_wish 4 = .ok (.isub, 1) := by decide +kernel
theorem dX12_wish_5 : decode cX12_wish 5 = .ok (.invokevirtual 266, 3) := by decide +kernel
theorem dX12_wish_8 : decode cX12_wish 8 = .ok (.istore_n 3, 1) := by decide +kernel
theorem dX12_wish_9 : decode cX12_wish 9 = .ok (.bipush 125, 2) := by decide +kernel
theorem dX12_wish_11 : decode cX12_wish 11 = .ok (.sipush 440, 3) := by decide +kernel
theorem dX12_wish_14 : decode cX12_wish 14 = .ok (.iload_n 1, 1) := by decide +kernel
theorem dX12_wish_15 : decode cX12_wish 15 = .ok (.imul, 1) := by decide +kernel
theorem dX12_wish_16 : decode cX12_wish 16 = .ok (.iadd, 1) := by decide +kernel
theorem dX12_wish_17 : decode cX12_wish 17 = .ok (.iconst 1, 1) := by decide +kernel
theorem dX12_wish_18 : decode cX12_wish 18 = .ok (.iadd, 1) := by decide +kernel
theorem dX12_wish_19 : decode cX12_wish 19 = .ok (.istore 4, 2) := by decide +kernel
theorem dX12_wish_21 : decode cX12_wish 21 = .ok (.iconst 0, 1) := by decide +kernel
theorem dX12_wish_22 : decode cX12_wish 22 = .ok (.istore 5, 2) := by decide +kernel
theorem dX12_wish_24 : decode cX12_wish 24 = .ok (.iload 5, 2) := by decide +kernel
theorem dX12_wish_26 : decode cX12_wish 26 = .ok (.aload_n 0, 1) := by decide +kernel
theorem dX12_wish_27 : decode cX12_wish 27 = .ok (.getfield 9, 3) := by decide +kernel
theorem dX12_wish_30 : decode cX12_wish 30 = .ok (.bipush 125, 2) := by decide +kernel
theorem dX12_wish_32 : decode cX12_wish 32 = .ok (.sipush 440, 3) := by decide +kernel
theorem dX12_wish_35 : decode cX12_wish 35 = .ok (.iload_n 1, 1) := by decide +kernel
theorem dX12_wish_36 : decode cX12_wish 36 = .ok (.imul, 1) := by decide +kernel
theorem dX12_wish_37 : decode cX12_wish 37 = .ok (.iadd, 1) := by decide +kernel
theorem dX12_wish_38 : decode cX12_wish 38 = .ok (.iaload, 1) := by decide +kernel
theorem dX12_wish_39 : decode cX12_wish 39 = .ok (.if_icmp .ge 130, 3) := by decide +kernel
theorem dX12_wish_42 : decode cX12_wish 42 = .ok (.aload_n 0, 1) := by decide +kernel
theorem dX12_wish_43 : decode cX12_wish 43 = .ok (.getfield 9, 3) := by decide +kernel
theorem dX12_wish_46 : decode cX12_wish 46 = .ok (.iload 4, 2) := by decide +kernel
theorem dX12_wish_48 : decode cX12_wish 48 = .ok (.iconst 2, 1) := by decide +kernel
theorem dX12_wish_49 : decode cX12_wish 49 = .ok (.iadd, 1) := by decide +kernel
theorem dX12_wish_50 : decode cX12_wish 50 = .ok (.iaload, 1) := by decide +kernel
theorem dX12_wish_51 : decode cX12_wish 51 = .ok (.istore 6, 2) := by decide +kernel
theorem dX12_wish_53 : decode cX12_wish 53 = .ok (.aload_n 0, 1) := by decide +kernel
theorem dX12_wish_54 : decode cX12_wish 54 = .ok (.iload 4, 2) := by decide +kernel
theorem dX12_wish_56 : decode cX12_wish 56 = .ok (.iconst 3, 1) := by decide +kernel
theorem dX12_wish_57 : decode cX12_wish 57 = .ok (.iadd, 1) := by decide +kernel
theorem dX12_wish_58 : decode cX12_wish 58 = .ok (.iload 6, 2) := by decide +kernel
theorem dX12_wish_60 : decode cX12_wish 60 = .ok (.iload_n 1, 1) := by decide +kernel
theorem dX12_wish_61 : decode cX12_wish 61 = .ok (.iload_n 2, 1) := by decide +kernel
theorem dX12_wish_62 : decode cX12_wish 62 = .ok (.invokevirtual 288, 3) := by decide +kernel
theorem dX12_wish_65 : decode cX12_wish 65 = .ok (.ifCond .eq 89, 3) := by decide +kernel
theorem dX12_wish_68 : decode cX12_wish 68 = .ok (.aload_n 0, 1) := by decide +kernel
theorem dX12_wish_69 : decode cX12_wish 69 = .ok (.getfield 9, 3) := by decide +kernel
theorem dX12_wish_72 : decode cX12_wish 72 = .ok (.iload 4, 2) := by decide +kernel
theorem dX12_wish_74 : decode cX12_wish 74 = .ok (.iconst 1, 1) := by decide +kernel
theorem dX12_wish_75 : decode cX12_wish 75 = .ok (.iadd, 1) := by decide +kernel
theorem dX12_wish_76 : decode cX12_wish 76 = .ok (.iaload, 1) := by decide +kernel
theorem dX12_wish_77 : decode cX12_wish 77 = .ok (.istore 7, 2) := by decide +kernel
theorem dX12_wish_79 : decode cX12_wish 79 = .ok (.aload_n 0, 1) := by decide +kernel
theorem dX12_wish_80 : decode cX12_wish 80 = .ok (.getfield 9, 3) := by decide +kernel
theorem dX12_wish_83 : decode cX12_wish 83 = .ok (.iload 4, 2) := by decide +kernel
theorem dX12_wish_85 : decode cX12_wish 85 = .ok (.iaload, 1) := by decide +kernel
theorem dX12_wish_86 : decode cX12_wish 86 = .ok (.tableswitch 66 0 4 #[34, 39, 44, 47, 58], 34) := by decide +kernel
theorem dX12_wish_120 : decode cX12_wish 120 = .ok (.iload_n 3, 1) := by decide +kernel
theorem dX12_wish_121 : decode cX12_wish 121 = .ok (.iload 7, 2) := by decide +kernel
theorem dX12_wish_123 : decode cX12_wish 123 = .ok (.iadd, 1) := by decide +kernel
theorem dX12_wish_124 : decode cX12_wish 124 = .ok (.ireturn, 1) := by decide +kernel
theorem dX12_wish_125 : decode cX12_wish 125 = .ok (.iload_n 3, 1) := by decide +kernel
theorem dX12_wish_126 : decode cX12_wish 126 = .ok (.iload 7, 2) := by decide +kernel
theorem dX12_wish_128 : decode cX12_wish 128 = .ok (.isub, 1) := by decide +kernel
theorem dX12_wish_129 : decode cX12_wish 129 = .ok (.ireturn, 1) := by decide +kernel
theorem dX12_wish_130 : decode cX12_wish 130 = .ok (.iload 7, 2) := by decide +kernel
theorem dX12_wish_132 : decode cX12_wish 132 = .ok (.ireturn, 1) := by decide +kernel
theorem dX12_wish_133 : decode cX12_wish 133 = .ok (.aload_n 0, 1) := by decide +kernel
theorem dX12_wish_134 : decode cX12_wish 134 = .ok (.iload_n 1, 1) := by decide +kernel
theorem dX12_wish_135 : decode cX12_wish 135 = .ok (.iload_n 2, 1) := by decide +kernel
theorem dX12_wish_136 : decode cX12_wish 136 = .ok (.iconst 0, 1) := by decide +kernel
theorem dX12_wish_137 : decode cX12_wish 137 = .ok (.invokevirtual 272, 3) := by decide +kernel
theorem dX12_wish_140 : decode cX12_wish 140 = .ok (.iload 7, 2) := by decide +kernel
theorem dX12_wish_142 : decode cX12_wish 142 = .ok (.isub, 1) := by decide +kernel
theorem dX12_wish_143 : decode cX12_wish 143 = .ok (.ireturn, 1) := by decide +kernel
theorem dX12_wish_144 : decode cX12_wish 144 = .ok (.aload_n 0, 1) := by decide +kernel
theorem dX12_wish_145 : decode cX12_wish 145 = .ok (.iload_n 1, 1) := by decide +kernel
theorem dX12_wish_146 : decode cX12_wish 146 = .ok (.iload_n 2, 1) := by decide +kernel
theorem dX12_wish_147 : decode cX12_wish 147 = .ok (.iconst 0, 1) := by decide +kernel
theorem dX12_wish_148 : decode cX12_wish 148 = .ok (.invokevirtual 272, 3) := by decide +kernel
theorem dX12_wish_151 : decode cX12_wish 151 = .ok (.ireturn, 1) := by decide +kernel
theorem dX12_wish_152 : decode cX12_wish 152 = .ok (.iload_n 3, 1) := by decide +kernel
theorem dX12_wish_153 : decode cX12_wish 153 = .ok (.ireturn, 1) := by decide +kernel
theorem dX12_wish_154 : decode cX12_wish 154 = .ok (.iload 4, 2) := by decide +kernel
theorem dX12_wish_156 : decode cX12_wish 156 = .ok (.iconst 3, 1) := by decide +kernel
theorem dX12_wish_157 : decode cX12_wish 157 = .ok (.iload 6, 2) := by decide +kernel
theorem dX12_wish_159 : decode cX12_wish 159 = .ok (.iadd, 1) := by decide +kernel
theorem dX12_wish_160 : decode cX12_wish 160 = .ok (.iadd, 1) := by decide +kernel
theorem dX12_wish_161 : decode cX12_wish 161 = .ok (.istore 4, 2) := by decide +kernel
theorem dX12_wish_163 : decode cX12_wish 163 = .ok (.iinc 5 1, 3) := by decide +kernel
theorem dX12_wish_166 : decode cX12_wish 166 = .ok (.goto (-142), 3) := by decide +kernel
theorem dX12_wish_169 : decode cX12_wish 169 = .ok (.iload_n 3, 1) := by decide +kernel
theorem dX12_wish_170 : decode cX12_wish 170 = .ok (.ireturn, 1) := by decide +kernel
theorem dX12_makes_0 : decode cX12_makes 0 = .ok (.aload_n 0, 1) := by decide +kernel
theorem dX12_makes_1 : decode cX12_makes 1 = .ok (.iload_n 1, 1) := by decide +kernel
theorem dX12_makes_2 : decode cX12_makes 2 = .ok (.iload_n 2, 1) := by decide +kernel
theorem dX12_makes_3 : decode cX12_makes 3 = .ok (.iconst 1, 1) := by decide +kernel
theorem dX12_makes_4 : decode cX12_makes 4 = .ok (.isub, 1) := by decide +kernel
theorem dX12_makes_5 : decode cX12_makes 5 = .ok (.invokevirtual 266, 3) := by decide +kernel
theorem dX12_makes_8 : decode cX12_makes 8 = .ok (.istore_n 3, 1) := by decide +kernel
theorem dX12_makes_9 : decode cX12_makes 9 = .ok (.aload_n 0, 1) := by decide +kernel
theorem dX12_makes_10 : decode cX12_makes 10 = .ok (.iload_n 1, 1) := by decide +kernel
theorem dX12_makes_11 : decode cX12_makes 11 = .ok (.iload_n 2, 1) := by decide +kernel
theorem dX12_makes_12 : decode cX12_makes 12 = .ok (.invokevirtual 292, 3) := by decide +kernel
theorem dX12_makes_15 : decode cX12_makes 15 = .ok (.istore 4, 2) := by decide +kernel
theorem dX12_makes_17 : decode cX12_makes 17 = .ok (.aload_n 0, 1) := by decide +kernel
theorem dX12_makes_18 : decode cX12_makes 18 = .ok (.getfield 9, 3) := by decide +kernel
theorem dX12_makes_21 : decode cX12_makes 21 = .ok (.bipush 122, 2) := by decide +kernel
theorem dX12_makes_23 : decode cX12_makes 23 = .ok (.iaload, 1) := by decide +kernel
theorem dX12_makes_24 : decode cX12_makes 24 = .ok (.iconst (-1), 1) := by decide +kernel
theorem dX12_makes_25 : decode cX12_makes 25 = .ok (.if_icmp .eq 19, 3) := by decide +kernel
theorem dX12_makes_28 : decode cX12_makes 28 = .ok (.iload 4, 2) := by decide +kernel
theorem dX12_makes_30 : decode cX12_makes 30 = .ok (.iload_n 3, 1) := by decide +kernel
theorem dX12_makes_31 : decode cX12_makes 31 = .ok (.aload_n 0, 1) := by decide +kernel
theorem dX12_makes_32 : decode cX12_makes 32 = .ok (.getfield 9, 3) := by decide +kernel
theorem dX12_makes_35 : decode cX12_makes 35 = .ok (.bipush 122, 2) := by decide +kernel
theorem dX12_makes_37 : decode cX12_makes 37 = .ok (.iaload, 1) := by decide +kernel
theorem dX12_makes_38 : decode cX12_makes 38 = .ok (.iadd, 1) := by decide +kernel
theorem dX12_makes_39 : decode cX12_makes 39 = .ok (.invokestatic 269, 3) := by decide +kernel
theorem dX12_makes_42 : decode cX12_makes 42 = .ok (.istore 4, 2) := by decide +kernel
theorem dX12_makes_44 : decode cX12_makes 44 = .ok (.aload_n 0, 1) := by decide +kernel
theorem dX12_makes_45 : decode cX12_makes 45 = .ok (.getfield 9, 3) := by decide +kernel
theorem dX12_makes_48 : decode cX12_makes 48 = .ok (.bipush 124, 2) := by decide +kernel
theorem dX12_makes_50 : decode cX12_makes 50 = .ok (.iaload, 1) := by decide +kernel
theorem dX12_makes_51 : decode cX12_makes 51 = .ok (.iconst 1, 1) := by decide +kernel
theorem dX12_makes_52 : decode cX12_makes 52 = .ok (.if_icmp .ne 25, 3) := by decide +kernel
theorem dX12_makes_55 : decode cX12_makes 55 = .ok (.iload 4, 2) := by decide +kernel
theorem dX12_makes_57 : decode cX12_makes 57 = .ok (.iload_n 3, 1) := by decide +kernel
theorem dX12_makes_58 : decode cX12_makes 58 = .ok (.if_icmp .eq 19, 3) := by decide +kernel
theorem dX12_makes_61 : decode cX12_makes 61 = .ok (.iload 4, 2) := by decide +kernel
theorem dX12_makes_63 : decode cX12_makes 63 = .ok (.aload_n 0, 1) := by decide +kernel
theorem dX12_makes_64 : decode cX12_makes 64 = .ok (.getfield 9, 3) := by decide +kernel
theorem dX12_makes_67 : decode cX12_makes 67 = .ok (.bipush 8, 2) := by decide +kernel
theorem dX12_makes_69 : decode cX12_makes 69 = .ok (.iload_n 1, 1) := by decide +kernel
theorem dX12_makes_70 : decode cX12_makes 70 = .ok (.iadd, 1) := by decide +kernel
theorem dX12_makes_71 : decode cX12_makes 71 = .ok (.iaload, 1) := by decide +kernel
theorem dX12_makes_72 : decode cX12_makes 72 = .ok (.invokestatic 261, 3) := by decide +kernel
theorem dX12_makes_75 : decode cX12_makes 75 = .ok (.istore 4, 2) := by decide +kernel
theorem dX12_makes_77 : decode cX12_makes 77 = .ok (.iconst 0, 1) := by decide +kernel
theorem dX12_makes_78 : decode cX12_makes 78 = .ok (.bipush 99, 2) := by decide +kernel
theorem dX12_makes_80 : decode cX12_makes 80 = .ok (.iload 4, 2) := by decide +kernel
theorem dX12_makes_82 : decode cX12_makes 82 = .ok (.invokestatic 269, 3) := by decide +kernel
theorem dX12_makes_85 : decode cX12_makes 85 = .ok (.invokestatic 261, 3) := by decide +kernel
theorem dX12_makes_88 : decode cX12_makes 88 = .ok (.istore 4, 2) := by decide +kernel
theorem dX12_makes_90 : decode cX12_makes 90 = .ok (.iload 4, 2) := by decide +kernel
theorem dX12_makes_92 : decode cX12_makes 92 = .ok (.iload_n 3, 1) := by decide +kernel
theorem dX12_makes_93 : decode cX12_makes 93 = .ok (.if_icmp .ne 5, 3) := by decide +kernel
theorem dX12_makes_96 : decode cX12_makes 96 = .ok (.iload_n 3, 1) := by decide +kernel
theorem dX12_makes_97 : decode cX12_makes 97 = .ok (.ireturn, 1) := by decide +kernel
theorem dX12_makes_98 : decode cX12_makes 98 = .ok (.aload_n 0, 1) := by decide +kernel
theorem dX12_makes_99 : decode cX12_makes 99 = .ok (.getfield 9, 3) := by decide +kernel
theorem dX12_makes_102 : decode cX12_makes 102 = .ok (.bipush 121, 2) := by decide +kernel
theorem dX12_makes_104 : decode cX12_makes 104 = .ok (.iaload, 1) := by decide +kernel
theorem dX12_makes_105 : decode cX12_makes 105 = .ok (.ifCond .eq 21, 3) := by decide +kernel
theorem dX12_makes_108 : decode cX12_makes 108 = .ok (.aload_n 0, 1) := by decide +kernel
theorem dX12_makes_109 : decode cX12_makes 109 = .ok (.getfield 9, 3) := by decide +kernel
theorem dX12_makes_112 : decode cX12_makes 112 = .ok (.bipush 121, 2) := by decide +kernel
theorem dX12_makes_114 : decode cX12_makes 114 = .ok (.iaload, 1) := by decide +kernel
theorem dX12_makes_115 : decode cX12_makes 115 = .ok (.iload_n 2, 1) := by decide +kernel
theorem dX12_makes_116 : decode cX12_makes 116 = .ok (.bipush 24, 2) := by decide +kernel
theorem dX12_makes_118 : decode cX12_makes 118 = .ok (.irem, 1) := by decide +kernel
theorem dX12_makes_119 : decode cX12_makes 119 = .ok (.ishr, 1) := by decide +kernel
theorem dX12_makes_120 : decode cX12_makes 120 = .ok (.iconst 1, 1) := by decide +kernel
theorem dX12_makes_121 : decode cX12_makes 121 = .ok (.iand, 1) := by decide +kernel
theorem dX12_makes_122 : decode cX12_makes 122 = .ok (.iconst 1, 1) := by decide +kernel
theorem dX12_makes_123 : decode cX12_makes 123 = .ok (.if_icmp .ne 34, 3) := by decide +kernel
theorem dX12_makes_126 : decode cX12_makes 126 = .ok (.aload_n 0, 1) := by decide +kernel
theorem dX12_makes_127 : decode cX12_makes 127 = .ok (.getfield 9, 3) := by decide +kernel
theorem dX12_makes_130 : decode cX12_makes 130 = .ok (.bipush 120, 2) := by decide +kernel
theorem dX12_makes_132 : decode cX12_makes 132 = .ok (.iaload, 1) := by decide +kernel
theorem dX12_makes_133 : decode cX12_makes 133 = .ok (.iconst (-1), 1) := by decide +kernel
theorem dX12_makes_134 : decode cX12_makes 134 = .ok (.if_icmp .eq 19, 3) := by decide +kernel
theorem dX12_makes_137 : decode cX12_makes 137 = .ok (.aload_n 0, 1) := by decide +kernel
theorem dX12_makes_138 : decode cX12_makes 138 = .ok (.iload_n 1, 1) := by decide +kernel
theorem dX12_makes_139 : decode cX12_makes 139 = .ok (.iload_n 2, 1) := by decide +kernel
theorem dX12_makes_140 : decode cX12_makes 140 = .ok (.invokevirtual 275, 3) := by decide +kernel
theorem dX12_makes_143 : decode cX12_makes 143 = .ok (.aload_n 0, 1) := by decide +kernel
theorem dX12_makes_144 : decode cX12_makes 144 = .ok (.getfield 9, 3) := by decide +kernel
theorem dX12_makes_147 : decode cX12_makes 147 = .ok (.bipush 120, 2) := by decide +kernel
theorem dX12_makes_149 : decode cX12_makes 149 = .ok (.iaload, 1) := by decide +kernel
theorem dX12_makes_150 : decode cX12_makes 150 = .ok (.if_icmp .lt 7, 3) := by decide +kernel
theorem dX12_makes_153 : decode cX12_makes 153 = .ok (.iconst 1, 1) := by decide +kernel
theorem dX12_makes_154 : decode cX12_makes 154 = .ok (.goto 4, 3) := by decide +kernel
theorem dX12_makes_157 : decode cX12_makes 157 = .ok (.iconst 0, 1) := by decide +kernel
theorem dX12_makes_158 : decode cX12_makes 158 = .ok (.istore 5, 2) := by decide +kernel
theorem dX12_makes_160 : decode cX12_makes 160 = .ok (.iload 5, 2) := by decide +kernel
theorem dX12_makes_162 : decode cX12_makes 162 = .ok (.ifCond .eq 8, 3) := by decide +kernel
theorem dX12_makes_165 : decode cX12_makes 165 = .ok (.iload 4, 2) := by decide +kernel
theorem dX12_makes_167 : decode cX12_makes 167 = .ok (.goto 4, 3) := by decide +kernel
theorem dX12_makes_170 : decode cX12_makes 170 = .ok (.iload_n 3, 1) := by decide +kernel
theorem dX12_makes_171 : decode cX12_makes 171 = .ok (.ireturn, 1) := by decide +kernel
theorem dX12_where_0 : decode cX12_where 0 = .ok (.bipush 28, 2) := by decide +kernel
theorem dX12_where_2 : decode cX12_where 2 = .ok (.iconst 4, 1) := by decide +kernel
theorem dX12_where_3 : decode cX12_where 3 = .ok (.iload_n 1, 1) := by decide +kernel
theorem dX12_where_4 : decode cX12_where 4 = .ok (.imul, 1) := by decide +kernel
theorem dX12_where_5 : decode cX12_where 5 = .ok (.iadd, 1) := by decide +kernel
theorem dX12_where_6 : decode cX12_where 6 = .ok (.istore_n 2, 1) := by decide +kernel
theorem dX12_where_7 : decode cX12_where 7 = .ok (.aload_n 0, 1) := by decide +kernel
theorem dX12_where_8 : decode cX12_where 8 = .ok (.getfield 9, 3) := by decide +kernel
theorem dX12_where_11 : decode cX12_where 11 = .ok (.iload_n 2, 1) := by decide +kernel
theorem dX12_where_12 : decode cX12_where 12 = .ok (.iconst 1, 1) := by decide +kernel
theorem dX12_where_13 : decode cX12_where 13 = .ok (.iadd, 1) := by decide +kernel
theorem dX12_where_14 : decode cX12_where 14 = .ok (.iaload, 1) := by decide +kernel
theorem dX12_where_15 : decode cX12_where 15 = .ok (.istore_n 3, 1) := by decide +kernel
theorem dX12_where_16 : decode cX12_where 16 = .ok (.aload_n 0, 1) := by decide +kernel
theorem dX12_where_17 : decode cX12_where 17 = .ok (.getfield 43, 3) := by decide +kernel
theorem dX12_where_20 : decode cX12_where 20 = .ok (.iload_n 3, 1) := by decide +kernel
theorem dX12_where_21 : decode cX12_where 21 = .ok (.iaload, 1) := by decide +kernel
theorem dX12_where_22 : decode cX12_where 22 = .ok (.istore 4, 2) := by decide +kernel
theorem dX12_where_24 : decode cX12_where 24 = .ok (.iconst 0, 1) := by decide +kernel
theorem dX12_where_25 : decode cX12_where 25 = .ok (.istore 5, 2) := by decide +kernel
theorem dX12_where_27 : decode cX12_where 27 = .ok (.iload 5, 2) := by decide +kernel
theorem dX12_where_29 : decode cX12_where 29 = .ok (.aload_n 0, 1) := by decide +kernel
theorem dX12_where_30 : decode cX12_where 30 = .ok (.getfield 9, 3) := by decide +kernel
theorem dX12_where_33 : decode cX12_where 33 = .ok (.iconst 0, 1) := by decide +kernel
theorem dX12_where_34 : decode cX12_where 34 = .ok (.iaload, 1) := by decide +kernel
theorem dX12_where_35 : decode cX12_where 35 = .ok (.if_icmp .ge 107, 3) := by decide +kernel
theorem dX12_where_38 : decode cX12_where 38 = .ok (.aload_n 0, 1) := by decide +kernel
theorem dX12_where_39 : decode cX12_where 39 = .ok (.getfield 9, 3) := by decide +kernel
theorem dX12_where_42 : decode cX12_where 42 = .ok (.bipush 123, 2) := by decide +kernel
theorem dX12_where_44 : decode cX12_where 44 = .ok (.iaload, 1) := by decide +kernel
theorem dX12_where_45 : decode cX12_where 45 = .ok (.iconst 1, 1) := by decide +kernel
theorem dX12_where_46 : decode cX12_where 46 = .ok (.if_icmp .eq 20, 3) := by decide +kernel
theorem dX12_where_49 : decode cX12_where 49 = .ok (.aload_n 0, 1) := by decide +kernel
theorem dX12_where_50 : decode cX12_where 50 = .ok (.getfield 9, 3) := by decide +kernel
theorem dX12_where_53 : decode cX12_where 53 = .ok (.iload_n 2, 1) := by decide +kernel
theorem dX12_where_54 : decode cX12_where 54 = .ok (.iconst 2, 1) := by decide +kernel
theorem dX12_where_55 : decode cX12_where 55 = .ok (.iadd, 1) := by decide +kernel
theorem dX12_where_56 : decode cX12_where 56 = .ok (.iaload, 1) := by decide +kernel
theorem dX12_where_57 : decode cX12_where 57 = .ok (.iload 5, 2) := by decide +kernel
theorem dX12_where_59 : decode cX12_where 59 = .ok (.ishr, 1) := by decide +kernel
theorem dX12_where_60 : decode cX12_where 60 = .ok (.iconst 1, 1) := by decide +kernel
theorem dX12_where_61 : decode cX12_where 61 = .ok (.iand, 1) := by decide +kernel
theorem dX12_where_62 : decode cX12_where 62 = .ok (.iconst 1, 1) := by decide +kernel
theorem dX12_where_63 : decode cX12_where 63 = .ok (.if_icmp .ne 7, 3) := by decide +kernel
theorem dX12_where_66 : decode cX12_where 66 = .ok (.iconst 1, 1) := by decide +kernel
theorem dX12_where_67 : decode cX12_where 67 = .ok (.goto 4, 3) := by decide +kernel
theorem dX12_where_70 : decode cX12_where 70 = .ok (.iconst 0, 1) := by decide +kernel
theorem dX12_where_71 : decode cX12_where 71 = .ok (.istore 6, 2) := by decide +kernel
theorem dX12_where_73 : decode cX12_where 73 = .ok (.iload 5, 2) := by decide +kernel
theorem dX12_where_75 : decode cX12_where 75 = .ok (.aload_n 0, 1) := by decide +kernel
theorem dX12_where_76 : decode cX12_where 76 = .ok (.getfield 9, 3) := by decide +kernel
theorem dX12_where_79 : decode cX12_where 79 = .ok (.iload_n 2, 1) := by decide +kernel
theorem dX12_where_80 : decode cX12_where 80 = .ok (.iconst 1, 1) := by decide +kernel
theorem dX12_where_81 : decode cX12_where 81 = .ok (.iadd, 1) := by decide +kernel
theorem dX12_where_82 : decode cX12_where 82 = .ok (.iaload, 1) := by decide +kernel
theorem dX12_where_83 : decode cX12_where 83 = .ok (.if_icmp .eq 53, 3) := by decide +kernel
theorem dX12_where_86 : decode cX12_where 86 = .ok (.iload 6, 2) := by decide +kernel
theorem dX12_where_88 : decode cX12_where 88 = .ok (.ifCond .eq 48, 3) := by decide +kernel
theorem dX12_where_91 : decode cX12_where 91 = .ok (.aload_n 0, 1) := by decide +kernel
theorem dX12_where_92 : decode cX12_where 92 = .ok (.getfield 43, 3) := by decide +kernel
theorem dX12_where_95 : decode cX12_where 95 = .ok (.iload 5, 2) := by decide +kernel
theorem dX12_where_97 : decode cX12_where 97 = .ok (.iaload, 1) := by decide +kernel
theorem dX12_where_98 : decode cX12_where 98 = .ok (.aload_n 0, 1) := by decide +kernel
theorem dX12_where_99 : decode cX12_where 99 = .ok (.getfield 9, 3) := by decide +kernel
theorem dX12_where_102 : decode cX12_where 102 = .ok (.iload_n 2, 1) := by decide +kernel
theorem dX12_where_103 : decode cX12_where 103 = .ok (.iconst 3, 1) := by decide +kernel
theorem dX12_where_104 : decode cX12_where 104 = .ok (.iadd, 1) := by decide +kernel
theorem dX12_where_105 : decode cX12_where 105 = .ok (.iaload, 1) := by decide +kernel
theorem dX12_where_106 : decode cX12_where 106 = .ok (.iadd, 1) := by decide +kernel
theorem dX12_where_107 : decode cX12_where 107 = .ok (.iload 4, 2) := by decide +kernel
theorem dX12_where_109 : decode cX12_where 109 = .ok (.if_icmp .lt 6, 3) := by decide +kernel
theorem dX12_where_112 : decode cX12_where 112 = .ok (.goto 24, 3) := by decide +kernel
theorem dX12_where_115 : decode cX12_where 115 = .ok (.aload_n 0, 1) := by decide +kernel
theorem dX12_where_116 : decode cX12_where 116 = .ok (.getfield 43, 3) := by decide +kernel
theorem dX12_where_119 : decode cX12_where 119 = .ok (.iload 5, 2) := by decide +kernel
theorem dX12_where_121 : decode cX12_where 121 = .ok (.iaload, 1) := by decide +kernel
theorem dX12_where_122 : decode cX12_where 122 = .ok (.aload_n 0, 1) := by decide +kernel
theorem dX12_where_123 : decode cX12_where 123 = .ok (.getfield 9, 3) := by decide +kernel
theorem dX12_where_126 : decode cX12_where 126 = .ok (.iload_n 2, 1) := by decide +kernel
theorem dX12_where_127 : decode cX12_where 127 = .ok (.iconst 3, 1) := by decide +kernel
theorem dX12_where_128 : decode cX12_where 128 = .ok (.iadd, 1) := by decide +kernel
theorem dX12_where_129 : decode cX12_where 129 = .ok (.iaload, 1) := by decide +kernel
theorem dX12_where_130 : decode cX12_where 130 = .ok (.iadd, 1) := by decide +kernel
theorem dX12_where_131 : decode cX12_where 131 = .ok (.istore 4, 2) := by decide +kernel
theorem dX12_where_133 : decode cX12_where 133 = .ok (.iload 5, 2) := by decide +kernel
theorem dX12_where_135 : decode cX12_where 135 = .ok (.istore_n 3, 1) := by decide +kernel
theorem dX12_where_136 : decode cX12_where 136 = .ok (.iinc 5 1, 3) := by decide +kernel
theorem dX12_where_139 : decode cX12_where 139 = .ok (.goto (-112), 3) := by decide +kernel
theorem dX12_where_142 : decode cX12_where 142 = .ok (.iload_n 3, 1) := by decide +kernel
theorem dX12_where_143 : decode cX12_where 143 = .ok (.ireturn, 1) := by decide +kernel
theorem dX12_present_0 : decode cX12_present 0 = .ok (.iconst 0, 1) := by decide +kernel
theorem dX12_present_1 : decode cX12_present 1 = .ok (.istore_n 1, 1) := by decide +kernel
theorem dX12_present_2 : decode cX12_present 2 = .ok (.iload_n 1, 1) := by decide +kernel
theorem dX12_present_3 : decode cX12_present 3 = .ok (.iconst 4, 1) := by decide +kernel
theorem dX12_present_4 : decode cX12_present 4 = .ok (.if_icmp .ge 38, 3) := by decide +kernel
theorem dX12_present_7 : decode cX12_present 7 = .ok (.aload_n 0, 1) := by decide +kernel
theorem dX12_present_8 : decode cX12_present 8 = .ok (.getfield 43, 3) := by decide +kernel
theorem dX12_present_11 : decode cX12_present 11 = .ok (.iload_n 1, 1) := by decide +kernel
theorem dX12_present_12 : decode cX12_present 12 = .ok (.iload_n 1, 1) := by decide +kernel
theorem dX12_present_13 : decode cX12_present 13 = .ok (.aload_n 0, 1) := by decide +kernel
theorem dX12_present_14 : decode cX12_present 14 = .ok (.getfield 9, 3) := by decide +kernel
theorem dX12_present_17 : decode cX12_present 17 = .ok (.iconst 0, 1) := by decide +kernel
theorem dX12_present_18 : decode cX12_present 18 = .ok (.iaload, 1) := by decide +kernel
theorem dX12_present_19 : decode cX12_present 19 = .ok (.if_icmp .ge 15, 3) := by decide +kernel
theorem dX12_present_22 : decode cX12_present 22 = .ok (.aload_n 0, 1) := by decide +kernel
theorem dX12_present_23 : decode cX12_present 23 = .ok (.getfield 9, 3) := by decide +kernel
theorem dX12_present_26 : decode cX12_present 26 = .ok (.bipush 12, 2) := by decide +kernel
theorem dX12_present_28 : decode cX12_present 28 = .ok (.iload_n 1, 1) := by decide +kernel
theorem dX12_present_29 : decode cX12_present 29 = .ok (.iadd, 1) := by decide +kernel
theorem dX12_present_30 : decode cX12_present 30 = .ok (.iaload, 1) := by decide +kernel
theorem dX12_present_31 : decode cX12_present 31 = .ok (.goto 4, 3) := by decide +kernel
theorem dX12_present_34 : decode cX12_present 34 = .ok (.iconst 0, 1) := by decide +kernel
theorem dX12_present_35 : decode cX12_present 35 = .ok (.iastore, 1) := by decide +kernel
theorem dX12_present_36 : decode cX12_present 36 = .ok (.iinc 1 1, 3) := by decide +kernel
theorem dX12_present_39 : decode cX12_present 39 = .ok (.goto (-37), 3) := by decide +kernel
theorem dX12_present_42 : decode cX12_present 42 = .ok (.return_, 1) := by decide +kernel
theorem dX12_hour_0 : decode cX12_hour 0 = .ok (.aload_n 0, 1) := by decide +kernel
theorem dX12_hour_1 : decode cX12_hour 1 = .ok (.getfield 9, 3) := by decide +kernel
theorem dX12_hour_4 : decode cX12_hour 4 = .ok (.iconst 2, 1) := by decide +kernel
theorem dX12_hour_5 : decode cX12_hour 5 = .ok (.iaload, 1) := by decide +kernel
theorem dX12_hour_6 : decode cX12_hour 6 = .ok (.istore_n 1, 1) := by decide +kernel
theorem dX12_hour_7 : decode cX12_hour 7 = .ok (.aload_n 0, 1) := by decide +kernel
theorem dX12_hour_8 : decode cX12_hour 8 = .ok (.iconst 0, 1) := by decide +kernel
theorem dX12_hour_9 : decode cX12_hour 9 = .ok (.putfield 257, 3) := by decide +kernel
theorem dX12_hour_12 : decode cX12_hour 12 = .ok (.iconst 0, 1) := by decide +kernel
theorem dX12_hour_13 : decode cX12_hour 13 = .ok (.istore_n 2, 1) := by decide +kernel
theorem dX12_hour_14 : decode cX12_hour 14 = .ok (.iload_n 2, 1) := by decide +kernel
theorem dX12_hour_15 : decode cX12_hour 15 = .ok (.aload_n 0, 1) := by decide +kernel
theorem dX12_hour_16 : decode cX12_hour 16 = .ok (.getfield 9, 3) := by decide +kernel
theorem dX12_hour_19 : decode cX12_hour 19 = .ok (.iconst 0, 1) := by decide +kernel
theorem dX12_hour_20 : decode cX12_hour 20 = .ok (.iaload, 1) := by decide +kernel
theorem dX12_hour_21 : decode cX12_hour 21 = .ok (.if_icmp .ge 21, 3) := by decide +kernel
theorem dX12_hour_24 : decode cX12_hour 24 = .ok (.aload_n 0, 1) := by decide +kernel
theorem dX12_hour_25 : decode cX12_hour 25 = .ok (.getfield 46, 3) := by decide +kernel
theorem dX12_hour_28 : decode cX12_hour 28 = .ok (.iload_n 2, 1) := by decide +kernel
theorem dX12_hour_29 : decode cX12_hour 29 = .ok (.aload_n 0, 1) := by decide +kernel
theorem dX12_hour_30 : decode cX12_hour 30 = .ok (.iload_n 2, 1) := by decide +kernel
theorem dX12_hour_31 : decode cX12_hour 31 = .ok (.iload_n 1, 1) := by decide +kernel
theorem dX12_hour_32 : decode cX12_hour 32 = .ok (.invokevirtual 295, 3) := by decide +kernel
theorem dX12_hour_35 : decode cX12_hour 35 = .ok (.iastore, 1) := by decide +kernel
theorem dX12_hour_36 : decode cX12_hour 36 = .ok (.iinc 2 1, 3) := by decide +kernel
theorem dX12_hour_39 : decode cX12_hour 39 = .ok (.goto (-25), 3) := by decide +kernel
theorem dX12_hour_42 : decode cX12_hour 42 = .ok (.iconst 0, 1) := by decide +kernel
theorem dX12_hour_43 : decode cX12_hour 43 = .ok (.istore_n 2, 1) := by decide +kernel
theorem dX12_hour_44 : decode cX12_hour 44 = .ok (.iload_n 2, 1) := by decide +kernel
theorem dX12_hour_45 : decode cX12_hour 45 = .ok (.aload_n 0, 1) := by decide +kernel
theorem dX12_hour_46 : decode cX12_hour 46 = .ok (.getfield 9, 3) := by decide +kernel
theorem dX12_hour_49 : decode cX12_hour 49 = .ok (.iconst 0, 1) := by decide +kernel
theorem dX12_hour_50 : decode cX12_hour 50 = .ok (.iaload, 1) := by decide +kernel
theorem dX12_hour_51 : decode cX12_hour 51 = .ok (.if_icmp .ge 76, 3) := by decide +kernel
theorem dX12_hour_54 : decode cX12_hour 54 = .ok (.aload_n 0, 1) := by decide +kernel
theorem dX12_hour_55 : decode cX12_hour 55 = .ok (.getfield 46, 3) := by decide +kernel
theorem dX12_hour_58 : decode cX12_hour 58 = .ok (.iload_n 2, 1) := by decide +kernel
theorem dX12_hour_59 : decode cX12_hour 59 = .ok (.iaload, 1) := by decide +kernel
theorem dX12_hour_60 : decode cX12_hour 60 = .ok (.aload_n 0, 1) := by decide +kernel
theorem dX12_hour_61 : decode cX12_hour 61 = .ok (.getfield 9, 3) := by decide +kernel
theorem dX12_hour_64 : decode cX12_hour 64 = .ok (.bipush 12, 2) := by decide +kernel
theorem dX12_hour_66 : decode cX12_hour 66 = .ok (.iload_n 2, 1) := by decide +kernel
theorem dX12_hour_67 : decode cX12_hour 67 = .ok (.iadd, 1) := by decide +kernel
theorem dX12_hour_68 : decode cX12_hour 68 = .ok (.iaload, 1) := by decide +kernel
theorem dX12_hour_69 : decode cX12_hour 69 = .ok (.if_icmp .eq 13, 3) := by decide +kernel
theorem dX12_hour_72 : decode cX12_hour 72 = .ok (.aload_n 0, 1) := by decide +kernel
theorem dX12_hour_73 : decode cX12_hour 73 = .ok (.getfield 9, 3) := by decide +kernel
theorem dX12_hour_76 : decode cX12_hour 76 = .ok (.bipush 24, 2) := by decide +kernel
theorem dX12_hour_78 : decode cX12_hour 78 = .ok (.iload_n 2, 1) := by decide +kernel
theorem dX12_hour_79 : decode cX12_hour 79 = .ok (.iadd, 1) := by decide +kernel
theorem dX12_hour_80 : decode cX12_hour 80 = .ok (.iload_n 1, 1) := by decide +kernel
theorem dX12_hour_81 : decode cX12_hour 81 = .ok (.iastore, 1) := by decide +kernel
theorem dX12_hour_82 : decode cX12_hour 82 = .ok (.aload_n 0, 1) := by decide +kernel
theorem dX12_hour_83 : decode cX12_hour 83 = .ok (.getfield 9, 3) := by decide +kernel
theorem dX12_hour_86 : decode cX12_hour 86 = .ok (.bipush 12, 2) := by decide +kernel
theorem dX12_hour_88 : decode cX12_hour 88 = .ok (.iload_n 2, 1) := by decide +kernel
theorem dX12_hour_89 : decode cX12_hour 89 = .ok (.iadd, 1) := by decide +kernel
theorem dX12_hour_90 : decode cX12_hour 90 = .ok (.aload_n 0, 1) := by decide +kernel
theorem dX12_hour_91 : decode cX12_hour 91 = .ok (.getfield 46, 3) := by decide +kernel
theorem dX12_hour_94 : decode cX12_hour 94 = .ok (.iload_n 2, 1) := by decide +kernel
theorem dX12_hour_95 : decode cX12_hour 95 = .ok (.iaload, 1) := by decide +kernel
theorem dX12_hour_96 : decode cX12_hour 96 = .ok (.iastore, 1) := by decide +kernel
theorem dX12_hour_97 : decode cX12_hour 97 = .ok (.aload_n 0, 1) := by decide +kernel
theorem dX12_hour_98 : decode cX12_hour 98 = .ok (.getfield 9, 3) := by decide +kernel
theorem dX12_hour_101 : decode cX12_hour 101 = .ok (.sipush 1885, 3) := by decide +kernel
theorem dX12_hour_104 : decode cX12_hour 104 = .ok (.iconst 4, 1) := by decide +kernel
theorem dX12_hour_105 : decode cX12_hour 105 = .ok (.iload_n 1, 1) := by decide +kernel
theorem dX12_hour_106 : decode cX12_hour 106 = .ok (.sipush 256, 3) := by decide +kernel
theorem dX12_hour_109 : decode cX12_hour 109 = .ok (.irem, 1) := by decide +kernel
theorem dX12_hour_110 : decode cX12_hour 110 = .ok (.imul, 1) := by decide +kernel
theorem dX12_hour_111 : decode cX12_hour 111 = .ok (.iadd, 1) := by decide +kernel
theorem dX12_hour_112 : decode cX12_hour 112 = .ok (.iload_n 2, 1) := by decide +kernel
theorem dX12_hour_113 : decode cX12_hour 113 = .ok (.iadd, 1) := by decide +kernel
theorem dX12_hour_114 : decode cX12_hour 114 = .ok (.aload_n 0, 1) := by decide +kernel
theorem dX12_hour_115 : decode cX12_hour 115 = .ok (.getfield 46, 3) := by decide +kernel
theorem dX12_hour_118 : decode cX12_hour 118 = .ok (.iload_n 2, 1) := by decide +kernel
theorem dX12_hour_119 : decode cX12_hour 119 = .ok (.iaload, 1) := by decide +kernel
theorem dX12_hour_120 : decode cX12_hour 120 = .ok (.iastore, 1) := by decide +kernel
theorem dX12_hour_121 : decode cX12_hour 121 = .ok (.iinc 2 1, 3) := by decide +kernel
theorem dX12_hour_124 : decode cX12_hour 124 = .ok (.goto (-80), 3) := by decide +kernel
theorem dX12_hour_127 : decode cX12_hour 127 = .ok (.aload_n 0, 1) := by decide +kernel
theorem dX12_hour_128 : decode cX12_hour 128 = .ok (.invokevirtual 298, 3) := by decide +kernel
theorem dX12_hour_131 : decode cX12_hour 131 = .ok (.iconst 0, 1) := by decide +kernel
theorem dX12_hour_132 : decode cX12_hour 132 = .ok (.istore_n 2, 1) := by decide +kernel
theorem dX12_hour_133 : decode cX12_hour 133 = .ok (.iload_n 2, 1) := by decide +kernel
theorem dX12_hour_134 : decode cX12_hour 134 = .ok (.aload_n 0, 1) := by decide +kernel
theorem dX12_hour_135 : decode cX12_hour 135 = .ok (.getfield 9, 3) := by decide +kernel
theorem dX12_hour_138 : decode cX12_hour 138 = .ok (.iconst 1, 1) := by decide +kernel
theorem dX12_hour_139 : decode cX12_hour 139 = .ok (.iaload, 1) := by decide +kernel
theorem dX12_hour_140 : decode cX12_hour 140 = .ok (.if_icmp .ge 91, 3) := by decide +kernel
theorem dX12_hour_143 : decode cX12_hour 143 = .ok (.aload_n 0, 1) := by decide +kernel
theorem dX12_hour_144 : decode cX12_hour 144 = .ok (.iload_n 2, 1) := by decide +kernel
theorem dX12_hour_145 : decode cX12_hour 145 = .ok (.invokevirtual 301, 3) := by decide +kernel
theorem dX12_hour_148 : decode cX12_hour 148 = .ok (.istore_n 3, 1) := by decide +kernel
theorem dX12_hour_149 : decode cX12_hour 149 = .ok (.aload_n 0, 1) := by decide +kernel
theorem dX12_hour_150 : decode cX12_hour 150 = .ok (.getfield 9, 3) := by decide +kernel
theorem dX12_hour_153 : decode cX12_hour 153 = .ok (.bipush 28, 2) := by decide +kernel
theorem dX12_hour_155 : decode cX12_hour 155 = .ok (.iconst 4, 1) := by decide +kernel
theorem dX12_hour_156 : decode cX12_hour 156 = .ok (.iload_n 2, 1) := by decide +kernel
theorem dX12_hour_157 : decode cX12_hour 157 = .ok (.imul, 1) := by decide +kernel
theorem dX12_hour_158 : decode cX12_hour 158 = .ok (.iadd, 1) := by decide +kernel
theorem dX12_hour_159 : decode cX12_hour 159 = .ok (.iaload, 1) := by decide +kernel
theorem dX12_hour_160 : decode cX12_hour 160 = .ok (.istore 4, 2) := by decide +kernel
theorem dX12_hour_162 : decode cX12_hour 162 = .ok (.aload_n 0, 1) := by decide +kernel
theorem dX12_hour_163 : decode cX12_hour 163 = .ok (.getfield 16, 3) := by decide +kernel
theorem dX12_hour_166 : decode cX12_hour 166 = .ok (.iload_n 3, 1) := by decide +kernel
theorem dX12_hour_167 : decode cX12_hour 167 = .ok (.dup2, 1) := by decide +kernel
theorem dX12_hour_168 : decode cX12_hour 168 = .ok (.laload, 1) := by decide +kernel
theorem dX12_hour_169 : decode cX12_hour 169 = .ok (.iload 4, 2) := by decide +kernel
theorem dX12_hour_171 : decode cX12_hour 171 = .ok (.aload_n 0, 1) := by decide +kernel
theorem dX12_hour_172 : decode cX12_hour 172 = .ok (.getfield 43, 3) := by decide +kernel
theorem dX12_hour_175 : decode cX12_hour 175 = .ok (.iload_n 3, 1) := by decide +kernel
theorem dX12_hour_176 : decode cX12_hour 176 = .ok (.iaload, 1) := by decide +kernel
theorem dX12_hour_177 : decode cX12_hour 177 = .ok (.aload_n 0, 1) := by decide +kernel
theorem dX12_hour_178 : decode cX12_hour 178 = .ok (.getfield 9, 3) := by decide +kernel
theorem dX12_hour_181 : decode cX12_hour 181 = .ok (.bipush 8, 2) := by decide +kernel
theorem dX12_hour_183 : decode cX12_hour 183 = .ok (.iload_n 3, 1) := by decide +kernel
theorem dX12_hour_184 : decode cX12_hour 184 = .ok (.iadd, 1) := by decide +kernel
theorem dX12_hour_185 : decode cX12_hour 185 = .ok (.iaload, 1) := by decide +kernel
theorem dX12_hour_186 : decode cX12_hour 186 = .ok (.isub, 1) := by decide +kernel
theorem dX12_hour_187 : decode cX12_hour 187 = .ok (.imul, 1) := by decide +kernel
theorem dX12_hour_188 : decode cX12_hour 188 = .ok (.i2l, 1) := by decide +kernel
theorem dX12_hour_189 : decode cX12_hour 189 = .ok (.ladd, 1) := by decide +kernel
theorem dX12_hour_190 : decode cX12_hour 190 = .ok (.lastore, 1) := by decide +kernel
theorem dX12_hour_191 : decode cX12_hour 191 = .ok (.aload_n 0, 1) := by decide +kernel
theorem dX12_hour_192 : decode cX12_hour 192 = .ok (.getfield 16, 3) := by decide +kernel
theorem dX12_hour_195 : decode cX12_hour 195 = .ok (.iconst 4, 1) := by decide +kernel
theorem dX12_hour_196 : decode cX12_hour 196 = .ok (.iload_n 3, 1) := by decide +kernel
theorem dX12_hour_197 : decode cX12_hour 197 = .ok (.iadd, 1) := by decide +kernel
theorem dX12_hour_198 : decode cX12_hour 198 = .ok (.dup2, 1) := by decide +kernel
theorem dX12_hour_199 : decode cX12_hour 199 = .ok (.laload, 1) := by decide +kernel
theorem dX12_hour_200 : decode cX12_hour 200 = .ok (.iload 4, 2) := by decide +kernel
theorem dX12_hour_202 : decode cX12_hour 202 = .ok (.i2l, 1) := by decide +kernel
theorem dX12_hour_203 : decode cX12_hour 203 = .ok (.ladd, 1) := by decide +kernel
theorem dX12_hour_204 : decode cX12_hour 204 = .ok (.lastore, 1) := by decide +kernel
theorem dX12_hour_205 : decode cX12_hour 205 = .ok (.aload_n 0, 1) := by decide +kernel
theorem dX12_hour_206 : decode cX12_hour 206 = .ok (.getfield 16, 3) := by decide +kernel
theorem dX12_hour_209 : decode cX12_hour 209 = .ok (.bipush 8, 2) := by decide +kernel
theorem dX12_hour_211 : decode cX12_hour 211 = .ok (.dup2, 1) := by decide +kernel
theorem dX12_hour_212 : decode cX12_hour 212 = .ok (.laload, 1) := by decide +kernel
theorem dX12_hour_213 : decode cX12_hour 213 = .ok (.iload 4, 2) := by decide +kernel
theorem dX12_hour_215 : decode cX12_hour 215 = .ok (.aload_n 0, 1) := by decide +kernel
theorem dX12_hour_216 : decode cX12_hour 216 = .ok (.getfield 43, 3) := by decide +kernel
theorem dX12_hour_219 : decode cX12_hour 219 = .ok (.iload_n 3, 1) := by decide +kernel
theorem dX12_hour_220 : decode cX12_hour 220 = .ok (.iaload, 1) := by decide +kernel
theorem dX12_hour_221 : decode cX12_hour 221 = .ok (.imul, 1) := by decide +kernel
theorem dX12_hour_222 : decode cX12_hour 222 = .ok (.i2l, 1) := by decide +kernel
theorem dX12_hour_223 : decode cX12_hour 223 = .ok (.ladd, 1) := by decide +kernel
theorem dX12_hour_224 : decode cX12_hour 224 = .ok (.lastore, 1) := by decide +kernel
theorem dX12_hour_225 : decode cX12_hour 225 = .ok (.iinc 2 1, 3) := by decide +kernel
theorem dX12_hour_228 : decode cX12_hour 228 = .ok (.goto (-95), 3) := by decide +kernel
theorem dX12_hour_231 : decode cX12_hour 231 = .ok (.aload_n 0, 1) := by decide +kernel
theorem dX12_hour_232 : decode cX12_hour 232 = .ok (.getfield 9, 3) := by decide +kernel
theorem dX12_hour_235 : decode cX12_hour 235 = .ok (.iconst 2, 1) := by decide +kernel
theorem dX12_hour_236 : decode cX12_hour 236 = .ok (.dup2, 1) := by decide +kernel
theorem dX12_hour_237 : decode cX12_hour 237 = .ok (.iaload, 1) := by decide +kernel
theorem dX12_hour_238 : decode cX12_hour 238 = .ok (.iconst 1, 1) := by decide +kernel
theorem dX12_hour_239 : decode cX12_hour 239 = .ok (.iadd, 1) := by decide +kernel
theorem dX12_hour_240 : decode cX12_hour 240 = .ok (.iastore, 1) := by decide +kernel
theorem dX12_hour_241 : decode cX12_hour 241 = .ok (.return_, 1) := by decide +kernel
theorem dX12_run_0 : decode cX12_run 0 = .ok (.aload_n 0, 1) := by decide +kernel
theorem dX12_run_1 : decode cX12_run 1 = .ok (.iconst 0, 1) := by decide +kernel
theorem dX12_run_2 : decode cX12_run 2 = .ok (.putfield 76, 3) := by decide +kernel
theorem dX12_run_5 : decode cX12_run 5 = .ok (.iload_n 1, 1) := by decide +kernel
theorem dX12_run_6 : decode cX12_run 6 = .ok (.i2l, 1) := by decide +kernel
theorem dX12_run_7 : decode cX12_run 7 = .ok (.lconst 0, 1) := by decide +kernel
theorem dX12_run_8 : decode cX12_run 8 = .ok (.ldc2_w 304, 3) := by decide +kernel
theorem dX12_run_11 : decode cX12_run 11 = .ok (.invokestatic 79, 3) := by decide +kernel
theorem dX12_run_14 : decode cX12_run 14 = .ok (.ifCond .ne 9, 3) := by decide +kernel
theorem dX12_run_17 : decode cX12_run 17 = .ok (.aload_n 0, 1) := by decide +kernel
theorem dX12_run_18 : decode cX12_run 18 = .ok (.iconst 1, 1) := by decide +kernel
theorem dX12_run_19 : decode cX12_run 19 = .ok (.invokevirtual 83, 3) := by decide +kernel
theorem dX12_run_22 : decode cX12_run 22 = .ok (.ireturn, 1) := by decide +kernel
theorem dX12_run_23 : decode cX12_run 23 = .ok (.iload_n 1, 1) := by decide +kernel
theorem dX12_run_24 : decode cX12_run 24 = .ok (.sipush 3000, 3) := by decide +kernel
theorem dX12_run_27 : decode cX12_run 27 = .ok (.aload_n 0, 1) := by decide +kernel
theorem dX12_run_28 : decode cX12_run 28 = .ok (.getfield 9, 3) := by decide +kernel
theorem dX12_run_31 : decode cX12_run 31 = .ok (.iconst 2, 1) := by decide +kernel
theorem dX12_run_32 : decode cX12_run 32 = .ok (.iaload, 1) := by decide +kernel
theorem dX12_run_33 : decode cX12_run 33 = .ok (.isub, 1) := by decide +kernel
theorem dX12_run_34 : decode cX12_run 34 = .ok (.invokestatic 269, 3) := by decide +kernel
theorem dX12_run_37 : decode cX12_run 37 = .ok (.istore_n 2, 1) := by decide +kernel
theorem dX12_run_38 : decode cX12_run 38 = .ok (.iconst 0, 1) := by decide +kernel
theorem dX12_run_39 : decode cX12_run 39 = .ok (.istore_n 3, 1) := by decide +kernel
theorem dX12_run_40 : decode cX12_run 40 = .ok (.iload_n 3, 1) := by decide +kernel
theorem dX12_run_41 : decode cX12_run 41 = .ok (.iload_n 2, 1) := by decide +kernel
theorem dX12_run_42 : decode cX12_run 42 = .ok (.if_icmp .ge 13, 3) := by decide +kernel
theorem dX12_run_45 : decode cX12_run 45 = .ok (.aload_n 0, 1) := by decide +kernel
theorem dX12_run_46 : decode cX12_run 46 = .ok (.invokevirtual 306, 3) := by decide +kernel
theorem dX12_run_49 : decode cX12_run 49 = .ok (.iinc 3 1, 3) := by decide +kernel
theorem dX12_run_52 : decode cX12_run 52 = .ok (.goto (-12), 3) := by decide +kernel
theorem dX12_run_55 : decode cX12_run 55 = .ok (.iload_n 2, 1) := by decide +kernel
theorem dX12_run_56 : decode cX12_run 56 = .ok (.ireturn, 1) := by decide +kernel
theorem dX12_price_0 : decode cX12_price 0 = .ok (.aload_n 0, 1) := by decide +kernel
theorem dX12_price_1 : decode cX12_price 1 = .ok (.iconst 0, 1) := by decide +kernel
theorem dX12_price_2 : decode cX12_price 2 = .ok (.putfield 76, 3) := by decide +kernel
theorem dX12_price_5 : decode cX12_price 5 = .ok (.aload_n 0, 1) := by decide +kernel
theorem dX12_price_6 : decode cX12_price 6 = .ok (.iload_n 1, 1) := by decide +kernel
theorem dX12_price_7 : decode cX12_price 7 = .ok (.invokevirtual 91, 3) := by decide +kernel
theorem dX12_price_10 : decode cX12_price 10 = .ok (.ifCond .eq 15, 3) := by decide +kernel
theorem dX12_price_13 : decode cX12_price 13 = .ok (.aload_n 0, 1) := by decide +kernel
theorem dX12_price_14 : decode cX12_price 14 = .ok (.getfield 9, 3) := by decide +kernel
theorem dX12_price_17 : decode cX12_price 17 = .ok (.bipush 12, 2) := by decide +kernel
theorem dX12_price_19 : decode cX12_price 19 = .ok (.iload_n 1, 1) := by decide +kernel
theorem dX12_price_20 : decode cX12_price 20 = .ok (.iadd, 1) := by decide +kernel
theorem dX12_price_21 : decode cX12_price 21 = .ok (.iaload, 1) := by decide +kernel
theorem dX12_price_22 : decode cX12_price 22 = .ok (.goto 8, 3) := by decide +kernel
theorem dX12_price_25 : decode cX12_price 25 = .ok (.aload_n 0, 1) := by decide +kernel
theorem dX12_price_26 : decode cX12_price 26 = .ok (.iconst 1, 1) := by decide +kernel
theorem dX12_price_27 : decode cX12_price 27 = .ok (.invokevirtual 83, 3) := by decide +kernel
theorem dX12_price_30 : decode cX12_price 30 = .ok (.ireturn, 1) := by decide +kernel
theorem dX12_isBoard_0 : decode cX12_isBoard 0 = .ok (.iload_n 1, 1) := by decide +kernel
theorem dX12_isBoard_1 : decode cX12_isBoard 1 = .ok (.i2l, 1) := by decide +kernel
theorem dX12_isBoard_2 : decode cX12_isBoard 2 = .ok (.iconst 0, 1) := by decide +kernel
theorem dX12_isBoard_3 : decode cX12_isBoard 3 = .ok (.aload_n 0, 1) := by decide +kernel
theorem dX12_isBoard_4 : decode cX12_isBoard 4 = .ok (.getfield 9, 3) := by decide +kernel
theorem dX12_isBoard_7 : decode cX12_isBoard 7 = .ok (.iconst 2, 1) := by decide +kernel
theorem dX12_isBoard_8 : decode cX12_isBoard 8 = .ok (.iaload, 1) := by decide +kernel
theorem dX12_isBoard_9 : decode cX12_isBoard 9 = .ok (.sipush 256, 3) := by decide +kernel
theorem dX12_isBoard_12 : decode cX12_isBoard 12 = .ok (.isub, 1) := by decide +kernel
theorem dX12_isBoard_13 : decode cX12_isBoard 13 = .ok (.invokestatic 261, 3) := by decide +kernel
theorem dX12_isBoard_16 : decode cX12_isBoard 16 = .ok (.i2l, 1) := by decide +kernel
theorem dX12_isBoard_17 : decode cX12_isBoard 17 = .ok (.aload_n 0, 1) := by decide +kernel
theorem dX12_isBoard_18 : decode cX12_isBoard 18 = .ok (.getfield 9, 3) := by decide +kernel
theorem dX12_isBoard_21 : decode cX12_isBoard 21 = .ok (.iconst 2, 1) := by decide +kernel
theorem dX12_isBoard_22 : decode cX12_isBoard 22 = .ok (.iaload, 1) := by decide +kernel
theorem dX12_isBoard_23 : decode cX12_isBoard 23 = .ok (.iconst 1, 1) := by decide +kernel
theorem dX12_isBoard_24 : decode cX12_isBoard 24 = .ok (.isub, 1) := by decide +kernel
theorem dX12_isBoard_25 : decode cX12_isBoard 25 = .ok (.i2l, 1) := by decide +kernel
theorem dX12_isBoard_26 : decode cX12_isBoard 26 = .ok (.invokestatic 79, 3) := by decide +kernel
theorem dX12_isBoard_29 : decode cX12_isBoard 29 = .ok (.ireturn, 1) := by decide +kernel
theorem dX12_boardOf_0 : decode cX12_boardOf 0 = .ok (.aload_n 0, 1) := by decide +kernel
theorem dX12_boardOf_1 : decode cX12_boardOf 1 = .ok (.getfield 9, 3) := by decide +kernel
theorem dX12_boardOf_4 : decode cX12_boardOf 4 = .ok (.sipush 1885, 3) := by decide +kernel
theorem dX12_boardOf_7 : decode cX12_boardOf 7 = .ok (.iconst 4, 1) := by decide +kernel
theorem dX12_boardOf_8 : decode cX12_boardOf 8 = .ok (.iload_n 2, 1) := by decide +kernel
theorem dX12_boardOf_9 : decode cX12_boardOf 9 = .ok (.sipush 256, 3) := by decide +kernel
theorem dX12_boardOf_12 : decode cX12_boardOf 12 = .ok (.irem, 1) := by decide +kernel
theorem dX12_boardOf_13 : decode cX12_boardOf 13 = .ok (.imul, 1) := by decide +kernel
theorem dX12_boardOf_14 : decode cX12_boardOf 14 = .ok (.iadd, 1) := by decide +kernel
theorem dX12_boardOf_15 : decode cX12_boardOf 15 = .ok (.iload_n 1, 1) := by decide +kernel
theorem dX12_boardOf_16 : decode cX12_boardOf 16 = .ok (.iadd, 1) := by decide +kernel
theorem dX12_boardOf_17 : decode cX12_boardOf 17 = .ok (.iaload, 1) := by decide +kernel
theorem dX12_boardOf_18 : decode cX12_boardOf 18 = .ok (.ireturn, 1) := by decide +kernel
theorem dX12_board_0 : decode cX12_board 0 = .ok (.aload_n 0, 1) := by decide +kernel
theorem dX12_board_1 : decode cX12_board 1 = .ok (.iconst 0, 1) := by decide +kernel
theorem dX12_board_2 : decode cX12_board 2 = .ok (.putfield 76, 3) := by decide +kernel
theorem dX12_board_5 : decode cX12_board 5 = .ok (.aload_n 0, 1) := by decide +kernel
theorem dX12_board_6 : decode cX12_board 6 = .ok (.iload_n 1, 1) := by decide +kernel
theorem dX12_board_7 : decode cX12_board 7 = .ok (.invokevirtual 91, 3) := by decide +kernel
theorem dX12_board_10 : decode cX12_board 10 = .ok (.ifCond .eq 20, 3) := by decide +kernel
theorem dX12_board_13 : decode cX12_board 13 = .ok (.aload_n 0, 1) := by decide +kernel
theorem dX12_board_14 : decode cX12_board 14 = .ok (.iload_n 2, 1) := by decide +kernel
theorem dX12_board_15 : decode cX12_board 15 = .ok (.invokevirtual 308, 3) := by decide +kernel
theorem dX12_board_18 : decode cX12_board 18 = .ok (.ifCond .eq 12, 3) := by decide +kernel
theorem dX12_board_21 : decode cX12_board 21 = .ok (.aload_n 0, 1) := by decide +kernel
theorem dX12_board_22 : decode cX12_board 22 = .ok (.iload_n 1, 1) := by decide +kernel
theorem dX12_board_23 : decode cX12_board 23 = .ok (.iload_n 2, 1) := by decide +kernel
theorem dX12_board_24 : decode cX12_board 24 = .ok (.invokevirtual 311, 3) := by decide +kernel
theorem dX12_board_27 : decode cX12_board 27 = .ok (.goto 8, 3) := by decide +kernel
theorem dX12_board_30 : decode cX12_board 30 = .ok (.aload_n 0, 1) := by decide +kernel
theorem dX12_board_31 : decode cX12_board 31 = .ok (.iconst 1, 1) := by decide +kernel
theorem dX12_board_32 : decode cX12_board 32 = .ok (.invokevirtual 83, 3) := by decide +kernel
theorem dX12_board_35 : decode cX12_board 35 = .ok (.ireturn, 1) := by decide +kernel
theorem dX12_would_0 : decode cX12_would 0 = .ok (.aload_n 0, 1) := by decide +kernel
theorem dX12_would_1 : decode cX12_would 1 = .ok (.iconst 0, 1) := by decide +kernel
theorem dX12_would_2 : decode cX12_would 2 = .ok (.putfield 76, 3) := by decide +kernel
theorem dX12_would_5 : decode cX12_would 5 = .ok (.aload_n 0, 1) := by decide +kernel
theorem dX12_would_6 : decode cX12_would 6 = .ok (.iload_n 1, 1) := by decide +kernel
theorem dX12_would_7 : decode cX12_would 7 = .ok (.invokevirtual 91, 3) := by decide +kernel
theorem dX12_would_10 : decode cX12_would 10 = .ok (.ifCond .ne 9, 3) := by decide +kernel
theorem dX12_would_13 : decode cX12_would 13 = .ok (.aload_n 0, 1) := by decide +kernel
theorem dX12_would_14 : decode cX12_would 14 = .ok (.iconst 1, 1) := by decide +kernel
theorem dX12_would_15 : decode cX12_would 15 = .ok (.invokevirtual 83, 3) := by decide +kernel
theorem dX12_would_18 : decode cX12_would 18 = .ok (.ireturn, 1) := by decide +kernel
theorem dX12_would_19 : decode cX12_would 19 = .ok (.aload_n 0, 1) := by decide +kernel
theorem dX12_would_20 : decode cX12_would 20 = .ok (.iconst 0, 1) := by decide +kernel
theorem dX12_would_21 : decode cX12_would 21 = .ok (.putfield 257, 3) := by decide +kernel
theorem dX12_would_24 : decode cX12_would 24 = .ok (.aload_n 0, 1) := by decide +kernel
theorem dX12_would_25 : decode cX12_would 25 = .ok (.iload_n 1, 1) := by decide +kernel
theorem dX12_would_26 : decode cX12_would 26 = .ok (.aload_n 0, 1) := by decide +kernel
theorem dX12_would_27 : decode cX12_would 27 = .ok (.getfield 9, 3) := by decide +kernel
theorem dX12_would_30 : decode cX12_would 30 = .ok (.iconst 2, 1) := by decide +kernel
theorem dX12_would_31 : decode cX12_would 31 = .ok (.iaload, 1) := by decide +kernel
theorem dX12_would_32 : decode cX12_would 32 = .ok (.invokevirtual 295, 3) := by decide +kernel
theorem dX12_would_35 : decode cX12_would 35 = .ok (.ireturn, 1) := by decide +kernel
theorem dX12_of_0 : decode cX12_of 0 = .ok (.aload_n 0, 1) := by decide +kernel
theorem dX12_of_1 : decode cX12_of 1 = .ok (.iconst 0, 1) := by decide +kernel
theorem dX12_of_2 : decode cX12_of 2 = .ok (.putfield 76, 3) := by decide +kernel
theorem dX12_of_5 : decode cX12_of 5 = .ok (.aload_n 0, 1) := by decide +kernel
theorem dX12_of_6 : decode cX12_of 6 = .ok (.iload_n 1, 1) := by decide +kernel
theorem dX12_of_7 : decode cX12_of 7 = .ok (.invokevirtual 91, 3) := by decide +kernel
theorem dX12_of_10 : decode cX12_of 10 = .ok (.ifCond .ne 10, 3) := by decide +kernel
theorem dX12_of_13 : decode cX12_of 13 = .ok (.aload_n 0, 1) := by decide +kernel
theorem dX12_of_14 : decode cX12_of 14 = .ok (.iconst 1, 1) := by decide +kernel
theorem dX12_of_15 : decode cX12_of 15 = .ok (.invokevirtual 83, 3) := by decide +kernel
theorem dX12_of_18 : decode cX12_of 18 = .ok (.i2l, 1) := by decide +kernel
theorem dX12_of_19 : decode cX12_of 19 = .ok (.lreturn, 1) := by decide +kernel
theorem dX12_of_20 : decode cX12_of 20 = .ok (.iload_n 2, 1) := by decide +kernel
theorem dX12_of_21 : decode cX12_of 21 = .ok (.i2l, 1) := by decide +kernel
theorem dX12_of_22 : decode cX12_of 22 = .ok (.lconst 0, 1) := by decide +kernel
theorem dX12_of_23 : decode cX12_of 23 = .ok (.ldc2_w 314, 3) := by decide +kernel
theorem dX12_of_26 : decode cX12_of 26 = .ok (.invokestatic 79, 3) := by decide +kernel
theorem dX12_of_29 : decode cX12_of 29 = .ok (.ifCond .ne 10, 3) := by decide +kernel
theorem dX12_of_32 : decode cX12_of 32 = .ok (.aload_n 0, 1) := by decide +kernel
theorem dX12_of_33 : decode cX12_of 33 = .ok (.iconst 2, 1) := by decide +kernel
theorem dX12_of_34 : decode cX12_of 34 = .ok (.invokevirtual 83, 3) := by decide +kernel
theorem dX12_of_37 : decode cX12_of 37 = .ok (.i2l, 1) := by decide +kernel
theorem dX12_of_38 : decode cX12_of 38 = .ok (.lreturn, 1) := by decide +kernel
theorem dX12_of_39 : decode cX12_of 39 = .ok (.aload_n 0, 1) := by decide +kernel
theorem dX12_of_40 : decode cX12_of 40 = .ok (.iconst 0, 1) := by decide +kernel
theorem dX12_of_41 : decode cX12_of 41 = .ok (.putfield 257, 3) := by decide +kernel
theorem dX12_of_44 : decode cX12_of 44 = .ok (.iload_n 2, 1) := by decide +kernel
theorem dX12_of_45 : decode cX12_of 45 = .ok (.iconst 2, 1) := by decide +kernel
theorem dX12_of_46 : decode cX12_of 46 = .ok (.if_icmp .ne 18, 3) := by decide +kernel
theorem dX12_of_49 : decode cX12_of 49 = .ok (.aload_n 0, 1) := by decide +kernel
theorem dX12_of_50 : decode cX12_of 50 = .ok (.iload_n 1, 1) := by decide +kernel
theorem dX12_of_51 : decode cX12_of 51 = .ok (.aload_n 0, 1) := by decide +kernel
theorem dX12_of_52 : decode cX12_of 52 = .ok (.getfield 9, 3) := by decide +kernel
theorem dX12_of_55 : decode cX12_of 55 = .ok (.iconst 2, 1) := by decide +kernel
theorem dX12_of_56 : decode cX12_of 56 = .ok (.iaload, 1) := by decide +kernel
theorem dX12_of_57 : decode cX12_of 57 = .ok (.invokevirtual 275, 3) := by decide +kernel
theorem dX12_of_60 : decode cX12_of 60 = .ok (.i2l, 1) := by decide +kernel
theorem dX12_of_61 : decode cX12_of 61 = .ok (.goto 13, 3) := by decide +kernel
theorem dX12_of_64 : decode cX12_of 64 = .ok (.aload_n 0, 1) := by decide +kernel
theorem dX12_of_65 : decode cX12_of 65 = .ok (.getfield 16, 3) := by decide +kernel
theorem dX12_of_68 : decode cX12_of 68 = .ok (.iconst 4, 1) := by decide +kernel
theorem dX12_of_69 : decode cX12_of 69 = .ok (.iload_n 2, 1) := by decide +kernel
theorem dX12_of_70 : decode cX12_of 70 = .ok (.imul, 1) := by decide +kernel
theorem dX12_of_71 : decode cX12_of 71 = .ok (.iload_n 1, 1) := by decide +kernel
theorem dX12_of_72 : decode cX12_of 72 = .ok (.iadd, 1) := by decide +kernel
theorem dX12_of_73 : decode cX12_of 73 = .ok (.laload, 1) := by decide +kernel
theorem dX12_of_74 : decode cX12_of 74 = .ok (.lreturn, 1) := by decide +kernel
theorem dX12_fills_0 : decode cX12_fills 0 = .ok (.aload_n 0, 1) := by decide +kernel
theorem dX12_fills_1 : decode cX12_fills 1 = .ok (.iconst 0, 1) := by decide +kernel
theorem dX12_fills_2 : decode cX12_fills 2 = .ok (.putfield 76, 3) := by decide +kernel
theorem dX12_fills_5 : decode cX12_fills 5 = .ok (.iload_n 1, 1) := by decide +kernel
theorem dX12_fills_6 : decode cX12_fills 6 = .ok (.i2l, 1) := by decide +kernel
theorem dX12_fills_7 : decode cX12_fills 7 = .ok (.lconst 0, 1) := by decide +kernel
theorem dX12_fills_8 : decode cX12_fills 8 = .ok (.aload_n 0, 1) := by decide +kernel
theorem dX12_fills_9 : decode cX12_fills 9 = .ok (.getfield 9, 3) := by decide +kernel
theorem dX12_fills_12 : decode cX12_fills 12 = .ok (.iconst 1, 1) := by decide +kernel
theorem dX12_fills_13 : decode cX12_fills 13 = .ok (.iaload, 1) := by decide +kernel
theorem dX12_fills_14 : decode cX12_fills 14 = .ok (.iconst 1, 1) := by decide +kernel
theorem dX12_fills_15 : decode cX12_fills 15 = .ok (.isub, 1) := by decide +kernel
theorem dX12_fills_16 : decode cX12_fills 16 = .ok (.i2l, 1) := by decide +kernel
theorem dX12_fills_17 : decode cX12_fills 17 = .ok (.invokestatic 79, 3) := by decide +kernel
theorem dX12_fills_20 : decode cX12_fills 20 = .ok (.ifCond .ne 9, 3) := by decide +kernel
theorem dX12_fills_23 : decode cX12_fills 23 = .ok (.aload_n 0, 1) := by decide +kernel
theorem dX12_fills_24 : decode cX12_fills 24 = .ok (.iconst 1, 1) := by decide +kernel
theorem dX12_fills_25 : decode cX12_fills 25 = .ok (.invokevirtual 83, 3) := by decide +kernel
theorem dX12_fills_28 : decode cX12_fills 28 = .ok (.ireturn, 1) := by decide +kernel
theorem dX12_fills_29 : decode cX12_fills 29 = .ok (.aload_n 0, 1) := by decide +kernel
theorem dX12_fills_30 : decode cX12_fills 30 = .ok (.invokevirtual 298, 3) := by decide +kernel
theorem dX12_fills_33 : decode cX12_fills 33 = .ok (.aload_n 0, 1) := by decide +kernel
theorem dX12_fills_34 : decode cX12_fills 34 = .ok (.iload_n 1, 1) := by decide +kernel
theorem dX12_fills_35 : decode cX12_fills 35 = .ok (.invokevirtual 301, 3) := by decide +kernel
theorem dX12_fills_38 : decode cX12_fills 38 = .ok (.ireturn, 1) := by decide +kernel
theorem dX12_isAlike_0 : decode cX12_isAlike 0 = .ok (.iconst 0, 1) := by decide +kernel
theorem dX12_isAlike_1 : decode cX12_isAlike 1 = .ok (.istore_n 3, 1) := by decide +kernel
theorem dX12_isAlike_2 : decode cX12_isAlike 2 = .ok (.iload_n 3, 1) := by decide +kernel
theorem dX12_isAlike_3 : decode cX12_isAlike 3 = .ok (.aload_n 0, 1) := by decide +kernel
theorem dX12_isAlike_4 : decode cX12_isAlike 4 = .ok (.getfield 9, 3) := by decide +kernel
theorem dX12_isAlike_7 : decode cX12_isAlike 7 = .ok (.iconst 0, 1) := by decide +kernel
theorem dX12_isAlike_8 : decode cX12_isAlike 8 = .ok (.iaload, 1) := by decide +kernel
theorem dX12_isAlike_9 : decode cX12_isAlike 9 = .ok (.if_icmp .ge 26, 3) := by decide +kernel
theorem dX12_isAlike_12 : decode cX12_isAlike 12 = .ok (.aload_n 0, 1) := by decide +kernel
theorem dX12_isAlike_13 : decode cX12_isAlike 13 = .ok (.iload_n 3, 1) := by decide +kernel
theorem dX12_isAlike_14 : decode cX12_isAlike 14 = .ok (.iload_n 1, 1) := by decide +kernel
theorem dX12_isAlike_15 : decode cX12_isAlike 15 = .ok (.invokevirtual 311, 3) := by decide +kernel
theorem dX12_isAlike_18 : decode cX12_isAlike 18 = .ok (.aload_n 0, 1) := by decide +kernel
theorem dX12_isAlike_19 : decode cX12_isAlike 19 = .ok (.iload_n 3, 1) := by decide +kernel
theorem dX12_isAlike_20 : decode cX12_isAlike 20 = .ok (.iload_n 2, 1) := by decide +kernel
theorem dX12_isAlike_21 : decode cX12_isAlike 21 = .ok (.invokevirtual 311, 3) := by decide +kernel
theorem dX12_isAlike_24 : decode cX12_isAlike 24 = .ok (.if_icmp .eq 5, 3) := by decide +kernel
theorem dX12_isAlike_27 : decode cX12_isAlike 27 = .ok (.iconst 0, 1) := by decide +kernel
theorem dX12_isAlike_28 : decode cX12_isAlike 28 = .ok (.ireturn, 1) := by decide +kernel
theorem dX12_isAlike_29 : decode cX12_isAlike 29 = .ok (.iinc 3 1, 3) := by decide +kernel
theorem dX12_isAlike_32 : decode cX12_isAlike 32 = .ok (.goto (-30), 3) := by decide +kernel
theorem dX12_isAlike_35 : decode cX12_isAlike 35 = .ok (.iconst 1, 1) := by decide +kernel
theorem dX12_isAlike_36 : decode cX12_isAlike 36 = .ok (.ireturn, 1) := by decide +kernel
theorem dX12_round_0 : decode cX12_round 0 = .ok (.aload_n 0, 1) := by decide +kernel
theorem dX12_round_1 : decode cX12_round 1 = .ok (.iconst 0, 1) := by decide +kernel
theorem dX12_round_2 : decode cX12_round 2 = .ok (.putfield 76, 3) := by decide +kernel
theorem dX12_round_5 : decode cX12_round 5 = .ok (.aload_n 0, 1) := by decide +kernel
theorem dX12_round_6 : decode cX12_round 6 = .ok (.getfield 9, 3) := by decide +kernel
theorem dX12_round_9 : decode cX12_round 9 = .ok (.iconst 2, 1) := by decide +kernel
theorem dX12_round_10 : decode cX12_round 10 = .ok (.iaload, 1) := by decide +kernel
theorem dX12_round_11 : decode cX12_round 11 = .ok (.iconst 1, 1) := by decide +kernel
theorem dX12_round_12 : decode cX12_round 12 = .ok (.isub, 1) := by decide +kernel
theorem dX12_round_13 : decode cX12_round 13 = .ok (.istore_n 1, 1) := by decide +kernel
theorem dX12_round_14 : decode cX12_round 14 = .ok (.iconst 1, 1) := by decide +kernel
theorem dX12_round_15 : decode cX12_round 15 = .ok (.istore_n 2, 1) := by decide +kernel
theorem dX12_round_16 : decode cX12_round 16 = .ok (.iload_n 2, 1) := by decide +kernel
theorem dX12_round_17 : decode cX12_round 17 = .ok (.bipush 100, 2) := by decide +kernel
theorem dX12_round_19 : decode cX12_round 19 = .ok (.if_icmp .gt 61, 3) := by decide +kernel
theorem dX12_round_22 : decode cX12_round 22 = .ok (.aload_n 0, 1) := by decide +kernel
theorem dX12_round_23 : decode cX12_round 23 = .ok (.iload_n 1, 1) := by decide +kernel
theorem dX12_round_24 : decode cX12_round 24 = .ok (.iconst 2, 1) := by decide +kernel
theorem dX12_round_25 : decode cX12_round 25 = .ok (.iload_n 2, 1) := by decide +kernel
theorem dX12_round_26 : decode cX12_round 26 = .ok (.imul, 1) := by decide +kernel
theorem dX12_round_27 : decode cX12_round 27 = .ok (.isub, 1) := by decide +kernel
theorem dX12_round_28 : decode cX12_round 28 = .ok (.iconst 1, 1) := by decide +kernel
theorem dX12_round_29 : decode cX12_round 29 = .ok (.iadd, 1) := by decide +kernel
theorem dX12_round_30 : decode cX12_round 30 = .ok (.invokevirtual 308, 3) := by decide +kernel
theorem dX12_round_33 : decode cX12_round 33 = .ok (.istore_n 3, 1) := by decide +kernel
theorem dX12_round_34 : decode cX12_round 34 = .ok (.iconst 0, 1) := by decide +kernel
theorem dX12_round_35 : decode cX12_round 35 = .ok (.istore 4, 2) := by decide +kernel
theorem dX12_round_37 : decode cX12_round 37 = .ok (.iload 4, 2) := by decide +kernel
theorem dX12_round_39 : decode cX12_round 39 = .ok (.iload_n 2, 1) := by decide +kernel
theorem dX12_round_40 : decode cX12_round 40 = .ok (.if_icmp .ge 28, 3) := by decide +kernel
theorem dX12_round_43 : decode cX12_round 43 = .ok (.iload_n 3, 1) := by decide +kernel
theorem dX12_round_44 : decode cX12_round 44 = .ok (.ifCond .eq 24, 3) := by decide +kernel
theorem dX12_round_47 : decode cX12_round 47 = .ok (.aload_n 0, 1) := by decide +kernel
theorem dX12_round_48 : decode cX12_round 48 = .ok (.iload_n 1, 1) := by decide +kernel
theorem dX12_round_49 : decode cX12_round 49 = .ok (.iload 4, 2) := by decide +kernel
theorem dX12_round_51 : decode cX12_round 51 = .ok (.isub, 1) := by decide +kernel
theorem dX12_round_52 : decode cX12_round 52 = .ok (.iload_n 1, 1) := by decide +kernel
theorem dX12_round_53 : decode cX12_round 53 = .ok (.iload 4, 2) := by decide +kernel
theorem dX12_round_55 : decode cX12_round 55 = .ok (.isub, 1) := by decide +kernel
theorem dX12_round_56 : decode cX12_round 56 = .ok (.iload_n 2, 1) := by decide +kernel
theorem dX12_round_57 : decode cX12_round 57 = .ok (.isub, 1) := by decide +kernel
theorem dX12_round_58 : decode cX12_round 58 = .ok (.invokevirtual 316, 3) := by decide +kernel
theorem dX12_round_61 : decode cX12_round 61 = .ok (.istore_n 3, 1) := by decide +kernel
theorem dX12_round_62 : decode cX12_round 62 = .ok (.iinc 4 1, 3) := by decide +kernel
theorem dX12_round_65 : decode cX12_round 65 = .ok (.goto (-28), 3) := by decide +kernel
theorem dX12_round_68 : decode cX12_round 68 = .ok (.iload_n 3, 1) := by decide +kernel
theorem dX12_round_69 : decode cX12_round 69 = .ok (.ifCond .eq 5, 3) := by decide +kernel
theorem dX12_round_72 : decode cX12_round 72 = .ok (.iload_n 2, 1) := by decide +kernel
theorem dX12_round_73 : decode cX12_round 73 = .ok (.ireturn, 1) := by decide +kernel
theorem dX12_round_74 : decode cX12_round 74 = .ok (.iinc 2 1, 3) := by decide +kernel
theorem dX12_round_77 : decode cX12_round 77 = .ok (.goto (-61), 3) := by decide +kernel
theorem dX12_round_80 : decode cX12_round 80 = .ok (.iconst (-1), 1) := by decide +kernel
theorem dX12_round_81 : decode cX12_round 81 = .ok (.ireturn, 1) := by decide +kernel
theorem dX12_rose_0 : decode cX12_rose 0 = .ok (.aload_n 0, 1) := by decide +kernel
theorem dX12_rose_1 : decode cX12_rose 1 = .ok (.iload_n 1, 1) := by decide +kernel
theorem dX12_rose_2 : decode cX12_rose 2 = .ok (.iload_n 2, 1) := by decide +kernel
theorem dX12_rose_3 : decode cX12_rose 3 = .ok (.invokevirtual 311, 3) := by decide +kernel
theorem dX12_rose_6 : decode cX12_rose 6 = .ok (.aload_n 0, 1) := by decide +kernel
theorem dX12_rose_7 : decode cX12_rose 7 = .ok (.iload_n 1, 1) := by decide +kernel
theorem dX12_rose_8 : decode cX12_rose 8 = .ok (.iload_n 2, 1) := by decide +kernel
theorem dX12_rose_9 : decode cX12_rose 9 = .ok (.iconst 1, 1) := by decide +kernel
theorem dX12_rose_10 : decode cX12_rose 10 = .ok (.isub, 1) := by decide +kernel
theorem dX12_rose_11 : decode cX12_rose 11 = .ok (.invokevirtual 311, 3) := by decide +kernel
theorem dX12_rose_14 : decode cX12_rose 14 = .ok (.if_icmp .le 7, 3) := by decide +kernel
theorem dX12_rose_17 : decode cX12_rose 17 = .ok (.iconst 1, 1) := by decide +kernel
theorem dX12_rose_18 : decode cX12_rose 18 = .ok (.goto 4, 3) := by decide +kernel
theorem dX12_rose_21 : decode cX12_rose 21 = .ok (.iconst 0, 1) := by decide +kernel
theorem dX12_rose_22 : decode cX12_rose 22 = .ok (.ireturn, 1) := by decide +kernel
theorem dX12_isLead_0 : decode cX12_isLead 0 = .ok (.aload_n 0, 1) := by decide +kernel
theorem dX12_isLead_1 : decode cX12_isLead 1 = .ok (.iload_n 2, 1) := by decide +kernel
theorem dX12_isLead_2 : decode cX12_isLead 2 = .ok (.iconst 2, 1) := by decide +kernel
theorem dX12_isLead_3 : decode cX12_isLead 3 = .ok (.isub, 1) := by decide +kernel
theorem dX12_isLead_4 : decode cX12_isLead 4 = .ok (.invokevirtual 308, 3) := by decide +kernel
theorem dX12_isLead_7 : decode cX12_isLead 7 = .ok (.ifCond .eq 16, 3) := by decide +kernel
theorem dX12_isLead_10 : decode cX12_isLead 10 = .ok (.aload_n 0, 1) := by decide +kernel
theorem dX12_isLead_11 : decode cX12_isLead 11 = .ok (.iload_n 1, 1) := by decide +kernel
theorem dX12_isLead_12 : decode cX12_isLead 12 = .ok (.iload_n 2, 1) := by decide +kernel
theorem dX12_isLead_13 : decode cX12_isLead 13 = .ok (.invokevirtual 320, 3) := by decide +kernel
theorem dX12_isLead_16 : decode cX12_isLead 16 = .ok (.ifCond .eq 7, 3) := by decide +kernel
theorem dX12_isLead_19 : decode cX12_isLead 19 = .ok (.iconst 1, 1) := by decide +kernel
theorem dX12_isLead_20 : decode cX12_isLead 20 = .ok (.goto 4, 3) := by decide +kernel
theorem dX12_isLead_23 : decode cX12_isLead 23 = .ok (.iconst 0, 1) := by decide +kernel
theorem dX12_isLead_24 : decode cX12_isLead 24 = .ok (.istore_n 3, 1) := by decide +kernel
theorem dX12_isLead_25 : decode cX12_isLead 25 = .ok (.iconst 0, 1) := by decide +kernel
theorem dX12_isLead_26 : decode cX12_isLead 26 = .ok (.istore 4, 2) := by decide +kernel
theorem dX12_isLead_28 : decode cX12_isLead 28 = .ok (.iload 4, 2) := by decide +kernel
theorem dX12_isLead_30 : decode cX12_isLead 30 = .ok (.aload_n 0, 1) := by decide +kernel
theorem dX12_isLead_31 : decode cX12_isLead 31 = .ok (.getfield 9, 3) := by decide +kernel
theorem dX12_isLead_34 : decode cX12_isLead 34 = .ok (.iconst 0, 1) := by decide +kernel
theorem dX12_isLead_35 : decode cX12_isLead 35 = .ok (.iaload, 1) := by decide +kernel
theorem dX12_isLead_36 : decode cX12_isLead 36 = .ok (.if_icmp .ge 47, 3) := by decide +kernel
theorem dX12_isLead_39 : decode cX12_isLead 39 = .ok (.iload_n 3, 1) := by decide +kernel
theorem dX12_isLead_40 : decode cX12_isLead 40 = .ok (.ifCond .eq 43, 3) := by decide +kernel
theorem dX12_isLead_43 : decode cX12_isLead 43 = .ok (.aload_n 0, 1) := by decide +kernel
theorem dX12_isLead_44 : decode cX12_isLead 44 = .ok (.iload 4, 2) := by decide +kernel
theorem dX12_isLead_46 : decode cX12_isLead 46 = .ok (.iload_n 2, 1) := by decide +kernel
theorem dX12_isLead_47 : decode cX12_isLead 47 = .ok (.iconst 1, 1) := by decide +kernel
theorem dX12_isLead_48 : decode cX12_isLead 48 = .ok (.isub, 1) := by decide +kernel
theorem dX12_isLead_49 : decode cX12_isLead 49 = .ok (.invokevirtual 320, 3) := by decide +kernel
theorem dX12_isLead_52 : decode cX12_isLead 52 = .ok (.ifCond .ne 23, 3) := by decide +kernel
theorem dX12_isLead_55 : decode cX12_isLead 55 = .ok (.iload 4, 2) := by decide +kernel
theorem dX12_isLead_57 : decode cX12_isLead 57 = .ok (.iload_n 1, 1) := by decide +kernel
theorem dX12_isLead_58 : decode cX12_isLead 58 = .ok (.if_icmp .eq 13, 3) := by decide +kernel
theorem dX12_isLead_61 : decode cX12_isLead 61 = .ok (.aload_n 0, 1) := by decide +kernel
theorem dX12_isLead_62 : decode cX12_isLead 62 = .ok (.iload 4, 2) := by decide +kernel
theorem dX12_isLead_64 : decode cX12_isLead 64 = .ok (.iload_n 2, 1) := by decide +kernel
theorem dX12_isLead_65 : decode cX12_isLead 65 = .ok (.invokevirtual 320, 3) := by decide +kernel
theorem dX12_isLead_68 : decode cX12_isLead 68 = .ok (.ifCond .ne 7, 3) := by decide +kernel
theorem dX12_isLead_71 : decode cX12_isLead 71 = .ok (.iconst 1, 1) := by decide +kernel
theorem dX12_isLead_72 : decode cX12_isLead 72 = .ok (.goto 4, 3) := by decide +kernel
theorem dX12_isLead_75 : decode cX12_isLead 75 = .ok (.iconst 0, 1) := by decide +kernel
theorem dX12_isLead_76 : decode cX12_isLead 76 = .ok (.istore_n 3, 1) := by decide +kernel
theorem dX12_isLead_77 : decode cX12_isLead 77 = .ok (.iinc 4 1, 3) := by decide +kernel
theorem dX12_isLead_80 : decode cX12_isLead 80 = .ok (.goto (-52), 3) := by decide +kernel
theorem dX12_isLead_83 : decode cX12_isLead 83 = .ok (.iload_n 3, 1) := by decide +kernel
theorem dX12_isLead_84 : decode cX12_isLead 84 = .ok (.ireturn, 1) := by decide +kernel
theorem dX12_isFollowed_0 : decode cX12_isFollowed 0 = .ok (.aload_n 0, 1) := by decide +kernel
theorem dX12_isFollowed_1 : decode cX12_isFollowed 1 = .ok (.iload_n 2, 1) := by decide +kernel
theorem dX12_isFollowed_2 : decode cX12_isFollowed 2 = .ok (.bipush 6, 2) := by decide +kernel
theorem dX12_isFollowed_4 : decode cX12_isFollowed 4 = .ok (.iadd, 1) := by decide +kernel
theorem dX12_isFollowed_5 : decode cX12_isFollowed 5 = .ok (.invokevirtual 308, 3) := by decide +kernel
theorem dX12_isFollowed_8 : decode cX12_isFollowed 8 = .ok (.ifCond .ne 5, 3) := by decide +kernel
theorem dX12_isFollowed_11 : decode cX12_isFollowed 11 = .ok (.iconst 0, 1) := by decide +kernel
theorem dX12_isFollowed_12 : decode cX12_isFollowed 12 = .ok (.ireturn, 1) := by decide +kernel
theorem dX12_isFollowed_13 : decode cX12_isFollowed 13 = .ok (.iconst 0, 1) := by decide +kernel
theorem dX12_isFollowed_14 : decode cX12_isFollowed 14 = .ok (.istore_n 3, 1) := by decide +kernel
theorem dX12_isFollowed_15 : decode cX12_isFollowed 15 = .ok (.iload_n 3, 1) := by decide +kernel
theorem dX12_isFollowed_16 : decode cX12_isFollowed 16 = .ok (.aload_n 0, 1) := by decide +kernel
theorem dX12_isFollowed_17 : decode cX12_isFollowed 17 = .ok (.getfield 9, 3) := by decide +kernel
theorem dX12_isFollowed_20 : decode cX12_isFollowed 20 = .ok (.iconst 0, 1) := by decide +kernel
theorem dX12_isFollowed_21 : decode cX12_isFollowed 21 = .ok (.iaload, 1) := by decide +kernel
theorem dX12_isFollowed_22 : decode cX12_isFollowed 22 = .ok (.if_icmp .ge 68, 3) := by decide +kernel
theorem dX12_isFollowed_25 : decode cX12_isFollowed 25 = .ok (.iload_n 3, 1) := by decide +kernel
theorem dX12_isFollowed_26 : decode cX12_isFollowed 26 = .ok (.iload_n 1, 1) := by decide +kernel
theorem dX12_isFollowed_27 : decode cX12_isFollowed 27 = .ok (.if_icmp .ne 7, 3) := by decide +kernel
theorem dX12_isFollowed_30 : decode cX12_isFollowed 30 = .ok (.iconst 1, 1) := by decide +kernel
theorem dX12_isFollowed_31 : decode cX12_isFollowed 31 = .ok (.goto 4, 3) := by decide +kernel
theorem dX12_isFollowed_34 : decode cX12_isFollowed 34 = .ok (.iconst 0, 1) := by decide +kernel
theorem dX12_isFollowed_35 : decode cX12_isFollowed 35 = .ok (.istore 4, 2) := by decide +kernel
theorem dX12_isFollowed_37 : decode cX12_isFollowed 37 = .ok (.iconst 1, 1) := by decide +kernel
theorem dX12_isFollowed_38 : decode cX12_isFollowed 38 = .ok (.istore 5, 2) := by decide +kernel
theorem dX12_isFollowed_40 : decode cX12_isFollowed 40 = .ok (.iload 5, 2) := by decide +kernel
theorem dX12_isFollowed_42 : decode cX12_isFollowed 42 = .ok (.bipush 6, 2) := by decide +kernel
theorem dX12_isFollowed_44 : decode cX12_isFollowed 44 = .ok (.if_icmp .gt 33, 3) := by decide +kernel
theorem dX12_isFollowed_47 : decode cX12_isFollowed 47 = .ok (.iload 4, 2) := by decide +kernel
theorem dX12_isFollowed_49 : decode cX12_isFollowed 49 = .ok (.ifCond .ne 15, 3) := by decide +kernel
theorem dX12_isFollowed_52 : decode cX12_isFollowed 52 = .ok (.aload_n 0, 1) := by decide +kernel
theorem dX12_isFollowed_53 : decode cX12_isFollowed 53 = .ok (.iload_n 3, 1) := by decide +kernel
theorem dX12_isFollowed_54 : decode cX12_isFollowed 54 = .ok (.iload_n 2, 1) := by decide +kernel
theorem dX12_isFollowed_55 : decode cX12_isFollowed 55 = .ok (.iload 5, 2) := by decide +kernel
theorem dX12_isFollowed_57 : decode cX12_isFollowed 57 = .ok (.iadd, 1) := by decide +kernel
theorem dX12_isFollowed_58 : decode cX12_isFollowed 58 = .ok (.invokevirtual 320, 3) := by decide +kernel
theorem dX12_isFollowed_61 : decode cX12_isFollowed 61 = .ok (.ifCond .eq 7, 3) := by decide +kernel
theorem dX12_isFollowed_64 : decode cX12_isFollowed 64 = .ok (.iconst 1, 1) := by decide +kernel
theorem dX12_isFollowed_65 : decode cX12_isFollowed 65 = .ok (.goto 4, 3) := by decide +kernel
theorem dX12_isFollowed_68 : decode cX12_isFollowed 68 = .ok (.iconst 0, 1) := by decide +kernel
theorem dX12_isFollowed_69 : decode cX12_isFollowed 69 = .ok (.istore 4, 2) := by decide +kernel
theorem dX12_isFollowed_71 : decode cX12_isFollowed 71 = .ok (.iinc 5 1, 3) := by decide +kernel
theorem dX12_isFollowed_74 : decode cX12_isFollowed 74 = .ok (.goto (-34), 3) := by decide +kernel
theorem dX12_isFollowed_77 : decode cX12_isFollowed 77 = .ok (.iload 4, 2) := by decide +kernel
theorem dX12_isFollowed_79 : decode cX12_isFollowed 79 = .ok (.ifCond .ne 5, 3) := by decide +kernel
theorem dX12_isFollowed_82 : decode cX12_isFollowed 82 = .ok (.iconst 0, 1) := by decide +kernel
theorem dX12_isFollowed_83 : decode cX12_isFollowed 83 = .ok (.ireturn, 1) := by decide +kernel
theorem dX12_isFollowed_84 : decode cX12_isFollowed 84 = .ok (.iinc 3 1, 3) := by decide +kernel
theorem dX12_isFollowed_87 : decode cX12_isFollowed 87 = .ok (.goto (-72), 3) := by decide +kernel
theorem dX12_isFollowed_90 : decode cX12_isFollowed 90 = .ok (.iconst 1, 1) := by decide +kernel
theorem dX12_isFollowed_91 : decode cX12_isFollowed 91 = .ok (.ireturn, 1) := by decide +kernel
theorem dX12_leads_0 : decode cX12_leads 0 = .ok (.aload_n 0, 1) := by decide +kernel
theorem dX12_leads_1 : decode cX12_leads 1 = .ok (.iconst 0, 1) := by decide +kernel
theorem dX12_leads_2 : decode cX12_leads 2 = .ok (.putfield 76, 3) := by decide +kernel
theorem dX12_leads_5 : decode cX12_leads 5 = .ok (.aload_n 0, 1) := by decide +kernel
theorem dX12_leads_6 : decode cX12_leads 6 = .ok (.iload_n 1, 1) := by decide +kernel
theorem dX12_leads_7 : decode cX12_leads 7 = .ok (.invokevirtual 91, 3) := by decide +kernel
theorem dX12_leads_10 : decode cX12_leads 10 = .ok (.ifCond .ne 9, 3) := by decide +kernel
theorem dX12_leads_13 : decode cX12_leads 13 = .ok (.aload_n 0, 1) := by decide +kernel
theorem dX12_leads_14 : decode cX12_leads 14 = .ok (.iconst 1, 1) := by decide +kernel
theorem dX12_leads_15 : decode cX12_leads 15 = .ok (.invokevirtual 83, 3) := by decide +kernel
theorem dX12_leads_18 : decode cX12_leads 18 = .ok (.ireturn, 1) := by decide +kernel
theorem dX12_leads_19 : decode cX12_leads 19 = .ok (.iconst 0, 1) := by decide +kernel
theorem dX12_leads_20 : decode cX12_leads 20 = .ok (.istore_n 3, 1) := by decide +kernel
theorem dX12_leads_21 : decode cX12_leads 21 = .ok (.iconst 2, 1) := by decide +kernel
theorem dX12_leads_22 : decode cX12_leads 22 = .ok (.aload_n 0, 1) := by decide +kernel
theorem dX12_leads_23 : decode cX12_leads 23 = .ok (.getfield 9, 3) := by decide +kernel
theorem dX12_leads_26 : decode cX12_leads 26 = .ok (.iconst 2, 1) := by decide +kernel
theorem dX12_leads_27 : decode cX12_leads 27 = .ok (.iaload, 1) := by decide +kernel
theorem dX12_leads_28 : decode cX12_leads 28 = .ok (.sipush 256, 3) := by decide +kernel
theorem dX12_leads_31 : decode cX12_leads 31 = .ok (.isub, 1) := by decide +kernel
theorem dX12_leads_32 : decode cX12_leads 32 = .ok (.iconst 2, 1) := by decide +kernel
theorem dX12_leads_33 : decode cX12_leads 33 = .ok (.iadd, 1) := by decide +kernel
theorem dX12_leads_34 : decode cX12_leads 34 = .ok (.invokestatic 261, 3) := by decide +kernel
theorem dX12_leads_37 : decode cX12_leads 37 = .ok (.istore 4, 2) := by decide +kernel
theorem dX12_leads_39 : decode cX12_leads 39 = .ok (.iload 4, 2) := by decide +kernel
theorem dX12_leads_41 : decode cX12_leads 41 = .ok (.aload_n 0, 1) := by decide +kernel
theorem dX12_leads_42 : decode cX12_leads 42 = .ok (.getfield 9, 3) := by decide +kernel
theorem dX12_leads_45 : decode cX12_leads 45 = .ok (.iconst 2, 1) := by decide +kernel
theorem dX12_leads_46 : decode cX12_leads 46 = .ok (.iaload, 1) := by decide +kernel
theorem dX12_leads_47 : decode cX12_leads 47 = .ok (.if_icmp .ge 36, 3) := by decide +kernel
theorem dX12_leads_50 : decode cX12_leads 50 = .ok (.aload_n 0, 1) := by decide +kernel
theorem dX12_leads_51 : decode cX12_leads 51 = .ok (.iload_n 1, 1) := by decide +kernel
theorem dX12_leads_52 : decode cX12_leads 52 = .ok (.iload 4, 2) := by decide +kernel
theorem dX12_leads_54 : decode cX12_leads 54 = .ok (.invokevirtual 322, 3) := by decide +kernel
theorem dX12_leads_57 : decode cX12_leads 57 = .ok (.ifCond .eq 20, 3) := by decide +kernel
theorem dX12_leads_60 : decode cX12_leads 60 = .ok (.iload_n 2, 1) := by decide +kernel
theorem dX12_leads_61 : decode cX12_leads 61 = .ok (.ifCond .eq 13, 3) := by decide +kernel
theorem dX12_leads_64 : decode cX12_leads 64 = .ok (.aload_n 0, 1) := by decide +kernel
theorem dX12_leads_65 : decode cX12_leads 65 = .ok (.iload_n 1, 1) := by decide +kernel
theorem dX12_leads_66 : decode cX12_leads 66 = .ok (.iload 4, 2) := by decide +kernel
theorem dX12_leads_68 : decode cX12_leads 68 = .ok (.invokevirtual 325, 3) := by decide +kernel
theorem dX12_leads_71 : decode cX12_leads 71 = .ok (.ifCond .eq 6, 3) := by decide +kernel
theorem dX12_leads_74 : decode cX12_leads 74 = .ok (.iinc 3 1, 3) := by decide +kernel
theorem dX12_leads_77 : decode cX12_leads 77 = .ok (.iinc 4 1, 3) := by decide +kernel
theorem dX12_leads_80 : decode cX12_leads 80 = .ok (.goto (-41), 3) := by decide +kernel
theorem dX12_leads_83 : decode cX12_leads 83 = .ok (.iload_n 3, 1) := by decide +kernel
theorem dX12_leads_84 : decode cX12_leads 84 = .ok (.ireturn, 1) := by decide +kernel
theorem dX12_upper_0 : decode cX12_upper 0 = .ok (.aload_n 0, 1) := by decide +kernel
theorem dX12_upper_1 : decode cX12_upper 1 = .ok (.iconst 0, 1) := by decide +kernel
theorem dX12_upper_2 : decode cX12_upper 2 = .ok (.putfield 76, 3) := by decide +kernel
theorem dX12_upper_5 : decode cX12_upper 5 = .ok (.aload_n 0, 1) := by decide +kernel
theorem dX12_upper_6 : decode cX12_upper 6 = .ok (.getfield 328, 3) := by decide +kernel
theorem dX12_upper_9 : decode cX12_upper 9 = .ok (.lreturn, 1) := by decide +kernel
theorem dX12_lower_0 : decode cX12_lower 0 = .ok (.aload_n 0, 1) := by decide +kernel
theorem dX12_lower_1 : decode cX12_lower 1 = .ok (.iconst 0, 1) := by decide +kernel
theorem dX12_lower_2 : decode cX12_lower 2 = .ok (.putfield 76, 3) := by decide +kernel
theorem dX12_lower_5 : decode cX12_lower 5 = .ok (.aload_n 0, 1) := by decide +kernel
theorem dX12_lower_6 : decode cX12_lower 6 = .ok (.getfield 332, 3) := by decide +kernel
theorem dX12_lower_9 : decode cX12_lower 9 = .ok (.lreturn, 1) := by decide +kernel
theorem dX12_fraction_0 : decode cX12_fraction 0 = .ok (.lload_n 1, 1) := by decide +kernel
theorem dX12_fraction_1 : decode cX12_fraction 1 = .ok (.lstore 5, 2) := by decide +kernel
theorem dX12_fraction_3 : decode cX12_fraction 3 = .ok (.lload_n 3, 1) := by decide +kernel
theorem dX12_fraction_4 : decode cX12_fraction 4 = .ok (.lstore 7, 2) := by decide +kernel
theorem dX12_fraction_6 : decode cX12_fraction 6 = .ok (.lload 7, 2) := by decide +kernel
theorem dX12_fraction_8 : decode cX12_fraction 8 = .ok (.lconst 0, 1) := by decide +kernel
theorem dX12_fraction_9 : decode cX12_fraction 9 = .ok (.lcmp, 1) := by decide +kernel
theorem dX12_fraction_10 : decode cX12_fraction 10 = .ok (.ifCond .eq 21, 3) := by decide +kernel
theorem dX12_fraction_13 : decode cX12_fraction 13 = .ok (.lload 5, 2) := by decide +kernel
theorem dX12_fraction_15 : decode cX12_fraction 15 = .ok (.lload 7, 2) := by decide +kernel
theorem dX12_fraction_17 : decode cX12_fraction 17 = .ok (.lrem, 1) := by decide +kernel
theorem dX12_fraction_18 : decode cX12_fraction 18 = .ok (.lstore 9, 2) := by decide +kernel
theorem dX12_fraction_20 : decode cX12_fraction 20 = .ok (.lload 7, 2) := by decide +kernel
theorem dX12_fraction_22 : decode cX12_fraction 22 = .ok (.lstore 5, 2) := by decide +kernel
theorem dX12_fraction_24 : decode cX12_fraction 24 = .ok (.lload 9, 2) := by decide +kernel
theorem dX12_fraction_26 : decode cX12_fraction 26 = .ok (.lstore 7, 2) := by decide +kernel
theorem dX12_fraction_28 : decode cX12_fraction 28 = .ok (.goto (-22), 3) := by decide +kernel
theorem dX12_fraction_31 : decode cX12_fraction 31 = .ok (.aload_n 0, 1) := by decide +kernel
theorem dX12_fraction_32 : decode cX12_fraction 32 = .ok (.lload 5, 2) := by decide +kernel
theorem dX12_fraction_34 : decode cX12_fraction 34 = .ok (.lconst 0, 1) := by decide +kernel
theorem dX12_fraction_35 : decode cX12_fraction 35 = .ok (.lcmp, 1) := by decide +kernel
theorem dX12_fraction_36 : decode cX12_fraction 36 = .ok (.ifCond .ne 7, 3) := by decide +kernel
theorem dX12_fraction_39 : decode cX12_fraction 39 = .ok (.lconst 0, 1) := by decide +kernel
theorem dX12_fraction_40 : decode cX12_fraction 40 = .ok (.goto 7, 3) := by decide +kernel
theorem dX12_fraction_43 : decode cX12_fraction 43 = .ok (.lload_n 1, 1) := by decide +kernel
theorem dX12_fraction_44 : decode cX12_fraction 44 = .ok (.lload 5, 2) := by decide +kernel
theorem dX12_fraction_46 : decode cX12_fraction 46 = .ok (.ldiv, 1) := by decide +kernel
theorem dX12_fraction_47 : decode cX12_fraction 47 = .ok (.putfield 328, 3) := by decide +kernel
theorem dX12_fraction_50 : decode cX12_fraction 50 = .ok (.aload_n 0, 1) := by decide +kernel
theorem dX12_fraction_51 : decode cX12_fraction 51 = .ok (.lload 5, 2) := by decide +kernel
theorem dX12_fraction_53 : decode cX12_fraction 53 = .ok (.lconst 0, 1) := by decide +kernel
theorem dX12_fraction_54 : decode cX12_fraction 54 = .ok (.lcmp, 1) := by decide +kernel
theorem dX12_fraction_55 : decode cX12_fraction 55 = .ok (.ifCond .ne 7, 3) := by decide +kernel
theorem dX12_fraction_58 : decode cX12_fraction 58 = .ok (.lconst 0, 1) := by decide +kernel
theorem dX12_fraction_59 : decode cX12_fraction 59 = .ok (.goto 7, 3) := by decide +kernel
theorem dX12_fraction_62 : decode cX12_fraction 62 = .ok (.lload_n 3, 1) := by decide +kernel
theorem dX12_fraction_63 : decode cX12_fraction 63 = .ok (.lload 5, 2) := by decide +kernel
theorem dX12_fraction_65 : decode cX12_fraction 65 = .ok (.ldiv, 1) := by decide +kernel
theorem dX12_fraction_66 : decode cX12_fraction 66 = .ok (.putfield 332, 3) := by decide +kernel
theorem dX12_fraction_69 : decode cX12_fraction 69 = .ok (.return_, 1) := by decide +kernel
theorem dX12_passed_0 : decode cX12_passed 0 = .ok (.aload_n 0, 1) := by decide +kernel
theorem dX12_passed_1 : decode cX12_passed 1 = .ok (.aload_n 0, 1) := by decide +kernel
theorem dX12_passed_2 : decode cX12_passed 2 = .ok (.iload_n 1, 1) := by decide +kernel
theorem dX12_passed_3 : decode cX12_passed 3 = .ok (.invokevirtual 91, 3) := by decide +kernel
theorem dX12_passed_6 : decode cX12_passed 6 = .ok (.ifCond .ne 7, 3) := by decide +kernel
theorem dX12_passed_9 : decode cX12_passed 9 = .ok (.iconst 1, 1) := by decide +kernel
theorem dX12_passed_10 : decode cX12_passed 10 = .ok (.goto 20, 3) := by decide +kernel
theorem dX12_passed_13 : decode cX12_passed 13 = .ok (.iload_n 2, 1) := by decide +kernel
theorem dX12_passed_14 : decode cX12_passed 14 = .ok (.i2l, 1) := by decide +kernel
theorem dX12_passed_15 : decode cX12_passed 15 = .ok (.lconst 1, 1) := by decide +kernel
theorem dX12_passed_16 : decode cX12_passed 16 = .ok (.ldc2_w 335, 3) := by decide +kernel
theorem dX12_passed_19 : decode cX12_passed 19 = .ok (.invokestatic 79, 3) := by decide +kernel
theorem dX12_passed_22 : decode cX12_passed 22 = .ok (.ifCond .eq 7, 3) := by decide +kernel
theorem dX12_passed_25 : decode cX12_passed 25 = .ok (.iconst 0, 1) := by decide +kernel
theorem dX12_passed_26 : decode cX12_passed 26 = .ok (.goto 4, 3) := by decide +kernel
theorem dX12_passed_29 : decode cX12_passed 29 = .ok (.iconst 2, 1) := by decide +kernel
theorem dX12_passed_30 : decode cX12_passed 30 = .ok (.putfield 76, 3) := by decide +kernel
theorem dX12_passed_33 : decode cX12_passed 33 = .ok (.aload_n 0, 1) := by decide +kernel
theorem dX12_passed_34 : decode cX12_passed 34 = .ok (.getfield 76, 3) := by decide +kernel
theorem dX12_passed_37 : decode cX12_passed 37 = .ok (.ifCond .le 5, 3) := by decide +kernel
theorem dX12_passed_40 : decode cX12_passed 40 = .ok (.iconst 0, 1) := by decide +kernel
theorem dX12_passed_41 : decode cX12_passed 41 = .ok (.ireturn, 1) := by decide +kernel
theorem dX12_passed_42 : decode cX12_passed 42 = .ok (.lconst 0, 1) := by decide +kernel
theorem dX12_passed_43 : decode cX12_passed 43 = .ok (.lstore 4, 2) := by decide +kernel
theorem dX12_passed_45 : decode cX12_passed 45 = .ok (.lconst 0, 1) := by decide +kernel
theorem dX12_passed_46 : decode cX12_passed 46 = .ok (.lstore 6, 2) := by decide +kernel
theorem dX12_passed_48 : decode cX12_passed 48 = .ok (.sipush 3149, 3) := by decide +kernel
theorem dX12_passed_51 : decode cX12_passed 51 = .ok (.istore 8, 2) := by decide +kernel
theorem dX12_passed_53 : decode cX12_passed 53 = .ok (.iload 8, 2) := by decide +kernel
theorem dX12_passed_55 : decode cX12_passed 55 = .ok (.sipush 3149, 3) := by decide +kernel
theorem dX12_passed_58 : decode cX12_passed 58 = .ok (.iconst 3, 1) := by decide +kernel
theorem dX12_passed_59 : decode cX12_passed 59 = .ok (.aload_n 0, 1) := by decide +kernel
theorem dX12_passed_60 : decode cX12_passed 60 = .ok (.getfield 9, 3) := by decide +kernel
theorem dX12_passed_63 : decode cX12_passed 63 = .ok (.bipush 6, 2) := by decide +kernel
theorem dX12_passed_65 : decode cX12_passed 65 = .ok (.iaload, 1) := by decide +kernel
theorem dX12_passed_66 : decode cX12_passed 66 = .ok (.imul, 1) := by decide +kernel
theorem dX12_passed_67 : decode cX12_passed 67 = .ok (.iadd, 1) := by decide +kernel
theorem dX12_passed_68 : decode cX12_passed 68 = .ok (.if_icmp .ge 142, 3) := by decide +kernel
theorem dX12_passed_71 : decode cX12_passed 71 = .ok (.aload_n 0, 1) := by decide +kernel
theorem dX12_passed_72 : decode cX12_passed 72 = .ok (.getfield 9, 3) := by decide +kernel
theorem dX12_passed_75 : decode cX12_passed 75 = .ok (.iload 8, 2) := by decide +kernel
theorem dX12_passed_77 : decode cX12_passed 77 = .ok (.iconst 1, 1) := by decide +kernel
theorem dX12_passed_78 : decode cX12_passed 78 = .ok (.iadd, 1) := by decide +kernel
theorem dX12_passed_79 : decode cX12_passed 79 = .ok (.iaload, 1) := by decide +kernel
theorem dX12_passed_80 : decode cX12_passed 80 = .ok (.istore 9, 2) := by decide +kernel
theorem dX12_passed_82 : decode cX12_passed 82 = .ok (.aload_n 0, 1) := by decide +kernel
theorem dX12_passed_83 : decode cX12_passed 83 = .ok (.getfield 9, 3) := by decide +kernel
theorem dX12_passed_86 : decode cX12_passed 86 = .ok (.iload 8, 2) := by decide +kernel
theorem dX12_passed_88 : decode cX12_passed 88 = .ok (.iaload, 1) := by decide +kernel
theorem dX12_passed_89 : decode cX12_passed 89 = .ok (.iload_n 1, 1) := by decide +kernel
theorem dX12_passed_90 : decode cX12_passed 90 = .ok (.if_icmp .ne 114, 3) := by decide +kernel
theorem dX12_passed_93 : decode cX12_passed 93 = .ok (.aload_n 0, 1) := by decide +kernel
theorem dX12_passed_94 : decode cX12_passed 94 = .ok (.getfield 9, 3) := by decide +kernel
theorem dX12_passed_97 : decode cX12_passed 97 = .ok (.iload 8, 2) := by decide +kernel
theorem dX12_passed_99 : decode cX12_passed 99 = .ok (.iconst 2, 1) := by decide +kernel
theorem dX12_passed_100 : decode cX12_passed 100 = .ok (.iadd, 1) := by decide +kernel
theorem dX12_passed_101 : decode cX12_passed 101 = .ok (.iaload, 1) := by decide +kernel
theorem dX12_passed_102 : decode cX12_passed 102 = .ok (.ifCond .le 7, 3) := by decide +kernel
theorem dX12_passed_105 : decode cX12_passed 105 = .ok (.iconst 1, 1) := by decide +kernel
theorem dX12_passed_106 : decode cX12_passed 106 = .ok (.goto 4, 3) := by decide +kernel
theorem dX12_passed_109 : decode cX12_passed 109 = .ok (.iconst 0, 1) := by decide +kernel
theorem dX12_passed_110 : decode cX12_passed 110 = .ok (.iload_n 3, 1) := by decide +kernel
theorem dX12_passed_111 : decode cX12_passed 111 = .ok (.if_icmp .ne 93, 3) := by decide +kernel
theorem dX12_passed_114 : decode cX12_passed 114 = .ok (.aload_n 0, 1) := by decide +kernel
theorem dX12_passed_115 : decode cX12_passed 115 = .ok (.iload 9, 2) := by decide +kernel
theorem dX12_passed_117 : decode cX12_passed 117 = .ok (.iconst 1, 1) := by decide +kernel
theorem dX12_passed_118 : decode cX12_passed 118 = .ok (.isub, 1) := by decide +kernel
theorem dX12_passed_119 : decode cX12_passed 119 = .ok (.invokevirtual 308, 3) := by decide +kernel
theorem dX12_passed_122 : decode cX12_passed 122 = .ok (.ifCond .eq 82, 3) := by decide +kernel
theorem dX12_passed_125 : decode cX12_passed 125 = .ok (.aload_n 0, 1) := by decide +kernel
theorem dX12_passed_126 : decode cX12_passed 126 = .ok (.iload 9, 2) := by decide +kernel
theorem dX12_passed_128 : decode cX12_passed 128 = .ok (.iconst 1, 1) := by decide +kernel
theorem dX12_passed_129 : decode cX12_passed 129 = .ok (.isub, 1) := by decide +kernel
theorem dX12_passed_130 : decode cX12_passed 130 = .ok (.iload_n 2, 1) := by decide +kernel
theorem dX12_passed_131 : decode cX12_passed 131 = .ok (.iadd, 1) := by decide +kernel
theorem dX12_passed_132 : decode cX12_passed 132 = .ok (.invokevirtual 308, 3) := by decide +kernel
theorem dX12_passed_135 : decode cX12_passed 135 = .ok (.ifCond .ne 6, 3) := by decide +kernel
theorem dX12_passed_138 : decode cX12_passed 138 = .ok (.goto 66, 3) := by decide +kernel
theorem dX12_passed_141 : decode cX12_passed 141 = .ok (.aload_n 0, 1) := by decide +kernel
theorem dX12_passed_142 : decode cX12_passed 142 = .ok (.iload_n 1, 1) := by decide +kernel
theorem dX12_passed_143 : decode cX12_passed 143 = .ok (.iload 9, 2) := by decide +kernel
theorem dX12_passed_145 : decode cX12_passed 145 = .ok (.iconst 1, 1) := by decide +kernel
theorem dX12_passed_146 : decode cX12_passed 146 = .ok (.isub, 1) := by decide +kernel
theorem dX12_passed_147 : decode cX12_passed 147 = .ok (.iload_n 2, 1) := by decide +kernel
theorem dX12_passed_148 : decode cX12_passed 148 = .ok (.iadd, 1) := by decide +kernel
theorem dX12_passed_149 : decode cX12_passed 149 = .ok (.invokevirtual 311, 3) := by decide +kernel
theorem dX12_passed_152 : decode cX12_passed 152 = .ok (.aload_n 0, 1) := by decide +kernel
theorem dX12_passed_153 : decode cX12_passed 153 = .ok (.iload_n 1, 1) := by decide +kernel
theorem dX12_passed_154 : decode cX12_passed 154 = .ok (.iload 9, 2) := by decide +kernel
theorem dX12_passed_156 : decode cX12_passed 156 = .ok (.iconst 1, 1) := by decide +kernel
theorem dX12_passed_157 : decode cX12_passed 157 = .ok (.isub, 1) := by decide +kernel
theorem dX12_passed_158 : decode cX12_passed 158 = .ok (.invokevirtual 311, 3) := by decide +kernel
theorem dX12_passed_161 : decode cX12_passed 161 = .ok (.isub, 1) := by decide +kernel
theorem dX12_passed_162 : decode cX12_passed 162 = .ok (.istore 10, 2) := by decide +kernel
theorem dX12_passed_164 : decode cX12_passed 164 = .ok (.lload 4, 2) := by decide +kernel
theorem dX12_passed_166 : decode cX12_passed 166 = .ok (.iconst 0, 1) := by decide +kernel
theorem dX12_passed_167 : decode cX12_passed 167 = .ok (.iload_n 3, 1) := by decide +kernel
theorem dX12_passed_168 : decode cX12_passed 168 = .ok (.ifCond .eq 8, 3) := by decide +kernel
theorem dX12_passed_171 : decode cX12_passed 171 = .ok (.iload 10, 2) := by decide +kernel
theorem dX12_passed_173 : decode cX12_passed 173 = .ok (.goto 6, 3) := by decide +kernel
theorem dX12_passed_176 : decode cX12_passed 176 = .ok (.iload 10, 2) := by decide +kernel
theorem dX12_passed_178 : decode cX12_passed 178 = .ok (.ineg, 1) := by decide +kernel
theorem dX12_passed_179 : decode cX12_passed 179 = .ok (.invokestatic 261, 3) := by decide +kernel
theorem dX12_passed_182 : decode cX12_passed 182 = .ok (.i2l, 1) := by decide +kernel
theorem dX12_passed_183 : decode cX12_passed 183 = .ok (.ladd, 1) := by decide +kernel
theorem dX12_passed_184 : decode cX12_passed 184 = .ok (.lstore 4, 2) := by decide +kernel
theorem dX12_passed_186 : decode cX12_passed 186 = .ok (.lload 6, 2) := by decide +kernel
theorem dX12_passed_188 : decode cX12_passed 188 = .ok (.aload_n 0, 1) := by decide +kernel
theorem dX12_passed_189 : decode cX12_passed 189 = .ok (.getfield 9, 3) := by decide +kernel
theorem dX12_passed_192 : decode cX12_passed 192 = .ok (.iload 8, 2) := by decide +kernel
theorem dX12_passed_194 : decode cX12_passed 194 = .ok (.iconst 2, 1) := by decide +kernel
theorem dX12_passed_195 : decode cX12_passed 195 = .ok (.iadd, 1) := by decide +kernel
theorem dX12_passed_196 : decode cX12_passed 196 = .ok (.iaload, 1) := by decide +kernel
theorem dX12_passed_197 : decode cX12_passed 197 = .ok (.invokestatic 337, 3) := by decide +kernel
theorem dX12_passed_200 : decode cX12_passed 200 = .ok (.i2l, 1) := by decide +kernel
theorem dX12_passed_201 : decode cX12_passed 201 = .ok (.ladd, 1) := by decide +kernel
theorem dX12_passed_202 : decode cX12_passed 202 = .ok (.lstore 6, 2) := by decide +kernel
theorem dX12_passed_204 : decode cX12_passed 204 = .ok (.iinc 8 3, 3) := by decide +kernel
theorem dX12_passed_207 : decode cX12_passed 207 = .ok (.goto (-154), 3) := by decide +kernel
theorem dX12_passed_210 : decode cX12_passed 210 = .ok (.lload 6, 2) := by decide +kernel
theorem dX12_passed_212 : decode cX12_passed 212 = .ok (.lconst 0, 1) := by decide +kernel
theorem dX12_passed_213 : decode cX12_passed 213 = .ok (.lcmp, 1) := by decide +kernel
theorem dX12_passed_214 : decode cX12_passed 214 = .ok (.ifCond .ne 5, 3) := by decide +kernel
theorem dX12_passed_217 : decode cX12_passed 217 = .ok (.iconst 0, 1) := by decide +kernel
theorem dX12_passed_218 : decode cX12_passed 218 = .ok (.ireturn, 1) := by decide +kernel
theorem dX12_passed_219 : decode cX12_passed 219 = .ok (.aload_n 0, 1) := by decide +kernel
theorem dX12_passed_220 : decode cX12_passed 220 = .ok (.lload 4, 2) := by decide +kernel
theorem dX12_passed_222 : decode cX12_passed 222 = .ok (.lload 6, 2) := by decide +kernel
theorem dX12_passed_224 : decode cX12_passed 224 = .ok (.invokevirtual 340, 3) := by decide +kernel
theorem dX12_passed_227 : decode cX12_passed 227 = .ok (.iconst 1, 1) := by decide +kernel
theorem dX12_passed_228 : decode cX12_passed 228 = .ok (.ireturn, 1) := by decide +kernel
theorem dX12_profit_0 : decode cX12_profit 0 = .ok (.iconst 0, 1) := by decide +kernel
theorem dX12_profit_1 : decode cX12_profit 1 = .ok (.istore_n 2, 1) := by decide +kernel
theorem dX12_profit_2 : decode cX12_profit 2 = .ok (.iconst 0, 1) := by decide +kernel
theorem dX12_profit_3 : decode cX12_profit 3 = .ok (.istore_n 3, 1) := by decide +kernel
theorem dX12_profit_4 : decode cX12_profit 4 = .ok (.iload_n 3, 1) := by decide +kernel
theorem dX12_profit_5 : decode cX12_profit 5 = .ok (.aload_n 0, 1) := by decide +kernel
theorem dX12_profit_6 : decode cX12_profit 6 = .ok (.getfield 9, 3) := by decide +kernel
theorem dX12_profit_9 : decode cX12_profit 9 = .ok (.iconst 1, 1) := by decide +kernel
theorem dX12_profit_10 : decode cX12_profit 10 = .ok (.iaload, 1) := by decide +kernel
theorem dX12_profit_11 : decode cX12_profit 11 = .ok (.if_icmp .ge 49, 3) := by decide +kernel
theorem dX12_profit_14 : decode cX12_profit 14 = .ok (.aload_n 0, 1) := by decide +kernel
theorem dX12_profit_15 : decode cX12_profit 15 = .ok (.iload_n 3, 1) := by decide +kernel
theorem dX12_profit_16 : decode cX12_profit 16 = .ok (.invokevirtual 301, 3) := by decide +kernel
theorem dX12_profit_19 : decode cX12_profit 19 = .ok (.iload_n 1, 1) := by decide +kernel
theorem dX12_profit_20 : decode cX12_profit 20 = .ok (.if_icmp .ne 34, 3) := by decide +kernel
theorem dX12_profit_23 : decode cX12_profit 23 = .ok (.iload_n 2, 1) := by decide +kernel
theorem dX12_profit_24 : decode cX12_profit 24 = .ok (.aload_n 0, 1) := by decide +kernel
theorem dX12_profit_25 : decode cX12_profit 25 = .ok (.getfield 9, 3) := by decide +kernel
theorem dX12_profit_28 : decode cX12_profit 28 = .ok (.bipush 28, 2) := by decide +kernel
theorem dX12_profit_30 : decode cX12_profit 30 = .ok (.iconst 4, 1) := by decide +kernel
theorem dX12_profit_31 : decode cX12_profit 31 = .ok (.iload_n 3, 1) := by decide +kernel
theorem dX12_profit_32 : decode cX12_profit 32 = .ok (.imul, 1) := by decide +kernel
theorem dX12_profit_33 : decode cX12_profit 33 = .ok (.iadd, 1) := by decide +kernel
theorem dX12_profit_34 : decode cX12_profit 34 = .ok (.iaload, 1) := by decide +kernel
theorem dX12_profit_35 : decode cX12_profit 35 = .ok (.aload_n 0, 1) := by decide +kernel
theorem dX12_profit_36 : decode cX12_profit 36 = .ok (.getfield 43, 3) := by decide +kernel
theorem dX12_profit_39 : decode cX12_profit 39 = .ok (.iload_n 1, 1) := by decide +kernel
theorem dX12_profit_40 : decode cX12_profit 40 = .ok (.iaload, 1) := by decide +kernel
theorem dX12_profit_41 : decode cX12_profit 41 = .ok (.aload_n 0, 1) := by decide +kernel
theorem dX12_profit_42 : decode cX12_profit 42 = .ok (.getfield 9, 3) := by decide +kernel
theorem dX12_profit_45 : decode cX12_profit 45 = .ok (.bipush 8, 2) := by decide +kernel
theorem dX12_profit_47 : decode cX12_profit 47 = .ok (.iload_n 1, 1) := by decide +kernel
theorem dX12_profit_48 : decode cX12_profit 48 = .ok (.iadd, 1) := by decide +kernel
theorem dX12_profit_49 : decode cX12_profit 49 = .ok (.iaload, 1) := by decide +kernel
theorem dX12_profit_50 : decode cX12_profit 50 = .ok (.isub, 1) := by decide +kernel
theorem dX12_profit_51 : decode cX12_profit 51 = .ok (.imul, 1) := by decide +kernel
theorem dX12_profit_52 : decode cX12_profit 52 = .ok (.iadd, 1) := by decide +kernel
theorem dX12_profit_53 : decode cX12_profit 53 = .ok (.istore_n 2, 1) := by decide +kernel
theorem dX12_profit_54 : decode cX12_profit 54 = .ok (.iinc 3 1, 3) := by decide +kernel
theorem dX12_profit_57 : decode cX12_profit 57 = .ok (.goto (-53), 3) := by decide +kernel
theorem dX12_profit_60 : decode cX12_profit 60 = .ok (.iload_n 2, 1) := by decide +kernel
theorem dX12_profit_61 : decode cX12_profit 61 = .ok (.ireturn, 1) := by decide +kernel
theorem dX12_layGains_0 : decode cX12_layGains 0 = .ok (.aload_n 0, 1) := by decide +kernel
theorem dX12_layGains_1 : decode cX12_layGains 1 = .ok (.invokevirtual 298, 3) := by decide +kernel
theorem dX12_layGains_4 : decode cX12_layGains 4 = .ok (.iconst 0, 1) := by decide +kernel
theorem dX12_layGains_5 : decode cX12_layGains 5 = .ok (.istore_n 3, 1) := by decide +kernel
theorem dX12_layGains_6 : decode cX12_layGains 6 = .ok (.iload_n 3, 1) := by decide +kernel
theorem dX12_layGains_7 : decode cX12_layGains 7 = .ok (.aload_n 0, 1) := by decide +kernel
theorem dX12_layGains_8 : decode cX12_layGains 8 = .ok (.getfield 9, 3) := by decide +kernel
theorem dX12_layGains_11 : decode cX12_layGains 11 = .ok (.iconst 3, 1) := by decide +kernel
theorem dX12_layGains_12 : decode cX12_layGains 12 = .ok (.iaload, 1) := by decide +kernel
theorem dX12_layGains_13 : decode cX12_layGains 13 = .ok (.if_icmp .ge 97, 3) := by decide +kernel
theorem dX12_layGains_16 : decode cX12_layGains 16 = .ok (.iconst 0, 1) := by decide +kernel
theorem dX12_layGains_17 : decode cX12_layGains 17 = .ok (.istore 4, 2) := by decide +kernel
theorem dX12_layGains_19 : decode cX12_layGains 19 = .ok (.iload 4, 2) := by decide +kernel
theorem dX12_layGains_21 : decode cX12_layGains 21 = .ok (.aload_n 0, 1) := by decide +kernel
theorem dX12_layGains_22 : decode cX12_layGains 22 = .ok (.getfield 9, 3) := by decide +kernel
theorem dX12_layGains_25 : decode cX12_layGains 25 = .ok (.iconst 3, 1) := by decide +kernel
theorem dX12_layGains_26 : decode cX12_layGains 26 = .ok (.iaload, 1) := by decide +kernel
theorem dX12_layGains_27 : decode cX12_layGains 27 = .ok (.if_icmp .ge 77, 3) := by decide +kernel
theorem dX12_layGains_30 : decode cX12_layGains 30 = .ok (.aload_n 0, 1) := by decide +kernel
theorem dX12_layGains_31 : decode cX12_layGains 31 = .ok (.getfield 43, 3) := by decide +kernel
theorem dX12_layGains_34 : decode cX12_layGains 34 = .ok (.iload_n 1, 1) := by decide +kernel
theorem dX12_layGains_35 : decode cX12_layGains 35 = .ok (.aload_n 0, 1) := by decide +kernel
theorem dX12_layGains_36 : decode cX12_layGains 36 = .ok (.getfield 9, 3) := by decide +kernel
theorem dX12_layGains_39 : decode cX12_layGains 39 = .ok (.bipush 52, 2) := by decide +kernel
theorem dX12_layGains_41 : decode cX12_layGains 41 = .ok (.iload_n 3, 1) := by decide +kernel
theorem dX12_layGains_42 : decode cX12_layGains 42 = .ok (.iadd, 1) := by decide +kernel
theorem dX12_layGains_43 : decode cX12_layGains 43 = .ok (.iaload, 1) := by decide +kernel
theorem dX12_layGains_44 : decode cX12_layGains 44 = .ok (.iastore, 1) := by decide +kernel
theorem dX12_layGains_45 : decode cX12_layGains 45 = .ok (.aload_n 0, 1) := by decide +kernel
theorem dX12_layGains_46 : decode cX12_layGains 46 = .ok (.getfield 43, 3) := by decide +kernel
theorem dX12_layGains_49 : decode cX12_layGains 49 = .ok (.iload_n 2, 1) := by decide +kernel
theorem dX12_layGains_50 : decode cX12_layGains 50 = .ok (.aload_n 0, 1) := by decide +kernel
theorem dX12_layGains_51 : decode cX12_layGains 51 = .ok (.getfield 9, 3) := by decide +kernel
theorem dX12_layGains_54 : decode cX12_layGains 54 = .ok (.bipush 52, 2) := by decide +kernel
theorem dX12_layGains_56 : decode cX12_layGains 56 = .ok (.iload 4, 2) := by decide +kernel
theorem dX12_layGains_58 : decode cX12_layGains 58 = .ok (.iadd, 1) := by decide +kernel
theorem dX12_layGains_59 : decode cX12_layGains 59 = .ok (.iaload, 1) := by decide +kernel
theorem dX12_layGains_60 : decode cX12_layGains 60 = .ok (.iastore, 1) := by decide +kernel
theorem dX12_layGains_61 : decode cX12_layGains 61 = .ok (.aload_n 0, 1) := by decide +kernel
theorem dX12_layGains_62 : decode cX12_layGains 62 = .ok (.getfield 49, 3) := by decide +kernel
theorem dX12_layGains_65 : decode cX12_layGains 65 = .ok (.bipush 8, 2) := by decide +kernel
theorem dX12_layGains_67 : decode cX12_layGains 67 = .ok (.iload_n 3, 1) := by decide +kernel
theorem dX12_layGains_68 : decode cX12_layGains 68 = .ok (.imul, 1) := by decide +kernel
theorem dX12_layGains_69 : decode cX12_layGains 69 = .ok (.iload 4, 2) := by decide +kernel
theorem dX12_layGains_71 : decode cX12_layGains 71 = .ok (.iadd, 1) := by decide +kernel
theorem dX12_layGains_72 : decode cX12_layGains 72 = .ok (.aload_n 0, 1) := by decide +kernel
theorem dX12_layGains_73 : decode cX12_layGains 73 = .ok (.iload_n 1, 1) := by decide +kernel
theorem dX12_layGains_74 : decode cX12_layGains 74 = .ok (.invokevirtual 344, 3) := by decide +kernel
theorem dX12_layGains_77 : decode cX12_layGains 77 = .ok (.iastore, 1) := by decide +kernel
theorem dX12_layGains_78 : decode cX12_layGains 78 = .ok (.aload_n 0, 1) := by decide +kernel
theorem dX12_layGains_79 : decode cX12_layGains 79 = .ok (.getfield 49, 3) := by decide +kernel
theorem dX12_layGains_82 : decode cX12_layGains 82 = .ok (.bipush 64, 2) := by decide +kernel
theorem dX12_layGains_84 : decode cX12_layGains 84 = .ok (.bipush 8, 2) := by decide +kernel
theorem dX12_layGains_86 : decode cX12_layGains 86 = .ok (.iload_n 3, 1) := by decide +kernel
theorem dX12_layGains_87 : decode cX12_layGains 87 = .ok (.imul, 1) := by decide +kernel
theorem dX12_layGains_88 : decode cX12_layGains 88 = .ok (.iadd, 1) := by decide +kernel
theorem dX12_layGains_89 : decode cX12_layGains 89 = .ok (.iload 4, 2) := by decide +kernel
theorem dX12_layGains_91 : decode cX12_layGains 91 = .ok (.iadd, 1) := by decide +kernel
theorem dX12_layGains_92 : decode cX12_layGains 92 = .ok (.aload_n 0, 1) := by decide +kernel
theorem dX12_layGains_93 : decode cX12_layGains 93 = .ok (.iload_n 2, 1) := by decide +kernel
theorem dX12_layGains_94 : decode cX12_layGains 94 = .ok (.invokevirtual 344, 3) := by decide +kernel
theorem dX12_layGains_97 : decode cX12_layGains 97 = .ok (.iastore, 1) := by decide +kernel
theorem dX12_layGains_98 : decode cX12_layGains 98 = .ok (.iinc 4 1, 3) := by decide +kernel
theorem dX12_layGains_101 : decode cX12_layGains 101 = .ok (.goto (-82), 3) := by decide +kernel
theorem dX12_layGains_104 : decode cX12_layGains 104 = .ok (.iinc 3 1, 3) := by decide +kernel
theorem dX12_layGains_107 : decode cX12_layGains 107 = .ok (.goto (-101), 3) := by decide +kernel
theorem dX12_layGains_110 : decode cX12_layGains 110 = .ok (.return_, 1) := by decide +kernel
theorem dX12_gainOf_0 : decode cX12_gainOf 0 = .ok (.aload_n 0, 1) := by decide +kernel
theorem dX12_gainOf_1 : decode cX12_gainOf 1 = .ok (.getfield 49, 3) := by decide +kernel
theorem dX12_gainOf_4 : decode cX12_gainOf 4 = .ok (.iload_n 3, 1) := by decide +kernel
theorem dX12_gainOf_5 : decode cX12_gainOf 5 = .ok (.ifCond .eq 8, 3) := by decide +kernel
theorem dX12_gainOf_8 : decode cX12_gainOf 8 = .ok (.bipush 64, 2) := by decide +kernel
theorem dX12_gainOf_10 : decode cX12_gainOf 10 = .ok (.goto 4, 3) := by decide +kernel
theorem dX12_gainOf_13 : decode cX12_gainOf 13 = .ok (.iconst 0, 1) := by decide +kernel
theorem dX12_gainOf_14 : decode cX12_gainOf 14 = .ok (.bipush 8, 2) := by decide +kernel
theorem dX12_gainOf_16 : decode cX12_gainOf 16 = .ok (.iload_n 1, 1) := by decide +kernel
theorem dX12_gainOf_17 : decode cX12_gainOf 17 = .ok (.imul, 1) := by decide +kernel
theorem dX12_gainOf_18 : decode cX12_gainOf 18 = .ok (.iadd, 1) := by decide +kernel
theorem dX12_gainOf_19 : decode cX12_gainOf 19 = .ok (.iload_n 2, 1) := by decide +kernel
theorem dX12_gainOf_20 : decode cX12_gainOf 20 = .ok (.iadd, 1) := by decide +kernel
theorem dX12_gainOf_21 : decode cX12_gainOf 21 = .ok (.iaload, 1) := by decide +kernel
theorem dX12_gainOf_22 : decode cX12_gainOf 22 = .ok (.ireturn, 1) := by decide +kernel
theorem dX12_isLevel_0 : decode cX12_isLevel 0 = .ok (.iload_n 1, 1) := by decide +kernel
theorem dX12_isLevel_1 : decode cX12_isLevel 1 = .ok (.i2l, 1) := by decide +kernel
theorem dX12_isLevel_2 : decode cX12_isLevel 2 = .ok (.lconst 0, 1) := by decide +kernel
theorem dX12_isLevel_3 : decode cX12_isLevel 3 = .ok (.aload_n 0, 1) := by decide +kernel
theorem dX12_isLevel_4 : decode cX12_isLevel 4 = .ok (.getfield 9, 3) := by decide +kernel
theorem dX12_isLevel_7 : decode cX12_isLevel 7 = .ok (.iconst 3, 1) := by decide +kernel
theorem dX12_isLevel_8 : decode cX12_isLevel 8 = .ok (.iaload, 1) := by decide +kernel
theorem dX12_isLevel_9 : decode cX12_isLevel 9 = .ok (.iconst 1, 1) := by decide +kernel
theorem dX12_isLevel_10 : decode cX12_isLevel 10 = .ok (.isub, 1) := by decide +kernel
theorem dX12_isLevel_11 : decode cX12_isLevel 11 = .ok (.i2l, 1) := by decide +kernel
theorem dX12_isLevel_12 : decode cX12_isLevel 12 = .ok (.invokestatic 79, 3) := by decide +kernel
theorem dX12_isLevel_15 : decode cX12_isLevel 15 = .ok (.ireturn, 1) := by decide +kernel
theorem dX12_pairFault_0 : decode cX12_pairFault 0 = .ok (.aload_n 0, 1) := by decide +kernel
theorem dX12_pairFault_1 : decode cX12_pairFault 1 = .ok (.iload_n 1, 1) := by decide +kernel
theorem dX12_pairFault_2 : decode cX12_pairFault 2 = .ok (.invokevirtual 91, 3) := by decide +kernel
theorem dX12_pairFault_5 : decode cX12_pairFault 5 = .ok (.ifCond .eq 11, 3) := by decide +kernel
theorem dX12_pairFault_8 : decode cX12_pairFault 8 = .ok (.aload_n 0, 1) := by decide +kernel
theorem dX12_pairFault_9 : decode cX12_pairFault 9 = .ok (.iload_n 2, 1) := by decide +kernel
theorem dX12_pairFault_10 : decode cX12_pairFault 10 = .ok (.invokevirtual 91, 3) := by decide +kernel
theorem dX12_pairFault_13 : decode cX12_pairFault 13 = .ok (.ifCond .ne 7, 3) := by decide +kernel
theorem dX12_pairFault_16 : decode cX12_pairFault 16 = .ok (.iconst 1, 1) := by decide +kernel
theorem dX12_pairFault_17 : decode cX12_pairFault 17 = .ok (.goto 13, 3) := by decide +kernel
theorem dX12_pairFault_20 : decode cX12_pairFault 20 = .ok (.iload_n 1, 1) := by decide +kernel
theorem dX12_pairFault_21 : decode cX12_pairFault 21 = .ok (.iload_n 2, 1) := by decide +kernel
theorem dX12_pairFault_22 : decode cX12_pairFault 22 = .ok (.if_icmp .ne 7, 3) := by decide +kernel
theorem dX12_pairFault_25 : decode cX12_pairFault 25 = .ok (.iconst 2, 1) := by decide +kernel
theorem dX12_pairFault_26 : decode cX12_pairFault 26 = .ok (.goto 4, 3) := by decide +kernel
theorem dX12_pairFault_29 : decode cX12_pairFault 29 = .ok (.iconst 0, 1) := by decide +kernel
theorem dX12_pairFault_30 : decode cX12_pairFault 30 = .ok (.ireturn, 1) := by decide +kernel
theorem dX12_level_0 : decode cX12_level 0 = .ok (.aload_n 0, 1) := by decide +kernel
theorem dX12_level_1 : decode cX12_level 1 = .ok (.iconst 0, 1) := by decide +kernel
theorem dX12_level_2 : decode cX12_level 2 = .ok (.putfield 76, 3) := by decide +kernel
theorem dX12_level_5 : decode cX12_level 5 = .ok (.aload_n 0, 1) := by decide +kernel
theorem dX12_level_6 : decode cX12_level 6 = .ok (.getfield 9, 3) := by decide +kernel
theorem dX12_level_9 : decode cX12_level 9 = .ok (.iconst 3, 1) := by decide +kernel
theorem dX12_level_10 : decode cX12_level 10 = .ok (.iaload, 1) := by decide +kernel
theorem dX12_level_11 : decode cX12_level 11 = .ok (.istore_n 2, 1) := by decide +kernel
theorem dX12_level_12 : decode cX12_level 12 = .ok (.iload_n 1, 1) := by decide +kernel
theorem dX12_level_13 : decode cX12_level 13 = .ok (.i2l, 1) := by decide +kernel
theorem dX12_level_14 : decode cX12_level 14 = .ok (.iload_n 2, 1) := by decide +kernel
theorem dX12_level_15 : decode cX12_level 15 = .ok (.ifCond .ne 7, 3) := by decide +kernel
theorem dX12_level_18 : decode cX12_level 18 = .ok (.lconst 0, 1) := by decide +kernel
theorem dX12_level_19 : decode cX12_level 19 = .ok (.goto 17, 3) := by decide +kernel
theorem dX12_level_22 : decode cX12_level 22 = .ok (.aload_n 0, 1) := by decide +kernel
theorem dX12_level_23 : decode cX12_level 23 = .ok (.getfield 9, 3) := by decide +kernel
theorem dX12_level_26 : decode cX12_level 26 = .ok (.bipush 52, 2) := by decide +kernel
theorem dX12_level_28 : decode cX12_level 28 = .ok (.iload_n 2, 1) := by decide +kernel
theorem dX12_level_29 : decode cX12_level 29 = .ok (.iadd, 1) := by decide +kernel
theorem dX12_level_30 : decode cX12_level 30 = .ok (.iconst 1, 1) := by decide +kernel
theorem dX12_level_31 : decode cX12_level 31 = .ok (.isub, 1) := by decide +kernel
theorem dX12_level_32 : decode cX12_level 32 = .ok (.iaload, 1) := by decide +kernel
theorem dX12_level_33 : decode cX12_level 33 = .ok (.iconst 1, 1) := by decide +kernel
theorem dX12_level_34 : decode cX12_level 34 = .ok (.iadd, 1) := by decide +kernel
theorem dX12_level_35 : decode cX12_level 35 = .ok (.i2l, 1) := by decide +kernel
theorem dX12_level_36 : decode cX12_level 36 = .ok (.ldc2_w 87, 3) := by decide +kernel
theorem dX12_level_39 : decode cX12_level 39 = .ok (.invokestatic 79, 3) := by decide +kernel
theorem dX12_level_42 : decode cX12_level 42 = .ok (.ifCond .ne 9, 3) := by decide +kernel
theorem dX12_level_45 : decode cX12_level 45 = .ok (.aload_n 0, 1) := by decide +kernel
theorem dX12_level_46 : decode cX12_level 46 = .ok (.iconst 1, 1) := by decide +kernel
theorem dX12_level_47 : decode cX12_level 47 = .ok (.invokevirtual 83, 3) := by decide +kernel
theorem dX12_level_50 : decode cX12_level 50 = .ok (.ireturn, 1) := by decide +kernel
theorem dX12_level_51 : decode cX12_level 51 = .ok (.iload_n 2, 1) := by decide +kernel
theorem dX12_level_52 : decode cX12_level 52 = .ok (.bipush 8, 2) := by decide +kernel
theorem dX12_level_54 : decode cX12_level 54 = .ok (.if_icmp .ne 5, 3) := by decide +kernel
theorem dX12_level_57 : decode cX12_level 57 = .ok (.iconst (-1), 1) := by decide +kernel
theorem dX12_level_58 : decode cX12_level 58 = .ok (.ireturn, 1) := by decide +kernel
theorem dX12_level_59 : decode cX12_level 59 = .ok (.aload_n 0, 1) := by decide +kernel
theorem dX12_level_60 : decode cX12_level 60 = .ok (.getfield 9, 3) := by decide +kernel
theorem dX12_level_63 : decode cX12_level 63 = .ok (.bipush 52, 2) := by decide +kernel
theorem dX12_level_65 : decode cX12_level 65 = .ok (.iload_n 2, 1) := by decide +kernel
theorem dX12_level_66 : decode cX12_level 66 = .ok (.iadd, 1) := by decide +kernel
theorem dX12_level_67 : decode cX12_level 67 = .ok (.iload_n 1, 1) := by decide +kernel
theorem dX12_level_68 : decode cX12_level 68 = .ok (.iastore, 1) := by decide +kernel
theorem dX12_level_69 : decode cX12_level 69 = .ok (.aload_n 0, 1) := by decide +kernel
theorem dX12_level_70 : decode cX12_level 70 = .ok (.getfield 9, 3) := by decide +kernel
theorem dX12_level_73 : decode cX12_level 73 = .ok (.iconst 3, 1) := by decide +kernel
theorem dX12_level_74 : decode cX12_level 74 = .ok (.dup2, 1) := by decide +kernel
theorem dX12_level_75 : decode cX12_level 75 = .ok (.iaload, 1) := by decide +kernel
theorem dX12_level_76 : decode cX12_level 76 = .ok (.iconst 1, 1) := by decide +kernel
theorem dX12_level_77 : decode cX12_level 77 = .ok (.iadd, 1) := by decide +kernel
theorem dX12_level_78 : decode cX12_level 78 = .ok (.iastore, 1) := by decide +kernel
theorem dX12_level_79 : decode cX12_level 79 = .ok (.iload_n 2, 1) := by decide +kernel
theorem dX12_level_80 : decode cX12_level 80 = .ok (.ireturn, 1) := by decide +kernel
theorem dX12_gain_0 : decode cX12_gain 0 = .ok (.aload_n 0, 1) := by decide +kernel
theorem dX12_gain_1 : decode cX12_gain 1 = .ok (.aload_n 0, 1) := by decide +kernel
theorem dX12_gain_2 : decode cX12_gain 2 = .ok (.iload_n 1, 1) := by decide +kernel
theorem dX12_gain_3 : decode cX12_gain 3 = .ok (.iload_n 2, 1) := by decide +kernel
theorem dX12_gain_4 : decode cX12_gain 4 = .ok (.invokevirtual 347, 3) := by decide +kernel
theorem dX12_gain_7 : decode cX12_gain 7 = .ok (.putfield 76, 3) := by decide +kernel
theorem dX12_gain_10 : decode cX12_gain 10 = .ok (.aload_n 0, 1) := by decide +kernel
theorem dX12_gain_11 : decode cX12_gain 11 = .ok (.getfield 76, 3) := by decide +kernel
theorem dX12_gain_14 : decode cX12_gain 14 = .ok (.ifCond .le 5, 3) := by decide +kernel
theorem dX12_gain_17 : decode cX12_gain 17 = .ok (.iconst 0, 1) := by decide +kernel
theorem dX12_gain_18 : decode cX12_gain 18 = .ok (.ireturn, 1) := by decide +kernel
theorem dX12_gain_19 : decode cX12_gain 19 = .ok (.aload_n 0, 1) := by decide +kernel
theorem dX12_gain_20 : decode cX12_gain 20 = .ok (.iload_n 3, 1) := by decide +kernel
theorem dX12_gain_21 : decode cX12_gain 21 = .ok (.invokevirtual 350, 3) := by decide +kernel
theorem dX12_gain_24 : decode cX12_gain 24 = .ok (.ifCond .eq 12, 3) := by decide +kernel
theorem dX12_gain_27 : decode cX12_gain 27 = .ok (.aload_n 0, 1) := by decide +kernel
theorem dX12_gain_28 : decode cX12_gain 28 = .ok (.iload 4, 2) := by decide +kernel
theorem dX12_gain_30 : decode cX12_gain 30 = .ok (.invokevirtual 350, 3) := by decide +kernel
theorem dX12_gain_33 : decode cX12_gain 33 = .ok (.ifCond .ne 9, 3) := by decide +kernel
theorem dX12_gain_36 : decode cX12_gain 36 = .ok (.aload_n 0, 1) := by decide +kernel
theorem dX12_gain_37 : decode cX12_gain 37 = .ok (.iconst 3, 1) := by decide +kernel
theorem dX12_gain_38 : decode cX12_gain 38 = .ok (.invokevirtual 83, 3) := by decide +kernel
theorem dX12_gain_41 : decode cX12_gain 41 = .ok (.ireturn, 1) := by decide +kernel
theorem dX12_gain_42 : decode cX12_gain 42 = .ok (.aload_n 0, 1) := by decide +kernel
theorem dX12_gain_43 : decode cX12_gain 43 = .ok (.iload_n 1, 1) := by decide +kernel
theorem dX12_gain_44 : decode cX12_gain 44 = .ok (.iload_n 2, 1) := by decide +kernel
theorem dX12_gain_45 : decode cX12_gain 45 = .ok (.invokevirtual 353, 3) := by decide +kernel
theorem dX12_gain_48 : decode cX12_gain 48 = .ok (.aload_n 0, 1) := by decide +kernel
theorem dX12_gain_49 : decode cX12_gain 49 = .ok (.iload_n 3, 1) := by decide +kernel
theorem dX12_gain_50 : decode cX12_gain 50 = .ok (.iload 4, 2) := by decide +kernel
theorem dX12_gain_52 : decode cX12_gain 52 = .ok (.iload 5, 2) := by decide +kernel
theorem dX12_gain_54 : decode cX12_gain 54 = .ok (.invokevirtual 356, 3) := by decide +kernel
theorem dX12_gain_57 : decode cX12_gain 57 = .ok (.ireturn, 1) := by decide +kernel
theorem dX12_reply_0 : decode cX12_reply 0 = .ok (.aload_n 0, 1) := by decide +kernel
theorem dX12_reply_1 : decode cX12_reply 1 = .ok (.aload_n 0, 1) := by decide +kernel
theorem dX12_reply_2 : decode cX12_reply 2 = .ok (.iload_n 1, 1) := by decide +kernel
theorem dX12_reply_3 : decode cX12_reply 3 = .ok (.iload_n 2, 1) := by decide +kernel
theorem dX12_reply_4 : decode cX12_reply 4 = .ok (.invokevirtual 347, 3) := by decide +kernel
theorem dX12_reply_7 : decode cX12_reply 7 = .ok (.putfield 76, 3) := by decide +kernel
theorem dX12_reply_10 : decode cX12_reply 10 = .ok (.aload_n 0, 1) := by decide +kernel
theorem dX12_reply_11 : decode cX12_reply 11 = .ok (.getfield 76, 3) := by decide +kernel
theorem dX12_reply_14 : decode cX12_reply 14 = .ok (.ifCond .le 5, 3) := by decide +kernel
theorem dX12_reply_17 : decode cX12_reply 17 = .ok (.iconst 0, 1) := by decide +kernel
theorem dX12_reply_18 : decode cX12_reply 18 = .ok (.ireturn, 1) := by decide +kernel
theorem dX12_reply_19 : decode cX12_reply 19 = .ok (.aload_n 0, 1) := by decide +kernel
theorem dX12_reply_20 : decode cX12_reply 20 = .ok (.iload_n 3, 1) := by decide +kernel
theorem dX12_reply_21 : decode cX12_reply 21 = .ok (.invokevirtual 350, 3) := by decide +kernel
theorem dX12_reply_24 : decode cX12_reply 24 = .ok (.ifCond .ne 9, 3) := by decide +kernel
theorem dX12_reply_27 : decode cX12_reply 27 = .ok (.aload_n 0, 1) := by decide +kernel
theorem dX12_reply_28 : decode cX12_reply 28 = .ok (.iconst 3, 1) := by decide +kernel
theorem dX12_reply_29 : decode cX12_reply 29 = .ok (.invokevirtual 83, 3) := by decide +kernel
theorem dX12_reply_32 : decode cX12_reply 32 = .ok (.ireturn, 1) := by decide +kernel
theorem dX12_reply_33 : decode cX12_reply 33 = .ok (.aload_n 0, 1) := by decide +kernel
theorem dX12_reply_34 : decode cX12_reply 34 = .ok (.iload_n 1, 1) := by decide +kernel
theorem dX12_reply_35 : decode cX12_reply 35 = .ok (.iload_n 2, 1) := by decide +kernel
theorem dX12_reply_36 : decode cX12_reply 36 = .ok (.invokevirtual 353, 3) := by decide +kernel
theorem dX12_reply_39 : decode cX12_reply 39 = .ok (.iconst 0, 1) := by decide +kernel
theorem dX12_reply_40 : decode cX12_reply 40 = .ok (.istore 4, 2) := by decide +kernel
theorem dX12_reply_42 : decode cX12_reply 42 = .ok (.iconst 1, 1) := by decide +kernel
theorem dX12_reply_43 : decode cX12_reply 43 = .ok (.istore 5, 2) := by decide +kernel
theorem dX12_reply_45 : decode cX12_reply 45 = .ok (.iload 5, 2) := by decide +kernel
theorem dX12_reply_47 : decode cX12_reply 47 = .ok (.aload_n 0, 1) := by decide +kernel
theorem dX12_reply_48 : decode cX12_reply 48 = .ok (.getfield 9, 3) := by decide +kernel
theorem dX12_reply_51 : decode cX12_reply 51 = .ok (.iconst 3, 1) := by decide +kernel
theorem dX12_reply_52 : decode cX12_reply 52 = .ok (.iaload, 1) := by decide +kernel
theorem dX12_reply_53 : decode cX12_reply 53 = .ok (.if_icmp .ge 32, 3) := by decide +kernel
theorem dX12_reply_56 : decode cX12_reply 56 = .ok (.aload_n 0, 1) := by decide +kernel
theorem dX12_reply_57 : decode cX12_reply 57 = .ok (.iload 5, 2) := by decide +kernel
theorem dX12_reply_59 : decode cX12_reply 59 = .ok (.iload_n 3, 1) := by decide +kernel
theorem dX12_reply_60 : decode cX12_reply 60 = .ok (.iconst 0, 1) := by decide +kernel
theorem dX12_reply_61 : decode cX12_reply 61 = .ok (.invokevirtual 356, 3) := by decide +kernel
theorem dX12_reply_64 : decode cX12_reply 64 = .ok (.aload_n 0, 1) := by decide +kernel
theorem dX12_reply_65 : decode cX12_reply 65 = .ok (.iload 4, 2) := by decide +kernel
theorem dX12_reply_67 : decode cX12_reply 67 = .ok (.iload_n 3, 1) := by decide +kernel
theorem dX12_reply_68 : decode cX12_reply 68 = .ok (.iconst 0, 1) := by decide +kernel
theorem dX12_reply_69 : decode cX12_reply 69 = .ok (.invokevirtual 356, 3) := by decide +kernel
theorem dX12_reply_72 : decode cX12_reply 72 = .ok (.if_icmp .le 7, 3) := by decide +kernel
theorem dX12_reply_75 : decode cX12_reply 75 = .ok (.iload 5, 2) := by decide +kernel
theorem dX12_reply_77 : decode cX12_reply 77 = .ok (.istore 4, 2) := by decide +kernel
theorem dX12_reply_79 : decode cX12_reply 79 = .ok (.iinc 5 1, 3) := by decide +kernel
theorem dX12_reply_82 : decode cX12_reply 82 = .ok (.goto (-37), 3) := by decide +kernel
theorem dX12_reply_85 : decode cX12_reply 85 = .ok (.iload 4, 2) := by decide +kernel
theorem dX12_reply_87 : decode cX12_reply 87 = .ok (.ireturn, 1) := by decide +kernel
theorem dX12_isEven_0 : decode cX12_isEven 0 = .ok (.iconst 0, 1) := by decide +kernel
theorem dX12_isEven_1 : decode cX12_isEven 1 = .ok (.istore_n 3, 1) := by decide +kernel
theorem dX12_isEven_2 : decode cX12_isEven 2 = .ok (.iload_n 3, 1) := by decide +kernel
theorem dX12_isEven_3 : decode cX12_isEven 3 = .ok (.aload_n 0, 1) := by decide +kernel
theorem dX12_isEven_4 : decode cX12_isEven 4 = .ok (.getfield 9, 3) := by decide +kernel
theorem dX12_isEven_7 : decode cX12_isEven 7 = .ok (.iconst 3, 1) := by decide +kernel
theorem dX12_isEven_8 : decode cX12_isEven 8 = .ok (.iaload, 1) := by decide +kernel
theorem dX12_isEven_9 : decode cX12_isEven 9 = .ok (.if_icmp .ge 45, 3) := by decide +kernel
theorem dX12_isEven_12 : decode cX12_isEven 12 = .ok (.aload_n 0, 1) := by decide +kernel
theorem dX12_isEven_13 : decode cX12_isEven 13 = .ok (.iload_n 3, 1) := by decide +kernel
theorem dX12_isEven_14 : decode cX12_isEven 14 = .ok (.iload_n 2, 1) := by decide +kernel
theorem dX12_isEven_15 : decode cX12_isEven 15 = .ok (.iconst 0, 1) := by decide +kernel
theorem dX12_isEven_16 : decode cX12_isEven 16 = .ok (.invokevirtual 356, 3) := by decide +kernel
theorem dX12_isEven_19 : decode cX12_isEven 19 = .ok (.aload_n 0, 1) := by decide +kernel
theorem dX12_isEven_20 : decode cX12_isEven 20 = .ok (.iload_n 1, 1) := by decide +kernel
theorem dX12_isEven_21 : decode cX12_isEven 21 = .ok (.iload_n 2, 1) := by decide +kernel
theorem dX12_isEven_22 : decode cX12_isEven 22 = .ok (.iconst 0, 1) := by decide +kernel
theorem dX12_isEven_23 : decode cX12_isEven 23 = .ok (.invokevirtual 356, 3) := by decide +kernel
theorem dX12_isEven_26 : decode cX12_isEven 26 = .ok (.if_icmp .gt 20, 3) := by decide +kernel
theorem dX12_isEven_29 : decode cX12_isEven 29 = .ok (.aload_n 0, 1) := by decide +kernel
theorem dX12_isEven_30 : decode cX12_isEven 30 = .ok (.iload_n 1, 1) := by decide +kernel
theorem dX12_isEven_31 : decode cX12_isEven 31 = .ok (.iload_n 3, 1) := by decide +kernel
theorem dX12_isEven_32 : decode cX12_isEven 32 = .ok (.iconst 1, 1) := by decide +kernel
theorem dX12_isEven_33 : decode cX12_isEven 33 = .ok (.invokevirtual 356, 3) := by decide +kernel
theorem dX12_isEven_36 : decode cX12_isEven 36 = .ok (.aload_n 0, 1) := by decide +kernel
theorem dX12_isEven_37 : decode cX12_isEven 37 = .ok (.iload_n 1, 1) := by decide +kernel
theorem dX12_isEven_38 : decode cX12_isEven 38 = .ok (.iload_n 2, 1) := by decide +kernel
theorem dX12_isEven_39 : decode cX12_isEven 39 = .ok (.iconst 1, 1) := by decide +kernel
theorem dX12_isEven_40 : decode cX12_isEven 40 = .ok (.invokevirtual 356, 3) := by decide +kernel
theorem dX12_isEven_43 : decode cX12_isEven 43 = .ok (.if_icmp .le 5, 3) := by decide +kernel
theorem dX12_isEven_46 : decode cX12_isEven 46 = .ok (.iconst 0, 1) := by decide +kernel
theorem dX12_isEven_47 : decode cX12_isEven 47 = .ok (.ireturn, 1) := by decide +kernel
theorem dX12_isEven_48 : decode cX12_isEven 48 = .ok (.iinc 3 1, 3) := by decide +kernel
theorem dX12_isEven_51 : decode cX12_isEven 51 = .ok (.goto (-49), 3) := by decide +kernel
theorem dX12_isEven_54 : decode cX12_isEven 54 = .ok (.iconst 1, 1) := by decide +kernel
theorem dX12_isEven_55 : decode cX12_isEven 55 = .ok (.ireturn, 1) := by decide +kernel
theorem dX12_evenAt_0 : decode cX12_evenAt 0 = .ok (.iconst 0, 1) := by decide +kernel
theorem dX12_evenAt_1 : decode cX12_evenAt 1 = .ok (.istore_n 2, 1) := by decide +kernel
theorem dX12_evenAt_2 : decode cX12_evenAt 2 = .ok (.iconst 0, 1) := by decide +kernel
theorem dX12_evenAt_3 : decode cX12_evenAt 3 = .ok (.istore_n 3, 1) := by decide +kernel
theorem dX12_evenAt_4 : decode cX12_evenAt 4 = .ok (.iload_n 3, 1) := by decide +kernel
theorem dX12_evenAt_5 : decode cX12_evenAt 5 = .ok (.aload_n 0, 1) := by decide +kernel
theorem dX12_evenAt_6 : decode cX12_evenAt 6 = .ok (.getfield 9, 3) := by decide +kernel
theorem dX12_evenAt_9 : decode cX12_evenAt 9 = .ok (.iconst 3, 1) := by decide +kernel
theorem dX12_evenAt_10 : decode cX12_evenAt 10 = .ok (.iaload, 1) := by decide +kernel
theorem dX12_evenAt_11 : decode cX12_evenAt 11 = .ok (.if_icmp .ge 58, 3) := by decide +kernel
theorem dX12_evenAt_14 : decode cX12_evenAt 14 = .ok (.iconst 0, 1) := by decide +kernel
theorem dX12_evenAt_15 : decode cX12_evenAt 15 = .ok (.istore 4, 2) := by decide +kernel
theorem dX12_evenAt_17 : decode cX12_evenAt 17 = .ok (.iload 4, 2) := by decide +kernel
theorem dX12_evenAt_19 : decode cX12_evenAt 19 = .ok (.aload_n 0, 1) := by decide +kernel
theorem dX12_evenAt_20 : decode cX12_evenAt 20 = .ok (.getfield 9, 3) := by decide +kernel
theorem dX12_evenAt_23 : decode cX12_evenAt 23 = .ok (.iconst 3, 1) := by decide +kernel
theorem dX12_evenAt_24 : decode cX12_evenAt 24 = .ok (.iaload, 1) := by decide +kernel
theorem dX12_evenAt_25 : decode cX12_evenAt 25 = .ok (.if_icmp .ge 38, 3) := by decide +kernel
theorem dX12_evenAt_28 : decode cX12_evenAt 28 = .ok (.aload_n 0, 1) := by decide +kernel
theorem dX12_evenAt_29 : decode cX12_evenAt 29 = .ok (.iload_n 3, 1) := by decide +kernel
theorem dX12_evenAt_30 : decode cX12_evenAt 30 = .ok (.iload 4, 2) := by decide +kernel
theorem dX12_evenAt_32 : decode cX12_evenAt 32 = .ok (.invokevirtual 359, 3) := by decide +kernel
theorem dX12_evenAt_35 : decode cX12_evenAt 35 = .ok (.ifCond .ne 6, 3) := by decide +kernel
theorem dX12_evenAt_38 : decode cX12_evenAt 38 = .ok (.goto 19, 3) := by decide +kernel
theorem dX12_evenAt_41 : decode cX12_evenAt 41 = .ok (.iload_n 2, 1) := by decide +kernel
theorem dX12_evenAt_42 : decode cX12_evenAt 42 = .ok (.iload_n 1, 1) := by decide +kernel
theorem dX12_evenAt_43 : decode cX12_evenAt 43 = .ok (.if_icmp .ne 11, 3) := by decide +kernel
theorem dX12_evenAt_46 : decode cX12_evenAt 46 = .ok (.bipush 10, 2) := by decide +kernel
theorem dX12_evenAt_48 : decode cX12_evenAt 48 = .ok (.iload_n 3, 1) := by decide +kernel
theorem dX12_evenAt_49 : decode cX12_evenAt 49 = .ok (.imul, 1) := by decide +kernel
theorem dX12_evenAt_50 : decode cX12_evenAt 50 = .ok (.iload 4, 2) := by decide +kernel
theorem dX12_evenAt_52 : decode cX12_evenAt 52 = .ok (.iadd, 1) := by decide +kernel
theorem dX12_evenAt_53 : decode cX12_evenAt 53 = .ok (.ireturn, 1) := by decide +kernel
theorem dX12_evenAt_54 : decode cX12_evenAt 54 = .ok (.iinc 2 1, 3) := by decide +kernel
theorem dX12_evenAt_57 : decode cX12_evenAt 57 = .ok (.iinc 4 1, 3) := by decide +kernel
theorem dX12_evenAt_60 : decode cX12_evenAt 60 = .ok (.goto (-43), 3) := by decide +kernel
theorem dX12_evenAt_63 : decode cX12_evenAt 63 = .ok (.iinc 3 1, 3) := by decide +kernel
theorem dX12_evenAt_66 : decode cX12_evenAt 66 = .ok (.goto (-62), 3) := by decide +kernel
theorem dX12_evenAt_69 : decode cX12_evenAt 69 = .ok (.iload_n 1, 1) := by decide +kernel
theorem dX12_evenAt_70 : decode cX12_evenAt 70 = .ok (.iconst (-1), 1) := by decide +kernel
theorem dX12_evenAt_71 : decode cX12_evenAt 71 = .ok (.if_icmp .ne 7, 3) := by decide +kernel
theorem dX12_evenAt_74 : decode cX12_evenAt 74 = .ok (.iload_n 2, 1) := by decide +kernel
theorem dX12_evenAt_75 : decode cX12_evenAt 75 = .ok (.goto 4, 3) := by decide +kernel
theorem dX12_evenAt_78 : decode cX12_evenAt 78 = .ok (.iconst (-1), 1) := by decide +kernel
theorem dX12_evenAt_79 : decode cX12_evenAt 79 = .ok (.ireturn, 1) := by decide +kernel
theorem dX12_even_0 : decode cX12_even 0 = .ok (.aload_n 0, 1) := by decide +kernel
theorem dX12_even_1 : decode cX12_even 1 = .ok (.aload_n 0, 1) := by decide +kernel
theorem dX12_even_2 : decode cX12_even 2 = .ok (.iload_n 1, 1) := by decide +kernel
theorem dX12_even_3 : decode cX12_even 3 = .ok (.iload_n 2, 1) := by decide +kernel
theorem dX12_even_4 : decode cX12_even 4 = .ok (.invokevirtual 347, 3) := by decide +kernel
theorem dX12_even_7 : decode cX12_even 7 = .ok (.putfield 76, 3) := by decide +kernel
theorem dX12_even_10 : decode cX12_even 10 = .ok (.aload_n 0, 1) := by decide +kernel
theorem dX12_even_11 : decode cX12_even 11 = .ok (.getfield 76, 3) := by decide +kernel
theorem dX12_even_14 : decode cX12_even 14 = .ok (.ifCond .le 5, 3) := by decide +kernel
theorem dX12_even_17 : decode cX12_even 17 = .ok (.iconst 0, 1) := by decide +kernel
theorem dX12_even_18 : decode cX12_even 18 = .ok (.ireturn, 1) := by decide +kernel
theorem dX12_even_19 : decode cX12_even 19 = .ok (.aload_n 0, 1) := by decide +kernel
theorem dX12_even_20 : decode cX12_even 20 = .ok (.iload_n 1, 1) := by decide +kernel
theorem dX12_even_21 : decode cX12_even 21 = .ok (.iload_n 2, 1) := by decide +kernel
theorem dX12_even_22 : decode cX12_even 22 = .ok (.invokevirtual 353, 3) := by decide +kernel
theorem dX12_even_25 : decode cX12_even 25 = .ok (.aload_n 0, 1) := by decide +kernel
theorem dX12_even_26 : decode cX12_even 26 = .ok (.iload_n 3, 1) := by decide +kernel
theorem dX12_even_27 : decode cX12_even 27 = .ok (.invokevirtual 362, 3) := by decide +kernel
theorem dX12_even_30 : decode cX12_even 30 = .ok (.ireturn, 1) := by decide +kernel
theorem dX12_together_0 : decode cX12_together 0 = .ok (.aload_n 0, 1) := by decide +kernel
theorem dX12_together_1 : decode cX12_together 1 = .ok (.iload_n 1, 1) := by decide +kernel
theorem dX12_together_2 : decode cX12_together 2 = .ok (.iload_n 2, 1) := by decide +kernel
theorem dX12_together_3 : decode cX12_together 3 = .ok (.iconst 0, 1) := by decide +kernel
theorem dX12_together_4 : decode cX12_together 4 = .ok (.invokevirtual 356, 3) := by decide +kernel
theorem dX12_together_7 : decode cX12_together 7 = .ok (.aload_n 0, 1) := by decide +kernel
theorem dX12_together_8 : decode cX12_together 8 = .ok (.iload_n 1, 1) := by decide +kernel
theorem dX12_together_9 : decode cX12_together 9 = .ok (.iload_n 2, 1) := by decide +kernel
theorem dX12_together_10 : decode cX12_together 10 = .ok (.iconst 1, 1) := by decide +kernel
theorem dX12_together_11 : decode cX12_together 11 = .ok (.invokevirtual 356, 3) := by decide +kernel
theorem dX12_together_14 : decode cX12_together 14 = .ok (.iadd, 1) := by decide +kernel
theorem dX12_together_15 : decode cX12_together 15 = .ok (.ireturn, 1) := by decide +kernel
theorem dX12_joint_0 : decode cX12_joint 0 = .ok (.aload_n 0, 1) := by decide +kernel
theorem dX12_joint_1 : decode cX12_joint 1 = .ok (.aload_n 0, 1) := by decide +kernel
theorem dX12_joint_2 : decode cX12_joint 2 = .ok (.iload_n 1, 1) := by decide +kernel
theorem dX12_joint_3 : decode cX12_joint 3 = .ok (.iload_n 2, 1) := by decide +kernel
theorem dX12_joint_4 : decode cX12_joint 4 = .ok (.invokevirtual 347, 3) := by decide +kernel
theorem dX12_joint_7 : decode cX12_joint 7 = .ok (.putfield 76, 3) := by decide +kernel
theorem dX12_joint_10 : decode cX12_joint 10 = .ok (.aload_n 0, 1) := by decide +kernel
theorem dX12_joint_11 : decode cX12_joint 11 = .ok (.getfield 76, 3) := by decide +kernel
theorem dX12_joint_14 : decode cX12_joint 14 = .ok (.ifCond .le 5, 3) := by decide +kernel
theorem dX12_joint_17 : decode cX12_joint 17 = .ok (.iconst 0, 1) := by decide +kernel
theorem dX12_joint_18 : decode cX12_joint 18 = .ok (.ireturn, 1) := by decide +kernel
theorem dX12_joint_19 : decode cX12_joint 19 = .ok (.aload_n 0, 1) := by decide +kernel
theorem dX12_joint_20 : decode cX12_joint 20 = .ok (.iload_n 1, 1) := by decide +kernel
theorem dX12_joint_21 : decode cX12_joint 21 = .ok (.iload_n 2, 1) := by decide +kernel
theorem dX12_joint_22 : decode cX12_joint 22 = .ok (.invokevirtual 353, 3) := by decide +kernel
theorem dX12_joint_25 : decode cX12_joint 25 = .ok (.iconst (-1), 1) := by decide +kernel
theorem dX12_joint_26 : decode cX12_joint 26 = .ok (.istore_n 3, 1) := by decide +kernel
theorem dX12_joint_27 : decode cX12_joint 27 = .ok (.iconst 0, 1) := by decide +kernel
theorem dX12_joint_28 : decode cX12_joint 28 = .ok (.istore 4, 2) := by decide +kernel
theorem dX12_joint_30 : decode cX12_joint 30 = .ok (.iload 4, 2) := by decide +kernel
theorem dX12_joint_32 : decode cX12_joint 32 = .ok (.aload_n 0, 1) := by decide +kernel
theorem dX12_joint_33 : decode cX12_joint 33 = .ok (.getfield 9, 3) := by decide +kernel
theorem dX12_joint_36 : decode cX12_joint 36 = .ok (.iconst 3, 1) := by decide +kernel
theorem dX12_joint_37 : decode cX12_joint 37 = .ok (.iaload, 1) := by decide +kernel
theorem dX12_joint_38 : decode cX12_joint 38 = .ok (.if_icmp .ge 66, 3) := by decide +kernel
theorem dX12_joint_41 : decode cX12_joint 41 = .ok (.iconst 0, 1) := by decide +kernel
theorem dX12_joint_42 : decode cX12_joint 42 = .ok (.istore 5, 2) := by decide +kernel
theorem dX12_joint_44 : decode cX12_joint 44 = .ok (.iload 5, 2) := by decide +kernel
theorem dX12_joint_46 : decode cX12_joint 46 = .ok (.aload_n 0, 1) := by decide +kernel
theorem dX12_joint_47 : decode cX12_joint 47 = .ok (.getfield 9, 3) := by decide +kernel
theorem dX12_joint_50 : decode cX12_joint 50 = .ok (.iconst 3, 1) := by decide +kernel
theorem dX12_joint_51 : decode cX12_joint 51 = .ok (.iaload, 1) := by decide +kernel
theorem dX12_joint_52 : decode cX12_joint 52 = .ok (.if_icmp .ge 46, 3) := by decide +kernel
theorem dX12_joint_55 : decode cX12_joint 55 = .ok (.iload_n 3, 1) := by decide +kernel
theorem dX12_joint_56 : decode cX12_joint 56 = .ok (.iconst (-1), 1) := by decide +kernel
theorem dX12_joint_57 : decode cX12_joint 57 = .ok (.if_icmp .eq 26, 3) := by decide +kernel
theorem dX12_joint_60 : decode cX12_joint 60 = .ok (.aload_n 0, 1) := by decide +kernel
theorem dX12_joint_61 : decode cX12_joint 61 = .ok (.iload 4, 2) := by decide +kernel
theorem dX12_joint_63 : decode cX12_joint 63 = .ok (.iload 5, 2) := by decide +kernel
theorem dX12_joint_65 : decode cX12_joint 65 = .ok (.invokevirtual 365, 3) := by decide +kernel
theorem dX12_joint_68 : decode cX12_joint 68 = .ok (.aload_n 0, 1) := by decide +kernel
theorem dX12_joint_69 : decode cX12_joint 69 = .ok (.iload_n 3, 1) := by decide +kernel
theorem dX12_joint_70 : decode cX12_joint 70 = .ok (.bipush 10, 2) := by decide +kernel
theorem dX12_joint_72 : decode cX12_joint 72 = .ok (.idiv, 1) := by decide +kernel
theorem dX12_joint_73 : decode cX12_joint 73 = .ok (.iload_n 3, 1) := by decide +kernel
theorem dX12_joint_74 : decode cX12_joint 74 = .ok (.bipush 10, 2) := by decide +kernel
theorem dX12_joint_76 : decode cX12_joint 76 = .ok (.irem, 1) := by decide +kernel
theorem dX12_joint_77 : decode cX12_joint 77 = .ok (.invokevirtual 365, 3) := by decide +kernel
theorem dX12_joint_80 : decode cX12_joint 80 = .ok (.if_icmp .le 12, 3) := by decide +kernel
theorem dX12_joint_83 : decode cX12_joint 83 = .ok (.bipush 10, 2) := by decide +kernel
theorem dX12_joint_85 : decode cX12_joint 85 = .ok (.iload 4, 2) := by decide +kernel
theorem dX12_joint_87 : decode cX12_joint 87 = .ok (.imul, 1) := by decide +kernel
theorem dX12_joint_88 : decode cX12_joint 88 = .ok (.iload 5, 2) := by decide +kernel
theorem dX12_joint_90 : decode cX12_joint 90 = .ok (.iadd, 1) := by decide +kernel
theorem dX12_joint_91 : decode cX12_joint 91 = .ok (.istore_n 3, 1) := by decide +kernel
theorem dX12_joint_92 : decode cX12_joint 92 = .ok (.iinc 5 1, 3) := by decide +kernel
theorem dX12_joint_95 : decode cX12_joint 95 = .ok (.goto (-51), 3) := by decide +kernel
theorem dX12_joint_98 : decode cX12_joint 98 = .ok (.iinc 4 1, 3) := by decide +kernel
theorem dX12_joint_101 : decode cX12_joint 101 = .ok (.goto (-71), 3) := by decide +kernel
theorem dX12_joint_104 : decode cX12_joint 104 = .ok (.iload_n 3, 1) := by decide +kernel
theorem dX12_joint_105 : decode cX12_joint 105 = .ok (.ireturn, 1) := by decide +kernel
theorem dX12_turnFault_0 : decode cX12_turnFault 0 = .ok (.aload_n 0, 1) := by decide +kernel
theorem dX12_turnFault_1 : decode cX12_turnFault 1 = .ok (.iload_n 1, 1) := by decide +kernel
theorem dX12_turnFault_2 : decode cX12_turnFault 2 = .ok (.iload_n 2, 1) := by decide +kernel
theorem dX12_turnFault_3 : decode cX12_turnFault 3 = .ok (.invokevirtual 347, 3) := by decide +kernel
