theorem dX6_rests_42 : decode cX6_rests 42 = .ok (.bipush (-2), 2) := by decide +kernel
theorem dX6_rests_44 : decode cX6_rests 44 = .ok (.ireturn, 1) := by decide +kernel
theorem dX6_rests_45 : decode cX6_rests 45 = .ok (.aload_n 0, 1) := by decide +kernel
theorem dX6_rests_46 : decode cX6_rests 46 = .ok (.iload_n 1, 1) := by decide +kernel
theorem dX6_rests_47 : decode cX6_rests 47 = .ok (.iload_n 2, 1) := by decide +kernel
theorem dX6_rests_48 : decode cX6_rests 48 = .ok (.invokevirtual 226, 3) := by decide +kernel
theorem dX6_rests_51 : decode cX6_rests 51 = .ok (.iconst 0, 1) := by decide +kernel
theorem dX6_rests_52 : decode cX6_rests 52 = .ok (.istore 4, 2) := by decide +kernel
theorem dX6_rests_54 : decode cX6_rests 54 = .ok (.bipush (-9), 2) := by decide +kernel
theorem dX6_rests_56 : decode cX6_rests 56 = .ok (.istore 5, 2) := by decide +kernel
theorem dX6_rests_58 : decode cX6_rests 58 = .ok (.iconst 0, 1) := by decide +kernel
theorem dX6_rests_59 : decode cX6_rests 59 = .ok (.istore 6, 2) := by decide +kernel
theorem dX6_rests_61 : decode cX6_rests 61 = .ok (.iload 6, 2) := by decide +kernel
theorem dX6_rests_63 : decode cX6_rests 63 = .ok (.iconst 1, 1) := by decide +kernel
theorem dX6_rests_64 : decode cX6_rests 64 = .ok (.aload_n 0, 1) := by decide +kernel
theorem dX6_rests_65 : decode cX6_rests 65 = .ok (.getfield 10, 3) := by decide +kernel
theorem dX6_rests_68 : decode cX6_rests 68 = .ok (.getfield 202, 3) := by decide +kernel
theorem dX6_rests_71 : decode cX6_rests 71 = .ok (.ishl, 1) := by decide +kernel
theorem dX6_rests_72 : decode cX6_rests 72 = .ok (.if_icmp .ge 33, 3) := by decide +kernel
theorem dX6_rests_75 : decode cX6_rests 75 = .ok (.aload_n 0, 1) := by decide +kernel
theorem dX6_rests_76 : decode cX6_rests 76 = .ok (.getfield 54, 3) := by decide +kernel
theorem dX6_rests_79 : decode cX6_rests 79 = .ok (.iload 6, 2) := by decide +kernel
theorem dX6_rests_81 : decode cX6_rests 81 = .ok (.invokevirtual 230, 3) := by decide +kernel
theorem dX6_rests_84 : decode cX6_rests 84 = .ok (.ifCond .eq 15, 3) := by decide +kernel
theorem dX6_rests_87 : decode cX6_rests 87 = .ok (.iload 4, 2) := by decide +kernel
theorem dX6_rests_89 : decode cX6_rests 89 = .ok (.ifCond .ne 7, 3) := by decide +kernel
theorem dX6_rests_92 : decode cX6_rests 92 = .ok (.iload 6, 2) := by decide +kernel
theorem dX6_rests_94 : decode cX6_rests 94 = .ok (.istore 5, 2) := by decide +kernel
theorem dX6_rests_96 : decode cX6_rests 96 = .ok (.iinc 4 1, 3) := by decide +kernel
theorem dX6_rests_99 : decode cX6_rests 99 = .ok (.iinc 6 1, 3) := by decide +kernel
theorem dX6_rests_102 : decode cX6_rests 102 = .ok (.goto (-41), 3) := by decide +kernel
theorem dX6_rests_105 : decode cX6_rests 105 = .ok (.iload_n 3, 1) := by decide +kernel
theorem dX6_rests_106 : decode cX6_rests 106 = .ok (.ifCond .ne 8, 3) := by decide +kernel
theorem dX6_rests_109 : decode cX6_rests 109 = .ok (.iload 4, 2) := by decide +kernel
theorem dX6_rests_111 : decode cX6_rests 111 = .ok (.goto 5, 3) := by decide +kernel
theorem dX6_rests_114 : decode cX6_rests 114 = .ok (.iload 5, 2) := by decide +kernel
theorem dX6_rests_116 : decode cX6_rests 116 = .ok (.ireturn, 1) := by decide +kernel
theorem dX6_blamed_0 : decode cX6_blamed 0 = .ok (.iload_n 1, 1) := by decide +kernel
theorem dX6_blamed_1 : decode cX6_blamed 1 = .ok (.iconst 1, 1) := by decide +kernel
theorem dX6_blamed_2 : decode cX6_blamed 2 = .ok (.sipush 999, 3) := by decide +kernel
theorem dX6_blamed_5 : decode cX6_blamed 5 = .ok (.invokestatic 88, 3) := by decide +kernel
theorem dX6_blamed_8 : decode cX6_blamed 8 = .ok (.ifCond .eq 22, 3) := by decide +kernel
theorem dX6_blamed_11 : decode cX6_blamed 11 = .ok (.iload_n 2, 1) := by decide +kernel
theorem dX6_blamed_12 : decode cX6_blamed 12 = .ok (.iconst 0, 1) := by decide +kernel
theorem dX6_blamed_13 : decode cX6_blamed 13 = .ok (.iconst 1, 1) := by decide +kernel
theorem dX6_blamed_14 : decode cX6_blamed 14 = .ok (.aload_n 0, 1) := by decide +kernel
theorem dX6_blamed_15 : decode cX6_blamed 15 = .ok (.getfield 10, 3) := by decide +kernel
theorem dX6_blamed_18 : decode cX6_blamed 18 = .ok (.getfield 202, 3) := by decide +kernel
theorem dX6_blamed_21 : decode cX6_blamed 21 = .ok (.ishl, 1) := by decide +kernel
theorem dX6_blamed_22 : decode cX6_blamed 22 = .ok (.iconst 1, 1) := by decide +kernel
theorem dX6_blamed_23 : decode cX6_blamed 23 = .ok (.isub, 1) := by decide +kernel
theorem dX6_blamed_24 : decode cX6_blamed 24 = .ok (.invokestatic 88, 3) := by decide +kernel
theorem dX6_blamed_27 : decode cX6_blamed 27 = .ok (.ifCond .ne 5, 3) := by decide +kernel
theorem dX6_blamed_30 : decode cX6_blamed 30 = .ok (.iconst (-1), 1) := by decide +kernel
theorem dX6_blamed_31 : decode cX6_blamed 31 = .ok (.ireturn, 1) := by decide +kernel
theorem dX6_blamed_32 : decode cX6_blamed 32 = .ok (.aload_n 0, 1) := by decide +kernel
theorem dX6_blamed_33 : decode cX6_blamed 33 = .ok (.getfield 10, 3) := by decide +kernel
theorem dX6_blamed_36 : decode cX6_blamed 36 = .ok (.getfield 223, 3) := by decide +kernel
theorem dX6_blamed_39 : decode cX6_blamed 39 = .ok (.ifCond .ne 6, 3) := by decide +kernel
theorem dX6_blamed_42 : decode cX6_blamed 42 = .ok (.bipush (-2), 2) := by decide +kernel
theorem dX6_blamed_44 : decode cX6_blamed 44 = .ok (.ireturn, 1) := by decide +kernel
theorem dX6_blamed_45 : decode cX6_blamed 45 = .ok (.aload_n 0, 1) := by decide +kernel
theorem dX6_blamed_46 : decode cX6_blamed 46 = .ok (.iload_n 1, 1) := by decide +kernel
theorem dX6_blamed_47 : decode cX6_blamed 47 = .ok (.iconst 0, 1) := by decide +kernel
theorem dX6_blamed_48 : decode cX6_blamed 48 = .ok (.invokevirtual 226, 3) := by decide +kernel
theorem dX6_blamed_51 : decode cX6_blamed 51 = .ok (.aload_n 0, 1) := by decide +kernel
theorem dX6_blamed_52 : decode cX6_blamed 52 = .ok (.getfield 54, 3) := by decide +kernel
theorem dX6_blamed_55 : decode cX6_blamed 55 = .ok (.iload_n 2, 1) := by decide +kernel
theorem dX6_blamed_56 : decode cX6_blamed 56 = .ok (.invokevirtual 233, 3) := by decide +kernel
theorem dX6_blamed_59 : decode cX6_blamed 59 = .ok (.ireturn, 1) := by decide +kernel
theorem dX6_checks_0 : decode cX6_checks 0 = .ok (.iload_n 1, 1) := by decide +kernel
theorem dX6_checks_1 : decode cX6_checks 1 = .ok (.iconst 0, 1) := by decide +kernel
theorem dX6_checks_2 : decode cX6_checks 2 = .ok (.bipush 99, 2) := by decide +kernel
theorem dX6_checks_4 : decode cX6_checks 4 = .ok (.invokestatic 88, 3) := by decide +kernel
theorem dX6_checks_7 : decode cX6_checks 7 = .ok (.ifCond .ne 5, 3) := by decide +kernel
theorem dX6_checks_10 : decode cX6_checks 10 = .ok (.iconst (-1), 1) := by decide +kernel
theorem dX6_checks_11 : decode cX6_checks 11 = .ok (.ireturn, 1) := by decide +kernel
theorem dX6_checks_12 : decode cX6_checks 12 = .ok (.iconst 0, 1) := by decide +kernel
theorem dX6_checks_13 : decode cX6_checks 13 = .ok (.istore_n 2, 1) := by decide +kernel
theorem dX6_checks_14 : decode cX6_checks 14 = .ok (.iconst 0, 1) := by decide +kernel
theorem dX6_checks_15 : decode cX6_checks 15 = .ok (.istore_n 3, 1) := by decide +kernel
theorem dX6_checks_16 : decode cX6_checks 16 = .ok (.iload_n 3, 1) := by decide +kernel
theorem dX6_checks_17 : decode cX6_checks 17 = .ok (.aload_n 0, 1) := by decide +kernel
theorem dX6_checks_18 : decode cX6_checks 18 = .ok (.getfield 10, 3) := by decide +kernel
theorem dX6_checks_21 : decode cX6_checks 21 = .ok (.getfield 202, 3) := by decide +kernel
theorem dX6_checks_24 : decode cX6_checks 24 = .ok (.if_icmp .ge 66, 3) := by decide +kernel
theorem dX6_checks_27 : decode cX6_checks 27 = .ok (.aload_n 0, 1) := by decide +kernel
theorem dX6_checks_28 : decode cX6_checks 28 = .ok (.getfield 26, 3) := by decide +kernel
theorem dX6_checks_31 : decode cX6_checks 31 = .ok (.aload_n 0, 1) := by decide +kernel
theorem dX6_checks_32 : decode cX6_checks 32 = .ok (.getfield 10, 3) := by decide +kernel
theorem dX6_checks_35 : decode cX6_checks 35 = .ok (.iload_n 3, 1) := by decide +kernel
theorem dX6_checks_36 : decode cX6_checks 36 = .ok (.aload_n 0, 1) := by decide +kernel
theorem dX6_checks_37 : decode cX6_checks 37 = .ok (.getfield 30, 3) := by decide +kernel
theorem dX6_checks_40 : decode cX6_checks 40 = .ok (.iconst 0, 1) := by decide +kernel
theorem dX6_checks_41 : decode cX6_checks 41 = .ok (.iaload, 1) := by decide +kernel
theorem dX6_checks_42 : decode cX6_checks 42 = .ok (.invokevirtual 184, 3) := by decide +kernel
theorem dX6_checks_45 : decode cX6_checks 45 = .ok (.istore 4, 2) := by decide +kernel
theorem dX6_checks_47 : decode cX6_checks 47 = .ok (.iload 4, 2) := by decide +kernel
theorem dX6_checks_49 : decode cX6_checks 49 = .ok (.ifCond .lt 35, 3) := by decide +kernel
theorem dX6_checks_52 : decode cX6_checks 52 = .ok (.iload_n 2, 1) := by decide +kernel
theorem dX6_checks_53 : decode cX6_checks 53 = .ok (.aload_n 0, 1) := by decide +kernel
theorem dX6_checks_54 : decode cX6_checks 54 = .ok (.getfield 10, 3) := by decide +kernel
theorem dX6_checks_57 : decode cX6_checks 57 = .ok (.iload_n 3, 1) := by decide +kernel
theorem dX6_checks_58 : decode cX6_checks 58 = .ok (.iload 4, 2) := by decide +kernel
theorem dX6_checks_60 : decode cX6_checks 60 = .ok (.invokevirtual 171, 3) := by decide +kernel
theorem dX6_checks_63 : decode cX6_checks 63 = .ok (.aload_n 0, 1) := by decide +kernel
theorem dX6_checks_64 : decode cX6_checks 64 = .ok (.getfield 10, 3) := by decide +kernel
theorem dX6_checks_67 : decode cX6_checks 67 = .ok (.iload 4, 2) := by decide +kernel
theorem dX6_checks_69 : decode cX6_checks 69 = .ok (.aload_n 0, 1) := by decide +kernel
theorem dX6_checks_70 : decode cX6_checks 70 = .ok (.getfield 26, 3) := by decide +kernel
theorem dX6_checks_73 : decode cX6_checks 73 = .ok (.getfield 187, 3) := by decide +kernel
theorem dX6_checks_76 : decode cX6_checks 76 = .ok (.invokevirtual 167, 3) := by decide +kernel
theorem dX6_checks_79 : decode cX6_checks 79 = .ok (.imul, 1) := by decide +kernel
theorem dX6_checks_80 : decode cX6_checks 80 = .ok (.invokestatic 236, 3) := by decide +kernel
theorem dX6_checks_83 : decode cX6_checks 83 = .ok (.istore_n 2, 1) := by decide +kernel
theorem dX6_checks_84 : decode cX6_checks 84 = .ok (.iinc 3 1, 3) := by decide +kernel
theorem dX6_checks_87 : decode cX6_checks 87 = .ok (.goto (-71), 3) := by decide +kernel
theorem dX6_checks_90 : decode cX6_checks 90 = .ok (.iconst 0, 1) := by decide +kernel
theorem dX6_checks_91 : decode cX6_checks 91 = .ok (.istore_n 3, 1) := by decide +kernel
theorem dX6_checks_92 : decode cX6_checks 92 = .ok (.iload_n 3, 1) := by decide +kernel
theorem dX6_checks_93 : decode cX6_checks 93 = .ok (.bipush 10, 2) := by decide +kernel
theorem dX6_checks_95 : decode cX6_checks 95 = .ok (.if_icmp .ge 21, 3) := by decide +kernel
theorem dX6_checks_98 : decode cX6_checks 98 = .ok (.iload_n 3, 1) := by decide +kernel
theorem dX6_checks_99 : decode cX6_checks 99 = .ok (.iload_n 1, 1) := by decide +kernel
theorem dX6_checks_100 : decode cX6_checks 100 = .ok (.imul, 1) := by decide +kernel
theorem dX6_checks_101 : decode cX6_checks 101 = .ok (.bipush 10, 2) := by decide +kernel
theorem dX6_checks_103 : decode cX6_checks 103 = .ok (.iload_n 3, 1) := by decide +kernel
theorem dX6_checks_104 : decode cX6_checks 104 = .ok (.isub, 1) := by decide +kernel
theorem dX6_checks_105 : decode cX6_checks 105 = .ok (.iload_n 2, 1) := by decide +kernel
theorem dX6_checks_106 : decode cX6_checks 106 = .ok (.imul, 1) := by decide +kernel
theorem dX6_checks_107 : decode cX6_checks 107 = .ok (.if_icmp .ge 9, 3) := by decide +kernel
theorem dX6_checks_110 : decode cX6_checks 110 = .ok (.iinc 3 1, 3) := by decide +kernel
theorem dX6_checks_113 : decode cX6_checks 113 = .ok (.goto (-21), 3) := by decide +kernel
theorem dX6_checks_116 : decode cX6_checks 116 = .ok (.iload_n 3, 1) := by decide +kernel
theorem dX6_checks_117 : decode cX6_checks 117 = .ok (.ireturn, 1) := by decide +kernel
theorem dX6_trial_0 : decode cX6_trial 0 = .ok (.iload_n 1, 1) := by decide +kernel
theorem dX6_trial_1 : decode cX6_trial 1 = .ok (.iconst 0, 1) := by decide +kernel
theorem dX6_trial_2 : decode cX6_trial 2 = .ok (.bipush 7, 2) := by decide +kernel
theorem dX6_trial_4 : decode cX6_trial 4 = .ok (.invokestatic 88, 3) := by decide +kernel
theorem dX6_trial_7 : decode cX6_trial 7 = .ok (.ifCond .eq 14, 3) := by decide +kernel
theorem dX6_trial_10 : decode cX6_trial 10 = .ok (.iload_n 2, 1) := by decide +kernel
theorem dX6_trial_11 : decode cX6_trial 11 = .ok (.bipush (-99), 2) := by decide +kernel
theorem dX6_trial_13 : decode cX6_trial 13 = .ok (.bipush 99, 2) := by decide +kernel
theorem dX6_trial_15 : decode cX6_trial 15 = .ok (.invokestatic 88, 3) := by decide +kernel
theorem dX6_trial_18 : decode cX6_trial 18 = .ok (.ifCond .ne 5, 3) := by decide +kernel
theorem dX6_trial_21 : decode cX6_trial 21 = .ok (.iconst (-1), 1) := by decide +kernel
theorem dX6_trial_22 : decode cX6_trial 22 = .ok (.ireturn, 1) := by decide +kernel
theorem dX6_trial_23 : decode cX6_trial 23 = .ok (.aload_n 0, 1) := by decide +kernel
theorem dX6_trial_24 : decode cX6_trial 24 = .ok (.getfield 47, 3) := by decide +kernel
theorem dX6_trial_27 : decode cX6_trial 27 = .ok (.iload_n 1, 1) := by decide +kernel
theorem dX6_trial_28 : decode cX6_trial 28 = .ok (.iload_n 2, 1) := by decide +kernel
theorem dX6_trial_29 : decode cX6_trial 29 = .ok (.invokevirtual 239, 3) := by decide +kernel
theorem dX6_trial_32 : decode cX6_trial 32 = .ok (.ifCond .eq 13, 3) := by decide +kernel
theorem dX6_trial_35 : decode cX6_trial 35 = .ok (.aload_n 0, 1) := by decide +kernel
theorem dX6_trial_36 : decode cX6_trial 36 = .ok (.getfield 47, 3) := by decide +kernel
theorem dX6_trial_39 : decode cX6_trial 39 = .ok (.getfield 243, 3) := by decide +kernel
theorem dX6_trial_42 : decode cX6_trial 42 = .ok (.goto 5, 3) := by decide +kernel
theorem dX6_trial_45 : decode cX6_trial 45 = .ok (.bipush (-3), 2) := by decide +kernel
theorem dX6_trial_47 : decode cX6_trial 47 = .ok (.ireturn, 1) := by decide +kernel
theorem dX6_joined_0 : decode cX6_joined 0 = .ok (.iload_n 1, 1) := by decide +kernel
theorem dX6_joined_1 : decode cX6_joined 1 = .ok (.iconst 0, 1) := by decide +kernel
theorem dX6_joined_2 : decode cX6_joined 2 = .ok (.sipush 255, 3) := by decide +kernel
theorem dX6_joined_5 : decode cX6_joined 5 = .ok (.invokestatic 88, 3) := by decide +kernel
theorem dX6_joined_8 : decode cX6_joined 8 = .ok (.ifCond .eq 12, 3) := by decide +kernel
theorem dX6_joined_11 : decode cX6_joined 11 = .ok (.iload_n 2, 1) := by decide +kernel
theorem dX6_joined_12 : decode cX6_joined 12 = .ok (.iconst 0, 1) := by decide +kernel
theorem dX6_joined_13 : decode cX6_joined 13 = .ok (.iconst 1, 1) := by decide +kernel
theorem dX6_joined_14 : decode cX6_joined 14 = .ok (.invokestatic 88, 3) := by decide +kernel
theorem dX6_joined_17 : decode cX6_joined 17 = .ok (.ifCond .ne 6, 3) := by decide +kernel
theorem dX6_joined_20 : decode cX6_joined 20 = .ok (.ldc 246, 2) := by decide +kernel
theorem dX6_joined_22 : decode cX6_joined 22 = .ok (.ireturn, 1) := by decide +kernel
theorem dX6_joined_23 : decode cX6_joined 23 = .ok (.aload_n 0, 1) := by decide +kernel
theorem dX6_joined_24 : decode cX6_joined 24 = .ok (.getfield 47, 3) := by decide +kernel
theorem dX6_joined_27 : decode cX6_joined 27 = .ok (.iload_n 1, 1) := by decide +kernel
theorem dX6_joined_28 : decode cX6_joined 28 = .ok (.iload_n 2, 1) := by decide +kernel
theorem dX6_joined_29 : decode cX6_joined 29 = .ok (.invokevirtual 247, 3) := by decide +kernel
theorem dX6_joined_32 : decode cX6_joined 32 = .ok (.ireturn, 1) := by decide +kernel
theorem dX6_parts_0 : decode cX6_parts 0 = .ok (.aload_n 0, 1) := by decide +kernel
theorem dX6_parts_1 : decode cX6_parts 1 = .ok (.getfield 47, 3) := by decide +kernel
theorem dX6_parts_4 : decode cX6_parts 4 = .ok (.invokevirtual 250, 3) := by decide +kernel
theorem dX6_parts_7 : decode cX6_parts 7 = .ok (.ireturn, 1) := by decide +kernel
theorem dX6_ahead_0 : decode cX6_ahead 0 = .ok (.iload_n 1, 1) := by decide +kernel
theorem dX6_ahead_1 : decode cX6_ahead 1 = .ok (.iconst 0, 1) := by decide +kernel
theorem dX6_ahead_2 : decode cX6_ahead 2 = .ok (.bipush 7, 2) := by decide +kernel
theorem dX6_ahead_4 : decode cX6_ahead 4 = .ok (.invokestatic 88, 3) := by decide +kernel
theorem dX6_ahead_7 : decode cX6_ahead 7 = .ok (.ifCond .eq 12, 3) := by decide +kernel
theorem dX6_ahead_10 : decode cX6_ahead 10 = .ok (.iload_n 2, 1) := by decide +kernel
theorem dX6_ahead_11 : decode cX6_ahead 11 = .ok (.iconst 0, 1) := by decide +kernel
theorem dX6_ahead_12 : decode cX6_ahead 12 = .ok (.iconst 1, 1) := by decide +kernel
theorem dX6_ahead_13 : decode cX6_ahead 13 = .ok (.invokestatic 88, 3) := by decide +kernel
theorem dX6_ahead_16 : decode cX6_ahead 16 = .ok (.ifCond .ne 6, 3) := by decide +kernel
theorem dX6_ahead_19 : decode cX6_ahead 19 = .ok (.ldc 246, 2) := by decide +kernel
theorem dX6_ahead_21 : decode cX6_ahead 21 = .ok (.ireturn, 1) := by decide +kernel
theorem dX6_ahead_22 : decode cX6_ahead 22 = .ok (.iconst 1, 1) := by decide +kernel
theorem dX6_ahead_23 : decode cX6_ahead 23 = .ok (.iload_n 1, 1) := by decide +kernel
theorem dX6_ahead_24 : decode cX6_ahead 24 = .ok (.ishl, 1) := by decide +kernel
theorem dX6_ahead_25 : decode cX6_ahead 25 = .ok (.istore_n 3, 1) := by decide +kernel
theorem dX6_ahead_26 : decode cX6_ahead 26 = .ok (.aload_n 0, 1) := by decide +kernel
theorem dX6_ahead_27 : decode cX6_ahead 27 = .ok (.getfield 47, 3) := by decide +kernel
theorem dX6_ahead_30 : decode cX6_ahead 30 = .ok (.aload_n 0, 1) := by decide +kernel
theorem dX6_ahead_31 : decode cX6_ahead 31 = .ok (.getfield 47, 3) := by decide +kernel
theorem dX6_ahead_34 : decode cX6_ahead 34 = .ok (.iload_n 3, 1) := by decide +kernel
theorem dX6_ahead_35 : decode cX6_ahead 35 = .ok (.invokevirtual 253, 3) := by decide +kernel
theorem dX6_ahead_38 : decode cX6_ahead 38 = .ok (.ifCond .le 7, 3) := by decide +kernel
theorem dX6_ahead_41 : decode cX6_ahead 41 = .ok (.iload_n 3, 1) := by decide +kernel
theorem dX6_ahead_42 : decode cX6_ahead 42 = .ok (.goto 6, 3) := by decide +kernel
theorem dX6_ahead_45 : decode cX6_ahead 45 = .ok (.sipush 255, 3) := by decide +kernel
theorem dX6_ahead_48 : decode cX6_ahead 48 = .ok (.iload_n 2, 1) := by decide +kernel
theorem dX6_ahead_49 : decode cX6_ahead 49 = .ok (.invokevirtual 247, 3) := by decide +kernel
theorem dX6_ahead_52 : decode cX6_ahead 52 = .ok (.ireturn, 1) := by decide +kernel
theorem dX6_halves_0 : decode cX6_halves 0 = .ok (.iload_n 1, 1) := by decide +kernel
theorem dX6_halves_1 : decode cX6_halves 1 = .ok (.invokestatic 164, 3) := by decide +kernel
theorem dX6_halves_4 : decode cX6_halves 4 = .ok (.ifCond .ne 6, 3) := by decide +kernel
theorem dX6_halves_7 : decode cX6_halves 7 = .ok (.ldc 246, 2) := by decide +kernel
theorem dX6_halves_9 : decode cX6_halves 9 = .ok (.ireturn, 1) := by decide +kernel
theorem dX6_halves_10 : decode cX6_halves 10 = .ok (.aload_n 0, 1) := by decide +kernel
theorem dX6_halves_11 : decode cX6_halves 11 = .ok (.getfield 58, 3) := by decide +kernel
theorem dX6_halves_14 : decode cX6_halves 14 = .ok (.aload_n 0, 1) := by decide +kernel
theorem dX6_halves_15 : decode cX6_halves 15 = .ok (.getfield 10, 3) := by decide +kernel
theorem dX6_halves_18 : decode cX6_halves 18 = .ok (.invokevirtual 109, 3) := by decide +kernel
theorem dX6_halves_21 : decode cX6_halves 21 = .ok (.iconst 0, 1) := by decide +kernel
theorem dX6_halves_22 : decode cX6_halves 22 = .ok (.istore_n 2, 1) := by decide +kernel
theorem dX6_halves_23 : decode cX6_halves 23 = .ok (.iconst 0, 1) := by decide +kernel
theorem dX6_halves_24 : decode cX6_halves 24 = .ok (.istore_n 3, 1) := by decide +kernel
theorem dX6_halves_25 : decode cX6_halves 25 = .ok (.iload_n 3, 1) := by decide +kernel
theorem dX6_halves_26 : decode cX6_halves 26 = .ok (.aload_n 0, 1) := by decide +kernel
theorem dX6_halves_27 : decode cX6_halves 27 = .ok (.getfield 58, 3) := by decide +kernel
theorem dX6_halves_30 : decode cX6_halves 30 = .ok (.getfield 202, 3) := by decide +kernel
theorem dX6_halves_33 : decode cX6_halves 33 = .ok (.if_icmp .ge 61, 3) := by decide +kernel
theorem dX6_halves_36 : decode cX6_halves 36 = .ok (.aload_n 0, 1) := by decide +kernel
theorem dX6_halves_37 : decode cX6_halves 37 = .ok (.aload_n 0, 1) := by decide +kernel
theorem dX6_halves_38 : decode cX6_halves 38 = .ok (.getfield 64, 3) := by decide +kernel
theorem dX6_halves_41 : decode cX6_halves 41 = .ok (.ldc_w 256, 3) := by decide +kernel
theorem dX6_halves_44 : decode cX6_halves 44 = .ok (.imul, 1) := by decide +kernel
theorem dX6_halves_45 : decode cX6_halves 45 = .ok (.sipush 12345, 3) := by decide +kernel
theorem dX6_halves_48 : decode cX6_halves 48 = .ok (.iadd, 1) := by decide +kernel
theorem dX6_halves_49 : decode cX6_halves 49 = .ok (.putfield 64, 3) := by decide +kernel
theorem dX6_halves_52 : decode cX6_halves 52 = .ok (.aload_n 0, 1) := by decide +kernel
theorem dX6_halves_53 : decode cX6_halves 53 = .ok (.getfield 64, 3) := by decide +kernel
theorem dX6_halves_56 : decode cX6_halves 56 = .ok (.bipush 16, 2) := by decide +kernel
theorem dX6_halves_58 : decode cX6_halves 58 = .ok (.iushr, 1) := by decide +kernel
theorem dX6_halves_59 : decode cX6_halves 59 = .ok (.istore 4, 2) := by decide +kernel
theorem dX6_halves_61 : decode cX6_halves 61 = .ok (.iload 4, 2) := by decide +kernel
theorem dX6_halves_63 : decode cX6_halves 63 = .ok (.iconst 1, 1) := by decide +kernel
theorem dX6_halves_64 : decode cX6_halves 64 = .ok (.iand, 1) := by decide +kernel
theorem dX6_halves_65 : decode cX6_halves 65 = .ok (.iconst 1, 1) := by decide +kernel
theorem dX6_halves_66 : decode cX6_halves 66 = .ok (.if_icmp .ne 12, 3) := by decide +kernel
theorem dX6_halves_69 : decode cX6_halves 69 = .ok (.iload_n 2, 1) := by decide +kernel
theorem dX6_halves_70 : decode cX6_halves 70 = .ok (.iconst 1, 1) := by decide +kernel
theorem dX6_halves_71 : decode cX6_halves 71 = .ok (.iload_n 3, 1) := by decide +kernel
theorem dX6_halves_72 : decode cX6_halves 72 = .ok (.ishl, 1) := by decide +kernel
theorem dX6_halves_73 : decode cX6_halves 73 = .ok (.ior, 1) := by decide +kernel
theorem dX6_halves_74 : decode cX6_halves 74 = .ok (.istore_n 2, 1) := by decide +kernel
theorem dX6_halves_75 : decode cX6_halves 75 = .ok (.goto 13, 3) := by decide +kernel
theorem dX6_halves_78 : decode cX6_halves 78 = .ok (.aload_n 0, 1) := by decide +kernel
theorem dX6_halves_79 : decode cX6_halves 79 = .ok (.getfield 58, 3) := by decide +kernel
theorem dX6_halves_82 : decode cX6_halves 82 = .ok (.getfield 127, 3) := by decide +kernel
theorem dX6_halves_85 : decode cX6_halves 85 = .ok (.iload_n 3, 1) := by decide +kernel
theorem dX6_halves_86 : decode cX6_halves 86 = .ok (.iconst 0, 1) := by decide +kernel
theorem dX6_halves_87 : decode cX6_halves 87 = .ok (.iastore, 1) := by decide +kernel
theorem dX6_halves_88 : decode cX6_halves 88 = .ok (.iinc 3 1, 3) := by decide +kernel
theorem dX6_halves_91 : decode cX6_halves 91 = .ok (.goto (-66), 3) := by decide +kernel
theorem dX6_halves_94 : decode cX6_halves 94 = .ok (.aload_n 0, 1) := by decide +kernel
theorem dX6_halves_95 : decode cX6_halves 95 = .ok (.iload_n 1, 1) := by decide +kernel
theorem dX6_halves_96 : decode cX6_halves 96 = .ok (.invokevirtual 215, 3) := by decide +kernel
theorem dX6_halves_99 : decode cX6_halves 99 = .ok (.istore_n 3, 1) := by decide +kernel
theorem dX6_halves_100 : decode cX6_halves 100 = .ok (.iconst 0, 1) := by decide +kernel
theorem dX6_halves_101 : decode cX6_halves 101 = .ok (.istore 4, 2) := by decide +kernel
theorem dX6_halves_103 : decode cX6_halves 103 = .ok (.iconst 0, 1) := by decide +kernel
theorem dX6_halves_104 : decode cX6_halves 104 = .ok (.istore 5, 2) := by decide +kernel
theorem dX6_halves_106 : decode cX6_halves 106 = .ok (.iload 5, 2) := by decide +kernel
theorem dX6_halves_108 : decode cX6_halves 108 = .ok (.aload_n 0, 1) := by decide +kernel
theorem dX6_halves_109 : decode cX6_halves 109 = .ok (.getfield 58, 3) := by decide +kernel
theorem dX6_halves_112 : decode cX6_halves 112 = .ok (.getfield 202, 3) := by decide +kernel
theorem dX6_halves_115 : decode cX6_halves 115 = .ok (.if_icmp .ge 33, 3) := by decide +kernel
theorem dX6_halves_118 : decode cX6_halves 118 = .ok (.iload_n 2, 1) := by decide +kernel
theorem dX6_halves_119 : decode cX6_halves 119 = .ok (.iload 5, 2) := by decide +kernel
theorem dX6_halves_121 : decode cX6_halves 121 = .ok (.ishr, 1) := by decide +kernel
theorem dX6_halves_122 : decode cX6_halves 122 = .ok (.iconst 1, 1) := by decide +kernel
theorem dX6_halves_123 : decode cX6_halves 123 = .ok (.iand, 1) := by decide +kernel
theorem dX6_halves_124 : decode cX6_halves 124 = .ok (.ifCond .ne 18, 3) := by decide +kernel
theorem dX6_halves_127 : decode cX6_halves 127 = .ok (.iload 4, 2) := by decide +kernel
theorem dX6_halves_129 : decode cX6_halves 129 = .ok (.aload_n 0, 1) := by decide +kernel
theorem dX6_halves_130 : decode cX6_halves 130 = .ok (.getfield 61, 3) := by decide +kernel
theorem dX6_halves_133 : decode cX6_halves 133 = .ok (.getfield 130, 3) := by decide +kernel
theorem dX6_halves_136 : decode cX6_halves 136 = .ok (.iload 5, 2) := by decide +kernel
theorem dX6_halves_138 : decode cX6_halves 138 = .ok (.iaload, 1) := by decide +kernel
theorem dX6_halves_139 : decode cX6_halves 139 = .ok (.iadd, 1) := by decide +kernel
theorem dX6_halves_140 : decode cX6_halves 140 = .ok (.istore 4, 2) := by decide +kernel
theorem dX6_halves_142 : decode cX6_halves 142 = .ok (.iinc 5 1, 3) := by decide +kernel
theorem dX6_halves_145 : decode cX6_halves 145 = .ok (.goto (-39), 3) := by decide +kernel
theorem dX6_halves_148 : decode cX6_halves 148 = .ok (.iload_n 3, 1) := by decide +kernel
theorem dX6_halves_149 : decode cX6_halves 149 = .ok (.iconst 2, 1) := by decide +kernel
theorem dX6_halves_150 : decode cX6_halves 150 = .ok (.iload 4, 2) := by decide +kernel
theorem dX6_halves_152 : decode cX6_halves 152 = .ok (.imul, 1) := by decide +kernel
theorem dX6_halves_153 : decode cX6_halves 153 = .ok (.isub, 1) := by decide +kernel
theorem dX6_halves_154 : decode cX6_halves 154 = .ok (.ireturn, 1) := by decide +kernel
theorem dX6_lot_0 : decode cX6_lot 0 = .ok (.aload_n 0, 1) := by decide +kernel
theorem dX6_lot_1 : decode cX6_lot 1 = .ok (.getfield 64, 3) := by decide +kernel
theorem dX6_lot_4 : decode cX6_lot 4 = .ok (.istore_n 2, 1) := by decide +kernel
theorem dX6_lot_5 : decode cX6_lot 5 = .ok (.aload_n 0, 1) := by decide +kernel
theorem dX6_lot_6 : decode cX6_lot 6 = .ok (.iload_n 1, 1) := by decide +kernel
theorem dX6_lot_7 : decode cX6_lot 7 = .ok (.putfield 64, 3) := by decide +kernel
theorem dX6_lot_10 : decode cX6_lot 10 = .ok (.iload_n 2, 1) := by decide +kernel
theorem dX6_lot_11 : decode cX6_lot 11 = .ok (.ireturn, 1) := by decide +kernel
theorem dX6_rate_0 : decode cX6_rate 0 = .ok (.aload_n 0, 1) := by decide +kernel
theorem dX6_rate_1 : decode cX6_rate 1 = .ok (.iload_n 2, 1) := by decide +kernel
theorem dX6_rate_2 : decode cX6_rate 2 = .ok (.invokevirtual 117, 3) := by decide +kernel
theorem dX6_rate_5 : decode cX6_rate 5 = .ok (.ifCond .ne 6, 3) := by decide +kernel
theorem dX6_rate_8 : decode cX6_rate 8 = .ok (.ldc 246, 2) := by decide +kernel
theorem dX6_rate_10 : decode cX6_rate 10 = .ok (.ireturn, 1) := by decide +kernel
theorem dX6_rate_11 : decode cX6_rate 11 = .ok (.iload_n 1, 1) := by decide +kernel
theorem dX6_rate_12 : decode cX6_rate 12 = .ok (.tableswitch 76 0 5 #[40, 46, 52, 58, 64, 70], 40) := by decide +kernel
theorem dX6_rate_52 : decode cX6_rate 52 = .ok (.aload_n 0, 1) := by decide +kernel
theorem dX6_rate_53 : decode cX6_rate 53 = .ok (.iload_n 2, 1) := by decide +kernel
theorem dX6_rate_54 : decode cX6_rate 54 = .ok (.invokevirtual 257, 3) := by decide +kernel
theorem dX6_rate_57 : decode cX6_rate 57 = .ok (.ireturn, 1) := by decide +kernel
theorem dX6_rate_58 : decode cX6_rate 58 = .ok (.aload_n 0, 1) := by decide +kernel
theorem dX6_rate_59 : decode cX6_rate 59 = .ok (.iload_n 2, 1) := by decide +kernel
theorem dX6_rate_60 : decode cX6_rate 60 = .ok (.invokevirtual 260, 3) := by decide +kernel
theorem dX6_rate_63 : decode cX6_rate 63 = .ok (.ireturn, 1) := by decide +kernel
theorem dX6_rate_64 : decode cX6_rate 64 = .ok (.aload_n 0, 1) := by decide +kernel
theorem dX6_rate_65 : decode cX6_rate 65 = .ok (.iload_n 2, 1) := by decide +kernel
theorem dX6_rate_66 : decode cX6_rate 66 = .ok (.invokevirtual 263, 3) := by decide +kernel
theorem dX6_rate_69 : decode cX6_rate 69 = .ok (.ireturn, 1) := by decide +kernel
theorem dX6_rate_70 : decode cX6_rate 70 = .ok (.aload_n 0, 1) := by decide +kernel
theorem dX6_rate_71 : decode cX6_rate 71 = .ok (.iload_n 2, 1) := by decide +kernel
theorem dX6_rate_72 : decode cX6_rate 72 = .ok (.invokevirtual 266, 3) := by decide +kernel
theorem dX6_rate_75 : decode cX6_rate 75 = .ok (.ireturn, 1) := by decide +kernel
theorem dX6_rate_76 : decode cX6_rate 76 = .ok (.aload_n 0, 1) := by decide +kernel
theorem dX6_rate_77 : decode cX6_rate 77 = .ok (.iload_n 2, 1) := by decide +kernel
theorem dX6_rate_78 : decode cX6_rate 78 = .ok (.invokevirtual 269, 3) := by decide +kernel
theorem dX6_rate_81 : decode cX6_rate 81 = .ok (.ireturn, 1) := by decide +kernel
theorem dX6_rate_82 : decode cX6_rate 82 = .ok (.aload_n 0, 1) := by decide +kernel
theorem dX6_rate_83 : decode cX6_rate 83 = .ok (.iload_n 2, 1) := by decide +kernel
theorem dX6_rate_84 : decode cX6_rate 84 = .ok (.invokevirtual 272, 3) := by decide +kernel
theorem dX6_rate_87 : decode cX6_rate 87 = .ok (.ireturn, 1) := by decide +kernel
theorem dX6_rate_88 : decode cX6_rate 88 = .ok (.ldc 246, 2) := by decide +kernel
theorem dX6_rate_90 : decode cX6_rate 90 = .ok (.ireturn, 1) := by decide +kernel
theorem dX6_keep_0 : decode cX6_keep 0 = .ok (.iload_n 1, 1) := by decide +kernel
theorem dX6_keep_1 : decode cX6_keep 1 = .ok (.iconst 0, 1) := by decide +kernel
theorem dX6_keep_2 : decode cX6_keep 2 = .ok (.iconst 1, 1) := by decide +kernel
theorem dX6_keep_3 : decode cX6_keep 3 = .ok (.invokestatic 88, 3) := by decide +kernel
theorem dX6_keep_6 : decode cX6_keep 6 = .ok (.ifCond .ne 5, 3) := by decide +kernel
theorem dX6_keep_9 : decode cX6_keep 9 = .ok (.iconst (-1), 1) := by decide +kernel
theorem dX6_keep_10 : decode cX6_keep 10 = .ok (.ireturn, 1) := by decide +kernel
theorem dX6_keep_11 : decode cX6_keep 11 = .ok (.aload_n 0, 1) := by decide +kernel
theorem dX6_keep_12 : decode cX6_keep 12 = .ok (.iload_n 1, 1) := by decide +kernel
theorem dX6_keep_13 : decode cX6_keep 13 = .ok (.invokevirtual 275, 3) := by decide +kernel
theorem dX6_keep_16 : decode cX6_keep 16 = .ok (.astore_n 2, 1) := by decide +kernel
theorem dX6_keep_17 : decode cX6_keep 17 = .ok (.aload_n 2, 1) := by decide +kernel
theorem dX6_keep_18 : decode cX6_keep 18 = .ok (.iconst 1, 1) := by decide +kernel
theorem dX6_keep_19 : decode cX6_keep 19 = .ok (.putfield 113, 3) := by decide +kernel
theorem dX6_keep_22 : decode cX6_keep 22 = .ok (.aload_n 2, 1) := by decide +kernel
theorem dX6_keep_23 : decode cX6_keep 23 = .ok (.aload_n 0, 1) := by decide +kernel
theorem dX6_keep_24 : decode cX6_keep 24 = .ok (.getfield 64, 3) := by decide +kernel
theorem dX6_keep_27 : decode cX6_keep 27 = .ok (.putfield 279, 3) := by decide +kernel
theorem dX6_keep_30 : decode cX6_keep 30 = .ok (.aload_n 2, 1) := by decide +kernel
theorem dX6_keep_31 : decode cX6_keep 31 = .ok (.getfield 280, 3) := by decide +kernel
theorem dX6_keep_34 : decode cX6_keep 34 = .ok (.aload_n 0, 1) := by decide +kernel
theorem dX6_keep_35 : decode cX6_keep 35 = .ok (.getfield 26, 3) := by decide +kernel
theorem dX6_keep_38 : decode cX6_keep 38 = .ok (.invokevirtual 283, 3) := by decide +kernel
theorem dX6_keep_41 : decode cX6_keep 41 = .ok (.aload_n 0, 1) := by decide +kernel
theorem dX6_keep_42 : decode cX6_keep 42 = .ok (.getfield 26, 3) := by decide +kernel
theorem dX6_keep_45 : decode cX6_keep 45 = .ok (.getfield 187, 3) := by decide +kernel
theorem dX6_keep_48 : decode cX6_keep 48 = .ok (.ireturn, 1) := by decide +kernel
theorem dX6_back_0 : decode cX6_back 0 = .ok (.iload_n 1, 1) := by decide +kernel
theorem dX6_back_1 : decode cX6_back 1 = .ok (.iconst 0, 1) := by decide +kernel
theorem dX6_back_2 : decode cX6_back 2 = .ok (.iconst 1, 1) := by decide +kernel
theorem dX6_back_3 : decode cX6_back 3 = .ok (.invokestatic 88, 3) := by decide +kernel
theorem dX6_back_6 : decode cX6_back 6 = .ok (.ifCond .ne 5, 3) := by decide +kernel
theorem dX6_back_9 : decode cX6_back 9 = .ok (.iconst (-1), 1) := by decide +kernel
theorem dX6_back_10 : decode cX6_back 10 = .ok (.ireturn, 1) := by decide +kernel
theorem dX6_back_11 : decode cX6_back 11 = .ok (.aload_n 0, 1) := by decide +kernel
theorem dX6_back_12 : decode cX6_back 12 = .ok (.iload_n 1, 1) := by decide +kernel
theorem dX6_back_13 : decode cX6_back 13 = .ok (.invokevirtual 275, 3) := by decide +kernel
theorem dX6_back_16 : decode cX6_back 16 = .ok (.astore_n 2, 1) := by decide +kernel
theorem dX6_back_17 : decode cX6_back 17 = .ok (.aload_n 2, 1) := by decide +kernel
theorem dX6_back_18 : decode cX6_back 18 = .ok (.getfield 113, 3) := by decide +kernel
theorem dX6_back_21 : decode cX6_back 21 = .ok (.ifCond .ne 6, 3) := by decide +kernel
theorem dX6_back_24 : decode cX6_back 24 = .ok (.bipush (-2), 2) := by decide +kernel
theorem dX6_back_26 : decode cX6_back 26 = .ok (.ireturn, 1) := by decide +kernel
theorem dX6_back_27 : decode cX6_back 27 = .ok (.aload_n 0, 1) := by decide +kernel
theorem dX6_back_28 : decode cX6_back 28 = .ok (.aload_n 2, 1) := by decide +kernel
theorem dX6_back_29 : decode cX6_back 29 = .ok (.getfield 279, 3) := by decide +kernel
theorem dX6_back_32 : decode cX6_back 32 = .ok (.putfield 64, 3) := by decide +kernel
theorem dX6_back_35 : decode cX6_back 35 = .ok (.aload_n 0, 1) := by decide +kernel
theorem dX6_back_36 : decode cX6_back 36 = .ok (.getfield 26, 3) := by decide +kernel
theorem dX6_back_39 : decode cX6_back 39 = .ok (.aload_n 2, 1) := by decide +kernel
theorem dX6_back_40 : decode cX6_back 40 = .ok (.getfield 280, 3) := by decide +kernel
theorem dX6_back_43 : decode cX6_back 43 = .ok (.invokevirtual 283, 3) := by decide +kernel
theorem dX6_back_46 : decode cX6_back 46 = .ok (.aload_n 0, 1) := by decide +kernel
theorem dX6_back_47 : decode cX6_back 47 = .ok (.getfield 26, 3) := by decide +kernel
theorem dX6_back_50 : decode cX6_back 50 = .ok (.getfield 187, 3) := by decide +kernel
theorem dX6_back_53 : decode cX6_back 53 = .ok (.ireturn, 1) := by decide +kernel
theorem dX6_count_0 : decode cX6_count 0 = .ok (.iload_n 1, 1) := by decide +kernel
theorem dX6_count_1 : decode cX6_count 1 = .ok (.tableswitch 63 0 3 #[31, 39, 47, 55], 31) := by decide +kernel
theorem dX6_count_32 : decode cX6_count 32 = .ok (.aload_n 0, 1) := by decide +kernel
theorem dX6_count_33 : decode cX6_count 33 = .ok (.getfield 10, 3) := by decide +kernel
theorem dX6_count_36 : decode cX6_count 36 = .ok (.getfield 202, 3) := by decide +kernel
theorem dX6_count_39 : decode cX6_count 39 = .ok (.ireturn, 1) := by decide +kernel
theorem dX6_count_40 : decode cX6_count 40 = .ok (.aload_n 0, 1) := by decide +kernel
theorem dX6_count_41 : decode cX6_count 41 = .ok (.getfield 10, 3) := by decide +kernel
theorem dX6_count_44 : decode cX6_count 44 = .ok (.getfield 223, 3) := by decide +kernel
theorem dX6_count_47 : decode cX6_count 47 = .ok (.ireturn, 1) := by decide +kernel
theorem dX6_count_48 : decode cX6_count 48 = .ok (.aload_n 0, 1) := by decide +kernel
theorem dX6_count_49 : decode cX6_count 49 = .ok (.getfield 47, 3) := by decide +kernel
theorem dX6_count_52 : decode cX6_count 52 = .ok (.getfield 243, 3) := by decide +kernel
theorem dX6_count_55 : decode cX6_count 55 = .ok (.ireturn, 1) := by decide +kernel
theorem dX6_count_56 : decode cX6_count 56 = .ok (.aload_n 0, 1) := by decide +kernel
theorem dX6_count_57 : decode cX6_count 57 = .ok (.getfield 19, 3) := by decide +kernel
theorem dX6_count_60 : decode cX6_count 60 = .ok (.getfield 96, 3) := by decide +kernel
theorem dX6_count_63 : decode cX6_count 63 = .ok (.ireturn, 1) := by decide +kernel
theorem dX6_count_64 : decode cX6_count 64 = .ok (.iconst (-1), 1) := by decide +kernel
theorem dX6_count_65 : decode cX6_count 65 = .ok (.ireturn, 1) := by decide +kernel
theorem dX6_trace_0 : decode cX6_trace 0 = .ok (.aload_n 0, 1) := by decide +kernel
theorem dX6_trace_1 : decode cX6_trace 1 = .ok (.getfield 68, 3) := by decide +kernel
theorem dX6_trace_4 : decode cX6_trace 4 = .ok (.lreturn, 1) := by decide +kernel
theorem dX6_within_0 : decode cX6_within 0 = .ok (.iload_n 0, 1) := by decide +kernel
theorem dX6_within_1 : decode cX6_within 1 = .ok (.iload_n 1, 1) := by decide +kernel
theorem dX6_within_2 : decode cX6_within 2 = .ok (.if_icmp .lt 12, 3) := by decide +kernel
theorem dX6_within_5 : decode cX6_within 5 = .ok (.iload_n 0, 1) := by decide +kernel
theorem dX6_within_6 : decode cX6_within 6 = .ok (.iload_n 2, 1) := by decide +kernel
theorem dX6_within_7 : decode cX6_within 7 = .ok (.if_icmp .gt 7, 3) := by decide +kernel
theorem dX6_within_10 : decode cX6_within 10 = .ok (.iconst 1, 1) := by decide +kernel
theorem dX6_within_11 : decode cX6_within 11 = .ok (.goto 4, 3) := by decide +kernel
theorem dX6_within_14 : decode cX6_within 14 = .ok (.iconst 0, 1) := by decide +kernel
theorem dX6_within_15 : decode cX6_within 15 = .ok (.ireturn, 1) := by decide +kernel
theorem dX6_isChild_0 : decode cX6_isChild 0 = .ok (.iload_n 1, 1) := by decide +kernel
theorem dX6_isChild_1 : decode cX6_isChild 1 = .ok (.iconst 0, 1) := by decide +kernel
theorem dX6_isChild_2 : decode cX6_isChild 2 = .ok (.aload_n 0, 1) := by decide +kernel
theorem dX6_isChild_3 : decode cX6_isChild 3 = .ok (.getfield 10, 3) := by decide +kernel
theorem dX6_isChild_6 : decode cX6_isChild 6 = .ok (.getfield 202, 3) := by decide +kernel
theorem dX6_isChild_9 : decode cX6_isChild 9 = .ok (.iconst 1, 1) := by decide +kernel
theorem dX6_isChild_10 : decode cX6_isChild 10 = .ok (.isub, 1) := by decide +kernel
theorem dX6_isChild_11 : decode cX6_isChild 11 = .ok (.invokestatic 88, 3) := by decide +kernel
theorem dX6_isChild_14 : decode cX6_isChild 14 = .ok (.ireturn, 1) := by decide +kernel
theorem dX6_isSort_0 : decode cX6_isSort 0 = .ok (.iload_n 1, 1) := by decide +kernel
theorem dX6_isSort_1 : decode cX6_isSort 1 = .ok (.iconst 0, 1) := by decide +kernel
theorem dX6_isSort_2 : decode cX6_isSort 2 = .ok (.aload_n 0, 1) := by decide +kernel
theorem dX6_isSort_3 : decode cX6_isSort 3 = .ok (.getfield 10, 3) := by decide +kernel
theorem dX6_isSort_6 : decode cX6_isSort 6 = .ok (.getfield 223, 3) := by decide +kernel
theorem dX6_isSort_9 : decode cX6_isSort 9 = .ok (.iconst 1, 1) := by decide +kernel
theorem dX6_isSort_10 : decode cX6_isSort 10 = .ok (.isub, 1) := by decide +kernel
theorem dX6_isSort_11 : decode cX6_isSort 11 = .ok (.invokestatic 88, 3) := by decide +kernel
theorem dX6_isSort_14 : decode cX6_isSort 14 = .ok (.ireturn, 1) := by decide +kernel
theorem dX6_isDay_0 : decode cX6_isDay 0 = .ok (.iload_n 0, 1) := by decide +kernel
theorem dX6_isDay_1 : decode cX6_isDay 1 = .ok (.iconst 0, 1) := by decide +kernel
theorem dX6_isDay_2 : decode cX6_isDay 2 = .ok (.bipush 99, 2) := by decide +kernel
theorem dX6_isDay_4 : decode cX6_isDay 4 = .ok (.invokestatic 88, 3) := by decide +kernel
theorem dX6_isDay_7 : decode cX6_isDay 7 = .ok (.ireturn, 1) := by decide +kernel
theorem dX6_imageOf_0 : decode cX6_imageOf 0 = .ok (.iload_n 1, 1) := by decide +kernel
theorem dX6_imageOf_1 : decode cX6_imageOf 1 = .ok (.ifCond .ne 10, 3) := by decide +kernel
theorem dX6_imageOf_4 : decode cX6_imageOf 4 = .ok (.aload_n 0, 1) := by decide +kernel
theorem dX6_imageOf_5 : decode cX6_imageOf 5 = .ok (.getfield 37, 3) := by decide +kernel
theorem dX6_imageOf_8 : decode cX6_imageOf 8 = .ok (.goto 7, 3) := by decide +kernel
theorem dX6_imageOf_11 : decode cX6_imageOf 11 = .ok (.aload_n 0, 1) := by decide +kernel
theorem dX6_imageOf_12 : decode cX6_imageOf 12 = .ok (.getfield 41, 3) := by decide +kernel
theorem dX6_imageOf_15 : decode cX6_imageOf 15 = .ok (.areturn, 1) := by decide +kernel
theorem dX6_pagesBetween_0 : decode cX6_pagesBetween 0 = .ok (.aload_n 0, 1) := by decide +kernel
theorem dX6_pagesBetween_1 : decode cX6_pagesBetween 1 = .ok (.getfield 61, 3) := by decide +kernel
theorem dX6_pagesBetween_4 : decode cX6_pagesBetween 4 = .ok (.aload_n 0, 1) := by decide +kernel
theorem dX6_pagesBetween_5 : decode cX6_pagesBetween 5 = .ok (.getfield 58, 3) := by decide +kernel
theorem dX6_pagesBetween_8 : decode cX6_pagesBetween 8 = .ok (.iconst 0, 1) := by decide +kernel
theorem dX6_pagesBetween_9 : decode cX6_pagesBetween 9 = .ok (.invokevirtual 84, 3) := by decide +kernel
theorem dX6_pagesBetween_12 : decode cX6_pagesBetween 12 = .ok (.iconst 0, 1) := by decide +kernel
theorem dX6_pagesBetween_13 : decode cX6_pagesBetween 13 = .ok (.istore_n 3, 1) := by decide +kernel
theorem dX6_pagesBetween_14 : decode cX6_pagesBetween 14 = .ok (.iconst 0, 1) := by decide +kernel
theorem dX6_pagesBetween_15 : decode cX6_pagesBetween 15 = .ok (.istore 4, 2) := by decide +kernel
theorem dX6_pagesBetween_17 : decode cX6_pagesBetween 17 = .ok (.iload 4, 2) := by decide +kernel
theorem dX6_pagesBetween_19 : decode cX6_pagesBetween 19 = .ok (.iload_n 2, 1) := by decide +kernel
theorem dX6_pagesBetween_20 : decode cX6_pagesBetween 20 = .ok (.if_icmp .ge 37, 3) := by decide +kernel
theorem dX6_pagesBetween_23 : decode cX6_pagesBetween 23 = .ok (.aload_n 0, 1) := by decide +kernel
theorem dX6_pagesBetween_24 : decode cX6_pagesBetween 24 = .ok (.getfield 61, 3) := by decide +kernel
theorem dX6_pagesBetween_27 : decode cX6_pagesBetween 27 = .ok (.aload_n 0, 1) := by decide +kernel
theorem dX6_pagesBetween_28 : decode cX6_pagesBetween 28 = .ok (.getfield 58, 3) := by decide +kernel
theorem dX6_pagesBetween_31 : decode cX6_pagesBetween 31 = .ok (.aload_n 0, 1) := by decide +kernel
theorem dX6_pagesBetween_32 : decode cX6_pagesBetween 32 = .ok (.getfield 30, 3) := by decide +kernel
theorem dX6_pagesBetween_35 : decode cX6_pagesBetween 35 = .ok (.invokevirtual 195, 3) := by decide +kernel
theorem dX6_pagesBetween_38 : decode cX6_pagesBetween 38 = .ok (.istore 5, 2) := by decide +kernel
theorem dX6_pagesBetween_40 : decode cX6_pagesBetween 40 = .ok (.iload 4, 2) := by decide +kernel
theorem dX6_pagesBetween_42 : decode cX6_pagesBetween 42 = .ok (.iload_n 1, 1) := by decide +kernel
theorem dX6_pagesBetween_43 : decode cX6_pagesBetween 43 = .ok (.if_icmp .lt 8, 3) := by decide +kernel
theorem dX6_pagesBetween_46 : decode cX6_pagesBetween 46 = .ok (.iload_n 3, 1) := by decide +kernel
theorem dX6_pagesBetween_47 : decode cX6_pagesBetween 47 = .ok (.iload 5, 2) := by decide +kernel
theorem dX6_pagesBetween_49 : decode cX6_pagesBetween 49 = .ok (.iadd, 1) := by decide +kernel
theorem dX6_pagesBetween_50 : decode cX6_pagesBetween 50 = .ok (.istore_n 3, 1) := by decide +kernel
theorem dX6_pagesBetween_51 : decode cX6_pagesBetween 51 = .ok (.iinc 4 1, 3) := by decide +kernel
theorem dX6_pagesBetween_54 : decode cX6_pagesBetween 54 = .ok (.goto (-37), 3) := by decide +kernel
theorem dX6_pagesBetween_57 : decode cX6_pagesBetween 57 = .ok (.iload_n 3, 1) := by decide +kernel
theorem dX6_pagesBetween_58 : decode cX6_pagesBetween 58 = .ok (.ireturn, 1) := by decide +kernel
theorem dX6_likingOn_0 : decode cX6_likingOn 0 = .ok (.aload_n 0, 1) := by decide +kernel
theorem dX6_likingOn_1 : decode cX6_likingOn 1 = .ok (.getfield 61, 3) := by decide +kernel
theorem dX6_likingOn_4 : decode cX6_likingOn 4 = .ok (.aload_n 0, 1) := by decide +kernel
theorem dX6_likingOn_5 : decode cX6_likingOn 5 = .ok (.getfield 58, 3) := by decide +kernel
theorem dX6_likingOn_8 : decode cX6_likingOn 8 = .ok (.iconst 0, 1) := by decide +kernel
theorem dX6_likingOn_9 : decode cX6_likingOn 9 = .ok (.invokevirtual 84, 3) := by decide +kernel
theorem dX6_likingOn_12 : decode cX6_likingOn 12 = .ok (.iconst 0, 1) := by decide +kernel
theorem dX6_likingOn_13 : decode cX6_likingOn 13 = .ok (.istore_n 2, 1) := by decide +kernel
theorem dX6_likingOn_14 : decode cX6_likingOn 14 = .ok (.iload_n 2, 1) := by decide +kernel
theorem dX6_likingOn_15 : decode cX6_likingOn 15 = .ok (.iload_n 1, 1) := by decide +kernel
theorem dX6_likingOn_16 : decode cX6_likingOn 16 = .ok (.if_icmp .ge 25, 3) := by decide +kernel
theorem dX6_likingOn_19 : decode cX6_likingOn 19 = .ok (.aload_n 0, 1) := by decide +kernel
theorem dX6_likingOn_20 : decode cX6_likingOn 20 = .ok (.getfield 61, 3) := by decide +kernel
theorem dX6_likingOn_23 : decode cX6_likingOn 23 = .ok (.aload_n 0, 1) := by decide +kernel
theorem dX6_likingOn_24 : decode cX6_likingOn 24 = .ok (.getfield 58, 3) := by decide +kernel
theorem dX6_likingOn_27 : decode cX6_likingOn 27 = .ok (.aload_n 0, 1) := by decide +kernel
theorem dX6_likingOn_28 : decode cX6_likingOn 28 = .ok (.getfield 30, 3) := by decide +kernel
theorem dX6_likingOn_31 : decode cX6_likingOn 31 = .ok (.invokevirtual 195, 3) := by decide +kernel
theorem dX6_likingOn_34 : decode cX6_likingOn 34 = .ok (.pop, 1) := by decide +kernel
theorem dX6_likingOn_35 : decode cX6_likingOn 35 = .ok (.iinc 2 1, 3) := by decide +kernel
theorem dX6_likingOn_38 : decode cX6_likingOn 38 = .ok (.goto (-24), 3) := by decide +kernel
theorem dX6_likingOn_41 : decode cX6_likingOn 41 = .ok (.aload_n 0, 1) := by decide +kernel
theorem dX6_likingOn_42 : decode cX6_likingOn 42 = .ok (.getfield 61, 3) := by decide +kernel
theorem dX6_likingOn_45 : decode cX6_likingOn 45 = .ok (.getfield 130, 3) := by decide +kernel
theorem dX6_likingOn_48 : decode cX6_likingOn 48 = .ok (.aload_n 0, 1) := by decide +kernel
theorem dX6_likingOn_49 : decode cX6_likingOn 49 = .ok (.getfield 58, 3) := by decide +kernel
theorem dX6_likingOn_52 : decode cX6_likingOn 52 = .ok (.getfield 202, 3) := by decide +kernel
theorem dX6_likingOn_55 : decode cX6_likingOn 55 = .ok (.invokestatic 205, 3) := by decide +kernel
theorem dX6_likingOn_58 : decode cX6_likingOn 58 = .ok (.ireturn, 1) := by decide +kernel
theorem dX6_fillJar_0 : decode cX6_fillJar 0 = .ok (.aload_n 0, 1) := by decide +kernel
theorem dX6_fillJar_1 : decode cX6_fillJar 1 = .ok (.getfield 58, 3) := by decide +kernel
theorem dX6_fillJar_4 : decode cX6_fillJar 4 = .ok (.aload_n 0, 1) := by decide +kernel
theorem dX6_fillJar_5 : decode cX6_fillJar 5 = .ok (.getfield 10, 3) := by decide +kernel
theorem dX6_fillJar_8 : decode cX6_fillJar 8 = .ok (.invokevirtual 109, 3) := by decide +kernel
theorem dX6_fillJar_11 : decode cX6_fillJar 11 = .ok (.aload_n 0, 1) := by decide +kernel
theorem dX6_fillJar_12 : decode cX6_fillJar 12 = .ok (.getfield 58, 3) := by decide +kernel
theorem dX6_fillJar_15 : decode cX6_fillJar 15 = .ok (.invokevirtual 212, 3) := by decide +kernel
theorem dX6_fillJar_18 : decode cX6_fillJar 18 = .ok (.aload_n 0, 1) := by decide +kernel
theorem dX6_fillJar_19 : decode cX6_fillJar 19 = .ok (.getfield 54, 3) := by decide +kernel
theorem dX6_fillJar_22 : decode cX6_fillJar 22 = .ok (.iload_n 1, 1) := by decide +kernel
theorem dX6_fillJar_23 : decode cX6_fillJar 23 = .ok (.putfield 286, 3) := by decide +kernel
theorem dX6_fillJar_26 : decode cX6_fillJar 26 = .ok (.aload_n 0, 1) := by decide +kernel
theorem dX6_fillJar_27 : decode cX6_fillJar 27 = .ok (.getfield 54, 3) := by decide +kernel
theorem dX6_fillJar_30 : decode cX6_fillJar 30 = .ok (.aload_n 0, 1) := by decide +kernel
theorem dX6_fillJar_31 : decode cX6_fillJar 31 = .ok (.getfield 58, 3) := by decide +kernel
theorem dX6_fillJar_34 : decode cX6_fillJar 34 = .ok (.getfield 202, 3) := by decide +kernel
theorem dX6_fillJar_37 : decode cX6_fillJar 37 = .ok (.putfield 289, 3) := by decide +kernel
theorem dX6_fillJar_40 : decode cX6_fillJar 40 = .ok (.iconst 0, 1) := by decide +kernel
theorem dX6_fillJar_41 : decode cX6_fillJar 41 = .ok (.istore_n 3, 1) := by decide +kernel
theorem dX6_fillJar_42 : decode cX6_fillJar 42 = .ok (.iload_n 3, 1) := by decide +kernel
theorem dX6_fillJar_43 : decode cX6_fillJar 43 = .ok (.aload_n 0, 1) := by decide +kernel
theorem dX6_fillJar_44 : decode cX6_fillJar 44 = .ok (.getfield 58, 3) := by decide +kernel
theorem dX6_fillJar_47 : decode cX6_fillJar 47 = .ok (.getfield 202, 3) := by decide +kernel
theorem dX6_fillJar_50 : decode cX6_fillJar 50 = .ok (.if_icmp .ge 113, 3) := by decide +kernel
theorem dX6_fillJar_53 : decode cX6_fillJar 53 = .ok (.aload_n 0, 1) := by decide +kernel
theorem dX6_fillJar_54 : decode cX6_fillJar 54 = .ok (.getfield 26, 3) := by decide +kernel
theorem dX6_fillJar_57 : decode cX6_fillJar 57 = .ok (.aload_n 0, 1) := by decide +kernel
theorem dX6_fillJar_58 : decode cX6_fillJar 58 = .ok (.getfield 58, 3) := by decide +kernel
theorem dX6_fillJar_61 : decode cX6_fillJar 61 = .ok (.iload_n 3, 1) := by decide +kernel
theorem dX6_fillJar_62 : decode cX6_fillJar 62 = .ok (.aload_n 0, 1) := by decide +kernel
theorem dX6_fillJar_63 : decode cX6_fillJar 63 = .ok (.getfield 30, 3) := by decide +kernel
theorem dX6_fillJar_66 : decode cX6_fillJar 66 = .ok (.iconst 0, 1) := by decide +kernel
theorem dX6_fillJar_67 : decode cX6_fillJar 67 = .ok (.iaload, 1) := by decide +kernel
theorem dX6_fillJar_68 : decode cX6_fillJar 68 = .ok (.invokevirtual 184, 3) := by decide +kernel
theorem dX6_fillJar_71 : decode cX6_fillJar 71 = .ok (.iconst 0, 1) := by decide +kernel
theorem dX6_fillJar_72 : decode cX6_fillJar 72 = .ok (.invokestatic 236, 3) := by decide +kernel
theorem dX6_fillJar_75 : decode cX6_fillJar 75 = .ok (.istore 4, 2) := by decide +kernel
theorem dX6_fillJar_77 : decode cX6_fillJar 77 = .ok (.aload_n 0, 1) := by decide +kernel
theorem dX6_fillJar_78 : decode cX6_fillJar 78 = .ok (.getfield 54, 3) := by decide +kernel
theorem dX6_fillJar_81 : decode cX6_fillJar 81 = .ok (.getfield 290, 3) := by decide +kernel
theorem dX6_fillJar_84 : decode cX6_fillJar 84 = .ok (.iload_n 3, 1) := by decide +kernel
theorem dX6_fillJar_85 : decode cX6_fillJar 85 = .ok (.aload_n 0, 1) := by decide +kernel
theorem dX6_fillJar_86 : decode cX6_fillJar 86 = .ok (.getfield 58, 3) := by decide +kernel
theorem dX6_fillJar_89 : decode cX6_fillJar 89 = .ok (.iload_n 3, 1) := by decide +kernel
theorem dX6_fillJar_90 : decode cX6_fillJar 90 = .ok (.iload 4, 2) := by decide +kernel
theorem dX6_fillJar_92 : decode cX6_fillJar 92 = .ok (.invokevirtual 171, 3) := by decide +kernel
theorem dX6_fillJar_95 : decode cX6_fillJar 95 = .ok (.iastore, 1) := by decide +kernel
theorem dX6_fillJar_96 : decode cX6_fillJar 96 = .ok (.aload_n 0, 1) := by decide +kernel
theorem dX6_fillJar_97 : decode cX6_fillJar 97 = .ok (.getfield 54, 3) := by decide +kernel
theorem dX6_fillJar_100 : decode cX6_fillJar 100 = .ok (.getfield 291, 3) := by decide +kernel
theorem dX6_fillJar_103 : decode cX6_fillJar 103 = .ok (.iload_n 3, 1) := by decide +kernel
theorem dX6_fillJar_104 : decode cX6_fillJar 104 = .ok (.aload_n 0, 1) := by decide +kernel
theorem dX6_fillJar_105 : decode cX6_fillJar 105 = .ok (.getfield 26, 3) := by decide +kernel
theorem dX6_fillJar_108 : decode cX6_fillJar 108 = .ok (.aload_n 0, 1) := by decide +kernel
theorem dX6_fillJar_109 : decode cX6_fillJar 109 = .ok (.getfield 58, 3) := by decide +kernel
theorem dX6_fillJar_112 : decode cX6_fillJar 112 = .ok (.iload_n 3, 1) := by decide +kernel
theorem dX6_fillJar_113 : decode cX6_fillJar 113 = .ok (.iload 4, 2) := by decide +kernel
theorem dX6_fillJar_115 : decode cX6_fillJar 115 = .ok (.invokevirtual 174, 3) := by decide +kernel
theorem dX6_fillJar_118 : decode cX6_fillJar 118 = .ok (.aload_n 0, 1) := by decide +kernel
theorem dX6_fillJar_119 : decode cX6_fillJar 119 = .ok (.getfield 30, 3) := by decide +kernel
theorem dX6_fillJar_122 : decode cX6_fillJar 122 = .ok (.iconst 0, 1) := by decide +kernel
theorem dX6_fillJar_123 : decode cX6_fillJar 123 = .ok (.iaload, 1) := by decide +kernel
theorem dX6_fillJar_124 : decode cX6_fillJar 124 = .ok (.isub, 1) := by decide +kernel
theorem dX6_fillJar_125 : decode cX6_fillJar 125 = .ok (.iastore, 1) := by decide +kernel
theorem dX6_fillJar_126 : decode cX6_fillJar 126 = .ok (.aload_n 0, 1) := by decide +kernel
theorem dX6_fillJar_127 : decode cX6_fillJar 127 = .ok (.getfield 54, 3) := by decide +kernel
theorem dX6_fillJar_130 : decode cX6_fillJar 130 = .ok (.getfield 294, 3) := by decide +kernel
theorem dX6_fillJar_133 : decode cX6_fillJar 133 = .ok (.iload_n 3, 1) := by decide +kernel
theorem dX6_fillJar_134 : decode cX6_fillJar 134 = .ok (.iload_n 2, 1) := by decide +kernel
theorem dX6_fillJar_135 : decode cX6_fillJar 135 = .ok (.aload_n 0, 1) := by decide +kernel
theorem dX6_fillJar_136 : decode cX6_fillJar 136 = .ok (.getfield 58, 3) := by decide +kernel
theorem dX6_fillJar_139 : decode cX6_fillJar 139 = .ok (.getfield 127, 3) := by decide +kernel
theorem dX6_fillJar_142 : decode cX6_fillJar 142 = .ok (.iload_n 3, 1) := by decide +kernel
theorem dX6_fillJar_143 : decode cX6_fillJar 143 = .ok (.iaload, 1) := by decide +kernel
theorem dX6_fillJar_144 : decode cX6_fillJar 144 = .ok (.imul, 1) := by decide +kernel
theorem dX6_fillJar_145 : decode cX6_fillJar 145 = .ok (.aload_n 0, 1) := by decide +kernel
theorem dX6_fillJar_146 : decode cX6_fillJar 146 = .ok (.getfield 26, 3) := by decide +kernel
theorem dX6_fillJar_149 : decode cX6_fillJar 149 = .ok (.getfield 199, 3) := by decide +kernel
theorem dX6_fillJar_152 : decode cX6_fillJar 152 = .ok (.imul, 1) := by decide +kernel
theorem dX6_fillJar_153 : decode cX6_fillJar 153 = .ok (.bipush 100, 2) := by decide +kernel
theorem dX6_fillJar_155 : decode cX6_fillJar 155 = .ok (.idiv, 1) := by decide +kernel
theorem dX6_fillJar_156 : decode cX6_fillJar 156 = .ok (.iastore, 1) := by decide +kernel
theorem dX6_fillJar_157 : decode cX6_fillJar 157 = .ok (.iinc 3 1, 3) := by decide +kernel
theorem dX6_fillJar_160 : decode cX6_fillJar 160 = .ok (.goto (-118), 3) := by decide +kernel
theorem dX6_fillJar_163 : decode cX6_fillJar 163 = .ok (.return_, 1) := by decide +kernel
theorem dX6_rateOfPay_0 : decode cX6_rateOfPay 0 = .ok (.aload_n 0, 1) := by decide +kernel
theorem dX6_rateOfPay_1 : decode cX6_rateOfPay 1 = .ok (.dup, 1) := by decide +kernel
theorem dX6_rateOfPay_2 : decode cX6_rateOfPay 2 = .ok (.getfield 68, 3) := by decide +kernel
theorem dX6_rateOfPay_5 : decode cX6_rateOfPay 5 = .ok (.lconst 1, 1) := by decide +kernel
theorem dX6_rateOfPay_6 : decode cX6_rateOfPay 6 = .ok (.ladd, 1) := by decide +kernel
theorem dX6_rateOfPay_7 : decode cX6_rateOfPay 7 = .ok (.putfield 68, 3) := by decide +kernel
theorem dX6_rateOfPay_10 : decode cX6_rateOfPay 10 = .ok (.aload_n 0, 1) := by decide +kernel
theorem dX6_rateOfPay_11 : decode cX6_rateOfPay 11 = .ok (.getfield 26, 3) := by decide +kernel
theorem dX6_rateOfPay_14 : decode cX6_rateOfPay 14 = .ok (.getfield 134, 3) := by decide +kernel
theorem dX6_rateOfPay_17 : decode cX6_rateOfPay 17 = .ok (.iload_n 1, 1) := by decide +kernel
theorem dX6_rateOfPay_18 : decode cX6_rateOfPay 18 = .ok (.iaload, 1) := by decide +kernel
theorem dX6_rateOfPay_19 : decode cX6_rateOfPay 19 = .ok (.ireturn, 1) := by decide +kernel
theorem dX6_rateOfTold_0 : decode cX6_rateOfTold 0 = .ok (.aload_n 0, 1) := by decide +kernel
theorem dX6_rateOfTold_1 : decode cX6_rateOfTold 1 = .ok (.dup, 1) := by decide +kernel
theorem dX6_rateOfTold_2 : decode cX6_rateOfTold 2 = .ok (.getfield 68, 3) := by decide +kernel
theorem dX6_rateOfTold_5 : decode cX6_rateOfTold 5 = .ok (.ldc2_w 297, 3) := by decide +kernel
theorem dX6_rateOfTold_8 : decode cX6_rateOfTold 8 = .ok (.ladd, 1) := by decide +kernel
theorem dX6_rateOfTold_9 : decode cX6_rateOfTold 9 = .ok (.putfield 68, 3) := by decide +kernel
theorem dX6_rateOfTold_12 : decode cX6_rateOfTold 12 = .ok (.aload_n 0, 1) := by decide +kernel
theorem dX6_rateOfTold_13 : decode cX6_rateOfTold 13 = .ok (.iload_n 1, 1) := by decide +kernel
theorem dX6_rateOfTold_14 : decode cX6_rateOfTold 14 = .ok (.invokevirtual 257, 3) := by decide +kernel
theorem dX6_rateOfTold_17 : decode cX6_rateOfTold 17 = .ok (.aload_n 0, 1) := by decide +kernel
theorem dX6_rateOfTold_18 : decode cX6_rateOfTold 18 = .ok (.getfield 26, 3) := by decide +kernel
theorem dX6_rateOfTold_21 : decode cX6_rateOfTold 21 = .ok (.getfield 130, 3) := by decide +kernel
theorem dX6_rateOfTold_24 : decode cX6_rateOfTold 24 = .ok (.iload_n 1, 1) := by decide +kernel
theorem dX6_rateOfTold_25 : decode cX6_rateOfTold 25 = .ok (.iaload, 1) := by decide +kernel
theorem dX6_rateOfTold_26 : decode cX6_rateOfTold 26 = .ok (.isub, 1) := by decide +kernel
theorem dX6_rateOfTold_27 : decode cX6_rateOfTold 27 = .ok (.ireturn, 1) := by decide +kernel
theorem dX6_rateOfUnforeseen_0 : decode cX6_rateOfUnforeseen 0 = .ok (.aload_n 0, 1) := by decide +kernel
theorem dX6_rateOfUnforeseen_1 : decode cX6_rateOfUnforeseen 1 = .ok (.dup, 1) := by decide +kernel
theorem dX6_rateOfUnforeseen_2 : decode cX6_rateOfUnforeseen 2 = .ok (.getfield 68, 3) := by decide +kernel
theorem dX6_rateOfUnforeseen_5 : decode cX6_rateOfUnforeseen 5 = .ok (.ldc2_w 299, 3) := by decide +kernel
theorem dX6_rateOfUnforeseen_8 : decode cX6_rateOfUnforeseen 8 = .ok (.ladd, 1) := by decide +kernel
theorem dX6_rateOfUnforeseen_9 : decode cX6_rateOfUnforeseen 9 = .ok (.putfield 68, 3) := by decide +kernel
theorem dX6_rateOfUnforeseen_12 : decode cX6_rateOfUnforeseen 12 = .ok (.aload_n 0, 1) := by decide +kernel
theorem dX6_rateOfUnforeseen_13 : decode cX6_rateOfUnforeseen 13 = .ok (.iload_n 1, 1) := by decide +kernel
theorem dX6_rateOfUnforeseen_14 : decode cX6_rateOfUnforeseen 14 = .ok (.invokevirtual 257, 3) := by decide +kernel
theorem dX6_rateOfUnforeseen_17 : decode cX6_rateOfUnforeseen 17 = .ok (.aload_n 0, 1) := by decide +kernel
theorem dX6_rateOfUnforeseen_18 : decode cX6_rateOfUnforeseen 18 = .ok (.getfield 26, 3) := by decide +kernel
theorem dX6_rateOfUnforeseen_21 : decode cX6_rateOfUnforeseen 21 = .ok (.getfield 130, 3) := by decide +kernel
theorem dX6_rateOfUnforeseen_24 : decode cX6_rateOfUnforeseen 24 = .ok (.iload_n 1, 1) := by decide +kernel
theorem dX6_rateOfUnforeseen_25 : decode cX6_rateOfUnforeseen 25 = .ok (.iaload, 1) := by decide +kernel
theorem dX6_rateOfUnforeseen_26 : decode cX6_rateOfUnforeseen 26 = .ok (.iadd, 1) := by decide +kernel
theorem dX6_rateOfUnforeseen_27 : decode cX6_rateOfUnforeseen 27 = .ok (.ireturn, 1) := by decide +kernel
theorem dX6_rateOfDoing_0 : decode cX6_rateOfDoing 0 = .ok (.aload_n 0, 1) := by decide +kernel
theorem dX6_rateOfDoing_1 : decode cX6_rateOfDoing 1 = .ok (.dup, 1) := by decide +kernel
theorem dX6_rateOfDoing_2 : decode cX6_rateOfDoing 2 = .ok (.getfield 68, 3) := by decide +kernel
theorem dX6_rateOfDoing_5 : decode cX6_rateOfDoing 5 = .ok (.ldc2_w 301, 3) := by decide +kernel
theorem dX6_rateOfDoing_8 : decode cX6_rateOfDoing 8 = .ok (.ladd, 1) := by decide +kernel
theorem dX6_rateOfDoing_9 : decode cX6_rateOfDoing 9 = .ok (.putfield 68, 3) := by decide +kernel
theorem dX6_rateOfDoing_12 : decode cX6_rateOfDoing 12 = .ok (.aload_n 0, 1) := by decide +kernel
theorem dX6_rateOfDoing_13 : decode cX6_rateOfDoing 13 = .ok (.iload_n 1, 1) := by decide +kernel
theorem dX6_rateOfDoing_14 : decode cX6_rateOfDoing 14 = .ok (.invokevirtual 260, 3) := by decide +kernel
theorem dX6_rateOfDoing_17 : decode cX6_rateOfDoing 17 = .ok (.aload_n 0, 1) := by decide +kernel
theorem dX6_rateOfDoing_18 : decode cX6_rateOfDoing 18 = .ok (.getfield 26, 3) := by decide +kernel
theorem dX6_rateOfDoing_21 : decode cX6_rateOfDoing 21 = .ok (.getfield 131, 3) := by decide +kernel
theorem dX6_rateOfDoing_24 : decode cX6_rateOfDoing 24 = .ok (.iload_n 1, 1) := by decide +kernel
theorem dX6_rateOfDoing_25 : decode cX6_rateOfDoing 25 = .ok (.iaload, 1) := by decide +kernel
theorem dX6_rateOfDoing_26 : decode cX6_rateOfDoing 26 = .ok (.iadd, 1) := by decide +kernel
theorem dX6_rateOfDoing_27 : decode cX6_rateOfDoing 27 = .ok (.ireturn, 1) := by decide +kernel
theorem dX6_rateOfWell_0 : decode cX6_rateOfWell 0 = .ok (.aload_n 0, 1) := by decide +kernel
theorem dX6_rateOfWell_1 : decode cX6_rateOfWell 1 = .ok (.dup, 1) := by decide +kernel
theorem dX6_rateOfWell_2 : decode cX6_rateOfWell 2 = .ok (.getfield 68, 3) := by decide +kernel
theorem dX6_rateOfWell_5 : decode cX6_rateOfWell 5 = .ok (.ldc2_w 303, 3) := by decide +kernel
theorem dX6_rateOfWell_8 : decode cX6_rateOfWell 8 = .ok (.ladd, 1) := by decide +kernel
theorem dX6_rateOfWell_9 : decode cX6_rateOfWell 9 = .ok (.putfield 68, 3) := by decide +kernel
theorem dX6_rateOfWell_12 : decode cX6_rateOfWell 12 = .ok (.iconst 2, 1) := by decide +kernel
theorem dX6_rateOfWell_13 : decode cX6_rateOfWell 13 = .ok (.aload_n 0, 1) := by decide +kernel
theorem dX6_rateOfWell_14 : decode cX6_rateOfWell 14 = .ok (.iload_n 1, 1) := by decide +kernel
theorem dX6_rateOfWell_15 : decode cX6_rateOfWell 15 = .ok (.invokevirtual 266, 3) := by decide +kernel
theorem dX6_rateOfWell_18 : decode cX6_rateOfWell 18 = .ok (.imul, 1) := by decide +kernel
theorem dX6_rateOfWell_19 : decode cX6_rateOfWell 19 = .ok (.ireturn, 1) := by decide +kernel
theorem dX6_rateOfCommon_0 : decode cX6_rateOfCommon 0 = .ok (.aload_n 0, 1) := by decide +kernel
theorem dX6_rateOfCommon_1 : decode cX6_rateOfCommon 1 = .ok (.dup, 1) := by decide +kernel
theorem dX6_rateOfCommon_2 : decode cX6_rateOfCommon 2 = .ok (.getfield 68, 3) := by decide +kernel
theorem dX6_rateOfCommon_5 : decode cX6_rateOfCommon 5 = .ok (.ldc2_w 305, 3) := by decide +kernel
theorem dX6_rateOfCommon_8 : decode cX6_rateOfCommon 8 = .ok (.ladd, 1) := by decide +kernel
theorem dX6_rateOfCommon_9 : decode cX6_rateOfCommon 9 = .ok (.putfield 68, 3) := by decide +kernel
theorem dX6_rateOfCommon_12 : decode cX6_rateOfCommon 12 = .ok (.aload_n 0, 1) := by decide +kernel
theorem dX6_rateOfCommon_13 : decode cX6_rateOfCommon 13 = .ok (.iload_n 1, 1) := by decide +kernel
theorem dX6_rateOfCommon_14 : decode cX6_rateOfCommon 14 = .ok (.invokevirtual 257, 3) := by decide +kernel
theorem dX6_rateOfCommon_17 : decode cX6_rateOfCommon 17 = .ok (.aload_n 0, 1) := by decide +kernel
theorem dX6_rateOfCommon_18 : decode cX6_rateOfCommon 18 = .ok (.getfield 26, 3) := by decide +kernel
theorem dX6_rateOfCommon_21 : decode cX6_rateOfCommon 21 = .ok (.getfield 199, 3) := by decide +kernel
theorem dX6_rateOfCommon_24 : decode cX6_rateOfCommon 24 = .ok (.iadd, 1) := by decide +kernel
theorem dX6_rateOfCommon_25 : decode cX6_rateOfCommon 25 = .ok (.ireturn, 1) := by decide +kernel
theorem dX7_init_0 : decode cX7_init 0 = .ok (.aload_n 0, 1) := by decide +kernel
theorem dX7_init_1 : decode cX7_init 1 = .ok (.invokespecial 1, 3) := by decide +kernel
theorem dX7_init_4 : decode cX7_init 4 = .ok (.aload_n 0, 1) := by decide +kernel
theorem dX7_init_5 : decode cX7_init 5 = .ok (.sipush 400, 3) := by decide +kernel
theorem dX7_init_8 : decode cX7_init 8 = .ok (.newarray .int, 2) := by decide +kernel
theorem dX7_init_10 : decode cX7_init 10 = .ok (.putfield 7, 3) := by decide +kernel
theorem dX7_init_13 : decode cX7_init 13 = .ok (.aload_n 0, 1) := by decide +kernel
theorem dX7_init_14 : decode cX7_init 14 = .ok (.bipush 84, 2) := by decide +kernel
theorem dX7_init_16 : decode cX7_init 16 = .ok (.newarray .int, 2) := by decide +kernel
theorem dX7_init_18 : decode cX7_init 18 = .ok (.putfield 13, 3) := by decide +kernel
theorem dX7_init_21 : decode cX7_init 21 = .ok (.aload_n 0, 1) := by decide +kernel
theorem dX7_init_22 : decode cX7_init 22 = .ok (.bipush 6, 2) := by decide +kernel
theorem dX7_init_24 : decode cX7_init 24 = .ok (.newarray .int, 2) := by decide +kernel
theorem dX7_init_26 : decode cX7_init 26 = .ok (.putfield 16, 3) := by decide +kernel
theorem dX7_init_29 : decode cX7_init 29 = .ok (.aload_n 0, 1) := by decide +kernel
theorem dX7_init_30 : decode cX7_init 30 = .ok (.bipush 27, 2) := by decide +kernel
theorem dX7_init_32 : decode cX7_init 32 = .ok (.newarray .int, 2) := by decide +kernel
theorem dX7_init_34 : decode cX7_init 34 = .ok (.putfield 19, 3) := by decide +kernel
theorem dX7_init_37 : decode cX7_init 37 = .ok (.aload_n 0, 1) := by decide +kernel
theorem dX7_init_38 : decode cX7_init 38 = .ok (.bipush 54, 2) := by decide +kernel
theorem dX7_init_40 : decode cX7_init 40 = .ok (.newarray .int, 2) := by decide +kernel
theorem dX7_init_42 : decode cX7_init 42 = .ok (.putfield 22, 3) := by decide +kernel
theorem dX7_init_45 : decode cX7_init 45 = .ok (.aload_n 0, 1) := by decide +kernel
theorem dX7_init_46 : decode cX7_init 46 = .ok (.iconst 2, 1) := by decide +kernel
theorem dX7_init_47 : decode cX7_init 47 = .ok (.newarray .boolean, 2) := by decide +kernel
theorem dX7_init_49 : decode cX7_init 49 = .ok (.putfield 25, 3) := by decide +kernel
theorem dX7_init_52 : decode cX7_init 52 = .ok (.aload_n 0, 1) := by decide +kernel
theorem dX7_init_53 : decode cX7_init 53 = .ok (.bipush 27, 2) := by decide +kernel
theorem dX7_init_55 : decode cX7_init 55 = .ok (.newarray .int, 2) := by decide +kernel
theorem dX7_init_57 : decode cX7_init 57 = .ok (.putfield 29, 3) := by decide +kernel
theorem dX7_init_60 : decode cX7_init 60 = .ok (.aload_n 0, 1) := by decide +kernel
theorem dX7_init_61 : decode cX7_init 61 = .ok (.bipush 84, 2) := by decide +kernel
theorem dX7_init_63 : decode cX7_init 63 = .ok (.newarray .int, 2) := by decide +kernel
theorem dX7_init_65 : decode cX7_init 65 = .ok (.putfield 32, 3) := by decide +kernel
theorem dX7_init_68 : decode cX7_init 68 = .ok (.aload_n 0, 1) := by decide +kernel
theorem dX7_init_69 : decode cX7_init 69 = .ok (.bipush 30, 2) := by decide +kernel
theorem dX7_init_71 : decode cX7_init 71 = .ok (.newarray .int, 2) := by decide +kernel
theorem dX7_init_73 : decode cX7_init 73 = .ok (.putfield 35, 3) := by decide +kernel
theorem dX7_init_76 : decode cX7_init 76 = .ok (.aload_n 0, 1) := by decide +kernel
theorem dX7_init_77 : decode cX7_init 77 = .ok (.bipush 30, 2) := by decide +kernel
theorem dX7_init_79 : decode cX7_init 79 = .ok (.newarray .int, 2) := by decide +kernel
theorem dX7_init_81 : decode cX7_init 81 = .ok (.putfield 38, 3) := by decide +kernel
theorem dX7_init_84 : decode cX7_init 84 = .ok (.aload_n 0, 1) := by decide +kernel
theorem dX7_init_85 : decode cX7_init 85 = .ok (.getfield 16, 3) := by decide +kernel
theorem dX7_init_88 : decode cX7_init 88 = .ok (.iconst 0, 1) := by decide +kernel
theorem dX7_init_89 : decode cX7_init 89 = .ok (.bipush 10, 2) := by decide +kernel
theorem dX7_init_91 : decode cX7_init 91 = .ok (.iastore, 1) := by decide +kernel
theorem dX7_init_92 : decode cX7_init 92 = .ok (.aload_n 0, 1) := by decide +kernel
theorem dX7_init_93 : decode cX7_init 93 = .ok (.getfield 16, 3) := by decide +kernel
theorem dX7_init_96 : decode cX7_init 96 = .ok (.iconst 1, 1) := by decide +kernel
theorem dX7_init_97 : decode cX7_init 97 = .ok (.iconst 1, 1) := by decide +kernel
theorem dX7_init_98 : decode cX7_init 98 = .ok (.iastore, 1) := by decide +kernel
theorem dX7_init_99 : decode cX7_init 99 = .ok (.aload_n 0, 1) := by decide +kernel
theorem dX7_init_100 : decode cX7_init 100 = .ok (.getfield 16, 3) := by decide +kernel
theorem dX7_init_103 : decode cX7_init 103 = .ok (.iconst 2, 1) := by decide +kernel
theorem dX7_init_104 : decode cX7_init 104 = .ok (.bipush 6, 2) := by decide +kernel
theorem dX7_init_106 : decode cX7_init 106 = .ok (.iastore, 1) := by decide +kernel
theorem dX7_init_107 : decode cX7_init 107 = .ok (.aload_n 0, 1) := by decide +kernel
theorem dX7_init_108 : decode cX7_init 108 = .ok (.getfield 16, 3) := by decide +kernel
theorem dX7_init_111 : decode cX7_init 111 = .ok (.iconst 3, 1) := by decide +kernel
theorem dX7_init_112 : decode cX7_init 112 = .ok (.iconst 2, 1) := by decide +kernel
theorem dX7_init_113 : decode cX7_init 113 = .ok (.iastore, 1) := by decide +kernel
theorem dX7_init_114 : decode cX7_init 114 = .ok (.aload_n 0, 1) := by decide +kernel
theorem dX7_init_115 : decode cX7_init 115 = .ok (.getfield 16, 3) := by decide +kernel
theorem dX7_init_118 : decode cX7_init 118 = .ok (.iconst 4, 1) := by decide +kernel
theorem dX7_init_119 : decode cX7_init 119 = .ok (.iconst 3, 1) := by decide +kernel
theorem dX7_init_120 : decode cX7_init 120 = .ok (.iastore, 1) := by decide +kernel
theorem dX7_init_121 : decode cX7_init 121 = .ok (.aload_n 0, 1) := by decide +kernel
theorem dX7_init_122 : decode cX7_init 122 = .ok (.getfield 16, 3) := by decide +kernel
theorem dX7_init_125 : decode cX7_init 125 = .ok (.iconst 5, 1) := by decide +kernel
theorem dX7_init_126 : decode cX7_init 126 = .ok (.iconst 1, 1) := by decide +kernel
theorem dX7_init_127 : decode cX7_init 127 = .ok (.iastore, 1) := by decide +kernel
theorem dX7_init_128 : decode cX7_init 128 = .ok (.aload_n 0, 1) := by decide +kernel
theorem dX7_init_129 : decode cX7_init 129 = .ok (.getfield 19, 3) := by decide +kernel
theorem dX7_init_132 : decode cX7_init 132 = .ok (.iconst 2, 1) := by decide +kernel
theorem dX7_init_133 : decode cX7_init 133 = .ok (.iconst 1, 1) := by decide +kernel
theorem dX7_init_134 : decode cX7_init 134 = .ok (.iastore, 1) := by decide +kernel
theorem dX7_init_135 : decode cX7_init 135 = .ok (.aload_n 0, 1) := by decide +kernel
theorem dX7_init_136 : decode cX7_init 136 = .ok (.invokevirtual 41, 3) := by decide +kernel
theorem dX7_init_139 : decode cX7_init 139 = .ok (.aload_n 0, 1) := by decide +kernel
theorem dX7_init_140 : decode cX7_init 140 = .ok (.invokevirtual 44, 3) := by decide +kernel
theorem dX7_init_143 : decode cX7_init 143 = .ok (.return_, 1) := by decide +kernel
theorem dX7_in_0 : decode cX7_in 0 = .ok (.iload_n 0, 1) := by decide +kernel
theorem dX7_in_1 : decode cX7_in 1 = .ok (.iload_n 1, 1) := by decide +kernel
theorem dX7_in_2 : decode cX7_in 2 = .ok (.if_icmp .lt 12, 3) := by decide +kernel
theorem dX7_in_5 : decode cX7_in 5 = .ok (.iload_n 0, 1) := by decide +kernel
theorem dX7_in_6 : decode cX7_in 6 = .ok (.iload_n 2, 1) := by decide +kernel
theorem dX7_in_7 : decode cX7_in 7 = .ok (.if_icmp .gt 7, 3) := by decide +kernel
theorem dX7_in_10 : decode cX7_in 10 = .ok (.iconst 1, 1) := by decide +kernel
theorem dX7_in_11 : decode cX7_in 11 = .ok (.goto 4, 3) := by decide +kernel
theorem dX7_in_14 : decode cX7_in 14 = .ok (.iconst 0, 1) := by decide +kernel
theorem dX7_in_15 : decode cX7_in 15 = .ok (.ireturn, 1) := by decide +kernel
theorem dX7_type_0 : decode cX7_type 0 = .ok (.aload_n 0, 1) := by decide +kernel
theorem dX7_type_1 : decode cX7_type 1 = .ok (.iconst 0, 1) := by decide +kernel
theorem dX7_type_2 : decode cX7_type 2 = .ok (.putfield 47, 3) := by decide +kernel
theorem dX7_type_5 : decode cX7_type 5 = .ok (.iload_n 3, 1) := by decide +kernel
theorem dX7_type_6 : decode cX7_type 6 = .ok (.iconst 1, 1) := by decide +kernel
theorem dX7_type_7 : decode cX7_type 7 = .ok (.bipush 8, 2) := by decide +kernel
theorem dX7_type_9 : decode cX7_type 9 = .ok (.invokestatic 51, 3) := by decide +kernel
theorem dX7_type_12 : decode cX7_type 12 = .ok (.ifCond .ne 5, 3) := by decide +kernel
theorem dX7_type_15 : decode cX7_type 15 = .ok (.iconst (-1), 1) := by decide +kernel
theorem dX7_type_16 : decode cX7_type 16 = .ok (.ireturn, 1) := by decide +kernel
theorem dX7_type_17 : decode cX7_type 17 = .ok (.aload_n 0, 1) := by decide +kernel
theorem dX7_type_18 : decode cX7_type 18 = .ok (.getfield 55, 3) := by decide +kernel
theorem dX7_type_21 : decode cX7_type 21 = .ok (.iload_n 3, 1) := by decide +kernel
theorem dX7_type_22 : decode cX7_type 22 = .ok (.iadd, 1) := by decide +kernel
theorem dX7_type_23 : decode cX7_type 23 = .ok (.sipush 400, 3) := by decide +kernel
theorem dX7_type_26 : decode cX7_type 26 = .ok (.if_icmp .le 6, 3) := by decide +kernel
theorem dX7_type_29 : decode cX7_type 29 = .ok (.bipush (-3), 2) := by decide +kernel
theorem dX7_type_31 : decode cX7_type 31 = .ok (.ireturn, 1) := by decide +kernel
theorem dX7_type_32 : decode cX7_type 32 = .ok (.iload_n 3, 1) := by decide +kernel
theorem dX7_type_33 : decode cX7_type 33 = .ok (.iconst 1, 1) := by decide +kernel
theorem dX7_type_34 : decode cX7_type 34 = .ok (.isub, 1) := by decide +kernel
theorem dX7_type_35 : decode cX7_type 35 = .ok (.istore 4, 2) := by decide +kernel
theorem dX7_type_37 : decode cX7_type 37 = .ok (.iload 4, 2) := by decide +kernel
theorem dX7_type_39 : decode cX7_type 39 = .ok (.ifCond .lt 40, 3) := by decide +kernel
theorem dX7_type_42 : decode cX7_type 42 = .ok (.aload_n 0, 1) := by decide +kernel
theorem dX7_type_43 : decode cX7_type 43 = .ok (.getfield 7, 3) := by decide +kernel
theorem dX7_type_46 : decode cX7_type 46 = .ok (.aload_n 0, 1) := by decide +kernel
theorem dX7_type_47 : decode cX7_type 47 = .ok (.getfield 55, 3) := by decide +kernel
theorem dX7_type_50 : decode cX7_type 50 = .ok (.lload_n 1, 1) := by decide +kernel
theorem dX7_type_51 : decode cX7_type 51 = .ok (.bipush 8, 2) := by decide +kernel
theorem dX7_type_53 : decode cX7_type 53 = .ok (.iload 4, 2) := by decide +kernel
theorem dX7_type_55 : decode cX7_type 55 = .ok (.imul, 1) := by decide +kernel
theorem dX7_type_56 : decode cX7_type 56 = .ok (.lshr, 1) := by decide +kernel
theorem dX7_type_57 : decode cX7_type 57 = .ok (.ldc2_w 58, 3) := by decide +kernel
theorem dX7_type_60 : decode cX7_type 60 = .ok (.land, 1) := by decide +kernel
theorem dX7_type_61 : decode cX7_type 61 = .ok (.l2i, 1) := by decide +kernel
theorem dX7_type_62 : decode cX7_type 62 = .ok (.iastore, 1) := by decide +kernel
theorem dX7_type_63 : decode cX7_type 63 = .ok (.aload_n 0, 1) := by decide +kernel
theorem dX7_type_64 : decode cX7_type 64 = .ok (.dup, 1) := by decide +kernel
theorem dX7_type_65 : decode cX7_type 65 = .ok (.getfield 55, 3) := by decide +kernel
theorem dX7_type_68 : decode cX7_type 68 = .ok (.iconst 1, 1) := by decide +kernel
theorem dX7_type_69 : decode cX7_type 69 = .ok (.iadd, 1) := by decide +kernel
theorem dX7_type_70 : decode cX7_type 70 = .ok (.putfield 55, 3) := by decide +kernel
theorem dX7_type_73 : decode cX7_type 73 = .ok (.iinc 4 (-1), 3) := by decide +kernel
theorem dX7_type_76 : decode cX7_type 76 = .ok (.goto (-39), 3) := by decide +kernel
theorem dX7_type_79 : decode cX7_type 79 = .ok (.aload_n 0, 1) := by decide +kernel
theorem dX7_type_80 : decode cX7_type 80 = .ok (.getfield 55, 3) := by decide +kernel
theorem dX7_type_83 : decode cX7_type 83 = .ok (.ireturn, 1) := by decide +kernel
theorem dX7_clear_0 : decode cX7_clear 0 = .ok (.aload_n 0, 1) := by decide +kernel
theorem dX7_clear_1 : decode cX7_clear 1 = .ok (.iconst 0, 1) := by decide +kernel
theorem dX7_clear_2 : decode cX7_clear 2 = .ok (.putfield 47, 3) := by decide +kernel
theorem dX7_clear_5 : decode cX7_clear 5 = .ok (.aload_n 0, 1) := by decide +kernel
theorem dX7_clear_6 : decode cX7_clear 6 = .ok (.getfield 55, 3) := by decide +kernel
theorem dX7_clear_9 : decode cX7_clear 9 = .ok (.istore_n 1, 1) := by decide +kernel
theorem dX7_clear_10 : decode cX7_clear 10 = .ok (.aload_n 0, 1) := by decide +kernel
theorem dX7_clear_11 : decode cX7_clear 11 = .ok (.iconst 0, 1) := by decide +kernel
theorem dX7_clear_12 : decode cX7_clear 12 = .ok (.putfield 55, 3) := by decide +kernel
theorem dX7_clear_15 : decode cX7_clear 15 = .ok (.iload_n 1, 1) := by decide +kernel
theorem dX7_clear_16 : decode cX7_clear 16 = .ok (.ireturn, 1) := by decide +kernel
theorem dX7_byteAt_0 : decode cX7_byteAt 0 = .ok (.iload_n 1, 1) := by decide +kernel
theorem dX7_byteAt_1 : decode cX7_byteAt 1 = .ok (.aload_n 0, 1) := by decide +kernel
theorem dX7_byteAt_2 : decode cX7_byteAt 2 = .ok (.getfield 55, 3) := by decide +kernel
theorem dX7_byteAt_5 : decode cX7_byteAt 5 = .ok (.if_icmp .ge 12, 3) := by decide +kernel
theorem dX7_byteAt_8 : decode cX7_byteAt 8 = .ok (.aload_n 0, 1) := by decide +kernel
theorem dX7_byteAt_9 : decode cX7_byteAt 9 = .ok (.getfield 7, 3) := by decide +kernel
theorem dX7_byteAt_12 : decode cX7_byteAt 12 = .ok (.iload_n 1, 1) := by decide +kernel
theorem dX7_byteAt_13 : decode cX7_byteAt 13 = .ok (.iaload, 1) := by decide +kernel
theorem dX7_byteAt_14 : decode cX7_byteAt 14 = .ok (.goto 4, 3) := by decide +kernel
theorem dX7_byteAt_17 : decode cX7_byteAt 17 = .ok (.iconst (-1), 1) := by decide +kernel
theorem dX7_byteAt_18 : decode cX7_byteAt 18 = .ok (.ireturn, 1) := by decide +kernel
theorem dX7_add_0 : decode cX7_add 0 = .ok (.iload_n 2, 1) := by decide +kernel
theorem dX7_add_1 : decode cX7_add 1 = .ok (.ifCond .ne 7, 3) := by decide +kernel
theorem dX7_add_4 : decode cX7_add 4 = .ok (.lload_n 0, 1) := by decide +kernel
theorem dX7_add_5 : decode cX7_add 5 = .ok (.goto 11, 3) := by decide +kernel
theorem dX7_add_8 : decode cX7_add 8 = .ok (.ldc2_w 60, 3) := by decide +kernel
theorem dX7_add_11 : decode cX7_add 11 = .ok (.lload_n 0, 1) := by decide +kernel
theorem dX7_add_12 : decode cX7_add 12 = .ok (.lmul, 1) := by decide +kernel
theorem dX7_add_13 : decode cX7_add 13 = .ok (.iload_n 2, 1) := by decide +kernel
theorem dX7_add_14 : decode cX7_add 14 = .ok (.i2l, 1) := by decide +kernel
theorem dX7_add_15 : decode cX7_add 15 = .ok (.ladd, 1) := by decide +kernel
theorem dX7_add_16 : decode cX7_add 16 = .ok (.lreturn, 1) := by decide +kernel
theorem dX7_named_0 : decode cX7_named 0 = .ok (.lconst 0, 1) := by decide +kernel
theorem dX7_named_1 : decode cX7_named 1 = .ok (.iload_n 0, 1) := by decide +kernel
theorem dX7_named_2 : decode cX7_named 2 = .ok (.invokestatic 62, 3) := by decide +kernel
theorem dX7_named_5 : decode cX7_named 5 = .ok (.iload_n 1, 1) := by decide +kernel
theorem dX7_named_6 : decode cX7_named 6 = .ok (.invokestatic 62, 3) := by decide +kernel
theorem dX7_named_9 : decode cX7_named 9 = .ok (.iload_n 2, 1) := by decide +kernel
theorem dX7_named_10 : decode cX7_named 10 = .ok (.invokestatic 62, 3) := by decide +kernel
theorem dX7_named_13 : decode cX7_named 13 = .ok (.iload_n 3, 1) := by decide +kernel
theorem dX7_named_14 : decode cX7_named 14 = .ok (.invokestatic 62, 3) := by decide +kernel
theorem dX7_named_17 : decode cX7_named 17 = .ok (.iload 4, 2) := by decide +kernel
theorem dX7_named_19 : decode cX7_named 19 = .ok (.invokestatic 62, 3) := by decide +kernel
theorem dX7_named_22 : decode cX7_named 22 = .ok (.lreturn, 1) := by decide +kernel
theorem dX7_wordOf_0 : decode cX7_wordOf 0 = .ok (.lload_n 0, 1) := by decide +kernel
theorem dX7_wordOf_1 : decode cX7_wordOf 1 = .ok (.bipush 99, 2) := by decide +kernel
theorem dX7_wordOf_3 : decode cX7_wordOf 3 = .ok (.bipush 104, 2) := by decide +kernel
theorem dX7_wordOf_5 : decode cX7_wordOf 5 = .ok (.bipush 105, 2) := by decide +kernel
theorem dX7_wordOf_7 : decode cX7_wordOf 7 = .ok (.bipush 108, 2) := by decide +kernel
theorem dX7_wordOf_9 : decode cX7_wordOf 9 = .ok (.bipush 100, 2) := by decide +kernel
theorem dX7_wordOf_11 : decode cX7_wordOf 11 = .ok (.invokestatic 66, 3) := by decide +kernel
theorem dX7_wordOf_14 : decode cX7_wordOf 14 = .ok (.lcmp, 1) := by decide +kernel
theorem dX7_wordOf_15 : decode cX7_wordOf 15 = .ok (.ifCond .ne 7, 3) := by decide +kernel
theorem dX7_wordOf_18 : decode cX7_wordOf 18 = .ok (.iconst 0, 1) := by decide +kernel
theorem dX7_wordOf_19 : decode cX7_wordOf 19 = .ok (.goto 47, 3) := by decide +kernel
theorem dX7_wordOf_22 : decode cX7_wordOf 22 = .ok (.lload_n 0, 1) := by decide +kernel
theorem dX7_wordOf_23 : decode cX7_wordOf 23 = .ok (.bipush 98, 2) := by decide +kernel
theorem dX7_wordOf_25 : decode cX7_wordOf 25 = .ok (.bipush 111, 2) := by decide +kernel
theorem dX7_wordOf_27 : decode cX7_wordOf 27 = .ok (.bipush 111, 2) := by decide +kernel
theorem dX7_wordOf_29 : decode cX7_wordOf 29 = .ok (.bipush 107, 2) := by decide +kernel
theorem dX7_wordOf_31 : decode cX7_wordOf 31 = .ok (.iconst 0, 1) := by decide +kernel
theorem dX7_wordOf_32 : decode cX7_wordOf 32 = .ok (.invokestatic 66, 3) := by decide +kernel
theorem dX7_wordOf_35 : decode cX7_wordOf 35 = .ok (.lcmp, 1) := by decide +kernel
theorem dX7_wordOf_36 : decode cX7_wordOf 36 = .ok (.ifCond .ne 7, 3) := by decide +kernel
theorem dX7_wordOf_39 : decode cX7_wordOf 39 = .ok (.iconst 1, 1) := by decide +kernel
theorem dX7_wordOf_40 : decode cX7_wordOf 40 = .ok (.goto 26, 3) := by decide +kernel
theorem dX7_wordOf_43 : decode cX7_wordOf 43 = .ok (.lload_n 0, 1) := by decide +kernel
theorem dX7_wordOf_44 : decode cX7_wordOf 44 = .ok (.bipush 112, 2) := by decide +kernel
theorem dX7_wordOf_46 : decode cX7_wordOf 46 = .ok (.bipush 108, 2) := by decide +kernel
theorem dX7_wordOf_48 : decode cX7_wordOf 48 = .ok (.bipush 97, 2) := by decide +kernel
theorem dX7_wordOf_50 : decode cX7_wordOf 50 = .ok (.bipush 110, 2) := by decide +kernel
theorem dX7_wordOf_52 : decode cX7_wordOf 52 = .ok (.iconst 0, 1) := by decide +kernel
theorem dX7_wordOf_53 : decode cX7_wordOf 53 = .ok (.invokestatic 66, 3) := by decide +kernel
theorem dX7_wordOf_56 : decode cX7_wordOf 56 = .ok (.lcmp, 1) := by decide +kernel
theorem dX7_wordOf_57 : decode cX7_wordOf 57 = .ok (.ifCond .ne 7, 3) := by decide +kernel
theorem dX7_wordOf_60 : decode cX7_wordOf 60 = .ok (.iconst 2, 1) := by decide +kernel
theorem dX7_wordOf_61 : decode cX7_wordOf 61 = .ok (.goto 5, 3) := by decide +kernel
theorem dX7_wordOf_64 : decode cX7_wordOf 64 = .ok (.bipush (-9), 2) := by decide +kernel
theorem dX7_wordOf_66 : decode cX7_wordOf 66 = .ok (.istore_n 2, 1) := by decide +kernel
theorem dX7_wordOf_67 : decode cX7_wordOf 67 = .ok (.iload_n 2, 1) := by decide +kernel
theorem dX7_wordOf_68 : decode cX7_wordOf 68 = .ok (.bipush (-9), 2) := by decide +kernel
theorem dX7_wordOf_70 : decode cX7_wordOf 70 = .ok (.if_icmp .eq 7, 3) := by decide +kernel
theorem dX7_wordOf_73 : decode cX7_wordOf 73 = .ok (.iload_n 2, 1) := by decide +kernel
theorem dX7_wordOf_74 : decode cX7_wordOf 74 = .ok (.goto 68, 3) := by decide +kernel
theorem dX7_wordOf_77 : decode cX7_wordOf 77 = .ok (.lload_n 0, 1) := by decide +kernel
theorem dX7_wordOf_78 : decode cX7_wordOf 78 = .ok (.bipush 97, 2) := by decide +kernel
theorem dX7_wordOf_80 : decode cX7_wordOf 80 = .ok (.bipush 102, 2) := by decide +kernel
theorem dX7_wordOf_82 : decode cX7_wordOf 82 = .ok (.bipush 116, 2) := by decide +kernel
theorem dX7_wordOf_84 : decode cX7_wordOf 84 = .ok (.bipush 101, 2) := by decide +kernel
theorem dX7_wordOf_86 : decode cX7_wordOf 86 = .ok (.bipush 114, 2) := by decide +kernel
theorem dX7_wordOf_88 : decode cX7_wordOf 88 = .ok (.invokestatic 66, 3) := by decide +kernel
theorem dX7_wordOf_91 : decode cX7_wordOf 91 = .ok (.lcmp, 1) := by decide +kernel
theorem dX7_wordOf_92 : decode cX7_wordOf 92 = .ok (.ifCond .ne 7, 3) := by decide +kernel
theorem dX7_wordOf_95 : decode cX7_wordOf 95 = .ok (.iconst 3, 1) := by decide +kernel
theorem dX7_wordOf_96 : decode cX7_wordOf 96 = .ok (.goto 46, 3) := by decide +kernel
theorem dX7_wordOf_99 : decode cX7_wordOf 99 = .ok (.lload_n 0, 1) := by decide +kernel
theorem dX7_wordOf_100 : decode cX7_wordOf 100 = .ok (.bipush 116, 2) := by decide +kernel
theorem dX7_wordOf_102 : decode cX7_wordOf 102 = .ok (.bipush 104, 2) := by decide +kernel
theorem dX7_wordOf_104 : decode cX7_wordOf 104 = .ok (.bipush 105, 2) := by decide +kernel
theorem dX7_wordOf_106 : decode cX7_wordOf 106 = .ok (.bipush 110, 2) := by decide +kernel
theorem dX7_wordOf_108 : decode cX7_wordOf 108 = .ok (.iconst 0, 1) := by decide +kernel
theorem dX7_wordOf_109 : decode cX7_wordOf 109 = .ok (.invokestatic 66, 3) := by decide +kernel
theorem dX7_wordOf_112 : decode cX7_wordOf 112 = .ok (.lcmp, 1) := by decide +kernel
theorem dX7_wordOf_113 : decode cX7_wordOf 113 = .ok (.ifCond .ne 7, 3) := by decide +kernel
theorem dX7_wordOf_116 : decode cX7_wordOf 116 = .ok (.iconst 4, 1) := by decide +kernel
theorem dX7_wordOf_117 : decode cX7_wordOf 117 = .ok (.goto 25, 3) := by decide +kernel
theorem dX7_wordOf_120 : decode cX7_wordOf 120 = .ok (.lload_n 0, 1) := by decide +kernel
theorem dX7_wordOf_121 : decode cX7_wordOf 121 = .ok (.bipush 112, 2) := by decide +kernel
theorem dX7_wordOf_123 : decode cX7_wordOf 123 = .ok (.bipush 97, 2) := by decide +kernel
theorem dX7_wordOf_125 : decode cX7_wordOf 125 = .ok (.bipush 121, 2) := by decide +kernel
theorem dX7_wordOf_127 : decode cX7_wordOf 127 = .ok (.iconst 0, 1) := by decide +kernel
theorem dX7_wordOf_128 : decode cX7_wordOf 128 = .ok (.iconst 0, 1) := by decide +kernel
theorem dX7_wordOf_129 : decode cX7_wordOf 129 = .ok (.invokestatic 66, 3) := by decide +kernel
theorem dX7_wordOf_132 : decode cX7_wordOf 132 = .ok (.lcmp, 1) := by decide +kernel
theorem dX7_wordOf_133 : decode cX7_wordOf 133 = .ok (.ifCond .ne 7, 3) := by decide +kernel
theorem dX7_wordOf_136 : decode cX7_wordOf 136 = .ok (.iconst 5, 1) := by decide +kernel
theorem dX7_wordOf_137 : decode cX7_wordOf 137 = .ok (.goto 5, 3) := by decide +kernel
theorem dX7_wordOf_140 : decode cX7_wordOf 140 = .ok (.bipush (-9), 2) := by decide +kernel
theorem dX7_wordOf_142 : decode cX7_wordOf 142 = .ok (.ireturn, 1) := by decide +kernel
theorem dX7_advances_0 : decode cX7_advances 0 = .ok (.aload_n 0, 1) := by decide +kernel
theorem dX7_advances_1 : decode cX7_advances 1 = .ok (.aload_n 0, 1) := by decide +kernel
theorem dX7_advances_2 : decode cX7_advances 2 = .ok (.getfield 70, 3) := by decide +kernel
theorem dX7_advances_5 : decode cX7_advances 5 = .ok (.invokevirtual 73, 3) := by decide +kernel
theorem dX7_advances_8 : decode cX7_advances 8 = .ok (.bipush 32, 2) := by decide +kernel
theorem dX7_advances_10 : decode cX7_advances 10 = .ok (.if_icmp .ne 16, 3) := by decide +kernel
theorem dX7_advances_13 : decode cX7_advances 13 = .ok (.aload_n 0, 1) := by decide +kernel
theorem dX7_advances_14 : decode cX7_advances 14 = .ok (.dup, 1) := by decide +kernel
theorem dX7_advances_15 : decode cX7_advances 15 = .ok (.getfield 70, 3) := by decide +kernel
theorem dX7_advances_18 : decode cX7_advances 18 = .ok (.iconst 1, 1) := by decide +kernel
theorem dX7_advances_19 : decode cX7_advances 19 = .ok (.iadd, 1) := by decide +kernel
theorem dX7_advances_20 : decode cX7_advances 20 = .ok (.putfield 70, 3) := by decide +kernel
theorem dX7_advances_23 : decode cX7_advances 23 = .ok (.goto (-23), 3) := by decide +kernel
theorem dX7_advances_26 : decode cX7_advances 26 = .ok (.aload_n 0, 1) := by decide +kernel
theorem dX7_advances_27 : decode cX7_advances 27 = .ok (.aload_n 0, 1) := by decide +kernel
theorem dX7_advances_28 : decode cX7_advances 28 = .ok (.getfield 70, 3) := by decide +kernel
theorem dX7_advances_31 : decode cX7_advances 31 = .ok (.putfield 77, 3) := by decide +kernel
theorem dX7_advances_34 : decode cX7_advances 34 = .ok (.aload_n 0, 1) := by decide +kernel
theorem dX7_advances_35 : decode cX7_advances 35 = .ok (.aload_n 0, 1) := by decide +kernel
theorem dX7_advances_36 : decode cX7_advances 36 = .ok (.getfield 70, 3) := by decide +kernel
theorem dX7_advances_39 : decode cX7_advances 39 = .ok (.invokevirtual 73, 3) := by decide +kernel
theorem dX7_advances_42 : decode cX7_advances 42 = .ok (.istore_n 1, 1) := by decide +kernel
theorem dX7_advances_43 : decode cX7_advances 43 = .ok (.iload_n 1, 1) := by decide +kernel
theorem dX7_advances_44 : decode cX7_advances 44 = .ok (.ifCond .ge 11, 3) := by decide +kernel
theorem dX7_advances_47 : decode cX7_advances 47 = .ok (.aload_n 0, 1) := by decide +kernel
theorem dX7_advances_48 : decode cX7_advances 48 = .ok (.iconst 0, 1) := by decide +kernel
theorem dX7_advances_49 : decode cX7_advances 49 = .ok (.putfield 80, 3) := by decide +kernel
theorem dX7_advances_52 : decode cX7_advances 52 = .ok (.goto 258, 3) := by decide +kernel
theorem dX7_advances_55 : decode cX7_advances 55 = .ok (.iload_n 1, 1) := by decide +kernel
theorem dX7_advances_56 : decode cX7_advances 56 = .ok (.bipush 97, 2) := by decide +kernel
theorem dX7_advances_58 : decode cX7_advances 58 = .ok (.bipush 122, 2) := by decide +kernel
theorem dX7_advances_60 : decode cX7_advances 60 = .ok (.invokestatic 51, 3) := by decide +kernel
theorem dX7_advances_63 : decode cX7_advances 63 = .ok (.ifCond .eq 96, 3) := by decide +kernel
theorem dX7_advances_66 : decode cX7_advances 66 = .ok (.lconst 0, 1) := by decide +kernel
theorem dX7_advances_67 : decode cX7_advances 67 = .ok (.lstore_n 2, 1) := by decide +kernel
theorem dX7_advances_68 : decode cX7_advances 68 = .ok (.aload_n 0, 1) := by decide +kernel
theorem dX7_advances_69 : decode cX7_advances 69 = .ok (.aload_n 0, 1) := by decide +kernel
theorem dX7_advances_70 : decode cX7_advances 70 = .ok (.getfield 70, 3) := by decide +kernel
theorem dX7_advances_73 : decode cX7_advances 73 = .ok (.invokevirtual 73, 3) := by decide +kernel
theorem dX7_advances_76 : decode cX7_advances 76 = .ok (.bipush 97, 2) := by decide +kernel
theorem dX7_advances_78 : decode cX7_advances 78 = .ok (.bipush 122, 2) := by decide +kernel
theorem dX7_advances_80 : decode cX7_advances 80 = .ok (.invokestatic 51, 3) := by decide +kernel
theorem dX7_advances_83 : decode cX7_advances 83 = .ok (.ifCond .eq 47, 3) := by decide +kernel
theorem dX7_advances_86 : decode cX7_advances 86 = .ok (.aload_n 0, 1) := by decide +kernel
theorem dX7_advances_87 : decode cX7_advances 87 = .ok (.getfield 70, 3) := by decide +kernel
theorem dX7_advances_90 : decode cX7_advances 90 = .ok (.aload_n 0, 1) := by decide +kernel
theorem dX7_advances_91 : decode cX7_advances 91 = .ok (.getfield 77, 3) := by decide +kernel
theorem dX7_advances_94 : decode cX7_advances 94 = .ok (.isub, 1) := by decide +kernel
theorem dX7_advances_95 : decode cX7_advances 95 = .ok (.bipush 6, 2) := by decide +kernel
theorem dX7_advances_97 : decode cX7_advances 97 = .ok (.if_icmp .ge 18, 3) := by decide +kernel
theorem dX7_advances_100 : decode cX7_advances 100 = .ok (.lload_n 2, 1) := by decide +kernel
theorem dX7_advances_101 : decode cX7_advances 101 = .ok (.aload_n 0, 1) := by decide +kernel
theorem dX7_advances_102 : decode cX7_advances 102 = .ok (.aload_n 0, 1) := by decide +kernel
theorem dX7_advances_103 : decode cX7_advances 103 = .ok (.getfield 70, 3) := by decide +kernel
theorem dX7_advances_106 : decode cX7_advances 106 = .ok (.invokevirtual 73, 3) := by decide +kernel
theorem dX7_advances_109 : decode cX7_advances 109 = .ok (.invokestatic 62, 3) := by decide +kernel
theorem dX7_advances_112 : decode cX7_advances 112 = .ok (.goto 4, 3) := by decide +kernel
theorem dX7_advances_115 : decode cX7_advances 115 = .ok (.lload_n 2, 1) := by decide +kernel
theorem dX7_advances_116 : decode cX7_advances 116 = .ok (.lstore_n 2, 1) := by decide +kernel
theorem dX7_advances_117 : decode cX7_advances 117 = .ok (.aload_n 0, 1) := by decide +kernel
theorem dX7_advances_118 : decode cX7_advances 118 = .ok (.dup, 1) := by decide +kernel
theorem dX7_advances_119 : decode cX7_advances 119 = .ok (.getfield 70, 3) := by decide +kernel
theorem dX7_advances_122 : decode cX7_advances 122 = .ok (.iconst 1, 1) := by decide +kernel
theorem dX7_advances_123 : decode cX7_advances 123 = .ok (.iadd, 1) := by decide +kernel
theorem dX7_advances_124 : decode cX7_advances 124 = .ok (.putfield 70, 3) := by decide +kernel
theorem dX7_advances_127 : decode cX7_advances 127 = .ok (.goto (-59), 3) := by decide +kernel
theorem dX7_advances_130 : decode cX7_advances 130 = .ok (.aload_n 0, 1) := by decide +kernel
theorem dX7_advances_131 : decode cX7_advances 131 = .ok (.lload_n 2, 1) := by decide +kernel
theorem dX7_advances_132 : decode cX7_advances 132 = .ok (.invokestatic 83, 3) := by decide +kernel
theorem dX7_advances_135 : decode cX7_advances 135 = .ok (.putfield 87, 3) := by decide +kernel
theorem dX7_advances_138 : decode cX7_advances 138 = .ok (.aload_n 0, 1) := by decide +kernel
theorem dX7_advances_139 : decode cX7_advances 139 = .ok (.aload_n 0, 1) := by decide +kernel
theorem dX7_advances_140 : decode cX7_advances 140 = .ok (.getfield 87, 3) := by decide +kernel
theorem dX7_advances_143 : decode cX7_advances 143 = .ok (.bipush (-9), 2) := by decide +kernel
theorem dX7_advances_145 : decode cX7_advances 145 = .ok (.if_icmp .ne 7, 3) := by decide +kernel
theorem dX7_advances_148 : decode cX7_advances 148 = .ok (.iconst 4, 1) := by decide +kernel
theorem dX7_advances_149 : decode cX7_advances 149 = .ok (.goto 4, 3) := by decide +kernel
theorem dX7_advances_152 : decode cX7_advances 152 = .ok (.iconst 1, 1) := by decide +kernel
theorem dX7_advances_153 : decode cX7_advances 153 = .ok (.putfield 80, 3) := by decide +kernel
theorem dX7_advances_156 : decode cX7_advances 156 = .ok (.goto 154, 3) := by decide +kernel
theorem dX7_advances_159 : decode cX7_advances 159 = .ok (.iload_n 1, 1) := by decide +kernel
theorem dX7_advances_160 : decode cX7_advances 160 = .ok (.bipush 48, 2) := by decide +kernel
theorem dX7_advances_162 : decode cX7_advances 162 = .ok (.bipush 57, 2) := by decide +kernel
theorem dX7_advances_164 : decode cX7_advances 164 = .ok (.invokestatic 51, 3) := by decide +kernel
theorem dX7_advances_167 : decode cX7_advances 167 = .ok (.ifCond .eq 118, 3) := by decide +kernel
theorem dX7_advances_170 : decode cX7_advances 170 = .ok (.aload_n 0, 1) := by decide +kernel
theorem dX7_advances_171 : decode cX7_advances 171 = .ok (.iconst 0, 1) := by decide +kernel
theorem dX7_advances_172 : decode cX7_advances 172 = .ok (.putfield 87, 3) := by decide +kernel
theorem dX7_advances_175 : decode cX7_advances 175 = .ok (.aload_n 0, 1) := by decide +kernel
theorem dX7_advances_176 : decode cX7_advances 176 = .ok (.aload_n 0, 1) := by decide +kernel
theorem dX7_advances_177 : decode cX7_advances 177 = .ok (.getfield 70, 3) := by decide +kernel
theorem dX7_advances_180 : decode cX7_advances 180 = .ok (.invokevirtual 73, 3) := by decide +kernel
theorem dX7_advances_183 : decode cX7_advances 183 = .ok (.bipush 48, 2) := by decide +kernel
theorem dX7_advances_185 : decode cX7_advances 185 = .ok (.bipush 57, 2) := by decide +kernel
theorem dX7_advances_187 : decode cX7_advances 187 = .ok (.invokestatic 51, 3) := by decide +kernel
theorem dX7_advances_190 : decode cX7_advances 190 = .ok (.ifCond .eq 55, 3) := by decide +kernel
theorem dX7_advances_193 : decode cX7_advances 193 = .ok (.aload_n 0, 1) := by decide +kernel
theorem dX7_advances_194 : decode cX7_advances 194 = .ok (.aload_n 0, 1) := by decide +kernel
theorem dX7_advances_195 : decode cX7_advances 195 = .ok (.getfield 87, 3) := by decide +kernel
theorem dX7_advances_198 : decode cX7_advances 198 = .ok (.bipush 100, 2) := by decide +kernel
theorem dX7_advances_200 : decode cX7_advances 200 = .ok (.if_icmp .le 10, 3) := by decide +kernel
theorem dX7_advances_203 : decode cX7_advances 203 = .ok (.aload_n 0, 1) := by decide +kernel
theorem dX7_advances_204 : decode cX7_advances 204 = .ok (.getfield 87, 3) := by decide +kernel
theorem dX7_advances_207 : decode cX7_advances 207 = .ok (.goto 22, 3) := by decide +kernel
theorem dX7_advances_210 : decode cX7_advances 210 = .ok (.bipush 10, 2) := by decide +kernel
theorem dX7_advances_212 : decode cX7_advances 212 = .ok (.aload_n 0, 1) := by decide +kernel
theorem dX7_advances_213 : decode cX7_advances 213 = .ok (.getfield 87, 3) := by decide +kernel
theorem dX7_advances_216 : decode cX7_advances 216 = .ok (.imul, 1) := by decide +kernel
theorem dX7_advances_217 : decode cX7_advances 217 = .ok (.aload_n 0, 1) := by decide +kernel
theorem dX7_advances_218 : decode cX7_advances 218 = .ok (.aload_n 0, 1) := by decide +kernel
theorem dX7_advances_219 : decode cX7_advances 219 = .ok (.getfield 70, 3) := by decide +kernel
theorem dX7_advances_222 : decode cX7_advances 222 = .ok (.invokevirtual 73, 3) := by decide +kernel
theorem dX7_advances_225 : decode cX7_advances 225 = .ok (.iadd, 1) := by decide +kernel
theorem dX7_advances_226 : decode cX7_advances 226 = .ok (.bipush 48, 2) := by decide +kernel
theorem dX7_advances_228 : decode cX7_advances 228 = .ok (.isub, 1) := by decide +kernel
theorem dX7_advances_229 : decode cX7_advances 229 = .ok (.putfield 87, 3) := by decide +kernel
theorem dX7_advances_232 : decode cX7_advances 232 = .ok (.aload_n 0, 1) := by decide +kernel
theorem dX7_advances_233 : decode cX7_advances 233 = .ok (.dup, 1) := by decide +kernel
theorem dX7_advances_234 : decode cX7_advances 234 = .ok (.getfield 70, 3) := by decide +kernel
theorem dX7_advances_237 : decode cX7_advances 237 = .ok (.iconst 1, 1) := by decide +kernel
theorem dX7_advances_238 : decode cX7_advances 238 = .ok (.iadd, 1) := by decide +kernel
theorem dX7_advances_239 : decode cX7_advances 239 = .ok (.putfield 70, 3) := by decide +kernel
theorem dX7_advances_242 : decode cX7_advances 242 = .ok (.goto (-67), 3) := by decide +kernel
theorem dX7_advances_245 : decode cX7_advances 245 = .ok (.aload_n 0, 1) := by decide +kernel
theorem dX7_advances_246 : decode cX7_advances 246 = .ok (.aload_n 0, 1) := by decide +kernel
theorem dX7_advances_247 : decode cX7_advances 247 = .ok (.getfield 87, 3) := by decide +kernel
theorem dX7_advances_250 : decode cX7_advances 250 = .ok (.bipush 100, 2) := by decide +kernel
theorem dX7_advances_252 : decode cX7_advances 252 = .ok (.if_icmp .gt 22, 3) := by decide +kernel
theorem dX7_advances_255 : decode cX7_advances 255 = .ok (.iload_n 1, 1) := by decide +kernel
theorem dX7_advances_256 : decode cX7_advances 256 = .ok (.bipush 48, 2) := by decide +kernel
theorem dX7_advances_258 : decode cX7_advances 258 = .ok (.if_icmp .ne 20, 3) := by decide +kernel
theorem dX7_advances_261 : decode cX7_advances 261 = .ok (.aload_n 0, 1) := by decide +kernel
theorem dX7_advances_262 : decode cX7_advances 262 = .ok (.getfield 70, 3) := by decide +kernel
theorem dX7_advances_265 : decode cX7_advances 265 = .ok (.aload_n 0, 1) := by decide +kernel
theorem dX7_advances_266 : decode cX7_advances 266 = .ok (.getfield 77, 3) := by decide +kernel
theorem dX7_advances_269 : decode cX7_advances 269 = .ok (.isub, 1) := by decide +kernel
theorem dX7_advances_270 : decode cX7_advances 270 = .ok (.iconst 1, 1) := by decide +kernel
theorem dX7_advances_271 : decode cX7_advances 271 = .ok (.if_icmp .le 7, 3) := by decide +kernel
theorem dX7_advances_274 : decode cX7_advances 274 = .ok (.iconst 4, 1) := by decide +kernel
theorem dX7_advances_275 : decode cX7_advances 275 = .ok (.goto 4, 3) := by decide +kernel
theorem dX7_advances_278 : decode cX7_advances 278 = .ok (.iconst 2, 1) := by decide +kernel
theorem dX7_advances_279 : decode cX7_advances 279 = .ok (.putfield 80, 3) := by decide +kernel
theorem dX7_advances_282 : decode cX7_advances 282 = .ok (.goto 28, 3) := by decide +kernel
theorem dX7_advances_285 : decode cX7_advances 285 = .ok (.aload_n 0, 1) := by decide +kernel
theorem dX7_advances_286 : decode cX7_advances 286 = .ok (.dup, 1) := by decide +kernel
theorem dX7_advances_287 : decode cX7_advances 287 = .ok (.getfield 70, 3) := by decide +kernel
theorem dX7_advances_290 : decode cX7_advances 290 = .ok (.iconst 1, 1) := by decide +kernel
theorem dX7_advances_291 : decode cX7_advances 291 = .ok (.iadd, 1) := by decide +kernel
theorem dX7_advances_292 : decode cX7_advances 292 = .ok (.putfield 70, 3) := by decide +kernel
theorem dX7_advances_295 : decode cX7_advances 295 = .ok (.aload_n 0, 1) := by decide +kernel
theorem dX7_advances_296 : decode cX7_advances 296 = .ok (.iload_n 1, 1) := by decide +kernel
theorem dX7_advances_297 : decode cX7_advances 297 = .ok (.bipush 59, 2) := by decide +kernel
theorem dX7_advances_299 : decode cX7_advances 299 = .ok (.if_icmp .ne 7, 3) := by decide +kernel
theorem dX7_advances_302 : decode cX7_advances 302 = .ok (.iconst 3, 1) := by decide +kernel
theorem dX7_advances_303 : decode cX7_advances 303 = .ok (.goto 4, 3) := by decide +kernel
theorem dX7_advances_306 : decode cX7_advances 306 = .ok (.iconst 4, 1) := by decide +kernel
theorem dX7_advances_307 : decode cX7_advances 307 = .ok (.putfield 80, 3) := by decide +kernel
theorem dX7_advances_310 : decode cX7_advances 310 = .ok (.return_, 1) := by decide +kernel
theorem dX7_isWell_0 : decode cX7_isWell 0 = .ok (.aload_n 0, 1) := by decide +kernel
theorem dX7_isWell_1 : decode cX7_isWell 1 = .ok (.getfield 90, 3) := by decide +kernel
theorem dX7_isWell_4 : decode cX7_isWell 4 = .ok (.ifCond .ge 7, 3) := by decide +kernel
theorem dX7_isWell_7 : decode cX7_isWell 7 = .ok (.iconst 1, 1) := by decide +kernel
theorem dX7_isWell_8 : decode cX7_isWell 8 = .ok (.goto 4, 3) := by decide +kernel
theorem dX7_isWell_11 : decode cX7_isWell 11 = .ok (.iconst 0, 1) := by decide +kernel
theorem dX7_isWell_12 : decode cX7_isWell 12 = .ok (.ireturn, 1) := by decide +kernel
theorem dX7_takes_0 : decode cX7_takes 0 = .ok (.aload_n 0, 1) := by decide +kernel
theorem dX7_takes_1 : decode cX7_takes 1 = .ok (.invokevirtual 93, 3) := by decide +kernel
theorem dX7_takes_4 : decode cX7_takes 4 = .ok (.ifCond .ne 5, 3) := by decide +kernel
theorem dX7_takes_7 : decode cX7_takes 7 = .ok (.iconst 0, 1) := by decide +kernel
theorem dX7_takes_8 : decode cX7_takes 8 = .ok (.ireturn, 1) := by decide +kernel
theorem dX7_takes_9 : decode cX7_takes 9 = .ok (.iload_n 1, 1) := by decide +kernel
theorem dX7_takes_10 : decode cX7_takes 10 = .ok (.ifCond .ne 13, 3) := by decide +kernel
theorem dX7_takes_13 : decode cX7_takes 13 = .ok (.aload_n 0, 1) := by decide +kernel
theorem dX7_takes_14 : decode cX7_takes 14 = .ok (.aload_n 0, 1) := by decide +kernel
theorem dX7_takes_15 : decode cX7_takes 15 = .ok (.getfield 77, 3) := by decide +kernel
theorem dX7_takes_18 : decode cX7_takes 18 = .ok (.putfield 90, 3) := by decide +kernel
theorem dX7_takes_21 : decode cX7_takes 21 = .ok (.iconst 0, 1) := by decide +kernel
theorem dX7_takes_22 : decode cX7_takes 22 = .ok (.ireturn, 1) := by decide +kernel
theorem dX7_takes_23 : decode cX7_takes 23 = .ok (.aload_n 0, 1) := by decide +kernel
theorem dX7_takes_24 : decode cX7_takes 24 = .ok (.getfield 87, 3) := by decide +kernel
theorem dX7_takes_27 : decode cX7_takes 27 = .ok (.istore_n 2, 1) := by decide +kernel
theorem dX7_takes_28 : decode cX7_takes 28 = .ok (.aload_n 0, 1) := by decide +kernel
theorem dX7_takes_29 : decode cX7_takes 29 = .ok (.invokevirtual 97, 3) := by decide +kernel
theorem dX7_takes_32 : decode cX7_takes 32 = .ok (.iload_n 2, 1) := by decide +kernel
theorem dX7_takes_33 : decode cX7_takes 33 = .ok (.ireturn, 1) := by decide +kernel
theorem dX7_number_0 : decode cX7_number 0 = .ok (.aload_n 0, 1) := by decide +kernel
theorem dX7_number_1 : decode cX7_number 1 = .ok (.aload_n 0, 1) := by decide +kernel
theorem dX7_number_2 : decode cX7_number 2 = .ok (.getfield 80, 3) := by decide +kernel
theorem dX7_number_5 : decode cX7_number 5 = .ok (.iconst 2, 1) := by decide +kernel
theorem dX7_number_6 : decode cX7_number 6 = .ok (.if_icmp .ne 19, 3) := by decide +kernel
theorem dX7_number_9 : decode cX7_number 9 = .ok (.aload_n 0, 1) := by decide +kernel
theorem dX7_number_10 : decode cX7_number 10 = .ok (.getfield 87, 3) := by decide +kernel
theorem dX7_number_13 : decode cX7_number 13 = .ok (.iload_n 1, 1) := by decide +kernel
theorem dX7_number_14 : decode cX7_number 14 = .ok (.iload_n 2, 1) := by decide +kernel
theorem dX7_number_15 : decode cX7_number 15 = .ok (.invokestatic 51, 3) := by decide +kernel
theorem dX7_number_18 : decode cX7_number 18 = .ok (.ifCond .eq 7, 3) := by decide +kernel
theorem dX7_number_21 : decode cX7_number 21 = .ok (.iconst 1, 1) := by decide +kernel
theorem dX7_number_22 : decode cX7_number 22 = .ok (.goto 4, 3) := by decide +kernel
theorem dX7_number_25 : decode cX7_number 25 = .ok (.iconst 0, 1) := by decide +kernel
theorem dX7_number_26 : decode cX7_number 26 = .ok (.invokevirtual 100, 3) := by decide +kernel
theorem dX7_number_29 : decode cX7_number 29 = .ok (.ireturn, 1) := by decide +kernel
theorem dX7_takesWord_0 : decode cX7_takesWord 0 = .ok (.aload_n 0, 1) := by decide +kernel
theorem dX7_takesWord_1 : decode cX7_takesWord 1 = .ok (.invokevirtual 93, 3) := by decide +kernel
theorem dX7_takesWord_4 : decode cX7_takesWord 4 = .ok (.ifCond .eq 23, 3) := by decide +kernel
theorem dX7_takesWord_7 : decode cX7_takesWord 7 = .ok (.aload_n 0, 1) := by decide +kernel
theorem dX7_takesWord_8 : decode cX7_takesWord 8 = .ok (.getfield 80, 3) := by decide +kernel
theorem dX7_takesWord_11 : decode cX7_takesWord 11 = .ok (.iconst 1, 1) := by decide +kernel
theorem dX7_takesWord_12 : decode cX7_takesWord 12 = .ok (.if_icmp .ne 15, 3) := by decide +kernel
theorem dX7_takesWord_15 : decode cX7_takesWord 15 = .ok (.aload_n 0, 1) := by decide +kernel
theorem dX7_takesWord_16 : decode cX7_takesWord 16 = .ok (.getfield 87, 3) := by decide +kernel
theorem dX7_takesWord_19 : decode cX7_takesWord 19 = .ok (.iload_n 1, 1) := by decide +kernel
theorem dX7_takesWord_20 : decode cX7_takesWord 20 = .ok (.if_icmp .ne 7, 3) := by decide +kernel
theorem dX7_takesWord_23 : decode cX7_takesWord 23 = .ok (.iconst 1, 1) := by decide +kernel
theorem dX7_takesWord_24 : decode cX7_takesWord 24 = .ok (.goto 4, 3) := by decide +kernel
theorem dX7_takesWord_27 : decode cX7_takesWord 27 = .ok (.iconst 0, 1) := by decide +kernel
theorem dX7_takesWord_28 : decode cX7_takesWord 28 = .ok (.istore_n 2, 1) := by decide +kernel
theorem dX7_takesWord_29 : decode cX7_takesWord 29 = .ok (.iload_n 2, 1) := by decide +kernel
theorem dX7_takesWord_30 : decode cX7_takesWord 30 = .ok (.ifCond .eq 7, 3) := by decide +kernel
theorem dX7_takesWord_33 : decode cX7_takesWord 33 = .ok (.aload_n 0, 1) := by decide +kernel
theorem dX7_takesWord_34 : decode cX7_takesWord 34 = .ok (.invokevirtual 97, 3) := by decide +kernel
theorem dX7_takesWord_37 : decode cX7_takesWord 37 = .ok (.iload_n 2, 1) := by decide +kernel
theorem dX7_takesWord_38 : decode cX7_takesWord 38 = .ok (.ireturn, 1) := by decide +kernel
theorem dX7_drafts_0 : decode cX7_drafts 0 = .ok (.iconst 0, 1) := by decide +kernel
theorem dX7_drafts_1 : decode cX7_drafts 1 = .ok (.istore_n 1, 1) := by decide +kernel
theorem dX7_drafts_2 : decode cX7_drafts 2 = .ok (.iload_n 1, 1) := by decide +kernel
theorem dX7_drafts_3 : decode cX7_drafts 3 = .ok (.bipush 42, 2) := by decide +kernel
theorem dX7_drafts_5 : decode cX7_drafts 5 = .ok (.if_icmp .ge 29, 3) := by decide +kernel
theorem dX7_drafts_8 : decode cX7_drafts 8 = .ok (.aload_n 0, 1) := by decide +kernel
theorem dX7_drafts_9 : decode cX7_drafts 9 = .ok (.getfield 13, 3) := by decide +kernel
theorem dX7_drafts_12 : decode cX7_drafts 12 = .ok (.bipush 42, 2) := by decide +kernel
theorem dX7_drafts_14 : decode cX7_drafts 14 = .ok (.iload_n 1, 1) := by decide +kernel
theorem dX7_drafts_15 : decode cX7_drafts 15 = .ok (.iadd, 1) := by decide +kernel
theorem dX7_drafts_16 : decode cX7_drafts 16 = .ok (.iload_n 1, 1) := by decide +kernel
theorem dX7_drafts_17 : decode cX7_drafts 17 = .ok (.bipush 38, 2) := by decide +kernel
theorem dX7_drafts_19 : decode cX7_drafts 19 = .ok (.if_icmp .ne 7, 3) := by decide +kernel
theorem dX7_drafts_22 : decode cX7_drafts 22 = .ok (.iconst 1, 1) := by decide +kernel
theorem dX7_drafts_23 : decode cX7_drafts 23 = .ok (.goto 4, 3) := by decide +kernel
theorem dX7_drafts_26 : decode cX7_drafts 26 = .ok (.iconst 0, 1) := by decide +kernel
theorem dX7_drafts_27 : decode cX7_drafts 27 = .ok (.iastore, 1) := by decide +kernel
theorem dX7_drafts_28 : decode cX7_drafts 28 = .ok (.iinc 1 1, 3) := by decide +kernel
theorem dX7_drafts_31 : decode cX7_drafts 31 = .ok (.goto (-29), 3) := by decide +kernel
theorem dX7_drafts_34 : decode cX7_drafts 34 = .ok (.return_, 1) := by decide +kernel
theorem dX7_readsItem_0 : decode cX7_readsItem 0 = .ok (.iload_n 1, 1) := by decide +kernel
theorem dX7_readsItem_1 : decode cX7_readsItem 1 = .ok (.ifCond .ne 73, 3) := by decide +kernel
theorem dX7_readsItem_4 : decode cX7_readsItem 4 = .ok (.bipush 42, 2) := by decide +kernel
theorem dX7_readsItem_6 : decode cX7_readsItem 6 = .ok (.iconst 3, 1) := by decide +kernel
theorem dX7_readsItem_7 : decode cX7_readsItem 7 = .ok (.aload_n 0, 1) := by decide +kernel
theorem dX7_readsItem_8 : decode cX7_readsItem 8 = .ok (.getfield 13, 3) := by decide +kernel
