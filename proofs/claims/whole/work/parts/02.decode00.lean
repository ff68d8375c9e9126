theorem dX0_init_0 : decode cX0_init 0 = .ok (.aload_n 0, 1) := by decide +kernel
theorem dX0_init_1 : decode cX0_init 1 = .ok (.invokespecial 3, 3) := by decide +kernel
theorem dX0_init_4 : decode cX0_init 4 = .ok (.aload_n 0, 1) := by decide +kernel
theorem dX0_init_5 : decode cX0_init 5 = .ok (.bipush 8, 2) := by decide +kernel
theorem dX0_init_7 : decode cX0_init 7 = .ok (.newarray .int, 2) := by decide +kernel
theorem dX0_init_9 : decode cX0_init 9 = .ok (.putfield 9, 3) := by decide +kernel
theorem dX0_init_12 : decode cX0_init 12 = .ok (.aload_n 0, 1) := by decide +kernel
theorem dX0_init_13 : decode cX0_init 13 = .ok (.bipush 8, 2) := by decide +kernel
theorem dX0_init_15 : decode cX0_init 15 = .ok (.newarray .int, 2) := by decide +kernel
theorem dX0_init_17 : decode cX0_init 17 = .ok (.putfield 15, 3) := by decide +kernel
theorem dX0_init_20 : decode cX0_init 20 = .ok (.aload_n 0, 1) := by decide +kernel
theorem dX0_init_21 : decode cX0_init 21 = .ok (.bipush 8, 2) := by decide +kernel
theorem dX0_init_23 : decode cX0_init 23 = .ok (.newarray .int, 2) := by decide +kernel
theorem dX0_init_25 : decode cX0_init 25 = .ok (.putfield 18, 3) := by decide +kernel
theorem dX0_init_28 : decode cX0_init 28 = .ok (.return_, 1) := by decide +kernel
theorem dX0_begin_0 : decode cX0_begin 0 = .ok (.aload_n 0, 1) := by decide +kernel
theorem dX0_begin_1 : decode cX0_begin 1 = .ok (.iload_n 2, 1) := by decide +kernel
theorem dX0_begin_2 : decode cX0_begin 2 = .ok (.putfield 21, 3) := by decide +kernel
theorem dX0_begin_5 : decode cX0_begin 5 = .ok (.aload_n 0, 1) := by decide +kernel
theorem dX0_begin_6 : decode cX0_begin 6 = .ok (.bipush 100, 2) := by decide +kernel
theorem dX0_begin_8 : decode cX0_begin 8 = .ok (.putfield 25, 3) := by decide +kernel
theorem dX0_begin_11 : decode cX0_begin 11 = .ok (.iconst 0, 1) := by decide +kernel
theorem dX0_begin_12 : decode cX0_begin 12 = .ok (.istore_n 3, 1) := by decide +kernel
theorem dX0_begin_13 : decode cX0_begin 13 = .ok (.iload_n 3, 1) := by decide +kernel
theorem dX0_begin_14 : decode cX0_begin 14 = .ok (.bipush 8, 2) := by decide +kernel
theorem dX0_begin_16 : decode cX0_begin 16 = .ok (.if_icmp .ge 35, 3) := by decide +kernel
theorem dX0_begin_19 : decode cX0_begin 19 = .ok (.aload_n 0, 1) := by decide +kernel
theorem dX0_begin_20 : decode cX0_begin 20 = .ok (.getfield 9, 3) := by decide +kernel
theorem dX0_begin_23 : decode cX0_begin 23 = .ok (.iload_n 3, 1) := by decide +kernel
theorem dX0_begin_24 : decode cX0_begin 24 = .ok (.aload_n 1, 1) := by decide +kernel
theorem dX0_begin_25 : decode cX0_begin 25 = .ok (.getfield 28, 3) := by decide +kernel
theorem dX0_begin_28 : decode cX0_begin 28 = .ok (.iload_n 3, 1) := by decide +kernel
theorem dX0_begin_29 : decode cX0_begin 29 = .ok (.iaload, 1) := by decide +kernel
theorem dX0_begin_30 : decode cX0_begin 30 = .ok (.iastore, 1) := by decide +kernel
theorem dX0_begin_31 : decode cX0_begin 31 = .ok (.aload_n 0, 1) := by decide +kernel
theorem dX0_begin_32 : decode cX0_begin 32 = .ok (.getfield 15, 3) := by decide +kernel
theorem dX0_begin_35 : decode cX0_begin 35 = .ok (.iload_n 3, 1) := by decide +kernel
theorem dX0_begin_36 : decode cX0_begin 36 = .ok (.iconst 0, 1) := by decide +kernel
theorem dX0_begin_37 : decode cX0_begin 37 = .ok (.iastore, 1) := by decide +kernel
theorem dX0_begin_38 : decode cX0_begin 38 = .ok (.aload_n 0, 1) := by decide +kernel
theorem dX0_begin_39 : decode cX0_begin 39 = .ok (.getfield 18, 3) := by decide +kernel
theorem dX0_begin_42 : decode cX0_begin 42 = .ok (.iload_n 3, 1) := by decide +kernel
theorem dX0_begin_43 : decode cX0_begin 43 = .ok (.iconst 0, 1) := by decide +kernel
theorem dX0_begin_44 : decode cX0_begin 44 = .ok (.iastore, 1) := by decide +kernel
theorem dX0_begin_45 : decode cX0_begin 45 = .ok (.iinc 3 1, 3) := by decide +kernel
theorem dX0_begin_48 : decode cX0_begin 48 = .ok (.goto (-35), 3) := by decide +kernel
theorem dX0_begin_51 : decode cX0_begin 51 = .ok (.return_, 1) := by decide +kernel
theorem dX0_copyOf_0 : decode cX0_copyOf 0 = .ok (.aload_n 0, 1) := by decide +kernel
theorem dX0_copyOf_1 : decode cX0_copyOf 1 = .ok (.aload_n 1, 1) := by decide +kernel
theorem dX0_copyOf_2 : decode cX0_copyOf 2 = .ok (.getfield 21, 3) := by decide +kernel
theorem dX0_copyOf_5 : decode cX0_copyOf 5 = .ok (.putfield 21, 3) := by decide +kernel
theorem dX0_copyOf_8 : decode cX0_copyOf 8 = .ok (.aload_n 0, 1) := by decide +kernel
theorem dX0_copyOf_9 : decode cX0_copyOf 9 = .ok (.aload_n 1, 1) := by decide +kernel
theorem dX0_copyOf_10 : decode cX0_copyOf 10 = .ok (.getfield 25, 3) := by decide +kernel
theorem dX0_copyOf_13 : decode cX0_copyOf 13 = .ok (.putfield 25, 3) := by decide +kernel
theorem dX0_copyOf_16 : decode cX0_copyOf 16 = .ok (.aload_n 1, 1) := by decide +kernel
theorem dX0_copyOf_17 : decode cX0_copyOf 17 = .ok (.getfield 9, 3) := by decide +kernel
theorem dX0_copyOf_20 : decode cX0_copyOf 20 = .ok (.iconst 0, 1) := by decide +kernel
theorem dX0_copyOf_21 : decode cX0_copyOf 21 = .ok (.aload_n 0, 1) := by decide +kernel
theorem dX0_copyOf_22 : decode cX0_copyOf 22 = .ok (.getfield 9, 3) := by decide +kernel
theorem dX0_copyOf_25 : decode cX0_copyOf 25 = .ok (.iconst 0, 1) := by decide +kernel
theorem dX0_copyOf_26 : decode cX0_copyOf 26 = .ok (.bipush 8, 2) := by decide +kernel
theorem dX0_copyOf_28 : decode cX0_copyOf 28 = .ok (.invokestatic 31, 3) := by decide +kernel
theorem dX0_copyOf_31 : decode cX0_copyOf 31 = .ok (.aload_n 1, 1) := by decide +kernel
theorem dX0_copyOf_32 : decode cX0_copyOf 32 = .ok (.getfield 15, 3) := by decide +kernel
theorem dX0_copyOf_35 : decode cX0_copyOf 35 = .ok (.iconst 0, 1) := by decide +kernel
theorem dX0_copyOf_36 : decode cX0_copyOf 36 = .ok (.aload_n 0, 1) := by decide +kernel
theorem dX0_copyOf_37 : decode cX0_copyOf 37 = .ok (.getfield 15, 3) := by decide +kernel
theorem dX0_copyOf_40 : decode cX0_copyOf 40 = .ok (.iconst 0, 1) := by decide +kernel
theorem dX0_copyOf_41 : decode cX0_copyOf 41 = .ok (.bipush 8, 2) := by decide +kernel
theorem dX0_copyOf_43 : decode cX0_copyOf 43 = .ok (.invokestatic 31, 3) := by decide +kernel
theorem dX0_copyOf_46 : decode cX0_copyOf 46 = .ok (.aload_n 1, 1) := by decide +kernel
theorem dX0_copyOf_47 : decode cX0_copyOf 47 = .ok (.getfield 18, 3) := by decide +kernel
theorem dX0_copyOf_50 : decode cX0_copyOf 50 = .ok (.iconst 0, 1) := by decide +kernel
theorem dX0_copyOf_51 : decode cX0_copyOf 51 = .ok (.aload_n 0, 1) := by decide +kernel
theorem dX0_copyOf_52 : decode cX0_copyOf 52 = .ok (.getfield 18, 3) := by decide +kernel
theorem dX0_copyOf_55 : decode cX0_copyOf 55 = .ok (.iconst 0, 1) := by decide +kernel
theorem dX0_copyOf_56 : decode cX0_copyOf 56 = .ok (.bipush 8, 2) := by decide +kernel
theorem dX0_copyOf_58 : decode cX0_copyOf 58 = .ok (.invokestatic 31, 3) := by decide +kernel
theorem dX0_copyOf_61 : decode cX0_copyOf 61 = .ok (.return_, 1) := by decide +kernel
theorem dX0_sumOf_0 : decode cX0_sumOf 0 = .ok (.iconst 0, 1) := by decide +kernel
theorem dX0_sumOf_1 : decode cX0_sumOf 1 = .ok (.istore_n 2, 1) := by decide +kernel
theorem dX0_sumOf_2 : decode cX0_sumOf 2 = .ok (.iconst 0, 1) := by decide +kernel
theorem dX0_sumOf_3 : decode cX0_sumOf 3 = .ok (.istore_n 3, 1) := by decide +kernel
theorem dX0_sumOf_4 : decode cX0_sumOf 4 = .ok (.iload_n 3, 1) := by decide +kernel
theorem dX0_sumOf_5 : decode cX0_sumOf 5 = .ok (.iload_n 1, 1) := by decide +kernel
theorem dX0_sumOf_6 : decode cX0_sumOf 6 = .ok (.if_icmp .ge 21, 3) := by decide +kernel
theorem dX0_sumOf_9 : decode cX0_sumOf 9 = .ok (.iload_n 3, 1) := by decide +kernel
theorem dX0_sumOf_10 : decode cX0_sumOf 10 = .ok (.aload_n 0, 1) := by decide +kernel
theorem dX0_sumOf_11 : decode cX0_sumOf 11 = .ok (.arraylength, 1) := by decide +kernel
theorem dX0_sumOf_12 : decode cX0_sumOf 12 = .ok (.if_icmp .ge 15, 3) := by decide +kernel
theorem dX0_sumOf_15 : decode cX0_sumOf 15 = .ok (.iload_n 2, 1) := by decide +kernel
theorem dX0_sumOf_16 : decode cX0_sumOf 16 = .ok (.aload_n 0, 1) := by decide +kernel
theorem dX0_sumOf_17 : decode cX0_sumOf 17 = .ok (.iload_n 3, 1) := by decide +kernel
theorem dX0_sumOf_18 : decode cX0_sumOf 18 = .ok (.iaload, 1) := by decide +kernel
theorem dX0_sumOf_19 : decode cX0_sumOf 19 = .ok (.iadd, 1) := by decide +kernel
theorem dX0_sumOf_20 : decode cX0_sumOf 20 = .ok (.istore_n 2, 1) := by decide +kernel
theorem dX0_sumOf_21 : decode cX0_sumOf 21 = .ok (.iinc 3 1, 3) := by decide +kernel
theorem dX0_sumOf_24 : decode cX0_sumOf 24 = .ok (.goto (-20), 3) := by decide +kernel
theorem dX0_sumOf_27 : decode cX0_sumOf 27 = .ok (.iload_n 2, 1) := by decide +kernel
theorem dX0_sumOf_28 : decode cX0_sumOf 28 = .ok (.ireturn, 1) := by decide +kernel
theorem dX0_joysOf_0 : decode cX0_joysOf 0 = .ok (.aload_n 1, 1) := by decide +kernel
theorem dX0_joysOf_1 : decode cX0_joysOf 1 = .ok (.getfield 37, 3) := by decide +kernel
theorem dX0_joysOf_4 : decode cX0_joysOf 4 = .ok (.iload_n 3, 1) := by decide +kernel
theorem dX0_joysOf_5 : decode cX0_joysOf 5 = .ok (.iaload, 1) := by decide +kernel
theorem dX0_joysOf_6 : decode cX0_joysOf 6 = .ok (.aload_n 0, 1) := by decide +kernel
theorem dX0_joysOf_7 : decode cX0_joysOf 7 = .ok (.getfield 9, 3) := by decide +kernel
theorem dX0_joysOf_10 : decode cX0_joysOf 10 = .ok (.iload_n 2, 1) := by decide +kernel
theorem dX0_joysOf_11 : decode cX0_joysOf 11 = .ok (.iaload, 1) := by decide +kernel
theorem dX0_joysOf_12 : decode cX0_joysOf 12 = .ok (.imul, 1) := by decide +kernel
theorem dX0_joysOf_13 : decode cX0_joysOf 13 = .ok (.bipush 10, 2) := by decide +kernel
theorem dX0_joysOf_15 : decode cX0_joysOf 15 = .ok (.idiv, 1) := by decide +kernel
theorem dX0_joysOf_16 : decode cX0_joysOf 16 = .ok (.ireturn, 1) := by decide +kernel
theorem dX0_starsFor_0 : decode cX0_starsFor 0 = .ok (.aload_n 1, 1) := by decide +kernel
theorem dX0_starsFor_1 : decode cX0_starsFor 1 = .ok (.iload_n 2, 1) := by decide +kernel
theorem dX0_starsFor_2 : decode cX0_starsFor 2 = .ok (.iload_n 3, 1) := by decide +kernel
theorem dX0_starsFor_3 : decode cX0_starsFor 3 = .ok (.invokevirtual 40, 3) := by decide +kernel
theorem dX0_starsFor_6 : decode cX0_starsFor 6 = .ok (.aload_n 1, 1) := by decide +kernel
theorem dX0_starsFor_7 : decode cX0_starsFor 7 = .ok (.iload_n 3, 1) := by decide +kernel
theorem dX0_starsFor_8 : decode cX0_starsFor 8 = .ok (.aload_n 0, 1) := by decide +kernel
theorem dX0_starsFor_9 : decode cX0_starsFor 9 = .ok (.getfield 21, 3) := by decide +kernel
theorem dX0_starsFor_12 : decode cX0_starsFor 12 = .ok (.invokevirtual 44, 3) := by decide +kernel
theorem dX0_starsFor_15 : decode cX0_starsFor 15 = .ok (.imul, 1) := by decide +kernel
theorem dX0_starsFor_16 : decode cX0_starsFor 16 = .ok (.aload_n 1, 1) := by decide +kernel
theorem dX0_starsFor_17 : decode cX0_starsFor 17 = .ok (.getfield 47, 3) := by decide +kernel
theorem dX0_starsFor_20 : decode cX0_starsFor 20 = .ok (.iload_n 2, 1) := by decide +kernel
theorem dX0_starsFor_21 : decode cX0_starsFor 21 = .ok (.iaload, 1) := by decide +kernel
theorem dX0_starsFor_22 : decode cX0_starsFor 22 = .ok (.imul, 1) := by decide +kernel
theorem dX0_starsFor_23 : decode cX0_starsFor 23 = .ok (.aload_n 0, 1) := by decide +kernel
theorem dX0_starsFor_24 : decode cX0_starsFor 24 = .ok (.getfield 25, 3) := by decide +kernel
theorem dX0_starsFor_27 : decode cX0_starsFor 27 = .ok (.imul, 1) := by decide +kernel
theorem dX0_starsFor_28 : decode cX0_starsFor 28 = .ok (.bipush 100, 2) := by decide +kernel
theorem dX0_starsFor_30 : decode cX0_starsFor 30 = .ok (.idiv, 1) := by decide +kernel
theorem dX0_starsFor_31 : decode cX0_starsFor 31 = .ok (.ireturn, 1) := by decide +kernel
theorem dX0_wantOf_0 : decode cX0_wantOf 0 = .ok (.aload_n 0, 1) := by decide +kernel
theorem dX0_wantOf_1 : decode cX0_wantOf 1 = .ok (.aload_n 1, 1) := by decide +kernel
theorem dX0_wantOf_2 : decode cX0_wantOf 2 = .ok (.iload_n 2, 1) := by decide +kernel
theorem dX0_wantOf_3 : decode cX0_wantOf 3 = .ok (.iload_n 3, 1) := by decide +kernel
theorem dX0_wantOf_4 : decode cX0_wantOf 4 = .ok (.invokevirtual 50, 3) := by decide +kernel
theorem dX0_wantOf_7 : decode cX0_wantOf 7 = .ok (.istore 4, 2) := by decide +kernel
theorem dX0_wantOf_9 : decode cX0_wantOf 9 = .ok (.aload_n 1, 1) := by decide +kernel
theorem dX0_wantOf_10 : decode cX0_wantOf 10 = .ok (.getfield 54, 3) := by decide +kernel
theorem dX0_wantOf_13 : decode cX0_wantOf 13 = .ok (.ifCond .eq 16, 3) := by decide +kernel
theorem dX0_wantOf_16 : decode cX0_wantOf 16 = .ok (.iload 4, 2) := by decide +kernel
theorem dX0_wantOf_18 : decode cX0_wantOf 18 = .ok (.aload_n 0, 1) := by decide +kernel
theorem dX0_wantOf_19 : decode cX0_wantOf 19 = .ok (.aload_n 1, 1) := by decide +kernel
theorem dX0_wantOf_20 : decode cX0_wantOf 20 = .ok (.iload_n 2, 1) := by decide +kernel
theorem dX0_wantOf_21 : decode cX0_wantOf 21 = .ok (.iload_n 3, 1) := by decide +kernel
theorem dX0_wantOf_22 : decode cX0_wantOf 22 = .ok (.invokevirtual 58, 3) := by decide +kernel
theorem dX0_wantOf_25 : decode cX0_wantOf 25 = .ok (.iadd, 1) := by decide +kernel
theorem dX0_wantOf_26 : decode cX0_wantOf 26 = .ok (.goto 5, 3) := by decide +kernel
theorem dX0_wantOf_29 : decode cX0_wantOf 29 = .ok (.iload 4, 2) := by decide +kernel
theorem dX0_wantOf_31 : decode cX0_wantOf 31 = .ok (.ireturn, 1) := by decide +kernel
theorem dX0_choiceOf_0 : decode cX0_choiceOf 0 = .ok (.bipush (-9), 2) := by decide +kernel
theorem dX0_choiceOf_2 : decode cX0_choiceOf 2 = .ok (.istore 4, 2) := by decide +kernel
theorem dX0_choiceOf_4 : decode cX0_choiceOf 4 = .ok (.iload_n 3, 1) := by decide +kernel
theorem dX0_choiceOf_5 : decode cX0_choiceOf 5 = .ok (.iconst 1, 1) := by decide +kernel
theorem dX0_choiceOf_6 : decode cX0_choiceOf 6 = .ok (.isub, 1) := by decide +kernel
theorem dX0_choiceOf_7 : decode cX0_choiceOf 7 = .ok (.istore 5, 2) := by decide +kernel
theorem dX0_choiceOf_9 : decode cX0_choiceOf 9 = .ok (.iconst 0, 1) := by decide +kernel
theorem dX0_choiceOf_10 : decode cX0_choiceOf 10 = .ok (.istore 6, 2) := by decide +kernel
theorem dX0_choiceOf_12 : decode cX0_choiceOf 12 = .ok (.iload 6, 2) := by decide +kernel
theorem dX0_choiceOf_14 : decode cX0_choiceOf 14 = .ok (.aload_n 1, 1) := by decide +kernel
theorem dX0_choiceOf_15 : decode cX0_choiceOf 15 = .ok (.getfield 61, 3) := by decide +kernel
theorem dX0_choiceOf_18 : decode cX0_choiceOf 18 = .ok (.if_icmp .ge 34, 3) := by decide +kernel
theorem dX0_choiceOf_21 : decode cX0_choiceOf 21 = .ok (.aload_n 0, 1) := by decide +kernel
theorem dX0_choiceOf_22 : decode cX0_choiceOf 22 = .ok (.aload_n 1, 1) := by decide +kernel
theorem dX0_choiceOf_23 : decode cX0_choiceOf 23 = .ok (.iload_n 2, 1) := by decide +kernel
theorem dX0_choiceOf_24 : decode cX0_choiceOf 24 = .ok (.iload 6, 2) := by decide +kernel
theorem dX0_choiceOf_26 : decode cX0_choiceOf 26 = .ok (.invokevirtual 64, 3) := by decide +kernel
theorem dX0_choiceOf_29 : decode cX0_choiceOf 29 = .ok (.istore 7, 2) := by decide +kernel
theorem dX0_choiceOf_31 : decode cX0_choiceOf 31 = .ok (.iload 7, 2) := by decide +kernel
theorem dX0_choiceOf_33 : decode cX0_choiceOf 33 = .ok (.iload 5, 2) := by decide +kernel
theorem dX0_choiceOf_35 : decode cX0_choiceOf 35 = .ok (.if_icmp .le 11, 3) := by decide +kernel
theorem dX0_choiceOf_38 : decode cX0_choiceOf 38 = .ok (.iload 6, 2) := by decide +kernel
theorem dX0_choiceOf_40 : decode cX0_choiceOf 40 = .ok (.istore 4, 2) := by decide +kernel
theorem dX0_choiceOf_42 : decode cX0_choiceOf 42 = .ok (.iload 7, 2) := by decide +kernel
theorem dX0_choiceOf_44 : decode cX0_choiceOf 44 = .ok (.istore 5, 2) := by decide +kernel
theorem dX0_choiceOf_46 : decode cX0_choiceOf 46 = .ok (.iinc 6 1, 3) := by decide +kernel
theorem dX0_choiceOf_49 : decode cX0_choiceOf 49 = .ok (.goto (-37), 3) := by decide +kernel
theorem dX0_choiceOf_52 : decode cX0_choiceOf 52 = .ok (.iload 4, 2) := by decide +kernel
theorem dX0_choiceOf_54 : decode cX0_choiceOf 54 = .ok (.ireturn, 1) := by decide +kernel
theorem dX0_pass_0 : decode cX0_pass 0 = .ok (.iconst 0, 1) := by decide +kernel
theorem dX0_pass_1 : decode cX0_pass 1 = .ok (.istore_n 3, 1) := by decide +kernel
theorem dX0_pass_2 : decode cX0_pass 2 = .ok (.iconst 0, 1) := by decide +kernel
theorem dX0_pass_3 : decode cX0_pass 3 = .ok (.istore 4, 2) := by decide +kernel
theorem dX0_pass_5 : decode cX0_pass 5 = .ok (.iconst 0, 1) := by decide +kernel
theorem dX0_pass_6 : decode cX0_pass 6 = .ok (.istore 5, 2) := by decide +kernel
theorem dX0_pass_8 : decode cX0_pass 8 = .ok (.iload 5, 2) := by decide +kernel
theorem dX0_pass_10 : decode cX0_pass 10 = .ok (.aload_n 1, 1) := by decide +kernel
theorem dX0_pass_11 : decode cX0_pass 11 = .ok (.getfield 67, 3) := by decide +kernel
theorem dX0_pass_14 : decode cX0_pass 14 = .ok (.if_icmp .ge 104, 3) := by decide +kernel
theorem dX0_pass_17 : decode cX0_pass 17 = .ok (.aload_n 0, 1) := by decide +kernel
theorem dX0_pass_18 : decode cX0_pass 18 = .ok (.aload_n 1, 1) := by decide +kernel
theorem dX0_pass_19 : decode cX0_pass 19 = .ok (.iload 5, 2) := by decide +kernel
theorem dX0_pass_21 : decode cX0_pass 21 = .ok (.aload_n 2, 1) := by decide +kernel
theorem dX0_pass_22 : decode cX0_pass 22 = .ok (.iconst 0, 1) := by decide +kernel
theorem dX0_pass_23 : decode cX0_pass 23 = .ok (.iaload, 1) := by decide +kernel
theorem dX0_pass_24 : decode cX0_pass 24 = .ok (.invokevirtual 70, 3) := by decide +kernel
theorem dX0_pass_27 : decode cX0_pass 27 = .ok (.istore 6, 2) := by decide +kernel
theorem dX0_pass_29 : decode cX0_pass 29 = .ok (.iload 6, 2) := by decide +kernel
theorem dX0_pass_31 : decode cX0_pass 31 = .ok (.ifCond .lt 81, 3) := by decide +kernel
theorem dX0_pass_34 : decode cX0_pass 34 = .ok (.aload_n 1, 1) := by decide +kernel
theorem dX0_pass_35 : decode cX0_pass 35 = .ok (.iload 5, 2) := by decide +kernel
theorem dX0_pass_37 : decode cX0_pass 37 = .ok (.iload 6, 2) := by decide +kernel
theorem dX0_pass_39 : decode cX0_pass 39 = .ok (.invokevirtual 40, 3) := by decide +kernel
theorem dX0_pass_42 : decode cX0_pass 42 = .ok (.istore 7, 2) := by decide +kernel
theorem dX0_pass_44 : decode cX0_pass 44 = .ok (.iload 7, 2) := by decide +kernel
theorem dX0_pass_46 : decode cX0_pass 46 = .ok (.aload_n 1, 1) := by decide +kernel
theorem dX0_pass_47 : decode cX0_pass 47 = .ok (.iload 6, 2) := by decide +kernel
theorem dX0_pass_49 : decode cX0_pass 49 = .ok (.aload_n 0, 1) := by decide +kernel
theorem dX0_pass_50 : decode cX0_pass 50 = .ok (.getfield 21, 3) := by decide +kernel
theorem dX0_pass_53 : decode cX0_pass 53 = .ok (.invokevirtual 44, 3) := by decide +kernel
theorem dX0_pass_56 : decode cX0_pass 56 = .ok (.imul, 1) := by decide +kernel
theorem dX0_pass_57 : decode cX0_pass 57 = .ok (.istore 8, 2) := by decide +kernel
theorem dX0_pass_59 : decode cX0_pass 59 = .ok (.aload_n 0, 1) := by decide +kernel
theorem dX0_pass_60 : decode cX0_pass 60 = .ok (.getfield 9, 3) := by decide +kernel
theorem dX0_pass_63 : decode cX0_pass 63 = .ok (.iload 5, 2) := by decide +kernel
theorem dX0_pass_65 : decode cX0_pass 65 = .ok (.aload_n 0, 1) := by decide +kernel
theorem dX0_pass_66 : decode cX0_pass 66 = .ok (.aload_n 1, 1) := by decide +kernel
theorem dX0_pass_67 : decode cX0_pass 67 = .ok (.aload_n 2, 1) := by decide +kernel
theorem dX0_pass_68 : decode cX0_pass 68 = .ok (.iload 5, 2) := by decide +kernel
theorem dX0_pass_70 : decode cX0_pass 70 = .ok (.iload 6, 2) := by decide +kernel
theorem dX0_pass_72 : decode cX0_pass 72 = .ok (.invokevirtual 73, 3) := by decide +kernel
theorem dX0_pass_75 : decode cX0_pass 75 = .ok (.iastore, 1) := by decide +kernel
theorem dX0_pass_76 : decode cX0_pass 76 = .ok (.aload_n 0, 1) := by decide +kernel
theorem dX0_pass_77 : decode cX0_pass 77 = .ok (.getfield 15, 3) := by decide +kernel
theorem dX0_pass_80 : decode cX0_pass 80 = .ok (.iload 5, 2) := by decide +kernel
theorem dX0_pass_82 : decode cX0_pass 82 = .ok (.dup2, 1) := by decide +kernel
theorem dX0_pass_83 : decode cX0_pass 83 = .ok (.iaload, 1) := by decide +kernel
theorem dX0_pass_84 : decode cX0_pass 84 = .ok (.iload 7, 2) := by decide +kernel
theorem dX0_pass_86 : decode cX0_pass 86 = .ok (.iadd, 1) := by decide +kernel
theorem dX0_pass_87 : decode cX0_pass 87 = .ok (.iastore, 1) := by decide +kernel
theorem dX0_pass_88 : decode cX0_pass 88 = .ok (.aload_n 0, 1) := by decide +kernel
theorem dX0_pass_89 : decode cX0_pass 89 = .ok (.getfield 18, 3) := by decide +kernel
theorem dX0_pass_92 : decode cX0_pass 92 = .ok (.iload 5, 2) := by decide +kernel
theorem dX0_pass_94 : decode cX0_pass 94 = .ok (.dup2, 1) := by decide +kernel
theorem dX0_pass_95 : decode cX0_pass 95 = .ok (.iaload, 1) := by decide +kernel
theorem dX0_pass_96 : decode cX0_pass 96 = .ok (.iload 8, 2) := by decide +kernel
theorem dX0_pass_98 : decode cX0_pass 98 = .ok (.iadd, 1) := by decide +kernel
theorem dX0_pass_99 : decode cX0_pass 99 = .ok (.iastore, 1) := by decide +kernel
theorem dX0_pass_100 : decode cX0_pass 100 = .ok (.iload_n 3, 1) := by decide +kernel
theorem dX0_pass_101 : decode cX0_pass 101 = .ok (.iload 7, 2) := by decide +kernel
theorem dX0_pass_103 : decode cX0_pass 103 = .ok (.iadd, 1) := by decide +kernel
theorem dX0_pass_104 : decode cX0_pass 104 = .ok (.istore_n 3, 1) := by decide +kernel
theorem dX0_pass_105 : decode cX0_pass 105 = .ok (.iload 4, 2) := by decide +kernel
theorem dX0_pass_107 : decode cX0_pass 107 = .ok (.iload 8, 2) := by decide +kernel
theorem dX0_pass_109 : decode cX0_pass 109 = .ok (.iadd, 1) := by decide +kernel
theorem dX0_pass_110 : decode cX0_pass 110 = .ok (.istore 4, 2) := by decide +kernel
theorem dX0_pass_112 : decode cX0_pass 112 = .ok (.iinc 5 1, 3) := by decide +kernel
theorem dX0_pass_115 : decode cX0_pass 115 = .ok (.goto (-107), 3) := by decide +kernel
theorem dX0_pass_118 : decode cX0_pass 118 = .ok (.aload_n 0, 1) := by decide +kernel
theorem dX0_pass_119 : decode cX0_pass 119 = .ok (.aload_n 0, 1) := by decide +kernel
theorem dX0_pass_120 : decode cX0_pass 120 = .ok (.aload_n 1, 1) := by decide +kernel
theorem dX0_pass_121 : decode cX0_pass 121 = .ok (.aload_n 2, 1) := by decide +kernel
theorem dX0_pass_122 : decode cX0_pass 122 = .ok (.iload 4, 2) := by decide +kernel
theorem dX0_pass_124 : decode cX0_pass 124 = .ok (.invokevirtual 77, 3) := by decide +kernel
theorem dX0_pass_127 : decode cX0_pass 127 = .ok (.putfield 25, 3) := by decide +kernel
theorem dX0_pass_130 : decode cX0_pass 130 = .ok (.aload_n 0, 1) := by decide +kernel
theorem dX0_pass_131 : decode cX0_pass 131 = .ok (.dup, 1) := by decide +kernel
theorem dX0_pass_132 : decode cX0_pass 132 = .ok (.getfield 21, 3) := by decide +kernel
theorem dX0_pass_135 : decode cX0_pass 135 = .ok (.iconst 1, 1) := by decide +kernel
theorem dX0_pass_136 : decode cX0_pass 136 = .ok (.iadd, 1) := by decide +kernel
theorem dX0_pass_137 : decode cX0_pass 137 = .ok (.putfield 21, 3) := by decide +kernel
theorem dX0_pass_140 : decode cX0_pass 140 = .ok (.iload_n 3, 1) := by decide +kernel
theorem dX0_pass_141 : decode cX0_pass 141 = .ok (.ireturn, 1) := by decide +kernel
theorem dX0_likingBehind_0 : decode cX0_likingBehind 0 = .ok (.aload_n 1, 1) := by decide +kernel
theorem dX0_likingBehind_1 : decode cX0_likingBehind 1 = .ok (.iload_n 3, 1) := by decide +kernel
theorem dX0_likingBehind_2 : decode cX0_likingBehind 2 = .ok (.iload 4, 2) := by decide +kernel
theorem dX0_likingBehind_4 : decode cX0_likingBehind 4 = .ok (.invokevirtual 40, 3) := by decide +kernel
theorem dX0_likingBehind_7 : decode cX0_likingBehind 7 = .ok (.istore 5, 2) := by decide +kernel
theorem dX0_likingBehind_9 : decode cX0_likingBehind 9 = .ok (.aload_n 0, 1) := by decide +kernel
theorem dX0_likingBehind_10 : decode cX0_likingBehind 10 = .ok (.getfield 9, 3) := by decide +kernel
theorem dX0_likingBehind_13 : decode cX0_likingBehind 13 = .ok (.iload_n 3, 1) := by decide +kernel
theorem dX0_likingBehind_14 : decode cX0_likingBehind 14 = .ok (.iaload, 1) := by decide +kernel
theorem dX0_likingBehind_15 : decode cX0_likingBehind 15 = .ok (.istore 6, 2) := by decide +kernel
theorem dX0_likingBehind_17 : decode cX0_likingBehind 17 = .ok (.iload 5, 2) := by decide +kernel
theorem dX0_likingBehind_19 : decode cX0_likingBehind 19 = .ok (.ifCond .le 11, 3) := by decide +kernel
theorem dX0_likingBehind_22 : decode cX0_likingBehind 22 = .ok (.iload 6, 2) := by decide +kernel
theorem dX0_likingBehind_24 : decode cX0_likingBehind 24 = .ok (.aload_n 2, 1) := by decide +kernel
theorem dX0_likingBehind_25 : decode cX0_likingBehind 25 = .ok (.iconst 1, 1) := by decide +kernel
theorem dX0_likingBehind_26 : decode cX0_likingBehind 26 = .ok (.iaload, 1) := by decide +kernel
theorem dX0_likingBehind_27 : decode cX0_likingBehind 27 = .ok (.iadd, 1) := by decide +kernel
theorem dX0_likingBehind_28 : decode cX0_likingBehind 28 = .ok (.istore 6, 2) := by decide +kernel
theorem dX0_likingBehind_30 : decode cX0_likingBehind 30 = .ok (.aload_n 1, 1) := by decide +kernel
theorem dX0_likingBehind_31 : decode cX0_likingBehind 31 = .ok (.getfield 54, 3) := by decide +kernel
theorem dX0_likingBehind_34 : decode cX0_likingBehind 34 = .ok (.ifCond .eq 50, 3) := by decide +kernel
theorem dX0_likingBehind_37 : decode cX0_likingBehind 37 = .ok (.aload_n 0, 1) := by decide +kernel
theorem dX0_likingBehind_38 : decode cX0_likingBehind 38 = .ok (.aload_n 1, 1) := by decide +kernel
theorem dX0_likingBehind_39 : decode cX0_likingBehind 39 = .ok (.iload_n 3, 1) := by decide +kernel
theorem dX0_likingBehind_40 : decode cX0_likingBehind 40 = .ok (.iload 4, 2) := by decide +kernel
theorem dX0_likingBehind_42 : decode cX0_likingBehind 42 = .ok (.invokevirtual 58, 3) := by decide +kernel
theorem dX0_likingBehind_45 : decode cX0_likingBehind 45 = .ok (.istore 7, 2) := by decide +kernel
theorem dX0_likingBehind_47 : decode cX0_likingBehind 47 = .ok (.aload_n 0, 1) := by decide +kernel
theorem dX0_likingBehind_48 : decode cX0_likingBehind 48 = .ok (.aload_n 1, 1) := by decide +kernel
theorem dX0_likingBehind_49 : decode cX0_likingBehind 49 = .ok (.iload_n 3, 1) := by decide +kernel
theorem dX0_likingBehind_50 : decode cX0_likingBehind 50 = .ok (.iload 4, 2) := by decide +kernel
theorem dX0_likingBehind_52 : decode cX0_likingBehind 52 = .ok (.invokevirtual 64, 3) := by decide +kernel
theorem dX0_likingBehind_55 : decode cX0_likingBehind 55 = .ok (.istore 8, 2) := by decide +kernel
theorem dX0_likingBehind_57 : decode cX0_likingBehind 57 = .ok (.iload 7, 2) := by decide +kernel
theorem dX0_likingBehind_59 : decode cX0_likingBehind 59 = .ok (.ifCond .le 22, 3) := by decide +kernel
theorem dX0_likingBehind_62 : decode cX0_likingBehind 62 = .ok (.iload 8, 2) := by decide +kernel
theorem dX0_likingBehind_64 : decode cX0_likingBehind 64 = .ok (.ifCond .le 17, 3) := by decide +kernel
theorem dX0_likingBehind_67 : decode cX0_likingBehind 67 = .ok (.iload 6, 2) := by decide +kernel
theorem dX0_likingBehind_69 : decode cX0_likingBehind 69 = .ok (.aload_n 2, 1) := by decide +kernel
theorem dX0_likingBehind_70 : decode cX0_likingBehind 70 = .ok (.iconst 2, 1) := by decide +kernel
theorem dX0_likingBehind_71 : decode cX0_likingBehind 71 = .ok (.iaload, 1) := by decide +kernel
theorem dX0_likingBehind_72 : decode cX0_likingBehind 72 = .ok (.iload 7, 2) := by decide +kernel
theorem dX0_likingBehind_74 : decode cX0_likingBehind 74 = .ok (.imul, 1) := by decide +kernel
theorem dX0_likingBehind_75 : decode cX0_likingBehind 75 = .ok (.iload 8, 2) := by decide +kernel
theorem dX0_likingBehind_77 : decode cX0_likingBehind 77 = .ok (.idiv, 1) := by decide +kernel
theorem dX0_likingBehind_78 : decode cX0_likingBehind 78 = .ok (.isub, 1) := by decide +kernel
theorem dX0_likingBehind_79 : decode cX0_likingBehind 79 = .ok (.istore 6, 2) := by decide +kernel
theorem dX0_likingBehind_81 : decode cX0_likingBehind 81 = .ok (.goto 27, 3) := by decide +kernel
theorem dX0_likingBehind_84 : decode cX0_likingBehind 84 = .ok (.iload 5, 2) := by decide +kernel
theorem dX0_likingBehind_86 : decode cX0_likingBehind 86 = .ok (.aload_n 1, 1) := by decide +kernel
theorem dX0_likingBehind_87 : decode cX0_likingBehind 87 = .ok (.iload 4, 2) := by decide +kernel
theorem dX0_likingBehind_89 : decode cX0_likingBehind 89 = .ok (.aload_n 0, 1) := by decide +kernel
theorem dX0_likingBehind_90 : decode cX0_likingBehind 90 = .ok (.getfield 21, 3) := by decide +kernel
theorem dX0_likingBehind_93 : decode cX0_likingBehind 93 = .ok (.invokevirtual 44, 3) := by decide +kernel
theorem dX0_likingBehind_96 : decode cX0_likingBehind 96 = .ok (.imul, 1) := by decide +kernel
theorem dX0_likingBehind_97 : decode cX0_likingBehind 97 = .ok (.ifCond .le 11, 3) := by decide +kernel
theorem dX0_likingBehind_100 : decode cX0_likingBehind 100 = .ok (.iload 6, 2) := by decide +kernel
theorem dX0_likingBehind_102 : decode cX0_likingBehind 102 = .ok (.aload_n 2, 1) := by decide +kernel
theorem dX0_likingBehind_103 : decode cX0_likingBehind 103 = .ok (.iconst 3, 1) := by decide +kernel
theorem dX0_likingBehind_104 : decode cX0_likingBehind 104 = .ok (.iaload, 1) := by decide +kernel
theorem dX0_likingBehind_105 : decode cX0_likingBehind 105 = .ok (.iadd, 1) := by decide +kernel
theorem dX0_likingBehind_106 : decode cX0_likingBehind 106 = .ok (.istore 6, 2) := by decide +kernel
theorem dX0_likingBehind_108 : decode cX0_likingBehind 108 = .ok (.iconst 0, 1) := by decide +kernel
theorem dX0_likingBehind_109 : decode cX0_likingBehind 109 = .ok (.bipush 100, 2) := by decide +kernel
theorem dX0_likingBehind_111 : decode cX0_likingBehind 111 = .ok (.iload 6, 2) := by decide +kernel
theorem dX0_likingBehind_113 : decode cX0_likingBehind 113 = .ok (.invokestatic 81, 3) := by decide +kernel
theorem dX0_likingBehind_116 : decode cX0_likingBehind 116 = .ok (.invokestatic 86, 3) := by decide +kernel
theorem dX0_likingBehind_119 : decode cX0_likingBehind 119 = .ok (.ireturn, 1) := by decide +kernel
theorem dX0_worthBehind_0 : decode cX0_worthBehind 0 = .ok (.aload_n 0, 1) := by decide +kernel
theorem dX0_worthBehind_1 : decode cX0_worthBehind 1 = .ok (.getfield 25, 3) := by decide +kernel
theorem dX0_worthBehind_4 : decode cX0_worthBehind 4 = .ok (.istore 4, 2) := by decide +kernel
theorem dX0_worthBehind_6 : decode cX0_worthBehind 6 = .ok (.aload_n 1, 1) := by decide +kernel
theorem dX0_worthBehind_7 : decode cX0_worthBehind 7 = .ok (.getfield 67, 3) := by decide +kernel
theorem dX0_worthBehind_10 : decode cX0_worthBehind 10 = .ok (.ifCond .le 21, 3) := by decide +kernel
theorem dX0_worthBehind_13 : decode cX0_worthBehind 13 = .ok (.iload 4, 2) := by decide +kernel
theorem dX0_worthBehind_15 : decode cX0_worthBehind 15 = .ok (.aload_n 2, 1) := by decide +kernel
theorem dX0_worthBehind_16 : decode cX0_worthBehind 16 = .ok (.iconst 4, 1) := by decide +kernel
theorem dX0_worthBehind_17 : decode cX0_worthBehind 17 = .ok (.iaload, 1) := by decide +kernel
theorem dX0_worthBehind_18 : decode cX0_worthBehind 18 = .ok (.iload_n 3, 1) := by decide +kernel
theorem dX0_worthBehind_19 : decode cX0_worthBehind 19 = .ok (.imul, 1) := by decide +kernel
theorem dX0_worthBehind_20 : decode cX0_worthBehind 20 = .ok (.bipush 10, 2) := by decide +kernel
theorem dX0_worthBehind_22 : decode cX0_worthBehind 22 = .ok (.aload_n 1, 1) := by decide +kernel
theorem dX0_worthBehind_23 : decode cX0_worthBehind 23 = .ok (.getfield 67, 3) := by decide +kernel
theorem dX0_worthBehind_26 : decode cX0_worthBehind 26 = .ok (.imul, 1) := by decide +kernel
theorem dX0_worthBehind_27 : decode cX0_worthBehind 27 = .ok (.idiv, 1) := by decide +kernel
theorem dX0_worthBehind_28 : decode cX0_worthBehind 28 = .ok (.isub, 1) := by decide +kernel
theorem dX0_worthBehind_29 : decode cX0_worthBehind 29 = .ok (.istore 4, 2) := by decide +kernel
theorem dX0_worthBehind_31 : decode cX0_worthBehind 31 = .ok (.aload_n 1, 1) := by decide +kernel
theorem dX0_worthBehind_32 : decode cX0_worthBehind 32 = .ok (.aload_n 0, 1) := by decide +kernel
theorem dX0_worthBehind_33 : decode cX0_worthBehind 33 = .ok (.getfield 21, 3) := by decide +kernel
theorem dX0_worthBehind_36 : decode cX0_worthBehind 36 = .ok (.invokevirtual 89, 3) := by decide +kernel
theorem dX0_worthBehind_39 : decode cX0_worthBehind 39 = .ok (.ifCond .eq 11, 3) := by decide +kernel
theorem dX0_worthBehind_42 : decode cX0_worthBehind 42 = .ok (.iload 4, 2) := by decide +kernel
theorem dX0_worthBehind_44 : decode cX0_worthBehind 44 = .ok (.aload_n 2, 1) := by decide +kernel
theorem dX0_worthBehind_45 : decode cX0_worthBehind 45 = .ok (.iconst 5, 1) := by decide +kernel
theorem dX0_worthBehind_46 : decode cX0_worthBehind 46 = .ok (.iaload, 1) := by decide +kernel
theorem dX0_worthBehind_47 : decode cX0_worthBehind 47 = .ok (.iadd, 1) := by decide +kernel
theorem dX0_worthBehind_48 : decode cX0_worthBehind 48 = .ok (.istore 4, 2) := by decide +kernel
theorem dX0_worthBehind_50 : decode cX0_worthBehind 50 = .ok (.iconst 0, 1) := by decide +kernel
theorem dX0_worthBehind_51 : decode cX0_worthBehind 51 = .ok (.bipush 100, 2) := by decide +kernel
theorem dX0_worthBehind_53 : decode cX0_worthBehind 53 = .ok (.iload 4, 2) := by decide +kernel
theorem dX0_worthBehind_55 : decode cX0_worthBehind 55 = .ok (.invokestatic 81, 3) := by decide +kernel
theorem dX0_worthBehind_58 : decode cX0_worthBehind 58 = .ok (.invokestatic 86, 3) := by decide +kernel
theorem dX0_worthBehind_61 : decode cX0_worthBehind 61 = .ok (.ireturn, 1) := by decide +kernel
theorem dX1_init_0 : decode cX1_init 0 = .ok (.aload_n 0, 1) := by decide +kernel
theorem dX1_init_1 : decode cX1_init 1 = .ok (.invokespecial 1, 3) := by decide +kernel
theorem dX1_init_4 : decode cX1_init 4 = .ok (.aload_n 0, 1) := by decide +kernel
theorem dX1_init_5 : decode cX1_init 5 = .ok (.iconst 0, 1) := by decide +kernel
theorem dX1_init_6 : decode cX1_init 6 = .ok (.putfield 7, 3) := by decide +kernel
theorem dX1_init_9 : decode cX1_init 9 = .ok (.aload_n 0, 1) := by decide +kernel
theorem dX1_init_10 : decode cX1_init 10 = .ok (.iconst 0, 1) := by decide +kernel
theorem dX1_init_11 : decode cX1_init 11 = .ok (.putfield 13, 3) := by decide +kernel
theorem dX1_init_14 : decode cX1_init 14 = .ok (.aload_n 0, 1) := by decide +kernel
theorem dX1_init_15 : decode cX1_init 15 = .ok (.new 17, 3) := by decide +kernel
theorem dX1_init_18 : decode cX1_init 18 = .ok (.dup, 1) := by decide +kernel
theorem dX1_init_19 : decode cX1_init 19 = .ok (.invokespecial 19, 3) := by decide +kernel
theorem dX1_init_22 : decode cX1_init 22 = .ok (.putfield 20, 3) := by decide +kernel
theorem dX1_init_25 : decode cX1_init 25 = .ok (.return_, 1) := by decide +kernel
theorem dX2_init_0 : decode cX2_init 0 = .ok (.aload_n 0, 1) := by decide +kernel
theorem dX2_init_1 : decode cX2_init 1 = .ok (.invokespecial 3, 3) := by decide +kernel
theorem dX2_init_4 : decode cX2_init 4 = .ok (.aload_n 0, 1) := by decide +kernel
theorem dX2_init_5 : decode cX2_init 5 = .ok (.bipush 8, 2) := by decide +kernel
theorem dX2_init_7 : decode cX2_init 7 = .ok (.newarray .int, 2) := by decide +kernel
theorem dX2_init_9 : decode cX2_init 9 = .ok (.putfield 9, 3) := by decide +kernel
theorem dX2_init_12 : decode cX2_init 12 = .ok (.aload_n 0, 1) := by decide +kernel
theorem dX2_init_13 : decode cX2_init 13 = .ok (.bipush 8, 2) := by decide +kernel
theorem dX2_init_15 : decode cX2_init 15 = .ok (.newarray .int, 2) := by decide +kernel
theorem dX2_init_17 : decode cX2_init 17 = .ok (.putfield 15, 3) := by decide +kernel
theorem dX2_init_20 : decode cX2_init 20 = .ok (.aload_n 0, 1) := by decide +kernel
theorem dX2_init_21 : decode cX2_init 21 = .ok (.bipush 8, 2) := by decide +kernel
theorem dX2_init_23 : decode cX2_init 23 = .ok (.newarray .int, 2) := by decide +kernel
theorem dX2_init_25 : decode cX2_init 25 = .ok (.putfield 18, 3) := by decide +kernel
theorem dX2_init_28 : decode cX2_init 28 = .ok (.return_, 1) := by decide +kernel
theorem dX2_pagesOf_0 : decode cX2_pagesOf 0 = .ok (.iconst 0, 1) := by decide +kernel
theorem dX2_pagesOf_1 : decode cX2_pagesOf 1 = .ok (.istore_n 2, 1) := by decide +kernel
theorem dX2_pagesOf_2 : decode cX2_pagesOf 2 = .ok (.iconst 0, 1) := by decide +kernel
theorem dX2_pagesOf_3 : decode cX2_pagesOf 3 = .ok (.istore_n 3, 1) := by decide +kernel
theorem dX2_pagesOf_4 : decode cX2_pagesOf 4 = .ok (.iload_n 3, 1) := by decide +kernel
theorem dX2_pagesOf_5 : decode cX2_pagesOf 5 = .ok (.aload_n 0, 1) := by decide +kernel
theorem dX2_pagesOf_6 : decode cX2_pagesOf 6 = .ok (.getfield 21, 3) := by decide +kernel
theorem dX2_pagesOf_9 : decode cX2_pagesOf 9 = .ok (.if_icmp .ge 27, 3) := by decide +kernel
theorem dX2_pagesOf_12 : decode cX2_pagesOf 12 = .ok (.iload_n 1, 1) := by decide +kernel
theorem dX2_pagesOf_13 : decode cX2_pagesOf 13 = .ok (.iload_n 3, 1) := by decide +kernel
theorem dX2_pagesOf_14 : decode cX2_pagesOf 14 = .ok (.ishr, 1) := by decide +kernel
theorem dX2_pagesOf_15 : decode cX2_pagesOf 15 = .ok (.iconst 1, 1) := by decide +kernel
theorem dX2_pagesOf_16 : decode cX2_pagesOf 16 = .ok (.iand, 1) := by decide +kernel
theorem dX2_pagesOf_17 : decode cX2_pagesOf 17 = .ok (.iconst 1, 1) := by decide +kernel
theorem dX2_pagesOf_18 : decode cX2_pagesOf 18 = .ok (.if_icmp .ne 12, 3) := by decide +kernel
theorem dX2_pagesOf_21 : decode cX2_pagesOf 21 = .ok (.iload_n 2, 1) := by decide +kernel
theorem dX2_pagesOf_22 : decode cX2_pagesOf 22 = .ok (.aload_n 0, 1) := by decide +kernel
theorem dX2_pagesOf_23 : decode cX2_pagesOf 23 = .ok (.getfield 9, 3) := by decide +kernel
theorem dX2_pagesOf_26 : decode cX2_pagesOf 26 = .ok (.iload_n 3, 1) := by decide +kernel
theorem dX2_pagesOf_27 : decode cX2_pagesOf 27 = .ok (.iaload, 1) := by decide +kernel
theorem dX2_pagesOf_28 : decode cX2_pagesOf 28 = .ok (.iadd, 1) := by decide +kernel
theorem dX2_pagesOf_29 : decode cX2_pagesOf 29 = .ok (.istore_n 2, 1) := by decide +kernel
theorem dX2_pagesOf_30 : decode cX2_pagesOf 30 = .ok (.iinc 3 1, 3) := by decide +kernel
theorem dX2_pagesOf_33 : decode cX2_pagesOf 33 = .ok (.goto (-29), 3) := by decide +kernel
theorem dX2_pagesOf_36 : decode cX2_pagesOf 36 = .ok (.iload_n 2, 1) := by decide +kernel
theorem dX2_pagesOf_37 : decode cX2_pagesOf 37 = .ok (.ireturn, 1) := by decide +kernel
theorem dX2_hasBy_0 : decode cX2_hasBy 0 = .ok (.iload_n 1, 1) := by decide +kernel
theorem dX2_hasBy_1 : decode cX2_hasBy 1 = .ok (.iload_n 2, 1) := by decide +kernel
theorem dX2_hasBy_2 : decode cX2_hasBy 2 = .ok (.ishr, 1) := by decide +kernel
theorem dX2_hasBy_3 : decode cX2_hasBy 3 = .ok (.iconst 1, 1) := by decide +kernel
theorem dX2_hasBy_4 : decode cX2_hasBy 4 = .ok (.iand, 1) := by decide +kernel
theorem dX2_hasBy_5 : decode cX2_hasBy 5 = .ok (.iconst 1, 1) := by decide +kernel
theorem dX2_hasBy_6 : decode cX2_hasBy 6 = .ok (.if_icmp .ne 12, 3) := by decide +kernel
theorem dX2_hasBy_9 : decode cX2_hasBy 9 = .ok (.aload_n 0, 1) := by decide +kernel
theorem dX2_hasBy_10 : decode cX2_hasBy 10 = .ok (.getfield 15, 3) := by decide +kernel
theorem dX2_hasBy_13 : decode cX2_hasBy 13 = .ok (.iload_n 2, 1) := by decide +kernel
theorem dX2_hasBy_14 : decode cX2_hasBy 14 = .ok (.iaload, 1) := by decide +kernel
theorem dX2_hasBy_15 : decode cX2_hasBy 15 = .ok (.goto 4, 3) := by decide +kernel
theorem dX2_hasBy_18 : decode cX2_hasBy 18 = .ok (.iconst 0, 1) := by decide +kernel
theorem dX2_hasBy_19 : decode cX2_hasBy 19 = .ok (.istore_n 3, 1) := by decide +kernel
theorem dX2_hasBy_20 : decode cX2_hasBy 20 = .ok (.aload_n 0, 1) := by decide +kernel
theorem dX2_hasBy_21 : decode cX2_hasBy 21 = .ok (.iload_n 1, 1) := by decide +kernel
theorem dX2_hasBy_22 : decode cX2_hasBy 22 = .ok (.invokevirtual 25, 3) := by decide +kernel
theorem dX2_hasBy_25 : decode cX2_hasBy 25 = .ok (.aload_n 0, 1) := by decide +kernel
theorem dX2_hasBy_26 : decode cX2_hasBy 26 = .ok (.getfield 29, 3) := by decide +kernel
theorem dX2_hasBy_29 : decode cX2_hasBy 29 = .ok (.if_icmp .lt 14, 3) := by decide +kernel
theorem dX2_hasBy_32 : decode cX2_hasBy 32 = .ok (.iload_n 3, 1) := by decide +kernel
theorem dX2_hasBy_33 : decode cX2_hasBy 33 = .ok (.aload_n 0, 1) := by decide +kernel
theorem dX2_hasBy_34 : decode cX2_hasBy 34 = .ok (.getfield 18, 3) := by decide +kernel
theorem dX2_hasBy_37 : decode cX2_hasBy 37 = .ok (.iload_n 2, 1) := by decide +kernel
theorem dX2_hasBy_38 : decode cX2_hasBy 38 = .ok (.iaload, 1) := by decide +kernel
theorem dX2_hasBy_39 : decode cX2_hasBy 39 = .ok (.iadd, 1) := by decide +kernel
theorem dX2_hasBy_40 : decode cX2_hasBy 40 = .ok (.goto 4, 3) := by decide +kernel
theorem dX2_hasBy_43 : decode cX2_hasBy 43 = .ok (.iload_n 3, 1) := by decide +kernel
theorem dX2_hasBy_44 : decode cX2_hasBy 44 = .ok (.ireturn, 1) := by decide +kernel
theorem dX2_isRest_0 : decode cX2_isRest 0 = .ok (.iconst 0, 1) := by decide +kernel
theorem dX2_isRest_1 : decode cX2_isRest 1 = .ok (.istore_n 2, 1) := by decide +kernel
theorem dX2_isRest_2 : decode cX2_isRest 2 = .ok (.iload_n 2, 1) := by decide +kernel
theorem dX2_isRest_3 : decode cX2_isRest 3 = .ok (.aload_n 0, 1) := by decide +kernel
theorem dX2_isRest_4 : decode cX2_isRest 4 = .ok (.getfield 21, 3) := by decide +kernel
theorem dX2_isRest_7 : decode cX2_isRest 7 = .ok (.if_icmp .ge 30, 3) := by decide +kernel
theorem dX2_isRest_10 : decode cX2_isRest 10 = .ok (.aload_n 0, 1) := by decide +kernel
theorem dX2_isRest_11 : decode cX2_isRest 11 = .ok (.iload_n 1, 1) := by decide +kernel
theorem dX2_isRest_12 : decode cX2_isRest 12 = .ok (.iconst 1, 1) := by decide +kernel
theorem dX2_isRest_13 : decode cX2_isRest 13 = .ok (.iload_n 2, 1) := by decide +kernel
theorem dX2_isRest_14 : decode cX2_isRest 14 = .ok (.ishl, 1) := by decide +kernel
theorem dX2_isRest_15 : decode cX2_isRest 15 = .ok (.ixor, 1) := by decide +kernel
theorem dX2_isRest_16 : decode cX2_isRest 16 = .ok (.iload_n 2, 1) := by decide +kernel
theorem dX2_isRest_17 : decode cX2_isRest 17 = .ok (.invokevirtual 32, 3) := by decide +kernel
theorem dX2_isRest_20 : decode cX2_isRest 20 = .ok (.aload_n 0, 1) := by decide +kernel
theorem dX2_isRest_21 : decode cX2_isRest 21 = .ok (.iload_n 1, 1) := by decide +kernel
theorem dX2_isRest_22 : decode cX2_isRest 22 = .ok (.iload_n 2, 1) := by decide +kernel
theorem dX2_isRest_23 : decode cX2_isRest 23 = .ok (.invokevirtual 32, 3) := by decide +kernel
theorem dX2_isRest_26 : decode cX2_isRest 26 = .ok (.if_icmp .le 5, 3) := by decide +kernel
theorem dX2_isRest_29 : decode cX2_isRest 29 = .ok (.iconst 0, 1) := by decide +kernel
theorem dX2_isRest_30 : decode cX2_isRest 30 = .ok (.ireturn, 1) := by decide +kernel
theorem dX2_isRest_31 : decode cX2_isRest 31 = .ok (.iinc 2 1, 3) := by decide +kernel
theorem dX2_isRest_34 : decode cX2_isRest 34 = .ok (.goto (-32), 3) := by decide +kernel
theorem dX2_isRest_37 : decode cX2_isRest 37 = .ok (.iconst 1, 1) := by decide +kernel
theorem dX2_isRest_38 : decode cX2_isRest 38 = .ok (.ireturn, 1) := by decide +kernel
theorem dX2_blamedFor_0 : decode cX2_blamedFor 0 = .ok (.aload_n 0, 1) := by decide +kernel
theorem dX2_blamedFor_1 : decode cX2_blamedFor 1 = .ok (.iload_n 1, 1) := by decide +kernel
theorem dX2_blamedFor_2 : decode cX2_blamedFor 2 = .ok (.invokevirtual 25, 3) := by decide +kernel
theorem dX2_blamedFor_5 : decode cX2_blamedFor 5 = .ok (.istore_n 2, 1) := by decide +kernel
theorem dX2_blamedFor_6 : decode cX2_blamedFor 6 = .ok (.iload_n 2, 1) := by decide +kernel
theorem dX2_blamedFor_7 : decode cX2_blamedFor 7 = .ok (.aload_n 0, 1) := by decide +kernel
theorem dX2_blamedFor_8 : decode cX2_blamedFor 8 = .ok (.getfield 29, 3) := by decide +kernel
theorem dX2_blamedFor_11 : decode cX2_blamedFor 11 = .ok (.if_icmp .lt 6, 3) := by decide +kernel
theorem dX2_blamedFor_14 : decode cX2_blamedFor 14 = .ok (.bipush (-9), 2) := by decide +kernel
theorem dX2_blamedFor_16 : decode cX2_blamedFor 16 = .ok (.ireturn, 1) := by decide +kernel
theorem dX2_blamedFor_17 : decode cX2_blamedFor 17 = .ok (.iconst 0, 1) := by decide +kernel
theorem dX2_blamedFor_18 : decode cX2_blamedFor 18 = .ok (.istore_n 3, 1) := by decide +kernel
theorem dX2_blamedFor_19 : decode cX2_blamedFor 19 = .ok (.iload_n 3, 1) := by decide +kernel
theorem dX2_blamedFor_20 : decode cX2_blamedFor 20 = .ok (.aload_n 0, 1) := by decide +kernel
theorem dX2_blamedFor_21 : decode cX2_blamedFor 21 = .ok (.getfield 21, 3) := by decide +kernel
theorem dX2_blamedFor_24 : decode cX2_blamedFor 24 = .ok (.if_icmp .ge 34, 3) := by decide +kernel
theorem dX2_blamedFor_27 : decode cX2_blamedFor 27 = .ok (.iload_n 1, 1) := by decide +kernel
theorem dX2_blamedFor_28 : decode cX2_blamedFor 28 = .ok (.iload_n 3, 1) := by decide +kernel
theorem dX2_blamedFor_29 : decode cX2_blamedFor 29 = .ok (.ishr, 1) := by decide +kernel
theorem dX2_blamedFor_30 : decode cX2_blamedFor 30 = .ok (.iconst 1, 1) := by decide +kernel
theorem dX2_blamedFor_31 : decode cX2_blamedFor 31 = .ok (.iand, 1) := by decide +kernel
theorem dX2_blamedFor_32 : decode cX2_blamedFor 32 = .ok (.ifCond .ne 20, 3) := by decide +kernel
theorem dX2_blamedFor_35 : decode cX2_blamedFor 35 = .ok (.iload_n 2, 1) := by decide +kernel
theorem dX2_blamedFor_36 : decode cX2_blamedFor 36 = .ok (.aload_n 0, 1) := by decide +kernel
theorem dX2_blamedFor_37 : decode cX2_blamedFor 37 = .ok (.getfield 9, 3) := by decide +kernel
theorem dX2_blamedFor_40 : decode cX2_blamedFor 40 = .ok (.iload_n 3, 1) := by decide +kernel
theorem dX2_blamedFor_41 : decode cX2_blamedFor 41 = .ok (.iaload, 1) := by decide +kernel
theorem dX2_blamedFor_42 : decode cX2_blamedFor 42 = .ok (.iadd, 1) := by decide +kernel
theorem dX2_blamedFor_43 : decode cX2_blamedFor 43 = .ok (.aload_n 0, 1) := by decide +kernel
theorem dX2_blamedFor_44 : decode cX2_blamedFor 44 = .ok (.getfield 29, 3) := by decide +kernel
theorem dX2_blamedFor_47 : decode cX2_blamedFor 47 = .ok (.if_icmp .lt 5, 3) := by decide +kernel
theorem dX2_blamedFor_50 : decode cX2_blamedFor 50 = .ok (.iload_n 3, 1) := by decide +kernel
theorem dX2_blamedFor_51 : decode cX2_blamedFor 51 = .ok (.ireturn, 1) := by decide +kernel
theorem dX2_blamedFor_52 : decode cX2_blamedFor 52 = .ok (.iinc 3 1, 3) := by decide +kernel
theorem dX2_blamedFor_55 : decode cX2_blamedFor 55 = .ok (.goto (-36), 3) := by decide +kernel
theorem dX2_blamedFor_58 : decode cX2_blamedFor 58 = .ok (.bipush (-9), 2) := by decide +kernel
theorem dX2_blamedFor_60 : decode cX2_blamedFor 60 = .ok (.ireturn, 1) := by decide +kernel
theorem dX3_init_0 : decode cX3_init 0 = .ok (.aload_n 0, 1) := by decide +kernel
theorem dX3_init_1 : decode cX3_init 1 = .ok (.invokespecial 3, 3) := by decide +kernel
theorem dX3_init_4 : decode cX3_init 4 = .ok (.aload_n 0, 1) := by decide +kernel
theorem dX3_init_5 : decode cX3_init 5 = .ok (.iconst 0, 1) := by decide +kernel
theorem dX3_init_6 : decode cX3_init 6 = .ok (.putfield 9, 3) := by decide +kernel
theorem dX3_init_9 : decode cX3_init 9 = .ok (.aload_n 0, 1) := by decide +kernel
theorem dX3_init_10 : decode cX3_init 10 = .ok (.sipush 400, 3) := by decide +kernel
theorem dX3_init_13 : decode cX3_init 13 = .ok (.newarray .int, 2) := by decide +kernel
theorem dX3_init_15 : decode cX3_init 15 = .ok (.putfield 15, 3) := by decide +kernel
theorem dX3_init_18 : decode cX3_init 18 = .ok (.aload_n 0, 1) := by decide +kernel
theorem dX3_init_19 : decode cX3_init 19 = .ok (.new 19, 3) := by decide +kernel
theorem dX3_init_22 : decode cX3_init 22 = .ok (.dup, 1) := by decide +kernel
theorem dX3_init_23 : decode cX3_init 23 = .ok (.invokespecial 21, 3) := by decide +kernel
theorem dX3_init_26 : decode cX3_init 26 = .ok (.putfield 22, 3) := by decide +kernel
theorem dX3_init_29 : decode cX3_init 29 = .ok (.aload_n 0, 1) := by decide +kernel
theorem dX3_init_30 : decode cX3_init 30 = .ok (.sipush 401, 3) := by decide +kernel
theorem dX3_init_33 : decode cX3_init 33 = .ok (.newarray .int, 2) := by decide +kernel
theorem dX3_init_35 : decode cX3_init 35 = .ok (.putfield 26, 3) := by decide +kernel
theorem dX3_init_38 : decode cX3_init 38 = .ok (.aload_n 0, 1) := by decide +kernel
theorem dX3_init_39 : decode cX3_init 39 = .ok (.sipush 401, 3) := by decide +kernel
theorem dX3_init_42 : decode cX3_init 42 = .ok (.newarray .int, 2) := by decide +kernel
theorem dX3_init_44 : decode cX3_init 44 = .ok (.putfield 29, 3) := by decide +kernel
theorem dX3_init_47 : decode cX3_init 47 = .ok (.return_, 1) := by decide +kernel
theorem dX3_hear_0 : decode cX3_hear 0 = .ok (.aload_n 0, 1) := by decide +kernel
theorem dX3_hear_1 : decode cX3_hear 1 = .ok (.getfield 9, 3) := by decide +kernel
theorem dX3_hear_4 : decode cX3_hear 4 = .ok (.iload_n 3, 1) := by decide +kernel
theorem dX3_hear_5 : decode cX3_hear 5 = .ok (.iadd, 1) := by decide +kernel
theorem dX3_hear_6 : decode cX3_hear 6 = .ok (.sipush 400, 3) := by decide +kernel
theorem dX3_hear_9 : decode cX3_hear 9 = .ok (.if_icmp .le 5, 3) := by decide +kernel
theorem dX3_hear_12 : decode cX3_hear 12 = .ok (.iconst 0, 1) := by decide +kernel
theorem dX3_hear_13 : decode cX3_hear 13 = .ok (.ireturn, 1) := by decide +kernel
theorem dX3_hear_14 : decode cX3_hear 14 = .ok (.iload_n 3, 1) := by decide +kernel
theorem dX3_hear_15 : decode cX3_hear 15 = .ok (.iconst 1, 1) := by decide +kernel
theorem dX3_hear_16 : decode cX3_hear 16 = .ok (.isub, 1) := by decide +kernel
theorem dX3_hear_17 : decode cX3_hear 17 = .ok (.istore 4, 2) := by decide +kernel
theorem dX3_hear_19 : decode cX3_hear 19 = .ok (.iload 4, 2) := by decide +kernel
theorem dX3_hear_21 : decode cX3_hear 21 = .ok (.ifCond .lt 40, 3) := by decide +kernel
theorem dX3_hear_24 : decode cX3_hear 24 = .ok (.aload_n 0, 1) := by decide +kernel
theorem dX3_hear_25 : decode cX3_hear 25 = .ok (.getfield 15, 3) := by decide +kernel
theorem dX3_hear_28 : decode cX3_hear 28 = .ok (.aload_n 0, 1) := by decide +kernel
theorem dX3_hear_29 : decode cX3_hear 29 = .ok (.getfield 9, 3) := by decide +kernel
theorem dX3_hear_32 : decode cX3_hear 32 = .ok (.lload_n 1, 1) := by decide +kernel
theorem dX3_hear_33 : decode cX3_hear 33 = .ok (.bipush 8, 2) := by decide +kernel
theorem dX3_hear_35 : decode cX3_hear 35 = .ok (.iload 4, 2) := by decide +kernel
theorem dX3_hear_37 : decode cX3_hear 37 = .ok (.imul, 1) := by decide +kernel
theorem dX3_hear_38 : decode cX3_hear 38 = .ok (.lushr, 1) := by decide +kernel
theorem dX3_hear_39 : decode cX3_hear 39 = .ok (.l2i, 1) := by decide +kernel
theorem dX3_hear_40 : decode cX3_hear 40 = .ok (.sipush 255, 3) := by decide +kernel
theorem dX3_hear_43 : decode cX3_hear 43 = .ok (.iand, 1) := by decide +kernel
theorem dX3_hear_44 : decode cX3_hear 44 = .ok (.iastore, 1) := by decide +kernel
theorem dX3_hear_45 : decode cX3_hear 45 = .ok (.aload_n 0, 1) := by decide +kernel
theorem dX3_hear_46 : decode cX3_hear 46 = .ok (.dup, 1) := by decide +kernel
theorem dX3_hear_47 : decode cX3_hear 47 = .ok (.getfield 9, 3) := by decide +kernel
theorem dX3_hear_50 : decode cX3_hear 50 = .ok (.iconst 1, 1) := by decide +kernel
theorem dX3_hear_51 : decode cX3_hear 51 = .ok (.iadd, 1) := by decide +kernel
theorem dX3_hear_52 : decode cX3_hear 52 = .ok (.putfield 9, 3) := by decide +kernel
theorem dX3_hear_55 : decode cX3_hear 55 = .ok (.iinc 4 (-1), 3) := by decide +kernel
theorem dX3_hear_58 : decode cX3_hear 58 = .ok (.goto (-39), 3) := by decide +kernel
theorem dX3_hear_61 : decode cX3_hear 61 = .ok (.iconst 1, 1) := by decide +kernel
theorem dX3_hear_62 : decode cX3_hear 62 = .ok (.ireturn, 1) := by decide +kernel
theorem dX3_readItems_0 : decode cX3_readItems 0 = .ok (.aload_n 0, 1) := by decide +kernel
theorem dX3_readItems_1 : decode cX3_readItems 1 = .ok (.invokevirtual 32, 3) := by decide +kernel
theorem dX3_readItems_4 : decode cX3_readItems 4 = .ok (.aload_n 0, 1) := by decide +kernel
theorem dX3_readItems_5 : decode cX3_readItems 5 = .ok (.getfield 22, 3) := by decide +kernel
theorem dX3_readItems_8 : decode cX3_readItems 8 = .ok (.invokevirtual 35, 3) := by decide +kernel
theorem dX3_readItems_11 : decode cX3_readItems 11 = .ok (.aload_n 0, 1) := by decide +kernel
theorem dX3_readItems_12 : decode cX3_readItems 12 = .ok (.iconst 0, 1) := by decide +kernel
theorem dX3_readItems_13 : decode cX3_readItems 13 = .ok (.putfield 38, 3) := by decide +kernel
theorem dX3_readItems_16 : decode cX3_readItems 16 = .ok (.aload_n 0, 1) := by decide +kernel
theorem dX3_readItems_17 : decode cX3_readItems 17 = .ok (.iconst 0, 1) := by decide +kernel
theorem dX3_readItems_18 : decode cX3_readItems 18 = .ok (.putfield 42, 3) := by decide +kernel
theorem dX3_readItems_21 : decode cX3_readItems 21 = .ok (.iconst 0, 1) := by decide +kernel
theorem dX3_readItems_22 : decode cX3_readItems 22 = .ok (.istore_n 1, 1) := by decide +kernel
theorem dX3_readItems_23 : decode cX3_readItems 23 = .ok (.iload_n 1, 1) := by decide +kernel
theorem dX3_readItems_24 : decode cX3_readItems 24 = .ok (.sipush 400, 3) := by decide +kernel
theorem dX3_readItems_27 : decode cX3_readItems 27 = .ok (.if_icmp .gt 38, 3) := by decide +kernel
theorem dX3_readItems_30 : decode cX3_readItems 30 = .ok (.aload_n 0, 1) := by decide +kernel
theorem dX3_readItems_31 : decode cX3_readItems 31 = .ok (.invokevirtual 45, 3) := by decide +kernel
theorem dX3_readItems_34 : decode cX3_readItems 34 = .ok (.bipush (-8), 2) := by decide +kernel
theorem dX3_readItems_36 : decode cX3_readItems 36 = .ok (.if_icmp .ne 5, 3) := by decide +kernel
theorem dX3_readItems_39 : decode cX3_readItems 39 = .ok (.iload_n 1, 1) := by decide +kernel
theorem dX3_readItems_40 : decode cX3_readItems 40 = .ok (.ireturn, 1) := by decide +kernel
theorem dX3_readItems_41 : decode cX3_readItems 41 = .ok (.aload_n 0, 1) := by decide +kernel
theorem dX3_readItems_42 : decode cX3_readItems 42 = .ok (.invokevirtual 49, 3) := by decide +kernel
theorem dX3_readItems_45 : decode cX3_readItems 45 = .ok (.ifCond .eq 12, 3) := by decide +kernel
theorem dX3_readItems_48 : decode cX3_readItems 48 = .ok (.aload_n 0, 1) := by decide +kernel
theorem dX3_readItems_49 : decode cX3_readItems 49 = .ok (.bipush (-7), 2) := by decide +kernel
theorem dX3_readItems_51 : decode cX3_readItems 51 = .ok (.invokevirtual 53, 3) := by decide +kernel
theorem dX3_readItems_54 : decode cX3_readItems 54 = .ok (.ifCond .ne 5, 3) := by decide +kernel
theorem dX3_readItems_57 : decode cX3_readItems 57 = .ok (.iconst (-1), 1) := by decide +kernel
theorem dX3_readItems_58 : decode cX3_readItems 58 = .ok (.ireturn, 1) := by decide +kernel
theorem dX3_readItems_59 : decode cX3_readItems 59 = .ok (.iinc 1 1, 3) := by decide +kernel
theorem dX3_readItems_62 : decode cX3_readItems 62 = .ok (.goto (-39), 3) := by decide +kernel
theorem dX3_readItems_65 : decode cX3_readItems 65 = .ok (.iconst (-1), 1) := by decide +kernel
theorem dX3_readItems_66 : decode cX3_readItems 66 = .ok (.ireturn, 1) := by decide +kernel
theorem dX3_fault_0 : decode cX3_fault 0 = .ok (.aload_n 0, 1) := by decide +kernel
theorem dX3_fault_1 : decode cX3_fault 1 = .ok (.getfield 42, 3) := by decide +kernel
theorem dX3_fault_4 : decode cX3_fault 4 = .ok (.aload_n 0, 1) := by decide +kernel
theorem dX3_fault_5 : decode cX3_fault 5 = .ok (.getfield 29, 3) := by decide +kernel
theorem dX3_fault_8 : decode cX3_fault 8 = .ok (.arraylength, 1) := by decide +kernel
theorem dX3_fault_9 : decode cX3_fault 9 = .ok (.if_icmp .ge 15, 3) := by decide +kernel
theorem dX3_fault_12 : decode cX3_fault 12 = .ok (.aload_n 0, 1) := by decide +kernel
theorem dX3_fault_13 : decode cX3_fault 13 = .ok (.getfield 29, 3) := by decide +kernel
theorem dX3_fault_16 : decode cX3_fault 16 = .ok (.aload_n 0, 1) := by decide +kernel
theorem dX3_fault_17 : decode cX3_fault 17 = .ok (.getfield 42, 3) := by decide +kernel
theorem dX3_fault_20 : decode cX3_fault 20 = .ok (.iaload, 1) := by decide +kernel
theorem dX3_fault_21 : decode cX3_fault 21 = .ok (.goto 7, 3) := by decide +kernel
theorem dX3_fault_24 : decode cX3_fault 24 = .ok (.aload_n 0, 1) := by decide +kernel
theorem dX3_fault_25 : decode cX3_fault 25 = .ok (.getfield 9, 3) := by decide +kernel
theorem dX3_fault_28 : decode cX3_fault 28 = .ok (.ireturn, 1) := by decide +kernel
theorem dX3_cut_0 : decode cX3_cut 0 = .ok (.iconst 0, 1) := by decide +kernel
theorem dX3_cut_1 : decode cX3_cut 1 = .ok (.istore_n 1, 1) := by decide +kernel
theorem dX3_cut_2 : decode cX3_cut 2 = .ok (.iconst 0, 1) := by decide +kernel
theorem dX3_cut_3 : decode cX3_cut 3 = .ok (.istore_n 2, 1) := by decide +kernel
theorem dX3_cut_4 : decode cX3_cut 4 = .ok (.iconst 0, 1) := by decide +kernel
theorem dX3_cut_5 : decode cX3_cut 5 = .ok (.istore_n 3, 1) := by decide +kernel
theorem dX3_cut_6 : decode cX3_cut 6 = .ok (.iload_n 3, 1) := by decide +kernel
theorem dX3_cut_7 : decode cX3_cut 7 = .ok (.aload_n 0, 1) := by decide +kernel
theorem dX3_cut_8 : decode cX3_cut 8 = .ok (.getfield 9, 3) := by decide +kernel
theorem dX3_cut_11 : decode cX3_cut 11 = .ok (.if_icmp .ge 53, 3) := by decide +kernel
theorem dX3_cut_14 : decode cX3_cut 14 = .ok (.iload_n 3, 1) := by decide +kernel
theorem dX3_cut_15 : decode cX3_cut 15 = .ok (.iload_n 2, 1) := by decide +kernel
theorem dX3_cut_16 : decode cX3_cut 16 = .ok (.if_icmp .lt 42, 3) := by decide +kernel
theorem dX3_cut_19 : decode cX3_cut 19 = .ok (.aload_n 0, 1) := by decide +kernel
theorem dX3_cut_20 : decode cX3_cut 20 = .ok (.getfield 15, 3) := by decide +kernel
theorem dX3_cut_23 : decode cX3_cut 23 = .ok (.iload_n 3, 1) := by decide +kernel
theorem dX3_cut_24 : decode cX3_cut 24 = .ok (.iaload, 1) := by decide +kernel
theorem dX3_cut_25 : decode cX3_cut 25 = .ok (.bipush 32, 2) := by decide +kernel
theorem dX3_cut_27 : decode cX3_cut 27 = .ok (.if_icmp .eq 31, 3) := by decide +kernel
theorem dX3_cut_30 : decode cX3_cut 30 = .ok (.aload_n 0, 1) := by decide +kernel
theorem dX3_cut_31 : decode cX3_cut 31 = .ok (.iload_n 3, 1) := by decide +kernel
theorem dX3_cut_32 : decode cX3_cut 32 = .ok (.invokevirtual 57, 3) := by decide +kernel
theorem dX3_cut_35 : decode cX3_cut 35 = .ok (.istore_n 2, 1) := by decide +kernel
theorem dX3_cut_36 : decode cX3_cut 36 = .ok (.aload_n 0, 1) := by decide +kernel
theorem dX3_cut_37 : decode cX3_cut 37 = .ok (.getfield 26, 3) := by decide +kernel
theorem dX3_cut_40 : decode cX3_cut 40 = .ok (.iload_n 1, 1) := by decide +kernel
theorem dX3_cut_41 : decode cX3_cut 41 = .ok (.aload_n 0, 1) := by decide +kernel
theorem dX3_cut_42 : decode cX3_cut 42 = .ok (.iload_n 3, 1) := by decide +kernel
theorem dX3_cut_43 : decode cX3_cut 43 = .ok (.iload_n 2, 1) := by decide +kernel
theorem dX3_cut_44 : decode cX3_cut 44 = .ok (.invokevirtual 61, 3) := by decide +kernel
theorem dX3_cut_47 : decode cX3_cut 47 = .ok (.iastore, 1) := by decide +kernel
theorem dX3_cut_48 : decode cX3_cut 48 = .ok (.aload_n 0, 1) := by decide +kernel
theorem dX3_cut_49 : decode cX3_cut 49 = .ok (.getfield 29, 3) := by decide +kernel
theorem dX3_cut_52 : decode cX3_cut 52 = .ok (.iload_n 1, 1) := by decide +kernel
theorem dX3_cut_53 : decode cX3_cut 53 = .ok (.iload_n 3, 1) := by decide +kernel
theorem dX3_cut_54 : decode cX3_cut 54 = .ok (.iastore, 1) := by decide +kernel
theorem dX3_cut_55 : decode cX3_cut 55 = .ok (.iinc 1 1, 3) := by decide +kernel
theorem dX3_cut_58 : decode cX3_cut 58 = .ok (.iinc 3 1, 3) := by decide +kernel
theorem dX3_cut_61 : decode cX3_cut 61 = .ok (.goto (-55), 3) := by decide +kernel
theorem dX3_cut_64 : decode cX3_cut 64 = .ok (.aload_n 0, 1) := by decide +kernel
theorem dX3_cut_65 : decode cX3_cut 65 = .ok (.getfield 26, 3) := by decide +kernel
theorem dX3_cut_68 : decode cX3_cut 68 = .ok (.iload_n 1, 1) := by decide +kernel
theorem dX3_cut_69 : decode cX3_cut 69 = .ok (.bipush (-8), 2) := by decide +kernel
theorem dX3_cut_71 : decode cX3_cut 71 = .ok (.iastore, 1) := by decide +kernel
theorem dX3_cut_72 : decode cX3_cut 72 = .ok (.aload_n 0, 1) := by decide +kernel
theorem dX3_cut_73 : decode cX3_cut 73 = .ok (.getfield 29, 3) := by decide +kernel
theorem dX3_cut_76 : decode cX3_cut 76 = .ok (.iload_n 1, 1) := by decide +kernel
theorem dX3_cut_77 : decode cX3_cut 77 = .ok (.aload_n 0, 1) := by decide +kernel
theorem dX3_cut_78 : decode cX3_cut 78 = .ok (.getfield 9, 3) := by decide +kernel
theorem dX3_cut_81 : decode cX3_cut 81 = .ok (.iastore, 1) := by decide +kernel
theorem dX3_cut_82 : decode cX3_cut 82 = .ok (.return_, 1) := by decide +kernel
theorem dX3_isLetter_0 : decode cX3_isLetter 0 = .ok (.iload_n 0, 1) := by decide +kernel
theorem dX3_isLetter_1 : decode cX3_isLetter 1 = .ok (.bipush 97, 2) := by decide +kernel
theorem dX3_isLetter_3 : decode cX3_isLetter 3 = .ok (.if_icmp .lt 13, 3) := by decide +kernel
theorem dX3_isLetter_6 : decode cX3_isLetter 6 = .ok (.iload_n 0, 1) := by decide +kernel
theorem dX3_isLetter_7 : decode cX3_isLetter 7 = .ok (.bipush 122, 2) := by decide +kernel
theorem dX3_isLetter_9 : decode cX3_isLetter 9 = .ok (.if_icmp .gt 7, 3) := by decide +kernel
theorem dX3_isLetter_12 : decode cX3_isLetter 12 = .ok (.iconst 1, 1) := by decide +kernel
theorem dX3_isLetter_13 : decode cX3_isLetter 13 = .ok (.goto 4, 3) := by decide +kernel
theorem dX3_isLetter_16 : decode cX3_isLetter 16 = .ok (.iconst 0, 1) := by decide +kernel
theorem dX3_isLetter_17 : decode cX3_isLetter 17 = .ok (.ireturn, 1) := by decide +kernel
theorem dX3_isDigit_0 : decode cX3_isDigit 0 = .ok (.iload_n 0, 1) := by decide +kernel
theorem dX3_isDigit_1 : decode cX3_isDigit 1 = .ok (.bipush 48, 2) := by decide +kernel
theorem dX3_isDigit_3 : decode cX3_isDigit 3 = .ok (.if_icmp .lt 13, 3) := by decide +kernel
theorem dX3_isDigit_6 : decode cX3_isDigit 6 = .ok (.iload_n 0, 1) := by decide +kernel
theorem dX3_isDigit_7 : decode cX3_isDigit 7 = .ok (.bipush 57, 2) := by decide +kernel
theorem dX3_isDigit_9 : decode cX3_isDigit 9 = .ok (.if_icmp .gt 7, 3) := by decide +kernel
theorem dX3_isDigit_12 : decode cX3_isDigit 12 = .ok (.iconst 1, 1) := by decide +kernel
theorem dX3_isDigit_13 : decode cX3_isDigit 13 = .ok (.goto 4, 3) := by decide +kernel
theorem dX3_isDigit_16 : decode cX3_isDigit 16 = .ok (.iconst 0, 1) := by decide +kernel
theorem dX3_isDigit_17 : decode cX3_isDigit 17 = .ok (.ireturn, 1) := by decide +kernel
theorem dX3_rowEnd_0 : decode cX3_rowEnd 0 = .ok (.aload_n 0, 1) := by decide +kernel
theorem dX3_rowEnd_1 : decode cX3_rowEnd 1 = .ok (.getfield 15, 3) := by decide +kernel
theorem dX3_rowEnd_4 : decode cX3_rowEnd 4 = .ok (.iload_n 1, 1) := by decide +kernel
theorem dX3_rowEnd_5 : decode cX3_rowEnd 5 = .ok (.iaload, 1) := by decide +kernel
theorem dX3_rowEnd_6 : decode cX3_rowEnd 6 = .ok (.invokestatic 65, 3) := by decide +kernel
theorem dX3_rowEnd_9 : decode cX3_rowEnd 9 = .ok (.istore_n 2, 1) := by decide +kernel
theorem dX3_rowEnd_10 : decode cX3_rowEnd 10 = .ok (.aload_n 0, 1) := by decide +kernel
theorem dX3_rowEnd_11 : decode cX3_rowEnd 11 = .ok (.getfield 15, 3) := by decide +kernel
theorem dX3_rowEnd_14 : decode cX3_rowEnd 14 = .ok (.iload_n 1, 1) := by decide +kernel
theorem dX3_rowEnd_15 : decode cX3_rowEnd 15 = .ok (.iaload, 1) := by decide +kernel
theorem dX3_rowEnd_16 : decode cX3_rowEnd 16 = .ok (.invokestatic 68, 3) := by decide +kernel
theorem dX3_rowEnd_19 : decode cX3_rowEnd 19 = .ok (.istore_n 3, 1) := by decide +kernel
theorem dX3_rowEnd_20 : decode cX3_rowEnd 20 = .ok (.iload_n 1, 1) := by decide +kernel
theorem dX3_rowEnd_21 : decode cX3_rowEnd 21 = .ok (.iconst 1, 1) := by decide +kernel
theorem dX3_rowEnd_22 : decode cX3_rowEnd 22 = .ok (.iadd, 1) := by decide +kernel
theorem dX3_rowEnd_23 : decode cX3_rowEnd 23 = .ok (.istore 4, 2) := by decide +kernel
theorem dX3_rowEnd_25 : decode cX3_rowEnd 25 = .ok (.iload 4, 2) := by decide +kernel
theorem dX3_rowEnd_27 : decode cX3_rowEnd 27 = .ok (.aload_n 0, 1) := by decide +kernel
theorem dX3_rowEnd_28 : decode cX3_rowEnd 28 = .ok (.getfield 9, 3) := by decide +kernel
theorem dX3_rowEnd_31 : decode cX3_rowEnd 31 = .ok (.if_icmp .ge 43, 3) := by decide +kernel
theorem dX3_rowEnd_34 : decode cX3_rowEnd 34 = .ok (.iload_n 2, 1) := by decide +kernel
theorem dX3_rowEnd_35 : decode cX3_rowEnd 35 = .ok (.ifCond .eq 16, 3) := by decide +kernel
theorem dX3_rowEnd_38 : decode cX3_rowEnd 38 = .ok (.aload_n 0, 1) := by decide +kernel
theorem dX3_rowEnd_39 : decode cX3_rowEnd 39 = .ok (.getfield 15, 3) := by decide +kernel
theorem dX3_rowEnd_42 : decode cX3_rowEnd 42 = .ok (.iload 4, 2) := by decide +kernel
theorem dX3_rowEnd_44 : decode cX3_rowEnd 44 = .ok (.iaload, 1) := by decide +kernel
theorem dX3_rowEnd_45 : decode cX3_rowEnd 45 = .ok (.invokestatic 65, 3) := by decide +kernel
theorem dX3_rowEnd_48 : decode cX3_rowEnd 48 = .ok (.ifCond .ne 20, 3) := by decide +kernel
theorem dX3_rowEnd_51 : decode cX3_rowEnd 51 = .ok (.iload_n 3, 1) := by decide +kernel
theorem dX3_rowEnd_52 : decode cX3_rowEnd 52 = .ok (.ifCond .eq 22, 3) := by decide +kernel
theorem dX3_rowEnd_55 : decode cX3_rowEnd 55 = .ok (.aload_n 0, 1) := by decide +kernel
theorem dX3_rowEnd_56 : decode cX3_rowEnd 56 = .ok (.getfield 15, 3) := by decide +kernel
theorem dX3_rowEnd_59 : decode cX3_rowEnd 59 = .ok (.iload 4, 2) := by decide +kernel
theorem dX3_rowEnd_61 : decode cX3_rowEnd 61 = .ok (.iaload, 1) := by decide +kernel
theorem dX3_rowEnd_62 : decode cX3_rowEnd 62 = .ok (.invokestatic 68, 3) := by decide +kernel
theorem dX3_rowEnd_65 : decode cX3_rowEnd 65 = .ok (.ifCond .eq 9, 3) := by decide +kernel
theorem dX3_rowEnd_68 : decode cX3_rowEnd 68 = .ok (.iinc 4 1, 3) := by decide +kernel
theorem dX3_rowEnd_71 : decode cX3_rowEnd 71 = .ok (.goto (-46), 3) := by decide +kernel
theorem dX3_rowEnd_74 : decode cX3_rowEnd 74 = .ok (.iload 4, 2) := by decide +kernel
theorem dX3_rowEnd_76 : decode cX3_rowEnd 76 = .ok (.ireturn, 1) := by decide +kernel
theorem dX3_tokenOf_0 : decode cX3_tokenOf 0 = .ok (.aload_n 0, 1) := by decide +kernel
theorem dX3_tokenOf_1 : decode cX3_tokenOf 1 = .ok (.getfield 15, 3) := by decide +kernel
theorem dX3_tokenOf_4 : decode cX3_tokenOf 4 = .ok (.iload_n 1, 1) := by decide +kernel
theorem dX3_tokenOf_5 : decode cX3_tokenOf 5 = .ok (.iaload, 1) := by decide +kernel
theorem dX3_tokenOf_6 : decode cX3_tokenOf 6 = .ok (.bipush 59, 2) := by decide +kernel
theorem dX3_tokenOf_8 : decode cX3_tokenOf 8 = .ok (.if_icmp .ne 6, 3) := by decide +kernel
theorem dX3_tokenOf_11 : decode cX3_tokenOf 11 = .ok (.bipush (-7), 2) := by decide +kernel
theorem dX3_tokenOf_13 : decode cX3_tokenOf 13 = .ok (.ireturn, 1) := by decide +kernel
theorem dX3_tokenOf_14 : decode cX3_tokenOf 14 = .ok (.aload_n 0, 1) := by decide +kernel
theorem dX3_tokenOf_15 : decode cX3_tokenOf 15 = .ok (.getfield 15, 3) := by decide +kernel
theorem dX3_tokenOf_18 : decode cX3_tokenOf 18 = .ok (.iload_n 1, 1) := by decide +kernel
theorem dX3_tokenOf_19 : decode cX3_tokenOf 19 = .ok (.iaload, 1) := by decide +kernel
theorem dX3_tokenOf_20 : decode cX3_tokenOf 20 = .ok (.invokestatic 68, 3) := by decide +kernel
theorem dX3_tokenOf_23 : decode cX3_tokenOf 23 = .ok (.ifCond .eq 10, 3) := by decide +kernel
theorem dX3_tokenOf_26 : decode cX3_tokenOf 26 = .ok (.aload_n 0, 1) := by decide +kernel
theorem dX3_tokenOf_27 : decode cX3_tokenOf 27 = .ok (.iload_n 1, 1) := by decide +kernel
theorem dX3_tokenOf_28 : decode cX3_tokenOf 28 = .ok (.iload_n 2, 1) := by decide +kernel
theorem dX3_tokenOf_29 : decode cX3_tokenOf 29 = .ok (.invokevirtual 71, 3) := by decide +kernel
theorem dX3_tokenOf_32 : decode cX3_tokenOf 32 = .ok (.ireturn, 1) := by decide +kernel
theorem dX3_tokenOf_33 : decode cX3_tokenOf 33 = .ok (.aload_n 0, 1) := by decide +kernel
theorem dX3_tokenOf_34 : decode cX3_tokenOf 34 = .ok (.iload_n 1, 1) := by decide +kernel
theorem dX3_tokenOf_35 : decode cX3_tokenOf 35 = .ok (.iload_n 2, 1) := by decide +kernel
theorem dX3_tokenOf_36 : decode cX3_tokenOf 36 = .ok (.ldc 74, 2) := by decide +kernel
theorem dX3_tokenOf_38 : decode cX3_tokenOf 38 = .ok (.invokevirtual 76, 3) := by decide +kernel
theorem dX3_tokenOf_41 : decode cX3_tokenOf 41 = .ok (.ifCond .eq 5, 3) := by decide +kernel
theorem dX3_tokenOf_44 : decode cX3_tokenOf 44 = .ok (.iconst (-1), 1) := by decide +kernel
theorem dX3_tokenOf_45 : decode cX3_tokenOf 45 = .ok (.ireturn, 1) := by decide +kernel
theorem dX3_tokenOf_46 : decode cX3_tokenOf 46 = .ok (.aload_n 0, 1) := by decide +kernel
theorem dX3_tokenOf_47 : decode cX3_tokenOf 47 = .ok (.iload_n 1, 1) := by decide +kernel
theorem dX3_tokenOf_48 : decode cX3_tokenOf 48 = .ok (.iload_n 2, 1) := by decide +kernel
theorem dX3_tokenOf_49 : decode cX3_tokenOf 49 = .ok (.ldc 80, 2) := by decide +kernel
theorem dX3_tokenOf_51 : decode cX3_tokenOf 51 = .ok (.invokevirtual 76, 3) := by decide +kernel
theorem dX3_tokenOf_54 : decode cX3_tokenOf 54 = .ok (.ifCond .eq 6, 3) := by decide +kernel
theorem dX3_tokenOf_57 : decode cX3_tokenOf 57 = .ok (.bipush (-2), 2) := by decide +kernel
theorem dX3_tokenOf_59 : decode cX3_tokenOf 59 = .ok (.ireturn, 1) := by decide +kernel
theorem dX3_tokenOf_60 : decode cX3_tokenOf 60 = .ok (.aload_n 0, 1) := by decide +kernel
theorem dX3_tokenOf_61 : decode cX3_tokenOf 61 = .ok (.iload_n 1, 1) := by decide +kernel
theorem dX3_tokenOf_62 : decode cX3_tokenOf 62 = .ok (.iload_n 2, 1) := by decide +kernel
theorem dX3_tokenOf_63 : decode cX3_tokenOf 63 = .ok (.ldc 82, 2) := by decide +kernel
theorem dX3_tokenOf_65 : decode cX3_tokenOf 65 = .ok (.invokevirtual 76, 3) := by decide +kernel
theorem dX3_tokenOf_68 : decode cX3_tokenOf 68 = .ok (.ifCond .eq 6, 3) := by decide +kernel
theorem dX3_tokenOf_71 : decode cX3_tokenOf 71 = .ok (.bipush (-3), 2) := by decide +kernel
theorem dX3_tokenOf_73 : decode cX3_tokenOf 73 = .ok (.ireturn, 1) := by decide +kernel
theorem dX3_tokenOf_74 : decode cX3_tokenOf 74 = .ok (.aload_n 0, 1) := by decide +kernel
theorem dX3_tokenOf_75 : decode cX3_tokenOf 75 = .ok (.iload_n 1, 1) := by decide +kernel
theorem dX3_tokenOf_76 : decode cX3_tokenOf 76 = .ok (.iload_n 2, 1) := by decide +kernel
theorem dX3_tokenOf_77 : decode cX3_tokenOf 77 = .ok (.ldc 84, 2) := by decide +kernel
theorem dX3_tokenOf_79 : decode cX3_tokenOf 79 = .ok (.invokevirtual 76, 3) := by decide +kernel
theorem dX3_tokenOf_82 : decode cX3_tokenOf 82 = .ok (.ifCond .eq 6, 3) := by decide +kernel
theorem dX3_tokenOf_85 : decode cX3_tokenOf 85 = .ok (.bipush (-4), 2) := by decide +kernel
theorem dX3_tokenOf_87 : decode cX3_tokenOf 87 = .ok (.ireturn, 1) := by decide +kernel
theorem dX3_tokenOf_88 : decode cX3_tokenOf 88 = .ok (.aload_n 0, 1) := by decide +kernel
theorem dX3_tokenOf_89 : decode cX3_tokenOf 89 = .ok (.iload_n 1, 1) := by decide +kernel
theorem dX3_tokenOf_90 : decode cX3_tokenOf 90 = .ok (.iload_n 2, 1) := by decide +kernel
theorem dX3_tokenOf_91 : decode cX3_tokenOf 91 = .ok (.ldc 86, 2) := by decide +kernel
theorem dX3_tokenOf_93 : decode cX3_tokenOf 93 = .ok (.invokevirtual 76, 3) := by decide +kernel
theorem dX3_tokenOf_96 : decode cX3_tokenOf 96 = .ok (.ifCond .eq 6, 3) := by decide +kernel
theorem dX3_tokenOf_99 : decode cX3_tokenOf 99 = .ok (.bipush (-5), 2) := by decide +kernel
theorem dX3_tokenOf_101 : decode cX3_tokenOf 101 = .ok (.ireturn, 1) := by decide +kernel
theorem dX3_tokenOf_102 : decode cX3_tokenOf 102 = .ok (.aload_n 0, 1) := by decide +kernel
theorem dX3_tokenOf_103 : decode cX3_tokenOf 103 = .ok (.iload_n 1, 1) := by decide +kernel
theorem dX3_tokenOf_104 : decode cX3_tokenOf 104 = .ok (.iload_n 2, 1) := by decide +kernel
theorem dX3_tokenOf_105 : decode cX3_tokenOf 105 = .ok (.ldc 88, 2) := by decide +kernel
theorem dX3_tokenOf_107 : decode cX3_tokenOf 107 = .ok (.invokevirtual 76, 3) := by decide +kernel
theorem dX3_tokenOf_110 : decode cX3_tokenOf 110 = .ok (.ifCond .eq 6, 3) := by decide +kernel
theorem dX3_tokenOf_113 : decode cX3_tokenOf 113 = .ok (.bipush (-6), 2) := by decide +kernel
theorem dX3_tokenOf_115 : decode cX3_tokenOf 115 = .ok (.ireturn, 1) := by decide +kernel
theorem dX3_tokenOf_116 : decode cX3_tokenOf 116 = .ok (.bipush (-9), 2) := by decide +kernel
theorem dX3_tokenOf_118 : decode cX3_tokenOf 118 = .ok (.ireturn, 1) := by decide +kernel
theorem dX3_numberOf_0 : decode cX3_numberOf 0 = .ok (.iload_n 2, 1) := by decide +kernel
theorem dX3_numberOf_1 : decode cX3_numberOf 1 = .ok (.iload_n 1, 1) := by decide +kernel
theorem dX3_numberOf_2 : decode cX3_numberOf 2 = .ok (.isub, 1) := by decide +kernel
theorem dX3_numberOf_3 : decode cX3_numberOf 3 = .ok (.iconst 3, 1) := by decide +kernel
theorem dX3_numberOf_4 : decode cX3_numberOf 4 = .ok (.if_icmp .gt 21, 3) := by decide +kernel
theorem dX3_numberOf_7 : decode cX3_numberOf 7 = .ok (.aload_n 0, 1) := by decide +kernel
theorem dX3_numberOf_8 : decode cX3_numberOf 8 = .ok (.getfield 15, 3) := by decide +kernel
theorem dX3_numberOf_11 : decode cX3_numberOf 11 = .ok (.iload_n 1, 1) := by decide +kernel
theorem dX3_numberOf_12 : decode cX3_numberOf 12 = .ok (.iaload, 1) := by decide +kernel
theorem dX3_numberOf_13 : decode cX3_numberOf 13 = .ok (.bipush 48, 2) := by decide +kernel
theorem dX3_numberOf_15 : decode cX3_numberOf 15 = .ok (.if_icmp .ne 13, 3) := by decide +kernel
theorem dX3_numberOf_18 : decode cX3_numberOf 18 = .ok (.iload_n 2, 1) := by decide +kernel
theorem dX3_numberOf_19 : decode cX3_numberOf 19 = .ok (.iload_n 1, 1) := by decide +kernel
theorem dX3_numberOf_20 : decode cX3_numberOf 20 = .ok (.isub, 1) := by decide +kernel
theorem dX3_numberOf_21 : decode cX3_numberOf 21 = .ok (.iconst 1, 1) := by decide +kernel
theorem dX3_numberOf_22 : decode cX3_numberOf 22 = .ok (.if_icmp .le 6, 3) := by decide +kernel
theorem dX3_numberOf_25 : decode cX3_numberOf 25 = .ok (.bipush (-9), 2) := by decide +kernel
theorem dX3_numberOf_27 : decode cX3_numberOf 27 = .ok (.ireturn, 1) := by decide +kernel
theorem dX3_numberOf_28 : decode cX3_numberOf 28 = .ok (.iconst 0, 1) := by decide +kernel
theorem dX3_numberOf_29 : decode cX3_numberOf 29 = .ok (.istore_n 3, 1) := by decide +kernel
theorem dX3_numberOf_30 : decode cX3_numberOf 30 = .ok (.iload_n 1, 1) := by decide +kernel
theorem dX3_numberOf_31 : decode cX3_numberOf 31 = .ok (.istore 4, 2) := by decide +kernel
theorem dX3_numberOf_33 : decode cX3_numberOf 33 = .ok (.iload 4, 2) := by decide +kernel
theorem dX3_numberOf_35 : decode cX3_numberOf 35 = .ok (.iload_n 2, 1) := by decide +kernel
theorem dX3_numberOf_36 : decode cX3_numberOf 36 = .ok (.if_icmp .ge 25, 3) := by decide +kernel
theorem dX3_numberOf_39 : decode cX3_numberOf 39 = .ok (.bipush 10, 2) := by decide +kernel
theorem dX3_numberOf_41 : decode cX3_numberOf 41 = .ok (.iload_n 3, 1) := by decide +kernel
theorem dX3_numberOf_42 : decode cX3_numberOf 42 = .ok (.imul, 1) := by decide +kernel
theorem dX3_numberOf_43 : decode cX3_numberOf 43 = .ok (.aload_n 0, 1) := by decide +kernel
theorem dX3_numberOf_44 : decode cX3_numberOf 44 = .ok (.getfield 15, 3) := by decide +kernel
theorem dX3_numberOf_47 : decode cX3_numberOf 47 = .ok (.iload 4, 2) := by decide +kernel
theorem dX3_numberOf_49 : decode cX3_numberOf 49 = .ok (.iaload, 1) := by decide +kernel
theorem dX3_numberOf_50 : decode cX3_numberOf 50 = .ok (.iadd, 1) := by decide +kernel
theorem dX3_numberOf_51 : decode cX3_numberOf 51 = .ok (.bipush 48, 2) := by decide +kernel
theorem dX3_numberOf_53 : decode cX3_numberOf 53 = .ok (.isub, 1) := by decide +kernel
theorem dX3_numberOf_54 : decode cX3_numberOf 54 = .ok (.istore_n 3, 1) := by decide +kernel
theorem dX3_numberOf_55 : decode cX3_numberOf 55 = .ok (.iinc 4 1, 3) := by decide +kernel
theorem dX3_numberOf_58 : decode cX3_numberOf 58 = .ok (.goto (-25), 3) := by decide +kernel
theorem dX3_numberOf_61 : decode cX3_numberOf 61 = .ok (.iload_n 3, 1) := by decide +kernel
theorem dX3_numberOf_62 : decode cX3_numberOf 62 = .ok (.bipush 100, 2) := by decide +kernel
theorem dX3_numberOf_64 : decode cX3_numberOf 64 = .ok (.if_icmp .le 8, 3) := by decide +kernel
theorem dX3_numberOf_67 : decode cX3_numberOf 67 = .ok (.bipush (-9), 2) := by decide +kernel
theorem dX3_numberOf_69 : decode cX3_numberOf 69 = .ok (.goto 4, 3) := by decide +kernel
theorem dX3_numberOf_72 : decode cX3_numberOf 72 = .ok (.iload_n 3, 1) := by decide +kernel
theorem dX3_numberOf_73 : decode cX3_numberOf 73 = .ok (.ireturn, 1) := by decide +kernel
theorem dX3_spells_0 : decode cX3_spells 0 = .ok (.iload_n 2, 1) := by decide +kernel
theorem dX3_spells_1 : decode cX3_spells 1 = .ok (.iload_n 1, 1) := by decide +kernel
theorem dX3_spells_2 : decode cX3_spells 2 = .ok (.isub, 1) := by decide +kernel
theorem dX3_spells_3 : decode cX3_spells 3 = .ok (.aload_n 3, 1) := by decide +kernel
theorem dX3_spells_4 : decode cX3_spells 4 = .ok (.invokevirtual 90, 3) := by decide +kernel
theorem dX3_spells_7 : decode cX3_spells 7 = .ok (.if_icmp .eq 5, 3) := by decide +kernel
theorem dX3_spells_10 : decode cX3_spells 10 = .ok (.iconst 0, 1) := by decide +kernel
theorem dX3_spells_11 : decode cX3_spells 11 = .ok (.ireturn, 1) := by decide +kernel
theorem dX3_spells_12 : decode cX3_spells 12 = .ok (.iconst 0, 1) := by decide +kernel
theorem dX3_spells_13 : decode cX3_spells 13 = .ok (.istore 4, 2) := by decide +kernel
theorem dX3_spells_15 : decode cX3_spells 15 = .ok (.iload 4, 2) := by decide +kernel
theorem dX3_spells_17 : decode cX3_spells 17 = .ok (.aload_n 3, 1) := by decide +kernel
theorem dX3_spells_18 : decode cX3_spells 18 = .ok (.invokevirtual 90, 3) := by decide +kernel
theorem dX3_spells_21 : decode cX3_spells 21 = .ok (.if_icmp .ge 29, 3) := by decide +kernel
theorem dX3_spells_24 : decode cX3_spells 24 = .ok (.aload_n 0, 1) := by decide +kernel
theorem dX3_spells_25 : decode cX3_spells 25 = .ok (.getfield 15, 3) := by decide +kernel
theorem dX3_spells_28 : decode cX3_spells 28 = .ok (.iload_n 1, 1) := by decide +kernel
theorem dX3_spells_29 : decode cX3_spells 29 = .ok (.iload 4, 2) := by decide +kernel
theorem dX3_spells_31 : decode cX3_spells 31 = .ok (.iadd, 1) := by decide +kernel
theorem dX3_spells_32 : decode cX3_spells 32 = .ok (.iaload, 1) := by decide +kernel
theorem dX3_spells_33 : decode cX3_spells 33 = .ok (.aload_n 3, 1) := by decide +kernel
theorem dX3_spells_34 : decode cX3_spells 34 = .ok (.iload 4, 2) := by decide +kernel
theorem dX3_spells_36 : decode cX3_spells 36 = .ok (.invokevirtual 94, 3) := by decide +kernel
theorem dX3_spells_39 : decode cX3_spells 39 = .ok (.if_icmp .eq 5, 3) := by decide +kernel
theorem dX3_spells_42 : decode cX3_spells 42 = .ok (.iconst 0, 1) := by decide +kernel
theorem dX3_spells_43 : decode cX3_spells 43 = .ok (.ireturn, 1) := by decide +kernel
theorem dX3_spells_44 : decode cX3_spells 44 = .ok (.iinc 4 1, 3) := by decide +kernel
theorem dX3_spells_47 : decode cX3_spells 47 = .ok (.goto (-32), 3) := by decide +kernel
theorem dX3_spells_50 : decode cX3_spells 50 = .ok (.iconst 1, 1) := by decide +kernel
theorem dX3_spells_51 : decode cX3_spells 51 = .ok (.ireturn, 1) := by decide +kernel
theorem dX3_seen_0 : decode cX3_seen 0 = .ok (.aload_n 0, 1) := by decide +kernel
theorem dX3_seen_1 : decode cX3_seen 1 = .ok (.getfield 42, 3) := by decide +kernel
theorem dX3_seen_4 : decode cX3_seen 4 = .ok (.aload_n 0, 1) := by decide +kernel
theorem dX3_seen_5 : decode cX3_seen 5 = .ok (.getfield 26, 3) := by decide +kernel
theorem dX3_seen_8 : decode cX3_seen 8 = .ok (.arraylength, 1) := by decide +kernel
theorem dX3_seen_9 : decode cX3_seen 9 = .ok (.if_icmp .ge 15, 3) := by decide +kernel
theorem dX3_seen_12 : decode cX3_seen 12 = .ok (.aload_n 0, 1) := by decide +kernel
theorem dX3_seen_13 : decode cX3_seen 13 = .ok (.getfield 26, 3) := by decide +kernel
theorem dX3_seen_16 : decode cX3_seen 16 = .ok (.aload_n 0, 1) := by decide +kernel
theorem dX3_seen_17 : decode cX3_seen 17 = .ok (.getfield 42, 3) := by decide +kernel
theorem dX3_seen_20 : decode cX3_seen 20 = .ok (.iaload, 1) := by decide +kernel
theorem dX3_seen_21 : decode cX3_seen 21 = .ok (.goto 5, 3) := by decide +kernel
theorem dX3_seen_24 : decode cX3_seen 24 = .ok (.bipush (-8), 2) := by decide +kernel
theorem dX3_seen_26 : decode cX3_seen 26 = .ok (.ireturn, 1) := by decide +kernel
theorem dX3_readNumber_0 : decode cX3_readNumber 0 = .ok (.aload_n 0, 1) := by decide +kernel
theorem dX3_readNumber_1 : decode cX3_readNumber 1 = .ok (.invokevirtual 45, 3) := by decide +kernel
theorem dX3_readNumber_4 : decode cX3_readNumber 4 = .ok (.istore_n 3, 1) := by decide +kernel
theorem dX3_readNumber_5 : decode cX3_readNumber 5 = .ok (.iload_n 3, 1) := by decide +kernel
theorem dX3_readNumber_6 : decode cX3_readNumber 6 = .ok (.iload_n 1, 1) := by decide +kernel
theorem dX3_readNumber_7 : decode cX3_readNumber 7 = .ok (.iload_n 2, 1) := by decide +kernel
theorem dX3_readNumber_8 : decode cX3_readNumber 8 = .ok (.invokestatic 98, 3) := by decide +kernel
theorem dX3_readNumber_11 : decode cX3_readNumber 11 = .ok (.ifCond .ne 5, 3) := by decide +kernel
theorem dX3_readNumber_14 : decode cX3_readNumber 14 = .ok (.iconst (-1), 1) := by decide +kernel
theorem dX3_readNumber_15 : decode cX3_readNumber 15 = .ok (.ireturn, 1) := by decide +kernel
theorem dX3_readNumber_16 : decode cX3_readNumber 16 = .ok (.aload_n 0, 1) := by decide +kernel
theorem dX3_readNumber_17 : decode cX3_readNumber 17 = .ok (.dup, 1) := by decide +kernel
theorem dX3_readNumber_18 : decode cX3_readNumber 18 = .ok (.getfield 42, 3) := by decide +kernel
theorem dX3_readNumber_21 : decode cX3_readNumber 21 = .ok (.iconst 1, 1) := by decide +kernel
theorem dX3_readNumber_22 : decode cX3_readNumber 22 = .ok (.iadd, 1) := by decide +kernel
theorem dX3_readNumber_23 : decode cX3_readNumber 23 = .ok (.putfield 42, 3) := by decide +kernel
theorem dX3_readNumber_26 : decode cX3_readNumber 26 = .ok (.iload_n 3, 1) := by decide +kernel
theorem dX3_readNumber_27 : decode cX3_readNumber 27 = .ok (.ireturn, 1) := by decide +kernel
theorem dX3_readWord_0 : decode cX3_readWord 0 = .ok (.aload_n 0, 1) := by decide +kernel
theorem dX3_readWord_1 : decode cX3_readWord 1 = .ok (.invokevirtual 45, 3) := by decide +kernel
theorem dX3_readWord_4 : decode cX3_readWord 4 = .ok (.iload_n 1, 1) := by decide +kernel
theorem dX3_readWord_5 : decode cX3_readWord 5 = .ok (.if_icmp .eq 5, 3) := by decide +kernel
theorem dX3_readWord_8 : decode cX3_readWord 8 = .ok (.iconst 0, 1) := by decide +kernel
theorem dX3_readWord_9 : decode cX3_readWord 9 = .ok (.ireturn, 1) := by decide +kernel
theorem dX3_readWord_10 : decode cX3_readWord 10 = .ok (.aload_n 0, 1) := by decide +kernel
theorem dX3_readWord_11 : decode cX3_readWord 11 = .ok (.dup, 1) := by decide +kernel
theorem dX3_readWord_12 : decode cX3_readWord 12 = .ok (.getfield 42, 3) := by decide +kernel
theorem dX3_readWord_15 : decode cX3_readWord 15 = .ok (.iconst 1, 1) := by decide +kernel
theorem dX3_readWord_16 : decode cX3_readWord 16 = .ok (.iadd, 1) := by decide +kernel
theorem dX3_readWord_17 : decode cX3_readWord 17 = .ok (.putfield 42, 3) := by decide +kernel
theorem dX3_readWord_20 : decode cX3_readWord 20 = .ok (.iconst 1, 1) := by decide +kernel
theorem dX3_readWord_21 : decode cX3_readWord 21 = .ok (.ireturn, 1) := by decide +kernel
theorem dX3_readItem_0 : decode cX3_readItem 0 = .ok (.aload_n 0, 1) := by decide +kernel
theorem dX3_readItem_1 : decode cX3_readItem 1 = .ok (.invokevirtual 45, 3) := by decide +kernel
theorem dX3_readItem_4 : decode cX3_readItem 4 = .ok (.tableswitch 114 (-6) (-1) #[109, 114, 114, 89, 65, 40], 40) := by decide +kernel
theorem dX3_readItem_44 : decode cX3_readItem 44 = .ok (.aload_n 0, 1) := by decide +kernel
theorem dX3_readItem_45 : decode cX3_readItem 45 = .ok (.getfield 22, 3) := by decide +kernel
theorem dX3_readItem_48 : decode cX3_readItem 48 = .ok (.getfield 102, 3) := by decide +kernel
theorem dX3_readItem_51 : decode cX3_readItem 51 = .ok (.bipush 8, 2) := by decide +kernel
theorem dX3_readItem_53 : decode cX3_readItem 53 = .ok (.if_icmp .ge 14, 3) := by decide +kernel
theorem dX3_readItem_56 : decode cX3_readItem 56 = .ok (.aload_n 0, 1) := by decide +kernel
theorem dX3_readItem_57 : decode cX3_readItem 57 = .ok (.invokevirtual 105, 3) := by decide +kernel
theorem dX3_readItem_60 : decode cX3_readItem 60 = .ok (.ifCond .eq 7, 3) := by decide +kernel
theorem dX3_readItem_63 : decode cX3_readItem 63 = .ok (.iconst 1, 1) := by decide +kernel
theorem dX3_readItem_64 : decode cX3_readItem 64 = .ok (.goto 4, 3) := by decide +kernel
theorem dX3_readItem_67 : decode cX3_readItem 67 = .ok (.iconst 0, 1) := by decide +kernel
theorem dX3_readItem_68 : decode cX3_readItem 68 = .ok (.ireturn, 1) := by decide +kernel
theorem dX3_readItem_69 : decode cX3_readItem 69 = .ok (.aload_n 0, 1) := by decide +kernel
theorem dX3_readItem_70 : decode cX3_readItem 70 = .ok (.getfield 22, 3) := by decide +kernel
theorem dX3_readItem_73 : decode cX3_readItem 73 = .ok (.getfield 108, 3) := by decide +kernel
theorem dX3_readItem_76 : decode cX3_readItem 76 = .ok (.iconst 4, 1) := by decide +kernel
theorem dX3_readItem_77 : decode cX3_readItem 77 = .ok (.if_icmp .ge 14, 3) := by decide +kernel
theorem dX3_readItem_80 : decode cX3_readItem 80 = .ok (.aload_n 0, 1) := by decide +kernel
theorem dX3_readItem_81 : decode cX3_readItem 81 = .ok (.invokevirtual 111, 3) := by decide +kernel
theorem dX3_readItem_84 : decode cX3_readItem 84 = .ok (.ifCond .eq 7, 3) := by decide +kernel
theorem dX3_readItem_87 : decode cX3_readItem 87 = .ok (.iconst 1, 1) := by decide +kernel
theorem dX3_readItem_88 : decode cX3_readItem 88 = .ok (.goto 4, 3) := by decide +kernel
theorem dX3_readItem_91 : decode cX3_readItem 91 = .ok (.iconst 0, 1) := by decide +kernel
theorem dX3_readItem_92 : decode cX3_readItem 92 = .ok (.ireturn, 1) := by decide +kernel
theorem dX3_readItem_93 : decode cX3_readItem 93 = .ok (.aload_n 0, 1) := by decide +kernel
theorem dX3_readItem_94 : decode cX3_readItem 94 = .ok (.getfield 38, 3) := by decide +kernel
theorem dX3_readItem_97 : decode cX3_readItem 97 = .ok (.ifCond .ne 14, 3) := by decide +kernel
theorem dX3_readItem_100 : decode cX3_readItem 100 = .ok (.aload_n 0, 1) := by decide +kernel
theorem dX3_readItem_101 : decode cX3_readItem 101 = .ok (.invokevirtual 114, 3) := by decide +kernel
theorem dX3_readItem_104 : decode cX3_readItem 104 = .ok (.ifCond .eq 7, 3) := by decide +kernel
theorem dX3_readItem_107 : decode cX3_readItem 107 = .ok (.iconst 1, 1) := by decide +kernel
theorem dX3_readItem_108 : decode cX3_readItem 108 = .ok (.goto 4, 3) := by decide +kernel
theorem dX3_readItem_111 : decode cX3_readItem 111 = .ok (.iconst 0, 1) := by decide +kernel
theorem dX3_readItem_112 : decode cX3_readItem 112 = .ok (.ireturn, 1) := by decide +kernel
theorem dX3_readItem_113 : decode cX3_readItem 113 = .ok (.aload_n 0, 1) := by decide +kernel
theorem dX3_readItem_114 : decode cX3_readItem 114 = .ok (.invokevirtual 117, 3) := by decide +kernel
theorem dX3_readItem_117 : decode cX3_readItem 117 = .ok (.ireturn, 1) := by decide +kernel
theorem dX3_readItem_118 : decode cX3_readItem 118 = .ok (.iconst 0, 1) := by decide +kernel
theorem dX3_readItem_119 : decode cX3_readItem 119 = .ok (.ireturn, 1) := by decide +kernel
theorem dX3_readChild_0 : decode cX3_readChild 0 = .ok (.aload_n 0, 1) := by decide +kernel
theorem dX3_readChild_1 : decode cX3_readChild 1 = .ok (.dup, 1) := by decide +kernel
theorem dX3_readChild_2 : decode cX3_readChild 2 = .ok (.getfield 42, 3) := by decide +kernel
theorem dX3_readChild_5 : decode cX3_readChild 5 = .ok (.iconst 1, 1) := by decide +kernel
theorem dX3_readChild_6 : decode cX3_readChild 6 = .ok (.iadd, 1) := by decide +kernel
theorem dX3_readChild_7 : decode cX3_readChild 7 = .ok (.putfield 42, 3) := by decide +kernel
theorem dX3_readChild_10 : decode cX3_readChild 10 = .ok (.aload_n 0, 1) := by decide +kernel
theorem dX3_readChild_11 : decode cX3_readChild 11 = .ok (.iconst 0, 1) := by decide +kernel
theorem dX3_readChild_12 : decode cX3_readChild 12 = .ok (.bipush 100, 2) := by decide +kernel
theorem dX3_readChild_14 : decode cX3_readChild 14 = .ok (.invokevirtual 120, 3) := by decide +kernel
theorem dX3_readChild_17 : decode cX3_readChild 17 = .ok (.istore_n 1, 1) := by decide +kernel
theorem dX3_readChild_18 : decode cX3_readChild 18 = .ok (.iload_n 1, 1) := by decide +kernel
theorem dX3_readChild_19 : decode cX3_readChild 19 = .ok (.ifCond .ge 5, 3) := by decide +kernel
theorem dX3_readChild_22 : decode cX3_readChild 22 = .ok (.iconst 0, 1) := by decide +kernel
theorem dX3_readChild_23 : decode cX3_readChild 23 = .ok (.ireturn, 1) := by decide +kernel
theorem dX3_readChild_24 : decode cX3_readChild 24 = .ok (.aload_n 0, 1) := by decide +kernel
theorem dX3_readChild_25 : decode cX3_readChild 25 = .ok (.iconst 1, 1) := by decide +kernel
theorem dX3_readChild_26 : decode cX3_readChild 26 = .ok (.bipush 9, 2) := by decide +kernel
theorem dX3_readChild_28 : decode cX3_readChild 28 = .ok (.invokevirtual 120, 3) := by decide +kernel
theorem dX3_readChild_31 : decode cX3_readChild 31 = .ok (.istore_n 2, 1) := by decide +kernel
theorem dX3_readChild_32 : decode cX3_readChild 32 = .ok (.iload_n 2, 1) := by decide +kernel
theorem dX3_readChild_33 : decode cX3_readChild 33 = .ok (.ifCond .ge 5, 3) := by decide +kernel
theorem dX3_readChild_36 : decode cX3_readChild 36 = .ok (.iconst 0, 1) := by decide +kernel
theorem dX3_readChild_37 : decode cX3_readChild 37 = .ok (.ireturn, 1) := by decide +kernel
theorem dX3_readChild_38 : decode cX3_readChild 38 = .ok (.aload_n 0, 1) := by decide +kernel
theorem dX3_readChild_39 : decode cX3_readChild 39 = .ok (.iconst 0, 1) := by decide +kernel
theorem dX3_readChild_40 : decode cX3_readChild 40 = .ok (.bipush 9, 2) := by decide +kernel
theorem dX3_readChild_42 : decode cX3_readChild 42 = .ok (.invokevirtual 120, 3) := by decide +kernel
theorem dX3_readChild_45 : decode cX3_readChild 45 = .ok (.istore_n 3, 1) := by decide +kernel
theorem dX3_readChild_46 : decode cX3_readChild 46 = .ok (.iload_n 3, 1) := by decide +kernel
theorem dX3_readChild_47 : decode cX3_readChild 47 = .ok (.ifCond .ge 5, 3) := by decide +kernel
theorem dX3_readChild_50 : decode cX3_readChild 50 = .ok (.iconst 0, 1) := by decide +kernel
theorem dX3_readChild_51 : decode cX3_readChild 51 = .ok (.ireturn, 1) := by decide +kernel
theorem dX3_readChild_52 : decode cX3_readChild 52 = .ok (.aload_n 0, 1) := by decide +kernel
theorem dX3_readChild_53 : decode cX3_readChild 53 = .ok (.getfield 22, 3) := by decide +kernel
theorem dX3_readChild_56 : decode cX3_readChild 56 = .ok (.iload_n 1, 1) := by decide +kernel
theorem dX3_readChild_57 : decode cX3_readChild 57 = .ok (.iload_n 2, 1) := by decide +kernel
theorem dX3_readChild_58 : decode cX3_readChild 58 = .ok (.iload_n 3, 1) := by decide +kernel
theorem dX3_readChild_59 : decode cX3_readChild 59 = .ok (.invokevirtual 123, 3) := by decide +kernel
theorem dX3_readChild_62 : decode cX3_readChild 62 = .ok (.iconst 1, 1) := by decide +kernel
theorem dX3_readChild_63 : decode cX3_readChild 63 = .ok (.ireturn, 1) := by decide +kernel
theorem dX3_readBook_0 : decode cX3_readBook 0 = .ok (.aload_n 0, 1) := by decide +kernel
theorem dX3_readBook_1 : decode cX3_readBook 1 = .ok (.dup, 1) := by decide +kernel
theorem dX3_readBook_2 : decode cX3_readBook 2 = .ok (.getfield 42, 3) := by decide +kernel
theorem dX3_readBook_5 : decode cX3_readBook 5 = .ok (.iconst 1, 1) := by decide +kernel
theorem dX3_readBook_6 : decode cX3_readBook 6 = .ok (.iadd, 1) := by decide +kernel
theorem dX3_readBook_7 : decode cX3_readBook 7 = .ok (.putfield 42, 3) := by decide +kernel
theorem dX3_readBook_10 : decode cX3_readBook 10 = .ok (.aload_n 0, 1) := by decide +kernel
theorem dX3_readBook_11 : decode cX3_readBook 11 = .ok (.iconst 1, 1) := by decide +kernel
theorem dX3_readBook_12 : decode cX3_readBook 12 = .ok (.bipush 9, 2) := by decide +kernel
theorem dX3_readBook_14 : decode cX3_readBook 14 = .ok (.invokevirtual 120, 3) := by decide +kernel
theorem dX3_readBook_17 : decode cX3_readBook 17 = .ok (.istore_n 1, 1) := by decide +kernel
theorem dX3_readBook_18 : decode cX3_readBook 18 = .ok (.iload_n 1, 1) := by decide +kernel
theorem dX3_readBook_19 : decode cX3_readBook 19 = .ok (.ifCond .ge 5, 3) := by decide +kernel
theorem dX3_readBook_22 : decode cX3_readBook 22 = .ok (.iconst 0, 1) := by decide +kernel
theorem dX3_readBook_23 : decode cX3_readBook 23 = .ok (.ireturn, 1) := by decide +kernel
theorem dX3_readBook_24 : decode cX3_readBook 24 = .ok (.aload_n 0, 1) := by decide +kernel
theorem dX3_readBook_25 : decode cX3_readBook 25 = .ok (.iconst 0, 1) := by decide +kernel
theorem dX3_readBook_26 : decode cX3_readBook 26 = .ok (.bipush 9, 2) := by decide +kernel
theorem dX3_readBook_28 : decode cX3_readBook 28 = .ok (.invokevirtual 120, 3) := by decide +kernel
theorem dX3_readBook_31 : decode cX3_readBook 31 = .ok (.istore_n 2, 1) := by decide +kernel
theorem dX3_readBook_32 : decode cX3_readBook 32 = .ok (.iload_n 2, 1) := by decide +kernel
theorem dX3_readBook_33 : decode cX3_readBook 33 = .ok (.ifCond .ge 5, 3) := by decide +kernel
theorem dX3_readBook_36 : decode cX3_readBook 36 = .ok (.iconst 0, 1) := by decide +kernel
theorem dX3_readBook_37 : decode cX3_readBook 37 = .ok (.ireturn, 1) := by decide +kernel
theorem dX3_readBook_38 : decode cX3_readBook 38 = .ok (.aload_n 0, 1) := by decide +kernel
theorem dX3_readBook_39 : decode cX3_readBook 39 = .ok (.getfield 22, 3) := by decide +kernel
theorem dX3_readBook_42 : decode cX3_readBook 42 = .ok (.iload_n 1, 1) := by decide +kernel
theorem dX3_readBook_43 : decode cX3_readBook 43 = .ok (.iload_n 2, 1) := by decide +kernel
theorem dX3_readBook_44 : decode cX3_readBook 44 = .ok (.invokevirtual 127, 3) := by decide +kernel
theorem dX3_readBook_47 : decode cX3_readBook 47 = .ok (.iconst 1, 1) := by decide +kernel
theorem dX3_readBook_48 : decode cX3_readBook 48 = .ok (.ireturn, 1) := by decide +kernel
theorem dX3_readPlan_0 : decode cX3_readPlan 0 = .ok (.aload_n 0, 1) := by decide +kernel
theorem dX3_readPlan_1 : decode cX3_readPlan 1 = .ok (.dup, 1) := by decide +kernel
theorem dX3_readPlan_2 : decode cX3_readPlan 2 = .ok (.getfield 42, 3) := by decide +kernel
theorem dX3_readPlan_5 : decode cX3_readPlan 5 = .ok (.iconst 1, 1) := by decide +kernel
theorem dX3_readPlan_6 : decode cX3_readPlan 6 = .ok (.iadd, 1) := by decide +kernel
theorem dX3_readPlan_7 : decode cX3_readPlan 7 = .ok (.putfield 42, 3) := by decide +kernel
theorem dX3_readPlan_10 : decode cX3_readPlan 10 = .ok (.aload_n 0, 1) := by decide +kernel
theorem dX3_readPlan_11 : decode cX3_readPlan 11 = .ok (.iconst 0, 1) := by decide +kernel
theorem dX3_readPlan_12 : decode cX3_readPlan 12 = .ok (.bipush 99, 2) := by decide +kernel
theorem dX3_readPlan_14 : decode cX3_readPlan 14 = .ok (.invokevirtual 120, 3) := by decide +kernel
theorem dX3_readPlan_17 : decode cX3_readPlan 17 = .ok (.istore_n 1, 1) := by decide +kernel
theorem dX3_readPlan_18 : decode cX3_readPlan 18 = .ok (.iload_n 1, 1) := by decide +kernel
theorem dX3_readPlan_19 : decode cX3_readPlan 19 = .ok (.ifCond .ge 5, 3) := by decide +kernel
theorem dX3_readPlan_22 : decode cX3_readPlan 22 = .ok (.iconst 0, 1) := by decide +kernel
theorem dX3_readPlan_23 : decode cX3_readPlan 23 = .ok (.ireturn, 1) := by decide +kernel
theorem dX3_readPlan_24 : decode cX3_readPlan 24 = .ok (.aload_n 0, 1) := by decide +kernel
theorem dX3_readPlan_25 : decode cX3_readPlan 25 = .ok (.iload_n 1, 1) := by decide +kernel
theorem dX3_readPlan_26 : decode cX3_readPlan 26 = .ok (.bipush 99, 2) := by decide +kernel
theorem dX3_readPlan_28 : decode cX3_readPlan 28 = .ok (.invokevirtual 120, 3) := by decide +kernel
theorem dX3_readPlan_31 : decode cX3_readPlan 31 = .ok (.istore_n 2, 1) := by decide +kernel
theorem dX3_readPlan_32 : decode cX3_readPlan 32 = .ok (.iload_n 2, 1) := by decide +kernel
theorem dX3_readPlan_33 : decode cX3_readPlan 33 = .ok (.ifCond .ge 5, 3) := by decide +kernel
theorem dX3_readPlan_36 : decode cX3_readPlan 36 = .ok (.iconst 0, 1) := by decide +kernel
theorem dX3_readPlan_37 : decode cX3_readPlan 37 = .ok (.ireturn, 1) := by decide +kernel
theorem dX3_readPlan_38 : decode cX3_readPlan 38 = .ok (.aload_n 0, 1) := by decide +kernel
theorem dX3_readPlan_39 : decode cX3_readPlan 39 = .ok (.bipush (-4), 2) := by decide +kernel
theorem dX3_readPlan_41 : decode cX3_readPlan 41 = .ok (.invokevirtual 53, 3) := by decide +kernel
theorem dX3_readPlan_44 : decode cX3_readPlan 44 = .ok (.ifCond .ne 7, 3) := by decide +kernel
theorem dX3_readPlan_47 : decode cX3_readPlan 47 = .ok (.iconst 1, 1) := by decide +kernel
theorem dX3_readPlan_48 : decode cX3_readPlan 48 = .ok (.goto 4, 3) := by decide +kernel
theorem dX3_readPlan_51 : decode cX3_readPlan 51 = .ok (.iconst 0, 1) := by decide +kernel
theorem dX3_readPlan_52 : decode cX3_readPlan 52 = .ok (.istore_n 3, 1) := by decide +kernel
theorem dX3_readPlan_53 : decode cX3_readPlan 53 = .ok (.aload_n 0, 1) := by decide +kernel
theorem dX3_readPlan_54 : decode cX3_readPlan 54 = .ok (.bipush (-5), 2) := by decide +kernel
theorem dX3_readPlan_56 : decode cX3_readPlan 56 = .ok (.invokevirtual 53, 3) := by decide +kernel
theorem dX3_readPlan_59 : decode cX3_readPlan 59 = .ok (.ifCond .eq 13, 3) := by decide +kernel
theorem dX3_readPlan_62 : decode cX3_readPlan 62 = .ok (.aload_n 0, 1) := by decide +kernel
theorem dX3_readPlan_63 : decode cX3_readPlan 63 = .ok (.iconst 0, 1) := by decide +kernel
theorem dX3_readPlan_64 : decode cX3_readPlan 64 = .ok (.bipush 20, 2) := by decide +kernel
theorem dX3_readPlan_66 : decode cX3_readPlan 66 = .ok (.invokevirtual 120, 3) := by decide +kernel
theorem dX3_readPlan_69 : decode cX3_readPlan 69 = .ok (.goto 4, 3) := by decide +kernel
theorem dX3_readPlan_72 : decode cX3_readPlan 72 = .ok (.iconst 0, 1) := by decide +kernel
theorem dX3_readPlan_73 : decode cX3_readPlan 73 = .ok (.istore 4, 2) := by decide +kernel
theorem dX3_readPlan_75 : decode cX3_readPlan 75 = .ok (.iload 4, 2) := by decide +kernel
theorem dX3_readPlan_77 : decode cX3_readPlan 77 = .ok (.ifCond .ge 5, 3) := by decide +kernel
theorem dX3_readPlan_80 : decode cX3_readPlan 80 = .ok (.iconst 0, 1) := by decide +kernel
theorem dX3_readPlan_81 : decode cX3_readPlan 81 = .ok (.ireturn, 1) := by decide +kernel
theorem dX3_readPlan_82 : decode cX3_readPlan 82 = .ok (.aload_n 0, 1) := by decide +kernel
theorem dX3_readPlan_83 : decode cX3_readPlan 83 = .ok (.getfield 22, 3) := by decide +kernel
theorem dX3_readPlan_86 : decode cX3_readPlan 86 = .ok (.iload_n 1, 1) := by decide +kernel
theorem dX3_readPlan_87 : decode cX3_readPlan 87 = .ok (.iload_n 2, 1) := by decide +kernel
theorem dX3_readPlan_88 : decode cX3_readPlan 88 = .ok (.iload_n 3, 1) := by decide +kernel
theorem dX3_readPlan_89 : decode cX3_readPlan 89 = .ok (.iload 4, 2) := by decide +kernel
theorem dX3_readPlan_91 : decode cX3_readPlan 91 = .ok (.invokevirtual 131, 3) := by decide +kernel
theorem dX3_readPlan_94 : decode cX3_readPlan 94 = .ok (.aload_n 0, 1) := by decide +kernel
theorem dX3_readPlan_95 : decode cX3_readPlan 95 = .ok (.iconst 1, 1) := by decide +kernel
theorem dX3_readPlan_96 : decode cX3_readPlan 96 = .ok (.putfield 38, 3) := by decide +kernel
theorem dX3_readPlan_99 : decode cX3_readPlan 99 = .ok (.iconst 1, 1) := by decide +kernel
theorem dX3_readPlan_100 : decode cX3_readPlan 100 = .ok (.ireturn, 1) := by decide +kernel
theorem dX3_readPay_0 : decode cX3_readPay 0 = .ok (.aload_n 0, 1) := by decide +kernel
theorem dX3_readPay_1 : decode cX3_readPay 1 = .ok (.dup, 1) := by decide +kernel
theorem dX3_readPay_2 : decode cX3_readPay 2 = .ok (.getfield 42, 3) := by decide +kernel
theorem dX3_readPay_5 : decode cX3_readPay 5 = .ok (.iconst 1, 1) := by decide +kernel
theorem dX3_readPay_6 : decode cX3_readPay 6 = .ok (.iadd, 1) := by decide +kernel
theorem dX3_readPay_7 : decode cX3_readPay 7 = .ok (.putfield 42, 3) := by decide +kernel
theorem dX3_readPay_10 : decode cX3_readPay 10 = .ok (.aload_n 0, 1) := by decide +kernel
theorem dX3_readPay_11 : decode cX3_readPay 11 = .ok (.iconst 0, 1) := by decide +kernel
theorem dX3_readPay_12 : decode cX3_readPay 12 = .ok (.aload_n 0, 1) := by decide +kernel
theorem dX3_readPay_13 : decode cX3_readPay 13 = .ok (.getfield 22, 3) := by decide +kernel
theorem dX3_readPay_16 : decode cX3_readPay 16 = .ok (.getfield 108, 3) := by decide +kernel
theorem dX3_readPay_19 : decode cX3_readPay 19 = .ok (.iconst 1, 1) := by decide +kernel
theorem dX3_readPay_20 : decode cX3_readPay 20 = .ok (.isub, 1) := by decide +kernel
theorem dX3_readPay_21 : decode cX3_readPay 21 = .ok (.invokevirtual 120, 3) := by decide +kernel
theorem dX3_readPay_24 : decode cX3_readPay 24 = .ok (.istore_n 1, 1) := by decide +kernel
theorem dX3_readPay_25 : decode cX3_readPay 25 = .ok (.iload_n 1, 1) := by decide +kernel
theorem dX3_readPay_26 : decode cX3_readPay 26 = .ok (.ifCond .ge 5, 3) := by decide +kernel
theorem dX3_readPay_29 : decode cX3_readPay 29 = .ok (.iconst 0, 1) := by decide +kernel
theorem dX3_readPay_30 : decode cX3_readPay 30 = .ok (.ireturn, 1) := by decide +kernel
theorem dX3_readPay_31 : decode cX3_readPay 31 = .ok (.aload_n 0, 1) := by decide +kernel
theorem dX3_readPay_32 : decode cX3_readPay 32 = .ok (.iconst 0, 1) := by decide +kernel
theorem dX3_readPay_33 : decode cX3_readPay 33 = .ok (.bipush 9, 2) := by decide +kernel
theorem dX3_readPay_35 : decode cX3_readPay 35 = .ok (.invokevirtual 120, 3) := by decide +kernel
theorem dX3_readPay_38 : decode cX3_readPay 38 = .ok (.istore_n 2, 1) := by decide +kernel
theorem dX3_readPay_39 : decode cX3_readPay 39 = .ok (.iload_n 2, 1) := by decide +kernel
theorem dX3_readPay_40 : decode cX3_readPay 40 = .ok (.ifCond .ge 5, 3) := by decide +kernel
theorem dX3_readPay_43 : decode cX3_readPay 43 = .ok (.iconst 0, 1) := by decide +kernel
theorem dX3_readPay_44 : decode cX3_readPay 44 = .ok (.ireturn, 1) := by decide +kernel
theorem dX3_readPay_45 : decode cX3_readPay 45 = .ok (.aload_n 0, 1) := by decide +kernel
theorem dX3_readPay_46 : decode cX3_readPay 46 = .ok (.getfield 22, 3) := by decide +kernel
theorem dX3_readPay_49 : decode cX3_readPay 49 = .ok (.getfield 135, 3) := by decide +kernel
theorem dX3_readPay_52 : decode cX3_readPay 52 = .ok (.iload_n 1, 1) := by decide +kernel
theorem dX3_readPay_53 : decode cX3_readPay 53 = .ok (.iload_n 2, 1) := by decide +kernel
theorem dX3_readPay_54 : decode cX3_readPay 54 = .ok (.iastore, 1) := by decide +kernel
theorem dX3_readPay_55 : decode cX3_readPay 55 = .ok (.iconst 1, 1) := by decide +kernel
theorem dX3_readPay_56 : decode cX3_readPay 56 = .ok (.ireturn, 1) := by decide +kernel
theorem dX4_init_0 : decode cX4_init 0 = .ok (.aload_n 0, 1) := by decide +kernel
theorem dX4_init_1 : decode cX4_init 1 = .ok (.invokespecial 3, 3) := by decide +kernel
theorem dX4_init_4 : decode cX4_init 4 = .ok (.aload_n 0, 1) := by decide +kernel
theorem dX4_init_5 : decode cX4_init 5 = .ok (.bipush 8, 2) := by decide +kernel
theorem dX4_init_7 : decode cX4_init 7 = .ok (.newarray .int, 2) := by decide +kernel
theorem dX4_init_9 : decode cX4_init 9 = .ok (.putfield 9, 3) := by decide +kernel
theorem dX4_init_12 : decode cX4_init 12 = .ok (.aload_n 0, 1) := by decide +kernel
theorem dX4_init_13 : decode cX4_init 13 = .ok (.bipush 8, 2) := by decide +kernel
theorem dX4_init_15 : decode cX4_init 15 = .ok (.newarray .int, 2) := by decide +kernel
theorem dX4_init_17 : decode cX4_init 17 = .ok (.putfield 15, 3) := by decide +kernel
theorem dX4_init_20 : decode cX4_init 20 = .ok (.aload_n 0, 1) := by decide +kernel
theorem dX4_init_21 : decode cX4_init 21 = .ok (.bipush 8, 2) := by decide +kernel
theorem dX4_init_23 : decode cX4_init 23 = .ok (.newarray .int, 2) := by decide +kernel
theorem dX4_init_25 : decode cX4_init 25 = .ok (.putfield 18, 3) := by decide +kernel
theorem dX4_init_28 : decode cX4_init 28 = .ok (.aload_n 0, 1) := by decide +kernel
theorem dX4_init_29 : decode cX4_init 29 = .ok (.iconst 4, 1) := by decide +kernel
theorem dX4_init_30 : decode cX4_init 30 = .ok (.newarray .int, 2) := by decide +kernel
theorem dX4_init_32 : decode cX4_init 32 = .ok (.putfield 21, 3) := by decide +kernel
theorem dX4_init_35 : decode cX4_init 35 = .ok (.aload_n 0, 1) := by decide +kernel
theorem dX4_init_36 : decode cX4_init 36 = .ok (.iconst 4, 1) := by decide +kernel
theorem dX4_init_37 : decode cX4_init 37 = .ok (.newarray .int, 2) := by decide +kernel
theorem dX4_init_39 : decode cX4_init 39 = .ok (.putfield 24, 3) := by decide +kernel
theorem dX4_init_42 : decode cX4_init 42 = .ok (.aload_n 0, 1) := by decide +kernel
theorem dX4_init_43 : decode cX4_init 43 = .ok (.iconst 4, 1) := by decide +kernel
theorem dX4_init_44 : decode cX4_init 44 = .ok (.newarray .int, 2) := by decide +kernel
theorem dX4_init_46 : decode cX4_init 46 = .ok (.putfield 27, 3) := by decide +kernel
theorem dX4_init_49 : decode cX4_init 49 = .ok (.return_, 1) := by decide +kernel
theorem dX4_wipe_0 : decode cX4_wipe 0 = .ok (.aload_n 0, 1) := by decide +kernel
theorem dX4_wipe_1 : decode cX4_wipe 1 = .ok (.iconst 0, 1) := by decide +kernel
theorem dX4_wipe_2 : decode cX4_wipe 2 = .ok (.putfield 30, 3) := by decide +kernel
theorem dX4_wipe_5 : decode cX4_wipe 5 = .ok (.aload_n 0, 1) := by decide +kernel
theorem dX4_wipe_6 : decode cX4_wipe 6 = .ok (.iconst 0, 1) := by decide +kernel
theorem dX4_wipe_7 : decode cX4_wipe 7 = .ok (.putfield 34, 3) := by decide +kernel
theorem dX4_wipe_10 : decode cX4_wipe 10 = .ok (.aload_n 0, 1) := by decide +kernel
theorem dX4_wipe_11 : decode cX4_wipe 11 = .ok (.iconst 0, 1) := by decide +kernel
theorem dX4_wipe_12 : decode cX4_wipe 12 = .ok (.iconst 0, 1) := by decide +kernel
theorem dX4_wipe_13 : decode cX4_wipe 13 = .ok (.iconst 1, 1) := by decide +kernel
theorem dX4_wipe_14 : decode cX4_wipe 14 = .ok (.iconst 0, 1) := by decide +kernel
theorem dX4_wipe_15 : decode cX4_wipe 15 = .ok (.invokevirtual 37, 3) := by decide +kernel
theorem dX4_wipe_18 : decode cX4_wipe 18 = .ok (.aload_n 0, 1) := by decide +kernel
theorem dX4_wipe_19 : decode cX4_wipe 19 = .ok (.invokevirtual 41, 3) := by decide +kernel
theorem dX4_wipe_22 : decode cX4_wipe 22 = .ok (.return_, 1) := by decide +kernel
theorem dX4_schedule_0 : decode cX4_schedule 0 = .ok (.aload_n 0, 1) := by decide +kernel
theorem dX4_schedule_1 : decode cX4_schedule 1 = .ok (.iload_n 1, 1) := by decide +kernel
theorem dX4_schedule_2 : decode cX4_schedule 2 = .ok (.putfield 44, 3) := by decide +kernel
theorem dX4_schedule_5 : decode cX4_schedule 5 = .ok (.aload_n 0, 1) := by decide +kernel
theorem dX4_schedule_6 : decode cX4_schedule 6 = .ok (.iload_n 2, 1) := by decide +kernel
theorem dX4_schedule_7 : decode cX4_schedule 7 = .ok (.putfield 47, 3) := by decide +kernel
theorem dX4_schedule_10 : decode cX4_schedule 10 = .ok (.aload_n 0, 1) := by decide +kernel
theorem dX4_schedule_11 : decode cX4_schedule 11 = .ok (.iload_n 3, 1) := by decide +kernel
theorem dX4_schedule_12 : decode cX4_schedule 12 = .ok (.putfield 50, 3) := by decide +kernel
theorem dX4_schedule_15 : decode cX4_schedule 15 = .ok (.aload_n 0, 1) := by decide +kernel
theorem dX4_schedule_16 : decode cX4_schedule 16 = .ok (.iload 4, 2) := by decide +kernel
theorem dX4_schedule_18 : decode cX4_schedule 18 = .ok (.putfield 54, 3) := by decide +kernel
theorem dX4_schedule_21 : decode cX4_schedule 21 = .ok (.return_, 1) := by decide +kernel
theorem dX4_copyOf_0 : decode cX4_copyOf 0 = .ok (.aload_n 0, 1) := by decide +kernel
theorem dX4_copyOf_1 : decode cX4_copyOf 1 = .ok (.aload_n 1, 1) := by decide +kernel
theorem dX4_copyOf_2 : decode cX4_copyOf 2 = .ok (.getfield 30, 3) := by decide +kernel
theorem dX4_copyOf_5 : decode cX4_copyOf 5 = .ok (.putfield 30, 3) := by decide +kernel
theorem dX4_copyOf_8 : decode cX4_copyOf 8 = .ok (.aload_n 0, 1) := by decide +kernel
theorem dX4_copyOf_9 : decode cX4_copyOf 9 = .ok (.aload_n 1, 1) := by decide +kernel
theorem dX4_copyOf_10 : decode cX4_copyOf 10 = .ok (.getfield 34, 3) := by decide +kernel
theorem dX4_copyOf_13 : decode cX4_copyOf 13 = .ok (.putfield 34, 3) := by decide +kernel
theorem dX4_copyOf_16 : decode cX4_copyOf 16 = .ok (.aload_n 0, 1) := by decide +kernel
