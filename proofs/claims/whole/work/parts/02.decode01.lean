theorem dX4_copyOf_17 : decode cX4_copyOf 17 = .ok (.aload_n 1, 1) := by decide +kernel
theorem dX4_copyOf_18 : decode cX4_copyOf 18 = .ok (.getfield 44, 3) := by decide +kernel
theorem dX4_copyOf_21 : decode cX4_copyOf 21 = .ok (.aload_n 1, 1) := by decide +kernel
theorem dX4_copyOf_22 : decode cX4_copyOf 22 = .ok (.getfield 47, 3) := by decide +kernel
theorem dX4_copyOf_25 : decode cX4_copyOf 25 = .ok (.aload_n 1, 1) := by decide +kernel
theorem dX4_copyOf_26 : decode cX4_copyOf 26 = .ok (.getfield 50, 3) := by decide +kernel
theorem dX4_copyOf_29 : decode cX4_copyOf 29 = .ok (.aload_n 1, 1) := by decide +kernel
theorem dX4_copyOf_30 : decode cX4_copyOf 30 = .ok (.getfield 54, 3) := by decide +kernel
theorem dX4_copyOf_33 : decode cX4_copyOf 33 = .ok (.invokevirtual 37, 3) := by decide +kernel
theorem dX4_copyOf_36 : decode cX4_copyOf 36 = .ok (.aload_n 1, 1) := by decide +kernel
theorem dX4_copyOf_37 : decode cX4_copyOf 37 = .ok (.getfield 9, 3) := by decide +kernel
theorem dX4_copyOf_40 : decode cX4_copyOf 40 = .ok (.iconst 0, 1) := by decide +kernel
theorem dX4_copyOf_41 : decode cX4_copyOf 41 = .ok (.aload_n 0, 1) := by decide +kernel
theorem dX4_copyOf_42 : decode cX4_copyOf 42 = .ok (.getfield 9, 3) := by decide +kernel
theorem dX4_copyOf_45 : decode cX4_copyOf 45 = .ok (.iconst 0, 1) := by decide +kernel
theorem dX4_copyOf_46 : decode cX4_copyOf 46 = .ok (.bipush 8, 2) := by decide +kernel
theorem dX4_copyOf_48 : decode cX4_copyOf 48 = .ok (.invokestatic 57, 3) := by decide +kernel
theorem dX4_copyOf_51 : decode cX4_copyOf 51 = .ok (.aload_n 1, 1) := by decide +kernel
theorem dX4_copyOf_52 : decode cX4_copyOf 52 = .ok (.getfield 15, 3) := by decide +kernel
theorem dX4_copyOf_55 : decode cX4_copyOf 55 = .ok (.iconst 0, 1) := by decide +kernel
theorem dX4_copyOf_56 : decode cX4_copyOf 56 = .ok (.aload_n 0, 1) := by decide +kernel
theorem dX4_copyOf_57 : decode cX4_copyOf 57 = .ok (.getfield 15, 3) := by decide +kernel
theorem dX4_copyOf_60 : decode cX4_copyOf 60 = .ok (.iconst 0, 1) := by decide +kernel
theorem dX4_copyOf_61 : decode cX4_copyOf 61 = .ok (.bipush 8, 2) := by decide +kernel
theorem dX4_copyOf_63 : decode cX4_copyOf 63 = .ok (.invokestatic 57, 3) := by decide +kernel
theorem dX4_copyOf_66 : decode cX4_copyOf 66 = .ok (.aload_n 1, 1) := by decide +kernel
theorem dX4_copyOf_67 : decode cX4_copyOf 67 = .ok (.getfield 18, 3) := by decide +kernel
theorem dX4_copyOf_70 : decode cX4_copyOf 70 = .ok (.iconst 0, 1) := by decide +kernel
theorem dX4_copyOf_71 : decode cX4_copyOf 71 = .ok (.aload_n 0, 1) := by decide +kernel
theorem dX4_copyOf_72 : decode cX4_copyOf 72 = .ok (.getfield 18, 3) := by decide +kernel
theorem dX4_copyOf_75 : decode cX4_copyOf 75 = .ok (.iconst 0, 1) := by decide +kernel
theorem dX4_copyOf_76 : decode cX4_copyOf 76 = .ok (.bipush 8, 2) := by decide +kernel
theorem dX4_copyOf_78 : decode cX4_copyOf 78 = .ok (.invokestatic 57, 3) := by decide +kernel
theorem dX4_copyOf_81 : decode cX4_copyOf 81 = .ok (.aload_n 1, 1) := by decide +kernel
theorem dX4_copyOf_82 : decode cX4_copyOf 82 = .ok (.getfield 21, 3) := by decide +kernel
theorem dX4_copyOf_85 : decode cX4_copyOf 85 = .ok (.iconst 0, 1) := by decide +kernel
theorem dX4_copyOf_86 : decode cX4_copyOf 86 = .ok (.aload_n 0, 1) := by decide +kernel
theorem dX4_copyOf_87 : decode cX4_copyOf 87 = .ok (.getfield 21, 3) := by decide +kernel
theorem dX4_copyOf_90 : decode cX4_copyOf 90 = .ok (.iconst 0, 1) := by decide +kernel
theorem dX4_copyOf_91 : decode cX4_copyOf 91 = .ok (.iconst 4, 1) := by decide +kernel
theorem dX4_copyOf_92 : decode cX4_copyOf 92 = .ok (.invokestatic 57, 3) := by decide +kernel
theorem dX4_copyOf_95 : decode cX4_copyOf 95 = .ok (.aload_n 1, 1) := by decide +kernel
theorem dX4_copyOf_96 : decode cX4_copyOf 96 = .ok (.getfield 24, 3) := by decide +kernel
theorem dX4_copyOf_99 : decode cX4_copyOf 99 = .ok (.iconst 0, 1) := by decide +kernel
theorem dX4_copyOf_100 : decode cX4_copyOf 100 = .ok (.aload_n 0, 1) := by decide +kernel
theorem dX4_copyOf_101 : decode cX4_copyOf 101 = .ok (.getfield 24, 3) := by decide +kernel
theorem dX4_copyOf_104 : decode cX4_copyOf 104 = .ok (.iconst 0, 1) := by decide +kernel
theorem dX4_copyOf_105 : decode cX4_copyOf 105 = .ok (.iconst 4, 1) := by decide +kernel
theorem dX4_copyOf_106 : decode cX4_copyOf 106 = .ok (.invokestatic 57, 3) := by decide +kernel
theorem dX4_copyOf_109 : decode cX4_copyOf 109 = .ok (.aload_n 1, 1) := by decide +kernel
theorem dX4_copyOf_110 : decode cX4_copyOf 110 = .ok (.getfield 27, 3) := by decide +kernel
theorem dX4_copyOf_113 : decode cX4_copyOf 113 = .ok (.iconst 0, 1) := by decide +kernel
theorem dX4_copyOf_114 : decode cX4_copyOf 114 = .ok (.aload_n 0, 1) := by decide +kernel
theorem dX4_copyOf_115 : decode cX4_copyOf 115 = .ok (.getfield 27, 3) := by decide +kernel
theorem dX4_copyOf_118 : decode cX4_copyOf 118 = .ok (.iconst 0, 1) := by decide +kernel
theorem dX4_copyOf_119 : decode cX4_copyOf 119 = .ok (.iconst 4, 1) := by decide +kernel
theorem dX4_copyOf_120 : decode cX4_copyOf 120 = .ok (.invokestatic 57, 3) := by decide +kernel
theorem dX4_copyOf_123 : decode cX4_copyOf 123 = .ok (.return_, 1) := by decide +kernel
theorem dX4_payNothing_0 : decode cX4_payNothing 0 = .ok (.iconst 0, 1) := by decide +kernel
theorem dX4_payNothing_1 : decode cX4_payNothing 1 = .ok (.istore_n 1, 1) := by decide +kernel
theorem dX4_payNothing_2 : decode cX4_payNothing 2 = .ok (.iload_n 1, 1) := by decide +kernel
theorem dX4_payNothing_3 : decode cX4_payNothing 3 = .ok (.iconst 4, 1) := by decide +kernel
theorem dX4_payNothing_4 : decode cX4_payNothing 4 = .ok (.if_icmp .ge 16, 3) := by decide +kernel
theorem dX4_payNothing_7 : decode cX4_payNothing 7 = .ok (.aload_n 0, 1) := by decide +kernel
theorem dX4_payNothing_8 : decode cX4_payNothing 8 = .ok (.getfield 27, 3) := by decide +kernel
theorem dX4_payNothing_11 : decode cX4_payNothing 11 = .ok (.iload_n 1, 1) := by decide +kernel
theorem dX4_payNothing_12 : decode cX4_payNothing 12 = .ok (.iconst 0, 1) := by decide +kernel
theorem dX4_payNothing_13 : decode cX4_payNothing 13 = .ok (.iastore, 1) := by decide +kernel
theorem dX4_payNothing_14 : decode cX4_payNothing 14 = .ok (.iinc 1 1, 3) := by decide +kernel
theorem dX4_payNothing_17 : decode cX4_payNothing 17 = .ok (.goto (-15), 3) := by decide +kernel
theorem dX4_payNothing_20 : decode cX4_payNothing 20 = .ok (.return_, 1) := by decide +kernel
theorem dX4_addChild_0 : decode cX4_addChild 0 = .ok (.aload_n 0, 1) := by decide +kernel
theorem dX4_addChild_1 : decode cX4_addChild 1 = .ok (.getfield 30, 3) := by decide +kernel
theorem dX4_addChild_4 : decode cX4_addChild 4 = .ok (.bipush 8, 2) := by decide +kernel
theorem dX4_addChild_6 : decode cX4_addChild 6 = .ok (.if_icmp .lt 4, 3) := by decide +kernel
theorem dX4_addChild_9 : decode cX4_addChild 9 = .ok (.return_, 1) := by decide +kernel
theorem dX4_addChild_10 : decode cX4_addChild 10 = .ok (.aload_n 0, 1) := by decide +kernel
theorem dX4_addChild_11 : decode cX4_addChild 11 = .ok (.getfield 9, 3) := by decide +kernel
theorem dX4_addChild_14 : decode cX4_addChild 14 = .ok (.aload_n 0, 1) := by decide +kernel
theorem dX4_addChild_15 : decode cX4_addChild 15 = .ok (.getfield 30, 3) := by decide +kernel
theorem dX4_addChild_18 : decode cX4_addChild 18 = .ok (.iload_n 1, 1) := by decide +kernel
theorem dX4_addChild_19 : decode cX4_addChild 19 = .ok (.iastore, 1) := by decide +kernel
theorem dX4_addChild_20 : decode cX4_addChild 20 = .ok (.aload_n 0, 1) := by decide +kernel
theorem dX4_addChild_21 : decode cX4_addChild 21 = .ok (.getfield 15, 3) := by decide +kernel
theorem dX4_addChild_24 : decode cX4_addChild 24 = .ok (.aload_n 0, 1) := by decide +kernel
theorem dX4_addChild_25 : decode cX4_addChild 25 = .ok (.getfield 30, 3) := by decide +kernel
theorem dX4_addChild_28 : decode cX4_addChild 28 = .ok (.iload_n 2, 1) := by decide +kernel
theorem dX4_addChild_29 : decode cX4_addChild 29 = .ok (.iastore, 1) := by decide +kernel
theorem dX4_addChild_30 : decode cX4_addChild 30 = .ok (.aload_n 0, 1) := by decide +kernel
theorem dX4_addChild_31 : decode cX4_addChild 31 = .ok (.getfield 18, 3) := by decide +kernel
theorem dX4_addChild_34 : decode cX4_addChild 34 = .ok (.aload_n 0, 1) := by decide +kernel
theorem dX4_addChild_35 : decode cX4_addChild 35 = .ok (.getfield 30, 3) := by decide +kernel
theorem dX4_addChild_38 : decode cX4_addChild 38 = .ok (.iload_n 3, 1) := by decide +kernel
theorem dX4_addChild_39 : decode cX4_addChild 39 = .ok (.iastore, 1) := by decide +kernel
theorem dX4_addChild_40 : decode cX4_addChild 40 = .ok (.aload_n 0, 1) := by decide +kernel
theorem dX4_addChild_41 : decode cX4_addChild 41 = .ok (.dup, 1) := by decide +kernel
theorem dX4_addChild_42 : decode cX4_addChild 42 = .ok (.getfield 30, 3) := by decide +kernel
theorem dX4_addChild_45 : decode cX4_addChild 45 = .ok (.iconst 1, 1) := by decide +kernel
theorem dX4_addChild_46 : decode cX4_addChild 46 = .ok (.iadd, 1) := by decide +kernel
theorem dX4_addChild_47 : decode cX4_addChild 47 = .ok (.putfield 30, 3) := by decide +kernel
theorem dX4_addChild_50 : decode cX4_addChild 50 = .ok (.return_, 1) := by decide +kernel
theorem dX4_addSort_0 : decode cX4_addSort 0 = .ok (.aload_n 0, 1) := by decide +kernel
theorem dX4_addSort_1 : decode cX4_addSort 1 = .ok (.getfield 34, 3) := by decide +kernel
theorem dX4_addSort_4 : decode cX4_addSort 4 = .ok (.iconst 4, 1) := by decide +kernel
theorem dX4_addSort_5 : decode cX4_addSort 5 = .ok (.if_icmp .lt 4, 3) := by decide +kernel
theorem dX4_addSort_8 : decode cX4_addSort 8 = .ok (.return_, 1) := by decide +kernel
theorem dX4_addSort_9 : decode cX4_addSort 9 = .ok (.aload_n 0, 1) := by decide +kernel
theorem dX4_addSort_10 : decode cX4_addSort 10 = .ok (.getfield 21, 3) := by decide +kernel
theorem dX4_addSort_13 : decode cX4_addSort 13 = .ok (.aload_n 0, 1) := by decide +kernel
theorem dX4_addSort_14 : decode cX4_addSort 14 = .ok (.getfield 34, 3) := by decide +kernel
theorem dX4_addSort_17 : decode cX4_addSort 17 = .ok (.iload_n 1, 1) := by decide +kernel
theorem dX4_addSort_18 : decode cX4_addSort 18 = .ok (.iastore, 1) := by decide +kernel
theorem dX4_addSort_19 : decode cX4_addSort 19 = .ok (.aload_n 0, 1) := by decide +kernel
theorem dX4_addSort_20 : decode cX4_addSort 20 = .ok (.getfield 24, 3) := by decide +kernel
theorem dX4_addSort_23 : decode cX4_addSort 23 = .ok (.aload_n 0, 1) := by decide +kernel
theorem dX4_addSort_24 : decode cX4_addSort 24 = .ok (.getfield 34, 3) := by decide +kernel
theorem dX4_addSort_27 : decode cX4_addSort 27 = .ok (.iload_n 2, 1) := by decide +kernel
theorem dX4_addSort_28 : decode cX4_addSort 28 = .ok (.iastore, 1) := by decide +kernel
theorem dX4_addSort_29 : decode cX4_addSort 29 = .ok (.aload_n 0, 1) := by decide +kernel
theorem dX4_addSort_30 : decode cX4_addSort 30 = .ok (.dup, 1) := by decide +kernel
theorem dX4_addSort_31 : decode cX4_addSort 31 = .ok (.getfield 34, 3) := by decide +kernel
theorem dX4_addSort_34 : decode cX4_addSort 34 = .ok (.iconst 1, 1) := by decide +kernel
theorem dX4_addSort_35 : decode cX4_addSort 35 = .ok (.iadd, 1) := by decide +kernel
theorem dX4_addSort_36 : decode cX4_addSort 36 = .ok (.putfield 34, 3) := by decide +kernel
theorem dX4_addSort_39 : decode cX4_addSort 39 = .ok (.return_, 1) := by decide +kernel
theorem dX4_teachOne_0 : decode cX4_teachOne 0 = .ok (.aload_n 0, 1) := by decide +kernel
theorem dX4_teachOne_1 : decode cX4_teachOne 1 = .ok (.iconst 0, 1) := by decide +kernel
theorem dX4_teachOne_2 : decode cX4_teachOne 2 = .ok (.putfield 30, 3) := by decide +kernel
theorem dX4_teachOne_5 : decode cX4_teachOne 5 = .ok (.aload_n 0, 1) := by decide +kernel
theorem dX4_teachOne_6 : decode cX4_teachOne 6 = .ok (.iload_n 1, 1) := by decide +kernel
theorem dX4_teachOne_7 : decode cX4_teachOne 7 = .ok (.iload_n 2, 1) := by decide +kernel
theorem dX4_teachOne_8 : decode cX4_teachOne 8 = .ok (.iload_n 3, 1) := by decide +kernel
theorem dX4_teachOne_9 : decode cX4_teachOne 9 = .ok (.invokevirtual 63, 3) := by decide +kernel
theorem dX4_teachOne_12 : decode cX4_teachOne 12 = .ok (.return_, 1) := by decide +kernel
theorem dX4_pagesIn_0 : decode cX4_pagesIn 0 = .ok (.aload_n 0, 1) := by decide +kernel
theorem dX4_pagesIn_1 : decode cX4_pagesIn 1 = .ok (.getfield 21, 3) := by decide +kernel
theorem dX4_pagesIn_4 : decode cX4_pagesIn 4 = .ok (.iload_n 2, 1) := by decide +kernel
theorem dX4_pagesIn_5 : decode cX4_pagesIn 5 = .ok (.iaload, 1) := by decide +kernel
theorem dX4_pagesIn_6 : decode cX4_pagesIn 6 = .ok (.ifCond .le 22, 3) := by decide +kernel
theorem dX4_pagesIn_9 : decode cX4_pagesIn 9 = .ok (.bipush 6, 2) := by decide +kernel
theorem dX4_pagesIn_11 : decode cX4_pagesIn 11 = .ok (.aload_n 0, 1) := by decide +kernel
theorem dX4_pagesIn_12 : decode cX4_pagesIn 12 = .ok (.getfield 15, 3) := by decide +kernel
theorem dX4_pagesIn_15 : decode cX4_pagesIn 15 = .ok (.iload_n 1, 1) := by decide +kernel
theorem dX4_pagesIn_16 : decode cX4_pagesIn 16 = .ok (.iaload, 1) := by decide +kernel
theorem dX4_pagesIn_17 : decode cX4_pagesIn 17 = .ok (.imul, 1) := by decide +kernel
theorem dX4_pagesIn_18 : decode cX4_pagesIn 18 = .ok (.aload_n 0, 1) := by decide +kernel
theorem dX4_pagesIn_19 : decode cX4_pagesIn 19 = .ok (.getfield 21, 3) := by decide +kernel
theorem dX4_pagesIn_22 : decode cX4_pagesIn 22 = .ok (.iload_n 2, 1) := by decide +kernel
theorem dX4_pagesIn_23 : decode cX4_pagesIn 23 = .ok (.iaload, 1) := by decide +kernel
theorem dX4_pagesIn_24 : decode cX4_pagesIn 24 = .ok (.idiv, 1) := by decide +kernel
theorem dX4_pagesIn_25 : decode cX4_pagesIn 25 = .ok (.goto 4, 3) := by decide +kernel
theorem dX4_pagesIn_28 : decode cX4_pagesIn 28 = .ok (.iconst 0, 1) := by decide +kernel
theorem dX4_pagesIn_29 : decode cX4_pagesIn 29 = .ok (.ireturn, 1) := by decide +kernel
theorem dX4_givenOn_0 : decode cX4_givenOn 0 = .ok (.iload_n 2, 1) := by decide +kernel
theorem dX4_givenOn_1 : decode cX4_givenOn 1 = .ok (.aload_n 0, 1) := by decide +kernel
theorem dX4_givenOn_2 : decode cX4_givenOn 2 = .ok (.getfield 44, 3) := by decide +kernel
theorem dX4_givenOn_5 : decode cX4_givenOn 5 = .ok (.if_icmp .lt 16, 3) := by decide +kernel
theorem dX4_givenOn_8 : decode cX4_givenOn 8 = .ok (.iload_n 2, 1) := by decide +kernel
theorem dX4_givenOn_9 : decode cX4_givenOn 9 = .ok (.aload_n 0, 1) := by decide +kernel
theorem dX4_givenOn_10 : decode cX4_givenOn 10 = .ok (.getfield 47, 3) := by decide +kernel
theorem dX4_givenOn_13 : decode cX4_givenOn 13 = .ok (.aload_n 0, 1) := by decide +kernel
theorem dX4_givenOn_14 : decode cX4_givenOn 14 = .ok (.getfield 54, 3) := by decide +kernel
theorem dX4_givenOn_17 : decode cX4_givenOn 17 = .ok (.iadd, 1) := by decide +kernel
theorem dX4_givenOn_18 : decode cX4_givenOn 18 = .ok (.if_icmp .lt 5, 3) := by decide +kernel
theorem dX4_givenOn_21 : decode cX4_givenOn 21 = .ok (.iconst 0, 1) := by decide +kernel
theorem dX4_givenOn_22 : decode cX4_givenOn 22 = .ok (.ireturn, 1) := by decide +kernel
theorem dX4_givenOn_23 : decode cX4_givenOn 23 = .ok (.iload_n 2, 1) := by decide +kernel
theorem dX4_givenOn_24 : decode cX4_givenOn 24 = .ok (.aload_n 0, 1) := by decide +kernel
theorem dX4_givenOn_25 : decode cX4_givenOn 25 = .ok (.getfield 47, 3) := by decide +kernel
theorem dX4_givenOn_28 : decode cX4_givenOn 28 = .ok (.if_icmp .ge 12, 3) := by decide +kernel
theorem dX4_givenOn_31 : decode cX4_givenOn 31 = .ok (.aload_n 0, 1) := by decide +kernel
theorem dX4_givenOn_32 : decode cX4_givenOn 32 = .ok (.getfield 27, 3) := by decide +kernel
theorem dX4_givenOn_35 : decode cX4_givenOn 35 = .ok (.iload_n 1, 1) := by decide +kernel
theorem dX4_givenOn_36 : decode cX4_givenOn 36 = .ok (.iaload, 1) := by decide +kernel
theorem dX4_givenOn_37 : decode cX4_givenOn 37 = .ok (.goto 28, 3) := by decide +kernel
theorem dX4_givenOn_40 : decode cX4_givenOn 40 = .ok (.aload_n 0, 1) := by decide +kernel
theorem dX4_givenOn_41 : decode cX4_givenOn 41 = .ok (.getfield 27, 3) := by decide +kernel
theorem dX4_givenOn_44 : decode cX4_givenOn 44 = .ok (.iload_n 1, 1) := by decide +kernel
theorem dX4_givenOn_45 : decode cX4_givenOn 45 = .ok (.iaload, 1) := by decide +kernel
theorem dX4_givenOn_46 : decode cX4_givenOn 46 = .ok (.aload_n 0, 1) := by decide +kernel
theorem dX4_givenOn_47 : decode cX4_givenOn 47 = .ok (.getfield 47, 3) := by decide +kernel
theorem dX4_givenOn_50 : decode cX4_givenOn 50 = .ok (.aload_n 0, 1) := by decide +kernel
theorem dX4_givenOn_51 : decode cX4_givenOn 51 = .ok (.getfield 54, 3) := by decide +kernel
theorem dX4_givenOn_54 : decode cX4_givenOn 54 = .ok (.iadd, 1) := by decide +kernel
theorem dX4_givenOn_55 : decode cX4_givenOn 55 = .ok (.iload_n 2, 1) := by decide +kernel
theorem dX4_givenOn_56 : decode cX4_givenOn 56 = .ok (.isub, 1) := by decide +kernel
theorem dX4_givenOn_57 : decode cX4_givenOn 57 = .ok (.imul, 1) := by decide +kernel
theorem dX4_givenOn_58 : decode cX4_givenOn 58 = .ok (.aload_n 0, 1) := by decide +kernel
theorem dX4_givenOn_59 : decode cX4_givenOn 59 = .ok (.getfield 54, 3) := by decide +kernel
theorem dX4_givenOn_62 : decode cX4_givenOn 62 = .ok (.iconst 1, 1) := by decide +kernel
theorem dX4_givenOn_63 : decode cX4_givenOn 63 = .ok (.iadd, 1) := by decide +kernel
theorem dX4_givenOn_64 : decode cX4_givenOn 64 = .ok (.idiv, 1) := by decide +kernel
theorem dX4_givenOn_65 : decode cX4_givenOn 65 = .ok (.ireturn, 1) := by decide +kernel
theorem dX4_givesNothing_0 : decode cX4_givesNothing 0 = .ok (.iconst 0, 1) := by decide +kernel
theorem dX4_givesNothing_1 : decode cX4_givesNothing 1 = .ok (.istore_n 2, 1) := by decide +kernel
theorem dX4_givesNothing_2 : decode cX4_givesNothing 2 = .ok (.iload_n 2, 1) := by decide +kernel
theorem dX4_givesNothing_3 : decode cX4_givesNothing 3 = .ok (.aload_n 0, 1) := by decide +kernel
theorem dX4_givesNothing_4 : decode cX4_givesNothing 4 = .ok (.getfield 34, 3) := by decide +kernel
theorem dX4_givesNothing_7 : decode cX4_givesNothing 7 = .ok (.if_icmp .ge 20, 3) := by decide +kernel
theorem dX4_givesNothing_10 : decode cX4_givesNothing 10 = .ok (.aload_n 0, 1) := by decide +kernel
theorem dX4_givesNothing_11 : decode cX4_givesNothing 11 = .ok (.iload_n 2, 1) := by decide +kernel
theorem dX4_givesNothing_12 : decode cX4_givesNothing 12 = .ok (.iload_n 1, 1) := by decide +kernel
theorem dX4_givesNothing_13 : decode cX4_givesNothing 13 = .ok (.invokevirtual 67, 3) := by decide +kernel
theorem dX4_givesNothing_16 : decode cX4_givesNothing 16 = .ok (.ifCond .le 5, 3) := by decide +kernel
theorem dX4_givesNothing_19 : decode cX4_givesNothing 19 = .ok (.iconst 0, 1) := by decide +kernel
theorem dX4_givesNothing_20 : decode cX4_givesNothing 20 = .ok (.ireturn, 1) := by decide +kernel
theorem dX4_givesNothing_21 : decode cX4_givesNothing 21 = .ok (.iinc 2 1, 3) := by decide +kernel
theorem dX4_givesNothing_24 : decode cX4_givesNothing 24 = .ok (.goto (-22), 3) := by decide +kernel
theorem dX4_givesNothing_27 : decode cX4_givesNothing 27 = .ok (.iconst 1, 1) := by decide +kernel
theorem dX4_givesNothing_28 : decode cX4_givesNothing 28 = .ok (.ireturn, 1) := by decide +kernel
theorem dX5_init_0 : decode cX5_init 0 = .ok (.aload_n 0, 1) := by decide +kernel
theorem dX5_init_1 : decode cX5_init 1 = .ok (.invokespecial 3, 3) := by decide +kernel
theorem dX5_init_4 : decode cX5_init 4 = .ok (.aload_n 0, 1) := by decide +kernel
theorem dX5_init_5 : decode cX5_init 5 = .ok (.iconst 0, 1) := by decide +kernel
theorem dX5_init_6 : decode cX5_init 6 = .ok (.putfield 9, 3) := by decide +kernel
theorem dX5_init_9 : decode cX5_init 9 = .ok (.aload_n 0, 1) := by decide +kernel
theorem dX5_init_10 : decode cX5_init 10 = .ok (.bipush 30, 2) := by decide +kernel
theorem dX5_init_12 : decode cX5_init 12 = .ok (.newarray .int, 2) := by decide +kernel
theorem dX5_init_14 : decode cX5_init 14 = .ok (.putfield 15, 3) := by decide +kernel
theorem dX5_init_17 : decode cX5_init 17 = .ok (.aload_n 0, 1) := by decide +kernel
theorem dX5_init_18 : decode cX5_init 18 = .ok (.bipush 30, 2) := by decide +kernel
theorem dX5_init_20 : decode cX5_init 20 = .ok (.newarray .int, 2) := by decide +kernel
theorem dX5_init_22 : decode cX5_init 22 = .ok (.putfield 19, 3) := by decide +kernel
theorem dX5_init_25 : decode cX5_init 25 = .ok (.return_, 1) := by decide +kernel
theorem dX5_note_0 : decode cX5_note 0 = .ok (.aload_n 0, 1) := by decide +kernel
theorem dX5_note_1 : decode cX5_note 1 = .ok (.getfield 9, 3) := by decide +kernel
theorem dX5_note_4 : decode cX5_note 4 = .ok (.bipush 30, 2) := by decide +kernel
theorem dX5_note_6 : decode cX5_note 6 = .ok (.if_icmp .lt 5, 3) := by decide +kernel
theorem dX5_note_9 : decode cX5_note 9 = .ok (.iconst 0, 1) := by decide +kernel
theorem dX5_note_10 : decode cX5_note 10 = .ok (.ireturn, 1) := by decide +kernel
theorem dX5_note_11 : decode cX5_note 11 = .ok (.aload_n 0, 1) := by decide +kernel
theorem dX5_note_12 : decode cX5_note 12 = .ok (.getfield 15, 3) := by decide +kernel
theorem dX5_note_15 : decode cX5_note 15 = .ok (.aload_n 0, 1) := by decide +kernel
theorem dX5_note_16 : decode cX5_note 16 = .ok (.getfield 9, 3) := by decide +kernel
theorem dX5_note_19 : decode cX5_note 19 = .ok (.iload_n 1, 1) := by decide +kernel
theorem dX5_note_20 : decode cX5_note 20 = .ok (.iastore, 1) := by decide +kernel
theorem dX5_note_21 : decode cX5_note 21 = .ok (.aload_n 0, 1) := by decide +kernel
theorem dX5_note_22 : decode cX5_note 22 = .ok (.getfield 19, 3) := by decide +kernel
theorem dX5_note_25 : decode cX5_note 25 = .ok (.aload_n 0, 1) := by decide +kernel
theorem dX5_note_26 : decode cX5_note 26 = .ok (.getfield 9, 3) := by decide +kernel
theorem dX5_note_29 : decode cX5_note 29 = .ok (.iload_n 2, 1) := by decide +kernel
theorem dX5_note_30 : decode cX5_note 30 = .ok (.iastore, 1) := by decide +kernel
theorem dX5_note_31 : decode cX5_note 31 = .ok (.aload_n 0, 1) := by decide +kernel
theorem dX5_note_32 : decode cX5_note 32 = .ok (.dup, 1) := by decide +kernel
theorem dX5_note_33 : decode cX5_note 33 = .ok (.getfield 9, 3) := by decide +kernel
theorem dX5_note_36 : decode cX5_note 36 = .ok (.iconst 1, 1) := by decide +kernel
theorem dX5_note_37 : decode cX5_note 37 = .ok (.iadd, 1) := by decide +kernel
theorem dX5_note_38 : decode cX5_note 38 = .ok (.putfield 9, 3) := by decide +kernel
theorem dX5_note_41 : decode cX5_note 41 = .ok (.iconst 1, 1) := by decide +kernel
theorem dX5_note_42 : decode cX5_note 42 = .ok (.ireturn, 1) := by decide +kernel
theorem dX5_manyOf_0 : decode cX5_manyOf 0 = .ok (.iconst 0, 1) := by decide +kernel
theorem dX5_manyOf_1 : decode cX5_manyOf 1 = .ok (.istore_n 2, 1) := by decide +kernel
theorem dX5_manyOf_2 : decode cX5_manyOf 2 = .ok (.iconst 0, 1) := by decide +kernel
theorem dX5_manyOf_3 : decode cX5_manyOf 3 = .ok (.istore_n 3, 1) := by decide +kernel
theorem dX5_manyOf_4 : decode cX5_manyOf 4 = .ok (.iload_n 3, 1) := by decide +kernel
theorem dX5_manyOf_5 : decode cX5_manyOf 5 = .ok (.aload_n 0, 1) := by decide +kernel
theorem dX5_manyOf_6 : decode cX5_manyOf 6 = .ok (.getfield 9, 3) := by decide +kernel
theorem dX5_manyOf_9 : decode cX5_manyOf 9 = .ok (.if_icmp .ge 26, 3) := by decide +kernel
theorem dX5_manyOf_12 : decode cX5_manyOf 12 = .ok (.iload_n 1, 1) := by decide +kernel
theorem dX5_manyOf_13 : decode cX5_manyOf 13 = .ok (.aload_n 0, 1) := by decide +kernel
theorem dX5_manyOf_14 : decode cX5_manyOf 14 = .ok (.getfield 15, 3) := by decide +kernel
theorem dX5_manyOf_17 : decode cX5_manyOf 17 = .ok (.iload_n 3, 1) := by decide +kernel
theorem dX5_manyOf_18 : decode cX5_manyOf 18 = .ok (.iaload, 1) := by decide +kernel
theorem dX5_manyOf_19 : decode cX5_manyOf 19 = .ok (.ishr, 1) := by decide +kernel
theorem dX5_manyOf_20 : decode cX5_manyOf 20 = .ok (.iconst 1, 1) := by decide +kernel
theorem dX5_manyOf_21 : decode cX5_manyOf 21 = .ok (.iand, 1) := by decide +kernel
theorem dX5_manyOf_22 : decode cX5_manyOf 22 = .ok (.iconst 1, 1) := by decide +kernel
theorem dX5_manyOf_23 : decode cX5_manyOf 23 = .ok (.if_icmp .ne 6, 3) := by decide +kernel
theorem dX5_manyOf_26 : decode cX5_manyOf 26 = .ok (.iinc 2 1, 3) := by decide +kernel
theorem dX5_manyOf_29 : decode cX5_manyOf 29 = .ok (.iinc 3 1, 3) := by decide +kernel
theorem dX5_manyOf_32 : decode cX5_manyOf 32 = .ok (.goto (-28), 3) := by decide +kernel
theorem dX5_manyOf_35 : decode cX5_manyOf 35 = .ok (.iload_n 2, 1) := by decide +kernel
theorem dX5_manyOf_36 : decode cX5_manyOf 36 = .ok (.ireturn, 1) := by decide +kernel
theorem dX5_sumOf_0 : decode cX5_sumOf 0 = .ok (.iconst 0, 1) := by decide +kernel
theorem dX5_sumOf_1 : decode cX5_sumOf 1 = .ok (.istore_n 2, 1) := by decide +kernel
theorem dX5_sumOf_2 : decode cX5_sumOf 2 = .ok (.iconst 0, 1) := by decide +kernel
theorem dX5_sumOf_3 : decode cX5_sumOf 3 = .ok (.istore_n 3, 1) := by decide +kernel
theorem dX5_sumOf_4 : decode cX5_sumOf 4 = .ok (.iload_n 3, 1) := by decide +kernel
theorem dX5_sumOf_5 : decode cX5_sumOf 5 = .ok (.aload_n 0, 1) := by decide +kernel
theorem dX5_sumOf_6 : decode cX5_sumOf 6 = .ok (.getfield 9, 3) := by decide +kernel
theorem dX5_sumOf_9 : decode cX5_sumOf 9 = .ok (.if_icmp .ge 32, 3) := by decide +kernel
theorem dX5_sumOf_12 : decode cX5_sumOf 12 = .ok (.iload_n 1, 1) := by decide +kernel
theorem dX5_sumOf_13 : decode cX5_sumOf 13 = .ok (.aload_n 0, 1) := by decide +kernel
theorem dX5_sumOf_14 : decode cX5_sumOf 14 = .ok (.getfield 15, 3) := by decide +kernel
theorem dX5_sumOf_17 : decode cX5_sumOf 17 = .ok (.iload_n 3, 1) := by decide +kernel
theorem dX5_sumOf_18 : decode cX5_sumOf 18 = .ok (.iaload, 1) := by decide +kernel
theorem dX5_sumOf_19 : decode cX5_sumOf 19 = .ok (.ishr, 1) := by decide +kernel
theorem dX5_sumOf_20 : decode cX5_sumOf 20 = .ok (.iconst 1, 1) := by decide +kernel
theorem dX5_sumOf_21 : decode cX5_sumOf 21 = .ok (.iand, 1) := by decide +kernel
theorem dX5_sumOf_22 : decode cX5_sumOf 22 = .ok (.iconst 1, 1) := by decide +kernel
theorem dX5_sumOf_23 : decode cX5_sumOf 23 = .ok (.if_icmp .ne 12, 3) := by decide +kernel
theorem dX5_sumOf_26 : decode cX5_sumOf 26 = .ok (.iload_n 2, 1) := by decide +kernel
theorem dX5_sumOf_27 : decode cX5_sumOf 27 = .ok (.aload_n 0, 1) := by decide +kernel
theorem dX5_sumOf_28 : decode cX5_sumOf 28 = .ok (.getfield 19, 3) := by decide +kernel
theorem dX5_sumOf_31 : decode cX5_sumOf 31 = .ok (.iload_n 3, 1) := by decide +kernel
theorem dX5_sumOf_32 : decode cX5_sumOf 32 = .ok (.iaload, 1) := by decide +kernel
theorem dX5_sumOf_33 : decode cX5_sumOf 33 = .ok (.iadd, 1) := by decide +kernel
theorem dX5_sumOf_34 : decode cX5_sumOf 34 = .ok (.istore_n 2, 1) := by decide +kernel
theorem dX5_sumOf_35 : decode cX5_sumOf 35 = .ok (.iinc 3 1, 3) := by decide +kernel
theorem dX5_sumOf_38 : decode cX5_sumOf 38 = .ok (.goto (-34), 3) := by decide +kernel
theorem dX5_sumOf_41 : decode cX5_sumOf 41 = .ok (.iload_n 2, 1) := by decide +kernel
theorem dX5_sumOf_42 : decode cX5_sumOf 42 = .ok (.ireturn, 1) := by decide +kernel
theorem dX5_meanOf_0 : decode cX5_meanOf 0 = .ok (.aload_n 0, 1) := by decide +kernel
theorem dX5_meanOf_1 : decode cX5_meanOf 1 = .ok (.iload_n 1, 1) := by decide +kernel
theorem dX5_meanOf_2 : decode cX5_meanOf 2 = .ok (.invokevirtual 22, 3) := by decide +kernel
theorem dX5_meanOf_5 : decode cX5_meanOf 5 = .ok (.istore_n 3, 1) := by decide +kernel
theorem dX5_meanOf_6 : decode cX5_meanOf 6 = .ok (.aload_n 0, 1) := by decide +kernel
theorem dX5_meanOf_7 : decode cX5_meanOf 7 = .ok (.iload_n 1, 1) := by decide +kernel
theorem dX5_meanOf_8 : decode cX5_meanOf 8 = .ok (.invokevirtual 26, 3) := by decide +kernel
theorem dX5_meanOf_11 : decode cX5_meanOf 11 = .ok (.istore 4, 2) := by decide +kernel
theorem dX5_meanOf_13 : decode cX5_meanOf 13 = .ok (.iload 4, 2) := by decide +kernel
theorem dX5_meanOf_15 : decode cX5_meanOf 15 = .ok (.ifCond .ne 6, 3) := by decide +kernel
theorem dX5_meanOf_18 : decode cX5_meanOf 18 = .ok (.ldc 29, 2) := by decide +kernel
theorem dX5_meanOf_20 : decode cX5_meanOf 20 = .ok (.ireturn, 1) := by decide +kernel
theorem dX5_meanOf_21 : decode cX5_meanOf 21 = .ok (.iconst 1, 1) := by decide +kernel
theorem dX5_meanOf_22 : decode cX5_meanOf 22 = .ok (.istore 5, 2) := by decide +kernel
theorem dX5_meanOf_24 : decode cX5_meanOf 24 = .ok (.iconst 2, 1) := by decide +kernel
theorem dX5_meanOf_25 : decode cX5_meanOf 25 = .ok (.istore 6, 2) := by decide +kernel
theorem dX5_meanOf_27 : decode cX5_meanOf 27 = .ok (.iload 6, 2) := by decide +kernel
theorem dX5_meanOf_29 : decode cX5_meanOf 29 = .ok (.iload 4, 2) := by decide +kernel
theorem dX5_meanOf_31 : decode cX5_meanOf 31 = .ok (.if_icmp .gt 28, 3) := by decide +kernel
theorem dX5_meanOf_34 : decode cX5_meanOf 34 = .ok (.iload_n 3, 1) := by decide +kernel
theorem dX5_meanOf_35 : decode cX5_meanOf 35 = .ok (.iload 6, 2) := by decide +kernel
theorem dX5_meanOf_37 : decode cX5_meanOf 37 = .ok (.irem, 1) := by decide +kernel
theorem dX5_meanOf_38 : decode cX5_meanOf 38 = .ok (.ifCond .ne 15, 3) := by decide +kernel
theorem dX5_meanOf_41 : decode cX5_meanOf 41 = .ok (.iload 4, 2) := by decide +kernel
theorem dX5_meanOf_43 : decode cX5_meanOf 43 = .ok (.iload 6, 2) := by decide +kernel
theorem dX5_meanOf_45 : decode cX5_meanOf 45 = .ok (.irem, 1) := by decide +kernel
theorem dX5_meanOf_46 : decode cX5_meanOf 46 = .ok (.ifCond .ne 7, 3) := by decide +kernel
theorem dX5_meanOf_49 : decode cX5_meanOf 49 = .ok (.iload 6, 2) := by decide +kernel
theorem dX5_meanOf_51 : decode cX5_meanOf 51 = .ok (.istore 5, 2) := by decide +kernel
theorem dX5_meanOf_53 : decode cX5_meanOf 53 = .ok (.iinc 6 1, 3) := by decide +kernel
theorem dX5_meanOf_56 : decode cX5_meanOf 56 = .ok (.goto (-29), 3) := by decide +kernel
theorem dX5_meanOf_59 : decode cX5_meanOf 59 = .ok (.iload_n 2, 1) := by decide +kernel
theorem dX5_meanOf_60 : decode cX5_meanOf 60 = .ok (.ifCond .ne 7, 3) := by decide +kernel
theorem dX5_meanOf_63 : decode cX5_meanOf 63 = .ok (.iload_n 3, 1) := by decide +kernel
theorem dX5_meanOf_64 : decode cX5_meanOf 64 = .ok (.goto 5, 3) := by decide +kernel
theorem dX5_meanOf_67 : decode cX5_meanOf 67 = .ok (.iload 4, 2) := by decide +kernel
theorem dX5_meanOf_69 : decode cX5_meanOf 69 = .ok (.iload 5, 2) := by decide +kernel
theorem dX5_meanOf_71 : decode cX5_meanOf 71 = .ok (.idiv, 1) := by decide +kernel
theorem dX5_meanOf_72 : decode cX5_meanOf 72 = .ok (.ireturn, 1) := by decide +kernel
theorem dX5_farthestBit_0 : decode cX5_farthestBit 0 = .ok (.bipush (-9), 2) := by decide +kernel
theorem dX5_farthestBit_2 : decode cX5_farthestBit 2 = .ok (.istore_n 1, 1) := by decide +kernel
theorem dX5_farthestBit_3 : decode cX5_farthestBit 3 = .ok (.iconst 0, 1) := by decide +kernel
theorem dX5_farthestBit_4 : decode cX5_farthestBit 4 = .ok (.istore_n 2, 1) := by decide +kernel
theorem dX5_farthestBit_5 : decode cX5_farthestBit 5 = .ok (.iconst 1, 1) := by decide +kernel
theorem dX5_farthestBit_6 : decode cX5_farthestBit 6 = .ok (.istore_n 3, 1) := by decide +kernel
theorem dX5_farthestBit_7 : decode cX5_farthestBit 7 = .ok (.iconst 0, 1) := by decide +kernel
theorem dX5_farthestBit_8 : decode cX5_farthestBit 8 = .ok (.istore 4, 2) := by decide +kernel
theorem dX5_farthestBit_10 : decode cX5_farthestBit 10 = .ok (.iload 4, 2) := by decide +kernel
theorem dX5_farthestBit_12 : decode cX5_farthestBit 12 = .ok (.getstatic 30, 3) := by decide +kernel
theorem dX5_farthestBit_15 : decode cX5_farthestBit 15 = .ok (.arraylength, 1) := by decide +kernel
theorem dX5_farthestBit_16 : decode cX5_farthestBit 16 = .ok (.if_icmp .ge 108, 3) := by decide +kernel
theorem dX5_farthestBit_19 : decode cX5_farthestBit 19 = .ok (.getstatic 30, 3) := by decide +kernel
theorem dX5_farthestBit_22 : decode cX5_farthestBit 22 = .ok (.iload 4, 2) := by decide +kernel
theorem dX5_farthestBit_24 : decode cX5_farthestBit 24 = .ok (.iaload, 1) := by decide +kernel
theorem dX5_farthestBit_25 : decode cX5_farthestBit 25 = .ok (.istore 5, 2) := by decide +kernel
theorem dX5_farthestBit_27 : decode cX5_farthestBit 27 = .ok (.sipush 255, 3) := by decide +kernel
theorem dX5_farthestBit_30 : decode cX5_farthestBit 30 = .ok (.iload 5, 2) := by decide +kernel
theorem dX5_farthestBit_32 : decode cX5_farthestBit 32 = .ok (.ixor, 1) := by decide +kernel
theorem dX5_farthestBit_33 : decode cX5_farthestBit 33 = .ok (.istore 6, 2) := by decide +kernel
theorem dX5_farthestBit_35 : decode cX5_farthestBit 35 = .ok (.aload_n 0, 1) := by decide +kernel
theorem dX5_farthestBit_36 : decode cX5_farthestBit 36 = .ok (.iload 5, 2) := by decide +kernel
theorem dX5_farthestBit_38 : decode cX5_farthestBit 38 = .ok (.invokevirtual 26, 3) := by decide +kernel
theorem dX5_farthestBit_41 : decode cX5_farthestBit 41 = .ok (.istore 7, 2) := by decide +kernel
theorem dX5_farthestBit_43 : decode cX5_farthestBit 43 = .ok (.aload_n 0, 1) := by decide +kernel
theorem dX5_farthestBit_44 : decode cX5_farthestBit 44 = .ok (.iload 6, 2) := by decide +kernel
theorem dX5_farthestBit_46 : decode cX5_farthestBit 46 = .ok (.invokevirtual 26, 3) := by decide +kernel
theorem dX5_farthestBit_49 : decode cX5_farthestBit 49 = .ok (.istore 8, 2) := by decide +kernel
theorem dX5_farthestBit_51 : decode cX5_farthestBit 51 = .ok (.iload 7, 2) := by decide +kernel
theorem dX5_farthestBit_53 : decode cX5_farthestBit 53 = .ok (.ifCond .le 65, 3) := by decide +kernel
theorem dX5_farthestBit_56 : decode cX5_farthestBit 56 = .ok (.iload 8, 2) := by decide +kernel
theorem dX5_farthestBit_58 : decode cX5_farthestBit 58 = .ok (.ifCond .le 60, 3) := by decide +kernel
theorem dX5_farthestBit_61 : decode cX5_farthestBit 61 = .ok (.aload_n 0, 1) := by decide +kernel
theorem dX5_farthestBit_62 : decode cX5_farthestBit 62 = .ok (.iload 5, 2) := by decide +kernel
theorem dX5_farthestBit_64 : decode cX5_farthestBit 64 = .ok (.invokevirtual 22, 3) := by decide +kernel
theorem dX5_farthestBit_67 : decode cX5_farthestBit 67 = .ok (.iload 8, 2) := by decide +kernel
theorem dX5_farthestBit_69 : decode cX5_farthestBit 69 = .ok (.imul, 1) := by decide +kernel
theorem dX5_farthestBit_70 : decode cX5_farthestBit 70 = .ok (.aload_n 0, 1) := by decide +kernel
theorem dX5_farthestBit_71 : decode cX5_farthestBit 71 = .ok (.iload 6, 2) := by decide +kernel
theorem dX5_farthestBit_73 : decode cX5_farthestBit 73 = .ok (.invokevirtual 22, 3) := by decide +kernel
theorem dX5_farthestBit_76 : decode cX5_farthestBit 76 = .ok (.iload 7, 2) := by decide +kernel
theorem dX5_farthestBit_78 : decode cX5_farthestBit 78 = .ok (.imul, 1) := by decide +kernel
theorem dX5_farthestBit_79 : decode cX5_farthestBit 79 = .ok (.isub, 1) := by decide +kernel
theorem dX5_farthestBit_80 : decode cX5_farthestBit 80 = .ok (.invokestatic 33, 3) := by decide +kernel
theorem dX5_farthestBit_83 : decode cX5_farthestBit 83 = .ok (.istore 9, 2) := by decide +kernel
theorem dX5_farthestBit_85 : decode cX5_farthestBit 85 = .ok (.iload 7, 2) := by decide +kernel
theorem dX5_farthestBit_87 : decode cX5_farthestBit 87 = .ok (.iload 8, 2) := by decide +kernel
theorem dX5_farthestBit_89 : decode cX5_farthestBit 89 = .ok (.imul, 1) := by decide +kernel
theorem dX5_farthestBit_90 : decode cX5_farthestBit 90 = .ok (.istore 10, 2) := by decide +kernel
theorem dX5_farthestBit_92 : decode cX5_farthestBit 92 = .ok (.iload_n 1, 1) := by decide +kernel
theorem dX5_farthestBit_93 : decode cX5_farthestBit 93 = .ok (.bipush (-9), 2) := by decide +kernel
theorem dX5_farthestBit_95 : decode cX5_farthestBit 95 = .ok (.if_icmp .eq 14, 3) := by decide +kernel
theorem dX5_farthestBit_98 : decode cX5_farthestBit 98 = .ok (.iload 9, 2) := by decide +kernel
theorem dX5_farthestBit_100 : decode cX5_farthestBit 100 = .ok (.iload_n 3, 1) := by decide +kernel
theorem dX5_farthestBit_101 : decode cX5_farthestBit 101 = .ok (.imul, 1) := by decide +kernel
theorem dX5_farthestBit_102 : decode cX5_farthestBit 102 = .ok (.iload_n 2, 1) := by decide +kernel
theorem dX5_farthestBit_103 : decode cX5_farthestBit 103 = .ok (.iload 10, 2) := by decide +kernel
theorem dX5_farthestBit_105 : decode cX5_farthestBit 105 = .ok (.imul, 1) := by decide +kernel
theorem dX5_farthestBit_106 : decode cX5_farthestBit 106 = .ok (.if_icmp .le 12, 3) := by decide +kernel
theorem dX5_farthestBit_109 : decode cX5_farthestBit 109 = .ok (.iload 4, 2) := by decide +kernel
theorem dX5_farthestBit_111 : decode cX5_farthestBit 111 = .ok (.istore_n 1, 1) := by decide +kernel
theorem dX5_farthestBit_112 : decode cX5_farthestBit 112 = .ok (.iload 9, 2) := by decide +kernel
theorem dX5_farthestBit_114 : decode cX5_farthestBit 114 = .ok (.istore_n 2, 1) := by decide +kernel
theorem dX5_farthestBit_115 : decode cX5_farthestBit 115 = .ok (.iload 10, 2) := by decide +kernel
theorem dX5_farthestBit_117 : decode cX5_farthestBit 117 = .ok (.istore_n 3, 1) := by decide +kernel
theorem dX5_farthestBit_118 : decode cX5_farthestBit 118 = .ok (.iinc 4 1, 3) := by decide +kernel
theorem dX5_farthestBit_121 : decode cX5_farthestBit 121 = .ok (.goto (-111), 3) := by decide +kernel
theorem dX5_farthestBit_124 : decode cX5_farthestBit 124 = .ok (.iload_n 1, 1) := by decide +kernel
theorem dX5_farthestBit_125 : decode cX5_farthestBit 125 = .ok (.ireturn, 1) := by decide +kernel
theorem dX6_init_0 : decode cX6_init 0 = .ok (.aload_n 0, 1) := by decide +kernel
theorem dX6_init_1 : decode cX6_init 1 = .ok (.invokespecial 1, 3) := by decide +kernel
theorem dX6_init_4 : decode cX6_init 4 = .ok (.aload_n 0, 1) := by decide +kernel
theorem dX6_init_5 : decode cX6_init 5 = .ok (.new 7, 3) := by decide +kernel
theorem dX6_init_8 : decode cX6_init 8 = .ok (.dup, 1) := by decide +kernel
theorem dX6_init_9 : decode cX6_init 9 = .ok (.invokespecial 9, 3) := by decide +kernel
theorem dX6_init_12 : decode cX6_init 12 = .ok (.putfield 10, 3) := by decide +kernel
theorem dX6_init_15 : decode cX6_init 15 = .ok (.aload_n 0, 1) := by decide +kernel
theorem dX6_init_16 : decode cX6_init 16 = .ok (.new 16, 3) := by decide +kernel
theorem dX6_init_19 : decode cX6_init 19 = .ok (.dup, 1) := by decide +kernel
theorem dX6_init_20 : decode cX6_init 20 = .ok (.invokespecial 18, 3) := by decide +kernel
theorem dX6_init_23 : decode cX6_init 23 = .ok (.putfield 19, 3) := by decide +kernel
theorem dX6_init_26 : decode cX6_init 26 = .ok (.aload_n 0, 1) := by decide +kernel
theorem dX6_init_27 : decode cX6_init 27 = .ok (.new 23, 3) := by decide +kernel
theorem dX6_init_30 : decode cX6_init 30 = .ok (.dup, 1) := by decide +kernel
theorem dX6_init_31 : decode cX6_init 31 = .ok (.invokespecial 25, 3) := by decide +kernel
theorem dX6_init_34 : decode cX6_init 34 = .ok (.putfield 26, 3) := by decide +kernel
theorem dX6_init_37 : decode cX6_init 37 = .ok (.aload_n 0, 1) := by decide +kernel
theorem dX6_init_38 : decode cX6_init 38 = .ok (.bipush 6, 2) := by decide +kernel
theorem dX6_init_40 : decode cX6_init 40 = .ok (.newarray .int, 2) := by decide +kernel
theorem dX6_init_42 : decode cX6_init 42 = .ok (.putfield 30, 3) := by decide +kernel
theorem dX6_init_45 : decode cX6_init 45 = .ok (.aload_n 0, 1) := by decide +kernel
theorem dX6_init_46 : decode cX6_init 46 = .ok (.new 34, 3) := by decide +kernel
theorem dX6_init_49 : decode cX6_init 49 = .ok (.dup, 1) := by decide +kernel
theorem dX6_init_50 : decode cX6_init 50 = .ok (.invokespecial 36, 3) := by decide +kernel
theorem dX6_init_53 : decode cX6_init 53 = .ok (.putfield 37, 3) := by decide +kernel
theorem dX6_init_56 : decode cX6_init 56 = .ok (.aload_n 0, 1) := by decide +kernel
theorem dX6_init_57 : decode cX6_init 57 = .ok (.new 34, 3) := by decide +kernel
theorem dX6_init_60 : decode cX6_init 60 = .ok (.dup, 1) := by decide +kernel
theorem dX6_init_61 : decode cX6_init 61 = .ok (.invokespecial 36, 3) := by decide +kernel
theorem dX6_init_64 : decode cX6_init 64 = .ok (.putfield 41, 3) := by decide +kernel
theorem dX6_init_67 : decode cX6_init 67 = .ok (.aload_n 0, 1) := by decide +kernel
theorem dX6_init_68 : decode cX6_init 68 = .ok (.new 44, 3) := by decide +kernel
theorem dX6_init_71 : decode cX6_init 71 = .ok (.dup, 1) := by decide +kernel
theorem dX6_init_72 : decode cX6_init 72 = .ok (.invokespecial 46, 3) := by decide +kernel
theorem dX6_init_75 : decode cX6_init 75 = .ok (.putfield 47, 3) := by decide +kernel
theorem dX6_init_78 : decode cX6_init 78 = .ok (.aload_n 0, 1) := by decide +kernel
theorem dX6_init_79 : decode cX6_init 79 = .ok (.new 51, 3) := by decide +kernel
theorem dX6_init_82 : decode cX6_init 82 = .ok (.dup, 1) := by decide +kernel
theorem dX6_init_83 : decode cX6_init 83 = .ok (.invokespecial 53, 3) := by decide +kernel
theorem dX6_init_86 : decode cX6_init 86 = .ok (.putfield 54, 3) := by decide +kernel
theorem dX6_init_89 : decode cX6_init 89 = .ok (.aload_n 0, 1) := by decide +kernel
theorem dX6_init_90 : decode cX6_init 90 = .ok (.new 7, 3) := by decide +kernel
theorem dX6_init_93 : decode cX6_init 93 = .ok (.dup, 1) := by decide +kernel
theorem dX6_init_94 : decode cX6_init 94 = .ok (.invokespecial 9, 3) := by decide +kernel
theorem dX6_init_97 : decode cX6_init 97 = .ok (.putfield 58, 3) := by decide +kernel
theorem dX6_init_100 : decode cX6_init 100 = .ok (.aload_n 0, 1) := by decide +kernel
theorem dX6_init_101 : decode cX6_init 101 = .ok (.new 23, 3) := by decide +kernel
theorem dX6_init_104 : decode cX6_init 104 = .ok (.dup, 1) := by decide +kernel
theorem dX6_init_105 : decode cX6_init 105 = .ok (.invokespecial 25, 3) := by decide +kernel
theorem dX6_init_108 : decode cX6_init 108 = .ok (.putfield 61, 3) := by decide +kernel
theorem dX6_init_111 : decode cX6_init 111 = .ok (.aload_n 0, 1) := by decide +kernel
theorem dX6_init_112 : decode cX6_init 112 = .ok (.iconst 1, 1) := by decide +kernel
theorem dX6_init_113 : decode cX6_init 113 = .ok (.putfield 64, 3) := by decide +kernel
theorem dX6_init_116 : decode cX6_init 116 = .ok (.aload_n 0, 1) := by decide +kernel
theorem dX6_init_117 : decode cX6_init 117 = .ok (.lconst 0, 1) := by decide +kernel
theorem dX6_init_118 : decode cX6_init 118 = .ok (.putfield 68, 3) := by decide +kernel
theorem dX6_init_121 : decode cX6_init 121 = .ok (.getstatic 72, 3) := by decide +kernel
theorem dX6_init_124 : decode cX6_init 124 = .ok (.iconst 0, 1) := by decide +kernel
theorem dX6_init_125 : decode cX6_init 125 = .ok (.aload_n 0, 1) := by decide +kernel
theorem dX6_init_126 : decode cX6_init 126 = .ok (.getfield 30, 3) := by decide +kernel
theorem dX6_init_129 : decode cX6_init 129 = .ok (.iconst 0, 1) := by decide +kernel
theorem dX6_init_130 : decode cX6_init 130 = .ok (.bipush 6, 2) := by decide +kernel
theorem dX6_init_132 : decode cX6_init 132 = .ok (.invokestatic 75, 3) := by decide +kernel
theorem dX6_init_135 : decode cX6_init 135 = .ok (.aload_n 0, 1) := by decide +kernel
theorem dX6_init_136 : decode cX6_init 136 = .ok (.getfield 10, 3) := by decide +kernel
theorem dX6_init_139 : decode cX6_init 139 = .ok (.invokevirtual 81, 3) := by decide +kernel
theorem dX6_init_142 : decode cX6_init 142 = .ok (.aload_n 0, 1) := by decide +kernel
theorem dX6_init_143 : decode cX6_init 143 = .ok (.getfield 26, 3) := by decide +kernel
theorem dX6_init_146 : decode cX6_init 146 = .ok (.aload_n 0, 1) := by decide +kernel
theorem dX6_init_147 : decode cX6_init 147 = .ok (.getfield 10, 3) := by decide +kernel
theorem dX6_init_150 : decode cX6_init 150 = .ok (.iconst 0, 1) := by decide +kernel
theorem dX6_init_151 : decode cX6_init 151 = .ok (.invokevirtual 84, 3) := by decide +kernel
theorem dX6_init_154 : decode cX6_init 154 = .ok (.return_, 1) := by decide +kernel
theorem dX6_type_0 : decode cX6_type 0 = .ok (.iload_n 3, 1) := by decide +kernel
theorem dX6_type_1 : decode cX6_type 1 = .ok (.iconst 1, 1) := by decide +kernel
theorem dX6_type_2 : decode cX6_type 2 = .ok (.bipush 8, 2) := by decide +kernel
theorem dX6_type_4 : decode cX6_type 4 = .ok (.invokestatic 88, 3) := by decide +kernel
theorem dX6_type_7 : decode cX6_type 7 = .ok (.ifCond .ne 5, 3) := by decide +kernel
theorem dX6_type_10 : decode cX6_type 10 = .ok (.iconst (-1), 1) := by decide +kernel
theorem dX6_type_11 : decode cX6_type 11 = .ok (.ireturn, 1) := by decide +kernel
theorem dX6_type_12 : decode cX6_type 12 = .ok (.aload_n 0, 1) := by decide +kernel
theorem dX6_type_13 : decode cX6_type 13 = .ok (.getfield 19, 3) := by decide +kernel
theorem dX6_type_16 : decode cX6_type 16 = .ok (.lload_n 1, 1) := by decide +kernel
theorem dX6_type_17 : decode cX6_type 17 = .ok (.iload_n 3, 1) := by decide +kernel
theorem dX6_type_18 : decode cX6_type 18 = .ok (.invokevirtual 92, 3) := by decide +kernel
theorem dX6_type_21 : decode cX6_type 21 = .ok (.ifCond .eq 13, 3) := by decide +kernel
theorem dX6_type_24 : decode cX6_type 24 = .ok (.aload_n 0, 1) := by decide +kernel
theorem dX6_type_25 : decode cX6_type 25 = .ok (.getfield 19, 3) := by decide +kernel
theorem dX6_type_28 : decode cX6_type 28 = .ok (.getfield 96, 3) := by decide +kernel
theorem dX6_type_31 : decode cX6_type 31 = .ok (.goto 5, 3) := by decide +kernel
theorem dX6_type_34 : decode cX6_type 34 = .ok (.bipush (-3), 2) := by decide +kernel
theorem dX6_type_36 : decode cX6_type 36 = .ok (.ireturn, 1) := by decide +kernel
theorem dX6_clear_0 : decode cX6_clear 0 = .ok (.aload_n 0, 1) := by decide +kernel
theorem dX6_clear_1 : decode cX6_clear 1 = .ok (.getfield 19, 3) := by decide +kernel
theorem dX6_clear_4 : decode cX6_clear 4 = .ok (.getfield 96, 3) := by decide +kernel
theorem dX6_clear_7 : decode cX6_clear 7 = .ok (.istore_n 1, 1) := by decide +kernel
theorem dX6_clear_8 : decode cX6_clear 8 = .ok (.aload_n 0, 1) := by decide +kernel
theorem dX6_clear_9 : decode cX6_clear 9 = .ok (.getfield 19, 3) := by decide +kernel
theorem dX6_clear_12 : decode cX6_clear 12 = .ok (.iconst 0, 1) := by decide +kernel
theorem dX6_clear_13 : decode cX6_clear 13 = .ok (.putfield 96, 3) := by decide +kernel
theorem dX6_clear_16 : decode cX6_clear 16 = .ok (.iload_n 1, 1) := by decide +kernel
theorem dX6_clear_17 : decode cX6_clear 17 = .ok (.ireturn, 1) := by decide +kernel
theorem dX6_chart_0 : decode cX6_chart 0 = .ok (.aload_n 0, 1) := by decide +kernel
theorem dX6_chart_1 : decode cX6_chart 1 = .ok (.getfield 19, 3) := by decide +kernel
theorem dX6_chart_4 : decode cX6_chart 4 = .ok (.invokevirtual 99, 3) := by decide +kernel
theorem dX6_chart_7 : decode cX6_chart 7 = .ok (.istore_n 1, 1) := by decide +kernel
theorem dX6_chart_8 : decode cX6_chart 8 = .ok (.iload_n 1, 1) := by decide +kernel
theorem dX6_chart_9 : decode cX6_chart 9 = .ok (.ifCond .ge 14, 3) := by decide +kernel
theorem dX6_chart_12 : decode cX6_chart 12 = .ok (.bipush (-10), 2) := by decide +kernel
theorem dX6_chart_14 : decode cX6_chart 14 = .ok (.aload_n 0, 1) := by decide +kernel
theorem dX6_chart_15 : decode cX6_chart 15 = .ok (.getfield 19, 3) := by decide +kernel
theorem dX6_chart_18 : decode cX6_chart 18 = .ok (.invokevirtual 103, 3) := by decide +kernel
theorem dX6_chart_21 : decode cX6_chart 21 = .ok (.isub, 1) := by decide +kernel
theorem dX6_chart_22 : decode cX6_chart 22 = .ok (.ireturn, 1) := by decide +kernel
theorem dX6_chart_23 : decode cX6_chart 23 = .ok (.aload_n 0, 1) := by decide +kernel
theorem dX6_chart_24 : decode cX6_chart 24 = .ok (.getfield 19, 3) := by decide +kernel
theorem dX6_chart_27 : decode cX6_chart 27 = .ok (.iconst 0, 1) := by decide +kernel
theorem dX6_chart_28 : decode cX6_chart 28 = .ok (.putfield 96, 3) := by decide +kernel
theorem dX6_chart_31 : decode cX6_chart 31 = .ok (.aload_n 0, 1) := by decide +kernel
theorem dX6_chart_32 : decode cX6_chart 32 = .ok (.getfield 10, 3) := by decide +kernel
theorem dX6_chart_35 : decode cX6_chart 35 = .ok (.aload_n 0, 1) := by decide +kernel
theorem dX6_chart_36 : decode cX6_chart 36 = .ok (.getfield 19, 3) := by decide +kernel
theorem dX6_chart_39 : decode cX6_chart 39 = .ok (.getfield 106, 3) := by decide +kernel
theorem dX6_chart_42 : decode cX6_chart 42 = .ok (.invokevirtual 109, 3) := by decide +kernel
theorem dX6_chart_45 : decode cX6_chart 45 = .ok (.aload_n 0, 1) := by decide +kernel
theorem dX6_chart_46 : decode cX6_chart 46 = .ok (.getfield 26, 3) := by decide +kernel
theorem dX6_chart_49 : decode cX6_chart 49 = .ok (.aload_n 0, 1) := by decide +kernel
theorem dX6_chart_50 : decode cX6_chart 50 = .ok (.getfield 10, 3) := by decide +kernel
theorem dX6_chart_53 : decode cX6_chart 53 = .ok (.iconst 0, 1) := by decide +kernel
theorem dX6_chart_54 : decode cX6_chart 54 = .ok (.invokevirtual 84, 3) := by decide +kernel
theorem dX6_chart_57 : decode cX6_chart 57 = .ok (.aload_n 0, 1) := by decide +kernel
theorem dX6_chart_58 : decode cX6_chart 58 = .ok (.getfield 37, 3) := by decide +kernel
theorem dX6_chart_61 : decode cX6_chart 61 = .ok (.iconst 0, 1) := by decide +kernel
theorem dX6_chart_62 : decode cX6_chart 62 = .ok (.putfield 113, 3) := by decide +kernel
theorem dX6_chart_65 : decode cX6_chart 65 = .ok (.aload_n 0, 1) := by decide +kernel
theorem dX6_chart_66 : decode cX6_chart 66 = .ok (.getfield 41, 3) := by decide +kernel
theorem dX6_chart_69 : decode cX6_chart 69 = .ok (.iconst 0, 1) := by decide +kernel
theorem dX6_chart_70 : decode cX6_chart 70 = .ok (.putfield 113, 3) := by decide +kernel
theorem dX6_chart_73 : decode cX6_chart 73 = .ok (.iload_n 1, 1) := by decide +kernel
theorem dX6_chart_74 : decode cX6_chart 74 = .ok (.ireturn, 1) := by decide +kernel
theorem dX6_child_0 : decode cX6_child 0 = .ok (.aload_n 0, 1) := by decide +kernel
theorem dX6_child_1 : decode cX6_child 1 = .ok (.iload_n 1, 1) := by decide +kernel
theorem dX6_child_2 : decode cX6_child 2 = .ok (.invokevirtual 117, 3) := by decide +kernel
theorem dX6_child_5 : decode cX6_child 5 = .ok (.ifCond .ne 5, 3) := by decide +kernel
theorem dX6_child_8 : decode cX6_child 8 = .ok (.iconst (-1), 1) := by decide +kernel
theorem dX6_child_9 : decode cX6_child 9 = .ok (.ireturn, 1) := by decide +kernel
theorem dX6_child_10 : decode cX6_child 10 = .ok (.iload_n 2, 1) := by decide +kernel
theorem dX6_child_11 : decode cX6_child 11 = .ok (.tableswitch 97 0 5 #[37, 47, 57, 67, 77, 87], 37) := by decide +kernel
theorem dX6_child_48 : decode cX6_child 48 = .ok (.aload_n 0, 1) := by decide +kernel
theorem dX6_child_49 : decode cX6_child 49 = .ok (.getfield 10, 3) := by decide +kernel
theorem dX6_child_52 : decode cX6_child 52 = .ok (.getfield 121, 3) := by decide +kernel
theorem dX6_child_55 : decode cX6_child 55 = .ok (.iload_n 1, 1) := by decide +kernel
theorem dX6_child_56 : decode cX6_child 56 = .ok (.iaload, 1) := by decide +kernel
theorem dX6_child_57 : decode cX6_child 57 = .ok (.ireturn, 1) := by decide +kernel
theorem dX6_child_58 : decode cX6_child 58 = .ok (.aload_n 0, 1) := by decide +kernel
theorem dX6_child_59 : decode cX6_child 59 = .ok (.getfield 10, 3) := by decide +kernel
theorem dX6_child_62 : decode cX6_child 62 = .ok (.getfield 124, 3) := by decide +kernel
theorem dX6_child_65 : decode cX6_child 65 = .ok (.iload_n 1, 1) := by decide +kernel
theorem dX6_child_66 : decode cX6_child 66 = .ok (.iaload, 1) := by decide +kernel
theorem dX6_child_67 : decode cX6_child 67 = .ok (.ireturn, 1) := by decide +kernel
theorem dX6_child_68 : decode cX6_child 68 = .ok (.aload_n 0, 1) := by decide +kernel
theorem dX6_child_69 : decode cX6_child 69 = .ok (.getfield 10, 3) := by decide +kernel
theorem dX6_child_72 : decode cX6_child 72 = .ok (.getfield 127, 3) := by decide +kernel
theorem dX6_child_75 : decode cX6_child 75 = .ok (.iload_n 1, 1) := by decide +kernel
theorem dX6_child_76 : decode cX6_child 76 = .ok (.iaload, 1) := by decide +kernel
theorem dX6_child_77 : decode cX6_child 77 = .ok (.ireturn, 1) := by decide +kernel
theorem dX6_child_78 : decode cX6_child 78 = .ok (.aload_n 0, 1) := by decide +kernel
theorem dX6_child_79 : decode cX6_child 79 = .ok (.getfield 26, 3) := by decide +kernel
theorem dX6_child_82 : decode cX6_child 82 = .ok (.getfield 130, 3) := by decide +kernel
theorem dX6_child_85 : decode cX6_child 85 = .ok (.iload_n 1, 1) := by decide +kernel
theorem dX6_child_86 : decode cX6_child 86 = .ok (.iaload, 1) := by decide +kernel
theorem dX6_child_87 : decode cX6_child 87 = .ok (.ireturn, 1) := by decide +kernel
theorem dX6_child_88 : decode cX6_child 88 = .ok (.aload_n 0, 1) := by decide +kernel
theorem dX6_child_89 : decode cX6_child 89 = .ok (.getfield 26, 3) := by decide +kernel
theorem dX6_child_92 : decode cX6_child 92 = .ok (.getfield 131, 3) := by decide +kernel
theorem dX6_child_95 : decode cX6_child 95 = .ok (.iload_n 1, 1) := by decide +kernel
theorem dX6_child_96 : decode cX6_child 96 = .ok (.iaload, 1) := by decide +kernel
theorem dX6_child_97 : decode cX6_child 97 = .ok (.ireturn, 1) := by decide +kernel
theorem dX6_child_98 : decode cX6_child 98 = .ok (.aload_n 0, 1) := by decide +kernel
theorem dX6_child_99 : decode cX6_child 99 = .ok (.getfield 26, 3) := by decide +kernel
theorem dX6_child_102 : decode cX6_child 102 = .ok (.getfield 134, 3) := by decide +kernel
theorem dX6_child_105 : decode cX6_child 105 = .ok (.iload_n 1, 1) := by decide +kernel
theorem dX6_child_106 : decode cX6_child 106 = .ok (.iaload, 1) := by decide +kernel
theorem dX6_child_107 : decode cX6_child 107 = .ok (.ireturn, 1) := by decide +kernel
theorem dX6_child_108 : decode cX6_child 108 = .ok (.iconst (-1), 1) := by decide +kernel
theorem dX6_child_109 : decode cX6_child 109 = .ok (.ireturn, 1) := by decide +kernel
theorem dX6_book_0 : decode cX6_book 0 = .ok (.aload_n 0, 1) := by decide +kernel
theorem dX6_book_1 : decode cX6_book 1 = .ok (.iload_n 1, 1) := by decide +kernel
theorem dX6_book_2 : decode cX6_book 2 = .ok (.invokevirtual 137, 3) := by decide +kernel
theorem dX6_book_5 : decode cX6_book 5 = .ok (.ifCond .ne 5, 3) := by decide +kernel
theorem dX6_book_8 : decode cX6_book 8 = .ok (.iconst (-1), 1) := by decide +kernel
theorem dX6_book_9 : decode cX6_book 9 = .ok (.ireturn, 1) := by decide +kernel
theorem dX6_book_10 : decode cX6_book 10 = .ok (.iload_n 2, 1) := by decide +kernel
theorem dX6_book_11 : decode cX6_book 11 = .ok (.tableswitch 55 0 2 #[25, 35, 45], 25) := by decide +kernel
theorem dX6_book_36 : decode cX6_book 36 = .ok (.aload_n 0, 1) := by decide +kernel
theorem dX6_book_37 : decode cX6_book 37 = .ok (.getfield 10, 3) := by decide +kernel
theorem dX6_book_40 : decode cX6_book 40 = .ok (.getfield 140, 3) := by decide +kernel
theorem dX6_book_43 : decode cX6_book 43 = .ok (.iload_n 1, 1) := by decide +kernel
theorem dX6_book_44 : decode cX6_book 44 = .ok (.iaload, 1) := by decide +kernel
theorem dX6_book_45 : decode cX6_book 45 = .ok (.ireturn, 1) := by decide +kernel
theorem dX6_book_46 : decode cX6_book 46 = .ok (.aload_n 0, 1) := by decide +kernel
theorem dX6_book_47 : decode cX6_book 47 = .ok (.getfield 10, 3) := by decide +kernel
theorem dX6_book_50 : decode cX6_book 50 = .ok (.getfield 143, 3) := by decide +kernel
theorem dX6_book_53 : decode cX6_book 53 = .ok (.iload_n 1, 1) := by decide +kernel
theorem dX6_book_54 : decode cX6_book 54 = .ok (.iaload, 1) := by decide +kernel
theorem dX6_book_55 : decode cX6_book 55 = .ok (.ireturn, 1) := by decide +kernel
theorem dX6_book_56 : decode cX6_book 56 = .ok (.aload_n 0, 1) := by decide +kernel
theorem dX6_book_57 : decode cX6_book 57 = .ok (.getfield 10, 3) := by decide +kernel
theorem dX6_book_60 : decode cX6_book 60 = .ok (.getfield 146, 3) := by decide +kernel
theorem dX6_book_63 : decode cX6_book 63 = .ok (.iload_n 1, 1) := by decide +kernel
theorem dX6_book_64 : decode cX6_book 64 = .ok (.iaload, 1) := by decide +kernel
theorem dX6_book_65 : decode cX6_book 65 = .ok (.ireturn, 1) := by decide +kernel
theorem dX6_book_66 : decode cX6_book 66 = .ok (.iconst (-1), 1) := by decide +kernel
theorem dX6_book_67 : decode cX6_book 67 = .ok (.ireturn, 1) := by decide +kernel
theorem dX6_plan_0 : decode cX6_plan 0 = .ok (.iload_n 1, 1) := by decide +kernel
theorem dX6_plan_1 : decode cX6_plan 1 = .ok (.tableswitch 71 0 3 #[31, 39, 47, 63], 31) := by decide +kernel
theorem dX6_plan_32 : decode cX6_plan 32 = .ok (.aload_n 0, 1) := by decide +kernel
theorem dX6_plan_33 : decode cX6_plan 33 = .ok (.getfield 10, 3) := by decide +kernel
theorem dX6_plan_36 : decode cX6_plan 36 = .ok (.getfield 149, 3) := by decide +kernel
theorem dX6_plan_39 : decode cX6_plan 39 = .ok (.ireturn, 1) := by decide +kernel
theorem dX6_plan_40 : decode cX6_plan 40 = .ok (.aload_n 0, 1) := by decide +kernel
theorem dX6_plan_41 : decode cX6_plan 41 = .ok (.getfield 10, 3) := by decide +kernel
theorem dX6_plan_44 : decode cX6_plan 44 = .ok (.getfield 152, 3) := by decide +kernel
theorem dX6_plan_47 : decode cX6_plan 47 = .ok (.ireturn, 1) := by decide +kernel
theorem dX6_plan_48 : decode cX6_plan 48 = .ok (.aload_n 0, 1) := by decide +kernel
theorem dX6_plan_49 : decode cX6_plan 49 = .ok (.getfield 10, 3) := by decide +kernel
theorem dX6_plan_52 : decode cX6_plan 52 = .ok (.getfield 155, 3) := by decide +kernel
theorem dX6_plan_55 : decode cX6_plan 55 = .ok (.ifCond .eq 7, 3) := by decide +kernel
theorem dX6_plan_58 : decode cX6_plan 58 = .ok (.iconst 1, 1) := by decide +kernel
theorem dX6_plan_59 : decode cX6_plan 59 = .ok (.goto 4, 3) := by decide +kernel
theorem dX6_plan_62 : decode cX6_plan 62 = .ok (.iconst 0, 1) := by decide +kernel
theorem dX6_plan_63 : decode cX6_plan 63 = .ok (.ireturn, 1) := by decide +kernel
theorem dX6_plan_64 : decode cX6_plan 64 = .ok (.aload_n 0, 1) := by decide +kernel
theorem dX6_plan_65 : decode cX6_plan 65 = .ok (.getfield 10, 3) := by decide +kernel
theorem dX6_plan_68 : decode cX6_plan 68 = .ok (.getfield 158, 3) := by decide +kernel
theorem dX6_plan_71 : decode cX6_plan 71 = .ok (.ireturn, 1) := by decide +kernel
theorem dX6_plan_72 : decode cX6_plan 72 = .ok (.iconst (-1), 1) := by decide +kernel
theorem dX6_plan_73 : decode cX6_plan 73 = .ok (.ireturn, 1) := by decide +kernel
theorem dX6_tune_0 : decode cX6_tune 0 = .ok (.iload_n 1, 1) := by decide +kernel
theorem dX6_tune_1 : decode cX6_tune 1 = .ok (.iconst 0, 1) := by decide +kernel
theorem dX6_tune_2 : decode cX6_tune 2 = .ok (.iconst 5, 1) := by decide +kernel
theorem dX6_tune_3 : decode cX6_tune 3 = .ok (.invokestatic 88, 3) := by decide +kernel
theorem dX6_tune_6 : decode cX6_tune 6 = .ok (.ifCond .eq 16, 3) := by decide +kernel
theorem dX6_tune_9 : decode cX6_tune 9 = .ok (.iload_n 2, 1) := by decide +kernel
theorem dX6_tune_10 : decode cX6_tune 10 = .ok (.iconst 0, 1) := by decide +kernel
theorem dX6_tune_11 : decode cX6_tune 11 = .ok (.getstatic 161, 3) := by decide +kernel
theorem dX6_tune_14 : decode cX6_tune 14 = .ok (.iload_n 1, 1) := by decide +kernel
theorem dX6_tune_15 : decode cX6_tune 15 = .ok (.iaload, 1) := by decide +kernel
theorem dX6_tune_16 : decode cX6_tune 16 = .ok (.invokestatic 88, 3) := by decide +kernel
theorem dX6_tune_19 : decode cX6_tune 19 = .ok (.ifCond .ne 5, 3) := by decide +kernel
theorem dX6_tune_22 : decode cX6_tune 22 = .ok (.iconst (-1), 1) := by decide +kernel
theorem dX6_tune_23 : decode cX6_tune 23 = .ok (.ireturn, 1) := by decide +kernel
theorem dX6_tune_24 : decode cX6_tune 24 = .ok (.aload_n 0, 1) := by decide +kernel
theorem dX6_tune_25 : decode cX6_tune 25 = .ok (.getfield 30, 3) := by decide +kernel
theorem dX6_tune_28 : decode cX6_tune 28 = .ok (.iload_n 1, 1) := by decide +kernel
theorem dX6_tune_29 : decode cX6_tune 29 = .ok (.iaload, 1) := by decide +kernel
theorem dX6_tune_30 : decode cX6_tune 30 = .ok (.istore_n 3, 1) := by decide +kernel
theorem dX6_tune_31 : decode cX6_tune 31 = .ok (.aload_n 0, 1) := by decide +kernel
theorem dX6_tune_32 : decode cX6_tune 32 = .ok (.getfield 30, 3) := by decide +kernel
theorem dX6_tune_35 : decode cX6_tune 35 = .ok (.iload_n 1, 1) := by decide +kernel
theorem dX6_tune_36 : decode cX6_tune 36 = .ok (.iload_n 2, 1) := by decide +kernel
theorem dX6_tune_37 : decode cX6_tune 37 = .ok (.iastore, 1) := by decide +kernel
theorem dX6_tune_38 : decode cX6_tune 38 = .ok (.iload_n 3, 1) := by decide +kernel
theorem dX6_tune_39 : decode cX6_tune 39 = .ok (.ireturn, 1) := by decide +kernel
theorem dX6_given_0 : decode cX6_given 0 = .ok (.aload_n 0, 1) := by decide +kernel
theorem dX6_given_1 : decode cX6_given 1 = .ok (.iload_n 1, 1) := by decide +kernel
theorem dX6_given_2 : decode cX6_given 2 = .ok (.invokevirtual 137, 3) := by decide +kernel
theorem dX6_given_5 : decode cX6_given 5 = .ok (.ifCond .eq 22, 3) := by decide +kernel
theorem dX6_given_8 : decode cX6_given 8 = .ok (.iload_n 2, 1) := by decide +kernel
theorem dX6_given_9 : decode cX6_given 9 = .ok (.invokestatic 164, 3) := by decide +kernel
theorem dX6_given_12 : decode cX6_given 12 = .ok (.ifCond .eq 15, 3) := by decide +kernel
theorem dX6_given_15 : decode cX6_given 15 = .ok (.aload_n 0, 1) := by decide +kernel
theorem dX6_given_16 : decode cX6_given 16 = .ok (.getfield 10, 3) := by decide +kernel
theorem dX6_given_19 : decode cX6_given 19 = .ok (.iload_n 1, 1) := by decide +kernel
theorem dX6_given_20 : decode cX6_given 20 = .ok (.iload_n 2, 1) := by decide +kernel
theorem dX6_given_21 : decode cX6_given 21 = .ok (.invokevirtual 167, 3) := by decide +kernel
theorem dX6_given_24 : decode cX6_given 24 = .ok (.goto 4, 3) := by decide +kernel
theorem dX6_given_27 : decode cX6_given 27 = .ok (.iconst (-1), 1) := by decide +kernel
theorem dX6_given_28 : decode cX6_given 28 = .ok (.ireturn, 1) := by decide +kernel
theorem dX6_want_0 : decode cX6_want 0 = .ok (.aload_n 0, 1) := by decide +kernel
theorem dX6_want_1 : decode cX6_want 1 = .ok (.iload_n 1, 1) := by decide +kernel
theorem dX6_want_2 : decode cX6_want 2 = .ok (.invokevirtual 117, 3) := by decide +kernel
theorem dX6_want_5 : decode cX6_want 5 = .ok (.ifCond .eq 11, 3) := by decide +kernel
theorem dX6_want_8 : decode cX6_want 8 = .ok (.aload_n 0, 1) := by decide +kernel
theorem dX6_want_9 : decode cX6_want 9 = .ok (.iload_n 2, 1) := by decide +kernel
theorem dX6_want_10 : decode cX6_want 10 = .ok (.invokevirtual 137, 3) := by decide +kernel
theorem dX6_want_13 : decode cX6_want 13 = .ok (.ifCond .ne 5, 3) := by decide +kernel
theorem dX6_want_16 : decode cX6_want 16 = .ok (.iconst (-1), 1) := by decide +kernel
theorem dX6_want_17 : decode cX6_want 17 = .ok (.ireturn, 1) := by decide +kernel
theorem dX6_want_18 : decode cX6_want 18 = .ok (.iload_n 3, 1) := by decide +kernel
theorem dX6_want_19 : decode cX6_want 19 = .ok (.tableswitch 81 0 3 #[29, 39, 53, 67], 29) := by decide +kernel
theorem dX6_want_48 : decode cX6_want 48 = .ok (.aload_n 0, 1) := by decide +kernel
theorem dX6_want_49 : decode cX6_want 49 = .ok (.getfield 10, 3) := by decide +kernel
theorem dX6_want_52 : decode cX6_want 52 = .ok (.iload_n 1, 1) := by decide +kernel
theorem dX6_want_53 : decode cX6_want 53 = .ok (.iload_n 2, 1) := by decide +kernel
theorem dX6_want_54 : decode cX6_want 54 = .ok (.invokevirtual 171, 3) := by decide +kernel
theorem dX6_want_57 : decode cX6_want 57 = .ok (.ireturn, 1) := by decide +kernel
theorem dX6_want_58 : decode cX6_want 58 = .ok (.aload_n 0, 1) := by decide +kernel
theorem dX6_want_59 : decode cX6_want 59 = .ok (.getfield 26, 3) := by decide +kernel
theorem dX6_want_62 : decode cX6_want 62 = .ok (.aload_n 0, 1) := by decide +kernel
theorem dX6_want_63 : decode cX6_want 63 = .ok (.getfield 10, 3) := by decide +kernel
theorem dX6_want_66 : decode cX6_want 66 = .ok (.iload_n 1, 1) := by decide +kernel
theorem dX6_want_67 : decode cX6_want 67 = .ok (.iload_n 2, 1) := by decide +kernel
theorem dX6_want_68 : decode cX6_want 68 = .ok (.invokevirtual 174, 3) := by decide +kernel
theorem dX6_want_71 : decode cX6_want 71 = .ok (.ireturn, 1) := by decide +kernel
theorem dX6_want_72 : decode cX6_want 72 = .ok (.aload_n 0, 1) := by decide +kernel
theorem dX6_want_73 : decode cX6_want 73 = .ok (.getfield 26, 3) := by decide +kernel
theorem dX6_want_76 : decode cX6_want 76 = .ok (.aload_n 0, 1) := by decide +kernel
theorem dX6_want_77 : decode cX6_want 77 = .ok (.getfield 10, 3) := by decide +kernel
theorem dX6_want_80 : decode cX6_want 80 = .ok (.iload_n 1, 1) := by decide +kernel
theorem dX6_want_81 : decode cX6_want 81 = .ok (.iload_n 2, 1) := by decide +kernel
theorem dX6_want_82 : decode cX6_want 82 = .ok (.invokevirtual 178, 3) := by decide +kernel
theorem dX6_want_85 : decode cX6_want 85 = .ok (.ireturn, 1) := by decide +kernel
theorem dX6_want_86 : decode cX6_want 86 = .ok (.aload_n 0, 1) := by decide +kernel
theorem dX6_want_87 : decode cX6_want 87 = .ok (.getfield 26, 3) := by decide +kernel
theorem dX6_want_90 : decode cX6_want 90 = .ok (.aload_n 0, 1) := by decide +kernel
theorem dX6_want_91 : decode cX6_want 91 = .ok (.getfield 10, 3) := by decide +kernel
theorem dX6_want_94 : decode cX6_want 94 = .ok (.iload_n 1, 1) := by decide +kernel
theorem dX6_want_95 : decode cX6_want 95 = .ok (.iload_n 2, 1) := by decide +kernel
theorem dX6_want_96 : decode cX6_want 96 = .ok (.invokevirtual 181, 3) := by decide +kernel
theorem dX6_want_99 : decode cX6_want 99 = .ok (.ireturn, 1) := by decide +kernel
theorem dX6_want_100 : decode cX6_want 100 = .ok (.iconst (-1), 1) := by decide +kernel
theorem dX6_want_101 : decode cX6_want 101 = .ok (.ireturn, 1) := by decide +kernel
theorem dX6_choice_0 : decode cX6_choice 0 = .ok (.aload_n 0, 1) := by decide +kernel
theorem dX6_choice_1 : decode cX6_choice 1 = .ok (.iload_n 1, 1) := by decide +kernel
theorem dX6_choice_2 : decode cX6_choice 2 = .ok (.invokevirtual 117, 3) := by decide +kernel
theorem dX6_choice_5 : decode cX6_choice 5 = .ok (.ifCond .eq 24, 3) := by decide +kernel
theorem dX6_choice_8 : decode cX6_choice 8 = .ok (.aload_n 0, 1) := by decide +kernel
theorem dX6_choice_9 : decode cX6_choice 9 = .ok (.getfield 26, 3) := by decide +kernel
theorem dX6_choice_12 : decode cX6_choice 12 = .ok (.aload_n 0, 1) := by decide +kernel
theorem dX6_choice_13 : decode cX6_choice 13 = .ok (.getfield 10, 3) := by decide +kernel
theorem dX6_choice_16 : decode cX6_choice 16 = .ok (.iload_n 1, 1) := by decide +kernel
theorem dX6_choice_17 : decode cX6_choice 17 = .ok (.aload_n 0, 1) := by decide +kernel
theorem dX6_choice_18 : decode cX6_choice 18 = .ok (.getfield 30, 3) := by decide +kernel
theorem dX6_choice_21 : decode cX6_choice 21 = .ok (.iconst 0, 1) := by decide +kernel
theorem dX6_choice_22 : decode cX6_choice 22 = .ok (.iaload, 1) := by decide +kernel
theorem dX6_choice_23 : decode cX6_choice 23 = .ok (.invokevirtual 184, 3) := by decide +kernel
theorem dX6_choice_26 : decode cX6_choice 26 = .ok (.goto 4, 3) := by decide +kernel
theorem dX6_choice_29 : decode cX6_choice 29 = .ok (.iconst (-1), 1) := by decide +kernel
theorem dX6_choice_30 : decode cX6_choice 30 = .ok (.ireturn, 1) := by decide +kernel
theorem dX6_go_0 : decode cX6_go 0 = .ok (.iload_n 1, 1) := by decide +kernel
theorem dX6_go_1 : decode cX6_go 1 = .ok (.iconst 1, 1) := by decide +kernel
theorem dX6_go_2 : decode cX6_go 2 = .ok (.bipush 99, 2) := by decide +kernel
theorem dX6_go_4 : decode cX6_go 4 = .ok (.invokestatic 88, 3) := by decide +kernel
theorem dX6_go_7 : decode cX6_go 7 = .ok (.ifCond .ne 5, 3) := by decide +kernel
theorem dX6_go_10 : decode cX6_go 10 = .ok (.iconst (-1), 1) := by decide +kernel
theorem dX6_go_11 : decode cX6_go 11 = .ok (.ireturn, 1) := by decide +kernel
theorem dX6_go_12 : decode cX6_go 12 = .ok (.aload_n 0, 1) := by decide +kernel
theorem dX6_go_13 : decode cX6_go 13 = .ok (.getfield 26, 3) := by decide +kernel
theorem dX6_go_16 : decode cX6_go 16 = .ok (.getfield 187, 3) := by decide +kernel
theorem dX6_go_19 : decode cX6_go 19 = .ok (.bipush 99, 2) := by decide +kernel
theorem dX6_go_21 : decode cX6_go 21 = .ok (.if_icmp .lt 6, 3) := by decide +kernel
theorem dX6_go_24 : decode cX6_go 24 = .ok (.bipush (-2), 2) := by decide +kernel
theorem dX6_go_26 : decode cX6_go 26 = .ok (.ireturn, 1) := by decide +kernel
theorem dX6_go_27 : decode cX6_go 27 = .ok (.iload_n 1, 1) := by decide +kernel
theorem dX6_go_28 : decode cX6_go 28 = .ok (.bipush 99, 2) := by decide +kernel
theorem dX6_go_30 : decode cX6_go 30 = .ok (.aload_n 0, 1) := by decide +kernel
theorem dX6_go_31 : decode cX6_go 31 = .ok (.getfield 26, 3) := by decide +kernel
theorem dX6_go_34 : decode cX6_go 34 = .ok (.getfield 187, 3) := by decide +kernel
theorem dX6_go_37 : decode cX6_go 37 = .ok (.isub, 1) := by decide +kernel
theorem dX6_go_38 : decode cX6_go 38 = .ok (.invokestatic 190, 3) := by decide +kernel
theorem dX6_go_41 : decode cX6_go 41 = .ok (.istore_n 2, 1) := by decide +kernel
theorem dX6_go_42 : decode cX6_go 42 = .ok (.iconst 0, 1) := by decide +kernel
theorem dX6_go_43 : decode cX6_go 43 = .ok (.istore_n 3, 1) := by decide +kernel
theorem dX6_go_44 : decode cX6_go 44 = .ok (.iload_n 3, 1) := by decide +kernel
theorem dX6_go_45 : decode cX6_go 45 = .ok (.iload_n 2, 1) := by decide +kernel
theorem dX6_go_46 : decode cX6_go 46 = .ok (.if_icmp .ge 25, 3) := by decide +kernel
theorem dX6_go_49 : decode cX6_go 49 = .ok (.aload_n 0, 1) := by decide +kernel
theorem dX6_go_50 : decode cX6_go 50 = .ok (.getfield 26, 3) := by decide +kernel
theorem dX6_go_53 : decode cX6_go 53 = .ok (.aload_n 0, 1) := by decide +kernel
theorem dX6_go_54 : decode cX6_go 54 = .ok (.getfield 10, 3) := by decide +kernel
theorem dX6_go_57 : decode cX6_go 57 = .ok (.aload_n 0, 1) := by decide +kernel
theorem dX6_go_58 : decode cX6_go 58 = .ok (.getfield 30, 3) := by decide +kernel
theorem dX6_go_61 : decode cX6_go 61 = .ok (.invokevirtual 195, 3) := by decide +kernel
theorem dX6_go_64 : decode cX6_go 64 = .ok (.pop, 1) := by decide +kernel
theorem dX6_go_65 : decode cX6_go 65 = .ok (.iinc 3 1, 3) := by decide +kernel
theorem dX6_go_68 : decode cX6_go 68 = .ok (.goto (-24), 3) := by decide +kernel
theorem dX6_go_71 : decode cX6_go 71 = .ok (.iload_n 2, 1) := by decide +kernel
theorem dX6_go_72 : decode cX6_go 72 = .ok (.ireturn, 1) := by decide +kernel
theorem dX6_now_0 : decode cX6_now 0 = .ok (.iload_n 1, 1) := by decide +kernel
theorem dX6_now_1 : decode cX6_now 1 = .ok (.tableswitch 105 0 4 #[35, 43, 51, 69, 87], 35) := by decide +kernel
theorem dX6_now_36 : decode cX6_now 36 = .ok (.aload_n 0, 1) := by decide +kernel
theorem dX6_now_37 : decode cX6_now 37 = .ok (.getfield 26, 3) := by decide +kernel
theorem dX6_now_40 : decode cX6_now 40 = .ok (.getfield 187, 3) := by decide +kernel
theorem dX6_now_43 : decode cX6_now 43 = .ok (.ireturn, 1) := by decide +kernel
theorem dX6_now_44 : decode cX6_now 44 = .ok (.aload_n 0, 1) := by decide +kernel
theorem dX6_now_45 : decode cX6_now 45 = .ok (.getfield 26, 3) := by decide +kernel
theorem dX6_now_48 : decode cX6_now 48 = .ok (.getfield 199, 3) := by decide +kernel
theorem dX6_now_51 : decode cX6_now 51 = .ok (.ireturn, 1) := by decide +kernel
theorem dX6_now_52 : decode cX6_now 52 = .ok (.aload_n 0, 1) := by decide +kernel
theorem dX6_now_53 : decode cX6_now 53 = .ok (.getfield 26, 3) := by decide +kernel
theorem dX6_now_56 : decode cX6_now 56 = .ok (.getfield 130, 3) := by decide +kernel
theorem dX6_now_59 : decode cX6_now 59 = .ok (.aload_n 0, 1) := by decide +kernel
theorem dX6_now_60 : decode cX6_now 60 = .ok (.getfield 10, 3) := by decide +kernel
theorem dX6_now_63 : decode cX6_now 63 = .ok (.getfield 202, 3) := by decide +kernel
theorem dX6_now_66 : decode cX6_now 66 = .ok (.invokestatic 205, 3) := by decide +kernel
theorem dX6_now_69 : decode cX6_now 69 = .ok (.ireturn, 1) := by decide +kernel
theorem dX6_now_70 : decode cX6_now 70 = .ok (.aload_n 0, 1) := by decide +kernel
theorem dX6_now_71 : decode cX6_now 71 = .ok (.getfield 26, 3) := by decide +kernel
theorem dX6_now_74 : decode cX6_now 74 = .ok (.getfield 131, 3) := by decide +kernel
theorem dX6_now_77 : decode cX6_now 77 = .ok (.aload_n 0, 1) := by decide +kernel
theorem dX6_now_78 : decode cX6_now 78 = .ok (.getfield 10, 3) := by decide +kernel
theorem dX6_now_81 : decode cX6_now 81 = .ok (.getfield 202, 3) := by decide +kernel
theorem dX6_now_84 : decode cX6_now 84 = .ok (.invokestatic 205, 3) := by decide +kernel
theorem dX6_now_87 : decode cX6_now 87 = .ok (.ireturn, 1) := by decide +kernel
theorem dX6_now_88 : decode cX6_now 88 = .ok (.aload_n 0, 1) := by decide +kernel
theorem dX6_now_89 : decode cX6_now 89 = .ok (.getfield 26, 3) := by decide +kernel
theorem dX6_now_92 : decode cX6_now 92 = .ok (.getfield 134, 3) := by decide +kernel
theorem dX6_now_95 : decode cX6_now 95 = .ok (.aload_n 0, 1) := by decide +kernel
theorem dX6_now_96 : decode cX6_now 96 = .ok (.getfield 10, 3) := by decide +kernel
theorem dX6_now_99 : decode cX6_now 99 = .ok (.getfield 202, 3) := by decide +kernel
theorem dX6_now_102 : decode cX6_now 102 = .ok (.invokestatic 205, 3) := by decide +kernel
theorem dX6_now_105 : decode cX6_now 105 = .ok (.ireturn, 1) := by decide +kernel
theorem dX6_now_106 : decode cX6_now 106 = .ok (.iconst (-1), 1) := by decide +kernel
theorem dX6_now_107 : decode cX6_now 107 = .ok (.ireturn, 1) := by decide +kernel
theorem dX6_anew_0 : decode cX6_anew 0 = .ok (.aload_n 0, 1) := by decide +kernel
theorem dX6_anew_1 : decode cX6_anew 1 = .ok (.getfield 26, 3) := by decide +kernel
theorem dX6_anew_4 : decode cX6_anew 4 = .ok (.getfield 187, 3) := by decide +kernel
theorem dX6_anew_7 : decode cX6_anew 7 = .ok (.istore_n 1, 1) := by decide +kernel
theorem dX6_anew_8 : decode cX6_anew 8 = .ok (.aload_n 0, 1) := by decide +kernel
theorem dX6_anew_9 : decode cX6_anew 9 = .ok (.getfield 26, 3) := by decide +kernel
theorem dX6_anew_12 : decode cX6_anew 12 = .ok (.aload_n 0, 1) := by decide +kernel
theorem dX6_anew_13 : decode cX6_anew 13 = .ok (.getfield 10, 3) := by decide +kernel
theorem dX6_anew_16 : decode cX6_anew 16 = .ok (.iconst 0, 1) := by decide +kernel
theorem dX6_anew_17 : decode cX6_anew 17 = .ok (.invokevirtual 84, 3) := by decide +kernel
theorem dX6_anew_20 : decode cX6_anew 20 = .ok (.iload_n 1, 1) := by decide +kernel
theorem dX6_anew_21 : decode cX6_anew 21 = .ok (.ireturn, 1) := by decide +kernel
theorem dX6_term_0 : decode cX6_term 0 = .ok (.iload_n 1, 1) := by decide +kernel
theorem dX6_term_1 : decode cX6_term 1 = .ok (.iconst 0, 1) := by decide +kernel
theorem dX6_term_2 : decode cX6_term 2 = .ok (.iconst 2, 1) := by decide +kernel
theorem dX6_term_3 : decode cX6_term 3 = .ok (.invokestatic 88, 3) := by decide +kernel
theorem dX6_term_6 : decode cX6_term 6 = .ok (.ifCond .ne 5, 3) := by decide +kernel
theorem dX6_term_9 : decode cX6_term 9 = .ok (.iconst (-1), 1) := by decide +kernel
theorem dX6_term_10 : decode cX6_term 10 = .ok (.ireturn, 1) := by decide +kernel
theorem dX6_term_11 : decode cX6_term 11 = .ok (.aload_n 0, 1) := by decide +kernel
theorem dX6_term_12 : decode cX6_term 12 = .ok (.getfield 58, 3) := by decide +kernel
theorem dX6_term_15 : decode cX6_term 15 = .ok (.aload_n 0, 1) := by decide +kernel
theorem dX6_term_16 : decode cX6_term 16 = .ok (.getfield 10, 3) := by decide +kernel
theorem dX6_term_19 : decode cX6_term 19 = .ok (.invokevirtual 109, 3) := by decide +kernel
theorem dX6_term_22 : decode cX6_term 22 = .ok (.iload_n 1, 1) := by decide +kernel
theorem dX6_term_23 : decode cX6_term 23 = .ok (.ifCond .ne 22, 3) := by decide +kernel
theorem dX6_term_26 : decode cX6_term 26 = .ok (.aload_n 0, 1) := by decide +kernel
theorem dX6_term_27 : decode cX6_term 27 = .ok (.aload_n 0, 1) := by decide +kernel
theorem dX6_term_28 : decode cX6_term 28 = .ok (.getfield 10, 3) := by decide +kernel
theorem dX6_term_31 : decode cX6_term 31 = .ok (.getfield 149, 3) := by decide +kernel
theorem dX6_term_34 : decode cX6_term 34 = .ok (.aload_n 0, 1) := by decide +kernel
theorem dX6_term_35 : decode cX6_term 35 = .ok (.getfield 10, 3) := by decide +kernel
theorem dX6_term_38 : decode cX6_term 38 = .ok (.getfield 152, 3) := by decide +kernel
theorem dX6_term_41 : decode cX6_term 41 = .ok (.invokevirtual 209, 3) := by decide +kernel
theorem dX6_term_44 : decode cX6_term 44 = .ok (.ireturn, 1) := by decide +kernel
theorem dX6_term_45 : decode cX6_term 45 = .ok (.iload_n 1, 1) := by decide +kernel
theorem dX6_term_46 : decode cX6_term 46 = .ok (.iconst 2, 1) := by decide +kernel
theorem dX6_term_47 : decode cX6_term 47 = .ok (.if_icmp .ne 10, 3) := by decide +kernel
theorem dX6_term_50 : decode cX6_term 50 = .ok (.aload_n 0, 1) := by decide +kernel
theorem dX6_term_51 : decode cX6_term 51 = .ok (.getfield 58, 3) := by decide +kernel
theorem dX6_term_54 : decode cX6_term 54 = .ok (.invokevirtual 212, 3) := by decide +kernel
theorem dX6_term_57 : decode cX6_term 57 = .ok (.aload_n 0, 1) := by decide +kernel
theorem dX6_term_58 : decode cX6_term 58 = .ok (.getfield 10, 3) := by decide +kernel
theorem dX6_term_61 : decode cX6_term 61 = .ok (.getfield 152, 3) := by decide +kernel
theorem dX6_term_64 : decode cX6_term 64 = .ok (.aload_n 0, 1) := by decide +kernel
theorem dX6_term_65 : decode cX6_term 65 = .ok (.getfield 10, 3) := by decide +kernel
theorem dX6_term_68 : decode cX6_term 68 = .ok (.getfield 158, 3) := by decide +kernel
theorem dX6_term_71 : decode cX6_term 71 = .ok (.iadd, 1) := by decide +kernel
theorem dX6_term_72 : decode cX6_term 72 = .ok (.istore_n 2, 1) := by decide +kernel
theorem dX6_term_73 : decode cX6_term 73 = .ok (.aload_n 0, 1) := by decide +kernel
theorem dX6_term_74 : decode cX6_term 74 = .ok (.iload_n 2, 1) := by decide +kernel
theorem dX6_term_75 : decode cX6_term 75 = .ok (.iload_n 2, 1) := by decide +kernel
theorem dX6_term_76 : decode cX6_term 76 = .ok (.bipush 7, 2) := by decide +kernel
theorem dX6_term_78 : decode cX6_term 78 = .ok (.iadd, 1) := by decide +kernel
theorem dX6_term_79 : decode cX6_term 79 = .ok (.bipush 99, 2) := by decide +kernel
theorem dX6_term_81 : decode cX6_term 81 = .ok (.invokestatic 190, 3) := by decide +kernel
theorem dX6_term_84 : decode cX6_term 84 = .ok (.invokevirtual 209, 3) := by decide +kernel
theorem dX6_term_87 : decode cX6_term 87 = .ok (.ireturn, 1) := by decide +kernel
theorem dX6_end_0 : decode cX6_end 0 = .ok (.iload_n 1, 1) := by decide +kernel
theorem dX6_end_1 : decode cX6_end 1 = .ok (.invokestatic 164, 3) := by decide +kernel
theorem dX6_end_4 : decode cX6_end 4 = .ok (.ifCond .ne 5, 3) := by decide +kernel
theorem dX6_end_7 : decode cX6_end 7 = .ok (.iconst (-1), 1) := by decide +kernel
theorem dX6_end_8 : decode cX6_end 8 = .ok (.ireturn, 1) := by decide +kernel
theorem dX6_end_9 : decode cX6_end 9 = .ok (.aload_n 0, 1) := by decide +kernel
theorem dX6_end_10 : decode cX6_end 10 = .ok (.getfield 58, 3) := by decide +kernel
theorem dX6_end_13 : decode cX6_end 13 = .ok (.aload_n 0, 1) := by decide +kernel
theorem dX6_end_14 : decode cX6_end 14 = .ok (.getfield 10, 3) := by decide +kernel
theorem dX6_end_17 : decode cX6_end 17 = .ok (.invokevirtual 109, 3) := by decide +kernel
theorem dX6_end_20 : decode cX6_end 20 = .ok (.aload_n 0, 1) := by decide +kernel
theorem dX6_end_21 : decode cX6_end 21 = .ok (.iload_n 1, 1) := by decide +kernel
theorem dX6_end_22 : decode cX6_end 22 = .ok (.invokevirtual 215, 3) := by decide +kernel
theorem dX6_end_25 : decode cX6_end 25 = .ok (.ireturn, 1) := by decide +kernel
theorem dX6_best_0 : decode cX6_best 0 = .ok (.aload_n 0, 1) := by decide +kernel
theorem dX6_best_1 : decode cX6_best 1 = .ok (.iload_n 1, 1) := by decide +kernel
theorem dX6_best_2 : decode cX6_best 2 = .ok (.invokevirtual 137, 3) := by decide +kernel
theorem dX6_best_5 : decode cX6_best 5 = .ok (.ifCond .eq 28, 3) := by decide +kernel
theorem dX6_best_8 : decode cX6_best 8 = .ok (.iload_n 2, 1) := by decide +kernel
theorem dX6_best_9 : decode cX6_best 9 = .ok (.aload_n 0, 1) := by decide +kernel
theorem dX6_best_10 : decode cX6_best 10 = .ok (.getfield 10, 3) := by decide +kernel
theorem dX6_best_13 : decode cX6_best 13 = .ok (.getfield 149, 3) := by decide +kernel
theorem dX6_best_16 : decode cX6_best 16 = .ok (.bipush 99, 2) := by decide +kernel
theorem dX6_best_18 : decode cX6_best 18 = .ok (.invokestatic 88, 3) := by decide +kernel
theorem dX6_best_21 : decode cX6_best 21 = .ok (.ifCond .eq 12, 3) := by decide +kernel
theorem dX6_best_24 : decode cX6_best 24 = .ok (.iload_n 3, 1) := by decide +kernel
theorem dX6_best_25 : decode cX6_best 25 = .ok (.iconst 0, 1) := by decide +kernel
theorem dX6_best_26 : decode cX6_best 26 = .ok (.iconst 2, 1) := by decide +kernel
theorem dX6_best_27 : decode cX6_best 27 = .ok (.invokestatic 88, 3) := by decide +kernel
theorem dX6_best_30 : decode cX6_best 30 = .ok (.ifCond .ne 5, 3) := by decide +kernel
theorem dX6_best_33 : decode cX6_best 33 = .ok (.iconst (-1), 1) := by decide +kernel
theorem dX6_best_34 : decode cX6_best 34 = .ok (.ireturn, 1) := by decide +kernel
theorem dX6_best_35 : decode cX6_best 35 = .ok (.aload_n 0, 1) := by decide +kernel
theorem dX6_best_36 : decode cX6_best 36 = .ok (.getfield 58, 3) := by decide +kernel
theorem dX6_best_39 : decode cX6_best 39 = .ok (.aload_n 0, 1) := by decide +kernel
theorem dX6_best_40 : decode cX6_best 40 = .ok (.getfield 10, 3) := by decide +kernel
theorem dX6_best_43 : decode cX6_best 43 = .ok (.invokevirtual 109, 3) := by decide +kernel
theorem dX6_best_46 : decode cX6_best 46 = .ok (.aload_n 0, 1) := by decide +kernel
theorem dX6_best_47 : decode cX6_best 47 = .ok (.getfield 58, 3) := by decide +kernel
theorem dX6_best_50 : decode cX6_best 50 = .ok (.invokevirtual 212, 3) := by decide +kernel
theorem dX6_best_53 : decode cX6_best 53 = .ok (.iconst 0, 1) := by decide +kernel
theorem dX6_best_54 : decode cX6_best 54 = .ok (.istore 4, 2) := by decide +kernel
theorem dX6_best_56 : decode cX6_best 56 = .ok (.aload_n 0, 1) := by decide +kernel
theorem dX6_best_57 : decode cX6_best 57 = .ok (.getfield 10, 3) := by decide +kernel
theorem dX6_best_60 : decode cX6_best 60 = .ok (.getfield 149, 3) := by decide +kernel
theorem dX6_best_63 : decode cX6_best 63 = .ok (.istore 5, 2) := by decide +kernel
theorem dX6_best_65 : decode cX6_best 65 = .ok (.iconst (-1), 1) := by decide +kernel
theorem dX6_best_66 : decode cX6_best 66 = .ok (.istore 6, 2) := by decide +kernel
theorem dX6_best_68 : decode cX6_best 68 = .ok (.iconst 0, 1) := by decide +kernel
theorem dX6_best_69 : decode cX6_best 69 = .ok (.istore 7, 2) := by decide +kernel
theorem dX6_best_71 : decode cX6_best 71 = .ok (.iload 7, 2) := by decide +kernel
theorem dX6_best_73 : decode cX6_best 73 = .ok (.bipush 9, 2) := by decide +kernel
theorem dX6_best_75 : decode cX6_best 75 = .ok (.if_icmp .gt 95, 3) := by decide +kernel
theorem dX6_best_78 : decode cX6_best 78 = .ok (.aload_n 0, 1) := by decide +kernel
theorem dX6_best_79 : decode cX6_best 79 = .ok (.getfield 58, 3) := by decide +kernel
theorem dX6_best_82 : decode cX6_best 82 = .ok (.getfield 146, 3) := by decide +kernel
theorem dX6_best_85 : decode cX6_best 85 = .ok (.iload_n 1, 1) := by decide +kernel
theorem dX6_best_86 : decode cX6_best 86 = .ok (.iload 7, 2) := by decide +kernel
theorem dX6_best_88 : decode cX6_best 88 = .ok (.iastore, 1) := by decide +kernel
theorem dX6_best_89 : decode cX6_best 89 = .ok (.iload 7, 2) := by decide +kernel
theorem dX6_best_91 : decode cX6_best 91 = .ok (.ifCond .ne 13, 3) := by decide +kernel
theorem dX6_best_94 : decode cX6_best 94 = .ok (.aload_n 0, 1) := by decide +kernel
theorem dX6_best_95 : decode cX6_best 95 = .ok (.getfield 10, 3) := by decide +kernel
theorem dX6_best_98 : decode cX6_best 98 = .ok (.getfield 149, 3) := by decide +kernel
theorem dX6_best_101 : decode cX6_best 101 = .ok (.goto 4, 3) := by decide +kernel
theorem dX6_best_104 : decode cX6_best 104 = .ok (.iload_n 2, 1) := by decide +kernel
theorem dX6_best_105 : decode cX6_best 105 = .ok (.istore 8, 2) := by decide +kernel
theorem dX6_best_107 : decode cX6_best 107 = .ok (.aload_n 0, 1) := by decide +kernel
theorem dX6_best_108 : decode cX6_best 108 = .ok (.getfield 10, 3) := by decide +kernel
theorem dX6_best_111 : decode cX6_best 111 = .ok (.getfield 149, 3) := by decide +kernel
theorem dX6_best_114 : decode cX6_best 114 = .ok (.istore 9, 2) := by decide +kernel
theorem dX6_best_116 : decode cX6_best 116 = .ok (.iload 9, 2) := by decide +kernel
theorem dX6_best_118 : decode cX6_best 118 = .ok (.iload 8, 2) := by decide +kernel
theorem dX6_best_120 : decode cX6_best 120 = .ok (.if_icmp .gt 44, 3) := by decide +kernel
theorem dX6_best_123 : decode cX6_best 123 = .ok (.aload_n 0, 1) := by decide +kernel
theorem dX6_best_124 : decode cX6_best 124 = .ok (.getfield 58, 3) := by decide +kernel
theorem dX6_best_127 : decode cX6_best 127 = .ok (.iload 9, 2) := by decide +kernel
theorem dX6_best_129 : decode cX6_best 129 = .ok (.putfield 152, 3) := by decide +kernel
theorem dX6_best_132 : decode cX6_best 132 = .ok (.aload_n 0, 1) := by decide +kernel
theorem dX6_best_133 : decode cX6_best 133 = .ok (.iload_n 2, 1) := by decide +kernel
theorem dX6_best_134 : decode cX6_best 134 = .ok (.invokevirtual 215, 3) := by decide +kernel
theorem dX6_best_137 : decode cX6_best 137 = .ok (.istore 10, 2) := by decide +kernel
theorem dX6_best_139 : decode cX6_best 139 = .ok (.iload 10, 2) := by decide +kernel
theorem dX6_best_141 : decode cX6_best 141 = .ok (.iload 6, 2) := by decide +kernel
theorem dX6_best_143 : decode cX6_best 143 = .ok (.if_icmp .le 15, 3) := by decide +kernel
theorem dX6_best_146 : decode cX6_best 146 = .ok (.iload 7, 2) := by decide +kernel
theorem dX6_best_148 : decode cX6_best 148 = .ok (.istore 4, 2) := by decide +kernel
theorem dX6_best_150 : decode cX6_best 150 = .ok (.iload 9, 2) := by decide +kernel
theorem dX6_best_152 : decode cX6_best 152 = .ok (.istore 5, 2) := by decide +kernel
theorem dX6_best_154 : decode cX6_best 154 = .ok (.iload 10, 2) := by decide +kernel
theorem dX6_best_156 : decode cX6_best 156 = .ok (.istore 6, 2) := by decide +kernel
theorem dX6_best_158 : decode cX6_best 158 = .ok (.iinc 9 1, 3) := by decide +kernel
theorem dX6_best_161 : decode cX6_best 161 = .ok (.goto (-45), 3) := by decide +kernel
theorem dX6_best_164 : decode cX6_best 164 = .ok (.iinc 7 1, 3) := by decide +kernel
theorem dX6_best_167 : decode cX6_best 167 = .ok (.goto (-96), 3) := by decide +kernel
theorem dX6_best_170 : decode cX6_best 170 = .ok (.iload_n 3, 1) := by decide +kernel
theorem dX6_best_171 : decode cX6_best 171 = .ok (.ifCond .ne 8, 3) := by decide +kernel
theorem dX6_best_174 : decode cX6_best 174 = .ok (.iload 4, 2) := by decide +kernel
theorem dX6_best_176 : decode cX6_best 176 = .ok (.goto 15, 3) := by decide +kernel
theorem dX6_best_179 : decode cX6_best 179 = .ok (.iload_n 3, 1) := by decide +kernel
theorem dX6_best_180 : decode cX6_best 180 = .ok (.iconst 1, 1) := by decide +kernel
theorem dX6_best_181 : decode cX6_best 181 = .ok (.if_icmp .ne 8, 3) := by decide +kernel
theorem dX6_best_184 : decode cX6_best 184 = .ok (.iload 5, 2) := by decide +kernel
theorem dX6_best_186 : decode cX6_best 186 = .ok (.goto 5, 3) := by decide +kernel
theorem dX6_best_189 : decode cX6_best 189 = .ok (.iload 6, 2) := by decide +kernel
theorem dX6_best_191 : decode cX6_best 191 = .ok (.ireturn, 1) := by decide +kernel
theorem dX6_line_0 : decode cX6_line 0 = .ok (.iload_n 1, 1) := by decide +kernel
theorem dX6_line_1 : decode cX6_line 1 = .ok (.iconst 1, 1) := by decide +kernel
theorem dX6_line_2 : decode cX6_line 2 = .ok (.bipush 9, 2) := by decide +kernel
theorem dX6_line_4 : decode cX6_line 4 = .ok (.invokestatic 88, 3) := by decide +kernel
theorem dX6_line_7 : decode cX6_line 7 = .ok (.ifCond .eq 20, 3) := by decide +kernel
theorem dX6_line_10 : decode cX6_line 10 = .ok (.iload_n 2, 1) := by decide +kernel
theorem dX6_line_11 : decode cX6_line 11 = .ok (.iconst 0, 1) := by decide +kernel
theorem dX6_line_12 : decode cX6_line 12 = .ok (.bipush 9, 2) := by decide +kernel
theorem dX6_line_14 : decode cX6_line 14 = .ok (.invokestatic 88, 3) := by decide +kernel
theorem dX6_line_17 : decode cX6_line 17 = .ok (.ifCond .eq 10, 3) := by decide +kernel
theorem dX6_line_20 : decode cX6_line 20 = .ok (.iload_n 3, 1) := by decide +kernel
theorem dX6_line_21 : decode cX6_line 21 = .ok (.invokestatic 164, 3) := by decide +kernel
theorem dX6_line_24 : decode cX6_line 24 = .ok (.ifCond .ne 5, 3) := by decide +kernel
theorem dX6_line_27 : decode cX6_line 27 = .ok (.iconst (-1), 1) := by decide +kernel
theorem dX6_line_28 : decode cX6_line 28 = .ok (.ireturn, 1) := by decide +kernel
theorem dX6_line_29 : decode cX6_line 29 = .ok (.iconst 0, 1) := by decide +kernel
theorem dX6_line_30 : decode cX6_line 30 = .ok (.istore 4, 2) := by decide +kernel
theorem dX6_line_32 : decode cX6_line 32 = .ok (.iload 4, 2) := by decide +kernel
theorem dX6_line_34 : decode cX6_line 34 = .ok (.bipush 100, 2) := by decide +kernel
theorem dX6_line_36 : decode cX6_line 36 = .ok (.if_icmp .gt 58, 3) := by decide +kernel
theorem dX6_line_39 : decode cX6_line 39 = .ok (.aload_n 0, 1) := by decide +kernel
theorem dX6_line_40 : decode cX6_line 40 = .ok (.getfield 58, 3) := by decide +kernel
theorem dX6_line_43 : decode cX6_line 43 = .ok (.aload_n 0, 1) := by decide +kernel
theorem dX6_line_44 : decode cX6_line 44 = .ok (.getfield 10, 3) := by decide +kernel
theorem dX6_line_47 : decode cX6_line 47 = .ok (.invokevirtual 109, 3) := by decide +kernel
theorem dX6_line_50 : decode cX6_line 50 = .ok (.aload_n 0, 1) := by decide +kernel
theorem dX6_line_51 : decode cX6_line 51 = .ok (.getfield 58, 3) := by decide +kernel
theorem dX6_line_54 : decode cX6_line 54 = .ok (.iload 4, 2) := by decide +kernel
theorem dX6_line_56 : decode cX6_line 56 = .ok (.iload_n 1, 1) := by decide +kernel
theorem dX6_line_57 : decode cX6_line 57 = .ok (.iload_n 2, 1) := by decide +kernel
theorem dX6_line_58 : decode cX6_line 58 = .ok (.invokevirtual 219, 3) := by decide +kernel
theorem dX6_line_61 : decode cX6_line 61 = .ok (.aload_n 0, 1) := by decide +kernel
theorem dX6_line_62 : decode cX6_line 62 = .ok (.iload_n 3, 1) := by decide +kernel
theorem dX6_line_63 : decode cX6_line 63 = .ok (.invokevirtual 215, 3) := by decide +kernel
theorem dX6_line_66 : decode cX6_line 66 = .ok (.istore 5, 2) := by decide +kernel
theorem dX6_line_68 : decode cX6_line 68 = .ok (.aload_n 0, 1) := by decide +kernel
theorem dX6_line_69 : decode cX6_line 69 = .ok (.getfield 58, 3) := by decide +kernel
theorem dX6_line_72 : decode cX6_line 72 = .ok (.invokevirtual 212, 3) := by decide +kernel
theorem dX6_line_75 : decode cX6_line 75 = .ok (.iload 5, 2) := by decide +kernel
theorem dX6_line_77 : decode cX6_line 77 = .ok (.aload_n 0, 1) := by decide +kernel
theorem dX6_line_78 : decode cX6_line 78 = .ok (.iload_n 3, 1) := by decide +kernel
theorem dX6_line_79 : decode cX6_line 79 = .ok (.invokevirtual 215, 3) := by decide +kernel
theorem dX6_line_82 : decode cX6_line 82 = .ok (.if_icmp .ge 6, 3) := by decide +kernel
theorem dX6_line_85 : decode cX6_line 85 = .ok (.iload 4, 2) := by decide +kernel
theorem dX6_line_87 : decode cX6_line 87 = .ok (.ireturn, 1) := by decide +kernel
theorem dX6_line_88 : decode cX6_line 88 = .ok (.iinc 4 1, 3) := by decide +kernel
theorem dX6_line_91 : decode cX6_line 91 = .ok (.goto (-59), 3) := by decide +kernel
theorem dX6_line_94 : decode cX6_line 94 = .ok (.bipush (-9), 2) := by decide +kernel
theorem dX6_line_96 : decode cX6_line 96 = .ok (.ireturn, 1) := by decide +kernel
theorem dX6_ending_0 : decode cX6_ending 0 = .ok (.iload_n 1, 1) := by decide +kernel
theorem dX6_ending_1 : decode cX6_ending 1 = .ok (.invokestatic 164, 3) := by decide +kernel
theorem dX6_ending_4 : decode cX6_ending 4 = .ok (.ifCond .ne 5, 3) := by decide +kernel
theorem dX6_ending_7 : decode cX6_ending 7 = .ok (.iconst (-1), 1) := by decide +kernel
theorem dX6_ending_8 : decode cX6_ending 8 = .ok (.ireturn, 1) := by decide +kernel
theorem dX6_ending_9 : decode cX6_ending 9 = .ok (.aload_n 0, 1) := by decide +kernel
theorem dX6_ending_10 : decode cX6_ending 10 = .ok (.getfield 58, 3) := by decide +kernel
theorem dX6_ending_13 : decode cX6_ending 13 = .ok (.aload_n 0, 1) := by decide +kernel
theorem dX6_ending_14 : decode cX6_ending 14 = .ok (.getfield 10, 3) := by decide +kernel
theorem dX6_ending_17 : decode cX6_ending 17 = .ok (.invokevirtual 109, 3) := by decide +kernel
theorem dX6_ending_20 : decode cX6_ending 20 = .ok (.iconst 0, 1) := by decide +kernel
theorem dX6_ending_21 : decode cX6_ending 21 = .ok (.istore_n 2, 1) := by decide +kernel
theorem dX6_ending_22 : decode cX6_ending 22 = .ok (.iconst (-1), 1) := by decide +kernel
theorem dX6_ending_23 : decode cX6_ending 23 = .ok (.istore_n 3, 1) := by decide +kernel
theorem dX6_ending_24 : decode cX6_ending 24 = .ok (.iconst 0, 1) := by decide +kernel
theorem dX6_ending_25 : decode cX6_ending 25 = .ok (.istore 4, 2) := by decide +kernel
theorem dX6_ending_27 : decode cX6_ending 27 = .ok (.iload 4, 2) := by decide +kernel
theorem dX6_ending_29 : decode cX6_ending 29 = .ok (.bipush 20, 2) := by decide +kernel
theorem dX6_ending_31 : decode cX6_ending 31 = .ok (.if_icmp .gt 37, 3) := by decide +kernel
theorem dX6_ending_34 : decode cX6_ending 34 = .ok (.aload_n 0, 1) := by decide +kernel
theorem dX6_ending_35 : decode cX6_ending 35 = .ok (.getfield 58, 3) := by decide +kernel
theorem dX6_ending_38 : decode cX6_ending 38 = .ok (.iload 4, 2) := by decide +kernel
theorem dX6_ending_40 : decode cX6_ending 40 = .ok (.putfield 158, 3) := by decide +kernel
theorem dX6_ending_43 : decode cX6_ending 43 = .ok (.aload_n 0, 1) := by decide +kernel
theorem dX6_ending_44 : decode cX6_ending 44 = .ok (.iload_n 1, 1) := by decide +kernel
theorem dX6_ending_45 : decode cX6_ending 45 = .ok (.invokevirtual 215, 3) := by decide +kernel
theorem dX6_ending_48 : decode cX6_ending 48 = .ok (.istore 5, 2) := by decide +kernel
theorem dX6_ending_50 : decode cX6_ending 50 = .ok (.iload 5, 2) := by decide +kernel
theorem dX6_ending_52 : decode cX6_ending 52 = .ok (.iload_n 3, 1) := by decide +kernel
theorem dX6_ending_53 : decode cX6_ending 53 = .ok (.if_icmp .le 9, 3) := by decide +kernel
theorem dX6_ending_56 : decode cX6_ending 56 = .ok (.iload 4, 2) := by decide +kernel
theorem dX6_ending_58 : decode cX6_ending 58 = .ok (.istore_n 2, 1) := by decide +kernel
theorem dX6_ending_59 : decode cX6_ending 59 = .ok (.iload 5, 2) := by decide +kernel
theorem dX6_ending_61 : decode cX6_ending 61 = .ok (.istore_n 3, 1) := by decide +kernel
theorem dX6_ending_62 : decode cX6_ending 62 = .ok (.iinc 4 1, 3) := by decide +kernel
theorem dX6_ending_65 : decode cX6_ending 65 = .ok (.goto (-38), 3) := by decide +kernel
theorem dX6_ending_68 : decode cX6_ending 68 = .ok (.iload_n 2, 1) := by decide +kernel
theorem dX6_ending_69 : decode cX6_ending 69 = .ok (.ireturn, 1) := by decide +kernel
theorem dX6_easy_0 : decode cX6_easy 0 = .ok (.iconst 0, 1) := by decide +kernel
theorem dX6_easy_1 : decode cX6_easy 1 = .ok (.istore_n 1, 1) := by decide +kernel
theorem dX6_easy_2 : decode cX6_easy 2 = .ok (.iconst 1, 1) := by decide +kernel
theorem dX6_easy_3 : decode cX6_easy 3 = .ok (.istore_n 2, 1) := by decide +kernel
theorem dX6_easy_4 : decode cX6_easy 4 = .ok (.iload_n 2, 1) := by decide +kernel
theorem dX6_easy_5 : decode cX6_easy 5 = .ok (.aload_n 0, 1) := by decide +kernel
theorem dX6_easy_6 : decode cX6_easy 6 = .ok (.getfield 10, 3) := by decide +kernel
theorem dX6_easy_9 : decode cX6_easy 9 = .ok (.getfield 223, 3) := by decide +kernel
theorem dX6_easy_12 : decode cX6_easy 12 = .ok (.if_icmp .ge 32, 3) := by decide +kernel
theorem dX6_easy_15 : decode cX6_easy 15 = .ok (.aload_n 0, 1) := by decide +kernel
theorem dX6_easy_16 : decode cX6_easy 16 = .ok (.getfield 10, 3) := by decide +kernel
theorem dX6_easy_19 : decode cX6_easy 19 = .ok (.getfield 140, 3) := by decide +kernel
theorem dX6_easy_22 : decode cX6_easy 22 = .ok (.iload_n 2, 1) := by decide +kernel
theorem dX6_easy_23 : decode cX6_easy 23 = .ok (.iaload, 1) := by decide +kernel
theorem dX6_easy_24 : decode cX6_easy 24 = .ok (.aload_n 0, 1) := by decide +kernel
theorem dX6_easy_25 : decode cX6_easy 25 = .ok (.getfield 10, 3) := by decide +kernel
theorem dX6_easy_28 : decode cX6_easy 28 = .ok (.getfield 140, 3) := by decide +kernel
theorem dX6_easy_31 : decode cX6_easy 31 = .ok (.iload_n 1, 1) := by decide +kernel
theorem dX6_easy_32 : decode cX6_easy 32 = .ok (.iaload, 1) := by decide +kernel
theorem dX6_easy_33 : decode cX6_easy 33 = .ok (.if_icmp .ge 5, 3) := by decide +kernel
theorem dX6_easy_36 : decode cX6_easy 36 = .ok (.iload_n 2, 1) := by decide +kernel
theorem dX6_easy_37 : decode cX6_easy 37 = .ok (.istore_n 1, 1) := by decide +kernel
theorem dX6_easy_38 : decode cX6_easy 38 = .ok (.iinc 2 1, 3) := by decide +kernel
theorem dX6_easy_41 : decode cX6_easy 41 = .ok (.goto (-37), 3) := by decide +kernel
theorem dX6_easy_44 : decode cX6_easy 44 = .ok (.iconst 0, 1) := by decide +kernel
theorem dX6_easy_45 : decode cX6_easy 45 = .ok (.istore_n 2, 1) := by decide +kernel
theorem dX6_easy_46 : decode cX6_easy 46 = .ok (.iconst 0, 1) := by decide +kernel
theorem dX6_easy_47 : decode cX6_easy 47 = .ok (.istore_n 3, 1) := by decide +kernel
theorem dX6_easy_48 : decode cX6_easy 48 = .ok (.iload_n 3, 1) := by decide +kernel
theorem dX6_easy_49 : decode cX6_easy 49 = .ok (.aload_n 0, 1) := by decide +kernel
theorem dX6_easy_50 : decode cX6_easy 50 = .ok (.getfield 10, 3) := by decide +kernel
theorem dX6_easy_53 : decode cX6_easy 53 = .ok (.getfield 202, 3) := by decide +kernel
theorem dX6_easy_56 : decode cX6_easy 56 = .ok (.if_icmp .ge 34, 3) := by decide +kernel
theorem dX6_easy_59 : decode cX6_easy 59 = .ok (.aload_n 0, 1) := by decide +kernel
theorem dX6_easy_60 : decode cX6_easy 60 = .ok (.getfield 26, 3) := by decide +kernel
theorem dX6_easy_63 : decode cX6_easy 63 = .ok (.aload_n 0, 1) := by decide +kernel
theorem dX6_easy_64 : decode cX6_easy 64 = .ok (.getfield 10, 3) := by decide +kernel
theorem dX6_easy_67 : decode cX6_easy 67 = .ok (.iload_n 3, 1) := by decide +kernel
theorem dX6_easy_68 : decode cX6_easy 68 = .ok (.aload_n 0, 1) := by decide +kernel
theorem dX6_easy_69 : decode cX6_easy 69 = .ok (.getfield 30, 3) := by decide +kernel
theorem dX6_easy_72 : decode cX6_easy 72 = .ok (.iconst 0, 1) := by decide +kernel
theorem dX6_easy_73 : decode cX6_easy 73 = .ok (.iaload, 1) := by decide +kernel
theorem dX6_easy_74 : decode cX6_easy 74 = .ok (.invokevirtual 184, 3) := by decide +kernel
theorem dX6_easy_77 : decode cX6_easy 77 = .ok (.iload_n 1, 1) := by decide +kernel
theorem dX6_easy_78 : decode cX6_easy 78 = .ok (.if_icmp .ne 6, 3) := by decide +kernel
theorem dX6_easy_81 : decode cX6_easy 81 = .ok (.iinc 2 1, 3) := by decide +kernel
theorem dX6_easy_84 : decode cX6_easy 84 = .ok (.iinc 3 1, 3) := by decide +kernel
theorem dX6_easy_87 : decode cX6_easy 87 = .ok (.goto (-39), 3) := by decide +kernel
theorem dX6_easy_90 : decode cX6_easy 90 = .ok (.iload_n 2, 1) := by decide +kernel
theorem dX6_easy_91 : decode cX6_easy 91 = .ok (.ireturn, 1) := by decide +kernel
theorem dX6_stays_0 : decode cX6_stays 0 = .ok (.aload_n 0, 1) := by decide +kernel
theorem dX6_stays_1 : decode cX6_stays 1 = .ok (.iload_n 1, 1) := by decide +kernel
theorem dX6_stays_2 : decode cX6_stays 2 = .ok (.invokevirtual 117, 3) := by decide +kernel
theorem dX6_stays_5 : decode cX6_stays 5 = .ok (.ifCond .eq 11, 3) := by decide +kernel
theorem dX6_stays_8 : decode cX6_stays 8 = .ok (.aload_n 0, 1) := by decide +kernel
theorem dX6_stays_9 : decode cX6_stays 9 = .ok (.iload_n 2, 1) := by decide +kernel
theorem dX6_stays_10 : decode cX6_stays 10 = .ok (.invokevirtual 137, 3) := by decide +kernel
theorem dX6_stays_13 : decode cX6_stays 13 = .ok (.ifCond .ne 5, 3) := by decide +kernel
theorem dX6_stays_16 : decode cX6_stays 16 = .ok (.iconst (-1), 1) := by decide +kernel
theorem dX6_stays_17 : decode cX6_stays 17 = .ok (.ireturn, 1) := by decide +kernel
theorem dX6_stays_18 : decode cX6_stays 18 = .ok (.aload_n 0, 1) := by decide +kernel
theorem dX6_stays_19 : decode cX6_stays 19 = .ok (.getfield 58, 3) := by decide +kernel
theorem dX6_stays_22 : decode cX6_stays 22 = .ok (.aload_n 0, 1) := by decide +kernel
theorem dX6_stays_23 : decode cX6_stays 23 = .ok (.getfield 10, 3) := by decide +kernel
theorem dX6_stays_26 : decode cX6_stays 26 = .ok (.invokevirtual 109, 3) := by decide +kernel
theorem dX6_stays_29 : decode cX6_stays 29 = .ok (.aload_n 0, 1) := by decide +kernel
theorem dX6_stays_30 : decode cX6_stays 30 = .ok (.getfield 61, 3) := by decide +kernel
theorem dX6_stays_33 : decode cX6_stays 33 = .ok (.aload_n 0, 1) := by decide +kernel
theorem dX6_stays_34 : decode cX6_stays 34 = .ok (.getfield 58, 3) := by decide +kernel
theorem dX6_stays_37 : decode cX6_stays 37 = .ok (.aload_n 0, 1) := by decide +kernel
theorem dX6_stays_38 : decode cX6_stays 38 = .ok (.getfield 58, 3) := by decide +kernel
theorem dX6_stays_41 : decode cX6_stays 41 = .ok (.getfield 149, 3) := by decide +kernel
theorem dX6_stays_44 : decode cX6_stays 44 = .ok (.invokevirtual 84, 3) := by decide +kernel
theorem dX6_stays_47 : decode cX6_stays 47 = .ok (.iconst 0, 1) := by decide +kernel
theorem dX6_stays_48 : decode cX6_stays 48 = .ok (.istore_n 3, 1) := by decide +kernel
theorem dX6_stays_49 : decode cX6_stays 49 = .ok (.iload_n 3, 1) := by decide +kernel
theorem dX6_stays_50 : decode cX6_stays 50 = .ok (.bipush 9, 2) := by decide +kernel
theorem dX6_stays_52 : decode cX6_stays 52 = .ok (.if_icmp .gt 43, 3) := by decide +kernel
theorem dX6_stays_55 : decode cX6_stays 55 = .ok (.aload_n 0, 1) := by decide +kernel
theorem dX6_stays_56 : decode cX6_stays 56 = .ok (.getfield 58, 3) := by decide +kernel
theorem dX6_stays_59 : decode cX6_stays 59 = .ok (.getfield 146, 3) := by decide +kernel
theorem dX6_stays_62 : decode cX6_stays 62 = .ok (.iload_n 2, 1) := by decide +kernel
theorem dX6_stays_63 : decode cX6_stays 63 = .ok (.iload_n 3, 1) := by decide +kernel
theorem dX6_stays_64 : decode cX6_stays 64 = .ok (.iastore, 1) := by decide +kernel
theorem dX6_stays_65 : decode cX6_stays 65 = .ok (.aload_n 0, 1) := by decide +kernel
theorem dX6_stays_66 : decode cX6_stays 66 = .ok (.getfield 61, 3) := by decide +kernel
theorem dX6_stays_69 : decode cX6_stays 69 = .ok (.aload_n 0, 1) := by decide +kernel
theorem dX6_stays_70 : decode cX6_stays 70 = .ok (.getfield 58, 3) := by decide +kernel
theorem dX6_stays_73 : decode cX6_stays 73 = .ok (.iload_n 1, 1) := by decide +kernel
theorem dX6_stays_74 : decode cX6_stays 74 = .ok (.aload_n 0, 1) := by decide +kernel
theorem dX6_stays_75 : decode cX6_stays 75 = .ok (.getfield 30, 3) := by decide +kernel
theorem dX6_stays_78 : decode cX6_stays 78 = .ok (.iconst 0, 1) := by decide +kernel
theorem dX6_stays_79 : decode cX6_stays 79 = .ok (.iaload, 1) := by decide +kernel
theorem dX6_stays_80 : decode cX6_stays 80 = .ok (.invokevirtual 184, 3) := by decide +kernel
theorem dX6_stays_83 : decode cX6_stays 83 = .ok (.iload_n 2, 1) := by decide +kernel
theorem dX6_stays_84 : decode cX6_stays 84 = .ok (.if_icmp .ne 5, 3) := by decide +kernel
theorem dX6_stays_87 : decode cX6_stays 87 = .ok (.iload_n 3, 1) := by decide +kernel
theorem dX6_stays_88 : decode cX6_stays 88 = .ok (.ireturn, 1) := by decide +kernel
theorem dX6_stays_89 : decode cX6_stays 89 = .ok (.iinc 3 1, 3) := by decide +kernel
theorem dX6_stays_92 : decode cX6_stays 92 = .ok (.goto (-43), 3) := by decide +kernel
theorem dX6_stays_95 : decode cX6_stays 95 = .ok (.bipush (-9), 2) := by decide +kernel
theorem dX6_stays_97 : decode cX6_stays 97 = .ok (.ireturn, 1) := by decide +kernel
theorem dX6_rests_0 : decode cX6_rests 0 = .ok (.iload_n 1, 1) := by decide +kernel
theorem dX6_rests_1 : decode cX6_rests 1 = .ok (.iconst 1, 1) := by decide +kernel
theorem dX6_rests_2 : decode cX6_rests 2 = .ok (.sipush 999, 3) := by decide +kernel
theorem dX6_rests_5 : decode cX6_rests 5 = .ok (.invokestatic 88, 3) := by decide +kernel
theorem dX6_rests_8 : decode cX6_rests 8 = .ok (.ifCond .eq 22, 3) := by decide +kernel
theorem dX6_rests_11 : decode cX6_rests 11 = .ok (.iload_n 2, 1) := by decide +kernel
theorem dX6_rests_12 : decode cX6_rests 12 = .ok (.iconst 0, 1) := by decide +kernel
theorem dX6_rests_13 : decode cX6_rests 13 = .ok (.bipush 99, 2) := by decide +kernel
theorem dX6_rests_15 : decode cX6_rests 15 = .ok (.invokestatic 88, 3) := by decide +kernel
theorem dX6_rests_18 : decode cX6_rests 18 = .ok (.ifCond .eq 12, 3) := by decide +kernel
theorem dX6_rests_21 : decode cX6_rests 21 = .ok (.iload_n 3, 1) := by decide +kernel
theorem dX6_rests_22 : decode cX6_rests 22 = .ok (.iconst 0, 1) := by decide +kernel
theorem dX6_rests_23 : decode cX6_rests 23 = .ok (.iconst 1, 1) := by decide +kernel
theorem dX6_rests_24 : decode cX6_rests 24 = .ok (.invokestatic 88, 3) := by decide +kernel
theorem dX6_rests_27 : decode cX6_rests 27 = .ok (.ifCond .ne 5, 3) := by decide +kernel
theorem dX6_rests_30 : decode cX6_rests 30 = .ok (.iconst (-1), 1) := by decide +kernel
theorem dX6_rests_31 : decode cX6_rests 31 = .ok (.ireturn, 1) := by decide +kernel
theorem dX6_rests_32 : decode cX6_rests 32 = .ok (.aload_n 0, 1) := by decide +kernel
theorem dX6_rests_33 : decode cX6_rests 33 = .ok (.getfield 10, 3) := by decide +kernel
theorem dX6_rests_36 : decode cX6_rests 36 = .ok (.getfield 223, 3) := by decide +kernel
theorem dX6_rests_39 : decode cX6_rests 39 = .ok (.ifCond .ne 6, 3) := by decide +kernel
